/-! the reference's trip -/
def wtsS (σ : St) (fr dg : Int) : Int := if feN σ (dg - σ 0 1) 12 fr = -1 then -1 else feN σ (dg - σ 0 1) 12 fr - fr
theorem wtsS_eqp {σ τ : St} (h : Eqp τ σ) (fr dg : Int) : wtsS τ fr dg = wtsS σ fr dg := by
  unfold wtsS
  simp only [feN_eqp h, q0 h]
theorem wts_rng {σ : St} {fr dg : Int} : -1 ≤ wtsS σ fr dg ∧ wtsS σ fr dg ≤ 12 := by
  have g := feN_rng (σ := σ) (h := dg - σ 0 1) 12 fr
  unfold wtsS
  split <;> omega
theorem hh_M {σ : St} {ld aw dg : Int} (hf0 : 0 ≤ σ 18 7) (haw : 0 ≤ aw) (hdg : dg = if ld = 0 then σ 0 2 else σ 0 3) : (wtsS σ (σ 18 7 + 1) dg < 0 → hhS σ ld aw = -1) ∧ (0 ≤ wtsS σ (σ 18 7 + 1) dg →
    (wtsS σ (σ 18 7 + 1 + wtsS σ (σ 18 7 + 1) dg + aw) (σ 0 2) < 0 → hhS σ ld aw = -1) ∧ (0 ≤ wtsS σ (σ 18 7 + 1 + wtsS σ (σ 18 7 + 1) dg + aw) (σ 0 2) → hhS σ ld aw = σ 18 7 + (1 + wtsS σ (σ 18 7 + 1) dg + wtsS σ (σ 18 7 + 1 + wtsS σ (σ 18 7 + 1) dg + aw) (σ 0 2) + 2 * aw))) := by
  unfold hhS
  rw [← hdg]
  have g1 := feN_rng (σ := σ) (h := dg - σ 0 1) 12 (σ 18 7 + 1)
  by_cases c1 : feN σ (dg - σ 0 1) 12 (σ 18 7 + 1) = -1
  · rw [if_pos c1]
    have e : wtsS σ (σ 18 7 + 1) dg = -1 := if_pos c1
    rw [e]
    exact ⟨fun _ => rfl, fun h => absurd h (by decide)⟩
  · rw [if_neg c1]
    have e : wtsS σ (σ 18 7 + 1) dg = feN σ (dg - σ 0 1) 12 (σ 18 7 + 1) - (σ 18 7 + 1) := if_neg c1
    rw [e, show σ 18 7 + 1 + (feN σ (dg - σ 0 1) 12 (σ 18 7 + 1) - (σ 18 7 + 1)) + aw = feN σ (dg - σ 0 1) 12 (σ 18 7 + 1) + aw by omega]
    refine ⟨fun h => absurd h (by omega), fun _ => ?_⟩
    have g2 := feN_rng (σ := σ) (h := σ 0 2 - σ 0 1) 12 (feN σ (dg - σ 0 1) 12 (σ 18 7 + 1) + aw)
    by_cases c2 : feN σ (σ 0 2 - σ 0 1) 12 (feN σ (dg - σ 0 1) 12 (σ 18 7 + 1) + aw) = -1
    · rw [if_pos c2]
      have e2 : wtsS σ (feN σ (dg - σ 0 1) 12 (σ 18 7 + 1) + aw) (σ 0 2) = -1 := if_pos c2
      rw [e2]
      exact ⟨fun _ => rfl, fun h => absurd h (by decide)⟩
    · rw [if_neg c2]
      have e2 : wtsS σ (feN σ (dg - σ 0 1) 12 (σ 18 7 + 1) + aw) (σ 0 2) = feN σ (σ 0 2 - σ 0 1) 12 (feN σ (dg - σ 0 1) 12 (σ 18 7 + 1) + aw) - (feN σ (dg - σ 0 1) 12 (σ 18 7 + 1) + aw) := if_neg c2
      rw [e2]
      exact ⟨fun h => absurd h (by omega), fun _ => by omega⟩
/-- the reference's planning, beside the class's -/
def MR (σ : St) (row : Int) (q τ : St) : Prop := Eqp τ σ ∧ (∀ x, 0 ≤ x → x < σ 18 0 → τ 6 (row * σ 18 0 + x) = q 9 x) ∧ (∀ c, 0 ≤ c → c < σ 18 0 * σ 18 1 → (c < row * σ 18 0 ∨ row * σ 18 0 + σ 18 0 ≤ c) → τ 6 c = 0) ∧ τ 18 12 = q 18 12
theorem mr_0 {σ : St} {row a n : Int} (hd : Dim σ) (hr : 0 ≤ row ∧ row < σ 18 1) (hn : n = σ 18 0 * σ 18 1) : MR σ row (p0S σ row a) (st (fl σ 6 0 n) 18 12 (row * σ 18 0 + a)) := by
  have hm := hd.2.1
  refine ⟨(Eqp.rf.fl (fun _ => npub6)).st (npubS (by decide)), fun x h0 h => ?_, fun c h0 h _ => ?_, rfl⟩
  · have hci := cell_in hr.1 hr.2 h0 h
    show (if 6 = 6 ∧ 0 ≤ row * σ 18 0 + x ∧ row * σ 18 0 + x < n then (0 : Int) else _) = (if 9 = 9 ∧ 0 ≤ x ∧ x < 12 then (0 : Int) else _)
    rw [if_pos (by omega), if_pos (by omega)]
  · show (if 6 = 6 ∧ 0 ≤ c ∧ c < n then (0 : Int) else _) = 0
    rw [if_pos (by omega)]
theorem mr_yes {σ q τ : St} {row x ov : Int} (hB : Bd σ) (h : MR σ row q τ) (hq : Eqp q σ) (hq10 : q 18 10 = row) (hq9 : 0 ≤ q 9 x) (hr : 0 ≤ row ∧ row < σ 18 1) (hx : 0 ≤ x ∧ x < σ 18 0) (hc : 0 < σ 2 (row * σ 18 0 + x) ∧ σ 1 (row * σ 18 0 + x) + q 9 x + 1 ≤ σ 2 (row * σ 18 0 + x) + ov) :
    MR σ row (pcS q ov x) (st (st τ 6 (row * σ 18 0 + x) (τ 6 (row * σ 18 0 + x) + 1)) 18 12 (row * σ 18 0 + x)) ∧ pcS q ov x 18 11 = q 18 11 + 1 := by
  obtain ⟨h1, h2, h3, h4⟩ := h
  have hci := cell_in hr.1 hr.2 hx.1 hx.2
  have e0 : q 18 0 = σ 18 0 := qs hq 0 (by decide)
  have hlt : q 9 x < rmS q ov x := by
    unfold rmS
    rw [hq10, e0, q1 hq, q2 hq, if_neg (by omega)]
    omega
  have e : pcS q ov x = st (st (st q 9 x (q 9 x + 1)) 18 11 (q 18 11 + 1)) 18 12 (q 18 10 * q 18 0 + x) := if_pos hlt
  rw [e]
  refine ⟨⟨(h1.st npub6).st (npubS (by decide)), fun y hy0 hy => ?_, fun c hc0 hc1 hc2 => ?_, ?_⟩, rfl⟩
  · show (if 6 = 6 ∧ row * σ 18 0 + y = row * σ 18 0 + x then τ 6 (row * σ 18 0 + x) + 1 else τ 6 (row * σ 18 0 + y)) = (if 9 = 9 ∧ y = x then q 9 x + 1 else q 9 y)
    rw [h2 x hx.1 hx.2, h2 y hy0 hy]
    by_cases z : y = x
    · rw [if_pos ⟨rfl, by omega⟩, if_pos ⟨rfl, z⟩]
    · rw [if_neg (by omega), if_neg (fun w => z w.2)]
  · show (if 6 = 6 ∧ c = row * σ 18 0 + x then τ 6 (row * σ 18 0 + x) + 1 else τ 6 c) = 0
    rw [if_neg (by omega)]
    exact h3 c hc0 hc1 hc2
  · show row * σ 18 0 + x = q 18 10 * q 18 0 + x
    rw [hq10, e0]
theorem mr_no {σ q : St} {row x ov : Int} (hq : Eqp q σ) (hq10 : q 18 10 = row) (hq9 : 0 ≤ q 9 x) (hB : Bd σ) (hc : ¬ (0 < σ 2 (row * σ 18 0 + x) ∧ σ 1 (row * σ 18 0 + x) + q 9 x + 1 ≤ σ 2 (row * σ 18 0 + x) + ov)) : pcS q ov x = q := by
  have e0 : q 18 0 = σ 18 0 := qs hq 0 (by decide)
  have b := hB.design (row * σ 18 0 + x)
  refine if_neg ?_
  unfold rmS
  rw [hq10, e0, q1 hq, q2 hq]
  split <;> omega
theorem rnS_stop {σ : St} {a b w ov : Int} (hab : -11 ≤ b - a ∧ b - a ≤ 11) (h : w ≤ σ 18 11) : rnS σ a b w ov = σ := by
  have := absI_rng hab
  exact (rn_stop (σ := σ) (a := a) (s := if a ≤ b then 1 else -1) (w := w) (ov := ov) (n := 0) (k := absI (b - a) + 1) (by omega) (by omega) h).symm
def dgM (σ : St) (n : Int) : St := fun k i => if k = 1 ∧ 0 ≤ i ∧ i < n then σ 1 i + σ 6 i else σ k i
theorem dgM_0 {σ : St} : dgM σ 0 = σ := by
  funext k i
  unfold dgM
  rw [if_neg (by omega)]
theorem dgM_at {σ : St} {n : Int} : dgM σ n 1 n = σ 1 n := by
  unfold dgM
  rw [if_neg (by omega)]
theorem dgM_step {σ : St} {n : Int} (h : 0 ≤ n) : st (dgM σ n) 1 n (dgM σ n 1 n + σ 6 n) = dgM σ (n + 1) := by
  rw [dgM_at]
  funext k i
  unfold st
  by_cases z : k = 1 ∧ i = n
  · rw [if_pos z]; unfold dgM; rw [if_pos (by omega), z.2]
  · rw [if_neg z]; unfold dgM
    by_cases y : k = 1 ∧ 0 ≤ i ∧ i < n
    · rw [if_pos y, if_pos (by omega)]
    · rw [if_neg y, if_neg (by omega)]
theorem co_M {σ P τ : St} {row t s ov1 ld : Int} (hd : Dim σ) (hr : 0 ≤ row ∧ row < σ 18 1) (h : MR σ row P τ) (hP : Eqp P σ) (hP10 : P 18 10 = row) (hov : ov1 = max 0 (t * 4 - P 18 11)) (hld : ld = P 18 11) :
    Eqp (st (st (st (st (st (dgM τ (σ 18 0 * σ 18 1)) 4 (τ 18 12) (τ 4 (τ 18 12) + ov1)) 18 3 (τ 18 3 + ov1)) 18 9 (τ 18 9 + ld)) 10 s (τ 10 s + ld)) 18 8 (τ 18 8 + 1)) (coS P t s) := by
  obtain ⟨h1, h2, h3, h4⟩ := h
  have hE : Eqp τ P := h1.tr hP.sym
  have e0 : P 18 0 = σ 18 0 := qs hP 0 (by decide)
  refine eqp_of (fun i => q0 hE i) (fun i => ?_) (fun i => q2 hE i) (fun i => ?_) (fun i => q5 hE i) (fun i => q7 hE i) (fun i => q8 hE i) (fun i => ?_) (fun i => q11 hE i) (fun i => q12 hE i) (fun i => q13 hE i) (fun i => q14 hE i) (fun i => q15 hE i) (fun i => q16 hE i) (fun i => q17 hE i) (fun i hi => ?_) (fun k hk i => ?_)
  · show (if 1 = 1 ∧ 0 ≤ i ∧ i < σ 18 0 * σ 18 1 then τ 1 i + τ 6 i else τ 1 i) = (if 1 = 1 ∧ P 18 10 * P 18 0 ≤ i ∧ i < P 18 10 * P 18 0 + P 18 0 then P 1 i + P 9 (i - P 18 10 * P 18 0) else P 1 i)
    rw [hP10, e0, q1 hE]
    have hci := cell_in (x := 0) hr.1 hr.2 (by omega) (show 0 < σ 18 0 by have := hd.1; omega)
    by_cases z : row * σ 18 0 ≤ i ∧ i < row * σ 18 0 + σ 18 0
    · have e6 := h2 (i - row * σ 18 0) (by omega) (by omega)
      rw [show row * σ 18 0 + (i - row * σ 18 0) = i by omega] at e6
      rw [if_pos (by omega), if_pos (by omega), e6]
    · rw [if_neg (show ¬ (1 = 1 ∧ row * σ 18 0 ≤ i ∧ i < row * σ 18 0 + σ 18 0) by omega)]
      by_cases y : 0 ≤ i ∧ i < σ 18 0 * σ 18 1
      · rw [if_pos (by omega), h3 i y.1 y.2 (by omega)]; omega
      · rw [if_neg (by omega)]
  · show (if 4 = 4 ∧ i = τ 18 12 then τ 4 (τ 18 12) + ov1 else τ 4 i) = (if 4 = 4 ∧ i = P 18 12 then P 4 (P 18 12) + max 0 (t * 4 - P 18 11) else P 4 i)
    rw [h4, q4 hE, q4 hE, hov]
  · show (if 10 = 10 ∧ i = s then τ 10 s + ld else τ 10 i) = (if 10 = 10 ∧ i = s then P 10 s + P 18 11 else P 10 i)
    rw [q10 hE, q10 hE, hld]
  · show (if 18 = 18 ∧ i = 8 then τ 18 8 + 1 else if 18 = 18 ∧ i = 9 then τ 18 9 + ld else if 18 = 18 ∧ i = 3 then τ 18 3 + ov1 else τ 18 i) = (if 18 = 18 ∧ i = 8 then P 18 8 + 1 else if 18 = 18 ∧ i = 9 then P 18 9 + P 18 11 else if 18 = 18 ∧ i = 3 then P 18 3 + max 0 (t * 4 - P 18 11) else P 18 i)
    rw [qs hE 8 (by decide), qs hE 9 (by decide), qs hE 3 (by decide), qs hE i hi, hov, hld]
  · have g : ∀ j, j < 19 → k ≠ j := fun j hj => by omega
    rw [st_nk (g 18 (by decide)), st_nk (g 10 (by decide)), st_nk (g 18 (by decide)), st_nk (g 18 (by decide)), st_nk (g 4 (by decide)), co_at (g 1 (by decide)) (g 4 (by decide)) (g 10 (by decide)) (g 18 (by decide))]
    have e : dgM τ (σ 18 0 * σ 18 1) k i = τ k i := if_neg (fun z => g 1 (by decide) z.1)
    rw [e]
    exact hE k i (pub_k (g 3 (by decide)) (g 6 (by decide)) (g 9 (by decide)) (g 18 (by decide)))
def rm_X10_waits : Room := { frames := 0, cells := 0, slots := 0, locals := 0 }
set_option maxHeartbeats 4000000 in
set_option maxRecDepth 100000 in
theorem c_X10_waits {l : Launch} {D : va_G} {cI cZ : ClassId} {ad : Nat → Nat} {σ : St} {fr dg : Int} (hD : ∀ τ, va_D (AD ad 45) (wsM cI cZ ad τ)) (hB : Bd σ) (hfr : 0 ≤ fr ∧ fr ≤ 10000) (hdr : 0 ≤ dg ∧ dg ≤ 400) : JMi l yX10_waits cX10_waits 4 (some .int) rm_X10_waits D [(cI, .int), (cZ, .boolean)] (AD ad 45) (wsM cI cZ ad) [.ref (ad 0), .int (I fr), .int (I dg)] σ (fun r τ => r = (wtsS σ fr dg) ∧ τ = σ) := by
  refine JMi.of RX10 (by decide +kernel) rfl (Nat.le_of_ble_eq_true rfl) hD ?_
  intro p e s m args below meth c Q J fin H ls hw hl
  generalize ([] : List Loc) = locs at hw ⊢
  have hl : lv_has ls 4 [(0, .ref (ad 0)), (1, .int (I fr)), (2, .int (I dg))] := hl
  have bs := hB.rule 1 (by decide) (by decide)
  refine j_iconst J (0) dX10_waits_0 ?_
  refine j_istore_n J (lv' := [(3, .int (I 0)), (0, .ref (ad 0)), (1, .int (I fr)), (2, .int (I dg))]) hl dX10_waits_1 rfl (by decide) rfl (fun ls hl => ?_)
  have L2 : ∀ n : Nat, ∀ (nn : Int), (0 ≤ nn ∧ nn ≤ 12) → (feN σ (dg - σ 0 1) 12 fr = feN σ (dg - σ 0 1) (fr + 12 - (fr + nn)).toNat (fr + nn)) → ((12 - nn).toNat) < n → ∀ (H : Heap) (locs : List Loc) (ls : Array Slot), jW D (AD ad 45) s.heap (wsM cI cZ ad σ) H locs → lv_has ls 4 [(3, .int (I nn)), (0, .ref (ad 0)), (1, .int (I fr)), (2, .int (I dg))] → W p l e rm_X10_waits s m args below meth c H locs 0 0 Q (F0 m 2 ls []) := by
    intro n
    induction n with
    | zero =>
      intro nn hn0 hfe hm H locs ls hw hl
      exact absurd hm (Nat.not_lt_zero _)
    | succ n ih =>
      intro nn hn0 hfe hm H locs ls hw hl
      have ih2 := ih
      refine j_iload_n J dX10_waits_2 rfl (lv_at hl 0 rfl) ?_
      refine j_bipush J (12) dX10_waits_3 (by decide) ?_
      refine j_icmp_ge J 36 (show rg nn by unfold rg; omega) (by unfold rg; omega) dX10_waits_5 (by decide) (fun (h_1 : 12 ≤ nn) => ?_) (fun (h_1 : nn < 12) => ?_)
      · refine j_iload_n J dX10_waits_36 rfl (lv_at hl 0 rfl) ?_
        refine j_bipush J (12) dX10_waits_37 (by decide) ?_
        refine j_icmp_ne J 46 (show rg nn by unfold rg; omega) (by unfold rg; omega) dX10_waits_39 (by decide) (fun (h_2 : ¬ nn = 12) => ?_) (fun (h_2 : nn = 12) => ?_)
        · refine j_iload_n J dX10_waits_46 rfl (lv_at hl 0 rfl) ?_
          exact fin _ (σ) _ _ _ _ dX10_waits_47 rfl (⟨by first | (exfalso; omega) | (unfold wtsS; rw [hfe, show (fr + 12 - (fr + nn)).toNat = 0 by omega]; rfl) | (unfold wtsS; rw [hfe, feN_hit (by omega) (by omega), if_neg (by omega)]; omega), rfl⟩) hw
        · refine j_iconst J (-1) dX10_waits_42 ?_
          refine j_goto J 47 dX10_waits_43 (by decide) ?_
          exact fin _ (σ) _ _ _ _ dX10_waits_47 rfl (⟨by first | (exfalso; omega) | (unfold wtsS; rw [hfe, show (fr + 12 - (fr + nn)).toNat = 0 by omega]; rfl) | (unfold wtsS; rw [hfe, feN_hit (by omega) (by omega), if_neg (by omega)]; omega), rfl⟩) hw
      · have bt := hB.tide ((fr + nn) % 12)
        refine j_aload_n J dX10_waits_8 rfl (lv_at hl 1 rfl) ?_
        refine mg_10_8 J hw lk_X10_35 dX10_waits_9 ?_
        refine j_iload_n J dX10_waits_12 rfl (lv_at hl 2 rfl) ?_
        refine j_iload_n J dX10_waits_13 rfl (lv_at hl 0 rfl) ?_
        refine j_iadd J dX10_waits_14 ?_
        refine j_bipush J (12) dX10_waits_15 (by decide) ?_
        refine j_irem J (show 0 ≤ fr + nn ∧ (fr + nn) < 2147483648 ∧ 0 < 12 ∧ 12 < 2147483648 from by omega) dX10_waits_17 ?_
        refine ma_ld_7 J hw (show 0 ≤ (fr + nn) % 12 ∧ ((fr + nn) % 12) < ((12 : Nat) : Int) from by omega) dX10_waits_18 ?_
        refine j_aload_n J dX10_waits_19 rfl (lv_at hl 1 rfl) ?_
        refine mg_10_7 J hw lk_X10_32 dX10_waits_20 ?_
        refine j_iconst J (1) dX10_waits_23 ?_
        refine ma_ld_0 J hw (show 0 ≤ 1 ∧ 1 < ((5 : Nat) : Int) from by omega) dX10_waits_24 ?_
        refine j_iadd J dX10_waits_25 ?_
        refine j_iload_n J dX10_waits_26 rfl (lv_at hl 3 rfl) ?_
        refine j_icmp_ge J 36 (show rg ((σ 7 ((fr + nn) % 12)) + (σ 0 1)) by unfold rg; omega) (show rg dg by unfold rg; omega) dX10_waits_27 (by decide) (fun (h_3 : dg ≤ ((σ 7 ((fr + nn) % 12)) + (σ 0 1))) => ?_) (fun (h_3 : ((σ 7 ((fr + nn) % 12)) + (σ 0 1)) < dg) => ?_)
        · refine j_iload_n J dX10_waits_36 rfl (lv_at hl 0 rfl) ?_
          refine j_bipush J (12) dX10_waits_37 (by decide) ?_
          refine j_icmp_ne J 46 (show rg nn by unfold rg; omega) (by unfold rg; omega) dX10_waits_39 (by decide) (fun (h_4 : ¬ nn = 12) => ?_) (fun (h_4 : nn = 12) => ?_)
          · refine j_iload_n J dX10_waits_46 rfl (lv_at hl 0 rfl) ?_
            exact fin _ (σ) _ _ _ _ dX10_waits_47 rfl (⟨by first | (exfalso; omega) | (unfold wtsS; rw [hfe, show (fr + 12 - (fr + nn)).toNat = 0 by omega]; rfl) | (unfold wtsS; rw [hfe, feN_hit (by omega) (by omega), if_neg (by omega)]; omega), rfl⟩) hw
          · refine j_iconst J (-1) dX10_waits_42 ?_
            refine j_goto J 47 dX10_waits_43 (by decide) ?_
            exact fin _ (σ) _ _ _ _ dX10_waits_47 rfl (⟨by first | (exfalso; omega) | (unfold wtsS; rw [hfe, show (fr + 12 - (fr + nn)).toNat = 0 by omega]; rfl) | (unfold wtsS; rw [hfe, feN_hit (by omega) (by omega), if_neg (by omega)]; omega), rfl⟩) hw
        · refine j_iinc J (lv' := [(3, .int (I (nn + 1))), (0, .ref (ad 0)), (1, .int (I fr)), (2, .int (I dg))]) (k := 0) hl dX10_waits_30 rfl (by decide) rfl (fun ls hl => ?_)
          refine j_goto J 2 dX10_waits_33 (by decide) ?_
          exact ih2 (nn + 1) (by omega) (by rw [hfe, feN_step (by omega) (by omega), show fr + (nn + 1) = fr + nn + 1 by omega]; exact congrArg (fun z => feN σ (dg - σ 0 1) z (fr + nn + 1)) (by omega)) (by omega) _ _ _ hw (lv_sub hl [0, 1, 2, 3] rfl)
  exact L2 _ 0 (by omega) (by rw [show (fr + 12 - (fr + 0)).toNat = 12 by omega, show fr + 0 = fr by omega]) (Nat.lt_succ_self _) _ _ _ hw (lv_sub hl [0, 1, 2, 3] rfl)
theorem k_X10_waits {p : Program} {l : Launch} {e : Env} {R : Room} {s : State} {m : MethodId} {args : Array Value} {below : List Frame} {meth : Method} {c : Code} {H : Heap} {locs : List Loc} {Q : State → Prop} {cc : ByteArray} {pc : Nat} {ls : Array Slot} {rest : List Value} {nL : Nat} {own : String} {D : va_G} {σ : St} {cI cZ : ClassId} {ad : Nat → Nat} {index : Nat} {fr dg : Int} (hD : ∀ τ, va_D (AD ad 45) (wsM cI cZ ad τ)) (hB : Bd σ) (hfr : 0 ≤ fr ∧ fr ≤ 10000) (hdr : 0 ≤ dg ∧ dg ≤ 400) (J : Jx p m c cc nL s args own D [(cI, .int), (cZ, .boolean)] (AD ad 45) (wsM cI cZ ad)) (hw : jW D (AD ad 45) s.heap (wsM cI cZ ad σ) H locs) (hsz : ls.size = nL) (hlk : Cond.methodLink own index yX10_waits ∈ TBw) (hR : 1 ≤ R.frames ∧ 23 ≤ R.locals) (hroom : (rest.map fun v => v.category).sum ≤ 8) (hdg : decode cc pc = .ok (.invokevirtual index, 3)) (kk : ∀ (H1 : Heap) (locs1 : List Loc), jW D (AD ad 45) s.heap (wsM cI cZ ad σ) H1 locs1 → W p l e R s m args below meth c H1 locs1 0 0 Q (F0 m (pc + 3) ls (.int (I (wtsS σ fr dg)) :: rest))) : W p l e R s m args below meth c H locs 0 0 Q (F0 m pc ls (.int (I dg) :: .int (I fr) :: .ref (ad 0) :: rest)) := 
  j_callVi J hw (c_X10_waits  hD hB hfr hdr) hlk in_X10_waits se_X10_waits ini_X10 co_X10_waits (n := 2) (by decide +kernel) ⟨rfl, rfl, hR.1, hR.2⟩ (j := 0) (ci := 10) rfl rfl rfl rfl hroom hsz ⟨Nat.zero_le _, Nat.zero_le _⟩ rfl hdg (fun r τ H1 locs1 hp hw1 => by obtain ⟨rfl, rfl⟩ := hp; exact kk H1 locs1 hw1)
def rm_X10_digs : Room := { frames := 0, cells := 0, slots := 0, locals := 0 }
set_option maxHeartbeats 4000000 in
set_option maxRecDepth 100000 in
theorem c_X10_digs {l : Launch} {D : va_G} {cI cZ : ClassId} {ad : Nat → Nat} {σ : St} {row a b w : Int} (hD : ∀ τ, va_D (AD ad 45) (wsM cI cZ ad τ)) (hB : Bd σ) (hr : 0 ≤ row ∧ row < σ 18 1) (ha : 0 ≤ a ∧ a < σ 18 0) (hb : 0 ≤ b ∧ b < σ 18 0) (hw0 : 0 ≤ w ∧ w ≤ 200) : JMi l yX10_digs cX10_digs 11 (some .int) rm_X10_digs D [(cI, .int), (cZ, .boolean)] (AD ad 45) (wsM cI cZ ad) [.ref (ad 0), .int (I row), .int (I a), .int (I b), .int (I w)] σ (fun r τ => r = rd (p0S σ row a) a b w (σ 0 0) 200 18 11 ∧ MR σ row (rd (p0S σ row a) a b w (σ 0 0) 200) τ) := by
  refine JMi.of RX10 (by decide +kernel) rfl (Nat.le_of_ble_eq_true rfl) hD ?_
  intro p e s m args below meth c Q J fin H ls hw hl
  generalize ([] : List Loc) = locs at hw ⊢
  have hl : lv_has ls 11 [(0, .ref (ad 0)), (1, .int (I row)), (2, .int (I a)), (3, .int (I b)), (4, .int (I w))] := hl
  have hd : Dim _ := hB.dim
  have hd1 := hd.1; have hd2 := hd.2.1; have hd3 := hd.2.2.1; have hd4 := hd.2.2.2; have hm := hd.mul
  have hov := hB.over
  have hab := absI_rng (z := b - a) (by omega)
  have hab2 := absI_or (b - a)
  refine j_iconst J (0) dX10_digs_0 ?_
  refine j_istore J (lv' := [(5, .int (I 0)), (0, .ref (ad 0)), (1, .int (I row)), (2, .int (I a)), (3, .int (I b)), (4, .int (I w))]) hl dX10_digs_1 (by decide) rfl (fun ls hl => ?_)
  have L3 : ∀ n : Nat, ∀ (z : Int), (0 ≤ z ∧ z ≤ σ 18 0 * σ 18 1) → ((σ 18 0 * σ 18 1 - z).toNat) < n → ∀ (H : Heap) (locs : List Loc) (ls : Array Slot), jW D (AD ad 45) s.heap (wsM cI cZ ad (fl σ 6 0 z)) H locs → lv_has ls 11 [(5, .int (I z)), (0, .ref (ad 0)), (1, .int (I row)), (2, .int (I a)), (3, .int (I b)), (4, .int (I w))] → W p l e rm_X10_digs s m args below meth c H locs 0 0 Q (F0 m 3 ls []) := by
    intro n
    induction n with
    | zero =>
      intro z hz0 hm H locs ls hw hl
      exact absurd hm (Nat.not_lt_zero _)
    | succ n ih =>
      intro z hz0 hm H locs ls hw hl
      have ih3 := ih
      refine j_iload J dX10_digs_3 (lv_at hl 0 rfl) ?_
      refine j_aload_n J dX10_digs_5 rfl (lv_at hl 1 rfl) ?_
      refine mg_10_0 J hw lk_X10_7 dX10_digs_6 ?_
      refine j_aload_n J dX10_digs_9 rfl (lv_at hl 1 rfl) ?_
      refine mg_10_1 J hw lk_X10_13 dX10_digs_10 ?_
      refine j_imul J dX10_digs_13 ?_
      refine j_icmp_ge J 31 (show rg z by unfold rg; omega) (show rg ((σ 18 0) * (σ 18 1)) by unfold rg; omega) dX10_digs_14 (by decide) (fun (h_1 : ((σ 18 0) * (σ 18 1)) ≤ z) => ?_) (fun (h_1 : z < ((σ 18 0) * (σ 18 1))) => ?_)
      · refine j_aload_n J dX10_digs_31 rfl (lv_at hl 1 rfl) ?_
        refine j_iload_n J dX10_digs_32 rfl (lv_at hl 2 rfl) ?_
        refine j_aload_n J dX10_digs_33 rfl (lv_at hl 1 rfl) ?_
        refine mg_10_0 J hw lk_X10_7 dX10_digs_34 ?_
        refine j_imul J dX10_digs_37 ?_
        refine j_iload_n J dX10_digs_38 rfl (lv_at hl 3 rfl) ?_
        refine j_iadd J dX10_digs_39 ?_
        refine ms_10_26 J hw lk_X10_118 dX10_digs_40 (fun H locs hw => ?_)
        refine j_iconst J (0) dX10_digs_43 ?_
        refine j_istore J (lv' := [(5, .int (I 0)), (0, .ref (ad 0)), (1, .int (I row)), (2, .int (I a)), (3, .int (I b)), (4, .int (I w))]) hl dX10_digs_44 (by decide) rfl (fun ls hl => ?_)
        refine j_iload_n J dX10_digs_46 rfl (lv_at hl 3 rfl) ?_
        refine j_iload_n J dX10_digs_47 rfl (lv_at hl 4 rfl) ?_
        refine j_icmp_gt J 55 (show rg a by unfold rg; omega) (show rg b by unfold rg; omega) dX10_digs_48 (by decide) (fun (h_2 : b < a) => ?_) (fun (h_2 : a ≤ b) => ?_)
        · refine j_iconst J (-1) dX10_digs_55 ?_
          refine j_istore J (lv' := [(6, .int (I (-1))), (5, .int (I 0)), (0, .ref (ad 0)), (1, .int (I row)), (2, .int (I a)), (3, .int (I b)), (4, .int (I w))]) hl dX10_digs_56 (by decide) rfl (fun ls hl => ?_)
          refine j_iload J dX10_digs_58 (lv_at hl 1 rfl) ?_
          refine j_iload J dX10_digs_60 (lv_at hl 6 rfl) ?_
          refine j_icmp_ge J 69 (by unfold rg; omega) (show rg w by unfold rg; omega) dX10_digs_62 (by decide) (fun (h_3 : w ≤ 0) => ?_) (fun (h_3 : 0 < w) => ?_)
          · refine j_iconst J (0) dX10_digs_69 ?_
            refine j_istore J (lv' := [(7, .int (I 0)), (6, .int (I (-1))), (5, .int (I 0)), (0, .ref (ad 0)), (1, .int (I row)), (2, .int (I a)), (3, .int (I b)), (4, .int (I w))]) hl dX10_digs_70 (by decide) rfl (fun ls hl => ?_)
            have L72 : ∀ n : Nat, ∀ (τ : St) (ld : Int) (on : Int) (r : Int), (0 ≤ r ∧ r ≤ 200) → (MR σ row (rd (p0S σ row a) a b w (σ 0 0) r) τ ∧ ld = rd (p0S σ row a) a b w (σ 0 0) r 18 11) → (on = 0 ∨ on = 1) → (on = 0 → rnS (rd (p0S σ row a) a b w (σ 0 0) r) a b w (σ 0 0) = rd (p0S σ row a) a b w (σ 0 0) r) → (on = 1 → r ≤ ld ∧ ld < w) → ((200 - r).toNat) < n → ∀ (H : Heap) (locs : List Loc) (ls : Array Slot), jW D (AD ad 45) s.heap (wsM cI cZ ad τ) H locs → lv_has ls 11 [(7, .int (I on)), (0, .ref (ad 0)), (1, .int (I row)), (2, .int (I a)), (3, .int (I b)), (4, .int (I w)), (5, .int (I ld)), (6, .int (I (-1)))] → W p l e rm_X10_digs s m args below meth c H locs 0 0 Q (F0 m 72 ls []) := by
              intro n
              induction n with
              | zero =>
                intro τ ld on r hr0 hM0 hon h40 h51 hm H locs ls hw hl
                exact absurd hm (Nat.not_lt_zero _)
              | succ n ih =>
                intro τ ld on r hr0 hM0 hon h40 h51 hm H locs ls hw hl
                have ih72 := ih
                have hf := rd_facts (σ := p0S σ row a) (a := a) (b := b) (w := w) (ov := σ 0 0) (n := r) (hB.eqp p0_eqp) hov hw0.2 (by omega) hr0.1 p0_hp (by show (0 : Int) ≤ 200; decide)
                have hEq := hf.1.tr p0_eqp
                have hBq := hB.eqp hEq
                have hl0 : 0 ≤ rd (p0S σ row a) a b w (σ 0 0) r 18 11 := hf.2.2.2.1
                have hl9 := hf.2.2.2.2
                have hpr := (rnS_facts (a := a) (b := b) (w := w) (ov := σ 0 0) hBq hov hw0.2 (by omega) hf.2.2.1 hf.2.2.2.2).2.2.2.2.2
                refine j_iload J dX10_digs_72 (lv_at hl 0 rfl) ?_
                refine j_if_eq J 209 (show rg on by unfold rg; omega) dX10_digs_74 (by decide) (fun (h_4 : on = 0) => ?_) (fun (h_4 : ¬ on = 0) => ?_)
                · refine j_iload J dX10_digs_209 (lv_at hl 6 rfl) ?_
                  exact fin _ (τ) _ _ _ _ dX10_digs_211 rfl (⟨by rw [hM0.2, rd_stop hr0.1 hr0.2 (h40 (by omega))], by rw [← rd_stop hr0.1 hr0.2 (h40 (by omega))]; exact hM0.1⟩) hw
                · have h5 := h51 (by omega); have hM9 := hM0.2
                  refine j_iload J dX10_digs_77 (lv_at hl 6 rfl) ?_
                  refine j_istore J (lv' := [(8, .int (I ld)), (7, .int (I on)), (0, .ref (ad 0)), (1, .int (I row)), (2, .int (I a)), (3, .int (I b)), (4, .int (I w)), (5, .int (I ld)), (6, .int (I (-1)))]) hl dX10_digs_79 (by decide) rfl (fun ls hl => ?_)
                  refine j_iload_n J dX10_digs_81 rfl (lv_at hl 4 rfl) ?_
                  refine j_istore J (lv' := [(9, .int (I a)), (8, .int (I ld)), (7, .int (I on)), (0, .ref (ad 0)), (1, .int (I row)), (2, .int (I a)), (3, .int (I b)), (4, .int (I w)), (5, .int (I ld)), (6, .int (I (-1)))]) hl dX10_digs_82 (by decide) rfl (fun ls hl => ?_)
                  have L84 : ∀ n : Nat, ∀ (τ : St) (lq : Int) (x : Int) (i : Int), (0 ≤ i ∧ i ≤ absI (b - a) + 1) → (x = a + i * (-1)) → (MR σ row (rn (rd (p0S σ row a) a b w (σ 0 0) r) a (-1) w (σ 0 0) i) τ ∧ lq = rn (rd (p0S σ row a) a b w (σ 0 0) r) a (-1) w (σ 0 0) i 18 11) → ((absI (b - a) + 1 - i).toNat) < n → ∀ (H : Heap) (locs : List Loc) (ls : Array Slot), jW D (AD ad 45) s.heap (wsM cI cZ ad τ) H locs → lv_has ls 11 [(9, .int (I x)), (0, .ref (ad 0)), (1, .int (I row)), (2, .int (I a)), (3, .int (I b)), (4, .int (I w)), (5, .int (I lq)), (6, .int (I (-1))), (8, .int (I ld))] → W p l e rm_X10_digs s m args below meth c H locs 0 0 Q (F0 m 84 ls []) := by
                    intro n
                    induction n with
                    | zero =>
                      intro τ lq x i hi0 hx hM hm H locs ls hw hl
                      exact absurd hm (Nat.not_lt_zero _)
                    | succ n ih =>
                      intro τ lq x i hi0 hx hM hm H locs ls hw hl
                      have ih84 := ih
                      have hfw := rn_facts (σ := rd (p0S σ row a) a b w (σ 0 0) r) (a := a) (s := (-1)) (w := w) (ov := σ 0 0) (n := i) hBq hov hw0.2 hi0.1 hf.2.2.1 hf.2.2.2.2
                      have hqE : Eqp (rn (rd (p0S σ row a) a b w (σ 0 0) r) a ((-1)) w (σ 0 0) i) σ := hfw.1.tr hEq
                      have hq10 : rn (rd (p0S σ row a) a b w (σ 0 0) r) a ((-1)) w (σ 0 0) i 18 10 = row := hfw.2.1.trans hf.2.1
                      have hqs := hfw.2.2.2.1; have hqt := hfw.2.2.2.2.1
                      have d0 : τ 18 0 = σ 18 0 := qs hM.1.1 0 (by decide)
                      have hML := hM.2
                      refine j_iload J dX10_digs_84 (lv_at hl 0 rfl) ?_
                      refine j_iload_n J dX10_digs_86 rfl (lv_at hl 4 rfl) ?_
                      refine j_iload J dX10_digs_87 (lv_at hl 7 rfl) ?_
                      refine j_iadd J dX10_digs_89 ?_
                      refine j_icmp_eq J 185 (show rg x by unfold rg; omega) (show rg (b + (-1)) by unfold rg; omega) dX10_digs_90 (by decide) (fun (h_5 : x = (b + (-1))) => ?_) (fun (h_5 : ¬ x = (b + (-1))) => ?_)
                      · have hfin : rn (rd (p0S σ row a) a b w (σ 0 0) r) a ((-1)) w (σ 0 0) i = rnS (rd (p0S σ row a) a b w (σ 0 0) r) a b w (σ 0 0) := by first | (exfalso; omega) | (unfold rnS; (first | rw [if_pos (show a ≤ b by omega)] | rw [if_neg (show ¬ a ≤ b by omega)]); first | exact rn_stop hi0.1 (by omega) (by rw [← hM.2]; omega) | (rw [show i = absI (b - a) + 1 by omega]))
                        have hfl := congrFun (congrFun hfin 18) 11
                        refine j_iload J dX10_digs_185 (lv_at hl 6 rfl) ?_
                        refine j_iload J dX10_digs_187 (lv_at hl 8 rfl) ?_
                        refine j_icmp_le J 203 (show rg lq by unfold rg; omega) (show rg ld by unfold rg; omega) dX10_digs_189 (by decide) (fun (h_6 : lq ≤ ld) => ?_) (fun (h_6 : ld < lq) => ?_)
                        · refine j_iconst J (0) dX10_digs_203 ?_
                          refine j_istore J (lv' := [(7, .int (I 0)), (9, .int (I x)), (0, .ref (ad 0)), (1, .int (I row)), (2, .int (I a)), (3, .int (I b)), (4, .int (I w)), (5, .int (I lq)), (6, .int (I (-1))), (8, .int (I ld))]) hl dX10_digs_204 (by decide) rfl (fun ls hl => ?_)
                          refine j_goto J 72 dX10_digs_206 (by decide) ?_
                          exact ih72 τ lq 0 (r + 1) (by omega) (by rw [← rd_step hr0.1, ← hfin]; exact hM) (by omega) (by intro hz9; first | (exfalso; omega) | (rw [← rd_step hr0.1]; first | exact rnS_stop (by omega) (by rw [← hfin, ← hM.2]; omega) | (rcases hpr with e | e; (rw [e]; exact e); (exfalso; omega)))) (by intro hz9; omega) (by omega) _ _ _ hw (lv_sub hl [0, 2, 3, 4, 5, 6, 7, 8] rfl)
                        · refine j_iload J dX10_digs_192 (lv_at hl 6 rfl) ?_
                          refine j_iload J dX10_digs_194 (lv_at hl 5 rfl) ?_
                          refine j_icmp_ge J 203 (show rg lq by unfold rg; omega) (show rg w by unfold rg; omega) dX10_digs_196 (by decide) (fun (h_7 : w ≤ lq) => ?_) (fun (h_7 : lq < w) => ?_)
                          · refine j_iconst J (0) dX10_digs_203 ?_
                            refine j_istore J (lv' := [(7, .int (I 0)), (9, .int (I x)), (0, .ref (ad 0)), (1, .int (I row)), (2, .int (I a)), (3, .int (I b)), (4, .int (I w)), (5, .int (I lq)), (6, .int (I (-1))), (8, .int (I ld))]) hl dX10_digs_204 (by decide) rfl (fun ls hl => ?_)
                            refine j_goto J 72 dX10_digs_206 (by decide) ?_
                            exact ih72 τ lq 0 (r + 1) (by omega) (by rw [← rd_step hr0.1, ← hfin]; exact hM) (by omega) (by intro hz9; first | (exfalso; omega) | (rw [← rd_step hr0.1]; first | exact rnS_stop (by omega) (by rw [← hfin, ← hM.2]; omega) | (rcases hpr with e | e; (rw [e]; exact e); (exfalso; omega)))) (by intro hz9; omega) (by omega) _ _ _ hw (lv_sub hl [0, 2, 3, 4, 5, 6, 7, 8] rfl)
                          · refine j_iconst J (1) dX10_digs_199 ?_
                            refine j_goto J 204 dX10_digs_200 (by decide) ?_
                            refine j_istore J (lv' := [(7, .int (I 1)), (9, .int (I x)), (0, .ref (ad 0)), (1, .int (I row)), (2, .int (I a)), (3, .int (I b)), (4, .int (I w)), (5, .int (I lq)), (6, .int (I (-1))), (8, .int (I ld))]) hl dX10_digs_204 (by decide) rfl (fun ls hl => ?_)
                            refine j_goto J 72 dX10_digs_206 (by decide) ?_
                            exact ih72 τ lq 1 (r + 1) (by omega) (by rw [← rd_step hr0.1, ← hfin]; exact hM) (by omega) (by intro hz9; first | (exfalso; omega) | (rw [← rd_step hr0.1]; first | exact rnS_stop (by omega) (by rw [← hfin, ← hM.2]; omega) | (rcases hpr with e | e; (rw [e]; exact e); (exfalso; omega)))) (by intro hz9; omega) (by omega) _ _ _ hw (lv_sub hl [0, 2, 3, 4, 5, 6, 7, 8] rfl)
                      · refine j_iload J dX10_digs_93 (lv_at hl 6 rfl) ?_
                        refine j_iload J dX10_digs_95 (lv_at hl 5 rfl) ?_
                        refine j_icmp_ge J 185 (show rg lq by unfold rg; omega) (show rg w by unfold rg; omega) dX10_digs_97 (by decide) (fun (h_8 : w ≤ lq) => ?_) (fun (h_8 : lq < w) => ?_)
                        · have hfin : rn (rd (p0S σ row a) a b w (σ 0 0) r) a ((-1)) w (σ 0 0) i = rnS (rd (p0S σ row a) a b w (σ 0 0) r) a b w (σ 0 0) := by first | (exfalso; omega) | (unfold rnS; (first | rw [if_pos (show a ≤ b by omega)] | rw [if_neg (show ¬ a ≤ b by omega)]); first | exact rn_stop hi0.1 (by omega) (by rw [← hM.2]; omega) | (rw [show i = absI (b - a) + 1 by omega]))
                          have hfl := congrFun (congrFun hfin 18) 11
                          refine j_iload J dX10_digs_185 (lv_at hl 6 rfl) ?_
                          refine j_iload J dX10_digs_187 (lv_at hl 8 rfl) ?_
                          refine j_icmp_le J 203 (show rg lq by unfold rg; omega) (show rg ld by unfold rg; omega) dX10_digs_189 (by decide) (fun (h_9 : lq ≤ ld) => ?_) (fun (h_9 : ld < lq) => ?_)
                          · refine j_iconst J (0) dX10_digs_203 ?_
                            refine j_istore J (lv' := [(7, .int (I 0)), (9, .int (I x)), (0, .ref (ad 0)), (1, .int (I row)), (2, .int (I a)), (3, .int (I b)), (4, .int (I w)), (5, .int (I lq)), (6, .int (I (-1))), (8, .int (I ld))]) hl dX10_digs_204 (by decide) rfl (fun ls hl => ?_)
                            refine j_goto J 72 dX10_digs_206 (by decide) ?_
                            exact ih72 τ lq 0 (r + 1) (by omega) (by rw [← rd_step hr0.1, ← hfin]; exact hM) (by omega) (by intro hz9; first | (exfalso; omega) | (rw [← rd_step hr0.1]; first | exact rnS_stop (by omega) (by rw [← hfin, ← hM.2]; omega) | (rcases hpr with e | e; (rw [e]; exact e); (exfalso; omega)))) (by intro hz9; omega) (by omega) _ _ _ hw (lv_sub hl [0, 2, 3, 4, 5, 6, 7, 8] rfl)
                          · refine j_iload J dX10_digs_192 (lv_at hl 6 rfl) ?_
                            refine j_iload J dX10_digs_194 (lv_at hl 5 rfl) ?_
                            refine j_icmp_ge J 203 (show rg lq by unfold rg; omega) (show rg w by unfold rg; omega) dX10_digs_196 (by decide) (fun (h_10 : w ≤ lq) => ?_) (fun (h_10 : lq < w) => ?_)
                            · refine j_iconst J (0) dX10_digs_203 ?_
                              refine j_istore J (lv' := [(7, .int (I 0)), (9, .int (I x)), (0, .ref (ad 0)), (1, .int (I row)), (2, .int (I a)), (3, .int (I b)), (4, .int (I w)), (5, .int (I lq)), (6, .int (I (-1))), (8, .int (I ld))]) hl dX10_digs_204 (by decide) rfl (fun ls hl => ?_)
                              refine j_goto J 72 dX10_digs_206 (by decide) ?_
                              exact ih72 τ lq 0 (r + 1) (by omega) (by rw [← rd_step hr0.1, ← hfin]; exact hM) (by omega) (by intro hz9; first | (exfalso; omega) | (rw [← rd_step hr0.1]; first | exact rnS_stop (by omega) (by rw [← hfin, ← hM.2]; omega) | (rcases hpr with e | e; (rw [e]; exact e); (exfalso; omega)))) (by intro hz9; omega) (by omega) _ _ _ hw (lv_sub hl [0, 2, 3, 4, 5, 6, 7, 8] rfl)
                            · refine j_iconst J (1) dX10_digs_199 ?_
                              refine j_goto J 204 dX10_digs_200 (by decide) ?_
                              refine j_istore J (lv' := [(7, .int (I 1)), (9, .int (I x)), (0, .ref (ad 0)), (1, .int (I row)), (2, .int (I a)), (3, .int (I b)), (4, .int (I w)), (5, .int (I lq)), (6, .int (I (-1))), (8, .int (I ld))]) hl dX10_digs_204 (by decide) rfl (fun ls hl => ?_)
                              refine j_goto J 72 dX10_digs_206 (by decide) ?_
                              exact ih72 τ lq 1 (r + 1) (by omega) (by rw [← rd_step hr0.1, ← hfin]; exact hM) (by omega) (by intro hz9; first | (exfalso; omega) | (rw [← rd_step hr0.1]; first | exact rnS_stop (by omega) (by rw [← hfin, ← hM.2]; omega) | (rcases hpr with e | e; (rw [e]; exact e); (exfalso; omega)))) (by intro hz9; omega) (by omega) _ _ _ hw (lv_sub hl [0, 2, 3, 4, 5, 6, 7, 8] rfl)
                        · have hxr : 0 ≤ x ∧ x < σ 18 0 := by omega
                          have hci := cell_in hr.1 hr.2 hxr.1 hxr.2
                          have e2 := q2 hM.1.1 (row * σ 18 0 + x); have e1 := q1 hM.1.1 (row * σ 18 0 + x); have e00 := q0 hM.1.1 0
                          have e6 := hM.1.2.1 x hxr.1 hxr.2
                          have b1 := hB.depth (row * σ 18 0 + x); have b2 := hB.design (row * σ 18 0 + x)
                          have b9 := hfw.2.2.1 x hxr.1 (by omega)
                          refine j_iload_n J dX10_digs_100 rfl (lv_at hl 2 rfl) ?_
                          refine j_aload_n J dX10_digs_101 rfl (lv_at hl 1 rfl) ?_
                          refine mg_10_0 J hw lk_X10_7 dX10_digs_102 ?_
                          refine j_imul J dX10_digs_105 ?_
                          refine j_iload J dX10_digs_106 (lv_at hl 0 rfl) ?_
                          refine j_iadd J dX10_digs_108 ?_
                          rw [d0]
                          refine j_istore J (lv' := [(10, .int (I (row * σ 18 0 + x))), (9, .int (I x)), (0, .ref (ad 0)), (1, .int (I row)), (2, .int (I a)), (3, .int (I b)), (4, .int (I w)), (5, .int (I lq)), (6, .int (I (-1))), (8, .int (I ld))]) hl dX10_digs_109 (by decide) rfl (fun ls hl => ?_)
                          refine j_aload_n J dX10_digs_111 rfl (lv_at hl 2 rfl) ?_
                          refine mg_10_3 J hw lk_X10_20 dX10_digs_112 ?_
                          refine j_iload J dX10_digs_115 (lv_at hl 0 rfl) ?_
                          refine ma_ld_2 J hw (show 0 ≤ row * σ 18 0 + x ∧ (row * σ 18 0 + x) < ((120 : Nat) : Int) from by omega) dX10_digs_117 ?_
                          refine j_if_le J 175 (show rg (τ 2 (row * σ 18 0 + x)) by unfold rg; omega) dX10_digs_118 (by decide) (fun (h_11 : (τ 2 (row * σ 18 0 + x)) ≤ 0) => ?_) (fun (h_11 : 0 < (τ 2 (row * σ 18 0 + x))) => ?_)
                          · refine j_iload J dX10_digs_175 (lv_at hl 1 rfl) ?_
                            refine j_iload J dX10_digs_177 (lv_at hl 8 rfl) ?_
                            refine j_iadd J dX10_digs_179 ?_
                            refine j_istore J (lv' := [(9, .int (I (x + (-1)))), (10, .int (I (row * σ 18 0 + x))), (0, .ref (ad 0)), (1, .int (I row)), (2, .int (I a)), (3, .int (I b)), (4, .int (I w)), (5, .int (I lq)), (6, .int (I (-1))), (8, .int (I ld))]) hl dX10_digs_180 (by decide) rfl (fun ls hl => ?_)
                            refine j_goto J 84 dX10_digs_182 (by decide) ?_
                            exact ih84 τ lq (x + (-1)) (i + 1) (by omega) (by omega) (by rw [← rn_step hi0.1 (by omega), ← hx]; first | exact ⟨hy.1, by rw [hy.2]; omega⟩ | (rw [mr_no hqE hq10 b9.1 hB (by omega)]; exact hM) | (exfalso; omega)) (by omega) _ _ _ hw (lv_sub hl [0, 2, 3, 4, 5, 6, 7, 8, 9] rfl)
                          · refine j_aload_n J dX10_digs_121 rfl (lv_at hl 2 rfl) ?_
                            refine mg_10_2 J hw lk_X10_16 dX10_digs_122 ?_
                            refine j_iload J dX10_digs_125 (lv_at hl 0 rfl) ?_
                            refine ma_ld_1 J hw (show 0 ≤ row * σ 18 0 + x ∧ (row * σ 18 0 + x) < ((120 : Nat) : Int) from by omega) dX10_digs_127 ?_
                            refine j_aload_n J dX10_digs_128 rfl (lv_at hl 2 rfl) ?_
                            refine mg_10_6 J hw lk_X10_29 dX10_digs_129 ?_
                            refine j_iload J dX10_digs_132 (lv_at hl 0 rfl) ?_
                            refine ma_ld_6 J hw (show 0 ≤ row * σ 18 0 + x ∧ (row * σ 18 0 + x) < ((120 : Nat) : Int) from by omega) dX10_digs_134 ?_
                            refine j_iadd J dX10_digs_135 ?_
                            refine j_iconst J (1) dX10_digs_136 ?_
                            refine j_iadd J dX10_digs_137 ?_
                            refine j_aload_n J dX10_digs_138 rfl (lv_at hl 2 rfl) ?_
                            refine mg_10_3 J hw lk_X10_20 dX10_digs_139 ?_
                            refine j_iload J dX10_digs_142 (lv_at hl 0 rfl) ?_
                            refine ma_ld_2 J hw (show 0 ≤ row * σ 18 0 + x ∧ (row * σ 18 0 + x) < ((120 : Nat) : Int) from by omega) dX10_digs_144 ?_
                            refine j_aload_n J dX10_digs_145 rfl (lv_at hl 2 rfl) ?_
                            refine mg_10_7 J hw lk_X10_32 dX10_digs_146 ?_
                            refine j_iconst J (0) dX10_digs_149 ?_
                            refine ma_ld_0 J hw (show 0 ≤ 0 ∧ 0 < ((5 : Nat) : Int) from by omega) dX10_digs_150 ?_
                            refine j_iadd J dX10_digs_151 ?_
                            refine j_icmp_gt J 175 (show rg (((τ 1 (row * σ 18 0 + x)) + (τ 6 (row * σ 18 0 + x))) + 1) by unfold rg; omega) (show rg ((τ 2 (row * σ 18 0 + x)) + (τ 0 0)) by unfold rg; omega) dX10_digs_152 (by decide) (fun (h_12 : ((τ 2 (row * σ 18 0 + x)) + (τ 0 0)) < (((τ 1 (row * σ 18 0 + x)) + (τ 6 (row * σ 18 0 + x))) + 1)) => ?_) (fun (h_12 : (((τ 1 (row * σ 18 0 + x)) + (τ 6 (row * σ 18 0 + x))) + 1) ≤ ((τ 2 (row * σ 18 0 + x)) + (τ 0 0))) => ?_)
                            · refine j_iload J dX10_digs_175 (lv_at hl 1 rfl) ?_
                              refine j_iload J dX10_digs_177 (lv_at hl 8 rfl) ?_
                              refine j_iadd J dX10_digs_179 ?_
                              refine j_istore J (lv' := [(9, .int (I (x + (-1)))), (10, .int (I (row * σ 18 0 + x))), (0, .ref (ad 0)), (1, .int (I row)), (2, .int (I a)), (3, .int (I b)), (4, .int (I w)), (5, .int (I lq)), (6, .int (I (-1))), (8, .int (I ld))]) hl dX10_digs_180 (by decide) rfl (fun ls hl => ?_)
                              refine j_goto J 84 dX10_digs_182 (by decide) ?_
                              exact ih84 τ lq (x + (-1)) (i + 1) (by omega) (by omega) (by rw [← rn_step hi0.1 (by omega), ← hx]; first | exact ⟨hy.1, by rw [hy.2]; omega⟩ | (rw [mr_no hqE hq10 b9.1 hB (by omega)]; exact hM) | (exfalso; omega)) (by omega) _ _ _ hw (lv_sub hl [0, 2, 3, 4, 5, 6, 7, 8, 9] rfl)
                            · have hy := mr_yes (ov := σ 0 0) hB hM.1 hqE hq10 b9.1 hr hxr (by omega)
                              refine j_aload_n J dX10_digs_155 rfl (lv_at hl 2 rfl) ?_
                              refine mg_10_6 J hw lk_X10_29 dX10_digs_156 ?_
                              refine j_iload J dX10_digs_159 (lv_at hl 0 rfl) ?_
                              refine j_dup2 J dX10_digs_161 rfl rfl ?_
                              refine ma_ld_6 J hw (show 0 ≤ row * σ 18 0 + x ∧ (row * σ 18 0 + x) < ((120 : Nat) : Int) from by omega) dX10_digs_162 ?_
                              refine j_iconst J (1) dX10_digs_163 ?_
                              refine j_iadd J dX10_digs_164 ?_
                              refine ma_st_6 J hw (show 0 ≤ row * σ 18 0 + x ∧ (row * σ 18 0 + x) < ((120 : Nat) : Int) from by omega) dX10_digs_165 (fun H locs hw => ?_)
                              refine j_iinc J (lv' := [(5, .int (I (lq + 1))), (10, .int (I (row * σ 18 0 + x))), (9, .int (I x)), (0, .ref (ad 0)), (1, .int (I row)), (2, .int (I a)), (3, .int (I b)), (4, .int (I w)), (6, .int (I (-1))), (8, .int (I ld))]) (k := 7) hl dX10_digs_166 rfl (by decide) rfl (fun ls hl => ?_)
                              refine j_aload_n J dX10_digs_169 rfl (lv_at hl 3 rfl) ?_
                              refine j_iload J dX10_digs_170 (lv_at hl 1 rfl) ?_
                              refine ms_10_26 J hw lk_X10_118 dX10_digs_172 (fun H locs hw => ?_)
                              refine j_iload J dX10_digs_175 (lv_at hl 2 rfl) ?_
                              refine j_iload J dX10_digs_177 (lv_at hl 8 rfl) ?_
                              refine j_iadd J dX10_digs_179 ?_
                              refine j_istore J (lv' := [(9, .int (I (x + (-1)))), (5, .int (I (lq + 1))), (10, .int (I (row * σ 18 0 + x))), (0, .ref (ad 0)), (1, .int (I row)), (2, .int (I a)), (3, .int (I b)), (4, .int (I w)), (6, .int (I (-1))), (8, .int (I ld))]) hl dX10_digs_180 (by decide) rfl (fun ls hl => ?_)
                              refine j_goto J 84 dX10_digs_182 (by decide) ?_
                              exact ih84 (st (st τ 6 (row * σ 18 0 + x) ((τ 6 (row * σ 18 0 + x)) + 1)) 18 12 (row * σ 18 0 + x)) (lq + 1) (x + (-1)) (i + 1) (by omega) (by omega) (by rw [← rn_step hi0.1 (by omega), ← hx]; first | exact ⟨hy.1, by rw [hy.2]; omega⟩ | (rw [mr_no hqE hq10 b9.1 hB (by omega)]; exact hM) | (exfalso; omega)) (by omega) _ _ _ hw (lv_sub hl [0, 3, 4, 5, 6, 7, 1, 8, 9] rfl)
                  exact L84 _ τ ld a 0 (by omega) (by omega) (hM0) (Nat.lt_succ_self _) _ _ _ hw (lv_sub hl [0, 3, 4, 5, 6, 7, 8, 9, 1] rfl)
            exact L72 _ (st (fl σ 6 0 z) 18 12 ((row * (σ 18 0)) + a)) 0 0 0 (by omega) (⟨mr_0 hd hr (by omega), rfl⟩) (by omega) (by intro hz9; first | (exfalso; omega) | exact rnS_stop (by omega) (by show w ≤ 0; omega)) (by intro hz9; omega) (Nat.lt_succ_self _) _ _ _ hw (lv_sub hl [0, 3, 4, 5, 6, 7, 2, 1] rfl)
          · refine j_iconst J (1) dX10_digs_65 ?_
            refine j_goto J 70 dX10_digs_66 (by decide) ?_
            refine j_istore J (lv' := [(7, .int (I 1)), (6, .int (I (-1))), (5, .int (I 0)), (0, .ref (ad 0)), (1, .int (I row)), (2, .int (I a)), (3, .int (I b)), (4, .int (I w))]) hl dX10_digs_70 (by decide) rfl (fun ls hl => ?_)
            have L72 : ∀ n : Nat, ∀ (τ : St) (ld : Int) (on : Int) (r : Int), (0 ≤ r ∧ r ≤ 200) → (MR σ row (rd (p0S σ row a) a b w (σ 0 0) r) τ ∧ ld = rd (p0S σ row a) a b w (σ 0 0) r 18 11) → (on = 0 ∨ on = 1) → (on = 0 → rnS (rd (p0S σ row a) a b w (σ 0 0) r) a b w (σ 0 0) = rd (p0S σ row a) a b w (σ 0 0) r) → (on = 1 → r ≤ ld ∧ ld < w) → ((200 - r).toNat) < n → ∀ (H : Heap) (locs : List Loc) (ls : Array Slot), jW D (AD ad 45) s.heap (wsM cI cZ ad τ) H locs → lv_has ls 11 [(7, .int (I on)), (0, .ref (ad 0)), (1, .int (I row)), (2, .int (I a)), (3, .int (I b)), (4, .int (I w)), (5, .int (I ld)), (6, .int (I (-1)))] → W p l e rm_X10_digs s m args below meth c H locs 0 0 Q (F0 m 72 ls []) := by
              intro n
              induction n with
              | zero =>
                intro τ ld on r hr0 hM0 hon h40 h51 hm H locs ls hw hl
                exact absurd hm (Nat.not_lt_zero _)
              | succ n ih =>
                intro τ ld on r hr0 hM0 hon h40 h51 hm H locs ls hw hl
                have ih72 := ih
                have hf := rd_facts (σ := p0S σ row a) (a := a) (b := b) (w := w) (ov := σ 0 0) (n := r) (hB.eqp p0_eqp) hov hw0.2 (by omega) hr0.1 p0_hp (by show (0 : Int) ≤ 200; decide)
                have hEq := hf.1.tr p0_eqp
                have hBq := hB.eqp hEq
                have hl0 : 0 ≤ rd (p0S σ row a) a b w (σ 0 0) r 18 11 := hf.2.2.2.1
                have hl9 := hf.2.2.2.2
                have hpr := (rnS_facts (a := a) (b := b) (w := w) (ov := σ 0 0) hBq hov hw0.2 (by omega) hf.2.2.1 hf.2.2.2.2).2.2.2.2.2
                refine j_iload J dX10_digs_72 (lv_at hl 0 rfl) ?_
                refine j_if_eq J 209 (show rg on by unfold rg; omega) dX10_digs_74 (by decide) (fun (h_13 : on = 0) => ?_) (fun (h_13 : ¬ on = 0) => ?_)
                · refine j_iload J dX10_digs_209 (lv_at hl 6 rfl) ?_
                  exact fin _ (τ) _ _ _ _ dX10_digs_211 rfl (⟨by rw [hM0.2, rd_stop hr0.1 hr0.2 (h40 (by omega))], by rw [← rd_stop hr0.1 hr0.2 (h40 (by omega))]; exact hM0.1⟩) hw
                · have h5 := h51 (by omega); have hM9 := hM0.2
                  refine j_iload J dX10_digs_77 (lv_at hl 6 rfl) ?_
                  refine j_istore J (lv' := [(8, .int (I ld)), (7, .int (I on)), (0, .ref (ad 0)), (1, .int (I row)), (2, .int (I a)), (3, .int (I b)), (4, .int (I w)), (5, .int (I ld)), (6, .int (I (-1)))]) hl dX10_digs_79 (by decide) rfl (fun ls hl => ?_)
                  refine j_iload_n J dX10_digs_81 rfl (lv_at hl 4 rfl) ?_
                  refine j_istore J (lv' := [(9, .int (I a)), (8, .int (I ld)), (7, .int (I on)), (0, .ref (ad 0)), (1, .int (I row)), (2, .int (I a)), (3, .int (I b)), (4, .int (I w)), (5, .int (I ld)), (6, .int (I (-1)))]) hl dX10_digs_82 (by decide) rfl (fun ls hl => ?_)
                  have L84 : ∀ n : Nat, ∀ (τ : St) (lq : Int) (x : Int) (i : Int), (0 ≤ i ∧ i ≤ absI (b - a) + 1) → (x = a + i * (-1)) → (MR σ row (rn (rd (p0S σ row a) a b w (σ 0 0) r) a (-1) w (σ 0 0) i) τ ∧ lq = rn (rd (p0S σ row a) a b w (σ 0 0) r) a (-1) w (σ 0 0) i 18 11) → ((absI (b - a) + 1 - i).toNat) < n → ∀ (H : Heap) (locs : List Loc) (ls : Array Slot), jW D (AD ad 45) s.heap (wsM cI cZ ad τ) H locs → lv_has ls 11 [(9, .int (I x)), (0, .ref (ad 0)), (1, .int (I row)), (2, .int (I a)), (3, .int (I b)), (4, .int (I w)), (5, .int (I lq)), (6, .int (I (-1))), (8, .int (I ld))] → W p l e rm_X10_digs s m args below meth c H locs 0 0 Q (F0 m 84 ls []) := by
                    intro n
                    induction n with
                    | zero =>
                      intro τ lq x i hi0 hx hM hm H locs ls hw hl
                      exact absurd hm (Nat.not_lt_zero _)
                    | succ n ih =>
                      intro τ lq x i hi0 hx hM hm H locs ls hw hl
                      have ih84 := ih
                      have hfw := rn_facts (σ := rd (p0S σ row a) a b w (σ 0 0) r) (a := a) (s := (-1)) (w := w) (ov := σ 0 0) (n := i) hBq hov hw0.2 hi0.1 hf.2.2.1 hf.2.2.2.2
                      have hqE : Eqp (rn (rd (p0S σ row a) a b w (σ 0 0) r) a ((-1)) w (σ 0 0) i) σ := hfw.1.tr hEq
                      have hq10 : rn (rd (p0S σ row a) a b w (σ 0 0) r) a ((-1)) w (σ 0 0) i 18 10 = row := hfw.2.1.trans hf.2.1
                      have hqs := hfw.2.2.2.1; have hqt := hfw.2.2.2.2.1
                      have d0 : τ 18 0 = σ 18 0 := qs hM.1.1 0 (by decide)
                      have hML := hM.2
                      refine j_iload J dX10_digs_84 (lv_at hl 0 rfl) ?_
                      refine j_iload_n J dX10_digs_86 rfl (lv_at hl 4 rfl) ?_
                      refine j_iload J dX10_digs_87 (lv_at hl 7 rfl) ?_
                      refine j_iadd J dX10_digs_89 ?_
                      refine j_icmp_eq J 185 (show rg x by unfold rg; omega) (show rg (b + (-1)) by unfold rg; omega) dX10_digs_90 (by decide) (fun (h_14 : x = (b + (-1))) => ?_) (fun (h_14 : ¬ x = (b + (-1))) => ?_)
                      · have hfin : rn (rd (p0S σ row a) a b w (σ 0 0) r) a ((-1)) w (σ 0 0) i = rnS (rd (p0S σ row a) a b w (σ 0 0) r) a b w (σ 0 0) := by first | (exfalso; omega) | (unfold rnS; (first | rw [if_pos (show a ≤ b by omega)] | rw [if_neg (show ¬ a ≤ b by omega)]); first | exact rn_stop hi0.1 (by omega) (by rw [← hM.2]; omega) | (rw [show i = absI (b - a) + 1 by omega]))
                        have hfl := congrFun (congrFun hfin 18) 11
                        refine j_iload J dX10_digs_185 (lv_at hl 6 rfl) ?_
                        refine j_iload J dX10_digs_187 (lv_at hl 8 rfl) ?_
                        refine j_icmp_le J 203 (show rg lq by unfold rg; omega) (show rg ld by unfold rg; omega) dX10_digs_189 (by decide) (fun (h_15 : lq ≤ ld) => ?_) (fun (h_15 : ld < lq) => ?_)
                        · refine j_iconst J (0) dX10_digs_203 ?_
                          refine j_istore J (lv' := [(7, .int (I 0)), (9, .int (I x)), (0, .ref (ad 0)), (1, .int (I row)), (2, .int (I a)), (3, .int (I b)), (4, .int (I w)), (5, .int (I lq)), (6, .int (I (-1))), (8, .int (I ld))]) hl dX10_digs_204 (by decide) rfl (fun ls hl => ?_)
                          refine j_goto J 72 dX10_digs_206 (by decide) ?_
                          exact ih72 τ lq 0 (r + 1) (by omega) (by rw [← rd_step hr0.1, ← hfin]; exact hM) (by omega) (by intro hz9; first | (exfalso; omega) | (rw [← rd_step hr0.1]; first | exact rnS_stop (by omega) (by rw [← hfin, ← hM.2]; omega) | (rcases hpr with e | e; (rw [e]; exact e); (exfalso; omega)))) (by intro hz9; omega) (by omega) _ _ _ hw (lv_sub hl [0, 2, 3, 4, 5, 6, 7, 8] rfl)
                        · refine j_iload J dX10_digs_192 (lv_at hl 6 rfl) ?_
                          refine j_iload J dX10_digs_194 (lv_at hl 5 rfl) ?_
                          refine j_icmp_ge J 203 (show rg lq by unfold rg; omega) (show rg w by unfold rg; omega) dX10_digs_196 (by decide) (fun (h_16 : w ≤ lq) => ?_) (fun (h_16 : lq < w) => ?_)
                          · refine j_iconst J (0) dX10_digs_203 ?_
                            refine j_istore J (lv' := [(7, .int (I 0)), (9, .int (I x)), (0, .ref (ad 0)), (1, .int (I row)), (2, .int (I a)), (3, .int (I b)), (4, .int (I w)), (5, .int (I lq)), (6, .int (I (-1))), (8, .int (I ld))]) hl dX10_digs_204 (by decide) rfl (fun ls hl => ?_)
                            refine j_goto J 72 dX10_digs_206 (by decide) ?_
                            exact ih72 τ lq 0 (r + 1) (by omega) (by rw [← rd_step hr0.1, ← hfin]; exact hM) (by omega) (by intro hz9; first | (exfalso; omega) | (rw [← rd_step hr0.1]; first | exact rnS_stop (by omega) (by rw [← hfin, ← hM.2]; omega) | (rcases hpr with e | e; (rw [e]; exact e); (exfalso; omega)))) (by intro hz9; omega) (by omega) _ _ _ hw (lv_sub hl [0, 2, 3, 4, 5, 6, 7, 8] rfl)
                          · refine j_iconst J (1) dX10_digs_199 ?_
                            refine j_goto J 204 dX10_digs_200 (by decide) ?_
                            refine j_istore J (lv' := [(7, .int (I 1)), (9, .int (I x)), (0, .ref (ad 0)), (1, .int (I row)), (2, .int (I a)), (3, .int (I b)), (4, .int (I w)), (5, .int (I lq)), (6, .int (I (-1))), (8, .int (I ld))]) hl dX10_digs_204 (by decide) rfl (fun ls hl => ?_)
                            refine j_goto J 72 dX10_digs_206 (by decide) ?_
                            exact ih72 τ lq 1 (r + 1) (by omega) (by rw [← rd_step hr0.1, ← hfin]; exact hM) (by omega) (by intro hz9; first | (exfalso; omega) | (rw [← rd_step hr0.1]; first | exact rnS_stop (by omega) (by rw [← hfin, ← hM.2]; omega) | (rcases hpr with e | e; (rw [e]; exact e); (exfalso; omega)))) (by intro hz9; omega) (by omega) _ _ _ hw (lv_sub hl [0, 2, 3, 4, 5, 6, 7, 8] rfl)
                      · refine j_iload J dX10_digs_93 (lv_at hl 6 rfl) ?_
                        refine j_iload J dX10_digs_95 (lv_at hl 5 rfl) ?_
                        refine j_icmp_ge J 185 (show rg lq by unfold rg; omega) (show rg w by unfold rg; omega) dX10_digs_97 (by decide) (fun (h_17 : w ≤ lq) => ?_) (fun (h_17 : lq < w) => ?_)
                        · have hfin : rn (rd (p0S σ row a) a b w (σ 0 0) r) a ((-1)) w (σ 0 0) i = rnS (rd (p0S σ row a) a b w (σ 0 0) r) a b w (σ 0 0) := by first | (exfalso; omega) | (unfold rnS; (first | rw [if_pos (show a ≤ b by omega)] | rw [if_neg (show ¬ a ≤ b by omega)]); first | exact rn_stop hi0.1 (by omega) (by rw [← hM.2]; omega) | (rw [show i = absI (b - a) + 1 by omega]))
                          have hfl := congrFun (congrFun hfin 18) 11
                          refine j_iload J dX10_digs_185 (lv_at hl 6 rfl) ?_
                          refine j_iload J dX10_digs_187 (lv_at hl 8 rfl) ?_
                          refine j_icmp_le J 203 (show rg lq by unfold rg; omega) (show rg ld by unfold rg; omega) dX10_digs_189 (by decide) (fun (h_18 : lq ≤ ld) => ?_) (fun (h_18 : ld < lq) => ?_)
                          · refine j_iconst J (0) dX10_digs_203 ?_
                            refine j_istore J (lv' := [(7, .int (I 0)), (9, .int (I x)), (0, .ref (ad 0)), (1, .int (I row)), (2, .int (I a)), (3, .int (I b)), (4, .int (I w)), (5, .int (I lq)), (6, .int (I (-1))), (8, .int (I ld))]) hl dX10_digs_204 (by decide) rfl (fun ls hl => ?_)
                            refine j_goto J 72 dX10_digs_206 (by decide) ?_
                            exact ih72 τ lq 0 (r + 1) (by omega) (by rw [← rd_step hr0.1, ← hfin]; exact hM) (by omega) (by intro hz9; first | (exfalso; omega) | (rw [← rd_step hr0.1]; first | exact rnS_stop (by omega) (by rw [← hfin, ← hM.2]; omega) | (rcases hpr with e | e; (rw [e]; exact e); (exfalso; omega)))) (by intro hz9; omega) (by omega) _ _ _ hw (lv_sub hl [0, 2, 3, 4, 5, 6, 7, 8] rfl)
                          · refine j_iload J dX10_digs_192 (lv_at hl 6 rfl) ?_
                            refine j_iload J dX10_digs_194 (lv_at hl 5 rfl) ?_
                            refine j_icmp_ge J 203 (show rg lq by unfold rg; omega) (show rg w by unfold rg; omega) dX10_digs_196 (by decide) (fun (h_19 : w ≤ lq) => ?_) (fun (h_19 : lq < w) => ?_)
                            · refine j_iconst J (0) dX10_digs_203 ?_
                              refine j_istore J (lv' := [(7, .int (I 0)), (9, .int (I x)), (0, .ref (ad 0)), (1, .int (I row)), (2, .int (I a)), (3, .int (I b)), (4, .int (I w)), (5, .int (I lq)), (6, .int (I (-1))), (8, .int (I ld))]) hl dX10_digs_204 (by decide) rfl (fun ls hl => ?_)
                              refine j_goto J 72 dX10_digs_206 (by decide) ?_
                              exact ih72 τ lq 0 (r + 1) (by omega) (by rw [← rd_step hr0.1, ← hfin]; exact hM) (by omega) (by intro hz9; first | (exfalso; omega) | (rw [← rd_step hr0.1]; first | exact rnS_stop (by omega) (by rw [← hfin, ← hM.2]; omega) | (rcases hpr with e | e; (rw [e]; exact e); (exfalso; omega)))) (by intro hz9; omega) (by omega) _ _ _ hw (lv_sub hl [0, 2, 3, 4, 5, 6, 7, 8] rfl)
                            · refine j_iconst J (1) dX10_digs_199 ?_
                              refine j_goto J 204 dX10_digs_200 (by decide) ?_
                              refine j_istore J (lv' := [(7, .int (I 1)), (9, .int (I x)), (0, .ref (ad 0)), (1, .int (I row)), (2, .int (I a)), (3, .int (I b)), (4, .int (I w)), (5, .int (I lq)), (6, .int (I (-1))), (8, .int (I ld))]) hl dX10_digs_204 (by decide) rfl (fun ls hl => ?_)
                              refine j_goto J 72 dX10_digs_206 (by decide) ?_
                              exact ih72 τ lq 1 (r + 1) (by omega) (by rw [← rd_step hr0.1, ← hfin]; exact hM) (by omega) (by intro hz9; first | (exfalso; omega) | (rw [← rd_step hr0.1]; first | exact rnS_stop (by omega) (by rw [← hfin, ← hM.2]; omega) | (rcases hpr with e | e; (rw [e]; exact e); (exfalso; omega)))) (by intro hz9; omega) (by omega) _ _ _ hw (lv_sub hl [0, 2, 3, 4, 5, 6, 7, 8] rfl)
                        · have hxr : 0 ≤ x ∧ x < σ 18 0 := by omega
                          have hci := cell_in hr.1 hr.2 hxr.1 hxr.2
                          have e2 := q2 hM.1.1 (row * σ 18 0 + x); have e1 := q1 hM.1.1 (row * σ 18 0 + x); have e00 := q0 hM.1.1 0
                          have e6 := hM.1.2.1 x hxr.1 hxr.2
                          have b1 := hB.depth (row * σ 18 0 + x); have b2 := hB.design (row * σ 18 0 + x)
                          have b9 := hfw.2.2.1 x hxr.1 (by omega)
                          refine j_iload_n J dX10_digs_100 rfl (lv_at hl 2 rfl) ?_
                          refine j_aload_n J dX10_digs_101 rfl (lv_at hl 1 rfl) ?_
                          refine mg_10_0 J hw lk_X10_7 dX10_digs_102 ?_
                          refine j_imul J dX10_digs_105 ?_
                          refine j_iload J dX10_digs_106 (lv_at hl 0 rfl) ?_
                          refine j_iadd J dX10_digs_108 ?_
                          rw [d0]
                          refine j_istore J (lv' := [(10, .int (I (row * σ 18 0 + x))), (9, .int (I x)), (0, .ref (ad 0)), (1, .int (I row)), (2, .int (I a)), (3, .int (I b)), (4, .int (I w)), (5, .int (I lq)), (6, .int (I (-1))), (8, .int (I ld))]) hl dX10_digs_109 (by decide) rfl (fun ls hl => ?_)
                          refine j_aload_n J dX10_digs_111 rfl (lv_at hl 2 rfl) ?_
                          refine mg_10_3 J hw lk_X10_20 dX10_digs_112 ?_
                          refine j_iload J dX10_digs_115 (lv_at hl 0 rfl) ?_
                          refine ma_ld_2 J hw (show 0 ≤ row * σ 18 0 + x ∧ (row * σ 18 0 + x) < ((120 : Nat) : Int) from by omega) dX10_digs_117 ?_
                          refine j_if_le J 175 (show rg (τ 2 (row * σ 18 0 + x)) by unfold rg; omega) dX10_digs_118 (by decide) (fun (h_20 : (τ 2 (row * σ 18 0 + x)) ≤ 0) => ?_) (fun (h_20 : 0 < (τ 2 (row * σ 18 0 + x))) => ?_)
                          · refine j_iload J dX10_digs_175 (lv_at hl 1 rfl) ?_
                            refine j_iload J dX10_digs_177 (lv_at hl 8 rfl) ?_
                            refine j_iadd J dX10_digs_179 ?_
                            refine j_istore J (lv' := [(9, .int (I (x + (-1)))), (10, .int (I (row * σ 18 0 + x))), (0, .ref (ad 0)), (1, .int (I row)), (2, .int (I a)), (3, .int (I b)), (4, .int (I w)), (5, .int (I lq)), (6, .int (I (-1))), (8, .int (I ld))]) hl dX10_digs_180 (by decide) rfl (fun ls hl => ?_)
                            refine j_goto J 84 dX10_digs_182 (by decide) ?_
                            exact ih84 τ lq (x + (-1)) (i + 1) (by omega) (by omega) (by rw [← rn_step hi0.1 (by omega), ← hx]; first | exact ⟨hy.1, by rw [hy.2]; omega⟩ | (rw [mr_no hqE hq10 b9.1 hB (by omega)]; exact hM) | (exfalso; omega)) (by omega) _ _ _ hw (lv_sub hl [0, 2, 3, 4, 5, 6, 7, 8, 9] rfl)
                          · refine j_aload_n J dX10_digs_121 rfl (lv_at hl 2 rfl) ?_
                            refine mg_10_2 J hw lk_X10_16 dX10_digs_122 ?_
                            refine j_iload J dX10_digs_125 (lv_at hl 0 rfl) ?_
                            refine ma_ld_1 J hw (show 0 ≤ row * σ 18 0 + x ∧ (row * σ 18 0 + x) < ((120 : Nat) : Int) from by omega) dX10_digs_127 ?_
                            refine j_aload_n J dX10_digs_128 rfl (lv_at hl 2 rfl) ?_
                            refine mg_10_6 J hw lk_X10_29 dX10_digs_129 ?_
                            refine j_iload J dX10_digs_132 (lv_at hl 0 rfl) ?_
                            refine ma_ld_6 J hw (show 0 ≤ row * σ 18 0 + x ∧ (row * σ 18 0 + x) < ((120 : Nat) : Int) from by omega) dX10_digs_134 ?_
                            refine j_iadd J dX10_digs_135 ?_
                            refine j_iconst J (1) dX10_digs_136 ?_
                            refine j_iadd J dX10_digs_137 ?_
                            refine j_aload_n J dX10_digs_138 rfl (lv_at hl 2 rfl) ?_
                            refine mg_10_3 J hw lk_X10_20 dX10_digs_139 ?_
                            refine j_iload J dX10_digs_142 (lv_at hl 0 rfl) ?_
                            refine ma_ld_2 J hw (show 0 ≤ row * σ 18 0 + x ∧ (row * σ 18 0 + x) < ((120 : Nat) : Int) from by omega) dX10_digs_144 ?_
                            refine j_aload_n J dX10_digs_145 rfl (lv_at hl 2 rfl) ?_
                            refine mg_10_7 J hw lk_X10_32 dX10_digs_146 ?_
                            refine j_iconst J (0) dX10_digs_149 ?_
                            refine ma_ld_0 J hw (show 0 ≤ 0 ∧ 0 < ((5 : Nat) : Int) from by omega) dX10_digs_150 ?_
                            refine j_iadd J dX10_digs_151 ?_
                            refine j_icmp_gt J 175 (show rg (((τ 1 (row * σ 18 0 + x)) + (τ 6 (row * σ 18 0 + x))) + 1) by unfold rg; omega) (show rg ((τ 2 (row * σ 18 0 + x)) + (τ 0 0)) by unfold rg; omega) dX10_digs_152 (by decide) (fun (h_21 : ((τ 2 (row * σ 18 0 + x)) + (τ 0 0)) < (((τ 1 (row * σ 18 0 + x)) + (τ 6 (row * σ 18 0 + x))) + 1)) => ?_) (fun (h_21 : (((τ 1 (row * σ 18 0 + x)) + (τ 6 (row * σ 18 0 + x))) + 1) ≤ ((τ 2 (row * σ 18 0 + x)) + (τ 0 0))) => ?_)
                            · refine j_iload J dX10_digs_175 (lv_at hl 1 rfl) ?_
                              refine j_iload J dX10_digs_177 (lv_at hl 8 rfl) ?_
                              refine j_iadd J dX10_digs_179 ?_
                              refine j_istore J (lv' := [(9, .int (I (x + (-1)))), (10, .int (I (row * σ 18 0 + x))), (0, .ref (ad 0)), (1, .int (I row)), (2, .int (I a)), (3, .int (I b)), (4, .int (I w)), (5, .int (I lq)), (6, .int (I (-1))), (8, .int (I ld))]) hl dX10_digs_180 (by decide) rfl (fun ls hl => ?_)
                              refine j_goto J 84 dX10_digs_182 (by decide) ?_
                              exact ih84 τ lq (x + (-1)) (i + 1) (by omega) (by omega) (by rw [← rn_step hi0.1 (by omega), ← hx]; first | exact ⟨hy.1, by rw [hy.2]; omega⟩ | (rw [mr_no hqE hq10 b9.1 hB (by omega)]; exact hM) | (exfalso; omega)) (by omega) _ _ _ hw (lv_sub hl [0, 2, 3, 4, 5, 6, 7, 8, 9] rfl)
                            · have hy := mr_yes (ov := σ 0 0) hB hM.1 hqE hq10 b9.1 hr hxr (by omega)
                              refine j_aload_n J dX10_digs_155 rfl (lv_at hl 2 rfl) ?_
                              refine mg_10_6 J hw lk_X10_29 dX10_digs_156 ?_
                              refine j_iload J dX10_digs_159 (lv_at hl 0 rfl) ?_
                              refine j_dup2 J dX10_digs_161 rfl rfl ?_
                              refine ma_ld_6 J hw (show 0 ≤ row * σ 18 0 + x ∧ (row * σ 18 0 + x) < ((120 : Nat) : Int) from by omega) dX10_digs_162 ?_
                              refine j_iconst J (1) dX10_digs_163 ?_
                              refine j_iadd J dX10_digs_164 ?_
                              refine ma_st_6 J hw (show 0 ≤ row * σ 18 0 + x ∧ (row * σ 18 0 + x) < ((120 : Nat) : Int) from by omega) dX10_digs_165 (fun H locs hw => ?_)
                              refine j_iinc J (lv' := [(5, .int (I (lq + 1))), (10, .int (I (row * σ 18 0 + x))), (9, .int (I x)), (0, .ref (ad 0)), (1, .int (I row)), (2, .int (I a)), (3, .int (I b)), (4, .int (I w)), (6, .int (I (-1))), (8, .int (I ld))]) (k := 7) hl dX10_digs_166 rfl (by decide) rfl (fun ls hl => ?_)
                              refine j_aload_n J dX10_digs_169 rfl (lv_at hl 3 rfl) ?_
                              refine j_iload J dX10_digs_170 (lv_at hl 1 rfl) ?_
                              refine ms_10_26 J hw lk_X10_118 dX10_digs_172 (fun H locs hw => ?_)
                              refine j_iload J dX10_digs_175 (lv_at hl 2 rfl) ?_
                              refine j_iload J dX10_digs_177 (lv_at hl 8 rfl) ?_
                              refine j_iadd J dX10_digs_179 ?_
                              refine j_istore J (lv' := [(9, .int (I (x + (-1)))), (5, .int (I (lq + 1))), (10, .int (I (row * σ 18 0 + x))), (0, .ref (ad 0)), (1, .int (I row)), (2, .int (I a)), (3, .int (I b)), (4, .int (I w)), (6, .int (I (-1))), (8, .int (I ld))]) hl dX10_digs_180 (by decide) rfl (fun ls hl => ?_)
                              refine j_goto J 84 dX10_digs_182 (by decide) ?_
                              exact ih84 (st (st τ 6 (row * σ 18 0 + x) ((τ 6 (row * σ 18 0 + x)) + 1)) 18 12 (row * σ 18 0 + x)) (lq + 1) (x + (-1)) (i + 1) (by omega) (by omega) (by rw [← rn_step hi0.1 (by omega), ← hx]; first | exact ⟨hy.1, by rw [hy.2]; omega⟩ | (rw [mr_no hqE hq10 b9.1 hB (by omega)]; exact hM) | (exfalso; omega)) (by omega) _ _ _ hw (lv_sub hl [0, 3, 4, 5, 6, 7, 1, 8, 9] rfl)
                  exact L84 _ τ ld a 0 (by omega) (by omega) (hM0) (Nat.lt_succ_self _) _ _ _ hw (lv_sub hl [0, 3, 4, 5, 6, 7, 8, 9, 1] rfl)
            exact L72 _ (st (fl σ 6 0 z) 18 12 ((row * (σ 18 0)) + a)) 0 1 0 (by omega) (⟨mr_0 hd hr (by omega), rfl⟩) (by omega) (by intro hz9; first | (exfalso; omega) | exact rnS_stop (by omega) (by show w ≤ 0; omega)) (by intro hz9; omega) (Nat.lt_succ_self _) _ _ _ hw (lv_sub hl [0, 3, 4, 5, 6, 7, 2, 1] rfl)
        · refine j_iconst J (1) dX10_digs_51 ?_
          refine j_goto J 56 dX10_digs_52 (by decide) ?_
          refine j_istore J (lv' := [(6, .int (I 1)), (5, .int (I 0)), (0, .ref (ad 0)), (1, .int (I row)), (2, .int (I a)), (3, .int (I b)), (4, .int (I w))]) hl dX10_digs_56 (by decide) rfl (fun ls hl => ?_)
          refine j_iload J dX10_digs_58 (lv_at hl 1 rfl) ?_
          refine j_iload J dX10_digs_60 (lv_at hl 6 rfl) ?_
          refine j_icmp_ge J 69 (by unfold rg; omega) (show rg w by unfold rg; omega) dX10_digs_62 (by decide) (fun (h_22 : w ≤ 0) => ?_) (fun (h_22 : 0 < w) => ?_)
          · refine j_iconst J (0) dX10_digs_69 ?_
            refine j_istore J (lv' := [(7, .int (I 0)), (6, .int (I 1)), (5, .int (I 0)), (0, .ref (ad 0)), (1, .int (I row)), (2, .int (I a)), (3, .int (I b)), (4, .int (I w))]) hl dX10_digs_70 (by decide) rfl (fun ls hl => ?_)
            have L72 : ∀ n : Nat, ∀ (τ : St) (ld : Int) (on : Int) (r : Int), (0 ≤ r ∧ r ≤ 200) → (MR σ row (rd (p0S σ row a) a b w (σ 0 0) r) τ ∧ ld = rd (p0S σ row a) a b w (σ 0 0) r 18 11) → (on = 0 ∨ on = 1) → (on = 0 → rnS (rd (p0S σ row a) a b w (σ 0 0) r) a b w (σ 0 0) = rd (p0S σ row a) a b w (σ 0 0) r) → (on = 1 → r ≤ ld ∧ ld < w) → ((200 - r).toNat) < n → ∀ (H : Heap) (locs : List Loc) (ls : Array Slot), jW D (AD ad 45) s.heap (wsM cI cZ ad τ) H locs → lv_has ls 11 [(7, .int (I on)), (0, .ref (ad 0)), (1, .int (I row)), (2, .int (I a)), (3, .int (I b)), (4, .int (I w)), (5, .int (I ld)), (6, .int (I 1))] → W p l e rm_X10_digs s m args below meth c H locs 0 0 Q (F0 m 72 ls []) := by
              intro n
              induction n with
              | zero =>
                intro τ ld on r hr0 hM0 hon h40 h51 hm H locs ls hw hl
                exact absurd hm (Nat.not_lt_zero _)
              | succ n ih =>
                intro τ ld on r hr0 hM0 hon h40 h51 hm H locs ls hw hl
                have ih72 := ih
                have hf := rd_facts (σ := p0S σ row a) (a := a) (b := b) (w := w) (ov := σ 0 0) (n := r) (hB.eqp p0_eqp) hov hw0.2 (by omega) hr0.1 p0_hp (by show (0 : Int) ≤ 200; decide)
                have hEq := hf.1.tr p0_eqp
                have hBq := hB.eqp hEq
                have hl0 : 0 ≤ rd (p0S σ row a) a b w (σ 0 0) r 18 11 := hf.2.2.2.1
                have hl9 := hf.2.2.2.2
                have hpr := (rnS_facts (a := a) (b := b) (w := w) (ov := σ 0 0) hBq hov hw0.2 (by omega) hf.2.2.1 hf.2.2.2.2).2.2.2.2.2
                refine j_iload J dX10_digs_72 (lv_at hl 0 rfl) ?_
                refine j_if_eq J 209 (show rg on by unfold rg; omega) dX10_digs_74 (by decide) (fun (h_23 : on = 0) => ?_) (fun (h_23 : ¬ on = 0) => ?_)
                · refine j_iload J dX10_digs_209 (lv_at hl 6 rfl) ?_
                  exact fin _ (τ) _ _ _ _ dX10_digs_211 rfl (⟨by rw [hM0.2, rd_stop hr0.1 hr0.2 (h40 (by omega))], by rw [← rd_stop hr0.1 hr0.2 (h40 (by omega))]; exact hM0.1⟩) hw
                · have h5 := h51 (by omega); have hM9 := hM0.2
                  refine j_iload J dX10_digs_77 (lv_at hl 6 rfl) ?_
                  refine j_istore J (lv' := [(8, .int (I ld)), (7, .int (I on)), (0, .ref (ad 0)), (1, .int (I row)), (2, .int (I a)), (3, .int (I b)), (4, .int (I w)), (5, .int (I ld)), (6, .int (I 1))]) hl dX10_digs_79 (by decide) rfl (fun ls hl => ?_)
                  refine j_iload_n J dX10_digs_81 rfl (lv_at hl 4 rfl) ?_
                  refine j_istore J (lv' := [(9, .int (I a)), (8, .int (I ld)), (7, .int (I on)), (0, .ref (ad 0)), (1, .int (I row)), (2, .int (I a)), (3, .int (I b)), (4, .int (I w)), (5, .int (I ld)), (6, .int (I 1))]) hl dX10_digs_82 (by decide) rfl (fun ls hl => ?_)
                  have L84 : ∀ n : Nat, ∀ (τ : St) (lq : Int) (x : Int) (i : Int), (0 ≤ i ∧ i ≤ absI (b - a) + 1) → (x = a + i * (1)) → (MR σ row (rn (rd (p0S σ row a) a b w (σ 0 0) r) a (1) w (σ 0 0) i) τ ∧ lq = rn (rd (p0S σ row a) a b w (σ 0 0) r) a (1) w (σ 0 0) i 18 11) → ((absI (b - a) + 1 - i).toNat) < n → ∀ (H : Heap) (locs : List Loc) (ls : Array Slot), jW D (AD ad 45) s.heap (wsM cI cZ ad τ) H locs → lv_has ls 11 [(9, .int (I x)), (0, .ref (ad 0)), (1, .int (I row)), (2, .int (I a)), (3, .int (I b)), (4, .int (I w)), (5, .int (I lq)), (6, .int (I 1)), (8, .int (I ld))] → W p l e rm_X10_digs s m args below meth c H locs 0 0 Q (F0 m 84 ls []) := by
                    intro n
                    induction n with
                    | zero =>
                      intro τ lq x i hi0 hx hM hm H locs ls hw hl
                      exact absurd hm (Nat.not_lt_zero _)
                    | succ n ih =>
                      intro τ lq x i hi0 hx hM hm H locs ls hw hl
                      have ih84 := ih
                      have hfw := rn_facts (σ := rd (p0S σ row a) a b w (σ 0 0) r) (a := a) (s := 1) (w := w) (ov := σ 0 0) (n := i) hBq hov hw0.2 hi0.1 hf.2.2.1 hf.2.2.2.2
                      have hqE : Eqp (rn (rd (p0S σ row a) a b w (σ 0 0) r) a (1) w (σ 0 0) i) σ := hfw.1.tr hEq
                      have hq10 : rn (rd (p0S σ row a) a b w (σ 0 0) r) a (1) w (σ 0 0) i 18 10 = row := hfw.2.1.trans hf.2.1
                      have hqs := hfw.2.2.2.1; have hqt := hfw.2.2.2.2.1
                      have d0 : τ 18 0 = σ 18 0 := qs hM.1.1 0 (by decide)
                      have hML := hM.2
                      refine j_iload J dX10_digs_84 (lv_at hl 0 rfl) ?_
                      refine j_iload_n J dX10_digs_86 rfl (lv_at hl 4 rfl) ?_
                      refine j_iload J dX10_digs_87 (lv_at hl 7 rfl) ?_
                      refine j_iadd J dX10_digs_89 ?_
                      refine j_icmp_eq J 185 (show rg x by unfold rg; omega) (show rg (b + 1) by unfold rg; omega) dX10_digs_90 (by decide) (fun (h_24 : x = (b + 1)) => ?_) (fun (h_24 : ¬ x = (b + 1)) => ?_)
                      · have hfin : rn (rd (p0S σ row a) a b w (σ 0 0) r) a (1) w (σ 0 0) i = rnS (rd (p0S σ row a) a b w (σ 0 0) r) a b w (σ 0 0) := by first | (exfalso; omega) | (unfold rnS; (first | rw [if_pos (show a ≤ b by omega)] | rw [if_neg (show ¬ a ≤ b by omega)]); first | exact rn_stop hi0.1 (by omega) (by rw [← hM.2]; omega) | (rw [show i = absI (b - a) + 1 by omega]))
                        have hfl := congrFun (congrFun hfin 18) 11
                        refine j_iload J dX10_digs_185 (lv_at hl 6 rfl) ?_
                        refine j_iload J dX10_digs_187 (lv_at hl 8 rfl) ?_
                        refine j_icmp_le J 203 (show rg lq by unfold rg; omega) (show rg ld by unfold rg; omega) dX10_digs_189 (by decide) (fun (h_25 : lq ≤ ld) => ?_) (fun (h_25 : ld < lq) => ?_)
                        · refine j_iconst J (0) dX10_digs_203 ?_
                          refine j_istore J (lv' := [(7, .int (I 0)), (9, .int (I x)), (0, .ref (ad 0)), (1, .int (I row)), (2, .int (I a)), (3, .int (I b)), (4, .int (I w)), (5, .int (I lq)), (6, .int (I 1)), (8, .int (I ld))]) hl dX10_digs_204 (by decide) rfl (fun ls hl => ?_)
                          refine j_goto J 72 dX10_digs_206 (by decide) ?_
                          exact ih72 τ lq 0 (r + 1) (by omega) (by rw [← rd_step hr0.1, ← hfin]; exact hM) (by omega) (by intro hz9; first | (exfalso; omega) | (rw [← rd_step hr0.1]; first | exact rnS_stop (by omega) (by rw [← hfin, ← hM.2]; omega) | (rcases hpr with e | e; (rw [e]; exact e); (exfalso; omega)))) (by intro hz9; omega) (by omega) _ _ _ hw (lv_sub hl [0, 2, 3, 4, 5, 6, 7, 8] rfl)
                        · refine j_iload J dX10_digs_192 (lv_at hl 6 rfl) ?_
                          refine j_iload J dX10_digs_194 (lv_at hl 5 rfl) ?_
                          refine j_icmp_ge J 203 (show rg lq by unfold rg; omega) (show rg w by unfold rg; omega) dX10_digs_196 (by decide) (fun (h_26 : w ≤ lq) => ?_) (fun (h_26 : lq < w) => ?_)
                          · refine j_iconst J (0) dX10_digs_203 ?_
                            refine j_istore J (lv' := [(7, .int (I 0)), (9, .int (I x)), (0, .ref (ad 0)), (1, .int (I row)), (2, .int (I a)), (3, .int (I b)), (4, .int (I w)), (5, .int (I lq)), (6, .int (I 1)), (8, .int (I ld))]) hl dX10_digs_204 (by decide) rfl (fun ls hl => ?_)
                            refine j_goto J 72 dX10_digs_206 (by decide) ?_
                            exact ih72 τ lq 0 (r + 1) (by omega) (by rw [← rd_step hr0.1, ← hfin]; exact hM) (by omega) (by intro hz9; first | (exfalso; omega) | (rw [← rd_step hr0.1]; first | exact rnS_stop (by omega) (by rw [← hfin, ← hM.2]; omega) | (rcases hpr with e | e; (rw [e]; exact e); (exfalso; omega)))) (by intro hz9; omega) (by omega) _ _ _ hw (lv_sub hl [0, 2, 3, 4, 5, 6, 7, 8] rfl)
                          · refine j_iconst J (1) dX10_digs_199 ?_
                            refine j_goto J 204 dX10_digs_200 (by decide) ?_
                            refine j_istore J (lv' := [(7, .int (I 1)), (9, .int (I x)), (0, .ref (ad 0)), (1, .int (I row)), (2, .int (I a)), (3, .int (I b)), (4, .int (I w)), (5, .int (I lq)), (6, .int (I 1)), (8, .int (I ld))]) hl dX10_digs_204 (by decide) rfl (fun ls hl => ?_)
                            refine j_goto J 72 dX10_digs_206 (by decide) ?_
                            exact ih72 τ lq 1 (r + 1) (by omega) (by rw [← rd_step hr0.1, ← hfin]; exact hM) (by omega) (by intro hz9; first | (exfalso; omega) | (rw [← rd_step hr0.1]; first | exact rnS_stop (by omega) (by rw [← hfin, ← hM.2]; omega) | (rcases hpr with e | e; (rw [e]; exact e); (exfalso; omega)))) (by intro hz9; omega) (by omega) _ _ _ hw (lv_sub hl [0, 2, 3, 4, 5, 6, 7, 8] rfl)
                      · refine j_iload J dX10_digs_93 (lv_at hl 6 rfl) ?_
                        refine j_iload J dX10_digs_95 (lv_at hl 5 rfl) ?_
                        refine j_icmp_ge J 185 (show rg lq by unfold rg; omega) (show rg w by unfold rg; omega) dX10_digs_97 (by decide) (fun (h_27 : w ≤ lq) => ?_) (fun (h_27 : lq < w) => ?_)
                        · have hfin : rn (rd (p0S σ row a) a b w (σ 0 0) r) a (1) w (σ 0 0) i = rnS (rd (p0S σ row a) a b w (σ 0 0) r) a b w (σ 0 0) := by first | (exfalso; omega) | (unfold rnS; (first | rw [if_pos (show a ≤ b by omega)] | rw [if_neg (show ¬ a ≤ b by omega)]); first | exact rn_stop hi0.1 (by omega) (by rw [← hM.2]; omega) | (rw [show i = absI (b - a) + 1 by omega]))
                          have hfl := congrFun (congrFun hfin 18) 11
                          refine j_iload J dX10_digs_185 (lv_at hl 6 rfl) ?_
                          refine j_iload J dX10_digs_187 (lv_at hl 8 rfl) ?_
                          refine j_icmp_le J 203 (show rg lq by unfold rg; omega) (show rg ld by unfold rg; omega) dX10_digs_189 (by decide) (fun (h_28 : lq ≤ ld) => ?_) (fun (h_28 : ld < lq) => ?_)
                          · refine j_iconst J (0) dX10_digs_203 ?_
                            refine j_istore J (lv' := [(7, .int (I 0)), (9, .int (I x)), (0, .ref (ad 0)), (1, .int (I row)), (2, .int (I a)), (3, .int (I b)), (4, .int (I w)), (5, .int (I lq)), (6, .int (I 1)), (8, .int (I ld))]) hl dX10_digs_204 (by decide) rfl (fun ls hl => ?_)
                            refine j_goto J 72 dX10_digs_206 (by decide) ?_
                            exact ih72 τ lq 0 (r + 1) (by omega) (by rw [← rd_step hr0.1, ← hfin]; exact hM) (by omega) (by intro hz9; first | (exfalso; omega) | (rw [← rd_step hr0.1]; first | exact rnS_stop (by omega) (by rw [← hfin, ← hM.2]; omega) | (rcases hpr with e | e; (rw [e]; exact e); (exfalso; omega)))) (by intro hz9; omega) (by omega) _ _ _ hw (lv_sub hl [0, 2, 3, 4, 5, 6, 7, 8] rfl)
                          · refine j_iload J dX10_digs_192 (lv_at hl 6 rfl) ?_
                            refine j_iload J dX10_digs_194 (lv_at hl 5 rfl) ?_
                            refine j_icmp_ge J 203 (show rg lq by unfold rg; omega) (show rg w by unfold rg; omega) dX10_digs_196 (by decide) (fun (h_29 : w ≤ lq) => ?_) (fun (h_29 : lq < w) => ?_)
                            · refine j_iconst J (0) dX10_digs_203 ?_
                              refine j_istore J (lv' := [(7, .int (I 0)), (9, .int (I x)), (0, .ref (ad 0)), (1, .int (I row)), (2, .int (I a)), (3, .int (I b)), (4, .int (I w)), (5, .int (I lq)), (6, .int (I 1)), (8, .int (I ld))]) hl dX10_digs_204 (by decide) rfl (fun ls hl => ?_)
                              refine j_goto J 72 dX10_digs_206 (by decide) ?_
                              exact ih72 τ lq 0 (r + 1) (by omega) (by rw [← rd_step hr0.1, ← hfin]; exact hM) (by omega) (by intro hz9; first | (exfalso; omega) | (rw [← rd_step hr0.1]; first | exact rnS_stop (by omega) (by rw [← hfin, ← hM.2]; omega) | (rcases hpr with e | e; (rw [e]; exact e); (exfalso; omega)))) (by intro hz9; omega) (by omega) _ _ _ hw (lv_sub hl [0, 2, 3, 4, 5, 6, 7, 8] rfl)
                            · refine j_iconst J (1) dX10_digs_199 ?_
                              refine j_goto J 204 dX10_digs_200 (by decide) ?_
                              refine j_istore J (lv' := [(7, .int (I 1)), (9, .int (I x)), (0, .ref (ad 0)), (1, .int (I row)), (2, .int (I a)), (3, .int (I b)), (4, .int (I w)), (5, .int (I lq)), (6, .int (I 1)), (8, .int (I ld))]) hl dX10_digs_204 (by decide) rfl (fun ls hl => ?_)
                              refine j_goto J 72 dX10_digs_206 (by decide) ?_
                              exact ih72 τ lq 1 (r + 1) (by omega) (by rw [← rd_step hr0.1, ← hfin]; exact hM) (by omega) (by intro hz9; first | (exfalso; omega) | (rw [← rd_step hr0.1]; first | exact rnS_stop (by omega) (by rw [← hfin, ← hM.2]; omega) | (rcases hpr with e | e; (rw [e]; exact e); (exfalso; omega)))) (by intro hz9; omega) (by omega) _ _ _ hw (lv_sub hl [0, 2, 3, 4, 5, 6, 7, 8] rfl)
                        · have hxr : 0 ≤ x ∧ x < σ 18 0 := by omega
                          have hci := cell_in hr.1 hr.2 hxr.1 hxr.2
                          have e2 := q2 hM.1.1 (row * σ 18 0 + x); have e1 := q1 hM.1.1 (row * σ 18 0 + x); have e00 := q0 hM.1.1 0
                          have e6 := hM.1.2.1 x hxr.1 hxr.2
                          have b1 := hB.depth (row * σ 18 0 + x); have b2 := hB.design (row * σ 18 0 + x)
                          have b9 := hfw.2.2.1 x hxr.1 (by omega)
                          refine j_iload_n J dX10_digs_100 rfl (lv_at hl 2 rfl) ?_
                          refine j_aload_n J dX10_digs_101 rfl (lv_at hl 1 rfl) ?_
                          refine mg_10_0 J hw lk_X10_7 dX10_digs_102 ?_
                          refine j_imul J dX10_digs_105 ?_
                          refine j_iload J dX10_digs_106 (lv_at hl 0 rfl) ?_
                          refine j_iadd J dX10_digs_108 ?_
                          rw [d0]
                          refine j_istore J (lv' := [(10, .int (I (row * σ 18 0 + x))), (9, .int (I x)), (0, .ref (ad 0)), (1, .int (I row)), (2, .int (I a)), (3, .int (I b)), (4, .int (I w)), (5, .int (I lq)), (6, .int (I 1)), (8, .int (I ld))]) hl dX10_digs_109 (by decide) rfl (fun ls hl => ?_)
                          refine j_aload_n J dX10_digs_111 rfl (lv_at hl 2 rfl) ?_
                          refine mg_10_3 J hw lk_X10_20 dX10_digs_112 ?_
                          refine j_iload J dX10_digs_115 (lv_at hl 0 rfl) ?_
                          refine ma_ld_2 J hw (show 0 ≤ row * σ 18 0 + x ∧ (row * σ 18 0 + x) < ((120 : Nat) : Int) from by omega) dX10_digs_117 ?_
                          refine j_if_le J 175 (show rg (τ 2 (row * σ 18 0 + x)) by unfold rg; omega) dX10_digs_118 (by decide) (fun (h_30 : (τ 2 (row * σ 18 0 + x)) ≤ 0) => ?_) (fun (h_30 : 0 < (τ 2 (row * σ 18 0 + x))) => ?_)
                          · refine j_iload J dX10_digs_175 (lv_at hl 1 rfl) ?_
                            refine j_iload J dX10_digs_177 (lv_at hl 8 rfl) ?_
                            refine j_iadd J dX10_digs_179 ?_
                            refine j_istore J (lv' := [(9, .int (I (x + 1))), (10, .int (I (row * σ 18 0 + x))), (0, .ref (ad 0)), (1, .int (I row)), (2, .int (I a)), (3, .int (I b)), (4, .int (I w)), (5, .int (I lq)), (6, .int (I 1)), (8, .int (I ld))]) hl dX10_digs_180 (by decide) rfl (fun ls hl => ?_)
                            refine j_goto J 84 dX10_digs_182 (by decide) ?_
                            exact ih84 τ lq (x + 1) (i + 1) (by omega) (by omega) (by rw [← rn_step hi0.1 (by omega), ← hx]; first | exact ⟨hy.1, by rw [hy.2]; omega⟩ | (rw [mr_no hqE hq10 b9.1 hB (by omega)]; exact hM) | (exfalso; omega)) (by omega) _ _ _ hw (lv_sub hl [0, 2, 3, 4, 5, 6, 7, 8, 9] rfl)
                          · refine j_aload_n J dX10_digs_121 rfl (lv_at hl 2 rfl) ?_
                            refine mg_10_2 J hw lk_X10_16 dX10_digs_122 ?_
                            refine j_iload J dX10_digs_125 (lv_at hl 0 rfl) ?_
                            refine ma_ld_1 J hw (show 0 ≤ row * σ 18 0 + x ∧ (row * σ 18 0 + x) < ((120 : Nat) : Int) from by omega) dX10_digs_127 ?_
                            refine j_aload_n J dX10_digs_128 rfl (lv_at hl 2 rfl) ?_
                            refine mg_10_6 J hw lk_X10_29 dX10_digs_129 ?_
                            refine j_iload J dX10_digs_132 (lv_at hl 0 rfl) ?_
                            refine ma_ld_6 J hw (show 0 ≤ row * σ 18 0 + x ∧ (row * σ 18 0 + x) < ((120 : Nat) : Int) from by omega) dX10_digs_134 ?_
                            refine j_iadd J dX10_digs_135 ?_
                            refine j_iconst J (1) dX10_digs_136 ?_
                            refine j_iadd J dX10_digs_137 ?_
                            refine j_aload_n J dX10_digs_138 rfl (lv_at hl 2 rfl) ?_
                            refine mg_10_3 J hw lk_X10_20 dX10_digs_139 ?_
                            refine j_iload J dX10_digs_142 (lv_at hl 0 rfl) ?_
                            refine ma_ld_2 J hw (show 0 ≤ row * σ 18 0 + x ∧ (row * σ 18 0 + x) < ((120 : Nat) : Int) from by omega) dX10_digs_144 ?_
                            refine j_aload_n J dX10_digs_145 rfl (lv_at hl 2 rfl) ?_
                            refine mg_10_7 J hw lk_X10_32 dX10_digs_146 ?_
                            refine j_iconst J (0) dX10_digs_149 ?_
                            refine ma_ld_0 J hw (show 0 ≤ 0 ∧ 0 < ((5 : Nat) : Int) from by omega) dX10_digs_150 ?_
                            refine j_iadd J dX10_digs_151 ?_
                            refine j_icmp_gt J 175 (show rg (((τ 1 (row * σ 18 0 + x)) + (τ 6 (row * σ 18 0 + x))) + 1) by unfold rg; omega) (show rg ((τ 2 (row * σ 18 0 + x)) + (τ 0 0)) by unfold rg; omega) dX10_digs_152 (by decide) (fun (h_31 : ((τ 2 (row * σ 18 0 + x)) + (τ 0 0)) < (((τ 1 (row * σ 18 0 + x)) + (τ 6 (row * σ 18 0 + x))) + 1)) => ?_) (fun (h_31 : (((τ 1 (row * σ 18 0 + x)) + (τ 6 (row * σ 18 0 + x))) + 1) ≤ ((τ 2 (row * σ 18 0 + x)) + (τ 0 0))) => ?_)
                            · refine j_iload J dX10_digs_175 (lv_at hl 1 rfl) ?_
                              refine j_iload J dX10_digs_177 (lv_at hl 8 rfl) ?_
                              refine j_iadd J dX10_digs_179 ?_
                              refine j_istore J (lv' := [(9, .int (I (x + 1))), (10, .int (I (row * σ 18 0 + x))), (0, .ref (ad 0)), (1, .int (I row)), (2, .int (I a)), (3, .int (I b)), (4, .int (I w)), (5, .int (I lq)), (6, .int (I 1)), (8, .int (I ld))]) hl dX10_digs_180 (by decide) rfl (fun ls hl => ?_)
                              refine j_goto J 84 dX10_digs_182 (by decide) ?_
                              exact ih84 τ lq (x + 1) (i + 1) (by omega) (by omega) (by rw [← rn_step hi0.1 (by omega), ← hx]; first | exact ⟨hy.1, by rw [hy.2]; omega⟩ | (rw [mr_no hqE hq10 b9.1 hB (by omega)]; exact hM) | (exfalso; omega)) (by omega) _ _ _ hw (lv_sub hl [0, 2, 3, 4, 5, 6, 7, 8, 9] rfl)
                            · have hy := mr_yes (ov := σ 0 0) hB hM.1 hqE hq10 b9.1 hr hxr (by omega)
                              refine j_aload_n J dX10_digs_155 rfl (lv_at hl 2 rfl) ?_
                              refine mg_10_6 J hw lk_X10_29 dX10_digs_156 ?_
                              refine j_iload J dX10_digs_159 (lv_at hl 0 rfl) ?_
                              refine j_dup2 J dX10_digs_161 rfl rfl ?_
                              refine ma_ld_6 J hw (show 0 ≤ row * σ 18 0 + x ∧ (row * σ 18 0 + x) < ((120 : Nat) : Int) from by omega) dX10_digs_162 ?_
                              refine j_iconst J (1) dX10_digs_163 ?_
                              refine j_iadd J dX10_digs_164 ?_
                              refine ma_st_6 J hw (show 0 ≤ row * σ 18 0 + x ∧ (row * σ 18 0 + x) < ((120 : Nat) : Int) from by omega) dX10_digs_165 (fun H locs hw => ?_)
                              refine j_iinc J (lv' := [(5, .int (I (lq + 1))), (10, .int (I (row * σ 18 0 + x))), (9, .int (I x)), (0, .ref (ad 0)), (1, .int (I row)), (2, .int (I a)), (3, .int (I b)), (4, .int (I w)), (6, .int (I 1)), (8, .int (I ld))]) (k := 7) hl dX10_digs_166 rfl (by decide) rfl (fun ls hl => ?_)
                              refine j_aload_n J dX10_digs_169 rfl (lv_at hl 3 rfl) ?_
                              refine j_iload J dX10_digs_170 (lv_at hl 1 rfl) ?_
                              refine ms_10_26 J hw lk_X10_118 dX10_digs_172 (fun H locs hw => ?_)
                              refine j_iload J dX10_digs_175 (lv_at hl 2 rfl) ?_
                              refine j_iload J dX10_digs_177 (lv_at hl 8 rfl) ?_
                              refine j_iadd J dX10_digs_179 ?_
                              refine j_istore J (lv' := [(9, .int (I (x + 1))), (5, .int (I (lq + 1))), (10, .int (I (row * σ 18 0 + x))), (0, .ref (ad 0)), (1, .int (I row)), (2, .int (I a)), (3, .int (I b)), (4, .int (I w)), (6, .int (I 1)), (8, .int (I ld))]) hl dX10_digs_180 (by decide) rfl (fun ls hl => ?_)
                              refine j_goto J 84 dX10_digs_182 (by decide) ?_
                              exact ih84 (st (st τ 6 (row * σ 18 0 + x) ((τ 6 (row * σ 18 0 + x)) + 1)) 18 12 (row * σ 18 0 + x)) (lq + 1) (x + 1) (i + 1) (by omega) (by omega) (by rw [← rn_step hi0.1 (by omega), ← hx]; first | exact ⟨hy.1, by rw [hy.2]; omega⟩ | (rw [mr_no hqE hq10 b9.1 hB (by omega)]; exact hM) | (exfalso; omega)) (by omega) _ _ _ hw (lv_sub hl [0, 3, 4, 5, 6, 7, 1, 8, 9] rfl)
                  exact L84 _ τ ld a 0 (by omega) (by omega) (hM0) (Nat.lt_succ_self _) _ _ _ hw (lv_sub hl [0, 3, 4, 5, 6, 7, 8, 9, 1] rfl)
            exact L72 _ (st (fl σ 6 0 z) 18 12 ((row * (σ 18 0)) + a)) 0 0 0 (by omega) (⟨mr_0 hd hr (by omega), rfl⟩) (by omega) (by intro hz9; first | (exfalso; omega) | exact rnS_stop (by omega) (by show w ≤ 0; omega)) (by intro hz9; omega) (Nat.lt_succ_self _) _ _ _ hw (lv_sub hl [0, 3, 4, 5, 6, 7, 2, 1] rfl)
          · refine j_iconst J (1) dX10_digs_65 ?_
            refine j_goto J 70 dX10_digs_66 (by decide) ?_
            refine j_istore J (lv' := [(7, .int (I 1)), (6, .int (I 1)), (5, .int (I 0)), (0, .ref (ad 0)), (1, .int (I row)), (2, .int (I a)), (3, .int (I b)), (4, .int (I w))]) hl dX10_digs_70 (by decide) rfl (fun ls hl => ?_)
            have L72 : ∀ n : Nat, ∀ (τ : St) (ld : Int) (on : Int) (r : Int), (0 ≤ r ∧ r ≤ 200) → (MR σ row (rd (p0S σ row a) a b w (σ 0 0) r) τ ∧ ld = rd (p0S σ row a) a b w (σ 0 0) r 18 11) → (on = 0 ∨ on = 1) → (on = 0 → rnS (rd (p0S σ row a) a b w (σ 0 0) r) a b w (σ 0 0) = rd (p0S σ row a) a b w (σ 0 0) r) → (on = 1 → r ≤ ld ∧ ld < w) → ((200 - r).toNat) < n → ∀ (H : Heap) (locs : List Loc) (ls : Array Slot), jW D (AD ad 45) s.heap (wsM cI cZ ad τ) H locs → lv_has ls 11 [(7, .int (I on)), (0, .ref (ad 0)), (1, .int (I row)), (2, .int (I a)), (3, .int (I b)), (4, .int (I w)), (5, .int (I ld)), (6, .int (I 1))] → W p l e rm_X10_digs s m args below meth c H locs 0 0 Q (F0 m 72 ls []) := by
              intro n
              induction n with
              | zero =>
                intro τ ld on r hr0 hM0 hon h40 h51 hm H locs ls hw hl
                exact absurd hm (Nat.not_lt_zero _)
              | succ n ih =>
                intro τ ld on r hr0 hM0 hon h40 h51 hm H locs ls hw hl
                have ih72 := ih
                have hf := rd_facts (σ := p0S σ row a) (a := a) (b := b) (w := w) (ov := σ 0 0) (n := r) (hB.eqp p0_eqp) hov hw0.2 (by omega) hr0.1 p0_hp (by show (0 : Int) ≤ 200; decide)
                have hEq := hf.1.tr p0_eqp
                have hBq := hB.eqp hEq
                have hl0 : 0 ≤ rd (p0S σ row a) a b w (σ 0 0) r 18 11 := hf.2.2.2.1
                have hl9 := hf.2.2.2.2
                have hpr := (rnS_facts (a := a) (b := b) (w := w) (ov := σ 0 0) hBq hov hw0.2 (by omega) hf.2.2.1 hf.2.2.2.2).2.2.2.2.2
                refine j_iload J dX10_digs_72 (lv_at hl 0 rfl) ?_
                refine j_if_eq J 209 (show rg on by unfold rg; omega) dX10_digs_74 (by decide) (fun (h_32 : on = 0) => ?_) (fun (h_32 : ¬ on = 0) => ?_)
                · refine j_iload J dX10_digs_209 (lv_at hl 6 rfl) ?_
                  exact fin _ (τ) _ _ _ _ dX10_digs_211 rfl (⟨by rw [hM0.2, rd_stop hr0.1 hr0.2 (h40 (by omega))], by rw [← rd_stop hr0.1 hr0.2 (h40 (by omega))]; exact hM0.1⟩) hw
                · have h5 := h51 (by omega); have hM9 := hM0.2
                  refine j_iload J dX10_digs_77 (lv_at hl 6 rfl) ?_
                  refine j_istore J (lv' := [(8, .int (I ld)), (7, .int (I on)), (0, .ref (ad 0)), (1, .int (I row)), (2, .int (I a)), (3, .int (I b)), (4, .int (I w)), (5, .int (I ld)), (6, .int (I 1))]) hl dX10_digs_79 (by decide) rfl (fun ls hl => ?_)
                  refine j_iload_n J dX10_digs_81 rfl (lv_at hl 4 rfl) ?_
                  refine j_istore J (lv' := [(9, .int (I a)), (8, .int (I ld)), (7, .int (I on)), (0, .ref (ad 0)), (1, .int (I row)), (2, .int (I a)), (3, .int (I b)), (4, .int (I w)), (5, .int (I ld)), (6, .int (I 1))]) hl dX10_digs_82 (by decide) rfl (fun ls hl => ?_)
                  have L84 : ∀ n : Nat, ∀ (τ : St) (lq : Int) (x : Int) (i : Int), (0 ≤ i ∧ i ≤ absI (b - a) + 1) → (x = a + i * (1)) → (MR σ row (rn (rd (p0S σ row a) a b w (σ 0 0) r) a (1) w (σ 0 0) i) τ ∧ lq = rn (rd (p0S σ row a) a b w (σ 0 0) r) a (1) w (σ 0 0) i 18 11) → ((absI (b - a) + 1 - i).toNat) < n → ∀ (H : Heap) (locs : List Loc) (ls : Array Slot), jW D (AD ad 45) s.heap (wsM cI cZ ad τ) H locs → lv_has ls 11 [(9, .int (I x)), (0, .ref (ad 0)), (1, .int (I row)), (2, .int (I a)), (3, .int (I b)), (4, .int (I w)), (5, .int (I lq)), (6, .int (I 1)), (8, .int (I ld))] → W p l e rm_X10_digs s m args below meth c H locs 0 0 Q (F0 m 84 ls []) := by
                    intro n
                    induction n with
                    | zero =>
                      intro τ lq x i hi0 hx hM hm H locs ls hw hl
                      exact absurd hm (Nat.not_lt_zero _)
                    | succ n ih =>
                      intro τ lq x i hi0 hx hM hm H locs ls hw hl
                      have ih84 := ih
                      have hfw := rn_facts (σ := rd (p0S σ row a) a b w (σ 0 0) r) (a := a) (s := 1) (w := w) (ov := σ 0 0) (n := i) hBq hov hw0.2 hi0.1 hf.2.2.1 hf.2.2.2.2
                      have hqE : Eqp (rn (rd (p0S σ row a) a b w (σ 0 0) r) a (1) w (σ 0 0) i) σ := hfw.1.tr hEq
                      have hq10 : rn (rd (p0S σ row a) a b w (σ 0 0) r) a (1) w (σ 0 0) i 18 10 = row := hfw.2.1.trans hf.2.1
                      have hqs := hfw.2.2.2.1; have hqt := hfw.2.2.2.2.1
                      have d0 : τ 18 0 = σ 18 0 := qs hM.1.1 0 (by decide)
                      have hML := hM.2
                      refine j_iload J dX10_digs_84 (lv_at hl 0 rfl) ?_
                      refine j_iload_n J dX10_digs_86 rfl (lv_at hl 4 rfl) ?_
                      refine j_iload J dX10_digs_87 (lv_at hl 7 rfl) ?_
                      refine j_iadd J dX10_digs_89 ?_
                      refine j_icmp_eq J 185 (show rg x by unfold rg; omega) (show rg (b + 1) by unfold rg; omega) dX10_digs_90 (by decide) (fun (h_33 : x = (b + 1)) => ?_) (fun (h_33 : ¬ x = (b + 1)) => ?_)
                      · have hfin : rn (rd (p0S σ row a) a b w (σ 0 0) r) a (1) w (σ 0 0) i = rnS (rd (p0S σ row a) a b w (σ 0 0) r) a b w (σ 0 0) := by first | (exfalso; omega) | (unfold rnS; (first | rw [if_pos (show a ≤ b by omega)] | rw [if_neg (show ¬ a ≤ b by omega)]); first | exact rn_stop hi0.1 (by omega) (by rw [← hM.2]; omega) | (rw [show i = absI (b - a) + 1 by omega]))
                        have hfl := congrFun (congrFun hfin 18) 11
                        refine j_iload J dX10_digs_185 (lv_at hl 6 rfl) ?_
                        refine j_iload J dX10_digs_187 (lv_at hl 8 rfl) ?_
                        refine j_icmp_le J 203 (show rg lq by unfold rg; omega) (show rg ld by unfold rg; omega) dX10_digs_189 (by decide) (fun (h_34 : lq ≤ ld) => ?_) (fun (h_34 : ld < lq) => ?_)
                        · refine j_iconst J (0) dX10_digs_203 ?_
                          refine j_istore J (lv' := [(7, .int (I 0)), (9, .int (I x)), (0, .ref (ad 0)), (1, .int (I row)), (2, .int (I a)), (3, .int (I b)), (4, .int (I w)), (5, .int (I lq)), (6, .int (I 1)), (8, .int (I ld))]) hl dX10_digs_204 (by decide) rfl (fun ls hl => ?_)
                          refine j_goto J 72 dX10_digs_206 (by decide) ?_
                          exact ih72 τ lq 0 (r + 1) (by omega) (by rw [← rd_step hr0.1, ← hfin]; exact hM) (by omega) (by intro hz9; first | (exfalso; omega) | (rw [← rd_step hr0.1]; first | exact rnS_stop (by omega) (by rw [← hfin, ← hM.2]; omega) | (rcases hpr with e | e; (rw [e]; exact e); (exfalso; omega)))) (by intro hz9; omega) (by omega) _ _ _ hw (lv_sub hl [0, 2, 3, 4, 5, 6, 7, 8] rfl)
                        · refine j_iload J dX10_digs_192 (lv_at hl 6 rfl) ?_
                          refine j_iload J dX10_digs_194 (lv_at hl 5 rfl) ?_
                          refine j_icmp_ge J 203 (show rg lq by unfold rg; omega) (show rg w by unfold rg; omega) dX10_digs_196 (by decide) (fun (h_35 : w ≤ lq) => ?_) (fun (h_35 : lq < w) => ?_)
                          · refine j_iconst J (0) dX10_digs_203 ?_
                            refine j_istore J (lv' := [(7, .int (I 0)), (9, .int (I x)), (0, .ref (ad 0)), (1, .int (I row)), (2, .int (I a)), (3, .int (I b)), (4, .int (I w)), (5, .int (I lq)), (6, .int (I 1)), (8, .int (I ld))]) hl dX10_digs_204 (by decide) rfl (fun ls hl => ?_)
                            refine j_goto J 72 dX10_digs_206 (by decide) ?_
                            exact ih72 τ lq 0 (r + 1) (by omega) (by rw [← rd_step hr0.1, ← hfin]; exact hM) (by omega) (by intro hz9; first | (exfalso; omega) | (rw [← rd_step hr0.1]; first | exact rnS_stop (by omega) (by rw [← hfin, ← hM.2]; omega) | (rcases hpr with e | e; (rw [e]; exact e); (exfalso; omega)))) (by intro hz9; omega) (by omega) _ _ _ hw (lv_sub hl [0, 2, 3, 4, 5, 6, 7, 8] rfl)
                          · refine j_iconst J (1) dX10_digs_199 ?_
                            refine j_goto J 204 dX10_digs_200 (by decide) ?_
                            refine j_istore J (lv' := [(7, .int (I 1)), (9, .int (I x)), (0, .ref (ad 0)), (1, .int (I row)), (2, .int (I a)), (3, .int (I b)), (4, .int (I w)), (5, .int (I lq)), (6, .int (I 1)), (8, .int (I ld))]) hl dX10_digs_204 (by decide) rfl (fun ls hl => ?_)
                            refine j_goto J 72 dX10_digs_206 (by decide) ?_
                            exact ih72 τ lq 1 (r + 1) (by omega) (by rw [← rd_step hr0.1, ← hfin]; exact hM) (by omega) (by intro hz9; first | (exfalso; omega) | (rw [← rd_step hr0.1]; first | exact rnS_stop (by omega) (by rw [← hfin, ← hM.2]; omega) | (rcases hpr with e | e; (rw [e]; exact e); (exfalso; omega)))) (by intro hz9; omega) (by omega) _ _ _ hw (lv_sub hl [0, 2, 3, 4, 5, 6, 7, 8] rfl)
                      · refine j_iload J dX10_digs_93 (lv_at hl 6 rfl) ?_
                        refine j_iload J dX10_digs_95 (lv_at hl 5 rfl) ?_
                        refine j_icmp_ge J 185 (show rg lq by unfold rg; omega) (show rg w by unfold rg; omega) dX10_digs_97 (by decide) (fun (h_36 : w ≤ lq) => ?_) (fun (h_36 : lq < w) => ?_)
                        · have hfin : rn (rd (p0S σ row a) a b w (σ 0 0) r) a (1) w (σ 0 0) i = rnS (rd (p0S σ row a) a b w (σ 0 0) r) a b w (σ 0 0) := by first | (exfalso; omega) | (unfold rnS; (first | rw [if_pos (show a ≤ b by omega)] | rw [if_neg (show ¬ a ≤ b by omega)]); first | exact rn_stop hi0.1 (by omega) (by rw [← hM.2]; omega) | (rw [show i = absI (b - a) + 1 by omega]))
                          have hfl := congrFun (congrFun hfin 18) 11
                          refine j_iload J dX10_digs_185 (lv_at hl 6 rfl) ?_
                          refine j_iload J dX10_digs_187 (lv_at hl 8 rfl) ?_
                          refine j_icmp_le J 203 (show rg lq by unfold rg; omega) (show rg ld by unfold rg; omega) dX10_digs_189 (by decide) (fun (h_37 : lq ≤ ld) => ?_) (fun (h_37 : ld < lq) => ?_)
                          · refine j_iconst J (0) dX10_digs_203 ?_
                            refine j_istore J (lv' := [(7, .int (I 0)), (9, .int (I x)), (0, .ref (ad 0)), (1, .int (I row)), (2, .int (I a)), (3, .int (I b)), (4, .int (I w)), (5, .int (I lq)), (6, .int (I 1)), (8, .int (I ld))]) hl dX10_digs_204 (by decide) rfl (fun ls hl => ?_)
                            refine j_goto J 72 dX10_digs_206 (by decide) ?_
                            exact ih72 τ lq 0 (r + 1) (by omega) (by rw [← rd_step hr0.1, ← hfin]; exact hM) (by omega) (by intro hz9; first | (exfalso; omega) | (rw [← rd_step hr0.1]; first | exact rnS_stop (by omega) (by rw [← hfin, ← hM.2]; omega) | (rcases hpr with e | e; (rw [e]; exact e); (exfalso; omega)))) (by intro hz9; omega) (by omega) _ _ _ hw (lv_sub hl [0, 2, 3, 4, 5, 6, 7, 8] rfl)
                          · refine j_iload J dX10_digs_192 (lv_at hl 6 rfl) ?_
                            refine j_iload J dX10_digs_194 (lv_at hl 5 rfl) ?_
                            refine j_icmp_ge J 203 (show rg lq by unfold rg; omega) (show rg w by unfold rg; omega) dX10_digs_196 (by decide) (fun (h_38 : w ≤ lq) => ?_) (fun (h_38 : lq < w) => ?_)
                            · refine j_iconst J (0) dX10_digs_203 ?_
                              refine j_istore J (lv' := [(7, .int (I 0)), (9, .int (I x)), (0, .ref (ad 0)), (1, .int (I row)), (2, .int (I a)), (3, .int (I b)), (4, .int (I w)), (5, .int (I lq)), (6, .int (I 1)), (8, .int (I ld))]) hl dX10_digs_204 (by decide) rfl (fun ls hl => ?_)
                              refine j_goto J 72 dX10_digs_206 (by decide) ?_
                              exact ih72 τ lq 0 (r + 1) (by omega) (by rw [← rd_step hr0.1, ← hfin]; exact hM) (by omega) (by intro hz9; first | (exfalso; omega) | (rw [← rd_step hr0.1]; first | exact rnS_stop (by omega) (by rw [← hfin, ← hM.2]; omega) | (rcases hpr with e | e; (rw [e]; exact e); (exfalso; omega)))) (by intro hz9; omega) (by omega) _ _ _ hw (lv_sub hl [0, 2, 3, 4, 5, 6, 7, 8] rfl)
                            · refine j_iconst J (1) dX10_digs_199 ?_
                              refine j_goto J 204 dX10_digs_200 (by decide) ?_
                              refine j_istore J (lv' := [(7, .int (I 1)), (9, .int (I x)), (0, .ref (ad 0)), (1, .int (I row)), (2, .int (I a)), (3, .int (I b)), (4, .int (I w)), (5, .int (I lq)), (6, .int (I 1)), (8, .int (I ld))]) hl dX10_digs_204 (by decide) rfl (fun ls hl => ?_)
                              refine j_goto J 72 dX10_digs_206 (by decide) ?_
                              exact ih72 τ lq 1 (r + 1) (by omega) (by rw [← rd_step hr0.1, ← hfin]; exact hM) (by omega) (by intro hz9; first | (exfalso; omega) | (rw [← rd_step hr0.1]; first | exact rnS_stop (by omega) (by rw [← hfin, ← hM.2]; omega) | (rcases hpr with e | e; (rw [e]; exact e); (exfalso; omega)))) (by intro hz9; omega) (by omega) _ _ _ hw (lv_sub hl [0, 2, 3, 4, 5, 6, 7, 8] rfl)
                        · have hxr : 0 ≤ x ∧ x < σ 18 0 := by omega
                          have hci := cell_in hr.1 hr.2 hxr.1 hxr.2
                          have e2 := q2 hM.1.1 (row * σ 18 0 + x); have e1 := q1 hM.1.1 (row * σ 18 0 + x); have e00 := q0 hM.1.1 0
                          have e6 := hM.1.2.1 x hxr.1 hxr.2
                          have b1 := hB.depth (row * σ 18 0 + x); have b2 := hB.design (row * σ 18 0 + x)
                          have b9 := hfw.2.2.1 x hxr.1 (by omega)
                          refine j_iload_n J dX10_digs_100 rfl (lv_at hl 2 rfl) ?_
                          refine j_aload_n J dX10_digs_101 rfl (lv_at hl 1 rfl) ?_
                          refine mg_10_0 J hw lk_X10_7 dX10_digs_102 ?_
                          refine j_imul J dX10_digs_105 ?_
                          refine j_iload J dX10_digs_106 (lv_at hl 0 rfl) ?_
                          refine j_iadd J dX10_digs_108 ?_
                          rw [d0]
                          refine j_istore J (lv' := [(10, .int (I (row * σ 18 0 + x))), (9, .int (I x)), (0, .ref (ad 0)), (1, .int (I row)), (2, .int (I a)), (3, .int (I b)), (4, .int (I w)), (5, .int (I lq)), (6, .int (I 1)), (8, .int (I ld))]) hl dX10_digs_109 (by decide) rfl (fun ls hl => ?_)
                          refine j_aload_n J dX10_digs_111 rfl (lv_at hl 2 rfl) ?_
                          refine mg_10_3 J hw lk_X10_20 dX10_digs_112 ?_
                          refine j_iload J dX10_digs_115 (lv_at hl 0 rfl) ?_
                          refine ma_ld_2 J hw (show 0 ≤ row * σ 18 0 + x ∧ (row * σ 18 0 + x) < ((120 : Nat) : Int) from by omega) dX10_digs_117 ?_
                          refine j_if_le J 175 (show rg (τ 2 (row * σ 18 0 + x)) by unfold rg; omega) dX10_digs_118 (by decide) (fun (h_39 : (τ 2 (row * σ 18 0 + x)) ≤ 0) => ?_) (fun (h_39 : 0 < (τ 2 (row * σ 18 0 + x))) => ?_)
                          · refine j_iload J dX10_digs_175 (lv_at hl 1 rfl) ?_
                            refine j_iload J dX10_digs_177 (lv_at hl 8 rfl) ?_
                            refine j_iadd J dX10_digs_179 ?_
                            refine j_istore J (lv' := [(9, .int (I (x + 1))), (10, .int (I (row * σ 18 0 + x))), (0, .ref (ad 0)), (1, .int (I row)), (2, .int (I a)), (3, .int (I b)), (4, .int (I w)), (5, .int (I lq)), (6, .int (I 1)), (8, .int (I ld))]) hl dX10_digs_180 (by decide) rfl (fun ls hl => ?_)
                            refine j_goto J 84 dX10_digs_182 (by decide) ?_
                            exact ih84 τ lq (x + 1) (i + 1) (by omega) (by omega) (by rw [← rn_step hi0.1 (by omega), ← hx]; first | exact ⟨hy.1, by rw [hy.2]; omega⟩ | (rw [mr_no hqE hq10 b9.1 hB (by omega)]; exact hM) | (exfalso; omega)) (by omega) _ _ _ hw (lv_sub hl [0, 2, 3, 4, 5, 6, 7, 8, 9] rfl)
                          · refine j_aload_n J dX10_digs_121 rfl (lv_at hl 2 rfl) ?_
                            refine mg_10_2 J hw lk_X10_16 dX10_digs_122 ?_
                            refine j_iload J dX10_digs_125 (lv_at hl 0 rfl) ?_
                            refine ma_ld_1 J hw (show 0 ≤ row * σ 18 0 + x ∧ (row * σ 18 0 + x) < ((120 : Nat) : Int) from by omega) dX10_digs_127 ?_
                            refine j_aload_n J dX10_digs_128 rfl (lv_at hl 2 rfl) ?_
                            refine mg_10_6 J hw lk_X10_29 dX10_digs_129 ?_
                            refine j_iload J dX10_digs_132 (lv_at hl 0 rfl) ?_
                            refine ma_ld_6 J hw (show 0 ≤ row * σ 18 0 + x ∧ (row * σ 18 0 + x) < ((120 : Nat) : Int) from by omega) dX10_digs_134 ?_
                            refine j_iadd J dX10_digs_135 ?_
                            refine j_iconst J (1) dX10_digs_136 ?_
                            refine j_iadd J dX10_digs_137 ?_
                            refine j_aload_n J dX10_digs_138 rfl (lv_at hl 2 rfl) ?_
                            refine mg_10_3 J hw lk_X10_20 dX10_digs_139 ?_
                            refine j_iload J dX10_digs_142 (lv_at hl 0 rfl) ?_
                            refine ma_ld_2 J hw (show 0 ≤ row * σ 18 0 + x ∧ (row * σ 18 0 + x) < ((120 : Nat) : Int) from by omega) dX10_digs_144 ?_
                            refine j_aload_n J dX10_digs_145 rfl (lv_at hl 2 rfl) ?_
                            refine mg_10_7 J hw lk_X10_32 dX10_digs_146 ?_
                            refine j_iconst J (0) dX10_digs_149 ?_
                            refine ma_ld_0 J hw (show 0 ≤ 0 ∧ 0 < ((5 : Nat) : Int) from by omega) dX10_digs_150 ?_
                            refine j_iadd J dX10_digs_151 ?_
                            refine j_icmp_gt J 175 (show rg (((τ 1 (row * σ 18 0 + x)) + (τ 6 (row * σ 18 0 + x))) + 1) by unfold rg; omega) (show rg ((τ 2 (row * σ 18 0 + x)) + (τ 0 0)) by unfold rg; omega) dX10_digs_152 (by decide) (fun (h_40 : ((τ 2 (row * σ 18 0 + x)) + (τ 0 0)) < (((τ 1 (row * σ 18 0 + x)) + (τ 6 (row * σ 18 0 + x))) + 1)) => ?_) (fun (h_40 : (((τ 1 (row * σ 18 0 + x)) + (τ 6 (row * σ 18 0 + x))) + 1) ≤ ((τ 2 (row * σ 18 0 + x)) + (τ 0 0))) => ?_)
                            · refine j_iload J dX10_digs_175 (lv_at hl 1 rfl) ?_
                              refine j_iload J dX10_digs_177 (lv_at hl 8 rfl) ?_
                              refine j_iadd J dX10_digs_179 ?_
                              refine j_istore J (lv' := [(9, .int (I (x + 1))), (10, .int (I (row * σ 18 0 + x))), (0, .ref (ad 0)), (1, .int (I row)), (2, .int (I a)), (3, .int (I b)), (4, .int (I w)), (5, .int (I lq)), (6, .int (I 1)), (8, .int (I ld))]) hl dX10_digs_180 (by decide) rfl (fun ls hl => ?_)
                              refine j_goto J 84 dX10_digs_182 (by decide) ?_
                              exact ih84 τ lq (x + 1) (i + 1) (by omega) (by omega) (by rw [← rn_step hi0.1 (by omega), ← hx]; first | exact ⟨hy.1, by rw [hy.2]; omega⟩ | (rw [mr_no hqE hq10 b9.1 hB (by omega)]; exact hM) | (exfalso; omega)) (by omega) _ _ _ hw (lv_sub hl [0, 2, 3, 4, 5, 6, 7, 8, 9] rfl)
                            · have hy := mr_yes (ov := σ 0 0) hB hM.1 hqE hq10 b9.1 hr hxr (by omega)
                              refine j_aload_n J dX10_digs_155 rfl (lv_at hl 2 rfl) ?_
                              refine mg_10_6 J hw lk_X10_29 dX10_digs_156 ?_
                              refine j_iload J dX10_digs_159 (lv_at hl 0 rfl) ?_
                              refine j_dup2 J dX10_digs_161 rfl rfl ?_
                              refine ma_ld_6 J hw (show 0 ≤ row * σ 18 0 + x ∧ (row * σ 18 0 + x) < ((120 : Nat) : Int) from by omega) dX10_digs_162 ?_
                              refine j_iconst J (1) dX10_digs_163 ?_
                              refine j_iadd J dX10_digs_164 ?_
                              refine ma_st_6 J hw (show 0 ≤ row * σ 18 0 + x ∧ (row * σ 18 0 + x) < ((120 : Nat) : Int) from by omega) dX10_digs_165 (fun H locs hw => ?_)
                              refine j_iinc J (lv' := [(5, .int (I (lq + 1))), (10, .int (I (row * σ 18 0 + x))), (9, .int (I x)), (0, .ref (ad 0)), (1, .int (I row)), (2, .int (I a)), (3, .int (I b)), (4, .int (I w)), (6, .int (I 1)), (8, .int (I ld))]) (k := 7) hl dX10_digs_166 rfl (by decide) rfl (fun ls hl => ?_)
                              refine j_aload_n J dX10_digs_169 rfl (lv_at hl 3 rfl) ?_
                              refine j_iload J dX10_digs_170 (lv_at hl 1 rfl) ?_
                              refine ms_10_26 J hw lk_X10_118 dX10_digs_172 (fun H locs hw => ?_)
                              refine j_iload J dX10_digs_175 (lv_at hl 2 rfl) ?_
                              refine j_iload J dX10_digs_177 (lv_at hl 8 rfl) ?_
                              refine j_iadd J dX10_digs_179 ?_
                              refine j_istore J (lv' := [(9, .int (I (x + 1))), (5, .int (I (lq + 1))), (10, .int (I (row * σ 18 0 + x))), (0, .ref (ad 0)), (1, .int (I row)), (2, .int (I a)), (3, .int (I b)), (4, .int (I w)), (6, .int (I 1)), (8, .int (I ld))]) hl dX10_digs_180 (by decide) rfl (fun ls hl => ?_)
                              refine j_goto J 84 dX10_digs_182 (by decide) ?_
                              exact ih84 (st (st τ 6 (row * σ 18 0 + x) ((τ 6 (row * σ 18 0 + x)) + 1)) 18 12 (row * σ 18 0 + x)) (lq + 1) (x + 1) (i + 1) (by omega) (by omega) (by rw [← rn_step hi0.1 (by omega), ← hx]; first | exact ⟨hy.1, by rw [hy.2]; omega⟩ | (rw [mr_no hqE hq10 b9.1 hB (by omega)]; exact hM) | (exfalso; omega)) (by omega) _ _ _ hw (lv_sub hl [0, 3, 4, 5, 6, 7, 1, 8, 9] rfl)
                  exact L84 _ τ ld a 0 (by omega) (by omega) (hM0) (Nat.lt_succ_self _) _ _ _ hw (lv_sub hl [0, 3, 4, 5, 6, 7, 8, 9, 1] rfl)
            exact L72 _ (st (fl σ 6 0 z) 18 12 ((row * (σ 18 0)) + a)) 0 1 0 (by omega) (⟨mr_0 hd hr (by omega), rfl⟩) (by omega) (by intro hz9; first | (exfalso; omega) | exact rnS_stop (by omega) (by show w ≤ 0; omega)) (by intro hz9; omega) (Nat.lt_succ_self _) _ _ _ hw (lv_sub hl [0, 3, 4, 5, 6, 7, 2, 1] rfl)
      · refine j_aload_n J dX10_digs_17 rfl (lv_at hl 1 rfl) ?_
        refine mg_10_6 J hw lk_X10_29 dX10_digs_18 ?_
        refine j_iload J dX10_digs_21 (lv_at hl 0 rfl) ?_
        refine j_iconst J (0) dX10_digs_23 ?_
        refine ma_st_6 J hw (show 0 ≤ z ∧ z < ((120 : Nat) : Int) from by omega) dX10_digs_24 (fun H locs hw => ?_)
        refine j_iinc J (lv' := [(5, .int (I (z + 1))), (0, .ref (ad 0)), (1, .int (I row)), (2, .int (I a)), (3, .int (I b)), (4, .int (I w))]) (k := 0) hl dX10_digs_25 rfl (by decide) rfl (fun ls hl => ?_)
        refine j_goto J 3 dX10_digs_28 (by decide) ?_
        exact ih3 (z + 1) (by omega) (by omega) _ _ _ (by rw [← fl_step hz0.1]; exact hw) (lv_sub hl [0, 1, 2, 3, 4, 5] rfl)
  exact L3 _ 0 (by omega) (Nat.lt_succ_self _) _ _ _ (by rw [fl_0]; exact hw) (lv_sub hl [0, 1, 2, 3, 4, 5] rfl)
theorem k_X10_digs {p : Program} {l : Launch} {e : Env} {R : Room} {s : State} {m : MethodId} {args : Array Value} {below : List Frame} {meth : Method} {c : Code} {H : Heap} {locs : List Loc} {Q : State → Prop} {cc : ByteArray} {pc : Nat} {ls : Array Slot} {rest : List Value} {nL : Nat} {own : String} {D : va_G} {σ : St} {cI cZ : ClassId} {ad : Nat → Nat} {index : Nat} {row a b w : Int} (hD : ∀ τ, va_D (AD ad 45) (wsM cI cZ ad τ)) (hB : Bd σ) (hr : 0 ≤ row ∧ row < σ 18 1) (ha : 0 ≤ a ∧ a < σ 18 0) (hb : 0 ≤ b ∧ b < σ 18 0) (hw0 : 0 ≤ w ∧ w ≤ 200) (J : Jx p m c cc nL s args own D [(cI, .int), (cZ, .boolean)] (AD ad 45) (wsM cI cZ ad)) (hw : jW D (AD ad 45) s.heap (wsM cI cZ ad σ) H locs) (hsz : ls.size = nL) (hlk : Cond.methodLink own index yX10_digs ∈ TBw) (hR : 1 ≤ R.frames ∧ 30 ≤ R.locals) (hroom : (rest.map fun v => v.category).sum ≤ 8) (hdg : decode cc pc = .ok (.invokevirtual index, 3)) (kk : ∀ (r : Int) (τ : St) (H1 : Heap) (locs1 : List Loc), (fun r τ => r = rd (p0S σ row a) a b w (σ 0 0) 200 18 11 ∧ MR σ row (rd (p0S σ row a) a b w (σ 0 0) 200) τ) r τ → jW D (AD ad 45) s.heap (wsM cI cZ ad τ) H1 locs1 → W p l e R s m args below meth c H1 locs1 0 0 Q (F0 m (pc + 3) ls (.int (I r) :: rest))) : W p l e R s m args below meth c H locs 0 0 Q (F0 m pc ls (.int (I w) :: .int (I b) :: .int (I a) :: .int (I row) :: .ref (ad 0) :: rest)) := 
  j_callVi J hw (c_X10_digs  hD hB hr ha hb hw0) hlk in_X10_digs se_X10_digs ini_X10 co_X10_digs (n := 4) (by decide +kernel) ⟨rfl, rfl, hR.1, hR.2⟩ (j := 0) (ci := 10) rfl rfl rfl rfl hroom hsz ⟨Nat.zero_le _, Nat.zero_le _⟩ rfl hdg kk
