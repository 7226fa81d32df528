/-! the reference -/
def z4 (σ : St) (n : Int) : St := fl (fl (fl (fl σ 1 0 n) 2 0 n) 4 0 n) 5 0 n
theorem z4_0 {σ : St} : z4 σ 0 = σ := by unfold z4; rw [fl_0, fl_0, fl_0, fl_0]
theorem z4_step {σ : St} {n : Int} (h : 0 ≤ n) : st (st (st (st (z4 σ n) 1 n 0) 2 n 0) 4 n 0) 5 n 0 = z4 σ (n + 1) := by
  funext k i
  unfold z4 fl st
  dsimp only
  (repeat' split) <;> first | rfl | omega
def z3 (σ : St) (n : Int) : St := fl (fl (fl σ 11 1000 n) 12 2 n) 10 0 n
theorem z3_0 {σ : St} : z3 σ 0 = σ := by unfold z3; rw [fl_0, fl_0, fl_0]
theorem z3_step {σ : St} {n : Int} (h : 0 ≤ n) : st (st (st (z3 σ n) 11 n 1000) 12 n 2) 10 n 0 = z3 σ (n + 1) := by
  funext k i
  unfold z3 fl st
  dsimp only
  (repeat' split) <;> first | rfl | omega
theorem z4_nk {σ : St} {k : Nat} {i n : Int} (h1 : k ≠ 1) (h2 : k ≠ 2) (h4 : k ≠ 4) (h5 : k ≠ 5) : z4 σ n k i = σ k i := by
  unfold z4
  rw [fl_nk h5, fl_nk h4, fl_nk h2, fl_nk h1]
theorem z3_nk {σ : St} {k : Nat} {i n : Int} (h1 : k ≠ 10) (h2 : k ≠ 11) (h4 : k ≠ 12) : z3 σ n k i = σ k i := by
  unfold z3
  rw [fl_nk h1, fl_nk h4, fl_nk h2]
def anM (σ : St) : St := st (st (st (st (st (st (st (st (fl (tbS (z3 (fl (st (st (st (st (st (z4 σ 120) 0 0 5) 0 1 100) 0 2 50) 0 3 80) 0 4 0) 7 0 12) 3) 31) 17 0 6) 18 6 0) 18 7 0) 18 8 0) 18 9 0) 18 3 0) 18 4 0) 18 5 0) 18 2 0
theorem anS_neg {σ : St} {c r i : Int} (h : i < 0) : anS σ c r 18 i = σ 18 i := by
  show st (st (st (st (st (st (st (st (st (st σ 18 0 c) 18 1 r) 18 2 0) 18 3 0) 18 4 0) 18 5 0) 18 6 0) 18 7 0) 18 8 0) 18 9 0 18 i = σ 18 i
  rw [st_ni (by omega), st_ni (by omega), st_ni (by omega), st_ni (by omega), st_ni (by omega), st_ni (by omega), st_ni (by omega), st_ni (by omega), st_ni (by omega), st_ni (by omega)]
theorem an_sc {σ : St} (i : Int) (hi : i < 10) : anM σ 18 i = anS σ (σ 18 0) (σ 18 1) 18 i := by
  rcases (show i < 0 ∨ i = 0 ∨ i = 1 ∨ i = 2 ∨ i = 3 ∨ i = 4 ∨ i = 5 ∨ i = 6 ∨ i = 7 ∨ i = 8 ∨ i = 9 by omega) with h | rfl | rfl | rfl | rfl | rfl | rfl | rfl | rfl | rfl | rfl
  · rw [anS_neg h]
    unfold anM
    rw [st_ni (by omega), st_ni (by omega), st_ni (by omega), st_ni (by omega), st_ni (by omega), st_ni (by omega), st_ni (by omega), st_ni (by omega)]
    rfl
  all_goals rfl
theorem an_cr (σ : St) (c r : Int) : Eqp (anS (st (st σ 18 0 c) 18 1 r) c r) (anS σ c r) := by
  refine eqp_of (fun _ => rfl) (fun _ => rfl) (fun _ => rfl) (fun _ => rfl) (fun _ => rfl) (fun _ => rfl) (fun _ => rfl) (fun _ => rfl) (fun _ => rfl) (fun _ => rfl) (fun _ => rfl) (fun _ => rfl) (fun _ => rfl) (fun _ => rfl) (fun _ => rfl) (fun i hi => ?_) (fun k hk i => ?_)
  · rcases (show i < 0 ∨ i = 0 ∨ i = 1 ∨ i = 2 ∨ i = 3 ∨ i = 4 ∨ i = 5 ∨ i = 6 ∨ i = 7 ∨ i = 8 ∨ i = 9 by omega) with h | rfl | rfl | rfl | rfl | rfl | rfl | rfl | rfl | rfl | rfl
    · rw [anS_neg h, anS_neg h, st_ni (by omega), st_ni (by omega)]
    all_goals rfl
  · obtain ⟨n, rfl⟩ : ∃ n, k = n + 19 := ⟨k - 19, by omega⟩
    show st (st σ 18 0 c) 18 1 r (n + 19) i = σ (n + 19) i
    rw [st_nk (by omega), st_nk (by omega)]
theorem st_id {σ : St} {k : Nat} {i v : Int} (h : v = σ k i) : Eqp (st σ k i v) σ := by
  intro k2 i2 hp
  unfold st
  split
  · rename_i q; rw [q.1, q.2, h]
  · rfl
def hdM (σ : St) (t v n : Int) : St := hdS σ t v (min n t) 1 (max n (t + 1))
theorem hdM_0 {σ : St} {t v : Int} (ht : 1 ≤ t) : st σ 8 t v = hdM σ t v 1 := by
  unfold hdM
  rw [show min 1 t = 1 by omega, show max 1 (t + 1) = t + 1 by omega]
  funext k i
  unfold st hdS
  split
  · rw [if_neg (by omega), if_pos (by omega)]
  · rw [if_neg (by omega), if_neg (by omega), if_neg (by omega)]
theorem hdM_at {σ : St} {t v n : Int} (h1 : 1 ≤ n) : hdM σ t v n 8 n = if n = t then v else σ 8 n := by
  unfold hdM hdS
  by_cases h : n = t
  · rw [if_pos h, if_neg (by omega), if_pos (by omega)]
  · rw [if_neg h, if_neg (by omega), if_neg (by omega), if_neg (by omega)]
theorem hdM_step {σ : St} {t v n w : Int} (h1 : 1 ≤ n) (hw : w = if n = t then v else if n < t then min v (σ 8 n) else max v (σ 8 n)) : st (hdM σ t v n) 8 n w = hdM σ t v (n + 1) := by
  subst hw
  funext k i
  unfold st
  by_cases h : k = 8 ∧ i = n
  · rw [if_pos h]
    unfold hdM hdS
    by_cases a : n = t
    · rw [if_pos a, if_neg (by omega), if_pos (by omega)]
    · rw [if_neg a]
      by_cases b : n < t
      · rw [if_pos b, if_pos (by omega), h.2]
      · rw [if_neg b, if_neg (by omega), if_neg (by omega), if_pos (by omega), h.2]
  · rw [if_neg h]
    unfold hdM hdS
    by_cases a : k = 8 ∧ 1 ≤ i ∧ i < min n t
    · rw [if_pos a, if_pos (by omega)]
    · rw [if_neg a, if_neg (show ¬ (k = 8 ∧ 1 ≤ i ∧ i < min (n + 1) t) by omega)]
      by_cases b : k = 8 ∧ i = t ∧ (1 : Int) = 1
      · rw [if_pos b, if_pos b]
      · rw [if_neg b, if_neg b]
        by_cases c : k = 8 ∧ t < i ∧ i < max n (t + 1)
        · rw [if_pos c, if_pos (by omega)]
        · rw [if_neg c, if_neg (by omega)]
theorem hdM_jw {D : va_G} {A : Nat → Prop} {H0 H : Heap} {locs : List Loc} {cI cZ : ClassId} {ad : Nat → Nat} {σ : St} {t v n w : Int} (h1 : 1 ≤ n) (hw : jW D A H0 (wsM cI cZ ad (st (hdM σ t v n) 8 n w)) H locs) (he : w = if n = t then v else if n < t then min v (σ 8 n) else max v (σ 8 n)) : jW D A H0 (wsM cI cZ ad (hdM σ t v (n + 1))) H locs := by
  rw [← hdM_step h1 he]
  exact hw
def btF (σ : St) (sh tt wh : Int) : Int → Int := if wh = 0 then volF σ sh tt else if wh = 1 then payF σ sh tt (σ 0 0) else unkF σ sh tt
theorem btF_0 {σ : St} {sh tt wh : Int} (h : wh = 0) : btF σ sh tt wh = volF σ sh tt := if_pos h
theorem btF_1 {σ : St} {sh tt wh : Int} (h : wh = 1) : btF σ sh tt wh = payF σ sh tt (σ 0 0) := by unfold btF; rw [if_neg (by omega), if_pos h]
theorem btF_2 {σ : St} {sh tt wh : Int} (h : wh = 2) : btF σ sh tt wh = unkF σ sh tt := by unfold btF; rw [if_neg (by omega), if_neg (by omega)]
theorem btF0 {σ : St} {sh tt wh i : Int} (h : wh = 0) : btF σ sh tt wh i = (if (¬ σ 16 (sh * 120 + i) = -4 ∧ ¬ σ 16 (tt * 120 + i) = -4) then σ 16 (tt * 120 + i) - σ 16 (sh * 120 + i) else 0) := by rw [btF_0 h]; rfl
theorem btF1 {σ : St} {sh tt wh i : Int} (h : wh = 1) : btF σ sh tt wh i = (if 0 < σ 2 i ∧ (¬ σ 16 (sh * 120 + i) = -4 ∧ ¬ σ 16 (tt * 120 + i) = -4) ∧ σ 2 i ≤ σ 16 (tt * 120 + i) then max 0 (min (σ 16 (tt * 120 + i)) (σ 2 i + σ 0 0) - σ 16 (sh * 120 + i)) else 0) := by rw [btF_1 h]; rfl
theorem btF2 {σ : St} {sh tt wh i : Int} (h : wh = 2) : btF σ sh tt wh i = (if 0 < σ 2 i ∧ ¬ (¬ σ 16 (sh * 120 + i) = -4 ∧ ¬ σ 16 (tt * 120 + i) = -4) then 1 else 0) := by rw [btF_2 h]; rfl
def rm_X10_in : Room := { frames := 0, cells := 0, slots := 0, locals := 0 }
set_option maxHeartbeats 4000000 in
set_option maxRecDepth 100000 in
theorem c_X10_in {l : Launch} {D : va_G} {cI cZ : ClassId} {ad : Nat → Nat} {σ : St} {v lo hi : Int} (hD : ∀ τ, va_D (AD ad 45) (wsM cI cZ ad τ)) (r_v : rg v) (r_lo : rg lo) (r_hi : rg hi) : JMi l yX10_in cX10_in 3 (some .boolean) rm_X10_in D [(cI, .int), (cZ, .boolean)] (AD ad 45) (wsM cI cZ ad) [.int (I v), .int (I lo), .int (I hi)] σ (fun r τ => r = (if lo ≤ v ∧ v ≤ hi then 1 else 0) ∧ τ = σ) := by
  refine JMi.of RX10 (by decide +kernel) rfl (Nat.le_of_ble_eq_true rfl) hD ?_
  intro p e s m args below meth c Q J fin H ls hw hl
  generalize ([] : List Loc) = locs at hw ⊢
  have hl : lv_has ls 3 [(0, .int (I v)), (1, .int (I lo)), (2, .int (I hi))] := hl
  refine j_iload_n J dX10_in_0 rfl (lv_at hl 0 rfl) ?_
  refine j_iload_n J dX10_in_1 rfl (lv_at hl 1 rfl) ?_
  refine j_icmp_lt J 14 (by assumption) (by assumption) dX10_in_2 (by decide) (fun (h_1 : v < lo) => ?_) (fun (h_1 : lo ≤ v) => ?_)
  · refine j_iconst J (0) dX10_in_14 ?_
    exact fin _ (σ) _ _ _ _ dX10_in_15 rfl (⟨by first | exact (if_pos (by omega)).symm | exact (if_neg (by omega)).symm, rfl⟩) hw
  · refine j_iload_n J dX10_in_5 rfl (lv_at hl 0 rfl) ?_
    refine j_iload_n J dX10_in_6 rfl (lv_at hl 2 rfl) ?_
    refine j_icmp_gt J 14 (by assumption) (by assumption) dX10_in_7 (by decide) (fun (h_2 : hi < v) => ?_) (fun (h_2 : v ≤ hi) => ?_)
    · refine j_iconst J (0) dX10_in_14 ?_
      exact fin _ (σ) _ _ _ _ dX10_in_15 rfl (⟨by first | exact (if_pos (by omega)).symm | exact (if_neg (by omega)).symm, rfl⟩) hw
    · refine j_iconst J (1) dX10_in_10 ?_
      refine j_goto J 15 dX10_in_11 (by decide) ?_
      exact fin _ (σ) _ _ _ _ dX10_in_15 rfl (⟨by first | exact (if_pos (by omega)).symm | exact (if_neg (by omega)).symm, rfl⟩) hw
theorem k_X10_in {p : Program} {l : Launch} {e : Env} {R : Room} {s : State} {m : MethodId} {args : Array Value} {below : List Frame} {meth : Method} {c : Code} {H : Heap} {locs : List Loc} {Q : State → Prop} {cc : ByteArray} {pc : Nat} {ls : Array Slot} {rest : List Value} {nL : Nat} {D : va_G} {σ : St} {cI cZ : ClassId} {ad : Nat → Nat} {index : Nat} {v lo hi : Int} (hD : ∀ τ, va_D (AD ad 45) (wsM cI cZ ad τ)) (r_v : rg v) (r_lo : rg lo) (r_hi : rg hi) (J : Jx p m c cc nL s args RX10 D [(cI, .int), (cZ, .boolean)] (AD ad 45) (wsM cI cZ ad)) (hw : jW D (AD ad 45) s.heap (wsM cI cZ ad σ) H locs) (hsz : ls.size = nL) (hlk : Cond.methodLink RX10 index yX10_in ∈ TBw) (hR : 1 ≤ R.frames ∧ 22 ≤ R.locals) (hroom : (rest.map fun v => v.category).sum ≤ 8) (hdg : decode cc pc = .ok (.invokestatic index, 3)) (kk : ∀ (H1 : Heap) (locs1 : List Loc), jW D (AD ad 45) s.heap (wsM cI cZ ad σ) H1 locs1 → W p l e R s m args below meth c H1 locs1 0 0 Q (F0 m (pc + 3) ls (.int (I (if lo ≤ v ∧ v ≤ hi then 1 else 0)) :: rest))) : W p l e R s m args below meth c H locs 0 0 Q (F0 m pc ls (.int (I hi) :: .int (I lo) :: .int (I v) :: rest)) := 
  j_callSi J hw (c_X10_in  hD r_v r_lo r_hi) hlk sta_X10_in ini_X10 co_X10_in (n := 3) (by decide +kernel) ⟨rfl, rfl, hR.1, hR.2⟩ rfl hroom hsz ⟨Nat.zero_le _, Nat.zero_le _⟩ rfl hdg (fun r τ H1 locs1 hp hw1 => by obtain ⟨rfl, rfl⟩ := hp; exact kk H1 locs1 hw1)
def rm_X10_isCell : Room := { frames := 1, cells := 0, slots := 0, locals := 22 }
set_option maxHeartbeats 4000000 in
set_option maxRecDepth 100000 in
theorem c_X10_isCell {l : Launch} {D : va_G} {cI cZ : ClassId} {ad : Nat → Nat} {σ : St} {cell : Int} (hD : ∀ τ, va_D (AD ad 45) (wsM cI cZ ad τ)) (hd : Dim σ) (r_cell : rg cell) : JMi l yX10_isCell cX10_isCell 2 (some .boolean) rm_X10_isCell D [(cI, .int), (cZ, .boolean)] (AD ad 45) (wsM cI cZ ad) [.ref (ad 0), .int (I cell)] σ (fun r τ => r = (if 0 ≤ cell ∧ cell ≤ σ 18 0 * σ 18 1 - 1 then 1 else 0) ∧ τ = σ) := by
  refine JMi.of RX10 (by decide +kernel) rfl (Nat.le_of_ble_eq_true rfl) hD ?_
  intro p e s m args below meth c Q J fin H ls hw hl
  generalize ([] : List Loc) = locs at hw ⊢
  have hl : lv_has ls 2 [(0, .ref (ad 0)), (1, .int (I cell))] := hl
  have hd1 := hd.1; have hd2 := hd.2.1; have hd3 := hd.2.2.1; have hd4 := hd.2.2.2; have hm := hd.mul
  have u_cell := r_cell; unfold rg at u_cell
  refine j_iload_n J dX10_isCell_0 rfl (lv_at hl 1 rfl) ?_
  refine j_iconst J (0) dX10_isCell_1 ?_
  refine j_aload_n J dX10_isCell_2 rfl (lv_at hl 0 rfl) ?_
  refine mg_10_0 J hw lk_X10_7 dX10_isCell_3 ?_
  refine j_aload_n J dX10_isCell_6 rfl (lv_at hl 0 rfl) ?_
  refine mg_10_1 J hw lk_X10_13 dX10_isCell_7 ?_
  refine j_imul J dX10_isCell_10 ?_
  refine j_iconst J (1) dX10_isCell_11 ?_
  refine j_isub J dX10_isCell_12 ?_
  refine k_X10_in (v := cell) (lo := 0) (hi := ((σ 18 0) * (σ 18 1)) - 1) (σ := σ) hD (show rg cell from by unfold rg; omega) (show rg 0 from by unfold rg; omega) (show rg (((σ 18 0) * (σ 18 1)) - 1) from by unfold rg; omega) J hw hl.1 lk_X10_69 ⟨Nat.le_of_ble_eq_true rfl, Nat.le_of_ble_eq_true rfl⟩ (Nat.le_of_ble_eq_true rfl) dX10_isCell_13 (fun H locs hw => ?_)
  exact fin _ (σ) _ _ _ _ dX10_isCell_16 (by split <;> rfl) (⟨rfl, rfl⟩) hw
theorem k_X10_isCell {p : Program} {l : Launch} {e : Env} {R : Room} {s : State} {m : MethodId} {args : Array Value} {below : List Frame} {meth : Method} {c : Code} {H : Heap} {locs : List Loc} {Q : State → Prop} {cc : ByteArray} {pc : Nat} {ls : Array Slot} {rest : List Value} {nL : Nat} {own : String} {D : va_G} {σ : St} {cI cZ : ClassId} {ad : Nat → Nat} {index : Nat} {cell : Int} (hD : ∀ τ, va_D (AD ad 45) (wsM cI cZ ad τ)) (hd : Dim σ) (r_cell : rg cell) (J : Jx p m c cc nL s args own D [(cI, .int), (cZ, .boolean)] (AD ad 45) (wsM cI cZ ad)) (hw : jW D (AD ad 45) s.heap (wsM cI cZ ad σ) H locs) (hsz : ls.size = nL) (hlk : Cond.methodLink own index yX10_isCell ∈ TBw) (hR : 2 ≤ R.frames ∧ 43 ≤ R.locals) (hroom : (rest.map fun v => v.category).sum ≤ 8) (hdg : decode cc pc = .ok (.invokevirtual index, 3)) (kk : ∀ (H1 : Heap) (locs1 : List Loc), jW D (AD ad 45) s.heap (wsM cI cZ ad σ) H1 locs1 → W p l e R s m args below meth c H1 locs1 0 0 Q (F0 m (pc + 3) ls (.int (I (if 0 ≤ cell ∧ cell ≤ σ 18 0 * σ 18 1 - 1 then 1 else 0)) :: rest))) : W p l e R s m args below meth c H locs 0 0 Q (F0 m pc ls (.int (I cell) :: .ref (ad 0) :: rest)) := 
  j_callVi J hw (c_X10_isCell  hD hd r_cell) hlk in_X10_isCell se_X10_isCell ini_X10 co_X10_isCell (n := 1) (by decide +kernel) ⟨rfl, rfl, hR.1, hR.2⟩ (j := 0) (ci := 10) rfl rfl rfl rfl hroom hsz ⟨Nat.zero_le _, Nat.zero_le _⟩ rfl hdg (fun r τ H1 locs1 hp hw1 => by obtain ⟨rfl, rfl⟩ := hp; exact kk H1 locs1 hw1)
def rm_X10_isSpot : Room := { frames := 1, cells := 0, slots := 0, locals := 22 }
set_option maxHeartbeats 4000000 in
set_option maxRecDepth 100000 in
theorem c_X10_isSpot {l : Launch} {D : va_G} {cI cZ : ClassId} {ad : Nat → Nat} {σ : St} {sp : Int} (hD : ∀ τ, va_D (AD ad 45) (wsM cI cZ ad τ)) (r_sp : rg sp) : JMi l yX10_isSpot cX10_isSpot 1 (some .boolean) rm_X10_isSpot D [(cI, .int), (cZ, .boolean)] (AD ad 45) (wsM cI cZ ad) [.int (I sp)] σ (fun r τ => r = (if 0 ≤ sp ∧ sp ≤ 2 then 1 else 0) ∧ τ = σ) := by
  refine JMi.of RX10 (by decide +kernel) rfl (Nat.le_of_ble_eq_true rfl) hD ?_
  intro p e s m args below meth c Q J fin H ls hw hl
  generalize ([] : List Loc) = locs at hw ⊢
  have hl : lv_has ls 1 [(0, .int (I sp))] := hl
  refine j_iload_n J dX10_isSpot_0 rfl (lv_at hl 0 rfl) ?_
  refine j_iconst J (0) dX10_isSpot_1 ?_
  refine j_iconst J (2) dX10_isSpot_2 ?_
  refine k_X10_in (v := sp) (lo := 0) (hi := 2) (σ := σ) hD (show rg sp from r_sp) (show rg 0 from by unfold rg; omega) (show rg 2 from by unfold rg; omega) J hw hl.1 lk_X10_69 ⟨Nat.le_of_ble_eq_true rfl, Nat.le_of_ble_eq_true rfl⟩ (Nat.le_of_ble_eq_true rfl) dX10_isSpot_3 (fun H locs hw => ?_)
  exact fin _ (σ) _ _ _ _ dX10_isSpot_6 (by split <;> rfl) (⟨rfl, rfl⟩) hw
theorem k_X10_isSpot {p : Program} {l : Launch} {e : Env} {R : Room} {s : State} {m : MethodId} {args : Array Value} {below : List Frame} {meth : Method} {c : Code} {H : Heap} {locs : List Loc} {Q : State → Prop} {cc : ByteArray} {pc : Nat} {ls : Array Slot} {rest : List Value} {nL : Nat} {D : va_G} {σ : St} {cI cZ : ClassId} {ad : Nat → Nat} {index : Nat} {sp : Int} (hD : ∀ τ, va_D (AD ad 45) (wsM cI cZ ad τ)) (r_sp : rg sp) (J : Jx p m c cc nL s args RX10 D [(cI, .int), (cZ, .boolean)] (AD ad 45) (wsM cI cZ ad)) (hw : jW D (AD ad 45) s.heap (wsM cI cZ ad σ) H locs) (hsz : ls.size = nL) (hlk : Cond.methodLink RX10 index yX10_isSpot ∈ TBw) (hR : 2 ≤ R.frames ∧ 42 ≤ R.locals) (hroom : (rest.map fun v => v.category).sum ≤ 8) (hdg : decode cc pc = .ok (.invokestatic index, 3)) (kk : ∀ (H1 : Heap) (locs1 : List Loc), jW D (AD ad 45) s.heap (wsM cI cZ ad σ) H1 locs1 → W p l e R s m args below meth c H1 locs1 0 0 Q (F0 m (pc + 3) ls (.int (I (if 0 ≤ sp ∧ sp ≤ 2 then 1 else 0)) :: rest))) : W p l e R s m args below meth c H locs 0 0 Q (F0 m pc ls (.int (I sp) :: rest)) := 
  j_callSi J hw (c_X10_isSpot  hD r_sp) hlk sta_X10_isSpot ini_X10 co_X10_isSpot (n := 1) (by decide +kernel) ⟨rfl, rfl, hR.1, hR.2⟩ rfl hroom hsz ⟨Nat.zero_le _, Nat.zero_le _⟩ rfl hdg (fun r τ H1 locs1 hp hw1 => by obtain ⟨rfl, rfl⟩ := hp; exact kk H1 locs1 hw1)
def rm_X10_isSix : Room := { frames := 1, cells := 0, slots := 0, locals := 22 }
set_option maxHeartbeats 4000000 in
set_option maxRecDepth 100000 in
theorem c_X10_isSix {l : Launch} {D : va_G} {cI cZ : ClassId} {ad : Nat → Nat} {σ : St} {sh : Int} (hD : ∀ τ, va_D (AD ad 45) (wsM cI cZ ad τ)) (r_sh : rg sh) : JMi l yX10_isSix cX10_isSix 1 (some .boolean) rm_X10_isSix D [(cI, .int), (cZ, .boolean)] (AD ad 45) (wsM cI cZ ad) [.int (I sh)] σ (fun r τ => r = (if 0 ≤ sh ∧ sh ≤ 5 then 1 else 0) ∧ τ = σ) := by
  refine JMi.of RX10 (by decide +kernel) rfl (Nat.le_of_ble_eq_true rfl) hD ?_
  intro p e s m args below meth c Q J fin H ls hw hl
  generalize ([] : List Loc) = locs at hw ⊢
  have hl : lv_has ls 1 [(0, .int (I sh))] := hl
  refine j_iload_n J dX10_isSix_0 rfl (lv_at hl 0 rfl) ?_
  refine j_iconst J (0) dX10_isSix_1 ?_
  refine j_iconst J (5) dX10_isSix_2 ?_
  refine k_X10_in (v := sh) (lo := 0) (hi := 5) (σ := σ) hD (show rg sh from r_sh) (show rg 0 from by unfold rg; omega) (show rg 5 from by unfold rg; omega) J hw hl.1 lk_X10_69 ⟨Nat.le_of_ble_eq_true rfl, Nat.le_of_ble_eq_true rfl⟩ (Nat.le_of_ble_eq_true rfl) dX10_isSix_3 (fun H locs hw => ?_)
  exact fin _ (σ) _ _ _ _ dX10_isSix_6 (by split <;> rfl) (⟨rfl, rfl⟩) hw
theorem k_X10_isSix {p : Program} {l : Launch} {e : Env} {R : Room} {s : State} {m : MethodId} {args : Array Value} {below : List Frame} {meth : Method} {c : Code} {H : Heap} {locs : List Loc} {Q : State → Prop} {cc : ByteArray} {pc : Nat} {ls : Array Slot} {rest : List Value} {nL : Nat} {D : va_G} {σ : St} {cI cZ : ClassId} {ad : Nat → Nat} {index : Nat} {sh : Int} (hD : ∀ τ, va_D (AD ad 45) (wsM cI cZ ad τ)) (r_sh : rg sh) (J : Jx p m c cc nL s args RX10 D [(cI, .int), (cZ, .boolean)] (AD ad 45) (wsM cI cZ ad)) (hw : jW D (AD ad 45) s.heap (wsM cI cZ ad σ) H locs) (hsz : ls.size = nL) (hlk : Cond.methodLink RX10 index yX10_isSix ∈ TBw) (hR : 2 ≤ R.frames ∧ 42 ≤ R.locals) (hroom : (rest.map fun v => v.category).sum ≤ 8) (hdg : decode cc pc = .ok (.invokestatic index, 3)) (kk : ∀ (H1 : Heap) (locs1 : List Loc), jW D (AD ad 45) s.heap (wsM cI cZ ad σ) H1 locs1 → W p l e R s m args below meth c H1 locs1 0 0 Q (F0 m (pc + 3) ls (.int (I (if 0 ≤ sh ∧ sh ≤ 5 then 1 else 0)) :: rest))) : W p l e R s m args below meth c H locs 0 0 Q (F0 m pc ls (.int (I sh) :: rest)) := 
  j_callSi J hw (c_X10_isSix  hD r_sh) hlk sta_X10_isSix ini_X10 co_X10_isSix (n := 1) (by decide +kernel) ⟨rfl, rfl, hR.1, hR.2⟩ rfl hroom hsz ⟨Nat.zero_le _, Nat.zero_le _⟩ rfl hdg (fun r τ H1 locs1 hp hw1 => by obtain ⟨rfl, rfl⟩ := hp; exact kk H1 locs1 hw1)
def rm_X10_anew : Room := { frames := 0, cells := 0, slots := 0, locals := 0 }
set_option maxHeartbeats 4000000 in
set_option maxRecDepth 100000 in
theorem c_X10_anew {l : Launch} {D : va_G} {cI cZ : ClassId} {ad : Nat → Nat} {σ : St}  (hD : ∀ τ, va_D (AD ad 45) (wsM cI cZ ad τ))  : JMv l yX10_anew cX10_anew 2 rm_X10_anew D [(cI, .int), (cZ, .boolean)] (AD ad 45) (wsM cI cZ ad) [.ref (ad 0)] σ (fun τ => Eqp τ (anS σ (σ 18 0) (σ 18 1))) := by
  refine JMv.of RX10 (by decide +kernel) rfl (Nat.le_of_ble_eq_true rfl) hD ?_
  intro p e s m args below meth c Q J fin H ls hw hl
  generalize ([] : List Loc) = locs at hw ⊢
  have hl : lv_has ls 2 [(0, .ref (ad 0))] := hl
  refine j_iconst J (0) dX10_anew_0 ?_
  refine j_istore_n J (lv' := [(1, .int (I 0)), (0, .ref (ad 0))]) hl dX10_anew_1 rfl (by decide) rfl (fun ls hl => ?_)
  have L2 : ∀ n : Nat, ∀ (i1 : Int), (0 ≤ i1 ∧ i1 ≤ 120) → ((120 - i1).toNat) < n → ∀ (H : Heap) (locs : List Loc) (ls : Array Slot), jW D (AD ad 45) s.heap (wsM cI cZ ad (z4 σ i1)) H locs → lv_has ls 2 [(1, .int (I i1)), (0, .ref (ad 0))] → W p l e rm_X10_anew s m args below meth c H locs 0 0 Q (F0 m 2 ls []) := by
    intro n
    induction n with
    | zero =>
      intro i1 hi1 hm H locs ls hw hl
      exact absurd hm (Nat.not_lt_zero _)
    | succ n ih =>
      intro i1 hi1 hm H locs ls hw hl
      have ih2 := ih
      refine j_iload_n J dX10_anew_2 rfl (lv_at hl 0 rfl) ?_
      refine j_bipush J (120) dX10_anew_3 (by decide) ?_
      refine j_icmp_ge J 42 (show rg i1 by unfold rg; omega) (by unfold rg; omega) dX10_anew_5 (by decide) (fun (h_1 : 120 ≤ i1) => ?_) (fun (h_1 : i1 < 120) => ?_)
      · refine j_aload_n J dX10_anew_42 rfl (lv_at hl 1 rfl) ?_
        refine mg_10_7 J hw lk_X10_32 dX10_anew_43 ?_
        refine j_iconst J (0) dX10_anew_46 ?_
        refine j_iconst J (5) dX10_anew_47 ?_
        refine ma_st_0 J hw (show 0 ≤ 0 ∧ 0 < ((5 : Nat) : Int) from by omega) dX10_anew_48 (fun H locs hw => ?_)
        refine j_aload_n J dX10_anew_49 rfl (lv_at hl 1 rfl) ?_
        refine mg_10_7 J hw lk_X10_32 dX10_anew_50 ?_
        refine j_iconst J (1) dX10_anew_53 ?_
        refine j_bipush J (100) dX10_anew_54 (by decide) ?_
        refine ma_st_0 J hw (show 0 ≤ 1 ∧ 1 < ((5 : Nat) : Int) from by omega) dX10_anew_56 (fun H locs hw => ?_)
        refine j_aload_n J dX10_anew_57 rfl (lv_at hl 1 rfl) ?_
        refine mg_10_7 J hw lk_X10_32 dX10_anew_58 ?_
        refine j_iconst J (2) dX10_anew_61 ?_
        refine j_bipush J (50) dX10_anew_62 (by decide) ?_
        refine ma_st_0 J hw (show 0 ≤ 2 ∧ 2 < ((5 : Nat) : Int) from by omega) dX10_anew_64 (fun H locs hw => ?_)
        refine j_aload_n J dX10_anew_65 rfl (lv_at hl 1 rfl) ?_
        refine mg_10_7 J hw lk_X10_32 dX10_anew_66 ?_
        refine j_iconst J (3) dX10_anew_69 ?_
        refine j_bipush J (80) dX10_anew_70 (by decide) ?_
        refine ma_st_0 J hw (show 0 ≤ 3 ∧ 3 < ((5 : Nat) : Int) from by omega) dX10_anew_72 (fun H locs hw => ?_)
        refine j_aload_n J dX10_anew_73 rfl (lv_at hl 1 rfl) ?_
        refine mg_10_7 J hw lk_X10_32 dX10_anew_74 ?_
        refine j_iconst J (4) dX10_anew_77 ?_
        refine j_iconst J (0) dX10_anew_78 ?_
        refine ma_st_0 J hw (show 0 ≤ 4 ∧ 4 < ((5 : Nat) : Int) from by omega) dX10_anew_79 (fun H locs hw => ?_)
        refine j_iconst J (0) dX10_anew_80 ?_
        refine j_istore_n J (lv' := [(1, .int (I 0)), (0, .ref (ad 0))]) hl dX10_anew_81 rfl (by decide) rfl (fun ls hl => ?_)
        have L82 : ∀ n : Nat, ∀ (i2 : Int), (0 ≤ i2 ∧ i2 ≤ 12) → ((12 - i2).toNat) < n → ∀ (H : Heap) (locs : List Loc) (ls : Array Slot), jW D (AD ad 45) s.heap (wsM cI cZ ad (fl (st (st (st (st (st (z4 σ 120) 0 0 5) 0 1 100) 0 2 50) 0 3 80) 0 4 0) 7 0 i2)) H locs → lv_has ls 2 [(1, .int (I i2)), (0, .ref (ad 0))] → W p l e rm_X10_anew s m args below meth c H locs 0 0 Q (F0 m 82 ls []) := by
          intro n
          induction n with
          | zero =>
            intro i2 hi2 hm H locs ls hw hl
            exact absurd hm (Nat.not_lt_zero _)
          | succ n ih =>
            intro i2 hi2 hm H locs ls hw hl
            have ih82 := ih
            refine j_iload_n J dX10_anew_82 rfl (lv_at hl 0 rfl) ?_
            refine j_bipush J (12) dX10_anew_83 (by decide) ?_
            refine j_icmp_ge J 101 (show rg i2 by unfold rg; omega) (by unfold rg; omega) dX10_anew_85 (by decide) (fun (h_2 : 12 ≤ i2) => ?_) (fun (h_2 : i2 < 12) => ?_)
            · refine j_iconst J (0) dX10_anew_101 ?_
              refine j_istore_n J (lv' := [(1, .int (I 0)), (0, .ref (ad 0))]) hl dX10_anew_102 rfl (by decide) rfl (fun ls hl => ?_)
              have L103 : ∀ n : Nat, ∀ (i3 : Int), (0 ≤ i3 ∧ i3 ≤ 3) → ((3 - i3).toNat) < n → ∀ (H : Heap) (locs : List Loc) (ls : Array Slot), jW D (AD ad 45) s.heap (wsM cI cZ ad (z3 (fl (st (st (st (st (st (z4 σ 120) 0 0 5) 0 1 100) 0 2 50) 0 3 80) 0 4 0) 7 0 12) i3)) H locs → lv_has ls 2 [(1, .int (I i3)), (0, .ref (ad 0))] → W p l e rm_X10_anew s m args below meth c H locs 0 0 Q (F0 m 103 ls []) := by
                intro n
                induction n with
                | zero =>
                  intro i3 hi3 hm H locs ls hw hl
                  exact absurd hm (Nat.not_lt_zero _)
                | succ n ih =>
                  intro i3 hi3 hm H locs ls hw hl
                  have ih103 := ih
                  refine j_iload_n J dX10_anew_103 rfl (lv_at hl 0 rfl) ?_
                  refine j_iconst J (3) dX10_anew_104 ?_
                  refine j_icmp_ge J 137 (show rg i3 by unfold rg; omega) (by unfold rg; omega) dX10_anew_105 (by decide) (fun (h_3 : 3 ≤ i3) => ?_) (fun (h_3 : i3 < 3) => ?_)
                  · refine j_iconst J (0) dX10_anew_137 ?_
                    refine j_istore_n J (lv' := [(1, .int (I 0)), (0, .ref (ad 0))]) hl dX10_anew_138 rfl (by decide) rfl (fun ls hl => ?_)
                    have L139 : ∀ n : Nat, ∀ (i4 : Int), (0 ≤ i4 ∧ i4 ≤ 31) → ((31 - i4).toNat) < n → ∀ (H : Heap) (locs : List Loc) (ls : Array Slot), jW D (AD ad 45) s.heap (wsM cI cZ ad (tbS (z3 (fl (st (st (st (st (st (z4 σ 120) 0 0 5) 0 1 100) 0 2 50) 0 3 80) 0 4 0) 7 0 12) 3) i4)) H locs → lv_has ls 2 [(1, .int (I i4)), (0, .ref (ad 0))] → W p l e rm_X10_anew s m args below meth c H locs 0 0 Q (F0 m 139 ls []) := by
                      intro n
                      induction n with
                      | zero =>
                        intro i4 hi4 hm H locs ls hw hl
                        exact absurd hm (Nat.not_lt_zero _)
                      | succ n ih =>
                        intro i4 hi4 hm H locs ls hw hl
                        have ih139 := ih
                        refine j_iload_n J dX10_anew_139 rfl (lv_at hl 0 rfl) ?_
                        refine j_bipush J (31) dX10_anew_140 (by decide) ?_
                        refine j_icmp_ge J 158 (show rg i4 by unfold rg; omega) (by unfold rg; omega) dX10_anew_142 (by decide) (fun (h_4 : 31 ≤ i4) => ?_) (fun (h_4 : i4 < 31) => ?_)
                        · refine j_iconst J (0) dX10_anew_158 ?_
                          refine j_istore_n J (lv' := [(1, .int (I 0)), (0, .ref (ad 0))]) hl dX10_anew_159 rfl (by decide) rfl (fun ls hl => ?_)
                          have L160 : ∀ n : Nat, ∀ (i5 : Int), (0 ≤ i5 ∧ i5 ≤ 6) → ((6 - i5).toNat) < n → ∀ (H : Heap) (locs : List Loc) (ls : Array Slot), jW D (AD ad 45) s.heap (wsM cI cZ ad (fl (tbS (z3 (fl (st (st (st (st (st (z4 σ 120) 0 0 5) 0 1 100) 0 2 50) 0 3 80) 0 4 0) 7 0 12) 3) 31) 17 0 i5)) H locs → lv_has ls 2 [(1, .int (I i5)), (0, .ref (ad 0))] → W p l e rm_X10_anew s m args below meth c H locs 0 0 Q (F0 m 160 ls []) := by
                            intro n
                            induction n with
                            | zero =>
                              intro i5 hi5 hm H locs ls hw hl
                              exact absurd hm (Nat.not_lt_zero _)
                            | succ n ih =>
                              intro i5 hi5 hm H locs ls hw hl
                              have ih160 := ih
                              refine j_iload_n J dX10_anew_160 rfl (lv_at hl 0 rfl) ?_
                              refine j_bipush J (6) dX10_anew_161 (by decide) ?_
                              refine j_icmp_ge J 179 (show rg i5 by unfold rg; omega) (by unfold rg; omega) dX10_anew_163 (by decide) (fun (h_5 : 6 ≤ i5) => ?_) (fun (h_5 : i5 < 6) => ?_)
                              · rw [show i5 = 6 by omega] at hw
                                refine j_aload_n J dX10_anew_179 rfl (lv_at hl 1 rfl) ?_
                                have hw : jW D (AD ad 45) s.heap (wsM cI cZ ad (fl (tbS (z3 (fl (st (st (st (st (st (z4 σ 120) 0 0 5) 0 1 100) 0 2 50) 0 3 80) 0 4 0) 7 0 12) 3) 31) 17 0 6)) H locs := hw
                                refine j_iconst J (0) dX10_anew_180 ?_
                                refine ms_10_13 J hw lk_X10_73 dX10_anew_181 (fun H locs hw => ?_)
                                refine j_aload_n J dX10_anew_184 rfl (lv_at hl 1 rfl) ?_
                                refine j_iconst J (0) dX10_anew_185 ?_
                                refine ms_10_19 J hw lk_X10_76 dX10_anew_186 (fun H locs hw => ?_)
                                refine j_aload_n J dX10_anew_189 rfl (lv_at hl 1 rfl) ?_
                                refine j_iconst J (0) dX10_anew_190 ?_
                                refine ms_10_20 J hw lk_X10_79 dX10_anew_191 (fun H locs hw => ?_)
                                refine j_aload_n J dX10_anew_194 rfl (lv_at hl 1 rfl) ?_
                                refine j_iconst J (0) dX10_anew_195 ?_
                                refine ms_10_21 J hw lk_X10_82 dX10_anew_196 (fun H locs hw => ?_)
                                refine j_aload_n J dX10_anew_199 rfl (lv_at hl 1 rfl) ?_
                                refine j_iconst J (0) dX10_anew_200 ?_
                                refine ms_10_22 J hw lk_X10_85 dX10_anew_201 (fun H locs hw => ?_)
                                refine j_aload_n J dX10_anew_204 rfl (lv_at hl 1 rfl) ?_
                                refine j_iconst J (0) dX10_anew_205 ?_
                                refine ms_10_23 J hw lk_X10_88 dX10_anew_206 (fun H locs hw => ?_)
                                refine j_aload_n J dX10_anew_209 rfl (lv_at hl 1 rfl) ?_
                                refine j_iconst J (0) dX10_anew_210 ?_
                                refine ms_10_24 J hw lk_X10_91 dX10_anew_211 (fun H locs hw => ?_)
                                refine j_aload_n J dX10_anew_214 rfl (lv_at hl 1 rfl) ?_
                                refine j_iconst J (0) dX10_anew_215 ?_
                                refine ms_10_25 J hw lk_X10_94 dX10_anew_216 (fun H locs hw => ?_)
                                exact fin (st (st (st (st (st (st (st (st (fl (tbS (z3 (fl (st (st (st (st (st (z4 σ 120) 0 0 5) 0 1 100) 0 2 50) 0 3 80) 0 4 0) 7 0 12) 3) 31) 17 0 6) 18 6 0) 18 7 0) 18 8 0) 18 9 0) 18 3 0) 18 4 0) 18 5 0) 18 2 0) _ _ _ _ dX10_anew_219 (eqp_of (fun _ => rfl) (fun _ => rfl) (fun _ => rfl) (fun _ => rfl) (fun _ => rfl) (fun _ => rfl) (fun _ => rfl) (fun _ => rfl) (fun _ => rfl) (fun _ => rfl) (fun _ => rfl) (fun _ => rfl) (fun _ => rfl) (fun _ => rfl) (fun _ => rfl) (fun i hi => an_sc i hi) (fun k hk i => by obtain ⟨n, rfl⟩ : ∃ n, k = n + 19 := ⟨k - 19, by omega⟩; have hj : ∀ j, j < 19 → n + 19 ≠ j := fun j h => (by omega); simp only [st_nk (hj 0 (by decide)), st_nk (hj 18 (by decide)), fl_nk (hj 7 (by decide)), fl_nk (hj 17 (by decide)), tb_nk (hj 8 (by decide)), z4_nk (hj 1 (by decide)) (hj 2 (by decide)) (hj 4 (by decide)) (hj 5 (by decide)), z3_nk (hj 10 (by decide)) (hj 11 (by decide)) (hj 12 (by decide))]; try rfl)) hw
                              · refine j_aload_n J dX10_anew_166 rfl (lv_at hl 1 rfl) ?_
                                refine mg_10_17 J hw lk_X10_59 dX10_anew_167 ?_
                                refine j_iload_n J dX10_anew_170 rfl (lv_at hl 0 rfl) ?_
                                refine j_iconst J (0) dX10_anew_171 ?_
                                refine ma_st_17 J hw (show 0 ≤ i5 ∧ i5 < ((6 : Nat) : Int) from by omega) (by decide) dX10_anew_172 (fun H locs hw => ?_)
                                refine j_iinc J (lv' := [(1, .int (I (i5 + 1))), (0, .ref (ad 0))]) (k := 0) hl dX10_anew_173 rfl (by decide) rfl (fun ls hl => ?_)
                                refine j_goto J 160 dX10_anew_176 (by decide) ?_
                                exact ih160 (i5 + 1) (by omega) (by omega) _ _ _ (by rw [← fl_step hi5.1]; exact hw) (lv_sub hl [0, 1] rfl)
                          exact L160 _ 0 (by omega) (Nat.lt_succ_self _) _ _ _ (by have hw2 := hw; rw [show i4 = 31 by omega] at hw2; rw [fl_0]; exact hw2) (lv_sub hl [0, 1] rfl)
                        · refine j_aload_n J dX10_anew_145 rfl (lv_at hl 1 rfl) ?_
                          refine mg_10_12 J hw lk_X10_47 dX10_anew_146 ?_
                          refine j_iload_n J dX10_anew_149 rfl (lv_at hl 0 rfl) ?_
                          refine j_iload_n J dX10_anew_150 rfl (lv_at hl 0 rfl) ?_
                          refine ma_st_8 J hw (show 0 ≤ i4 ∧ i4 < ((31 : Nat) : Int) from by omega) dX10_anew_151 (fun H locs hw => ?_)
                          refine j_iinc J (lv' := [(1, .int (I (i4 + 1))), (0, .ref (ad 0))]) (k := 0) hl dX10_anew_152 rfl (by decide) rfl (fun ls hl => ?_)
                          refine j_goto J 139 dX10_anew_155 (by decide) ?_
                          exact ih139 (i4 + 1) (by omega) (by omega) _ _ _ (by rw [← tbS_step hi4.1]; exact hw) (lv_sub hl [0, 1] rfl)
                    exact L139 _ 0 (by omega) (Nat.lt_succ_self _) _ _ _ (by have hw2 := hw; rw [show i3 = 3 by omega] at hw2; rw [tbS_0]; exact hw2) (lv_sub hl [0, 1] rfl)
                  · refine j_aload_n J dX10_anew_108 rfl (lv_at hl 1 rfl) ?_
                    refine mg_10_9 J hw lk_X10_38 dX10_anew_109 ?_
                    refine j_iload_n J dX10_anew_112 rfl (lv_at hl 0 rfl) ?_
                    refine j_sipush J (1000) dX10_anew_113 (by decide) ?_
                    refine ma_st_11 J hw (show 0 ≤ i3 ∧ i3 < ((3 : Nat) : Int) from by omega) dX10_anew_116 (fun H locs hw => ?_)
                    refine j_aload_n J dX10_anew_117 rfl (lv_at hl 1 rfl) ?_
                    refine mg_10_10 J hw lk_X10_41 dX10_anew_118 ?_
                    refine j_iload_n J dX10_anew_121 rfl (lv_at hl 0 rfl) ?_
                    refine j_iconst J (2) dX10_anew_122 ?_
                    refine ma_st_12 J hw (show 0 ≤ i3 ∧ i3 < ((3 : Nat) : Int) from by omega) dX10_anew_123 (fun H locs hw => ?_)
                    refine j_aload_n J dX10_anew_124 rfl (lv_at hl 1 rfl) ?_
                    refine mg_10_11 J hw lk_X10_44 dX10_anew_125 ?_
                    refine j_iload_n J dX10_anew_128 rfl (lv_at hl 0 rfl) ?_
                    refine j_iconst J (0) dX10_anew_129 ?_
                    refine ma_st_10 J hw (show 0 ≤ i3 ∧ i3 < ((3 : Nat) : Int) from by omega) dX10_anew_130 (fun H locs hw => ?_)
                    refine j_iinc J (lv' := [(1, .int (I (i3 + 1))), (0, .ref (ad 0))]) (k := 0) hl dX10_anew_131 rfl (by decide) rfl (fun ls hl => ?_)
                    refine j_goto J 103 dX10_anew_134 (by decide) ?_
                    exact ih103 (i3 + 1) (by omega) (by omega) _ _ _ (by rw [← z3_step hi3.1]; exact hw) (lv_sub hl [0, 1] rfl)
              exact L103 _ 0 (by omega) (Nat.lt_succ_self _) _ _ _ (by have hw2 := hw; rw [show i2 = 12 by omega] at hw2; rw [z3_0]; exact hw2) (lv_sub hl [0, 1] rfl)
            · refine j_aload_n J dX10_anew_88 rfl (lv_at hl 1 rfl) ?_
              refine mg_10_8 J hw lk_X10_35 dX10_anew_89 ?_
              refine j_iload_n J dX10_anew_92 rfl (lv_at hl 0 rfl) ?_
              refine j_iconst J (0) dX10_anew_93 ?_
              refine ma_st_7 J hw (show 0 ≤ i2 ∧ i2 < ((12 : Nat) : Int) from by omega) dX10_anew_94 (fun H locs hw => ?_)
              refine j_iinc J (lv' := [(1, .int (I (i2 + 1))), (0, .ref (ad 0))]) (k := 0) hl dX10_anew_95 rfl (by decide) rfl (fun ls hl => ?_)
              refine j_goto J 82 dX10_anew_98 (by decide) ?_
              exact ih82 (i2 + 1) (by omega) (by omega) _ _ _ (by rw [← fl_step hi2.1]; exact hw) (lv_sub hl [0, 1] rfl)
        exact L82 _ 0 (by omega) (Nat.lt_succ_self _) _ _ _ (by have hw2 := hw; rw [show i1 = 120 by omega] at hw2; rw [fl_0]; exact hw2) (lv_sub hl [0, 1] rfl)
      · refine j_aload_n J dX10_anew_8 rfl (lv_at hl 1 rfl) ?_
        refine mg_10_2 J hw lk_X10_16 dX10_anew_9 ?_
        refine j_iload_n J dX10_anew_12 rfl (lv_at hl 0 rfl) ?_
        refine j_iconst J (0) dX10_anew_13 ?_
        refine ma_st_1 J hw (show 0 ≤ i1 ∧ i1 < ((120 : Nat) : Int) from by omega) dX10_anew_14 (fun H locs hw => ?_)
        refine j_aload_n J dX10_anew_15 rfl (lv_at hl 1 rfl) ?_
        refine mg_10_3 J hw lk_X10_20 dX10_anew_16 ?_
        refine j_iload_n J dX10_anew_19 rfl (lv_at hl 0 rfl) ?_
        refine j_iconst J (0) dX10_anew_20 ?_
        refine ma_st_2 J hw (show 0 ≤ i1 ∧ i1 < ((120 : Nat) : Int) from by omega) dX10_anew_21 (fun H locs hw => ?_)
        refine j_aload_n J dX10_anew_22 rfl (lv_at hl 1 rfl) ?_
        refine mg_10_4 J hw lk_X10_23 dX10_anew_23 ?_
        refine j_iload_n J dX10_anew_26 rfl (lv_at hl 0 rfl) ?_
        refine j_iconst J (0) dX10_anew_27 ?_
        refine ma_st_4 J hw (show 0 ≤ i1 ∧ i1 < ((120 : Nat) : Int) from by omega) dX10_anew_28 (fun H locs hw => ?_)
        refine j_aload_n J dX10_anew_29 rfl (lv_at hl 1 rfl) ?_
        refine mg_10_5 J hw lk_X10_26 dX10_anew_30 ?_
        refine j_iload_n J dX10_anew_33 rfl (lv_at hl 0 rfl) ?_
        refine j_iconst J (0) dX10_anew_34 ?_
        refine ma_st_5 J hw (show 0 ≤ i1 ∧ i1 < ((120 : Nat) : Int) from by omega) dX10_anew_35 (fun H locs hw => ?_)
        refine j_iinc J (lv' := [(1, .int (I (i1 + 1))), (0, .ref (ad 0))]) (k := 0) hl dX10_anew_36 rfl (by decide) rfl (fun ls hl => ?_)
        refine j_goto J 2 dX10_anew_39 (by decide) ?_
        exact ih2 (i1 + 1) (by omega) (by omega) _ _ _ (by rw [← z4_step hi1.1]; exact hw) (lv_sub hl [0, 1] rfl)
  exact L2 _ 0 (by omega) (Nat.lt_succ_self _) _ _ _ (by rw [z4_0]; exact hw) (lv_sub hl [0, 1] rfl)
theorem k_X10_anew {p : Program} {l : Launch} {e : Env} {R : Room} {s : State} {m : MethodId} {args : Array Value} {below : List Frame} {meth : Method} {c : Code} {H : Heap} {locs : List Loc} {Q : State → Prop} {cc : ByteArray} {pc : Nat} {ls : Array Slot} {rest : List Value} {nL : Nat} {own : String} {D : va_G} {σ : St} {cI cZ : ClassId} {ad : Nat → Nat} {index : Nat}  (hD : ∀ τ, va_D (AD ad 45) (wsM cI cZ ad τ))  (J : Jx p m c cc nL s args own D [(cI, .int), (cZ, .boolean)] (AD ad 45) (wsM cI cZ ad)) (hw : jW D (AD ad 45) s.heap (wsM cI cZ ad σ) H locs) (hsz : ls.size = nL) (hlk : Cond.methodLink own index yX10_anew ∈ TBw) (hR : 1 ≤ R.frames ∧ 21 ≤ R.locals) (hroom : (rest.map fun v => v.category).sum ≤ 8) (hdg : decode cc pc = .ok (.invokevirtual index, 3)) (kk : ∀ (τ : St) (H1 : Heap) (locs1 : List Loc), (fun τ => Eqp τ (anS σ (σ 18 0) (σ 18 1))) τ → jW D (AD ad 45) s.heap (wsM cI cZ ad τ) H1 locs1 → W p l e R s m args below meth c H1 locs1 0 0 Q (F0 m (pc + 3) ls rest)) : W p l e R s m args below meth c H locs 0 0 Q (F0 m pc ls (.ref (ad 0) :: rest)) := 
  j_callVv J hw (c_X10_anew  hD ) hlk in_X10_anew se_X10_anew ini_X10 co_X10_anew (n := 0) (by decide +kernel) ⟨rfl, rfl, hR.1, hR.2⟩ (j := 0) (ci := 10) rfl rfl rfl rfl hroom hsz ⟨Nat.zero_le _, Nat.zero_le _⟩ rfl hdg kk
def rm_X10_board : Room := { frames := 1, cells := 0, slots := 0, locals := 22 }
set_option maxHeartbeats 4000000 in
set_option maxRecDepth 100000 in
theorem c_X10_board {l : Launch} {D : va_G} {cI cZ : ClassId} {ad : Nat → Nat} {σ : St} {co ro : Int} (hD : ∀ τ, va_D (AD ad 45) (wsM cI cZ ad τ)) (hB : Bd σ) (r_co : rg co) (r_ro : rg ro) : JMi l yX10_board cX10_board 3 (some .int) rm_X10_board D [(cI, .int), (cZ, .boolean)] (AD ad 45) (wsM cI cZ ad) [.ref (ad 0), .int (I co), .int (I ro)] σ (fun r τ => r = (boardS σ co ro).1 ∧ Eqp τ (boardS σ co ro).2) := by
  refine JMi.of RX10 (by decide +kernel) rfl (Nat.le_of_ble_eq_true rfl) hD ?_
  intro p e s m args below meth c Q J fin H ls hw hl
  generalize ([] : List Loc) = locs at hw ⊢
  have hl : lv_has ls 3 [(0, .ref (ad 0)), (1, .int (I co)), (2, .int (I ro))] := hl
  have hd : Dim _ := hB.dim
  have hd1 := hd.1; have hd2 := hd.2.1; have hd3 := hd.2.2.1; have hd4 := hd.2.2.2; have hm := hd.mul
  have u_co := r_co; unfold rg at u_co
  have u_ro := r_ro; unfold rg at u_ro
  refine j_iload_n J dX10_board_0 rfl (lv_at hl 1 rfl) ?_
  refine j_iconst J (1) dX10_board_1 ?_
  refine j_bipush J (12) dX10_board_2 (by decide) ?_
  refine k_X10_in (v := co) (lo := 1) (hi := 12) (σ := σ) hD (show rg co from by unfold rg; omega) (show rg 1 from by unfold rg; omega) (show rg 12 from by unfold rg; omega) J hw hl.1 lk_X10_69 ⟨Nat.le_of_ble_eq_true rfl, Nat.le_of_ble_eq_true rfl⟩ (Nat.le_of_ble_eq_true rfl) dX10_board_4 (fun H locs hw => ?_)
  refine j_ifeqB J 20 dX10_board_7 (by decide) (fun (h_1 : ¬ (1 ≤ co ∧ co ≤ 12)) => ?_) (fun (h_1 : 1 ≤ co ∧ co ≤ 12) => ?_)
  · refine j_iconst J (-1) dX10_board_20 ?_
    exact fin _ (σ) _ _ _ _ dX10_board_21 rfl (by first | (unfold boardS; (repeat (first | rw [if_pos (by omega)] | rw [if_neg (by omega)])); exact ⟨rfl, Eqp.rf⟩) | (exfalso; omega)) hw
  · refine j_iload_n J dX10_board_10 rfl (lv_at hl 2 rfl) ?_
    refine j_iconst J (1) dX10_board_11 ?_
    refine j_bipush J (10) dX10_board_12 (by decide) ?_
    refine k_X10_in (v := ro) (lo := 1) (hi := 10) (σ := σ) hD (show rg ro from by unfold rg; omega) (show rg 1 from by unfold rg; omega) (show rg 10 from by unfold rg; omega) J hw hl.1 lk_X10_69 ⟨Nat.le_of_ble_eq_true rfl, Nat.le_of_ble_eq_true rfl⟩ (Nat.le_of_ble_eq_true rfl) dX10_board_14 (fun H locs hw => ?_)
    refine j_ifneB J 22 dX10_board_17 (by decide) (fun (h_2 : 1 ≤ ro ∧ ro ≤ 10) => ?_) (fun (h_2 : ¬ (1 ≤ ro ∧ ro ≤ 10)) => ?_)
    · refine j_aload_n J dX10_board_22 rfl (lv_at hl 0 rfl) ?_
      refine j_iload_n J dX10_board_23 rfl (lv_at hl 1 rfl) ?_
      refine ms_10_0 J hw lk_X10_7 dX10_board_24 (fun H locs hw => ?_)
      refine j_aload_n J dX10_board_27 rfl (lv_at hl 0 rfl) ?_
      refine j_iload_n J dX10_board_28 rfl (lv_at hl 2 rfl) ?_
      refine ms_10_1 J hw lk_X10_13 dX10_board_29 (fun H locs hw => ?_)
      refine j_aload_n J dX10_board_32 rfl (lv_at hl 0 rfl) ?_
      refine k_X10_anew (σ := st (st σ 18 0 co) 18 1 ro) hD  J hw hl.1 lk_X10_66 ⟨Nat.le_of_ble_eq_true rfl, Nat.le_of_ble_eq_true rfl⟩ (Nat.le_of_ble_eq_true rfl) dX10_board_33 (fun τ1 H locs hp1 hw => ?_)
      refine j_iload_n J dX10_board_36 rfl (lv_at hl 1 rfl) ?_
      refine j_iload_n J dX10_board_37 rfl (lv_at hl 2 rfl) ?_
      refine j_imul J dX10_board_38 ?_
      exact fin _ (τ1) _ _ _ _ dX10_board_39 rfl (by unfold boardS; rw [if_pos (by omega)]; exact ⟨rfl, hp1.tr (an_cr σ co ro)⟩) hw
    · refine j_iconst J (-1) dX10_board_20 ?_
      exact fin _ (σ) _ _ _ _ dX10_board_21 rfl (by first | (unfold boardS; (repeat (first | rw [if_pos (by omega)] | rw [if_neg (by omega)])); exact ⟨rfl, Eqp.rf⟩) | (exfalso; omega)) hw
theorem k_X10_board {p : Program} {l : Launch} {e : Env} {R : Room} {s : State} {m : MethodId} {args : Array Value} {below : List Frame} {meth : Method} {c : Code} {H : Heap} {locs : List Loc} {Q : State → Prop} {cc : ByteArray} {pc : Nat} {ls : Array Slot} {rest : List Value} {nL : Nat} {own : String} {D : va_G} {σ : St} {cI cZ : ClassId} {ad : Nat → Nat} {index : Nat} {co ro : Int} (hD : ∀ τ, va_D (AD ad 45) (wsM cI cZ ad τ)) (hB : Bd σ) (r_co : rg co) (r_ro : rg ro) (J : Jx p m c cc nL s args own D [(cI, .int), (cZ, .boolean)] (AD ad 45) (wsM cI cZ ad)) (hw : jW D (AD ad 45) s.heap (wsM cI cZ ad σ) H locs) (hsz : ls.size = nL) (hlk : Cond.methodLink own index yX10_board ∈ TBw) (hR : 2 ≤ R.frames ∧ 44 ≤ R.locals) (hroom : (rest.map fun v => v.category).sum ≤ 8) (hdg : decode cc pc = .ok (.invokevirtual index, 3)) (kk : ∀ (r : Int) (τ : St) (H1 : Heap) (locs1 : List Loc), (fun r τ => r = (boardS σ co ro).1 ∧ Eqp τ (boardS σ co ro).2) r τ → jW D (AD ad 45) s.heap (wsM cI cZ ad τ) H1 locs1 → W p l e R s m args below meth c H1 locs1 0 0 Q (F0 m (pc + 3) ls (.int (I r) :: rest))) : W p l e R s m args below meth c H locs 0 0 Q (F0 m pc ls (.int (I ro) :: .int (I co) :: .ref (ad 0) :: rest)) := 
  j_callVi J hw (c_X10_board  hD hB r_co r_ro) hlk in_X10_board se_X10_board ini_X10 co_X10_board (n := 2) (by decide +kernel) ⟨rfl, rfl, hR.1, hR.2⟩ (j := 0) (ci := 10) rfl rfl rfl rfl hroom hsz ⟨Nat.zero_le _, Nat.zero_le _⟩ rfl hdg kk
def rm_X10_lay : Room := { frames := 2, cells := 0, slots := 0, locals := 43 }
set_option maxHeartbeats 4000000 in
set_option maxRecDepth 100000 in
theorem c_X10_lay {l : Launch} {D : va_G} {cI cZ : ClassId} {ad : Nat → Nat} {σ : St} {cl wh vl : Int} (hD : ∀ τ, va_D (AD ad 45) (wsM cI cZ ad τ)) (hB : Bd σ) (r_cl : rg cl) (r_wh : rg wh) (r_vl : rg vl) : JMi l yX10_lay cX10_lay 5 (some .int) rm_X10_lay D [(cI, .int), (cZ, .boolean)] (AD ad 45) (wsM cI cZ ad) [.ref (ad 0), .int (I cl), .int (I wh), .int (I vl)] σ (fun r τ => r = (layS σ cl wh vl).1 ∧ Eqp τ (layS σ cl wh vl).2) := by
  refine JMi.of RX10 (by decide +kernel) rfl (Nat.le_of_ble_eq_true rfl) hD ?_
  intro p e s m args below meth c Q J fin H ls hw hl
  generalize ([] : List Loc) = locs at hw ⊢
  have hl : lv_has ls 5 [(0, .ref (ad 0)), (1, .int (I cl)), (2, .int (I wh)), (3, .int (I vl))] := hl
  have hd : Dim _ := hB.dim
  have hd1 := hd.1; have hd2 := hd.2.1; have hd3 := hd.2.2.1; have hd4 := hd.2.2.2; have hm := hd.mul
  have u_cl := r_cl; unfold rg at u_cl
  have u_wh := r_wh; unfold rg at u_wh
  have u_vl := r_vl; unfold rg at u_vl
  refine j_aload_n J dX10_lay_0 rfl (lv_at hl 0 rfl) ?_
  refine j_iload_n J dX10_lay_1 rfl (lv_at hl 1 rfl) ?_
  refine k_X10_isCell (cell := cl) (σ := σ) hD (show Dim σ from hd) (show rg cl from by unfold rg; omega) J hw hl.1 lk_X10_97 ⟨Nat.le_of_ble_eq_true rfl, Nat.le_of_ble_eq_true rfl⟩ (Nat.le_of_ble_eq_true rfl) dX10_lay_2 (fun H locs hw => ?_)
  refine j_ifeqB J 38 dX10_lay_5 (by decide) (fun (h_1 : ¬ (0 ≤ cl ∧ cl ≤ σ 18 0 * σ 18 1 - 1)) => ?_) (fun (h_1 : 0 ≤ cl ∧ cl ≤ σ 18 0 * σ 18 1 - 1) => ?_)
  · refine j_iconst J (-1) dX10_lay_38 ?_
    exact fin _ (σ) _ _ _ _ dX10_lay_39 rfl (by first | (unfold layS; (repeat (first | rw [if_pos (by omega)] | rw [if_neg (by omega)])); exact ⟨rfl, Eqp.rf⟩) | (exfalso; omega)) hw
  · refine j_iload_n J dX10_lay_8 rfl (lv_at hl 2 rfl) ?_
    refine j_iconst J (0) dX10_lay_9 ?_
    refine j_iconst J (1) dX10_lay_10 ?_
    refine k_X10_in (v := wh) (lo := 0) (hi := 1) (σ := σ) hD (show rg wh from by unfold rg; omega) (show rg 0 from by unfold rg; omega) (show rg 1 from by unfold rg; omega) J hw hl.1 lk_X10_69 ⟨Nat.le_of_ble_eq_true rfl, Nat.le_of_ble_eq_true rfl⟩ (Nat.le_of_ble_eq_true rfl) dX10_lay_11 (fun H locs hw => ?_)
    refine j_ifeqB J 38 dX10_lay_14 (by decide) (fun (h_2 : ¬ (0 ≤ wh ∧ wh ≤ 1)) => ?_) (fun (h_2 : 0 ≤ wh ∧ wh ≤ 1) => ?_)
    · refine j_iconst J (-1) dX10_lay_38 ?_
      exact fin _ (σ) _ _ _ _ dX10_lay_39 rfl (by first | (unfold layS; (repeat (first | rw [if_pos (by omega)] | rw [if_neg (by omega)])); exact ⟨rfl, Eqp.rf⟩) | (exfalso; omega)) hw
    · refine j_iload_n J dX10_lay_17 rfl (lv_at hl 3 rfl) ?_
      refine j_iconst J (0) dX10_lay_18 ?_
      refine j_iload_n J dX10_lay_19 rfl (lv_at hl 2 rfl) ?_
      refine j_if_ne J 29 (show rg wh by unfold rg; omega) dX10_lay_20 (by decide) (fun (h_3 : ¬ wh = 0) => ?_) (fun (h_3 : wh = 0) => ?_)
      · refine j_sipush J (300) dX10_lay_29 (by decide) ?_
        refine k_X10_in (v := vl) (lo := 0) (hi := 300) (σ := σ) hD (show rg vl from by unfold rg; omega) (show rg 0 from by unfold rg; omega) (show rg 300 from by unfold rg; omega) J hw hl.1 lk_X10_69 ⟨Nat.le_of_ble_eq_true rfl, Nat.le_of_ble_eq_true rfl⟩ (Nat.le_of_ble_eq_true rfl) dX10_lay_32 (fun H locs hw => ?_)
        refine j_ifneB J 40 dX10_lay_35 (by decide) (fun (h_4 : 0 ≤ vl ∧ vl ≤ 300) => ?_) (fun (h_4 : ¬ (0 ≤ vl ∧ vl ≤ 300)) => ?_)
        · refine j_iload_n J dX10_lay_40 rfl (lv_at hl 2 rfl) ?_
          refine j_if_ne J 53 (show rg wh by unfold rg; omega) dX10_lay_41 (by decide) (fun (h_5 : ¬ wh = 0) => ?_) (fun (h_5 : wh = 0) => ?_)
          · refine j_aload_n J dX10_lay_53 rfl (lv_at hl 0 rfl) ?_
            refine mg_10_3 J hw lk_X10_20 dX10_lay_54 ?_
            refine j_iload_n J dX10_lay_57 rfl (lv_at hl 1 rfl) ?_
            refine ma_ld_2 J hw (show 0 ≤ cl ∧ cl < ((120 : Nat) : Int) from by omega) dX10_lay_58 ?_
            refine j_istore J (lv' := [(4, .int (I (σ 2 cl))), (0, .ref (ad 0)), (1, .int (I cl)), (2, .int (I wh)), (3, .int (I vl))]) hl dX10_lay_59 (by decide) rfl (fun ls hl => ?_)
            refine j_aload_n J dX10_lay_61 rfl (lv_at hl 1 rfl) ?_
            refine mg_10_2 J hw lk_X10_16 dX10_lay_62 ?_
            refine j_iload_n J dX10_lay_65 rfl (lv_at hl 2 rfl) ?_
            refine j_iload_n J dX10_lay_66 rfl (lv_at hl 3 rfl) ?_
            refine j_if_ne J 74 (show rg wh by unfold rg; omega) dX10_lay_67 (by decide) (fun (h_6 : ¬ wh = 0) => ?_) (fun (h_6 : wh = 0) => ?_)
            · refine j_aload_n J dX10_lay_74 rfl (lv_at hl 1 rfl) ?_
              refine mg_10_2 J hw lk_X10_16 dX10_lay_75 ?_
              refine j_iload_n J dX10_lay_78 rfl (lv_at hl 2 rfl) ?_
              refine ma_ld_1 J hw (show 0 ≤ cl ∧ cl < ((120 : Nat) : Int) from by omega) dX10_lay_79 ?_
              refine ma_st_1 J hw (show 0 ≤ cl ∧ cl < ((120 : Nat) : Int) from by omega) dX10_lay_80 (fun H locs hw => ?_)
              refine j_aload_n J dX10_lay_81 rfl (lv_at hl 1 rfl) ?_
              refine mg_10_3 J hw lk_X10_20 dX10_lay_82 ?_
              refine j_iload_n J dX10_lay_85 rfl (lv_at hl 2 rfl) ?_
              refine j_iload_n J dX10_lay_86 rfl (lv_at hl 3 rfl) ?_
              refine j_iconst J (1) dX10_lay_87 ?_
              refine j_icmp_ne J 95 (show rg wh by unfold rg; omega) (by unfold rg; omega) dX10_lay_88 (by decide) (fun (h_7 : ¬ wh = 1) => ?_) (fun (h_7 : wh = 1) => ?_)
              · refine j_aload_n J dX10_lay_95 rfl (lv_at hl 1 rfl) ?_
                refine mg_10_3 J hw lk_X10_20 dX10_lay_96 ?_
                refine j_iload_n J dX10_lay_99 rfl (lv_at hl 2 rfl) ?_
                refine ma_ld_2 J hw (show 0 ≤ cl ∧ cl < ((120 : Nat) : Int) from by omega) dX10_lay_100 ?_
                refine ma_st_2 J hw (show 0 ≤ cl ∧ cl < ((120 : Nat) : Int) from by omega) dX10_lay_101 (fun H locs hw => ?_)
                refine j_iload J dX10_lay_102 (lv_at hl 0 rfl) ?_
                exact fin _ (st (st σ 1 cl (σ 1 cl)) 2 cl (σ 2 cl)) _ _ _ _ dX10_lay_104 rfl (by first | (unfold layS; (repeat (first | rw [if_pos (by omega)] | rw [if_neg (by omega)])); first | exact ⟨rfl, Eqp.rf⟩ | exact ⟨rfl, st_id rfl⟩ | exact ⟨rfl, st_eqp (st_id rfl) _ _ _⟩) | (exfalso; omega)) hw
              · refine j_iload_n J dX10_lay_91 rfl (lv_at hl 4 rfl) ?_
                refine j_goto J 101 dX10_lay_92 (by decide) ?_
                refine ma_st_2 J hw (show 0 ≤ cl ∧ cl < ((120 : Nat) : Int) from by omega) dX10_lay_101 (fun H locs hw => ?_)
                refine j_iload J dX10_lay_102 (lv_at hl 0 rfl) ?_
                exact fin _ (st (st σ 1 cl (σ 1 cl)) 2 cl vl) _ _ _ _ dX10_lay_104 rfl (by first | (unfold layS; (repeat (first | rw [if_pos (by omega)] | rw [if_neg (by omega)])); first | exact ⟨rfl, Eqp.rf⟩ | exact ⟨rfl, st_id rfl⟩ | exact ⟨rfl, st_eqp (st_id rfl) _ _ _⟩) | (exfalso; omega)) hw
            · refine j_iload_n J dX10_lay_70 rfl (lv_at hl 4 rfl) ?_
              refine j_goto J 80 dX10_lay_71 (by decide) ?_
              refine ma_st_1 J hw (show 0 ≤ cl ∧ cl < ((120 : Nat) : Int) from by omega) dX10_lay_80 (fun H locs hw => ?_)
              refine j_aload_n J dX10_lay_81 rfl (lv_at hl 1 rfl) ?_
              refine mg_10_3 J hw lk_X10_20 dX10_lay_82 ?_
              refine j_iload_n J dX10_lay_85 rfl (lv_at hl 2 rfl) ?_
              refine j_iload_n J dX10_lay_86 rfl (lv_at hl 3 rfl) ?_
              refine j_iconst J (1) dX10_lay_87 ?_
              refine j_icmp_ne J 95 (show rg wh by unfold rg; omega) (by unfold rg; omega) dX10_lay_88 (by decide) (fun (h_8 : ¬ wh = 1) => ?_) (fun (h_8 : wh = 1) => ?_)
              · refine j_aload_n J dX10_lay_95 rfl (lv_at hl 1 rfl) ?_
                refine mg_10_3 J hw lk_X10_20 dX10_lay_96 ?_
                refine j_iload_n J dX10_lay_99 rfl (lv_at hl 2 rfl) ?_
                refine ma_ld_2 J hw (show 0 ≤ cl ∧ cl < ((120 : Nat) : Int) from by omega) dX10_lay_100 ?_
                refine ma_st_2 J hw (show 0 ≤ cl ∧ cl < ((120 : Nat) : Int) from by omega) dX10_lay_101 (fun H locs hw => ?_)
                refine j_iload J dX10_lay_102 (lv_at hl 0 rfl) ?_
                exact fin _ (st (st σ 1 cl vl) 2 cl (σ 2 cl)) _ _ _ _ dX10_lay_104 rfl (by first | (unfold layS; (repeat (first | rw [if_pos (by omega)] | rw [if_neg (by omega)])); first | exact ⟨rfl, Eqp.rf⟩ | exact ⟨rfl, st_id rfl⟩ | exact ⟨rfl, st_eqp (st_id rfl) _ _ _⟩) | (exfalso; omega)) hw
              · refine j_iload_n J dX10_lay_91 rfl (lv_at hl 4 rfl) ?_
                refine j_goto J 101 dX10_lay_92 (by decide) ?_
                refine ma_st_2 J hw (show 0 ≤ cl ∧ cl < ((120 : Nat) : Int) from by omega) dX10_lay_101 (fun H locs hw => ?_)
                refine j_iload J dX10_lay_102 (lv_at hl 0 rfl) ?_
                exact fin _ (st (st σ 1 cl vl) 2 cl vl) _ _ _ _ dX10_lay_104 rfl (by first | (unfold layS; (repeat (first | rw [if_pos (by omega)] | rw [if_neg (by omega)])); first | exact ⟨rfl, Eqp.rf⟩ | exact ⟨rfl, st_id rfl⟩ | exact ⟨rfl, st_eqp (st_id rfl) _ _ _⟩) | (exfalso; omega)) hw
          · refine j_aload_n J dX10_lay_44 rfl (lv_at hl 0 rfl) ?_
            refine mg_10_2 J hw lk_X10_16 dX10_lay_45 ?_
            refine j_iload_n J dX10_lay_48 rfl (lv_at hl 1 rfl) ?_
            refine ma_ld_1 J hw (show 0 ≤ cl ∧ cl < ((120 : Nat) : Int) from by omega) dX10_lay_49 ?_
            refine j_goto J 59 dX10_lay_50 (by decide) ?_
            refine j_istore J (lv' := [(4, .int (I (σ 1 cl))), (0, .ref (ad 0)), (1, .int (I cl)), (2, .int (I wh)), (3, .int (I vl))]) hl dX10_lay_59 (by decide) rfl (fun ls hl => ?_)
            refine j_aload_n J dX10_lay_61 rfl (lv_at hl 1 rfl) ?_
            refine mg_10_2 J hw lk_X10_16 dX10_lay_62 ?_
            refine j_iload_n J dX10_lay_65 rfl (lv_at hl 2 rfl) ?_
            refine j_iload_n J dX10_lay_66 rfl (lv_at hl 3 rfl) ?_
            refine j_if_ne J 74 (show rg wh by unfold rg; omega) dX10_lay_67 (by decide) (fun (h_9 : ¬ wh = 0) => ?_) (fun (h_9 : wh = 0) => ?_)
            · refine j_aload_n J dX10_lay_74 rfl (lv_at hl 1 rfl) ?_
              refine mg_10_2 J hw lk_X10_16 dX10_lay_75 ?_
              refine j_iload_n J dX10_lay_78 rfl (lv_at hl 2 rfl) ?_
              refine ma_ld_1 J hw (show 0 ≤ cl ∧ cl < ((120 : Nat) : Int) from by omega) dX10_lay_79 ?_
              refine ma_st_1 J hw (show 0 ≤ cl ∧ cl < ((120 : Nat) : Int) from by omega) dX10_lay_80 (fun H locs hw => ?_)
              refine j_aload_n J dX10_lay_81 rfl (lv_at hl 1 rfl) ?_
              refine mg_10_3 J hw lk_X10_20 dX10_lay_82 ?_
              refine j_iload_n J dX10_lay_85 rfl (lv_at hl 2 rfl) ?_
              refine j_iload_n J dX10_lay_86 rfl (lv_at hl 3 rfl) ?_
              refine j_iconst J (1) dX10_lay_87 ?_
              refine j_icmp_ne J 95 (show rg wh by unfold rg; omega) (by unfold rg; omega) dX10_lay_88 (by decide) (fun (h_10 : ¬ wh = 1) => ?_) (fun (h_10 : wh = 1) => ?_)
              · refine j_aload_n J dX10_lay_95 rfl (lv_at hl 1 rfl) ?_
                refine mg_10_3 J hw lk_X10_20 dX10_lay_96 ?_
                refine j_iload_n J dX10_lay_99 rfl (lv_at hl 2 rfl) ?_
                refine ma_ld_2 J hw (show 0 ≤ cl ∧ cl < ((120 : Nat) : Int) from by omega) dX10_lay_100 ?_
                refine ma_st_2 J hw (show 0 ≤ cl ∧ cl < ((120 : Nat) : Int) from by omega) dX10_lay_101 (fun H locs hw => ?_)
                refine j_iload J dX10_lay_102 (lv_at hl 0 rfl) ?_
                exact fin _ (st (st σ 1 cl (σ 1 cl)) 2 cl (σ 2 cl)) _ _ _ _ dX10_lay_104 rfl (by first | (unfold layS; (repeat (first | rw [if_pos (by omega)] | rw [if_neg (by omega)])); first | exact ⟨rfl, Eqp.rf⟩ | exact ⟨rfl, st_id rfl⟩ | exact ⟨rfl, st_eqp (st_id rfl) _ _ _⟩) | (exfalso; omega)) hw
              · refine j_iload_n J dX10_lay_91 rfl (lv_at hl 4 rfl) ?_
                refine j_goto J 101 dX10_lay_92 (by decide) ?_
                refine ma_st_2 J hw (show 0 ≤ cl ∧ cl < ((120 : Nat) : Int) from by omega) dX10_lay_101 (fun H locs hw => ?_)
                refine j_iload J dX10_lay_102 (lv_at hl 0 rfl) ?_
                exact fin _ (st (st σ 1 cl (σ 1 cl)) 2 cl vl) _ _ _ _ dX10_lay_104 rfl (by first | (unfold layS; (repeat (first | rw [if_pos (by omega)] | rw [if_neg (by omega)])); first | exact ⟨rfl, Eqp.rf⟩ | exact ⟨rfl, st_id rfl⟩ | exact ⟨rfl, st_eqp (st_id rfl) _ _ _⟩) | (exfalso; omega)) hw
            · refine j_iload_n J dX10_lay_70 rfl (lv_at hl 4 rfl) ?_
              refine j_goto J 80 dX10_lay_71 (by decide) ?_
              refine ma_st_1 J hw (show 0 ≤ cl ∧ cl < ((120 : Nat) : Int) from by omega) dX10_lay_80 (fun H locs hw => ?_)
              refine j_aload_n J dX10_lay_81 rfl (lv_at hl 1 rfl) ?_
              refine mg_10_3 J hw lk_X10_20 dX10_lay_82 ?_
              refine j_iload_n J dX10_lay_85 rfl (lv_at hl 2 rfl) ?_
              refine j_iload_n J dX10_lay_86 rfl (lv_at hl 3 rfl) ?_
              refine j_iconst J (1) dX10_lay_87 ?_
              refine j_icmp_ne J 95 (show rg wh by unfold rg; omega) (by unfold rg; omega) dX10_lay_88 (by decide) (fun (h_11 : ¬ wh = 1) => ?_) (fun (h_11 : wh = 1) => ?_)
              · refine j_aload_n J dX10_lay_95 rfl (lv_at hl 1 rfl) ?_
                refine mg_10_3 J hw lk_X10_20 dX10_lay_96 ?_
                refine j_iload_n J dX10_lay_99 rfl (lv_at hl 2 rfl) ?_
                refine ma_ld_2 J hw (show 0 ≤ cl ∧ cl < ((120 : Nat) : Int) from by omega) dX10_lay_100 ?_
                refine ma_st_2 J hw (show 0 ≤ cl ∧ cl < ((120 : Nat) : Int) from by omega) dX10_lay_101 (fun H locs hw => ?_)
                refine j_iload J dX10_lay_102 (lv_at hl 0 rfl) ?_
                exact fin _ (st (st σ 1 cl vl) 2 cl (σ 2 cl)) _ _ _ _ dX10_lay_104 rfl (by first | (unfold layS; (repeat (first | rw [if_pos (by omega)] | rw [if_neg (by omega)])); first | exact ⟨rfl, Eqp.rf⟩ | exact ⟨rfl, st_id rfl⟩ | exact ⟨rfl, st_eqp (st_id rfl) _ _ _⟩) | (exfalso; omega)) hw
              · refine j_iload_n J dX10_lay_91 rfl (lv_at hl 4 rfl) ?_
                refine j_goto J 101 dX10_lay_92 (by decide) ?_
                refine ma_st_2 J hw (show 0 ≤ cl ∧ cl < ((120 : Nat) : Int) from by omega) dX10_lay_101 (fun H locs hw => ?_)
                refine j_iload J dX10_lay_102 (lv_at hl 0 rfl) ?_
                exact fin _ (st (st σ 1 cl vl) 2 cl vl) _ _ _ _ dX10_lay_104 rfl (by first | (unfold layS; (repeat (first | rw [if_pos (by omega)] | rw [if_neg (by omega)])); first | exact ⟨rfl, Eqp.rf⟩ | exact ⟨rfl, st_id rfl⟩ | exact ⟨rfl, st_eqp (st_id rfl) _ _ _⟩) | (exfalso; omega)) hw
        · refine j_iconst J (-1) dX10_lay_38 ?_
          exact fin _ (σ) _ _ _ _ dX10_lay_39 rfl (by first | (unfold layS; (repeat (first | rw [if_pos (by omega)] | rw [if_neg (by omega)])); exact ⟨rfl, Eqp.rf⟩) | (exfalso; omega)) hw
      · refine j_sipush J (400) dX10_lay_23 (by decide) ?_
        refine j_goto J 32 dX10_lay_26 (by decide) ?_
        refine k_X10_in (v := vl) (lo := 0) (hi := 400) (σ := σ) hD (show rg vl from by unfold rg; omega) (show rg 0 from by unfold rg; omega) (show rg 400 from by unfold rg; omega) J hw hl.1 lk_X10_69 ⟨Nat.le_of_ble_eq_true rfl, Nat.le_of_ble_eq_true rfl⟩ (Nat.le_of_ble_eq_true rfl) dX10_lay_32 (fun H locs hw => ?_)
        refine j_ifneB J 40 dX10_lay_35 (by decide) (fun (h_12 : 0 ≤ vl ∧ vl ≤ 400) => ?_) (fun (h_12 : ¬ (0 ≤ vl ∧ vl ≤ 400)) => ?_)
        · refine j_iload_n J dX10_lay_40 rfl (lv_at hl 2 rfl) ?_
          refine j_if_ne J 53 (show rg wh by unfold rg; omega) dX10_lay_41 (by decide) (fun (h_13 : ¬ wh = 0) => ?_) (fun (h_13 : wh = 0) => ?_)
          · refine j_aload_n J dX10_lay_53 rfl (lv_at hl 0 rfl) ?_
            refine mg_10_3 J hw lk_X10_20 dX10_lay_54 ?_
            refine j_iload_n J dX10_lay_57 rfl (lv_at hl 1 rfl) ?_
            refine ma_ld_2 J hw (show 0 ≤ cl ∧ cl < ((120 : Nat) : Int) from by omega) dX10_lay_58 ?_
            refine j_istore J (lv' := [(4, .int (I (σ 2 cl))), (0, .ref (ad 0)), (1, .int (I cl)), (2, .int (I wh)), (3, .int (I vl))]) hl dX10_lay_59 (by decide) rfl (fun ls hl => ?_)
            refine j_aload_n J dX10_lay_61 rfl (lv_at hl 1 rfl) ?_
            refine mg_10_2 J hw lk_X10_16 dX10_lay_62 ?_
            refine j_iload_n J dX10_lay_65 rfl (lv_at hl 2 rfl) ?_
            refine j_iload_n J dX10_lay_66 rfl (lv_at hl 3 rfl) ?_
            refine j_if_ne J 74 (show rg wh by unfold rg; omega) dX10_lay_67 (by decide) (fun (h_14 : ¬ wh = 0) => ?_) (fun (h_14 : wh = 0) => ?_)
            · refine j_aload_n J dX10_lay_74 rfl (lv_at hl 1 rfl) ?_
              refine mg_10_2 J hw lk_X10_16 dX10_lay_75 ?_
              refine j_iload_n J dX10_lay_78 rfl (lv_at hl 2 rfl) ?_
              refine ma_ld_1 J hw (show 0 ≤ cl ∧ cl < ((120 : Nat) : Int) from by omega) dX10_lay_79 ?_
              refine ma_st_1 J hw (show 0 ≤ cl ∧ cl < ((120 : Nat) : Int) from by omega) dX10_lay_80 (fun H locs hw => ?_)
              refine j_aload_n J dX10_lay_81 rfl (lv_at hl 1 rfl) ?_
              refine mg_10_3 J hw lk_X10_20 dX10_lay_82 ?_
              refine j_iload_n J dX10_lay_85 rfl (lv_at hl 2 rfl) ?_
              refine j_iload_n J dX10_lay_86 rfl (lv_at hl 3 rfl) ?_
              refine j_iconst J (1) dX10_lay_87 ?_
              refine j_icmp_ne J 95 (show rg wh by unfold rg; omega) (by unfold rg; omega) dX10_lay_88 (by decide) (fun (h_15 : ¬ wh = 1) => ?_) (fun (h_15 : wh = 1) => ?_)
              · refine j_aload_n J dX10_lay_95 rfl (lv_at hl 1 rfl) ?_
                refine mg_10_3 J hw lk_X10_20 dX10_lay_96 ?_
                refine j_iload_n J dX10_lay_99 rfl (lv_at hl 2 rfl) ?_
                refine ma_ld_2 J hw (show 0 ≤ cl ∧ cl < ((120 : Nat) : Int) from by omega) dX10_lay_100 ?_
                refine ma_st_2 J hw (show 0 ≤ cl ∧ cl < ((120 : Nat) : Int) from by omega) dX10_lay_101 (fun H locs hw => ?_)
                refine j_iload J dX10_lay_102 (lv_at hl 0 rfl) ?_
                exact fin _ (st (st σ 1 cl (σ 1 cl)) 2 cl (σ 2 cl)) _ _ _ _ dX10_lay_104 rfl (by first | (unfold layS; (repeat (first | rw [if_pos (by omega)] | rw [if_neg (by omega)])); first | exact ⟨rfl, Eqp.rf⟩ | exact ⟨rfl, st_id rfl⟩ | exact ⟨rfl, st_eqp (st_id rfl) _ _ _⟩) | (exfalso; omega)) hw
              · refine j_iload_n J dX10_lay_91 rfl (lv_at hl 4 rfl) ?_
                refine j_goto J 101 dX10_lay_92 (by decide) ?_
                refine ma_st_2 J hw (show 0 ≤ cl ∧ cl < ((120 : Nat) : Int) from by omega) dX10_lay_101 (fun H locs hw => ?_)
                refine j_iload J dX10_lay_102 (lv_at hl 0 rfl) ?_
                exact fin _ (st (st σ 1 cl (σ 1 cl)) 2 cl vl) _ _ _ _ dX10_lay_104 rfl (by first | (unfold layS; (repeat (first | rw [if_pos (by omega)] | rw [if_neg (by omega)])); first | exact ⟨rfl, Eqp.rf⟩ | exact ⟨rfl, st_id rfl⟩ | exact ⟨rfl, st_eqp (st_id rfl) _ _ _⟩) | (exfalso; omega)) hw
            · refine j_iload_n J dX10_lay_70 rfl (lv_at hl 4 rfl) ?_
              refine j_goto J 80 dX10_lay_71 (by decide) ?_
              refine ma_st_1 J hw (show 0 ≤ cl ∧ cl < ((120 : Nat) : Int) from by omega) dX10_lay_80 (fun H locs hw => ?_)
              refine j_aload_n J dX10_lay_81 rfl (lv_at hl 1 rfl) ?_
              refine mg_10_3 J hw lk_X10_20 dX10_lay_82 ?_
              refine j_iload_n J dX10_lay_85 rfl (lv_at hl 2 rfl) ?_
              refine j_iload_n J dX10_lay_86 rfl (lv_at hl 3 rfl) ?_
              refine j_iconst J (1) dX10_lay_87 ?_
              refine j_icmp_ne J 95 (show rg wh by unfold rg; omega) (by unfold rg; omega) dX10_lay_88 (by decide) (fun (h_16 : ¬ wh = 1) => ?_) (fun (h_16 : wh = 1) => ?_)
              · refine j_aload_n J dX10_lay_95 rfl (lv_at hl 1 rfl) ?_
                refine mg_10_3 J hw lk_X10_20 dX10_lay_96 ?_
                refine j_iload_n J dX10_lay_99 rfl (lv_at hl 2 rfl) ?_
                refine ma_ld_2 J hw (show 0 ≤ cl ∧ cl < ((120 : Nat) : Int) from by omega) dX10_lay_100 ?_
                refine ma_st_2 J hw (show 0 ≤ cl ∧ cl < ((120 : Nat) : Int) from by omega) dX10_lay_101 (fun H locs hw => ?_)
                refine j_iload J dX10_lay_102 (lv_at hl 0 rfl) ?_
                exact fin _ (st (st σ 1 cl vl) 2 cl (σ 2 cl)) _ _ _ _ dX10_lay_104 rfl (by first | (unfold layS; (repeat (first | rw [if_pos (by omega)] | rw [if_neg (by omega)])); first | exact ⟨rfl, Eqp.rf⟩ | exact ⟨rfl, st_id rfl⟩ | exact ⟨rfl, st_eqp (st_id rfl) _ _ _⟩) | (exfalso; omega)) hw
              · refine j_iload_n J dX10_lay_91 rfl (lv_at hl 4 rfl) ?_
                refine j_goto J 101 dX10_lay_92 (by decide) ?_
                refine ma_st_2 J hw (show 0 ≤ cl ∧ cl < ((120 : Nat) : Int) from by omega) dX10_lay_101 (fun H locs hw => ?_)
                refine j_iload J dX10_lay_102 (lv_at hl 0 rfl) ?_
                exact fin _ (st (st σ 1 cl vl) 2 cl vl) _ _ _ _ dX10_lay_104 rfl (by first | (unfold layS; (repeat (first | rw [if_pos (by omega)] | rw [if_neg (by omega)])); first | exact ⟨rfl, Eqp.rf⟩ | exact ⟨rfl, st_id rfl⟩ | exact ⟨rfl, st_eqp (st_id rfl) _ _ _⟩) | (exfalso; omega)) hw
          · refine j_aload_n J dX10_lay_44 rfl (lv_at hl 0 rfl) ?_
            refine mg_10_2 J hw lk_X10_16 dX10_lay_45 ?_
            refine j_iload_n J dX10_lay_48 rfl (lv_at hl 1 rfl) ?_
            refine ma_ld_1 J hw (show 0 ≤ cl ∧ cl < ((120 : Nat) : Int) from by omega) dX10_lay_49 ?_
            refine j_goto J 59 dX10_lay_50 (by decide) ?_
            refine j_istore J (lv' := [(4, .int (I (σ 1 cl))), (0, .ref (ad 0)), (1, .int (I cl)), (2, .int (I wh)), (3, .int (I vl))]) hl dX10_lay_59 (by decide) rfl (fun ls hl => ?_)
            refine j_aload_n J dX10_lay_61 rfl (lv_at hl 1 rfl) ?_
            refine mg_10_2 J hw lk_X10_16 dX10_lay_62 ?_
            refine j_iload_n J dX10_lay_65 rfl (lv_at hl 2 rfl) ?_
            refine j_iload_n J dX10_lay_66 rfl (lv_at hl 3 rfl) ?_
            refine j_if_ne J 74 (show rg wh by unfold rg; omega) dX10_lay_67 (by decide) (fun (h_17 : ¬ wh = 0) => ?_) (fun (h_17 : wh = 0) => ?_)
            · refine j_aload_n J dX10_lay_74 rfl (lv_at hl 1 rfl) ?_
              refine mg_10_2 J hw lk_X10_16 dX10_lay_75 ?_
              refine j_iload_n J dX10_lay_78 rfl (lv_at hl 2 rfl) ?_
              refine ma_ld_1 J hw (show 0 ≤ cl ∧ cl < ((120 : Nat) : Int) from by omega) dX10_lay_79 ?_
              refine ma_st_1 J hw (show 0 ≤ cl ∧ cl < ((120 : Nat) : Int) from by omega) dX10_lay_80 (fun H locs hw => ?_)
              refine j_aload_n J dX10_lay_81 rfl (lv_at hl 1 rfl) ?_
              refine mg_10_3 J hw lk_X10_20 dX10_lay_82 ?_
              refine j_iload_n J dX10_lay_85 rfl (lv_at hl 2 rfl) ?_
              refine j_iload_n J dX10_lay_86 rfl (lv_at hl 3 rfl) ?_
              refine j_iconst J (1) dX10_lay_87 ?_
              refine j_icmp_ne J 95 (show rg wh by unfold rg; omega) (by unfold rg; omega) dX10_lay_88 (by decide) (fun (h_18 : ¬ wh = 1) => ?_) (fun (h_18 : wh = 1) => ?_)
              · refine j_aload_n J dX10_lay_95 rfl (lv_at hl 1 rfl) ?_
                refine mg_10_3 J hw lk_X10_20 dX10_lay_96 ?_
                refine j_iload_n J dX10_lay_99 rfl (lv_at hl 2 rfl) ?_
                refine ma_ld_2 J hw (show 0 ≤ cl ∧ cl < ((120 : Nat) : Int) from by omega) dX10_lay_100 ?_
                refine ma_st_2 J hw (show 0 ≤ cl ∧ cl < ((120 : Nat) : Int) from by omega) dX10_lay_101 (fun H locs hw => ?_)
                refine j_iload J dX10_lay_102 (lv_at hl 0 rfl) ?_
                exact fin _ (st (st σ 1 cl (σ 1 cl)) 2 cl (σ 2 cl)) _ _ _ _ dX10_lay_104 rfl (by first | (unfold layS; (repeat (first | rw [if_pos (by omega)] | rw [if_neg (by omega)])); first | exact ⟨rfl, Eqp.rf⟩ | exact ⟨rfl, st_id rfl⟩ | exact ⟨rfl, st_eqp (st_id rfl) _ _ _⟩) | (exfalso; omega)) hw
              · refine j_iload_n J dX10_lay_91 rfl (lv_at hl 4 rfl) ?_
                refine j_goto J 101 dX10_lay_92 (by decide) ?_
                refine ma_st_2 J hw (show 0 ≤ cl ∧ cl < ((120 : Nat) : Int) from by omega) dX10_lay_101 (fun H locs hw => ?_)
                refine j_iload J dX10_lay_102 (lv_at hl 0 rfl) ?_
                exact fin _ (st (st σ 1 cl (σ 1 cl)) 2 cl vl) _ _ _ _ dX10_lay_104 rfl (by first | (unfold layS; (repeat (first | rw [if_pos (by omega)] | rw [if_neg (by omega)])); first | exact ⟨rfl, Eqp.rf⟩ | exact ⟨rfl, st_id rfl⟩ | exact ⟨rfl, st_eqp (st_id rfl) _ _ _⟩) | (exfalso; omega)) hw
            · refine j_iload_n J dX10_lay_70 rfl (lv_at hl 4 rfl) ?_
              refine j_goto J 80 dX10_lay_71 (by decide) ?_
              refine ma_st_1 J hw (show 0 ≤ cl ∧ cl < ((120 : Nat) : Int) from by omega) dX10_lay_80 (fun H locs hw => ?_)
              refine j_aload_n J dX10_lay_81 rfl (lv_at hl 1 rfl) ?_
              refine mg_10_3 J hw lk_X10_20 dX10_lay_82 ?_
              refine j_iload_n J dX10_lay_85 rfl (lv_at hl 2 rfl) ?_
              refine j_iload_n J dX10_lay_86 rfl (lv_at hl 3 rfl) ?_
              refine j_iconst J (1) dX10_lay_87 ?_
              refine j_icmp_ne J 95 (show rg wh by unfold rg; omega) (by unfold rg; omega) dX10_lay_88 (by decide) (fun (h_19 : ¬ wh = 1) => ?_) (fun (h_19 : wh = 1) => ?_)
              · refine j_aload_n J dX10_lay_95 rfl (lv_at hl 1 rfl) ?_
                refine mg_10_3 J hw lk_X10_20 dX10_lay_96 ?_
                refine j_iload_n J dX10_lay_99 rfl (lv_at hl 2 rfl) ?_
                refine ma_ld_2 J hw (show 0 ≤ cl ∧ cl < ((120 : Nat) : Int) from by omega) dX10_lay_100 ?_
                refine ma_st_2 J hw (show 0 ≤ cl ∧ cl < ((120 : Nat) : Int) from by omega) dX10_lay_101 (fun H locs hw => ?_)
                refine j_iload J dX10_lay_102 (lv_at hl 0 rfl) ?_
                exact fin _ (st (st σ 1 cl vl) 2 cl (σ 2 cl)) _ _ _ _ dX10_lay_104 rfl (by first | (unfold layS; (repeat (first | rw [if_pos (by omega)] | rw [if_neg (by omega)])); first | exact ⟨rfl, Eqp.rf⟩ | exact ⟨rfl, st_id rfl⟩ | exact ⟨rfl, st_eqp (st_id rfl) _ _ _⟩) | (exfalso; omega)) hw
              · refine j_iload_n J dX10_lay_91 rfl (lv_at hl 4 rfl) ?_
                refine j_goto J 101 dX10_lay_92 (by decide) ?_
                refine ma_st_2 J hw (show 0 ≤ cl ∧ cl < ((120 : Nat) : Int) from by omega) dX10_lay_101 (fun H locs hw => ?_)
                refine j_iload J dX10_lay_102 (lv_at hl 0 rfl) ?_
                exact fin _ (st (st σ 1 cl vl) 2 cl vl) _ _ _ _ dX10_lay_104 rfl (by first | (unfold layS; (repeat (first | rw [if_pos (by omega)] | rw [if_neg (by omega)])); first | exact ⟨rfl, Eqp.rf⟩ | exact ⟨rfl, st_id rfl⟩ | exact ⟨rfl, st_eqp (st_id rfl) _ _ _⟩) | (exfalso; omega)) hw
        · refine j_iconst J (-1) dX10_lay_38 ?_
          exact fin _ (σ) _ _ _ _ dX10_lay_39 rfl (by first | (unfold layS; (repeat (first | rw [if_pos (by omega)] | rw [if_neg (by omega)])); exact ⟨rfl, Eqp.rf⟩) | (exfalso; omega)) hw
theorem k_X10_lay {p : Program} {l : Launch} {e : Env} {R : Room} {s : State} {m : MethodId} {args : Array Value} {below : List Frame} {meth : Method} {c : Code} {H : Heap} {locs : List Loc} {Q : State → Prop} {cc : ByteArray} {pc : Nat} {ls : Array Slot} {rest : List Value} {nL : Nat} {own : String} {D : va_G} {σ : St} {cI cZ : ClassId} {ad : Nat → Nat} {index : Nat} {cl wh vl : Int} (hD : ∀ τ, va_D (AD ad 45) (wsM cI cZ ad τ)) (hB : Bd σ) (r_cl : rg cl) (r_wh : rg wh) (r_vl : rg vl) (J : Jx p m c cc nL s args own D [(cI, .int), (cZ, .boolean)] (AD ad 45) (wsM cI cZ ad)) (hw : jW D (AD ad 45) s.heap (wsM cI cZ ad σ) H locs) (hsz : ls.size = nL) (hlk : Cond.methodLink own index yX10_lay ∈ TBw) (hR : 3 ≤ R.frames ∧ 67 ≤ R.locals) (hroom : (rest.map fun v => v.category).sum ≤ 8) (hdg : decode cc pc = .ok (.invokevirtual index, 3)) (kk : ∀ (r : Int) (τ : St) (H1 : Heap) (locs1 : List Loc), (fun r τ => r = (layS σ cl wh vl).1 ∧ Eqp τ (layS σ cl wh vl).2) r τ → jW D (AD ad 45) s.heap (wsM cI cZ ad τ) H1 locs1 → W p l e R s m args below meth c H1 locs1 0 0 Q (F0 m (pc + 3) ls (.int (I r) :: rest))) : W p l e R s m args below meth c H locs 0 0 Q (F0 m pc ls (.int (I vl) :: .int (I wh) :: .int (I cl) :: .ref (ad 0) :: rest)) := 
  j_callVi J hw (c_X10_lay  hD hB r_cl r_wh r_vl) hlk in_X10_lay se_X10_lay ini_X10 co_X10_lay (n := 3) (by decide +kernel) ⟨rfl, rfl, hR.1, hR.2⟩ (j := 0) (ci := 10) rfl rfl rfl rfl hroom hsz ⟨Nat.zero_le _, Nat.zero_le _⟩ rfl hdg kk
def rm_X10_rule : Room := { frames := 1, cells := 0, slots := 0, locals := 22 }
set_option maxHeartbeats 4000000 in
set_option maxRecDepth 100000 in
theorem c_X10_rule {l : Launch} {D : va_G} {cI cZ : ClassId} {ad : Nat → Nat} {σ : St} {wh vl : Int} (hD : ∀ τ, va_D (AD ad 45) (wsM cI cZ ad τ)) (hB : Bd σ) (r_wh : rg wh) (r_vl : rg vl) : JMi l yX10_rule cX10_rule 5 (some .int) rm_X10_rule D [(cI, .int), (cZ, .boolean)] (AD ad 45) (wsM cI cZ ad) [.ref (ad 0), .int (I wh), .int (I vl)] σ (fun r τ => r = (ruleS σ wh vl).1 ∧ Eqp τ (ruleS σ wh vl).2) := by
  refine JMi.of RX10 (by decide +kernel) rfl (Nat.le_of_ble_eq_true rfl) hD ?_
  intro p e s m args below meth c Q J fin H ls hw hl
  generalize ([] : List Loc) = locs at hw ⊢
  have hl : lv_has ls 5 [(0, .ref (ad 0)), (1, .int (I wh)), (2, .int (I vl))] := hl
  have hd : Dim _ := hB.dim
  have hd1 := hd.1; have hd2 := hd.2.1; have hd3 := hd.2.2.1; have hd4 := hd.2.2.2; have hm := hd.mul
  have u_wh := r_wh; unfold rg at u_wh
  have u_vl := r_vl; unfold rg at u_vl
  refine j_iload_n J dX10_rule_0 rfl (lv_at hl 1 rfl) ?_
  refine j_if_ne J 14 (show rg wh by unfold rg; omega) dX10_rule_1 (by decide) (fun (h_1 : ¬ wh = 0) => ?_) (fun (h_1 : wh = 0) => ?_)
  · refine j_iload_n J dX10_rule_14 rfl (lv_at hl 1 rfl) ?_
    refine j_iconst J (4) dX10_rule_15 ?_
    refine j_icmp_ne J 28 (show rg wh by unfold rg; omega) (by unfold rg; omega) dX10_rule_16 (by decide) (fun (h_2 : ¬ wh = 4) => ?_) (fun (h_2 : wh = 4) => ?_)
    · refine j_iload_n J dX10_rule_28 rfl (lv_at hl 1 rfl) ?_
      refine j_iconst J (1) dX10_rule_29 ?_
      refine j_iconst J (3) dX10_rule_30 ?_
      refine k_X10_in (v := wh) (lo := 1) (hi := 3) (σ := σ) hD (show rg wh from by unfold rg; omega) (show rg 1 from by unfold rg; omega) (show rg 3 from by unfold rg; omega) J hw hl.1 lk_X10_69 ⟨Nat.le_of_ble_eq_true rfl, Nat.le_of_ble_eq_true rfl⟩ (Nat.le_of_ble_eq_true rfl) dX10_rule_31 (fun H locs hw => ?_)
      refine j_ifeqB J 52 dX10_rule_34 (by decide) (fun (h_3 : ¬ (1 ≤ wh ∧ wh ≤ 3)) => ?_) (fun (h_3 : 1 ≤ wh ∧ wh ≤ 3) => ?_)
      · refine j_iconst J (0) dX10_rule_52 ?_
        refine j_istore_n J (lv' := [(3, .int (I 0)), (0, .ref (ad 0)), (1, .int (I wh)), (2, .int (I vl))]) hl dX10_rule_53 rfl (by decide) rfl (fun ls hl => ?_)
        refine j_iload_n J dX10_rule_54 rfl (lv_at hl 0 rfl) ?_
        refine j_if_ne J 61 (by unfold rg; omega) dX10_rule_55 (by decide) (fun (h_4 : ¬ 0 = 0) => absurd h_4 (by omega)) (fun (h_4 : 0 = 0) => ?_)
        refine j_bipush J (-9) dX10_rule_58 (by decide) ?_
        exact fin _ (σ) _ _ _ _ dX10_rule_60 rfl (by first | (unfold ruleS; (repeat (first | rw [if_pos (by omega)] | rw [if_neg (by omega)])); exact ⟨rfl, Eqp.rf⟩) | (exfalso; omega)) hw
      · refine j_iload_n J dX10_rule_37 rfl (lv_at hl 2 rfl) ?_
        refine j_iconst J (0) dX10_rule_38 ?_
        refine j_sipush J (400) dX10_rule_39 (by decide) ?_
        refine k_X10_in (v := vl) (lo := 0) (hi := 400) (σ := σ) hD (show rg vl from by unfold rg; omega) (show rg 0 from by unfold rg; omega) (show rg 400 from by unfold rg; omega) J hw hl.1 lk_X10_69 ⟨Nat.le_of_ble_eq_true rfl, Nat.le_of_ble_eq_true rfl⟩ (Nat.le_of_ble_eq_true rfl) dX10_rule_42 (fun H locs hw => ?_)
        refine j_ifeqB J 52 dX10_rule_45 (by decide) (fun (h_5 : ¬ (0 ≤ vl ∧ vl ≤ 400)) => ?_) (fun (h_5 : 0 ≤ vl ∧ vl ≤ 400) => ?_)
        · refine j_iconst J (0) dX10_rule_52 ?_
          refine j_istore_n J (lv' := [(3, .int (I 0)), (0, .ref (ad 0)), (1, .int (I wh)), (2, .int (I vl))]) hl dX10_rule_53 rfl (by decide) rfl (fun ls hl => ?_)
          refine j_iload_n J dX10_rule_54 rfl (lv_at hl 0 rfl) ?_
          refine j_if_ne J 61 (by unfold rg; omega) dX10_rule_55 (by decide) (fun (h_6 : ¬ 0 = 0) => absurd h_6 (by omega)) (fun (h_6 : 0 = 0) => ?_)
          refine j_bipush J (-9) dX10_rule_58 (by decide) ?_
          exact fin _ (σ) _ _ _ _ dX10_rule_60 rfl (by first | (unfold ruleS; (repeat (first | rw [if_pos (by omega)] | rw [if_neg (by omega)])); exact ⟨rfl, Eqp.rf⟩) | (exfalso; omega)) hw
        · refine j_iconst J (1) dX10_rule_48 ?_
          refine j_goto J 53 dX10_rule_49 (by decide) ?_
          refine j_istore_n J (lv' := [(3, .int (I 1)), (0, .ref (ad 0)), (1, .int (I wh)), (2, .int (I vl))]) hl dX10_rule_53 rfl (by decide) rfl (fun ls hl => ?_)
          refine j_iload_n J dX10_rule_54 rfl (lv_at hl 0 rfl) ?_
          refine j_if_ne J 61 (by unfold rg; omega) dX10_rule_55 (by decide) (fun (h_7 : ¬ 1 = 0) => ?_) (fun (h_7 : 1 = 0) => absurd h_7 (by omega))
          refine j_aload_n J dX10_rule_61 rfl (lv_at hl 1 rfl) ?_
          refine mg_10_7 J hw lk_X10_32 dX10_rule_62 ?_
          refine j_iload_n J dX10_rule_65 rfl (lv_at hl 2 rfl) ?_
          refine ma_ld_0 J hw (show 0 ≤ wh ∧ wh < ((5 : Nat) : Int) from by omega) dX10_rule_66 ?_
          refine j_istore J (lv' := [(4, .int (I (σ 0 wh))), (3, .int (I 1)), (0, .ref (ad 0)), (1, .int (I wh)), (2, .int (I vl))]) hl dX10_rule_67 (by decide) rfl (fun ls hl => ?_)
          refine j_aload_n J dX10_rule_69 rfl (lv_at hl 2 rfl) ?_
          refine mg_10_7 J hw lk_X10_32 dX10_rule_70 ?_
          refine j_iload_n J dX10_rule_73 rfl (lv_at hl 3 rfl) ?_
          refine j_iload_n J dX10_rule_74 rfl (lv_at hl 4 rfl) ?_
          refine ma_st_0 J hw (show 0 ≤ wh ∧ wh < ((5 : Nat) : Int) from by omega) dX10_rule_75 (fun H locs hw => ?_)
          refine j_iload J dX10_rule_76 (lv_at hl 0 rfl) ?_
          exact fin _ (st σ 0 wh vl) _ _ _ _ dX10_rule_78 rfl (by first | (unfold ruleS; (repeat (first | rw [if_pos (by omega)] | rw [if_neg (by omega)])); exact ⟨rfl, Eqp.rf⟩) | (exfalso; omega)) hw
    · refine j_iload_n J dX10_rule_19 rfl (lv_at hl 2 rfl) ?_
      refine j_iconst J (-1) dX10_rule_20 ?_
      refine j_iconst J (1) dX10_rule_21 ?_
      refine k_X10_in (v := vl) (lo := -1) (hi := 1) (σ := σ) hD (show rg vl from by unfold rg; omega) (show rg (-1) from by unfold rg; omega) (show rg 1 from by unfold rg; omega) J hw hl.1 lk_X10_69 ⟨Nat.le_of_ble_eq_true rfl, Nat.le_of_ble_eq_true rfl⟩ (Nat.le_of_ble_eq_true rfl) dX10_rule_22 (fun H locs hw => ?_)
      refine j_goto J 53 dX10_rule_25 (by decide) ?_
      refine j_istore_n J (lv' := [(3, .int (I (if (-1) ≤ vl ∧ vl ≤ 1 then 1 else 0))), (0, .ref (ad 0)), (1, .int (I wh)), (2, .int (I vl))]) hl dX10_rule_53 rfl (by decide) rfl (fun ls hl => ?_)
      refine j_iload_n J dX10_rule_54 rfl (lv_at hl 0 rfl) ?_
      refine j_ifneB J 61 dX10_rule_55 (by decide) (fun (h_8 : (-1) ≤ vl ∧ vl ≤ 1) => ?_) (fun (h_8 : ¬ ((-1) ≤ vl ∧ vl ≤ 1)) => ?_)
      · refine j_aload_n J dX10_rule_61 rfl (lv_at hl 1 rfl) ?_
        refine mg_10_7 J hw lk_X10_32 dX10_rule_62 ?_
        refine j_iload_n J dX10_rule_65 rfl (lv_at hl 2 rfl) ?_
        refine ma_ld_0 J hw (show 0 ≤ wh ∧ wh < ((5 : Nat) : Int) from by omega) dX10_rule_66 ?_
        refine j_istore J (lv' := [(4, .int (I (σ 0 wh))), (3, .int (I (if (-1) ≤ vl ∧ vl ≤ 1 then 1 else 0))), (0, .ref (ad 0)), (1, .int (I wh)), (2, .int (I vl))]) hl dX10_rule_67 (by decide) rfl (fun ls hl => ?_)
        refine j_aload_n J dX10_rule_69 rfl (lv_at hl 2 rfl) ?_
        refine mg_10_7 J hw lk_X10_32 dX10_rule_70 ?_
        refine j_iload_n J dX10_rule_73 rfl (lv_at hl 3 rfl) ?_
        refine j_iload_n J dX10_rule_74 rfl (lv_at hl 4 rfl) ?_
        refine ma_st_0 J hw (show 0 ≤ wh ∧ wh < ((5 : Nat) : Int) from by omega) dX10_rule_75 (fun H locs hw => ?_)
        refine j_iload J dX10_rule_76 (lv_at hl 0 rfl) ?_
        exact fin _ (st σ 0 wh vl) _ _ _ _ dX10_rule_78 rfl (by first | (unfold ruleS; (repeat (first | rw [if_pos (by omega)] | rw [if_neg (by omega)])); exact ⟨rfl, Eqp.rf⟩) | (exfalso; omega)) hw
      · refine j_bipush J (-9) dX10_rule_58 (by decide) ?_
        exact fin _ (σ) _ _ _ _ dX10_rule_60 rfl (by first | (unfold ruleS; (repeat (first | rw [if_pos (by omega)] | rw [if_neg (by omega)])); exact ⟨rfl, Eqp.rf⟩) | (exfalso; omega)) hw
  · refine j_iload_n J dX10_rule_4 rfl (lv_at hl 2 rfl) ?_
    refine j_iconst J (0) dX10_rule_5 ?_
    refine j_bipush J (50) dX10_rule_6 (by decide) ?_
    refine k_X10_in (v := vl) (lo := 0) (hi := 50) (σ := σ) hD (show rg vl from by unfold rg; omega) (show rg 0 from by unfold rg; omega) (show rg 50 from by unfold rg; omega) J hw hl.1 lk_X10_69 ⟨Nat.le_of_ble_eq_true rfl, Nat.le_of_ble_eq_true rfl⟩ (Nat.le_of_ble_eq_true rfl) dX10_rule_8 (fun H locs hw => ?_)
    refine j_goto J 53 dX10_rule_11 (by decide) ?_
    refine j_istore_n J (lv' := [(3, .int (I (if 0 ≤ vl ∧ vl ≤ 50 then 1 else 0))), (0, .ref (ad 0)), (1, .int (I wh)), (2, .int (I vl))]) hl dX10_rule_53 rfl (by decide) rfl (fun ls hl => ?_)
    refine j_iload_n J dX10_rule_54 rfl (lv_at hl 0 rfl) ?_
    refine j_ifneB J 61 dX10_rule_55 (by decide) (fun (h_9 : 0 ≤ vl ∧ vl ≤ 50) => ?_) (fun (h_9 : ¬ (0 ≤ vl ∧ vl ≤ 50)) => ?_)
    · refine j_aload_n J dX10_rule_61 rfl (lv_at hl 1 rfl) ?_
      refine mg_10_7 J hw lk_X10_32 dX10_rule_62 ?_
      refine j_iload_n J dX10_rule_65 rfl (lv_at hl 2 rfl) ?_
      refine ma_ld_0 J hw (show 0 ≤ wh ∧ wh < ((5 : Nat) : Int) from by omega) dX10_rule_66 ?_
      refine j_istore J (lv' := [(4, .int (I (σ 0 wh))), (3, .int (I (if 0 ≤ vl ∧ vl ≤ 50 then 1 else 0))), (0, .ref (ad 0)), (1, .int (I wh)), (2, .int (I vl))]) hl dX10_rule_67 (by decide) rfl (fun ls hl => ?_)
      refine j_aload_n J dX10_rule_69 rfl (lv_at hl 2 rfl) ?_
      refine mg_10_7 J hw lk_X10_32 dX10_rule_70 ?_
      refine j_iload_n J dX10_rule_73 rfl (lv_at hl 3 rfl) ?_
      refine j_iload_n J dX10_rule_74 rfl (lv_at hl 4 rfl) ?_
      refine ma_st_0 J hw (show 0 ≤ wh ∧ wh < ((5 : Nat) : Int) from by omega) dX10_rule_75 (fun H locs hw => ?_)
      refine j_iload J dX10_rule_76 (lv_at hl 0 rfl) ?_
      exact fin _ (st σ 0 wh vl) _ _ _ _ dX10_rule_78 rfl (by first | (unfold ruleS; (repeat (first | rw [if_pos (by omega)] | rw [if_neg (by omega)])); exact ⟨rfl, Eqp.rf⟩) | (exfalso; omega)) hw
    · refine j_bipush J (-9) dX10_rule_58 (by decide) ?_
      exact fin _ (σ) _ _ _ _ dX10_rule_60 rfl (by first | (unfold ruleS; (repeat (first | rw [if_pos (by omega)] | rw [if_neg (by omega)])); exact ⟨rfl, Eqp.rf⟩) | (exfalso; omega)) hw
theorem k_X10_rule {p : Program} {l : Launch} {e : Env} {R : Room} {s : State} {m : MethodId} {args : Array Value} {below : List Frame} {meth : Method} {c : Code} {H : Heap} {locs : List Loc} {Q : State → Prop} {cc : ByteArray} {pc : Nat} {ls : Array Slot} {rest : List Value} {nL : Nat} {own : String} {D : va_G} {σ : St} {cI cZ : ClassId} {ad : Nat → Nat} {index : Nat} {wh vl : Int} (hD : ∀ τ, va_D (AD ad 45) (wsM cI cZ ad τ)) (hB : Bd σ) (r_wh : rg wh) (r_vl : rg vl) (J : Jx p m c cc nL s args own D [(cI, .int), (cZ, .boolean)] (AD ad 45) (wsM cI cZ ad)) (hw : jW D (AD ad 45) s.heap (wsM cI cZ ad σ) H locs) (hsz : ls.size = nL) (hlk : Cond.methodLink own index yX10_rule ∈ TBw) (hR : 2 ≤ R.frames ∧ 46 ≤ R.locals) (hroom : (rest.map fun v => v.category).sum ≤ 8) (hdg : decode cc pc = .ok (.invokevirtual index, 3)) (kk : ∀ (r : Int) (τ : St) (H1 : Heap) (locs1 : List Loc), (fun r τ => r = (ruleS σ wh vl).1 ∧ Eqp τ (ruleS σ wh vl).2) r τ → jW D (AD ad 45) s.heap (wsM cI cZ ad τ) H1 locs1 → W p l e R s m args below meth c H1 locs1 0 0 Q (F0 m (pc + 3) ls (.int (I r) :: rest))) : W p l e R s m args below meth c H locs 0 0 Q (F0 m pc ls (.int (I vl) :: .int (I wh) :: .ref (ad 0) :: rest)) := 
  j_callVi J hw (c_X10_rule  hD hB r_wh r_vl) hlk in_X10_rule se_X10_rule ini_X10 co_X10_rule (n := 2) (by decide +kernel) ⟨rfl, rfl, hR.1, hR.2⟩ (j := 0) (ci := 10) rfl rfl rfl rfl hroom hsz ⟨Nat.zero_le _, Nat.zero_le _⟩ rfl hdg kk
def rm_X10_tide : Room := { frames := 1, cells := 0, slots := 0, locals := 22 }
set_option maxHeartbeats 4000000 in
set_option maxRecDepth 100000 in
theorem c_X10_tide {l : Launch} {D : va_G} {cI cZ : ClassId} {ad : Nat → Nat} {σ : St} {hx vl : Int} (hD : ∀ τ, va_D (AD ad 45) (wsM cI cZ ad τ)) (hB : Bd σ) (r_hx : rg hx) (r_vl : rg vl) : JMi l yX10_tide cX10_tide 4 (some .int) rm_X10_tide D [(cI, .int), (cZ, .boolean)] (AD ad 45) (wsM cI cZ ad) [.ref (ad 0), .int (I hx), .int (I vl)] σ (fun r τ => r = (tideS σ hx vl).1 ∧ Eqp τ (tideS σ hx vl).2) := by
  refine JMi.of RX10 (by decide +kernel) rfl (Nat.le_of_ble_eq_true rfl) hD ?_
  intro p e s m args below meth c Q J fin H ls hw hl
  generalize ([] : List Loc) = locs at hw ⊢
  have hl : lv_has ls 4 [(0, .ref (ad 0)), (1, .int (I hx)), (2, .int (I vl))] := hl
  have hd : Dim _ := hB.dim
  have hd1 := hd.1; have hd2 := hd.2.1; have hd3 := hd.2.2.1; have hd4 := hd.2.2.2; have hm := hd.mul
  have u_hx := r_hx; unfold rg at u_hx
  have u_vl := r_vl; unfold rg at u_vl
  refine j_iload_n J dX10_tide_0 rfl (lv_at hl 1 rfl) ?_
  refine j_iconst J (0) dX10_tide_1 ?_
  refine j_bipush J (11) dX10_tide_2 (by decide) ?_
  refine k_X10_in (v := hx) (lo := 0) (hi := 11) (σ := σ) hD (show rg hx from by unfold rg; omega) (show rg 0 from by unfold rg; omega) (show rg 11 from by unfold rg; omega) J hw hl.1 lk_X10_69 ⟨Nat.le_of_ble_eq_true rfl, Nat.le_of_ble_eq_true rfl⟩ (Nat.le_of_ble_eq_true rfl) dX10_tide_4 (fun H locs hw => ?_)
  refine j_ifeqB J 20 dX10_tide_7 (by decide) (fun (h_1 : ¬ (0 ≤ hx ∧ hx ≤ 11)) => ?_) (fun (h_1 : 0 ≤ hx ∧ hx ≤ 11) => ?_)
  · refine j_iconst J (-1) dX10_tide_20 ?_
    exact fin _ (σ) _ _ _ _ dX10_tide_21 rfl (by first | (unfold tideS; (repeat (first | rw [if_pos (by omega)] | rw [if_neg (by omega)])); exact ⟨rfl, Eqp.rf⟩) | (exfalso; omega)) hw
  · refine j_iload_n J dX10_tide_10 rfl (lv_at hl 2 rfl) ?_
    refine j_iconst J (0) dX10_tide_11 ?_
    refine j_bipush J (60) dX10_tide_12 (by decide) ?_
    refine k_X10_in (v := vl) (lo := 0) (hi := 60) (σ := σ) hD (show rg vl from by unfold rg; omega) (show rg 0 from by unfold rg; omega) (show rg 60 from by unfold rg; omega) J hw hl.1 lk_X10_69 ⟨Nat.le_of_ble_eq_true rfl, Nat.le_of_ble_eq_true rfl⟩ (Nat.le_of_ble_eq_true rfl) dX10_tide_14 (fun H locs hw => ?_)
    refine j_ifneB J 22 dX10_tide_17 (by decide) (fun (h_2 : 0 ≤ vl ∧ vl ≤ 60) => ?_) (fun (h_2 : ¬ (0 ≤ vl ∧ vl ≤ 60)) => ?_)
    · refine j_aload_n J dX10_tide_22 rfl (lv_at hl 0 rfl) ?_
      refine mg_10_8 J hw lk_X10_35 dX10_tide_23 ?_
      refine j_iload_n J dX10_tide_26 rfl (lv_at hl 1 rfl) ?_
      refine ma_ld_7 J hw (show 0 ≤ hx ∧ hx < ((12 : Nat) : Int) from by omega) dX10_tide_27 ?_
      refine j_istore_n J (lv' := [(3, .int (I (σ 7 hx))), (0, .ref (ad 0)), (1, .int (I hx)), (2, .int (I vl))]) hl dX10_tide_28 rfl (by decide) rfl (fun ls hl => ?_)
      refine j_aload_n J dX10_tide_29 rfl (lv_at hl 1 rfl) ?_
      refine mg_10_8 J hw lk_X10_35 dX10_tide_30 ?_
      refine j_iload_n J dX10_tide_33 rfl (lv_at hl 2 rfl) ?_
      refine j_iload_n J dX10_tide_34 rfl (lv_at hl 3 rfl) ?_
      refine ma_st_7 J hw (show 0 ≤ hx ∧ hx < ((12 : Nat) : Int) from by omega) dX10_tide_35 (fun H locs hw => ?_)
      refine j_iload_n J dX10_tide_36 rfl (lv_at hl 0 rfl) ?_
      exact fin _ (st σ 7 hx vl) _ _ _ _ dX10_tide_37 rfl (by first | (unfold tideS; (repeat (first | rw [if_pos (by omega)] | rw [if_neg (by omega)])); exact ⟨rfl, Eqp.rf⟩) | (exfalso; omega)) hw
    · refine j_iconst J (-1) dX10_tide_20 ?_
      exact fin _ (σ) _ _ _ _ dX10_tide_21 rfl (by first | (unfold tideS; (repeat (first | rw [if_pos (by omega)] | rw [if_neg (by omega)])); exact ⟨rfl, Eqp.rf⟩) | (exfalso; omega)) hw
theorem k_X10_tide {p : Program} {l : Launch} {e : Env} {R : Room} {s : State} {m : MethodId} {args : Array Value} {below : List Frame} {meth : Method} {c : Code} {H : Heap} {locs : List Loc} {Q : State → Prop} {cc : ByteArray} {pc : Nat} {ls : Array Slot} {rest : List Value} {nL : Nat} {own : String} {D : va_G} {σ : St} {cI cZ : ClassId} {ad : Nat → Nat} {index : Nat} {hx vl : Int} (hD : ∀ τ, va_D (AD ad 45) (wsM cI cZ ad τ)) (hB : Bd σ) (r_hx : rg hx) (r_vl : rg vl) (J : Jx p m c cc nL s args own D [(cI, .int), (cZ, .boolean)] (AD ad 45) (wsM cI cZ ad)) (hw : jW D (AD ad 45) s.heap (wsM cI cZ ad σ) H locs) (hsz : ls.size = nL) (hlk : Cond.methodLink own index yX10_tide ∈ TBw) (hR : 2 ≤ R.frames ∧ 45 ≤ R.locals) (hroom : (rest.map fun v => v.category).sum ≤ 8) (hdg : decode cc pc = .ok (.invokevirtual index, 3)) (kk : ∀ (r : Int) (τ : St) (H1 : Heap) (locs1 : List Loc), (fun r τ => r = (tideS σ hx vl).1 ∧ Eqp τ (tideS σ hx vl).2) r τ → jW D (AD ad 45) s.heap (wsM cI cZ ad τ) H1 locs1 → W p l e R s m args below meth c H1 locs1 0 0 Q (F0 m (pc + 3) ls (.int (I r) :: rest))) : W p l e R s m args below meth c H locs 0 0 Q (F0 m pc ls (.int (I vl) :: .int (I hx) :: .ref (ad 0) :: rest)) := 
  j_callVi J hw (c_X10_tide  hD hB r_hx r_vl) hlk in_X10_tide se_X10_tide ini_X10 co_X10_tide (n := 2) (by decide +kernel) ⟨rfl, rfl, hR.1, hR.2⟩ (j := 0) (ci := 10) rfl rfl rfl rfl hroom hsz ⟨Nat.zero_le _, Nat.zero_le _⟩ rfl hdg kk
def rm_X10_hold : Room := { frames := 1, cells := 0, slots := 0, locals := 22 }
set_option maxHeartbeats 4000000 in
set_option maxRecDepth 100000 in
theorem c_X10_hold {l : Launch} {D : va_G} {cI cZ : ClassId} {ad : Nat → Nat} {σ : St} {t vl : Int} (hD : ∀ τ, va_D (AD ad 45) (wsM cI cZ ad τ)) (hB : Bd σ) (r_t : rg t) (r_vl : rg vl) : JMi l yX10_hold cX10_hold 5 (some .int) rm_X10_hold D [(cI, .int), (cZ, .boolean)] (AD ad 45) (wsM cI cZ ad) [.ref (ad 0), .int (I t), .int (I vl)] σ (fun r τ => r = (holdS σ t vl).1 ∧ Eqp τ (holdS σ t vl).2) := by
  refine JMi.of RX10 (by decide +kernel) rfl (Nat.le_of_ble_eq_true rfl) hD ?_
  intro p e s m args below meth c Q J fin H ls hw hl
  generalize ([] : List Loc) = locs at hw ⊢
  have hl : lv_has ls 5 [(0, .ref (ad 0)), (1, .int (I t)), (2, .int (I vl))] := hl
  have hd : Dim _ := hB.dim
  have hd1 := hd.1; have hd2 := hd.2.1; have hd3 := hd.2.2.1; have hd4 := hd.2.2.2; have hm := hd.mul
  have u_t := r_t; unfold rg at u_t
  have u_vl := r_vl; unfold rg at u_vl
  refine j_iload_n J dX10_hold_0 rfl (lv_at hl 1 rfl) ?_
  refine j_iconst J (1) dX10_hold_1 ?_
  refine j_bipush J (30) dX10_hold_2 (by decide) ?_
  refine k_X10_in (v := t) (lo := 1) (hi := 30) (σ := σ) hD (show rg t from by unfold rg; omega) (show rg 1 from by unfold rg; omega) (show rg 30 from by unfold rg; omega) J hw hl.1 lk_X10_69 ⟨Nat.le_of_ble_eq_true rfl, Nat.le_of_ble_eq_true rfl⟩ (Nat.le_of_ble_eq_true rfl) dX10_hold_4 (fun H locs hw => ?_)
  refine j_ifeqB J 21 dX10_hold_7 (by decide) (fun (h_1 : ¬ (1 ≤ t ∧ t ≤ 30)) => ?_) (fun (h_1 : 1 ≤ t ∧ t ≤ 30) => ?_)
  · refine j_iconst J (-1) dX10_hold_21 ?_
    exact fin _ (σ) _ _ _ _ dX10_hold_22 rfl (by first | (unfold holdS; (repeat (first | rw [if_pos (by omega)] | rw [if_neg (by omega)])); exact ⟨rfl, Eqp.rf⟩) | (exfalso; omega)) hw
  · refine j_iload_n J dX10_hold_10 rfl (lv_at hl 2 rfl) ?_
    refine j_iconst J (0) dX10_hold_11 ?_
    refine j_sipush J (200) dX10_hold_12 (by decide) ?_
    refine k_X10_in (v := vl) (lo := 0) (hi := 200) (σ := σ) hD (show rg vl from by unfold rg; omega) (show rg 0 from by unfold rg; omega) (show rg 200 from by unfold rg; omega) J hw hl.1 lk_X10_69 ⟨Nat.le_of_ble_eq_true rfl, Nat.le_of_ble_eq_true rfl⟩ (Nat.le_of_ble_eq_true rfl) dX10_hold_15 (fun H locs hw => ?_)
    refine j_ifneB J 23 dX10_hold_18 (by decide) (fun (h_2 : 0 ≤ vl ∧ vl ≤ 200) => ?_) (fun (h_2 : ¬ (0 ≤ vl ∧ vl ≤ 200)) => ?_)
    · refine j_aload_n J dX10_hold_23 rfl (lv_at hl 0 rfl) ?_
      refine mg_10_12 J hw lk_X10_47 dX10_hold_24 ?_
      refine j_iload_n J dX10_hold_27 rfl (lv_at hl 1 rfl) ?_
      refine ma_ld_8 J hw (show 0 ≤ t ∧ t < ((31 : Nat) : Int) from by omega) dX10_hold_28 ?_
      refine j_istore_n J (lv' := [(3, .int (I (σ 8 t))), (0, .ref (ad 0)), (1, .int (I t)), (2, .int (I vl))]) hl dX10_hold_29 rfl (by decide) rfl (fun ls hl => ?_)
      refine j_aload_n J dX10_hold_30 rfl (lv_at hl 1 rfl) ?_
      refine mg_10_12 J hw lk_X10_47 dX10_hold_31 ?_
      refine j_iload_n J dX10_hold_34 rfl (lv_at hl 2 rfl) ?_
      refine j_iload_n J dX10_hold_35 rfl (lv_at hl 3 rfl) ?_
      refine ma_st_8 J hw (show 0 ≤ t ∧ t < ((31 : Nat) : Int) from by omega) dX10_hold_36 (fun H locs hw => ?_)
      refine j_iconst J (1) dX10_hold_37 ?_
      refine j_istore J (lv' := [(4, .int (I 1)), (3, .int (I (σ 8 t))), (0, .ref (ad 0)), (1, .int (I t)), (2, .int (I vl))]) hl dX10_hold_38 (by decide) rfl (fun ls hl => ?_)
      have L40 : ∀ n : Nat, ∀ (i : Int), (1 ≤ i ∧ i ≤ 31) → ((31 - i).toNat) < n → ∀ (H : Heap) (locs : List Loc) (ls : Array Slot), jW D (AD ad 45) s.heap (wsM cI cZ ad (hdM σ t vl i)) H locs → lv_has ls 5 [(4, .int (I i)), (0, .ref (ad 0)), (1, .int (I t)), (2, .int (I vl)), (3, .int (I (σ 8 t)))] → W p l e rm_X10_hold s m args below meth c H locs 0 0 Q (F0 m 40 ls []) := by
        intro n
        induction n with
        | zero =>
          intro i hi0 hm H locs ls hw hl
          exact absurd hm (Nat.not_lt_zero _)
        | succ n ih =>
          intro i hi0 hm H locs ls hw hl
          have ih40 := ih
          refine j_iload J dX10_hold_40 (lv_at hl 0 rfl) ?_
          refine j_bipush J (31) dX10_hold_42 (by decide) ?_
          refine j_icmp_ge J 105 (show rg i by unfold rg; omega) (by unfold rg; omega) dX10_hold_44 (by decide) (fun (h_3 : 31 ≤ i) => ?_) (fun (h_3 : i < 31) => ?_)
          · refine j_iload_n J dX10_hold_105 rfl (lv_at hl 4 rfl) ?_
            exact fin _ (hdM σ t vl i) _ _ _ _ dX10_hold_106 rfl (by unfold holdS; rw [if_pos (by omega)]; exact ⟨rfl, by have e9 : hdM σ t vl i = hdS σ t vl t 1 31 := (by unfold hdM; rw [show i = 31 by omega, show min 31 t = t by omega, show max 31 (t + 1) = 31 by omega]); rw [e9]; exact Eqp.rf⟩) hw
          · have e8 := hdM_at (σ := σ) (t := t) (v := vl) hi0.1
            have b8 := hB.table i
            have e8a : i = t → hdM σ t vl i 8 i = vl := fun h => by rw [e8, if_pos h]
            have e8b : ¬ i = t → hdM σ t vl i 8 i = σ 8 i := fun h => by rw [e8, if_neg h]
            have b9 : 0 ≤ hdM σ t vl i 8 i ∧ hdM σ t vl i 8 i ≤ 200 := by by_cases h : i = t; (rw [e8a h]; omega); (rw [e8b h]; omega)
            refine j_aload_n J dX10_hold_47 rfl (lv_at hl 1 rfl) ?_
            refine mg_10_12 J hw lk_X10_47 dX10_hold_48 ?_
            refine j_iload J dX10_hold_51 (lv_at hl 0 rfl) ?_
            refine j_iload J dX10_hold_53 (lv_at hl 0 rfl) ?_
            refine j_iload_n J dX10_hold_55 rfl (lv_at hl 2 rfl) ?_
            refine j_icmp_le J 70 (show rg i by unfold rg; omega) (show rg t by unfold rg; omega) dX10_hold_56 (by decide) (fun (h_4 : i ≤ t) => ?_) (fun (h_4 : t < i) => ?_)
            · refine j_iload J dX10_hold_70 (lv_at hl 0 rfl) ?_
              refine j_iload_n J dX10_hold_72 rfl (lv_at hl 2 rfl) ?_
              refine j_icmp_ge J 91 (show rg i by unfold rg; omega) (show rg t by unfold rg; omega) dX10_hold_73 (by decide) (fun (h_5 : t ≤ i) => ?_) (fun (h_5 : i < t) => ?_)
              · refine j_aload_n J dX10_hold_91 rfl (lv_at hl 1 rfl) ?_
                refine mg_10_12 J hw lk_X10_47 dX10_hold_92 ?_
                refine j_iload J dX10_hold_95 (lv_at hl 0 rfl) ?_
                refine ma_ld_8 J hw (show 0 ≤ i ∧ i < ((31 : Nat) : Int) from by omega) dX10_hold_97 ?_
                refine ma_st_8 J hw (show 0 ≤ i ∧ i < ((31 : Nat) : Int) from by omega) dX10_hold_98 (fun H locs hw => ?_)
                refine j_iinc J (lv' := [(4, .int (I (i + 1))), (0, .ref (ad 0)), (1, .int (I t)), (2, .int (I vl)), (3, .int (I (σ 8 t)))]) (k := 0) hl dX10_hold_99 rfl (by decide) rfl (fun ls hl => ?_)
                refine j_goto J 40 dX10_hold_102 (by decide) ?_
                exact ih40 (i + 1) (by omega) (by omega) _ _ _ (hdM_jw hi0.1 hw (by rcases (show i = t ∨ i < t ∨ t < i by omega) with q | q | q; (focus (have z := e8a q; rw [if_pos q]; first | done | omega)); (focus (have z := e8b (by omega); rw [if_neg (by omega), if_pos q]; first | done | omega)); (focus (have z := e8b (by omega); rw [if_neg (by omega), if_neg (by omega)]; first | done | omega)))) (lv_sub hl [0, 1, 2, 3, 4] rfl)
              · refine j_aload_n J dX10_hold_76 rfl (lv_at hl 1 rfl) ?_
                refine mg_10_12 J hw lk_X10_47 dX10_hold_77 ?_
                refine j_iload J dX10_hold_80 (lv_at hl 0 rfl) ?_
                refine ma_ld_8 J hw (show 0 ≤ i ∧ i < ((31 : Nat) : Int) from by omega) dX10_hold_82 ?_
                refine j_iload_n J dX10_hold_83 rfl (lv_at hl 3 rfl) ?_
                refine j_icmp_le J 91 (show rg ((hdM σ t vl i) 8 i) by unfold rg; omega) (show rg vl by unfold rg; omega) dX10_hold_84 (by decide) (fun (h_6 : ((hdM σ t vl i) 8 i) ≤ vl) => ?_) (fun (h_6 : vl < ((hdM σ t vl i) 8 i)) => ?_)
                · refine j_aload_n J dX10_hold_91 rfl (lv_at hl 1 rfl) ?_
                  refine mg_10_12 J hw lk_X10_47 dX10_hold_92 ?_
                  refine j_iload J dX10_hold_95 (lv_at hl 0 rfl) ?_
                  refine ma_ld_8 J hw (show 0 ≤ i ∧ i < ((31 : Nat) : Int) from by omega) dX10_hold_97 ?_
                  refine ma_st_8 J hw (show 0 ≤ i ∧ i < ((31 : Nat) : Int) from by omega) dX10_hold_98 (fun H locs hw => ?_)
                  refine j_iinc J (lv' := [(4, .int (I (i + 1))), (0, .ref (ad 0)), (1, .int (I t)), (2, .int (I vl)), (3, .int (I (σ 8 t)))]) (k := 0) hl dX10_hold_99 rfl (by decide) rfl (fun ls hl => ?_)
                  refine j_goto J 40 dX10_hold_102 (by decide) ?_
                  exact ih40 (i + 1) (by omega) (by omega) _ _ _ (hdM_jw hi0.1 hw (by rcases (show i = t ∨ i < t ∨ t < i by omega) with q | q | q; (focus (have z := e8a q; rw [if_pos q]; first | done | omega)); (focus (have z := e8b (by omega); rw [if_neg (by omega), if_pos q]; first | done | omega)); (focus (have z := e8b (by omega); rw [if_neg (by omega), if_neg (by omega)]; first | done | omega)))) (lv_sub hl [0, 1, 2, 3, 4] rfl)
                · refine j_iload_n J dX10_hold_87 rfl (lv_at hl 3 rfl) ?_
                  refine j_goto J 98 dX10_hold_88 (by decide) ?_
                  refine ma_st_8 J hw (show 0 ≤ i ∧ i < ((31 : Nat) : Int) from by omega) dX10_hold_98 (fun H locs hw => ?_)
                  refine j_iinc J (lv' := [(4, .int (I (i + 1))), (0, .ref (ad 0)), (1, .int (I t)), (2, .int (I vl)), (3, .int (I (σ 8 t)))]) (k := 0) hl dX10_hold_99 rfl (by decide) rfl (fun ls hl => ?_)
                  refine j_goto J 40 dX10_hold_102 (by decide) ?_
                  exact ih40 (i + 1) (by omega) (by omega) _ _ _ (hdM_jw hi0.1 hw (by rcases (show i = t ∨ i < t ∨ t < i by omega) with q | q | q; (focus (have z := e8a q; rw [if_pos q]; first | done | omega)); (focus (have z := e8b (by omega); rw [if_neg (by omega), if_pos q]; first | done | omega)); (focus (have z := e8b (by omega); rw [if_neg (by omega), if_neg (by omega)]; first | done | omega)))) (lv_sub hl [0, 1, 2, 3, 4] rfl)
            · refine j_aload_n J dX10_hold_59 rfl (lv_at hl 1 rfl) ?_
              refine mg_10_12 J hw lk_X10_47 dX10_hold_60 ?_
              refine j_iload J dX10_hold_63 (lv_at hl 0 rfl) ?_
              refine ma_ld_8 J hw (show 0 ≤ i ∧ i < ((31 : Nat) : Int) from by omega) dX10_hold_65 ?_
              refine j_iload_n J dX10_hold_66 rfl (lv_at hl 3 rfl) ?_
              refine j_icmp_lt J 87 (show rg ((hdM σ t vl i) 8 i) by unfold rg; omega) (show rg vl by unfold rg; omega) dX10_hold_67 (by decide) (fun (h_7 : ((hdM σ t vl i) 8 i) < vl) => ?_) (fun (h_7 : vl ≤ ((hdM σ t vl i) 8 i)) => ?_)
              · refine j_iload_n J dX10_hold_87 rfl (lv_at hl 3 rfl) ?_
                refine j_goto J 98 dX10_hold_88 (by decide) ?_
                refine ma_st_8 J hw (show 0 ≤ i ∧ i < ((31 : Nat) : Int) from by omega) dX10_hold_98 (fun H locs hw => ?_)
                refine j_iinc J (lv' := [(4, .int (I (i + 1))), (0, .ref (ad 0)), (1, .int (I t)), (2, .int (I vl)), (3, .int (I (σ 8 t)))]) (k := 0) hl dX10_hold_99 rfl (by decide) rfl (fun ls hl => ?_)
                refine j_goto J 40 dX10_hold_102 (by decide) ?_
                exact ih40 (i + 1) (by omega) (by omega) _ _ _ (hdM_jw hi0.1 hw (by rcases (show i = t ∨ i < t ∨ t < i by omega) with q | q | q; (focus (have z := e8a q; rw [if_pos q]; first | done | omega)); (focus (have z := e8b (by omega); rw [if_neg (by omega), if_pos q]; first | done | omega)); (focus (have z := e8b (by omega); rw [if_neg (by omega), if_neg (by omega)]; first | done | omega)))) (lv_sub hl [0, 1, 2, 3, 4] rfl)
              · refine j_iload J dX10_hold_70 (lv_at hl 0 rfl) ?_
                refine j_iload_n J dX10_hold_72 rfl (lv_at hl 2 rfl) ?_
                refine j_icmp_ge J 91 (show rg i by unfold rg; omega) (show rg t by unfold rg; omega) dX10_hold_73 (by decide) (fun (h_8 : t ≤ i) => ?_) (fun (h_8 : i < t) => ?_)
                · refine j_aload_n J dX10_hold_91 rfl (lv_at hl 1 rfl) ?_
                  refine mg_10_12 J hw lk_X10_47 dX10_hold_92 ?_
                  refine j_iload J dX10_hold_95 (lv_at hl 0 rfl) ?_
                  refine ma_ld_8 J hw (show 0 ≤ i ∧ i < ((31 : Nat) : Int) from by omega) dX10_hold_97 ?_
                  refine ma_st_8 J hw (show 0 ≤ i ∧ i < ((31 : Nat) : Int) from by omega) dX10_hold_98 (fun H locs hw => ?_)
                  refine j_iinc J (lv' := [(4, .int (I (i + 1))), (0, .ref (ad 0)), (1, .int (I t)), (2, .int (I vl)), (3, .int (I (σ 8 t)))]) (k := 0) hl dX10_hold_99 rfl (by decide) rfl (fun ls hl => ?_)
                  refine j_goto J 40 dX10_hold_102 (by decide) ?_
                  exact ih40 (i + 1) (by omega) (by omega) _ _ _ (hdM_jw hi0.1 hw (by rcases (show i = t ∨ i < t ∨ t < i by omega) with q | q | q; (focus (have z := e8a q; rw [if_pos q]; first | done | omega)); (focus (have z := e8b (by omega); rw [if_neg (by omega), if_pos q]; first | done | omega)); (focus (have z := e8b (by omega); rw [if_neg (by omega), if_neg (by omega)]; first | done | omega)))) (lv_sub hl [0, 1, 2, 3, 4] rfl)
                · refine j_aload_n J dX10_hold_76 rfl (lv_at hl 1 rfl) ?_
                  refine mg_10_12 J hw lk_X10_47 dX10_hold_77 ?_
                  refine j_iload J dX10_hold_80 (lv_at hl 0 rfl) ?_
                  refine ma_ld_8 J hw (show 0 ≤ i ∧ i < ((31 : Nat) : Int) from by omega) dX10_hold_82 ?_
                  refine j_iload_n J dX10_hold_83 rfl (lv_at hl 3 rfl) ?_
                  refine j_icmp_le J 91 (show rg ((hdM σ t vl i) 8 i) by unfold rg; omega) (show rg vl by unfold rg; omega) dX10_hold_84 (by decide) (fun (h_9 : ((hdM σ t vl i) 8 i) ≤ vl) => ?_) (fun (h_9 : vl < ((hdM σ t vl i) 8 i)) => ?_)
                  · refine j_aload_n J dX10_hold_91 rfl (lv_at hl 1 rfl) ?_
                    refine mg_10_12 J hw lk_X10_47 dX10_hold_92 ?_
                    refine j_iload J dX10_hold_95 (lv_at hl 0 rfl) ?_
                    refine ma_ld_8 J hw (show 0 ≤ i ∧ i < ((31 : Nat) : Int) from by omega) dX10_hold_97 ?_
                    refine ma_st_8 J hw (show 0 ≤ i ∧ i < ((31 : Nat) : Int) from by omega) dX10_hold_98 (fun H locs hw => ?_)
                    refine j_iinc J (lv' := [(4, .int (I (i + 1))), (0, .ref (ad 0)), (1, .int (I t)), (2, .int (I vl)), (3, .int (I (σ 8 t)))]) (k := 0) hl dX10_hold_99 rfl (by decide) rfl (fun ls hl => ?_)
                    refine j_goto J 40 dX10_hold_102 (by decide) ?_
                    exact ih40 (i + 1) (by omega) (by omega) _ _ _ (hdM_jw hi0.1 hw (by rcases (show i = t ∨ i < t ∨ t < i by omega) with q | q | q; (focus (have z := e8a q; rw [if_pos q]; first | done | omega)); (focus (have z := e8b (by omega); rw [if_neg (by omega), if_pos q]; first | done | omega)); (focus (have z := e8b (by omega); rw [if_neg (by omega), if_neg (by omega)]; first | done | omega)))) (lv_sub hl [0, 1, 2, 3, 4] rfl)
                  · refine j_iload_n J dX10_hold_87 rfl (lv_at hl 3 rfl) ?_
                    refine j_goto J 98 dX10_hold_88 (by decide) ?_
                    refine ma_st_8 J hw (show 0 ≤ i ∧ i < ((31 : Nat) : Int) from by omega) dX10_hold_98 (fun H locs hw => ?_)
                    refine j_iinc J (lv' := [(4, .int (I (i + 1))), (0, .ref (ad 0)), (1, .int (I t)), (2, .int (I vl)), (3, .int (I (σ 8 t)))]) (k := 0) hl dX10_hold_99 rfl (by decide) rfl (fun ls hl => ?_)
                    refine j_goto J 40 dX10_hold_102 (by decide) ?_
                    exact ih40 (i + 1) (by omega) (by omega) _ _ _ (hdM_jw hi0.1 hw (by rcases (show i = t ∨ i < t ∨ t < i by omega) with q | q | q; (focus (have z := e8a q; rw [if_pos q]; first | done | omega)); (focus (have z := e8b (by omega); rw [if_neg (by omega), if_pos q]; first | done | omega)); (focus (have z := e8b (by omega); rw [if_neg (by omega), if_neg (by omega)]; first | done | omega)))) (lv_sub hl [0, 1, 2, 3, 4] rfl)
      exact L40 _ 1 (by omega) (Nat.lt_succ_self _) _ _ _ (by rw [← hdM_0 (by omega)]; exact hw) (lv_sub hl [0, 2, 3, 4, 1] rfl)
    · refine j_iconst J (-1) dX10_hold_21 ?_
      exact fin _ (σ) _ _ _ _ dX10_hold_22 rfl (by first | (unfold holdS; (repeat (first | rw [if_pos (by omega)] | rw [if_neg (by omega)])); exact ⟨rfl, Eqp.rf⟩) | (exfalso; omega)) hw
theorem k_X10_hold {p : Program} {l : Launch} {e : Env} {R : Room} {s : State} {m : MethodId} {args : Array Value} {below : List Frame} {meth : Method} {c : Code} {H : Heap} {locs : List Loc} {Q : State → Prop} {cc : ByteArray} {pc : Nat} {ls : Array Slot} {rest : List Value} {nL : Nat} {own : String} {D : va_G} {σ : St} {cI cZ : ClassId} {ad : Nat → Nat} {index : Nat} {t vl : Int} (hD : ∀ τ, va_D (AD ad 45) (wsM cI cZ ad τ)) (hB : Bd σ) (r_t : rg t) (r_vl : rg vl) (J : Jx p m c cc nL s args own D [(cI, .int), (cZ, .boolean)] (AD ad 45) (wsM cI cZ ad)) (hw : jW D (AD ad 45) s.heap (wsM cI cZ ad σ) H locs) (hsz : ls.size = nL) (hlk : Cond.methodLink own index yX10_hold ∈ TBw) (hR : 2 ≤ R.frames ∧ 46 ≤ R.locals) (hroom : (rest.map fun v => v.category).sum ≤ 8) (hdg : decode cc pc = .ok (.invokevirtual index, 3)) (kk : ∀ (r : Int) (τ : St) (H1 : Heap) (locs1 : List Loc), (fun r τ => r = (holdS σ t vl).1 ∧ Eqp τ (holdS σ t vl).2) r τ → jW D (AD ad 45) s.heap (wsM cI cZ ad τ) H1 locs1 → W p l e R s m args below meth c H1 locs1 0 0 Q (F0 m (pc + 3) ls (.int (I r) :: rest))) : W p l e R s m args below meth c H locs 0 0 Q (F0 m pc ls (.int (I vl) :: .int (I t) :: .ref (ad 0) :: rest)) := 
  j_callVi J hw (c_X10_hold  hD hB r_t r_vl) hlk in_X10_hold se_X10_hold ini_X10 co_X10_hold (n := 2) (by decide +kernel) ⟨rfl, rfl, hR.1, hR.2⟩ (j := 0) (ci := 10) rfl rfl rfl rfl hroom hsz ⟨Nat.zero_le _, Nat.zero_le _⟩ rfl hdg kk
def rm_X10_spot : Room := { frames := 2, cells := 0, slots := 0, locals := 42 }
set_option maxHeartbeats 4000000 in
set_option maxRecDepth 100000 in
theorem c_X10_spot {l : Launch} {D : va_G} {cI cZ : ClassId} {ad : Nat → Nat} {σ : St} {sp mo hx : Int} (hD : ∀ τ, va_D (AD ad 45) (wsM cI cZ ad τ)) (hB : Bd σ) (r_sp : rg sp) (r_mo : rg mo) (r_hx : rg hx) : JMi l yX10_spot cX10_spot 4 (some .int) rm_X10_spot D [(cI, .int), (cZ, .boolean)] (AD ad 45) (wsM cI cZ ad) [.ref (ad 0), .int (I sp), .int (I mo), .int (I hx)] σ (fun r τ => r = (spotS σ sp mo hx).1 ∧ Eqp τ (spotS σ sp mo hx).2) := by
  refine JMi.of RX10 (by decide +kernel) rfl (Nat.le_of_ble_eq_true rfl) hD ?_
  intro p e s m args below meth c Q J fin H ls hw hl
  generalize ([] : List Loc) = locs at hw ⊢
  have hl : lv_has ls 4 [(0, .ref (ad 0)), (1, .int (I sp)), (2, .int (I mo)), (3, .int (I hx))] := hl
  have hd : Dim _ := hB.dim
  have hd1 := hd.1; have hd2 := hd.2.1; have hd3 := hd.2.2.1; have hd4 := hd.2.2.2; have hm := hd.mul
  have u_sp := r_sp; unfold rg at u_sp
  have u_mo := r_mo; unfold rg at u_mo
  have u_hx := r_hx; unfold rg at u_hx
  refine j_iload_n J dX10_spot_0 rfl (lv_at hl 1 rfl) ?_
  refine k_X10_isSpot (sp := sp) (σ := σ) hD (show rg sp from by unfold rg; omega) J hw hl.1 lk_X10_101 ⟨Nat.le_of_ble_eq_true rfl, Nat.le_of_ble_eq_true rfl⟩ (Nat.le_of_ble_eq_true rfl) dX10_spot_1 (fun H locs hw => ?_)
  refine j_ifeqB J 27 dX10_spot_4 (by decide) (fun (h_1 : ¬ (0 ≤ sp ∧ sp ≤ 2)) => ?_) (fun (h_1 : 0 ≤ sp ∧ sp ≤ 2) => ?_)
  · refine j_iconst J (-1) dX10_spot_27 ?_
    exact fin _ (σ) _ _ _ _ dX10_spot_28 rfl (by first | (unfold spotS; (repeat (first | rw [if_pos (by omega)] | rw [if_neg (by omega)])); exact ⟨rfl, Eqp.rf⟩) | (exfalso; omega)) hw
  · refine j_iload_n J dX10_spot_7 rfl (lv_at hl 2 rfl) ?_
    refine j_iconst J (0) dX10_spot_8 ?_
    refine j_ldc J (100000) lk_X10_104 dX10_spot_9 ?_
    refine k_X10_in (v := mo) (lo := 0) (hi := 100000) (σ := σ) hD (show rg mo from by unfold rg; omega) (show rg 0 from by unfold rg; omega) (show rg 100000 from by unfold rg; omega) J hw hl.1 lk_X10_69 ⟨Nat.le_of_ble_eq_true rfl, Nat.le_of_ble_eq_true rfl⟩ (Nat.le_of_ble_eq_true rfl) dX10_spot_11 (fun H locs hw => ?_)
    refine j_ifeqB J 27 dX10_spot_14 (by decide) (fun (h_2 : ¬ (0 ≤ mo ∧ mo ≤ 100000)) => ?_) (fun (h_2 : 0 ≤ mo ∧ mo ≤ 100000) => ?_)
    · refine j_iconst J (-1) dX10_spot_27 ?_
      exact fin _ (σ) _ _ _ _ dX10_spot_28 rfl (by first | (unfold spotS; (repeat (first | rw [if_pos (by omega)] | rw [if_neg (by omega)])); exact ⟨rfl, Eqp.rf⟩) | (exfalso; omega)) hw
    · refine j_iload_n J dX10_spot_17 rfl (lv_at hl 3 rfl) ?_
      refine j_iconst J (1) dX10_spot_18 ?_
      refine j_bipush J (20) dX10_spot_19 (by decide) ?_
      refine k_X10_in (v := hx) (lo := 1) (hi := 20) (σ := σ) hD (show rg hx from by unfold rg; omega) (show rg 1 from by unfold rg; omega) (show rg 20 from by unfold rg; omega) J hw hl.1 lk_X10_69 ⟨Nat.le_of_ble_eq_true rfl, Nat.le_of_ble_eq_true rfl⟩ (Nat.le_of_ble_eq_true rfl) dX10_spot_21 (fun H locs hw => ?_)
      refine j_ifneB J 29 dX10_spot_24 (by decide) (fun (h_3 : 1 ≤ hx ∧ hx ≤ 20) => ?_) (fun (h_3 : ¬ (1 ≤ hx ∧ hx ≤ 20)) => ?_)
      · refine j_aload_n J dX10_spot_29 rfl (lv_at hl 0 rfl) ?_
        refine mg_10_11 J hw lk_X10_44 dX10_spot_30 ?_
        refine j_iload_n J dX10_spot_33 rfl (lv_at hl 1 rfl) ?_
        refine ma_ld_10 J hw (show 0 ≤ sp ∧ sp < ((3 : Nat) : Int) from by omega) dX10_spot_34 ?_
        refine j_iload_n J dX10_spot_35 rfl (lv_at hl 2 rfl) ?_
        have b1 := hB.held sp
        refine j_icmp_le J 42 (show rg (σ 10 sp) by unfold rg; omega) (show rg mo by unfold rg; omega) dX10_spot_36 (by decide) (fun (h_4 : (σ 10 sp) ≤ mo) => ?_) (fun (h_4 : mo < (σ 10 sp)) => ?_)
        · refine j_aload_n J dX10_spot_42 rfl (lv_at hl 0 rfl) ?_
          refine mg_10_9 J hw lk_X10_38 dX10_spot_43 ?_
          refine j_iload_n J dX10_spot_46 rfl (lv_at hl 1 rfl) ?_
          refine j_iload_n J dX10_spot_47 rfl (lv_at hl 2 rfl) ?_
          refine ma_st_11 J hw (show 0 ≤ sp ∧ sp < ((3 : Nat) : Int) from by omega) dX10_spot_48 (fun H locs hw => ?_)
          refine j_aload_n J dX10_spot_49 rfl (lv_at hl 0 rfl) ?_
          refine mg_10_10 J hw lk_X10_41 dX10_spot_50 ?_
          refine j_iload_n J dX10_spot_53 rfl (lv_at hl 1 rfl) ?_
          refine j_iload_n J dX10_spot_54 rfl (lv_at hl 3 rfl) ?_
          refine ma_st_12 J hw (show 0 ≤ sp ∧ sp < ((3 : Nat) : Int) from by omega) dX10_spot_55 (fun H locs hw => ?_)
          refine j_aload_n J dX10_spot_56 rfl (lv_at hl 0 rfl) ?_
          refine mg_10_11 J hw lk_X10_44 dX10_spot_57 ?_
          refine j_iload_n J dX10_spot_60 rfl (lv_at hl 1 rfl) ?_
          refine ma_ld_10 J hw (show 0 ≤ sp ∧ sp < ((3 : Nat) : Int) from by omega) dX10_spot_61 ?_
          exact fin _ (st (st σ 11 sp mo) 12 sp hx) _ _ _ _ dX10_spot_62 rfl (by first | (unfold spotS; (repeat (first | rw [if_pos (by omega)] | rw [if_neg (by omega)])); exact ⟨rfl, Eqp.rf⟩) | (exfalso; omega)) hw
        · refine j_bipush J (-2) dX10_spot_39 (by decide) ?_
          exact fin _ (σ) _ _ _ _ dX10_spot_41 rfl (by first | (unfold spotS; (repeat (first | rw [if_pos (by omega)] | rw [if_neg (by omega)])); exact ⟨rfl, Eqp.rf⟩) | (exfalso; omega)) hw
      · refine j_iconst J (-1) dX10_spot_27 ?_
        exact fin _ (σ) _ _ _ _ dX10_spot_28 rfl (by first | (unfold spotS; (repeat (first | rw [if_pos (by omega)] | rw [if_neg (by omega)])); exact ⟨rfl, Eqp.rf⟩) | (exfalso; omega)) hw
theorem k_X10_spot {p : Program} {l : Launch} {e : Env} {R : Room} {s : State} {m : MethodId} {args : Array Value} {below : List Frame} {meth : Method} {c : Code} {H : Heap} {locs : List Loc} {Q : State → Prop} {cc : ByteArray} {pc : Nat} {ls : Array Slot} {rest : List Value} {nL : Nat} {own : String} {D : va_G} {σ : St} {cI cZ : ClassId} {ad : Nat → Nat} {index : Nat} {sp mo hx : Int} (hD : ∀ τ, va_D (AD ad 45) (wsM cI cZ ad τ)) (hB : Bd σ) (r_sp : rg sp) (r_mo : rg mo) (r_hx : rg hx) (J : Jx p m c cc nL s args own D [(cI, .int), (cZ, .boolean)] (AD ad 45) (wsM cI cZ ad)) (hw : jW D (AD ad 45) s.heap (wsM cI cZ ad σ) H locs) (hsz : ls.size = nL) (hlk : Cond.methodLink own index yX10_spot ∈ TBw) (hR : 3 ≤ R.frames ∧ 65 ≤ R.locals) (hroom : (rest.map fun v => v.category).sum ≤ 8) (hdg : decode cc pc = .ok (.invokevirtual index, 3)) (kk : ∀ (r : Int) (τ : St) (H1 : Heap) (locs1 : List Loc), (fun r τ => r = (spotS σ sp mo hx).1 ∧ Eqp τ (spotS σ sp mo hx).2) r τ → jW D (AD ad 45) s.heap (wsM cI cZ ad τ) H1 locs1 → W p l e R s m args below meth c H1 locs1 0 0 Q (F0 m (pc + 3) ls (.int (I r) :: rest))) : W p l e R s m args below meth c H locs 0 0 Q (F0 m pc ls (.int (I hx) :: .int (I mo) :: .int (I sp) :: .ref (ad 0) :: rest)) := 
  j_callVi J hw (c_X10_spot  hD hB r_sp r_mo r_hx) hlk in_X10_spot se_X10_spot ini_X10 co_X10_spot (n := 3) (by decide +kernel) ⟨rfl, rfl, hR.1, hR.2⟩ (j := 0) (ci := 10) rfl rfl rfl rfl hroom hsz ⟨Nat.zero_le _, Nat.zero_le _⟩ rfl hdg kk
def rm_X10_post : Room := { frames := 2, cells := 0, slots := 0, locals := 43 }
set_option maxHeartbeats 4000000 in
set_option maxRecDepth 100000 in
theorem c_X10_post {l : Launch} {D : va_G} {cI cZ : ClassId} {ad : Nat → Nat} {σ : St} {cl q : Int} (hD : ∀ τ, va_D (AD ad 45) (wsM cI cZ ad τ)) (hB : Bd σ) (r_cl : rg cl) (r_q : rg q) : JMi l yX10_post cX10_post 3 (some .int) rm_X10_post D [(cI, .int), (cZ, .boolean)] (AD ad 45) (wsM cI cZ ad) [.ref (ad 0), .int (I cl), .int (I q)] σ (fun r τ => r = (postS σ cl q).1 ∧ Eqp τ (postS σ cl q).2) := by
  refine JMi.of RX10 (by decide +kernel) rfl (Nat.le_of_ble_eq_true rfl) hD ?_
  intro p e s m args below meth c Q J fin H ls hw hl
  generalize ([] : List Loc) = locs at hw ⊢
  have hl : lv_has ls 3 [(0, .ref (ad 0)), (1, .int (I cl)), (2, .int (I q))] := hl
  have hd : Dim _ := hB.dim
  have hd1 := hd.1; have hd2 := hd.2.1; have hd3 := hd.2.2.1; have hd4 := hd.2.2.2; have hm := hd.mul
  have u_cl := r_cl; unfold rg at u_cl
  have u_q := r_q; unfold rg at u_q
  have hq := hB.posts
  refine j_aload_n J dX10_post_0 rfl (lv_at hl 0 rfl) ?_
  refine j_iload_n J dX10_post_1 rfl (lv_at hl 1 rfl) ?_
  refine k_X10_isCell (cell := cl) (σ := σ) hD (show Dim σ from hd) (show rg cl from by unfold rg; omega) J hw hl.1 lk_X10_97 ⟨Nat.le_of_ble_eq_true rfl, Nat.le_of_ble_eq_true rfl⟩ (Nat.le_of_ble_eq_true rfl) dX10_post_2 (fun H locs hw => ?_)
  refine j_ifeqB J 19 dX10_post_5 (by decide) (fun (h_1 : ¬ (0 ≤ cl ∧ cl ≤ σ 18 0 * σ 18 1 - 1)) => ?_) (fun (h_1 : 0 ≤ cl ∧ cl ≤ σ 18 0 * σ 18 1 - 1) => ?_)
  · refine j_iconst J (-1) dX10_post_19 ?_
    exact fin _ (σ) _ _ _ _ dX10_post_20 rfl (by first | (unfold postS; (repeat (first | rw [if_pos (by omega)] | rw [if_neg (by omega)])); exact ⟨rfl, Eqp.rf⟩) | (exfalso; omega)) hw
  · refine j_iload_n J dX10_post_8 rfl (lv_at hl 2 rfl) ?_
    refine j_iconst J (0) dX10_post_9 ?_
    refine j_sipush J (10000) dX10_post_10 (by decide) ?_
    refine k_X10_in (v := q) (lo := 0) (hi := 10000) (σ := σ) hD (show rg q from by unfold rg; omega) (show rg 0 from by unfold rg; omega) (show rg 10000 from by unfold rg; omega) J hw hl.1 lk_X10_69 ⟨Nat.le_of_ble_eq_true rfl, Nat.le_of_ble_eq_true rfl⟩ (Nat.le_of_ble_eq_true rfl) dX10_post_13 (fun H locs hw => ?_)
    refine j_ifneB J 21 dX10_post_16 (by decide) (fun (h_2 : 0 ≤ q ∧ q ≤ 10000) => ?_) (fun (h_2 : ¬ (0 ≤ q ∧ q ≤ 10000)) => ?_)
    · refine j_aload_n J dX10_post_21 rfl (lv_at hl 0 rfl) ?_
      refine mg_10_13 J hw lk_X10_73 dX10_post_22 ?_
      refine j_bipush J (8) dX10_post_25 (by decide) ?_
      refine j_icmp_ne J 33 (show rg (σ 18 6) by unfold rg; omega) (by unfold rg; omega) dX10_post_27 (by decide) (fun (h_3 : ¬ (σ 18 6) = 8) => ?_) (fun (h_3 : (σ 18 6) = 8) => ?_)
      · refine j_aload_n J dX10_post_33 rfl (lv_at hl 0 rfl) ?_
        refine mg_10_14 J hw lk_X10_50 dX10_post_34 ?_
        refine j_aload_n J dX10_post_37 rfl (lv_at hl 0 rfl) ?_
        refine mg_10_13 J hw lk_X10_73 dX10_post_38 ?_
        refine j_iload_n J dX10_post_41 rfl (lv_at hl 1 rfl) ?_
        refine ma_st_13 J hw (show 0 ≤ σ 18 6 ∧ (σ 18 6) < ((8 : Nat) : Int) from by omega) dX10_post_42 (fun H locs hw => ?_)
        refine j_aload_n J dX10_post_43 rfl (lv_at hl 0 rfl) ?_
        refine mg_10_15 J hw lk_X10_53 dX10_post_44 ?_
        refine j_aload_n J dX10_post_47 rfl (lv_at hl 0 rfl) ?_
        refine mg_10_13 J hw lk_X10_73 dX10_post_48 ?_
        refine j_iload_n J dX10_post_51 rfl (lv_at hl 2 rfl) ?_
        refine ma_st_14 J hw (show 0 ≤ σ 18 6 ∧ (σ 18 6) < ((8 : Nat) : Int) from by omega) dX10_post_52 (fun H locs hw => ?_)
        refine j_aload_n J dX10_post_53 rfl (lv_at hl 0 rfl) ?_
        refine mg_10_16 J hw lk_X10_56 dX10_post_54 ?_
        refine j_aload_n J dX10_post_57 rfl (lv_at hl 0 rfl) ?_
        refine mg_10_13 J hw lk_X10_73 dX10_post_58 ?_
        refine j_iconst J (0) dX10_post_61 ?_
        refine ma_st_15 J hw (show 0 ≤ σ 18 6 ∧ (σ 18 6) < ((8 : Nat) : Int) from by omega) dX10_post_62 (fun H locs hw => ?_)
        refine j_aload_n J dX10_post_63 rfl (lv_at hl 0 rfl) ?_
        refine j_dup J dX10_post_64 rfl ?_
        refine mg_10_13 J hw lk_X10_73 dX10_post_65 ?_
        refine j_iconst J (1) dX10_post_68 ?_
        refine j_iadd J dX10_post_69 ?_
        refine ms_10_13 J hw lk_X10_73 dX10_post_70 (fun H locs hw => ?_)
        refine j_aload_n J dX10_post_73 rfl (lv_at hl 0 rfl) ?_
        refine mg_10_13 J hw lk_X10_73 dX10_post_74 ?_
        refine j_iconst J (1) dX10_post_77 ?_
        refine j_isub J dX10_post_78 ?_
        exact fin _ (st (st (st (st σ 13 (σ 18 6) cl) 14 (σ 18 6) q) 15 (σ 18 6) 0) 18 6 ((σ 18 6) + 1)) _ _ _ _ dX10_post_79 rfl (by unfold postS; rw [if_pos (by omega), if_neg (by omega)]; exact ⟨by show σ 18 6 + 1 - 1 = σ 18 6; omega, Eqp.rf⟩) hw
      · refine j_bipush J (-3) dX10_post_30 (by decide) ?_
        exact fin _ (σ) _ _ _ _ dX10_post_32 rfl (by first | (unfold postS; (repeat (first | rw [if_pos (by omega)] | rw [if_neg (by omega)])); exact ⟨rfl, Eqp.rf⟩) | (exfalso; omega)) hw
    · refine j_iconst J (-1) dX10_post_19 ?_
      exact fin _ (σ) _ _ _ _ dX10_post_20 rfl (by first | (unfold postS; (repeat (first | rw [if_pos (by omega)] | rw [if_neg (by omega)])); exact ⟨rfl, Eqp.rf⟩) | (exfalso; omega)) hw
theorem k_X10_post {p : Program} {l : Launch} {e : Env} {R : Room} {s : State} {m : MethodId} {args : Array Value} {below : List Frame} {meth : Method} {c : Code} {H : Heap} {locs : List Loc} {Q : State → Prop} {cc : ByteArray} {pc : Nat} {ls : Array Slot} {rest : List Value} {nL : Nat} {own : String} {D : va_G} {σ : St} {cI cZ : ClassId} {ad : Nat → Nat} {index : Nat} {cl q : Int} (hD : ∀ τ, va_D (AD ad 45) (wsM cI cZ ad τ)) (hB : Bd σ) (r_cl : rg cl) (r_q : rg q) (J : Jx p m c cc nL s args own D [(cI, .int), (cZ, .boolean)] (AD ad 45) (wsM cI cZ ad)) (hw : jW D (AD ad 45) s.heap (wsM cI cZ ad σ) H locs) (hsz : ls.size = nL) (hlk : Cond.methodLink own index yX10_post ∈ TBw) (hR : 3 ≤ R.frames ∧ 65 ≤ R.locals) (hroom : (rest.map fun v => v.category).sum ≤ 8) (hdg : decode cc pc = .ok (.invokevirtual index, 3)) (kk : ∀ (r : Int) (τ : St) (H1 : Heap) (locs1 : List Loc), (fun r τ => r = (postS σ cl q).1 ∧ Eqp τ (postS σ cl q).2) r τ → jW D (AD ad 45) s.heap (wsM cI cZ ad τ) H1 locs1 → W p l e R s m args below meth c H1 locs1 0 0 Q (F0 m (pc + 3) ls (.int (I r) :: rest))) : W p l e R s m args below meth c H locs 0 0 Q (F0 m pc ls (.int (I q) :: .int (I cl) :: .ref (ad 0) :: rest)) := 
  j_callVi J hw (c_X10_post  hD hB r_cl r_q) hlk in_X10_post se_X10_post ini_X10 co_X10_post (n := 2) (by decide +kernel) ⟨rfl, rfl, hR.1, hR.2⟩ (j := 0) (ci := 10) rfl rfl rfl rfl hroom hsz ⟨Nat.zero_le _, Nat.zero_le _⟩ rfl hdg kk
def rm_X10_best : Room := { frames := 2, cells := 0, slots := 0, locals := 42 }
set_option maxHeartbeats 4000000 in
set_option maxRecDepth 100000 in
theorem c_X10_best {l : Launch} {D : va_G} {cI cZ : ClassId} {ad : Nat → Nat} {σ : St} {sp : Int} (hD : ∀ τ, va_D (AD ad 45) (wsM cI cZ ad τ)) (hB : Bd σ) (r_sp : rg sp) : JMi l yX10_best cX10_best 4 (some .int) rm_X10_best D [(cI, .int), (cZ, .boolean)] (AD ad 45) (wsM cI cZ ad) [.ref (ad 0), .int (I sp)] σ (fun r τ => r = (bestS σ sp).1 ∧ Eqp τ (bestS σ sp).2) := by
  refine JMi.of RX10 (by decide +kernel) rfl (Nat.le_of_ble_eq_true rfl) hD ?_
  intro p e s m args below meth c Q J fin H ls hw hl
  generalize ([] : List Loc) = locs at hw ⊢
  have hl : lv_has ls 4 [(0, .ref (ad 0)), (1, .int (I sp))] := hl
  have hd : Dim _ := hB.dim
  have hd1 := hd.1; have hd2 := hd.2.1; have hd3 := hd.2.2.1; have hd4 := hd.2.2.2; have hm := hd.mul
  have u_sp := r_sp; unfold rg at u_sp
  refine j_iload_n J dX10_best_0 rfl (lv_at hl 1 rfl) ?_
  refine k_X10_isSpot (sp := sp) (σ := σ) hD (show rg sp from by unfold rg; omega) J hw hl.1 lk_X10_101 ⟨Nat.le_of_ble_eq_true rfl, Nat.le_of_ble_eq_true rfl⟩ (Nat.le_of_ble_eq_true rfl) dX10_best_1 (fun H locs hw => ?_)
  refine j_ifneB J 9 dX10_best_4 (by decide) (fun (h_1 : 0 ≤ sp ∧ sp ≤ 2) => ?_) (fun (h_1 : ¬ (0 ≤ sp ∧ sp ≤ 2)) => ?_)
  · have b0 := hB.away sp (by omega) (by omega)
    refine j_iconst J (1) dX10_best_9 ?_
    refine j_istore_n J (lv' := [(2, .int (I 1)), (0, .ref (ad 0)), (1, .int (I sp))]) hl dX10_best_10 rfl (by decide) rfl (fun ls hl => ?_)
    refine j_iconst J (2) dX10_best_11 ?_
    refine j_istore_n J (lv' := [(3, .int (I 2)), (2, .int (I 1)), (0, .ref (ad 0)), (1, .int (I sp))]) hl dX10_best_12 rfl (by decide) rfl (fun ls hl => ?_)
    have L13 : ∀ n : Nat, ∀ (f : Int) (t : Int), (2 ≤ t ∧ t ≤ 31) → (1 ≤ f ∧ f ≤ 30) → (f = bsN σ (σ 12 sp) (t - 2).toNat) → ((31 - t).toNat) < n → ∀ (H : Heap) (locs : List Loc) (ls : Array Slot), jW D (AD ad 45) s.heap (wsM cI cZ ad σ) H locs → lv_has ls 4 [(3, .int (I t)), (0, .ref (ad 0)), (1, .int (I sp)), (2, .int (I f))] → W p l e rm_X10_best s m args below meth c H locs 0 0 Q (F0 m 13 ls []) := by
      intro n
      induction n with
      | zero =>
        intro f t ht hf hfe hm H locs ls hw hl
        exact absurd hm (Nat.not_lt_zero _)
      | succ n ih =>
        intro f t ht hf hfe hm H locs ls hw hl
        have ih13 := ih
        refine j_iload_n J dX10_best_13 rfl (lv_at hl 0 rfl) ?_
        refine j_bipush J (31) dX10_best_14 (by decide) ?_
        refine j_icmp_ge J 70 (show rg t by unfold rg; omega) (by unfold rg; omega) dX10_best_16 (by decide) (fun (h_2 : 31 ≤ t) => ?_) (fun (h_2 : t < 31) => ?_)
        · refine j_iload_n J dX10_best_70 rfl (lv_at hl 3 rfl) ?_
          exact fin _ (σ) _ _ _ _ dX10_best_71 rfl (by unfold bestS; rw [if_pos (by omega)]; exact ⟨by rw [hfe, show (t - 2).toNat = 29 by omega], Eqp.rf⟩) hw
        · refine j_aload_n J dX10_best_19 rfl (lv_at hl 1 rfl) ?_
          refine mg_10_12 J hw lk_X10_47 dX10_best_20 ?_
          refine j_iload_n J dX10_best_23 rfl (lv_at hl 0 rfl) ?_
          refine ma_ld_8 J hw (show 0 ≤ t ∧ t < ((31 : Nat) : Int) from by omega) dX10_best_24 ?_
          refine j_iload_n J dX10_best_25 rfl (lv_at hl 3 rfl) ?_
          refine j_bipush J (120) dX10_best_26 (by decide) ?_
          refine j_aload_n J dX10_best_28 rfl (lv_at hl 1 rfl) ?_
          refine mg_10_10 J hw lk_X10_41 dX10_best_29 ?_
          refine j_iload_n J dX10_best_32 rfl (lv_at hl 2 rfl) ?_
          refine ma_ld_12 J hw (show 0 ≤ sp ∧ sp < ((3 : Nat) : Int) from by omega) dX10_best_33 ?_
          refine j_imul J dX10_best_34 ?_
          refine j_iadd J dX10_best_35 ?_
          refine j_imul J dX10_best_36 ?_
          refine j_aload_n J dX10_best_37 rfl (lv_at hl 1 rfl) ?_
          refine mg_10_12 J hw lk_X10_47 dX10_best_38 ?_
          refine j_iload_n J dX10_best_41 rfl (lv_at hl 3 rfl) ?_
          refine ma_ld_8 J hw (show 0 ≤ f ∧ f < ((31 : Nat) : Int) from by omega) dX10_best_42 ?_
          refine j_iload_n J dX10_best_43 rfl (lv_at hl 0 rfl) ?_
          refine j_bipush J (120) dX10_best_44 (by decide) ?_
          refine j_aload_n J dX10_best_46 rfl (lv_at hl 1 rfl) ?_
          refine mg_10_10 J hw lk_X10_41 dX10_best_47 ?_
          refine j_iload_n J dX10_best_50 rfl (lv_at hl 2 rfl) ?_
          refine ma_ld_12 J hw (show 0 ≤ sp ∧ sp < ((3 : Nat) : Int) from by omega) dX10_best_51 ?_
          refine j_imul J dX10_best_52 ?_
          refine j_iadd J dX10_best_53 ?_
          refine j_imul J dX10_best_54 ?_
          have b1 := hB.table t; have b2 := hB.table f
          have q1 : 0 ≤ σ 8 t * (f + 120 * σ 12 sp) ∧ σ 8 t * (f + 120 * σ 12 sp) ≤ 200 * 2430 := ⟨Int.mul_nonneg (by omega) (by omega), Int.mul_le_mul (by omega) (by omega) (by omega) (by omega)⟩
          have q2 : 0 ≤ σ 8 f * (t + 120 * σ 12 sp) ∧ σ 8 f * (t + 120 * σ 12 sp) ≤ 200 * 2430 := ⟨Int.mul_nonneg (by omega) (by omega), Int.mul_le_mul (by omega) (by omega) (by omega) (by omega)⟩
          refine j_icmp_le J 62 (show rg ((σ 8 t) * (f + (120 * (σ 12 sp)))) by unfold rg; omega) (show rg ((σ 8 f) * (t + (120 * (σ 12 sp)))) by unfold rg; omega) dX10_best_55 (by decide) (fun (h_3 : ((σ 8 t) * (f + (120 * (σ 12 sp)))) ≤ ((σ 8 f) * (t + (120 * (σ 12 sp))))) => ?_) (fun (h_3 : ((σ 8 f) * (t + (120 * (σ 12 sp)))) < ((σ 8 t) * (f + (120 * (σ 12 sp))))) => ?_)
          · refine j_iload_n J dX10_best_62 rfl (lv_at hl 3 rfl) ?_
            refine j_istore_n J (lv' := [(2, .int (I f)), (3, .int (I t)), (0, .ref (ad 0)), (1, .int (I sp))]) hl dX10_best_63 rfl (by decide) rfl (fun ls hl => ?_)
            refine j_iinc J (lv' := [(3, .int (I (t + 1))), (2, .int (I f)), (0, .ref (ad 0)), (1, .int (I sp))]) (k := 1) hl dX10_best_64 rfl (by decide) rfl (fun ls hl => ?_)
            refine j_goto J 13 dX10_best_67 (by decide) ?_
            exact ih13 f (t + 1) (by omega) (by omega) (by rw [show (t + 1 - 2).toNat = (t - 2).toNat + 1 by omega]; first | exact bsN_yes ht.1 hfe (by assumption) | exact bsN_no ht.1 hfe (Int.not_lt.mpr (by assumption))) (by omega) _ _ _ hw (lv_sub hl [0, 2, 3, 1] rfl)
          · refine j_iload_n J dX10_best_58 rfl (lv_at hl 0 rfl) ?_
            refine j_goto J 63 dX10_best_59 (by decide) ?_
            refine j_istore_n J (lv' := [(2, .int (I t)), (3, .int (I t)), (0, .ref (ad 0)), (1, .int (I sp))]) hl dX10_best_63 rfl (by decide) rfl (fun ls hl => ?_)
            refine j_iinc J (lv' := [(3, .int (I (t + 1))), (2, .int (I t)), (0, .ref (ad 0)), (1, .int (I sp))]) (k := 1) hl dX10_best_64 rfl (by decide) rfl (fun ls hl => ?_)
            refine j_goto J 13 dX10_best_67 (by decide) ?_
            exact ih13 t (t + 1) (by omega) (by omega) (by rw [show (t + 1 - 2).toNat = (t - 2).toNat + 1 by omega]; first | exact bsN_yes ht.1 hfe (by assumption) | exact bsN_no ht.1 hfe (Int.not_lt.mpr (by assumption))) (by omega) _ _ _ hw (lv_sub hl [0, 2, 3, 1] rfl)
    exact L13 _ 1 2 (by omega) (by omega) (rfl) (Nat.lt_succ_self _) _ _ _ hw (lv_sub hl [0, 2, 3, 1] rfl)
  · refine j_iconst J (-1) dX10_best_7 ?_
    exact fin _ (σ) _ _ _ _ dX10_best_8 rfl (by first | (unfold bestS; (repeat (first | rw [if_pos (by omega)] | rw [if_neg (by omega)])); exact ⟨rfl, Eqp.rf⟩) | (exfalso; omega)) hw
theorem k_X10_best {p : Program} {l : Launch} {e : Env} {R : Room} {s : State} {m : MethodId} {args : Array Value} {below : List Frame} {meth : Method} {c : Code} {H : Heap} {locs : List Loc} {Q : State → Prop} {cc : ByteArray} {pc : Nat} {ls : Array Slot} {rest : List Value} {nL : Nat} {own : String} {D : va_G} {σ : St} {cI cZ : ClassId} {ad : Nat → Nat} {index : Nat} {sp : Int} (hD : ∀ τ, va_D (AD ad 45) (wsM cI cZ ad τ)) (hB : Bd σ) (r_sp : rg sp) (J : Jx p m c cc nL s args own D [(cI, .int), (cZ, .boolean)] (AD ad 45) (wsM cI cZ ad)) (hw : jW D (AD ad 45) s.heap (wsM cI cZ ad σ) H locs) (hsz : ls.size = nL) (hlk : Cond.methodLink own index yX10_best ∈ TBw) (hR : 3 ≤ R.frames ∧ 65 ≤ R.locals) (hroom : (rest.map fun v => v.category).sum ≤ 8) (hdg : decode cc pc = .ok (.invokevirtual index, 3)) (kk : ∀ (r : Int) (τ : St) (H1 : Heap) (locs1 : List Loc), (fun r τ => r = (bestS σ sp).1 ∧ Eqp τ (bestS σ sp).2) r τ → jW D (AD ad 45) s.heap (wsM cI cZ ad τ) H1 locs1 → W p l e R s m args below meth c H1 locs1 0 0 Q (F0 m (pc + 3) ls (.int (I r) :: rest))) : W p l e R s m args below meth c H locs 0 0 Q (F0 m pc ls (.int (I sp) :: .ref (ad 0) :: rest)) := 
  j_callVi J hw (c_X10_best  hD hB r_sp) hlk in_X10_best se_X10_best ini_X10 co_X10_best (n := 1) (by decide +kernel) ⟨rfl, rfl, hR.1, hR.2⟩ (j := 0) (ci := 10) rfl rfl rfl rfl hroom hsz ⟨Nat.zero_le _, Nat.zero_le _⟩ rfl hdg kk
def rm_X10_sound : Room := { frames := 2, cells := 0, slots := 0, locals := 42 }
set_option maxHeartbeats 4000000 in
set_option maxRecDepth 100000 in
theorem c_X10_sound {l : Launch} {D : va_G} {cI cZ : ClassId} {ad : Nat → Nat} {σ : St} {sh : Int} (hD : ∀ τ, va_D (AD ad 45) (wsM cI cZ ad τ)) (hB : Bd σ) (r_sh : rg sh) : JMi l yX10_sound cX10_sound 3 (some .int) rm_X10_sound D [(cI, .int), (cZ, .boolean)] (AD ad 45) (wsM cI cZ ad) [.ref (ad 0), .int (I sh)] σ (fun r τ => r = (soundS σ sh).1 ∧ Eqp τ (soundS σ sh).2) := by
  refine JMi.of RX10 (by decide +kernel) rfl (Nat.le_of_ble_eq_true rfl) hD ?_
  intro p e s m args below meth c Q J fin H ls hw hl
  generalize ([] : List Loc) = locs at hw ⊢
  have hl : lv_has ls 3 [(0, .ref (ad 0)), (1, .int (I sh))] := hl
  have hd : Dim _ := hB.dim
  have hd1 := hd.1; have hd2 := hd.2.1; have hd3 := hd.2.2.1; have hd4 := hd.2.2.2; have hm := hd.mul
  have u_sh := r_sh; unfold rg at u_sh
  refine j_iload_n J dX10_sound_0 rfl (lv_at hl 1 rfl) ?_
  refine k_X10_isSix (sh := sh) (σ := σ) hD (show rg sh from by unfold rg; omega) J hw hl.1 lk_X10_129 ⟨Nat.le_of_ble_eq_true rfl, Nat.le_of_ble_eq_true rfl⟩ (Nat.le_of_ble_eq_true rfl) dX10_sound_1 (fun H locs hw => ?_)
  refine j_ifneB J 9 dX10_sound_4 (by decide) (fun (h_1 : 0 ≤ sh ∧ sh ≤ 5) => ?_) (fun (h_1 : ¬ (0 ≤ sh ∧ sh ≤ 5)) => ?_)
  · refine j_aload_n J dX10_sound_9 rfl (lv_at hl 0 rfl) ?_
    refine mg_10_17 J hw lk_X10_59 dX10_sound_10 ?_
    refine j_iload_n J dX10_sound_13 rfl (lv_at hl 1 rfl) ?_
    refine j_iconst J (1) dX10_sound_14 ?_
    refine ma_st_17 J hw (show 0 ≤ sh ∧ sh < ((6 : Nat) : Int) from by omega) (by decide) dX10_sound_15 (fun H locs hw => ?_)
    refine j_iconst J (0) dX10_sound_16 ?_
    refine j_istore_n J (lv' := [(2, .int (I 0)), (0, .ref (ad 0)), (1, .int (I sh))]) hl dX10_sound_17 rfl (by decide) rfl (fun ls hl => ?_)
    have L18 : ∀ n : Nat, ∀ (i : Int), (0 ≤ i ∧ i ≤ σ 18 0 * σ 18 1) → ((σ 18 0 * σ 18 1 - i).toNat) < n → ∀ (H : Heap) (locs : List Loc) (ls : Array Slot), jW D (AD ad 45) s.heap (wsM cI cZ ad (tkS σ sh i)) H locs → lv_has ls 3 [(2, .int (I i)), (0, .ref (ad 0)), (1, .int (I sh))] → W p l e rm_X10_sound s m args below meth c H locs 0 0 Q (F0 m 18 ls []) := by
      intro n
      induction n with
      | zero =>
        intro i hi0 hm H locs ls hw hl
        exact absurd hm (Nat.not_lt_zero _)
      | succ n ih =>
        intro i hi0 hm H locs ls hw hl
        have ih18 := ih
        refine j_iload_n J dX10_sound_18 rfl (lv_at hl 0 rfl) ?_
        refine j_aload_n J dX10_sound_19 rfl (lv_at hl 1 rfl) ?_
        refine mg_10_0 J hw lk_X10_7 dX10_sound_20 ?_
        refine j_aload_n J dX10_sound_23 rfl (lv_at hl 1 rfl) ?_
        refine mg_10_1 J hw lk_X10_13 dX10_sound_24 ?_
        refine j_imul J dX10_sound_27 ?_
        refine j_icmp_ge J 54 (show rg i by unfold rg; omega) (show rg ((σ 18 0) * (σ 18 1)) by unfold rg; omega) dX10_sound_28 (by decide) (fun (h_2 : ((σ 18 0) * (σ 18 1)) ≤ i) => ?_) (fun (h_2 : i < ((σ 18 0) * (σ 18 1))) => ?_)
        · refine j_iconst J (0) dX10_sound_54 ?_
          exact fin _ (tkS σ sh i) _ _ _ _ dX10_sound_55 rfl (by unfold soundS; rw [if_pos (by omega)]; exact ⟨rfl, by rw [show i = σ 18 0 * σ 18 1 by omega]; exact Eqp.rf⟩) hw
        · refine j_aload_n J dX10_sound_31 rfl (lv_at hl 1 rfl) ?_
          refine mg_10_18 J hw lk_X10_63 dX10_sound_32 ?_
          refine j_bipush J (120) dX10_sound_35 (by decide) ?_
          refine j_iload_n J dX10_sound_37 rfl (lv_at hl 2 rfl) ?_
          refine j_imul J dX10_sound_38 ?_
          refine j_iload_n J dX10_sound_39 rfl (lv_at hl 0 rfl) ?_
          refine j_iadd J dX10_sound_40 ?_
          rw [show 120 * sh + i = sh * 120 + i by omega]
          refine j_aload_n J dX10_sound_41 rfl (lv_at hl 1 rfl) ?_
          refine mg_10_2 J hw lk_X10_16 dX10_sound_42 ?_
          refine j_iload_n J dX10_sound_45 rfl (lv_at hl 0 rfl) ?_
          refine ma_ld_1 J hw (show 0 ≤ i ∧ i < ((120 : Nat) : Int) from by omega) dX10_sound_46 ?_
          refine ma_st_16 J hw (show 0 ≤ sh * 120 + i ∧ (sh * 120 + i) < ((720 : Nat) : Int) from by omega) dX10_sound_47 (fun H locs hw => ?_)
          refine j_iinc J (lv' := [(2, .int (I (i + 1))), (0, .ref (ad 0)), (1, .int (I sh))]) (k := 0) hl dX10_sound_48 rfl (by decide) rfl (fun ls hl => ?_)
          refine j_goto J 18 dX10_sound_51 (by decide) ?_
          exact ih18 (i + 1) (by omega) (by omega) _ _ _ (by rw [← tkS_step hi0.1]; exact hw) (lv_sub hl [0, 1, 2] rfl)
    exact L18 _ 0 (by omega) (Nat.lt_succ_self _) _ _ _ (by rw [tkS_0]; exact hw) (lv_sub hl [0, 1, 2] rfl)
  · refine j_iconst J (-1) dX10_sound_7 ?_
    exact fin _ (σ) _ _ _ _ dX10_sound_8 rfl (by first | (unfold soundS; (repeat (first | rw [if_pos (by omega)] | rw [if_neg (by omega)])); exact ⟨rfl, Eqp.rf⟩) | (exfalso; omega)) hw
theorem k_X10_sound {p : Program} {l : Launch} {e : Env} {R : Room} {s : State} {m : MethodId} {args : Array Value} {below : List Frame} {meth : Method} {c : Code} {H : Heap} {locs : List Loc} {Q : State → Prop} {cc : ByteArray} {pc : Nat} {ls : Array Slot} {rest : List Value} {nL : Nat} {own : String} {D : va_G} {σ : St} {cI cZ : ClassId} {ad : Nat → Nat} {index : Nat} {sh : Int} (hD : ∀ τ, va_D (AD ad 45) (wsM cI cZ ad τ)) (hB : Bd σ) (r_sh : rg sh) (J : Jx p m c cc nL s args own D [(cI, .int), (cZ, .boolean)] (AD ad 45) (wsM cI cZ ad)) (hw : jW D (AD ad 45) s.heap (wsM cI cZ ad σ) H locs) (hsz : ls.size = nL) (hlk : Cond.methodLink own index yX10_sound ∈ TBw) (hR : 3 ≤ R.frames ∧ 64 ≤ R.locals) (hroom : (rest.map fun v => v.category).sum ≤ 8) (hdg : decode cc pc = .ok (.invokevirtual index, 3)) (kk : ∀ (r : Int) (τ : St) (H1 : Heap) (locs1 : List Loc), (fun r τ => r = (soundS σ sh).1 ∧ Eqp τ (soundS σ sh).2) r τ → jW D (AD ad 45) s.heap (wsM cI cZ ad τ) H1 locs1 → W p l e R s m args below meth c H1 locs1 0 0 Q (F0 m (pc + 3) ls (.int (I r) :: rest))) : W p l e R s m args below meth c H locs 0 0 Q (F0 m pc ls (.int (I sh) :: .ref (ad 0) :: rest)) := 
  j_callVi J hw (c_X10_sound  hD hB r_sh) hlk in_X10_sound se_X10_sound ini_X10 co_X10_sound (n := 1) (by decide +kernel) ⟨rfl, rfl, hR.1, hR.2⟩ (j := 0) (ci := 10) rfl rfl rfl rfl hroom hsz ⟨Nat.zero_le _, Nat.zero_le _⟩ rfl hdg kk
def rm_X10_lose : Room := { frames := 2, cells := 0, slots := 0, locals := 43 }
set_option maxHeartbeats 4000000 in
set_option maxRecDepth 100000 in
theorem c_X10_lose {l : Launch} {D : va_G} {cI cZ : ClassId} {ad : Nat → Nat} {σ : St} {sh cl : Int} (hD : ∀ τ, va_D (AD ad 45) (wsM cI cZ ad τ)) (hB : Bd σ) (r_sh : rg sh) (r_cl : rg cl) : JMi l yX10_lose cX10_lose 4 (some .int) rm_X10_lose D [(cI, .int), (cZ, .boolean)] (AD ad 45) (wsM cI cZ ad) [.ref (ad 0), .int (I sh), .int (I cl)] σ (fun r τ => r = (loseS σ sh cl).1 ∧ Eqp τ (loseS σ sh cl).2) := by
  refine JMi.of RX10 (by decide +kernel) rfl (Nat.le_of_ble_eq_true rfl) hD ?_
  intro p e s m args below meth c Q J fin H ls hw hl
  generalize ([] : List Loc) = locs at hw ⊢
  have hl : lv_has ls 4 [(0, .ref (ad 0)), (1, .int (I sh)), (2, .int (I cl))] := hl
  have hd : Dim _ := hB.dim
  have hd1 := hd.1; have hd2 := hd.2.1; have hd3 := hd.2.2.1; have hd4 := hd.2.2.2; have hm := hd.mul
  have u_sh := r_sh; unfold rg at u_sh
  have u_cl := r_cl; unfold rg at u_cl
  have b16 := hB.sheet (sh * 120 + cl); have b17 := hB.taken sh
  refine j_iload_n J dX10_lose_0 rfl (lv_at hl 1 rfl) ?_
  refine k_X10_isSix (sh := sh) (σ := σ) hD (show rg sh from by unfold rg; omega) J hw hl.1 lk_X10_129 ⟨Nat.le_of_ble_eq_true rfl, Nat.le_of_ble_eq_true rfl⟩ (Nat.le_of_ble_eq_true rfl) dX10_lose_1 (fun H locs hw => ?_)
  refine j_ifeqB J 15 dX10_lose_4 (by decide) (fun (h_1 : ¬ (0 ≤ sh ∧ sh ≤ 5)) => ?_) (fun (h_1 : 0 ≤ sh ∧ sh ≤ 5) => ?_)
  · refine j_iconst J (-1) dX10_lose_15 ?_
    exact fin _ (σ) _ _ _ _ dX10_lose_16 rfl (by first | (unfold loseS; (repeat (first | rw [if_pos (by omega)] | rw [if_neg (by omega)])); exact ⟨rfl, Eqp.rf⟩) | (exfalso; omega)) hw
  · refine j_aload_n J dX10_lose_7 rfl (lv_at hl 0 rfl) ?_
    refine j_iload_n J dX10_lose_8 rfl (lv_at hl 2 rfl) ?_
    refine k_X10_isCell (cell := cl) (σ := σ) hD (show Dim σ from hd) (show rg cl from by unfold rg; omega) J hw hl.1 lk_X10_97 ⟨Nat.le_of_ble_eq_true rfl, Nat.le_of_ble_eq_true rfl⟩ (Nat.le_of_ble_eq_true rfl) dX10_lose_9 (fun H locs hw => ?_)
    refine j_ifneB J 17 dX10_lose_12 (by decide) (fun (h_2 : 0 ≤ cl ∧ cl ≤ σ 18 0 * σ 18 1 - 1) => ?_) (fun (h_2 : ¬ (0 ≤ cl ∧ cl ≤ σ 18 0 * σ 18 1 - 1)) => ?_)
    · refine j_aload_n J dX10_lose_17 rfl (lv_at hl 0 rfl) ?_
      refine mg_10_17 J hw lk_X10_59 dX10_lose_18 ?_
      refine j_iload_n J dX10_lose_21 rfl (lv_at hl 1 rfl) ?_
      refine ma_ld_17 J hw (show 0 ≤ sh ∧ sh < ((6 : Nat) : Int) from by omega) dX10_lose_22 ?_
      refine j_if_ne J 29 (show rg (σ 17 sh) by unfold rg; omega) dX10_lose_23 (by decide) (fun (h_3 : ¬ (σ 17 sh) = 0) => ?_) (fun (h_3 : (σ 17 sh) = 0) => ?_)
      · refine j_aload_n J dX10_lose_29 rfl (lv_at hl 0 rfl) ?_
        refine mg_10_18 J hw lk_X10_63 dX10_lose_30 ?_
        refine j_bipush J (120) dX10_lose_33 (by decide) ?_
        refine j_iload_n J dX10_lose_35 rfl (lv_at hl 1 rfl) ?_
        refine j_imul J dX10_lose_36 ?_
        refine j_iload_n J dX10_lose_37 rfl (lv_at hl 2 rfl) ?_
        refine j_iadd J dX10_lose_38 ?_
        rw [show 120 * sh + cl = sh * 120 + cl by omega]
        refine ma_ld_16 J hw (show 0 ≤ sh * 120 + cl ∧ (sh * 120 + cl) < ((720 : Nat) : Int) from by omega) dX10_lose_39 ?_
        refine j_bipush J (-4) dX10_lose_40 (by decide) ?_
        refine j_icmp_ne J 49 (show rg (σ 16 (sh * 120 + cl)) by unfold rg; omega) (by unfold rg; omega) dX10_lose_42 (by decide) (fun (h_4 : ¬ (σ 16 (sh * 120 + cl)) = (-4)) => ?_) (fun (h_4 : (σ 16 (sh * 120 + cl)) = (-4)) => ?_)
        · refine j_iconst J (0) dX10_lose_49 ?_
          refine j_istore_n J (lv' := [(3, .int (I 0)), (0, .ref (ad 0)), (1, .int (I sh)), (2, .int (I cl))]) hl dX10_lose_50 rfl (by decide) rfl (fun ls hl => ?_)
          refine j_aload_n J dX10_lose_51 rfl (lv_at hl 1 rfl) ?_
          refine mg_10_18 J hw lk_X10_63 dX10_lose_52 ?_
          refine j_bipush J (120) dX10_lose_55 (by decide) ?_
          refine j_iload_n J dX10_lose_57 rfl (lv_at hl 2 rfl) ?_
          refine j_imul J dX10_lose_58 ?_
          refine j_iload_n J dX10_lose_59 rfl (lv_at hl 3 rfl) ?_
          refine j_iadd J dX10_lose_60 ?_
          rw [show 120 * sh + cl = sh * 120 + cl by omega]
          refine j_bipush J (-4) dX10_lose_61 (by decide) ?_
          refine ma_st_16 J hw (show 0 ≤ sh * 120 + cl ∧ (sh * 120 + cl) < ((720 : Nat) : Int) from by omega) dX10_lose_63 (fun H locs hw => ?_)
          refine j_iload_n J dX10_lose_64 rfl (lv_at hl 0 rfl) ?_
          refine j_if_eq J 72 (by unfold rg; omega) dX10_lose_65 (by decide) (fun (h_5 : 0 = 0) => ?_) (fun (h_5 : ¬ 0 = 0) => absurd h_5 (by omega))
          refine j_iconst J (1) dX10_lose_72 ?_
          exact fin _ (st σ 16 (sh * 120 + cl) (-4)) _ _ _ _ dX10_lose_73 rfl (by first | (unfold loseS; (repeat (first | rw [if_pos (by omega)] | rw [if_neg (by omega)])); exact ⟨rfl, Eqp.rf⟩) | (exfalso; omega)) hw
        · refine j_iconst J (1) dX10_lose_45 ?_
          refine j_goto J 50 dX10_lose_46 (by decide) ?_
          refine j_istore_n J (lv' := [(3, .int (I 1)), (0, .ref (ad 0)), (1, .int (I sh)), (2, .int (I cl))]) hl dX10_lose_50 rfl (by decide) rfl (fun ls hl => ?_)
          refine j_aload_n J dX10_lose_51 rfl (lv_at hl 1 rfl) ?_
          refine mg_10_18 J hw lk_X10_63 dX10_lose_52 ?_
          refine j_bipush J (120) dX10_lose_55 (by decide) ?_
          refine j_iload_n J dX10_lose_57 rfl (lv_at hl 2 rfl) ?_
          refine j_imul J dX10_lose_58 ?_
          refine j_iload_n J dX10_lose_59 rfl (lv_at hl 3 rfl) ?_
          refine j_iadd J dX10_lose_60 ?_
          rw [show 120 * sh + cl = sh * 120 + cl by omega]
          refine j_bipush J (-4) dX10_lose_61 (by decide) ?_
          refine ma_st_16 J hw (show 0 ≤ sh * 120 + cl ∧ (sh * 120 + cl) < ((720 : Nat) : Int) from by omega) dX10_lose_63 (fun H locs hw => ?_)
          refine j_iload_n J dX10_lose_64 rfl (lv_at hl 0 rfl) ?_
          refine j_if_eq J 72 (by unfold rg; omega) dX10_lose_65 (by decide) (fun (h_6 : 1 = 0) => absurd h_6 (by omega)) (fun (h_6 : ¬ 1 = 0) => ?_)
          refine j_iconst J (0) dX10_lose_68 ?_
          refine j_goto J 73 dX10_lose_69 (by decide) ?_
          exact fin _ (st σ 16 (sh * 120 + cl) (-4)) _ _ _ _ dX10_lose_73 rfl (by first | (unfold loseS; (repeat (first | rw [if_pos (by omega)] | rw [if_neg (by omega)])); exact ⟨rfl, Eqp.rf⟩) | (exfalso; omega)) hw
      · refine j_bipush J (-2) dX10_lose_26 (by decide) ?_
        exact fin _ (σ) _ _ _ _ dX10_lose_28 rfl (by first | (unfold loseS; (repeat (first | rw [if_pos (by omega)] | rw [if_neg (by omega)])); exact ⟨rfl, Eqp.rf⟩) | (exfalso; omega)) hw
    · refine j_iconst J (-1) dX10_lose_15 ?_
      exact fin _ (σ) _ _ _ _ dX10_lose_16 rfl (by first | (unfold loseS; (repeat (first | rw [if_pos (by omega)] | rw [if_neg (by omega)])); exact ⟨rfl, Eqp.rf⟩) | (exfalso; omega)) hw
theorem k_X10_lose {p : Program} {l : Launch} {e : Env} {R : Room} {s : State} {m : MethodId} {args : Array Value} {below : List Frame} {meth : Method} {c : Code} {H : Heap} {locs : List Loc} {Q : State → Prop} {cc : ByteArray} {pc : Nat} {ls : Array Slot} {rest : List Value} {nL : Nat} {own : String} {D : va_G} {σ : St} {cI cZ : ClassId} {ad : Nat → Nat} {index : Nat} {sh cl : Int} (hD : ∀ τ, va_D (AD ad 45) (wsM cI cZ ad τ)) (hB : Bd σ) (r_sh : rg sh) (r_cl : rg cl) (J : Jx p m c cc nL s args own D [(cI, .int), (cZ, .boolean)] (AD ad 45) (wsM cI cZ ad)) (hw : jW D (AD ad 45) s.heap (wsM cI cZ ad σ) H locs) (hsz : ls.size = nL) (hlk : Cond.methodLink own index yX10_lose ∈ TBw) (hR : 3 ≤ R.frames ∧ 66 ≤ R.locals) (hroom : (rest.map fun v => v.category).sum ≤ 8) (hdg : decode cc pc = .ok (.invokevirtual index, 3)) (kk : ∀ (r : Int) (τ : St) (H1 : Heap) (locs1 : List Loc), (fun r τ => r = (loseS σ sh cl).1 ∧ Eqp τ (loseS σ sh cl).2) r τ → jW D (AD ad 45) s.heap (wsM cI cZ ad τ) H1 locs1 → W p l e R s m args below meth c H1 locs1 0 0 Q (F0 m (pc + 3) ls (.int (I r) :: rest))) : W p l e R s m args below meth c H locs 0 0 Q (F0 m pc ls (.int (I cl) :: .int (I sh) :: .ref (ad 0) :: rest)) := 
  j_callVi J hw (c_X10_lose  hD hB r_sh r_cl) hlk in_X10_lose se_X10_lose ini_X10 co_X10_lose (n := 2) (by decide +kernel) ⟨rfl, rfl, hR.1, hR.2⟩ (j := 0) (ci := 10) rfl rfl rfl rfl hroom hsz ⟨Nat.zero_le _, Nat.zero_le _⟩ rfl hdg kk
def rm_X10_join : Room := { frames := 2, cells := 0, slots := 0, locals := 42 }
set_option maxHeartbeats 4000000 in
set_option maxRecDepth 100000 in
theorem c_X10_join {l : Launch} {D : va_G} {cI cZ : ClassId} {ad : Nat → Nat} {σ : St} {sh tt : Int} (hD : ∀ τ, va_D (AD ad 45) (wsM cI cZ ad τ)) (hB : Bd σ) (r_sh : rg sh) (r_tt : rg tt) : JMi l yX10_join cX10_join 5 (some .int) rm_X10_join D [(cI, .int), (cZ, .boolean)] (AD ad 45) (wsM cI cZ ad) [.ref (ad 0), .int (I sh), .int (I tt)] σ (fun r τ => r = (joinS σ sh tt).1 ∧ Eqp τ (joinS σ sh tt).2) := by
  refine JMi.of RX10 (by decide +kernel) rfl (Nat.le_of_ble_eq_true rfl) hD ?_
  intro p e s m args below meth c Q J fin H ls hw hl
  generalize ([] : List Loc) = locs at hw ⊢
  have hl : lv_has ls 5 [(0, .ref (ad 0)), (1, .int (I sh)), (2, .int (I tt))] := hl
  have hd : Dim _ := hB.dim
  have hd1 := hd.1; have hd2 := hd.2.1; have hd3 := hd.2.2.1; have hd4 := hd.2.2.2; have hm := hd.mul
  have u_sh := r_sh; unfold rg at u_sh
  have u_tt := r_tt; unfold rg at u_tt
  have b17 := hB.taken sh; have b18 := hB.taken tt
  refine j_iload_n J dX10_join_0 rfl (lv_at hl 1 rfl) ?_
  refine k_X10_isSix (sh := sh) (σ := σ) hD (show rg sh from by unfold rg; omega) J hw hl.1 lk_X10_129 ⟨Nat.le_of_ble_eq_true rfl, Nat.le_of_ble_eq_true rfl⟩ (Nat.le_of_ble_eq_true rfl) dX10_join_1 (fun H locs hw => ?_)
  refine j_ifeqB J 14 dX10_join_4 (by decide) (fun (h_1 : ¬ (0 ≤ sh ∧ sh ≤ 5)) => ?_) (fun (h_1 : 0 ≤ sh ∧ sh ≤ 5) => ?_)
  · refine j_iconst J (-1) dX10_join_14 ?_
    exact fin _ (σ) _ _ _ _ dX10_join_15 rfl (by first | (unfold joinS; (repeat (first | rw [if_pos (by omega)] | rw [if_neg (by omega)])); exact ⟨rfl, Eqp.rf⟩) | (exfalso; omega)) hw
  · refine j_iload_n J dX10_join_7 rfl (lv_at hl 2 rfl) ?_
    refine k_X10_isSix (sh := tt) (σ := σ) hD (show rg tt from by unfold rg; omega) J hw hl.1 lk_X10_129 ⟨Nat.le_of_ble_eq_true rfl, Nat.le_of_ble_eq_true rfl⟩ (Nat.le_of_ble_eq_true rfl) dX10_join_8 (fun H locs hw => ?_)
    refine j_ifneB J 16 dX10_join_11 (by decide) (fun (h_2 : 0 ≤ tt ∧ tt ≤ 5) => ?_) (fun (h_2 : ¬ (0 ≤ tt ∧ tt ≤ 5)) => ?_)
    · refine j_aload_n J dX10_join_16 rfl (lv_at hl 0 rfl) ?_
      refine mg_10_17 J hw lk_X10_59 dX10_join_17 ?_
      refine j_iload_n J dX10_join_20 rfl (lv_at hl 1 rfl) ?_
      refine ma_ld_17 J hw (show 0 ≤ sh ∧ sh < ((6 : Nat) : Int) from by omega) dX10_join_21 ?_
      refine j_if_eq J 34 (show rg (σ 17 sh) by unfold rg; omega) dX10_join_22 (by decide) (fun (h_3 : (σ 17 sh) = 0) => ?_) (fun (h_3 : ¬ (σ 17 sh) = 0) => ?_)
      · refine j_bipush J (-2) dX10_join_34 (by decide) ?_
        exact fin _ (σ) _ _ _ _ dX10_join_36 rfl (by first | (unfold joinS; (repeat (first | rw [if_pos (by omega)] | rw [if_neg (by omega)])); exact ⟨rfl, Eqp.rf⟩) | (exfalso; omega)) hw
      · refine j_aload_n J dX10_join_25 rfl (lv_at hl 0 rfl) ?_
        refine mg_10_17 J hw lk_X10_59 dX10_join_26 ?_
        refine j_iload_n J dX10_join_29 rfl (lv_at hl 2 rfl) ?_
        refine ma_ld_17 J hw (show 0 ≤ tt ∧ tt < ((6 : Nat) : Int) from by omega) dX10_join_30 ?_
        refine j_if_ne J 37 (show rg (σ 17 tt) by unfold rg; omega) dX10_join_31 (by decide) (fun (h_4 : ¬ (σ 17 tt) = 0) => ?_) (fun (h_4 : (σ 17 tt) = 0) => ?_)
        · refine j_iconst J (0) dX10_join_37 ?_
          refine j_istore_n J (lv' := [(3, .int (I 0)), (0, .ref (ad 0)), (1, .int (I sh)), (2, .int (I tt))]) hl dX10_join_38 rfl (by decide) rfl (fun ls hl => ?_)
          refine j_iconst J (0) dX10_join_39 ?_
          refine j_istore J (lv' := [(4, .int (I 0)), (3, .int (I 0)), (0, .ref (ad 0)), (1, .int (I sh)), (2, .int (I tt))]) hl dX10_join_40 (by decide) rfl (fun ls hl => ?_)
          have L42 : ∀ n : Nat, ∀ (τ : St) (g : Int) (i : Int), (0 ≤ i ∧ i ≤ σ 18 0 * σ 18 1) → (τ = jnS σ sh tt i) → (g = sumI (joinF σ sh tt) i) → ((σ 18 0 * σ 18 1 - i).toNat) < n → ∀ (H : Heap) (locs : List Loc) (ls : Array Slot), jW D (AD ad 45) s.heap (wsM cI cZ ad τ) H locs → lv_has ls 5 [(4, .int (I i)), (0, .ref (ad 0)), (1, .int (I sh)), (2, .int (I tt)), (3, .int (I g))] → W p l e rm_X10_join s m args below meth c H locs 0 0 Q (F0 m 42 ls []) := by
            intro n
            induction n with
            | zero =>
              intro τ g i hi0 hτ hs hm H locs ls hw hl
              exact absurd hm (Nat.not_lt_zero _)
            | succ n ih =>
              intro τ g i hi0 hτ hs hm H locs ls hw hl
              have ih42 := ih
              have d0 : τ 18 0 = σ 18 0 := by rw [hτ]; rfl
              have d1 : τ 18 1 = σ 18 1 := by rw [hτ]; rfl
              have d01 : τ 18 0 * τ 18 1 = σ 18 0 * σ 18 1 := by rw [d0, d1]
              refine j_iload J dX10_join_42 (lv_at hl 0 rfl) ?_
              refine j_aload_n J dX10_join_44 rfl (lv_at hl 1 rfl) ?_
              refine mg_10_0 J hw lk_X10_7 dX10_join_45 ?_
              refine j_aload_n J dX10_join_48 rfl (lv_at hl 1 rfl) ?_
              refine mg_10_1 J hw lk_X10_13 dX10_join_49 ?_
              refine j_imul J dX10_join_52 ?_
              refine j_icmp_ge J 123 (show rg i by unfold rg; omega) (show rg ((τ 18 0) * (τ 18 1)) by unfold rg; omega) dX10_join_53 (by decide) (fun (h_5 : ((τ 18 0) * (τ 18 1)) ≤ i) => ?_) (fun (h_5 : i < ((τ 18 0) * (τ 18 1))) => ?_)
              · refine j_iload_n J dX10_join_123 rfl (lv_at hl 4 rfl) ?_
                exact fin _ (τ) _ _ _ _ dX10_join_124 rfl (by unfold joinS; rw [if_pos (by omega), if_neg (by omega)]; exact ⟨by rw [hs, show i = σ 18 0 * σ 18 1 by omega], by rw [hτ, show i = σ 18 0 * σ 18 1 by omega]; exact Eqp.rf⟩) hw
              · have e1 : τ 16 (sh * 120 + i) = σ 16 (sh * 120 + i) := by rw [hτ]; exact jn_at1
                have e2 : τ 16 (tt * 120 + i) = σ 16 (tt * 120 + i) := by rw [hτ]; exact jn_at2 (by omega)
                have b1 := hB.sheet (sh * 120 + i); have b2 := hB.sheet (tt * 120 + i)
                refine j_aload_n J dX10_join_56 rfl (lv_at hl 1 rfl) ?_
                refine mg_10_18 J hw lk_X10_63 dX10_join_57 ?_
                refine j_bipush J (120) dX10_join_60 (by decide) ?_
                refine j_iload_n J dX10_join_62 rfl (lv_at hl 2 rfl) ?_
                refine j_imul J dX10_join_63 ?_
                refine j_iload J dX10_join_64 (lv_at hl 0 rfl) ?_
                refine j_iadd J dX10_join_66 ?_
                rw [show 120 * sh + i = sh * 120 + i by omega]
                refine ma_ld_16 J hw (show 0 ≤ sh * 120 + i ∧ (sh * 120 + i) < ((720 : Nat) : Int) from by omega) dX10_join_67 ?_
                refine j_bipush J (-4) dX10_join_68 (by decide) ?_
                refine j_icmp_ne J 117 (show rg (τ 16 (sh * 120 + i)) by unfold rg; omega) (by unfold rg; omega) dX10_join_70 (by decide) (fun (h_6 : ¬ (τ 16 (sh * 120 + i)) = (-4)) => ?_) (fun (h_6 : (τ 16 (sh * 120 + i)) = (-4)) => ?_)
                · refine j_iinc J (lv' := [(4, .int (I (i + 1))), (0, .ref (ad 0)), (1, .int (I sh)), (2, .int (I tt)), (3, .int (I g))]) (k := 0) hl dX10_join_117 rfl (by decide) rfl (fun ls hl => ?_)
                  refine j_goto J 42 dX10_join_120 (by decide) ?_
                  exact ih42 τ g (i + 1) (by omega) (by first | exact jn_yes hi0.1 hτ (by omega) (by omega) e2 | exact jn_no hi0.1 hτ (by omega)) (by have hs9 := sumI_step (f := joinF σ sh tt) hi0.1; have e9 : joinF σ sh tt i = (if σ 16 (sh * 120 + i) = -4 ∧ ¬ σ 16 (tt * 120 + i) = -4 then 1 else 0) := rfl; rw [e9] at hs9; (try split at hs9) <;> omega) (by omega) _ _ _ hw (lv_sub hl [0, 1, 2, 3, 4] rfl)
                · refine j_aload_n J dX10_join_73 rfl (lv_at hl 1 rfl) ?_
                  refine mg_10_18 J hw lk_X10_63 dX10_join_74 ?_
                  refine j_bipush J (120) dX10_join_77 (by decide) ?_
                  refine j_iload_n J dX10_join_79 rfl (lv_at hl 3 rfl) ?_
                  refine j_imul J dX10_join_80 ?_
                  refine j_iload J dX10_join_81 (lv_at hl 0 rfl) ?_
                  refine j_iadd J dX10_join_83 ?_
                  rw [show 120 * tt + i = tt * 120 + i by omega]
                  refine ma_ld_16 J hw (show 0 ≤ tt * 120 + i ∧ (tt * 120 + i) < ((720 : Nat) : Int) from by omega) dX10_join_84 ?_
                  refine j_bipush J (-4) dX10_join_85 (by decide) ?_
                  refine j_icmp_eq J 117 (show rg (τ 16 (tt * 120 + i)) by unfold rg; omega) (by unfold rg; omega) dX10_join_87 (by decide) (fun (h_7 : (τ 16 (tt * 120 + i)) = (-4)) => ?_) (fun (h_7 : ¬ (τ 16 (tt * 120 + i)) = (-4)) => ?_)
                  · refine j_iinc J (lv' := [(4, .int (I (i + 1))), (0, .ref (ad 0)), (1, .int (I sh)), (2, .int (I tt)), (3, .int (I g))]) (k := 0) hl dX10_join_117 rfl (by decide) rfl (fun ls hl => ?_)
                    refine j_goto J 42 dX10_join_120 (by decide) ?_
                    exact ih42 τ g (i + 1) (by omega) (by first | exact jn_yes hi0.1 hτ (by omega) (by omega) e2 | exact jn_no hi0.1 hτ (by omega)) (by have hs9 := sumI_step (f := joinF σ sh tt) hi0.1; have e9 : joinF σ sh tt i = (if σ 16 (sh * 120 + i) = -4 ∧ ¬ σ 16 (tt * 120 + i) = -4 then 1 else 0) := rfl; rw [e9] at hs9; (try split at hs9) <;> omega) (by omega) _ _ _ hw (lv_sub hl [0, 1, 2, 3, 4] rfl)
                  · refine j_aload_n J dX10_join_90 rfl (lv_at hl 1 rfl) ?_
                    refine mg_10_18 J hw lk_X10_63 dX10_join_91 ?_
                    refine j_bipush J (120) dX10_join_94 (by decide) ?_
                    refine j_iload_n J dX10_join_96 rfl (lv_at hl 2 rfl) ?_
                    refine j_imul J dX10_join_97 ?_
                    refine j_iload J dX10_join_98 (lv_at hl 0 rfl) ?_
                    refine j_iadd J dX10_join_100 ?_
                    rw [show 120 * sh + i = sh * 120 + i by omega]
                    refine j_aload_n J dX10_join_101 rfl (lv_at hl 1 rfl) ?_
                    refine mg_10_18 J hw lk_X10_63 dX10_join_102 ?_
                    refine j_bipush J (120) dX10_join_105 (by decide) ?_
                    refine j_iload_n J dX10_join_107 rfl (lv_at hl 3 rfl) ?_
                    refine j_imul J dX10_join_108 ?_
                    refine j_iload J dX10_join_109 (lv_at hl 0 rfl) ?_
                    refine j_iadd J dX10_join_111 ?_
                    rw [show 120 * tt + i = tt * 120 + i by omega]
                    refine ma_ld_16 J hw (show 0 ≤ tt * 120 + i ∧ (tt * 120 + i) < ((720 : Nat) : Int) from by omega) dX10_join_112 ?_
                    refine ma_st_16 J hw (show 0 ≤ sh * 120 + i ∧ (sh * 120 + i) < ((720 : Nat) : Int) from by omega) dX10_join_113 (fun H locs hw => ?_)
                    refine j_iinc J (lv' := [(3, .int (I (g + 1))), (4, .int (I i)), (0, .ref (ad 0)), (1, .int (I sh)), (2, .int (I tt))]) (k := 4) hl dX10_join_114 rfl (by decide) rfl (fun ls hl => ?_)
                    refine j_iinc J (lv' := [(4, .int (I (i + 1))), (3, .int (I (g + 1))), (0, .ref (ad 0)), (1, .int (I sh)), (2, .int (I tt))]) (k := 1) hl dX10_join_117 rfl (by decide) rfl (fun ls hl => ?_)
                    refine j_goto J 42 dX10_join_120 (by decide) ?_
                    exact ih42 (st τ 16 (sh * 120 + i) (τ 16 (tt * 120 + i))) (g + 1) (i + 1) (by omega) (by first | exact jn_yes hi0.1 hτ (by omega) (by omega) e2 | exact jn_no hi0.1 hτ (by omega)) (by have hs9 := sumI_step (f := joinF σ sh tt) hi0.1; have e9 : joinF σ sh tt i = (if σ 16 (sh * 120 + i) = -4 ∧ ¬ σ 16 (tt * 120 + i) = -4 then 1 else 0) := rfl; rw [e9] at hs9; (try split at hs9) <;> omega) (by omega) _ _ _ hw (lv_sub hl [0, 2, 3, 4, 1] rfl)
          exact L42 _ σ 0 0 (by omega) (jnS_0.symm) (sumI_0.symm) (Nat.lt_succ_self _) _ _ _ hw (lv_sub hl [0, 2, 3, 4, 1] rfl)
        · refine j_bipush J (-2) dX10_join_34 (by decide) ?_
          exact fin _ (σ) _ _ _ _ dX10_join_36 rfl (by first | (unfold joinS; (repeat (first | rw [if_pos (by omega)] | rw [if_neg (by omega)])); exact ⟨rfl, Eqp.rf⟩) | (exfalso; omega)) hw
    · refine j_iconst J (-1) dX10_join_14 ?_
      exact fin _ (σ) _ _ _ _ dX10_join_15 rfl (by first | (unfold joinS; (repeat (first | rw [if_pos (by omega)] | rw [if_neg (by omega)])); exact ⟨rfl, Eqp.rf⟩) | (exfalso; omega)) hw
theorem k_X10_join {p : Program} {l : Launch} {e : Env} {R : Room} {s : State} {m : MethodId} {args : Array Value} {below : List Frame} {meth : Method} {c : Code} {H : Heap} {locs : List Loc} {Q : State → Prop} {cc : ByteArray} {pc : Nat} {ls : Array Slot} {rest : List Value} {nL : Nat} {own : String} {D : va_G} {σ : St} {cI cZ : ClassId} {ad : Nat → Nat} {index : Nat} {sh tt : Int} (hD : ∀ τ, va_D (AD ad 45) (wsM cI cZ ad τ)) (hB : Bd σ) (r_sh : rg sh) (r_tt : rg tt) (J : Jx p m c cc nL s args own D [(cI, .int), (cZ, .boolean)] (AD ad 45) (wsM cI cZ ad)) (hw : jW D (AD ad 45) s.heap (wsM cI cZ ad σ) H locs) (hsz : ls.size = nL) (hlk : Cond.methodLink own index yX10_join ∈ TBw) (hR : 3 ≤ R.frames ∧ 66 ≤ R.locals) (hroom : (rest.map fun v => v.category).sum ≤ 8) (hdg : decode cc pc = .ok (.invokevirtual index, 3)) (kk : ∀ (r : Int) (τ : St) (H1 : Heap) (locs1 : List Loc), (fun r τ => r = (joinS σ sh tt).1 ∧ Eqp τ (joinS σ sh tt).2) r τ → jW D (AD ad 45) s.heap (wsM cI cZ ad τ) H1 locs1 → W p l e R s m args below meth c H1 locs1 0 0 Q (F0 m (pc + 3) ls (.int (I r) :: rest))) : W p l e R s m args below meth c H locs 0 0 Q (F0 m pc ls (.int (I tt) :: .int (I sh) :: .ref (ad 0) :: rest)) := 
  j_callVi J hw (c_X10_join  hD hB r_sh r_tt) hlk in_X10_join se_X10_join ini_X10 co_X10_join (n := 2) (by decide +kernel) ⟨rfl, rfl, hR.1, hR.2⟩ (j := 0) (ci := 10) rfl rfl rfl rfl hroom hsz ⟨Nat.zero_le _, Nat.zero_le _⟩ rfl hdg kk
def rm_X10_between : Room := { frames := 2, cells := 0, slots := 0, locals := 42 }
set_option maxHeartbeats 4000000 in
set_option maxRecDepth 100000 in
theorem c_X10_between {l : Launch} {D : va_G} {cI cZ : ClassId} {ad : Nat → Nat} {σ : St} {sh tt wh : Int} (hD : ∀ τ, va_D (AD ad 45) (wsM cI cZ ad τ)) (hB : Bd σ) (r_sh : rg sh) (r_tt : rg tt) (r_wh : rg wh) : JMi l yX10_between cX10_between 10 (some .int) rm_X10_between D [(cI, .int), (cZ, .boolean)] (AD ad 45) (wsM cI cZ ad) [.ref (ad 0), .int (I sh), .int (I tt), .int (I wh)] σ (fun r τ => r = (betweenS σ sh tt wh).1 ∧ Eqp τ (betweenS σ sh tt wh).2) := by
  refine JMi.of RX10 (by decide +kernel) rfl (Nat.le_of_ble_eq_true rfl) hD ?_
  intro p e s m args below meth c Q J fin H ls hw hl
  generalize ([] : List Loc) = locs at hw ⊢
  have hl : lv_has ls 10 [(0, .ref (ad 0)), (1, .int (I sh)), (2, .int (I tt)), (3, .int (I wh))] := hl
  have hd : Dim _ := hB.dim
  have hd1 := hd.1; have hd2 := hd.2.1; have hd3 := hd.2.2.1; have hd4 := hd.2.2.2; have hm := hd.mul
  have u_sh := r_sh; unfold rg at u_sh
  have u_tt := r_tt; unfold rg at u_tt
  have u_wh := r_wh; unfold rg at u_wh
  have b17 := hB.taken sh; have b18 := hB.taken tt; have bo := hB.over
  refine j_iload_n J dX10_between_0 rfl (lv_at hl 1 rfl) ?_
  refine k_X10_isSix (sh := sh) (σ := σ) hD (show rg sh from by unfold rg; omega) J hw hl.1 lk_X10_129 ⟨Nat.le_of_ble_eq_true rfl, Nat.le_of_ble_eq_true rfl⟩ (Nat.le_of_ble_eq_true rfl) dX10_between_1 (fun H locs hw => ?_)
  refine j_ifeqB J 23 dX10_between_4 (by decide) (fun (h_1 : ¬ (0 ≤ sh ∧ sh ≤ 5)) => ?_) (fun (h_1 : 0 ≤ sh ∧ sh ≤ 5) => ?_)
  · refine j_ldc J (-1000001) lk_X10_132 dX10_between_23 ?_
    exact fin _ (σ) _ _ _ _ dX10_between_25 rfl (by first | (unfold betweenS; (repeat (first | rw [if_pos (by omega)] | rw [if_neg (by omega)])); exact ⟨rfl, Eqp.rf⟩) | (exfalso; omega)) hw
  · refine j_iload_n J dX10_between_7 rfl (lv_at hl 2 rfl) ?_
    refine k_X10_isSix (sh := tt) (σ := σ) hD (show rg tt from by unfold rg; omega) J hw hl.1 lk_X10_129 ⟨Nat.le_of_ble_eq_true rfl, Nat.le_of_ble_eq_true rfl⟩ (Nat.le_of_ble_eq_true rfl) dX10_between_8 (fun H locs hw => ?_)
    refine j_ifeqB J 23 dX10_between_11 (by decide) (fun (h_2 : ¬ (0 ≤ tt ∧ tt ≤ 5)) => ?_) (fun (h_2 : 0 ≤ tt ∧ tt ≤ 5) => ?_)
    · refine j_ldc J (-1000001) lk_X10_132 dX10_between_23 ?_
      exact fin _ (σ) _ _ _ _ dX10_between_25 rfl (by first | (unfold betweenS; (repeat (first | rw [if_pos (by omega)] | rw [if_neg (by omega)])); exact ⟨rfl, Eqp.rf⟩) | (exfalso; omega)) hw
    · refine j_iload_n J dX10_between_14 rfl (lv_at hl 3 rfl) ?_
      refine j_iconst J (0) dX10_between_15 ?_
      refine j_iconst J (2) dX10_between_16 ?_
      refine k_X10_in (v := wh) (lo := 0) (hi := 2) (σ := σ) hD (show rg wh from by unfold rg; omega) (show rg 0 from by unfold rg; omega) (show rg 2 from by unfold rg; omega) J hw hl.1 lk_X10_69 ⟨Nat.le_of_ble_eq_true rfl, Nat.le_of_ble_eq_true rfl⟩ (Nat.le_of_ble_eq_true rfl) dX10_between_17 (fun H locs hw => ?_)
      refine j_ifneB J 26 dX10_between_20 (by decide) (fun (h_3 : 0 ≤ wh ∧ wh ≤ 2) => ?_) (fun (h_3 : ¬ (0 ≤ wh ∧ wh ≤ 2)) => ?_)
      · refine j_aload_n J dX10_between_26 rfl (lv_at hl 0 rfl) ?_
        refine mg_10_17 J hw lk_X10_59 dX10_between_27 ?_
        refine j_iload_n J dX10_between_30 rfl (lv_at hl 1 rfl) ?_
        refine ma_ld_17 J hw (show 0 ≤ sh ∧ sh < ((6 : Nat) : Int) from by omega) dX10_between_31 ?_
        refine j_if_eq J 44 (show rg (σ 17 sh) by unfold rg; omega) dX10_between_32 (by decide) (fun (h_4 : (σ 17 sh) = 0) => ?_) (fun (h_4 : ¬ (σ 17 sh) = 0) => ?_)
        · refine j_ldc J (-1000002) lk_X10_133 dX10_between_44 ?_
          exact fin _ (σ) _ _ _ _ dX10_between_46 rfl (by first | (unfold betweenS; (repeat (first | rw [if_pos (by omega)] | rw [if_neg (by omega)])); exact ⟨rfl, Eqp.rf⟩) | (exfalso; omega)) hw
        · refine j_aload_n J dX10_between_35 rfl (lv_at hl 0 rfl) ?_
          refine mg_10_17 J hw lk_X10_59 dX10_between_36 ?_
          refine j_iload_n J dX10_between_39 rfl (lv_at hl 2 rfl) ?_
          refine ma_ld_17 J hw (show 0 ≤ tt ∧ tt < ((6 : Nat) : Int) from by omega) dX10_between_40 ?_
          refine j_if_ne J 47 (show rg (σ 17 tt) by unfold rg; omega) dX10_between_41 (by decide) (fun (h_5 : ¬ (σ 17 tt) = 0) => ?_) (fun (h_5 : (σ 17 tt) = 0) => ?_)
          · refine j_iconst J (0) dX10_between_47 ?_
            refine j_istore J (lv' := [(4, .int (I 0)), (0, .ref (ad 0)), (1, .int (I sh)), (2, .int (I tt)), (3, .int (I wh))]) hl dX10_between_48 (by decide) rfl (fun ls hl => ?_)
            refine j_iconst J (0) dX10_between_50 ?_
            refine j_istore J (lv' := [(5, .int (I 0)), (4, .int (I 0)), (0, .ref (ad 0)), (1, .int (I sh)), (2, .int (I tt)), (3, .int (I wh))]) hl dX10_between_51 (by decide) rfl (fun ls hl => ?_)
            have L53 : ∀ n : Nat, ∀ (g : Int) (i : Int), (0 ≤ i ∧ i ≤ σ 18 0 * σ 18 1) → (g = sumI (btF σ sh tt wh) i) → ((σ 18 0 * σ 18 1 - i).toNat) < n → ∀ (H : Heap) (locs : List Loc) (ls : Array Slot), jW D (AD ad 45) s.heap (wsM cI cZ ad σ) H locs → lv_has ls 10 [(5, .int (I i)), (0, .ref (ad 0)), (1, .int (I sh)), (2, .int (I tt)), (3, .int (I wh)), (4, .int (I g))] → W p l e rm_X10_between s m args below meth c H locs 0 0 Q (F0 m 53 ls []) := by
              intro n
              induction n with
              | zero =>
                intro g i hi0 hs hm H locs ls hw hl
                exact absurd hm (Nat.not_lt_zero _)
              | succ n ih =>
                intro g i hi0 hs hm H locs ls hw hl
                have ih53 := ih
                refine j_iload J dX10_between_53 (lv_at hl 0 rfl) ?_
                refine j_aload_n J dX10_between_55 rfl (lv_at hl 1 rfl) ?_
                refine mg_10_0 J hw lk_X10_7 dX10_between_56 ?_
                refine j_aload_n J dX10_between_59 rfl (lv_at hl 1 rfl) ?_
                refine mg_10_1 J hw lk_X10_13 dX10_between_60 ?_
                refine j_imul J dX10_between_63 ?_
                refine j_icmp_ge J 269 (show rg i by unfold rg; omega) (show rg ((σ 18 0) * (σ 18 1)) by unfold rg; omega) dX10_between_64 (by decide) (fun (h_6 : ((σ 18 0) * (σ 18 1)) ≤ i) => ?_) (fun (h_6 : i < ((σ 18 0) * (σ 18 1))) => ?_)
                · refine j_iload J dX10_between_269 (lv_at hl 5 rfl) ?_
                  exact fin _ (σ) _ _ _ _ dX10_between_271 rfl (by unfold betweenS; rw [if_pos (by omega), if_neg (by omega)]; rcases (show wh = 0 ∨ wh = 1 ∨ wh = 2 by omega) with q | q | q; (rw [if_pos q]; exact ⟨by rw [hs, show i = σ 18 0 * σ 18 1 by omega, btF_0 q], Eqp.rf⟩); (rw [if_neg (by omega), if_pos q]; exact ⟨by rw [hs, show i = σ 18 0 * σ 18 1 by omega, btF_1 q], Eqp.rf⟩); (rw [if_neg (by omega), if_neg (by omega)]; exact ⟨by rw [hs, show i = σ 18 0 * σ 18 1 by omega, btF_2 q], Eqp.rf⟩)) hw
                · have b1 := hB.sheet (sh * 120 + i); have b2 := hB.sheet (tt * 120 + i); have b3 := hB.design i
                  refine j_aload_n J dX10_between_67 rfl (lv_at hl 1 rfl) ?_
                  refine mg_10_18 J hw lk_X10_63 dX10_between_68 ?_
                  refine j_bipush J (120) dX10_between_71 (by decide) ?_
                  refine j_iload_n J dX10_between_73 rfl (lv_at hl 2 rfl) ?_
                  refine j_imul J dX10_between_74 ?_
                  refine j_iload J dX10_between_75 (lv_at hl 0 rfl) ?_
                  refine j_iadd J dX10_between_77 ?_
                  rw [show 120 * sh + i = sh * 120 + i by omega]
                  refine ma_ld_16 J hw (show 0 ≤ sh * 120 + i ∧ (sh * 120 + i) < ((720 : Nat) : Int) from by omega) dX10_between_78 ?_
                  refine j_istore J (lv' := [(6, .int (I (σ 16 (sh * 120 + i)))), (5, .int (I i)), (0, .ref (ad 0)), (1, .int (I sh)), (2, .int (I tt)), (3, .int (I wh)), (4, .int (I g))]) hl dX10_between_79 (by decide) rfl (fun ls hl => ?_)
                  refine j_aload_n J dX10_between_81 rfl (lv_at hl 2 rfl) ?_
                  refine mg_10_18 J hw lk_X10_63 dX10_between_82 ?_
                  refine j_bipush J (120) dX10_between_85 (by decide) ?_
                  refine j_iload_n J dX10_between_87 rfl (lv_at hl 4 rfl) ?_
                  refine j_imul J dX10_between_88 ?_
                  refine j_iload J dX10_between_89 (lv_at hl 1 rfl) ?_
                  refine j_iadd J dX10_between_91 ?_
                  rw [show 120 * tt + i = tt * 120 + i by omega]
                  refine ma_ld_16 J hw (show 0 ≤ tt * 120 + i ∧ (tt * 120 + i) < ((720 : Nat) : Int) from by omega) dX10_between_92 ?_
                  refine j_istore J (lv' := [(7, .int (I (σ 16 (tt * 120 + i)))), (6, .int (I (σ 16 (sh * 120 + i)))), (5, .int (I i)), (0, .ref (ad 0)), (1, .int (I sh)), (2, .int (I tt)), (3, .int (I wh)), (4, .int (I g))]) hl dX10_between_93 (by decide) rfl (fun ls hl => ?_)
                  refine j_iload J dX10_between_95 (lv_at hl 1 rfl) ?_
                  refine j_bipush J (-4) dX10_between_97 (by decide) ?_
                  refine j_icmp_eq J 113 (show rg (σ 16 (sh * 120 + i)) by unfold rg; omega) (by unfold rg; omega) dX10_between_99 (by decide) (fun (h_7 : (σ 16 (sh * 120 + i)) = (-4)) => ?_) (fun (h_7 : ¬ (σ 16 (sh * 120 + i)) = (-4)) => ?_)
                  · refine j_iconst J (0) dX10_between_113 ?_
                    refine j_istore J (lv' := [(8, .int (I 0)), (7, .int (I (σ 16 (tt * 120 + i)))), (6, .int (I (σ 16 (sh * 120 + i)))), (5, .int (I i)), (0, .ref (ad 0)), (1, .int (I sh)), (2, .int (I tt)), (3, .int (I wh)), (4, .int (I g))]) hl dX10_between_114 (by decide) rfl (fun ls hl => ?_)
                    refine j_iload_n J dX10_between_116 rfl (lv_at hl 7 rfl) ?_
                    refine j_if_ne J 142 (show rg wh by unfold rg; omega) dX10_between_117 (by decide) (fun (h_8 : ¬ wh = 0) => ?_) (fun (h_8 : wh = 0) => ?_)
                    · refine j_iload_n J dX10_between_142 rfl (lv_at hl 7 rfl) ?_
                      refine j_iconst J (1) dX10_between_143 ?_
                      refine j_icmp_ne J 238 (show rg wh by unfold rg; omega) (by unfold rg; omega) dX10_between_144 (by decide) (fun (h_9 : ¬ wh = 1) => ?_) (fun (h_9 : wh = 1) => ?_)
                      · refine j_iload J dX10_between_238 (lv_at hl 8 rfl) ?_
                        refine j_aload_n J dX10_between_240 rfl (lv_at hl 4 rfl) ?_
                        refine mg_10_3 J hw lk_X10_20 dX10_between_241 ?_
                        refine j_iload J dX10_between_244 (lv_at hl 3 rfl) ?_
                        refine ma_ld_2 J hw (show 0 ≤ i ∧ i < ((120 : Nat) : Int) from by omega) dX10_between_246 ?_
                        refine j_if_le J 259 (show rg (σ 2 i) by unfold rg; omega) dX10_between_247 (by decide) (fun (h_10 : (σ 2 i) ≤ 0) => ?_) (fun (h_10 : 0 < (σ 2 i)) => ?_)
                        · refine j_iconst J (0) dX10_between_259 ?_
                          refine j_iadd J dX10_between_260 ?_
                          refine j_istore J (lv' := [(4, .int (I (g + 0))), (8, .int (I 0)), (7, .int (I (σ 16 (tt * 120 + i)))), (6, .int (I (σ 16 (sh * 120 + i)))), (5, .int (I i)), (0, .ref (ad 0)), (1, .int (I sh)), (2, .int (I tt)), (3, .int (I wh))]) hl dX10_between_261 (by decide) rfl (fun ls hl => ?_)
                          refine j_iinc J (lv' := [(5, .int (I (i + 1))), (4, .int (I (g + 0))), (8, .int (I 0)), (7, .int (I (σ 16 (tt * 120 + i)))), (6, .int (I (σ 16 (sh * 120 + i)))), (0, .ref (ad 0)), (1, .int (I sh)), (2, .int (I tt)), (3, .int (I wh))]) (k := 4) hl dX10_between_263 rfl (by decide) rfl (fun ls hl => ?_)
                          refine j_goto J 53 dX10_between_266 (by decide) ?_
                          exact ih53 (g + 0) (i + 1) (by omega) (by have hs9 := sumI_step (f := btF σ sh tt wh) hi0.1; first | (have e9 := btF0 (σ := σ) (sh := sh) (tt := tt) (i := i) (show wh = 0 by omega); rw [e9] at hs9; (try split at hs9) <;> omega) | (have e9 := btF1 (σ := σ) (sh := sh) (tt := tt) (i := i) (show wh = 1 by omega); rw [e9] at hs9; (try split at hs9) <;> omega) | (have e9 := btF2 (σ := σ) (sh := sh) (tt := tt) (i := i) (show wh = 2 by omega); rw [e9] at hs9; (try split at hs9) <;> omega)) (by omega) _ _ _ hw (lv_sub hl [0, 5, 6, 7, 8, 1] rfl)
                        · refine j_iload J dX10_between_250 (lv_at hl 0 rfl) ?_
                          refine j_if_ne J 259 (by unfold rg; omega) dX10_between_252 (by decide) (fun (h_11 : ¬ 0 = 0) => absurd h_11 (by omega)) (fun (h_11 : 0 = 0) => ?_)
                          refine j_iconst J (1) dX10_between_255 ?_
                          refine j_goto J 260 dX10_between_256 (by decide) ?_
                          refine j_iadd J dX10_between_260 ?_
                          refine j_istore J (lv' := [(4, .int (I (g + 1))), (8, .int (I 0)), (7, .int (I (σ 16 (tt * 120 + i)))), (6, .int (I (σ 16 (sh * 120 + i)))), (5, .int (I i)), (0, .ref (ad 0)), (1, .int (I sh)), (2, .int (I tt)), (3, .int (I wh))]) hl dX10_between_261 (by decide) rfl (fun ls hl => ?_)
                          refine j_iinc J (lv' := [(5, .int (I (i + 1))), (4, .int (I (g + 1))), (8, .int (I 0)), (7, .int (I (σ 16 (tt * 120 + i)))), (6, .int (I (σ 16 (sh * 120 + i)))), (0, .ref (ad 0)), (1, .int (I sh)), (2, .int (I tt)), (3, .int (I wh))]) (k := 4) hl dX10_between_263 rfl (by decide) rfl (fun ls hl => ?_)
                          refine j_goto J 53 dX10_between_266 (by decide) ?_
                          exact ih53 (g + 1) (i + 1) (by omega) (by have hs9 := sumI_step (f := btF σ sh tt wh) hi0.1; first | (have e9 := btF0 (σ := σ) (sh := sh) (tt := tt) (i := i) (show wh = 0 by omega); rw [e9] at hs9; (try split at hs9) <;> omega) | (have e9 := btF1 (σ := σ) (sh := sh) (tt := tt) (i := i) (show wh = 1 by omega); rw [e9] at hs9; (try split at hs9) <;> omega) | (have e9 := btF2 (σ := σ) (sh := sh) (tt := tt) (i := i) (show wh = 2 by omega); rw [e9] at hs9; (try split at hs9) <;> omega)) (by omega) _ _ _ hw (lv_sub hl [0, 5, 6, 7, 8, 1] rfl)
                      · refine j_iload J dX10_between_147 (lv_at hl 1 rfl) ?_
                        refine j_aload_n J dX10_between_149 rfl (lv_at hl 4 rfl) ?_
                        refine mg_10_3 J hw lk_X10_20 dX10_between_150 ?_
                        refine j_iload J dX10_between_153 (lv_at hl 3 rfl) ?_
                        refine ma_ld_2 J hw (show 0 ≤ i ∧ i < ((120 : Nat) : Int) from by omega) dX10_between_155 ?_
                        refine j_aload_n J dX10_between_156 rfl (lv_at hl 4 rfl) ?_
                        refine mg_10_7 J hw lk_X10_32 dX10_between_157 ?_
                        refine j_iconst J (0) dX10_between_160 ?_
                        refine ma_ld_0 J hw (show 0 ≤ 0 ∧ 0 < ((5 : Nat) : Int) from by omega) dX10_between_161 ?_
                        refine j_iadd J dX10_between_162 ?_
                        refine j_icmp_ge J 171 (show rg (σ 16 (tt * 120 + i)) by unfold rg; omega) (show rg ((σ 2 i) + (σ 0 0)) by unfold rg; omega) dX10_between_163 (by decide) (fun (h_12 : ((σ 2 i) + (σ 0 0)) ≤ (σ 16 (tt * 120 + i))) => ?_) (fun (h_12 : (σ 16 (tt * 120 + i)) < ((σ 2 i) + (σ 0 0))) => ?_)
                        · refine j_aload_n J dX10_between_171 rfl (lv_at hl 4 rfl) ?_
                          refine mg_10_3 J hw lk_X10_20 dX10_between_172 ?_
                          refine j_iload J dX10_between_175 (lv_at hl 3 rfl) ?_
                          refine ma_ld_2 J hw (show 0 ≤ i ∧ i < ((120 : Nat) : Int) from by omega) dX10_between_177 ?_
                          refine j_aload_n J dX10_between_178 rfl (lv_at hl 4 rfl) ?_
                          refine mg_10_7 J hw lk_X10_32 dX10_between_179 ?_
                          refine j_iconst J (0) dX10_between_182 ?_
                          refine ma_ld_0 J hw (show 0 ≤ 0 ∧ 0 < ((5 : Nat) : Int) from by omega) dX10_between_183 ?_
                          refine j_iadd J dX10_between_184 ?_
                          refine j_istore J (lv' := [(9, .int (I ((σ 2 i) + (σ 0 0)))), (8, .int (I 0)), (7, .int (I (σ 16 (tt * 120 + i)))), (6, .int (I (σ 16 (sh * 120 + i)))), (5, .int (I i)), (0, .ref (ad 0)), (1, .int (I sh)), (2, .int (I tt)), (3, .int (I wh)), (4, .int (I g))]) hl dX10_between_185 (by decide) rfl (fun ls hl => ?_)
                          refine j_iload J dX10_between_187 (lv_at hl 9 rfl) ?_
                          refine j_iload J dX10_between_189 (lv_at hl 1 rfl) ?_
                          refine j_if_eq J 231 (by unfold rg; omega) dX10_between_191 (by decide) (fun (h_13 : 0 = 0) => ?_) (fun (h_13 : ¬ 0 = 0) => absurd h_13 (by omega))
                          refine j_iconst J (0) dX10_between_231 ?_
                          refine j_iadd J dX10_between_232 ?_
                          refine j_istore J (lv' := [(4, .int (I (g + 0))), (9, .int (I ((σ 2 i) + (σ 0 0)))), (8, .int (I 0)), (7, .int (I (σ 16 (tt * 120 + i)))), (6, .int (I (σ 16 (sh * 120 + i)))), (5, .int (I i)), (0, .ref (ad 0)), (1, .int (I sh)), (2, .int (I tt)), (3, .int (I wh))]) hl dX10_between_233 (by decide) rfl (fun ls hl => ?_)
                          refine j_goto J 263 dX10_between_235 (by decide) ?_
                          refine j_iinc J (lv' := [(5, .int (I (i + 1))), (4, .int (I (g + 0))), (9, .int (I ((σ 2 i) + (σ 0 0)))), (8, .int (I 0)), (7, .int (I (σ 16 (tt * 120 + i)))), (6, .int (I (σ 16 (sh * 120 + i)))), (0, .ref (ad 0)), (1, .int (I sh)), (2, .int (I tt)), (3, .int (I wh))]) (k := 5) hl dX10_between_263 rfl (by decide) rfl (fun ls hl => ?_)
                          refine j_goto J 53 dX10_between_266 (by decide) ?_
                          exact ih53 (g + 0) (i + 1) (by omega) (by have hs9 := sumI_step (f := btF σ sh tt wh) hi0.1; first | (have e9 := btF0 (σ := σ) (sh := sh) (tt := tt) (i := i) (show wh = 0 by omega); rw [e9] at hs9; (try split at hs9) <;> omega) | (have e9 := btF1 (σ := σ) (sh := sh) (tt := tt) (i := i) (show wh = 1 by omega); rw [e9] at hs9; (try split at hs9) <;> omega) | (have e9 := btF2 (σ := σ) (sh := sh) (tt := tt) (i := i) (show wh = 2 by omega); rw [e9] at hs9; (try split at hs9) <;> omega)) (by omega) _ _ _ hw (lv_sub hl [0, 6, 7, 8, 9, 1] rfl)
                        · refine j_iload J dX10_between_166 (lv_at hl 1 rfl) ?_
                          refine j_goto J 185 dX10_between_168 (by decide) ?_
                          refine j_istore J (lv' := [(9, .int (I (σ 16 (tt * 120 + i)))), (8, .int (I 0)), (7, .int (I (σ 16 (tt * 120 + i)))), (6, .int (I (σ 16 (sh * 120 + i)))), (5, .int (I i)), (0, .ref (ad 0)), (1, .int (I sh)), (2, .int (I tt)), (3, .int (I wh)), (4, .int (I g))]) hl dX10_between_185 (by decide) rfl (fun ls hl => ?_)
                          refine j_iload J dX10_between_187 (lv_at hl 9 rfl) ?_
                          refine j_iload J dX10_between_189 (lv_at hl 1 rfl) ?_
                          refine j_if_eq J 231 (by unfold rg; omega) dX10_between_191 (by decide) (fun (h_14 : 0 = 0) => ?_) (fun (h_14 : ¬ 0 = 0) => absurd h_14 (by omega))
                          refine j_iconst J (0) dX10_between_231 ?_
                          refine j_iadd J dX10_between_232 ?_
                          refine j_istore J (lv' := [(4, .int (I (g + 0))), (9, .int (I (σ 16 (tt * 120 + i)))), (8, .int (I 0)), (7, .int (I (σ 16 (tt * 120 + i)))), (6, .int (I (σ 16 (sh * 120 + i)))), (5, .int (I i)), (0, .ref (ad 0)), (1, .int (I sh)), (2, .int (I tt)), (3, .int (I wh))]) hl dX10_between_233 (by decide) rfl (fun ls hl => ?_)
                          refine j_goto J 263 dX10_between_235 (by decide) ?_
                          refine j_iinc J (lv' := [(5, .int (I (i + 1))), (4, .int (I (g + 0))), (9, .int (I (σ 16 (tt * 120 + i)))), (8, .int (I 0)), (7, .int (I (σ 16 (tt * 120 + i)))), (6, .int (I (σ 16 (sh * 120 + i)))), (0, .ref (ad 0)), (1, .int (I sh)), (2, .int (I tt)), (3, .int (I wh))]) (k := 5) hl dX10_between_263 rfl (by decide) rfl (fun ls hl => ?_)
                          refine j_goto J 53 dX10_between_266 (by decide) ?_
                          exact ih53 (g + 0) (i + 1) (by omega) (by have hs9 := sumI_step (f := btF σ sh tt wh) hi0.1; first | (have e9 := btF0 (σ := σ) (sh := sh) (tt := tt) (i := i) (show wh = 0 by omega); rw [e9] at hs9; (try split at hs9) <;> omega) | (have e9 := btF1 (σ := σ) (sh := sh) (tt := tt) (i := i) (show wh = 1 by omega); rw [e9] at hs9; (try split at hs9) <;> omega) | (have e9 := btF2 (σ := σ) (sh := sh) (tt := tt) (i := i) (show wh = 2 by omega); rw [e9] at hs9; (try split at hs9) <;> omega)) (by omega) _ _ _ hw (lv_sub hl [0, 6, 7, 8, 9, 1] rfl)
                    · refine j_iload J dX10_between_120 (lv_at hl 8 rfl) ?_
                      refine j_iload J dX10_between_122 (lv_at hl 0 rfl) ?_
                      refine j_if_eq J 135 (by unfold rg; omega) dX10_between_124 (by decide) (fun (h_15 : 0 = 0) => ?_) (fun (h_15 : ¬ 0 = 0) => absurd h_15 (by omega))
                      refine j_iconst J (0) dX10_between_135 ?_
                      refine j_iadd J dX10_between_136 ?_
                      refine j_istore J (lv' := [(4, .int (I (g + 0))), (8, .int (I 0)), (7, .int (I (σ 16 (tt * 120 + i)))), (6, .int (I (σ 16 (sh * 120 + i)))), (5, .int (I i)), (0, .ref (ad 0)), (1, .int (I sh)), (2, .int (I tt)), (3, .int (I wh))]) hl dX10_between_137 (by decide) rfl (fun ls hl => ?_)
                      refine j_goto J 263 dX10_between_139 (by decide) ?_
                      refine j_iinc J (lv' := [(5, .int (I (i + 1))), (4, .int (I (g + 0))), (8, .int (I 0)), (7, .int (I (σ 16 (tt * 120 + i)))), (6, .int (I (σ 16 (sh * 120 + i)))), (0, .ref (ad 0)), (1, .int (I sh)), (2, .int (I tt)), (3, .int (I wh))]) (k := 4) hl dX10_between_263 rfl (by decide) rfl (fun ls hl => ?_)
                      refine j_goto J 53 dX10_between_266 (by decide) ?_
                      exact ih53 (g + 0) (i + 1) (by omega) (by have hs9 := sumI_step (f := btF σ sh tt wh) hi0.1; first | (have e9 := btF0 (σ := σ) (sh := sh) (tt := tt) (i := i) (show wh = 0 by omega); rw [e9] at hs9; (try split at hs9) <;> omega) | (have e9 := btF1 (σ := σ) (sh := sh) (tt := tt) (i := i) (show wh = 1 by omega); rw [e9] at hs9; (try split at hs9) <;> omega) | (have e9 := btF2 (σ := σ) (sh := sh) (tt := tt) (i := i) (show wh = 2 by omega); rw [e9] at hs9; (try split at hs9) <;> omega)) (by omega) _ _ _ hw (lv_sub hl [0, 5, 6, 7, 8, 1] rfl)
                  · refine j_iload J dX10_between_102 (lv_at hl 0 rfl) ?_
                    refine j_bipush J (-4) dX10_between_104 (by decide) ?_
                    refine j_icmp_eq J 113 (show rg (σ 16 (tt * 120 + i)) by unfold rg; omega) (by unfold rg; omega) dX10_between_106 (by decide) (fun (h_16 : (σ 16 (tt * 120 + i)) = (-4)) => ?_) (fun (h_16 : ¬ (σ 16 (tt * 120 + i)) = (-4)) => ?_)
                    · refine j_iconst J (0) dX10_between_113 ?_
                      refine j_istore J (lv' := [(8, .int (I 0)), (7, .int (I (σ 16 (tt * 120 + i)))), (6, .int (I (σ 16 (sh * 120 + i)))), (5, .int (I i)), (0, .ref (ad 0)), (1, .int (I sh)), (2, .int (I tt)), (3, .int (I wh)), (4, .int (I g))]) hl dX10_between_114 (by decide) rfl (fun ls hl => ?_)
                      refine j_iload_n J dX10_between_116 rfl (lv_at hl 7 rfl) ?_
                      refine j_if_ne J 142 (show rg wh by unfold rg; omega) dX10_between_117 (by decide) (fun (h_17 : ¬ wh = 0) => ?_) (fun (h_17 : wh = 0) => ?_)
                      · refine j_iload_n J dX10_between_142 rfl (lv_at hl 7 rfl) ?_
                        refine j_iconst J (1) dX10_between_143 ?_
                        refine j_icmp_ne J 238 (show rg wh by unfold rg; omega) (by unfold rg; omega) dX10_between_144 (by decide) (fun (h_18 : ¬ wh = 1) => ?_) (fun (h_18 : wh = 1) => ?_)
                        · refine j_iload J dX10_between_238 (lv_at hl 8 rfl) ?_
                          refine j_aload_n J dX10_between_240 rfl (lv_at hl 4 rfl) ?_
                          refine mg_10_3 J hw lk_X10_20 dX10_between_241 ?_
                          refine j_iload J dX10_between_244 (lv_at hl 3 rfl) ?_
                          refine ma_ld_2 J hw (show 0 ≤ i ∧ i < ((120 : Nat) : Int) from by omega) dX10_between_246 ?_
                          refine j_if_le J 259 (show rg (σ 2 i) by unfold rg; omega) dX10_between_247 (by decide) (fun (h_19 : (σ 2 i) ≤ 0) => ?_) (fun (h_19 : 0 < (σ 2 i)) => ?_)
                          · refine j_iconst J (0) dX10_between_259 ?_
                            refine j_iadd J dX10_between_260 ?_
                            refine j_istore J (lv' := [(4, .int (I (g + 0))), (8, .int (I 0)), (7, .int (I (σ 16 (tt * 120 + i)))), (6, .int (I (σ 16 (sh * 120 + i)))), (5, .int (I i)), (0, .ref (ad 0)), (1, .int (I sh)), (2, .int (I tt)), (3, .int (I wh))]) hl dX10_between_261 (by decide) rfl (fun ls hl => ?_)
                            refine j_iinc J (lv' := [(5, .int (I (i + 1))), (4, .int (I (g + 0))), (8, .int (I 0)), (7, .int (I (σ 16 (tt * 120 + i)))), (6, .int (I (σ 16 (sh * 120 + i)))), (0, .ref (ad 0)), (1, .int (I sh)), (2, .int (I tt)), (3, .int (I wh))]) (k := 4) hl dX10_between_263 rfl (by decide) rfl (fun ls hl => ?_)
                            refine j_goto J 53 dX10_between_266 (by decide) ?_
                            exact ih53 (g + 0) (i + 1) (by omega) (by have hs9 := sumI_step (f := btF σ sh tt wh) hi0.1; first | (have e9 := btF0 (σ := σ) (sh := sh) (tt := tt) (i := i) (show wh = 0 by omega); rw [e9] at hs9; (try split at hs9) <;> omega) | (have e9 := btF1 (σ := σ) (sh := sh) (tt := tt) (i := i) (show wh = 1 by omega); rw [e9] at hs9; (try split at hs9) <;> omega) | (have e9 := btF2 (σ := σ) (sh := sh) (tt := tt) (i := i) (show wh = 2 by omega); rw [e9] at hs9; (try split at hs9) <;> omega)) (by omega) _ _ _ hw (lv_sub hl [0, 5, 6, 7, 8, 1] rfl)
                          · refine j_iload J dX10_between_250 (lv_at hl 0 rfl) ?_
                            refine j_if_ne J 259 (by unfold rg; omega) dX10_between_252 (by decide) (fun (h_20 : ¬ 0 = 0) => absurd h_20 (by omega)) (fun (h_20 : 0 = 0) => ?_)
                            refine j_iconst J (1) dX10_between_255 ?_
                            refine j_goto J 260 dX10_between_256 (by decide) ?_
                            refine j_iadd J dX10_between_260 ?_
                            refine j_istore J (lv' := [(4, .int (I (g + 1))), (8, .int (I 0)), (7, .int (I (σ 16 (tt * 120 + i)))), (6, .int (I (σ 16 (sh * 120 + i)))), (5, .int (I i)), (0, .ref (ad 0)), (1, .int (I sh)), (2, .int (I tt)), (3, .int (I wh))]) hl dX10_between_261 (by decide) rfl (fun ls hl => ?_)
                            refine j_iinc J (lv' := [(5, .int (I (i + 1))), (4, .int (I (g + 1))), (8, .int (I 0)), (7, .int (I (σ 16 (tt * 120 + i)))), (6, .int (I (σ 16 (sh * 120 + i)))), (0, .ref (ad 0)), (1, .int (I sh)), (2, .int (I tt)), (3, .int (I wh))]) (k := 4) hl dX10_between_263 rfl (by decide) rfl (fun ls hl => ?_)
                            refine j_goto J 53 dX10_between_266 (by decide) ?_
                            exact ih53 (g + 1) (i + 1) (by omega) (by have hs9 := sumI_step (f := btF σ sh tt wh) hi0.1; first | (have e9 := btF0 (σ := σ) (sh := sh) (tt := tt) (i := i) (show wh = 0 by omega); rw [e9] at hs9; (try split at hs9) <;> omega) | (have e9 := btF1 (σ := σ) (sh := sh) (tt := tt) (i := i) (show wh = 1 by omega); rw [e9] at hs9; (try split at hs9) <;> omega) | (have e9 := btF2 (σ := σ) (sh := sh) (tt := tt) (i := i) (show wh = 2 by omega); rw [e9] at hs9; (try split at hs9) <;> omega)) (by omega) _ _ _ hw (lv_sub hl [0, 5, 6, 7, 8, 1] rfl)
                        · refine j_iload J dX10_between_147 (lv_at hl 1 rfl) ?_
                          refine j_aload_n J dX10_between_149 rfl (lv_at hl 4 rfl) ?_
                          refine mg_10_3 J hw lk_X10_20 dX10_between_150 ?_
                          refine j_iload J dX10_between_153 (lv_at hl 3 rfl) ?_
                          refine ma_ld_2 J hw (show 0 ≤ i ∧ i < ((120 : Nat) : Int) from by omega) dX10_between_155 ?_
                          refine j_aload_n J dX10_between_156 rfl (lv_at hl 4 rfl) ?_
                          refine mg_10_7 J hw lk_X10_32 dX10_between_157 ?_
                          refine j_iconst J (0) dX10_between_160 ?_
                          refine ma_ld_0 J hw (show 0 ≤ 0 ∧ 0 < ((5 : Nat) : Int) from by omega) dX10_between_161 ?_
                          refine j_iadd J dX10_between_162 ?_
                          refine j_icmp_ge J 171 (show rg (σ 16 (tt * 120 + i)) by unfold rg; omega) (show rg ((σ 2 i) + (σ 0 0)) by unfold rg; omega) dX10_between_163 (by decide) (fun (h_21 : ((σ 2 i) + (σ 0 0)) ≤ (σ 16 (tt * 120 + i))) => ?_) (fun (h_21 : (σ 16 (tt * 120 + i)) < ((σ 2 i) + (σ 0 0))) => ?_)
                          · refine j_aload_n J dX10_between_171 rfl (lv_at hl 4 rfl) ?_
                            refine mg_10_3 J hw lk_X10_20 dX10_between_172 ?_
                            refine j_iload J dX10_between_175 (lv_at hl 3 rfl) ?_
                            refine ma_ld_2 J hw (show 0 ≤ i ∧ i < ((120 : Nat) : Int) from by omega) dX10_between_177 ?_
                            refine j_aload_n J dX10_between_178 rfl (lv_at hl 4 rfl) ?_
                            refine mg_10_7 J hw lk_X10_32 dX10_between_179 ?_
                            refine j_iconst J (0) dX10_between_182 ?_
                            refine ma_ld_0 J hw (show 0 ≤ 0 ∧ 0 < ((5 : Nat) : Int) from by omega) dX10_between_183 ?_
                            refine j_iadd J dX10_between_184 ?_
                            refine j_istore J (lv' := [(9, .int (I ((σ 2 i) + (σ 0 0)))), (8, .int (I 0)), (7, .int (I (σ 16 (tt * 120 + i)))), (6, .int (I (σ 16 (sh * 120 + i)))), (5, .int (I i)), (0, .ref (ad 0)), (1, .int (I sh)), (2, .int (I tt)), (3, .int (I wh)), (4, .int (I g))]) hl dX10_between_185 (by decide) rfl (fun ls hl => ?_)
                            refine j_iload J dX10_between_187 (lv_at hl 9 rfl) ?_
                            refine j_iload J dX10_between_189 (lv_at hl 1 rfl) ?_
                            refine j_if_eq J 231 (by unfold rg; omega) dX10_between_191 (by decide) (fun (h_22 : 0 = 0) => ?_) (fun (h_22 : ¬ 0 = 0) => absurd h_22 (by omega))
                            refine j_iconst J (0) dX10_between_231 ?_
                            refine j_iadd J dX10_between_232 ?_
                            refine j_istore J (lv' := [(4, .int (I (g + 0))), (9, .int (I ((σ 2 i) + (σ 0 0)))), (8, .int (I 0)), (7, .int (I (σ 16 (tt * 120 + i)))), (6, .int (I (σ 16 (sh * 120 + i)))), (5, .int (I i)), (0, .ref (ad 0)), (1, .int (I sh)), (2, .int (I tt)), (3, .int (I wh))]) hl dX10_between_233 (by decide) rfl (fun ls hl => ?_)
                            refine j_goto J 263 dX10_between_235 (by decide) ?_
                            refine j_iinc J (lv' := [(5, .int (I (i + 1))), (4, .int (I (g + 0))), (9, .int (I ((σ 2 i) + (σ 0 0)))), (8, .int (I 0)), (7, .int (I (σ 16 (tt * 120 + i)))), (6, .int (I (σ 16 (sh * 120 + i)))), (0, .ref (ad 0)), (1, .int (I sh)), (2, .int (I tt)), (3, .int (I wh))]) (k := 5) hl dX10_between_263 rfl (by decide) rfl (fun ls hl => ?_)
                            refine j_goto J 53 dX10_between_266 (by decide) ?_
                            exact ih53 (g + 0) (i + 1) (by omega) (by have hs9 := sumI_step (f := btF σ sh tt wh) hi0.1; first | (have e9 := btF0 (σ := σ) (sh := sh) (tt := tt) (i := i) (show wh = 0 by omega); rw [e9] at hs9; (try split at hs9) <;> omega) | (have e9 := btF1 (σ := σ) (sh := sh) (tt := tt) (i := i) (show wh = 1 by omega); rw [e9] at hs9; (try split at hs9) <;> omega) | (have e9 := btF2 (σ := σ) (sh := sh) (tt := tt) (i := i) (show wh = 2 by omega); rw [e9] at hs9; (try split at hs9) <;> omega)) (by omega) _ _ _ hw (lv_sub hl [0, 6, 7, 8, 9, 1] rfl)
                          · refine j_iload J dX10_between_166 (lv_at hl 1 rfl) ?_
                            refine j_goto J 185 dX10_between_168 (by decide) ?_
                            refine j_istore J (lv' := [(9, .int (I (σ 16 (tt * 120 + i)))), (8, .int (I 0)), (7, .int (I (σ 16 (tt * 120 + i)))), (6, .int (I (σ 16 (sh * 120 + i)))), (5, .int (I i)), (0, .ref (ad 0)), (1, .int (I sh)), (2, .int (I tt)), (3, .int (I wh)), (4, .int (I g))]) hl dX10_between_185 (by decide) rfl (fun ls hl => ?_)
                            refine j_iload J dX10_between_187 (lv_at hl 9 rfl) ?_
                            refine j_iload J dX10_between_189 (lv_at hl 1 rfl) ?_
                            refine j_if_eq J 231 (by unfold rg; omega) dX10_between_191 (by decide) (fun (h_23 : 0 = 0) => ?_) (fun (h_23 : ¬ 0 = 0) => absurd h_23 (by omega))
                            refine j_iconst J (0) dX10_between_231 ?_
                            refine j_iadd J dX10_between_232 ?_
                            refine j_istore J (lv' := [(4, .int (I (g + 0))), (9, .int (I (σ 16 (tt * 120 + i)))), (8, .int (I 0)), (7, .int (I (σ 16 (tt * 120 + i)))), (6, .int (I (σ 16 (sh * 120 + i)))), (5, .int (I i)), (0, .ref (ad 0)), (1, .int (I sh)), (2, .int (I tt)), (3, .int (I wh))]) hl dX10_between_233 (by decide) rfl (fun ls hl => ?_)
                            refine j_goto J 263 dX10_between_235 (by decide) ?_
                            refine j_iinc J (lv' := [(5, .int (I (i + 1))), (4, .int (I (g + 0))), (9, .int (I (σ 16 (tt * 120 + i)))), (8, .int (I 0)), (7, .int (I (σ 16 (tt * 120 + i)))), (6, .int (I (σ 16 (sh * 120 + i)))), (0, .ref (ad 0)), (1, .int (I sh)), (2, .int (I tt)), (3, .int (I wh))]) (k := 5) hl dX10_between_263 rfl (by decide) rfl (fun ls hl => ?_)
                            refine j_goto J 53 dX10_between_266 (by decide) ?_
                            exact ih53 (g + 0) (i + 1) (by omega) (by have hs9 := sumI_step (f := btF σ sh tt wh) hi0.1; first | (have e9 := btF0 (σ := σ) (sh := sh) (tt := tt) (i := i) (show wh = 0 by omega); rw [e9] at hs9; (try split at hs9) <;> omega) | (have e9 := btF1 (σ := σ) (sh := sh) (tt := tt) (i := i) (show wh = 1 by omega); rw [e9] at hs9; (try split at hs9) <;> omega) | (have e9 := btF2 (σ := σ) (sh := sh) (tt := tt) (i := i) (show wh = 2 by omega); rw [e9] at hs9; (try split at hs9) <;> omega)) (by omega) _ _ _ hw (lv_sub hl [0, 6, 7, 8, 9, 1] rfl)
                      · refine j_iload J dX10_between_120 (lv_at hl 8 rfl) ?_
                        refine j_iload J dX10_between_122 (lv_at hl 0 rfl) ?_
                        refine j_if_eq J 135 (by unfold rg; omega) dX10_between_124 (by decide) (fun (h_24 : 0 = 0) => ?_) (fun (h_24 : ¬ 0 = 0) => absurd h_24 (by omega))
                        refine j_iconst J (0) dX10_between_135 ?_
                        refine j_iadd J dX10_between_136 ?_
                        refine j_istore J (lv' := [(4, .int (I (g + 0))), (8, .int (I 0)), (7, .int (I (σ 16 (tt * 120 + i)))), (6, .int (I (σ 16 (sh * 120 + i)))), (5, .int (I i)), (0, .ref (ad 0)), (1, .int (I sh)), (2, .int (I tt)), (3, .int (I wh))]) hl dX10_between_137 (by decide) rfl (fun ls hl => ?_)
                        refine j_goto J 263 dX10_between_139 (by decide) ?_
                        refine j_iinc J (lv' := [(5, .int (I (i + 1))), (4, .int (I (g + 0))), (8, .int (I 0)), (7, .int (I (σ 16 (tt * 120 + i)))), (6, .int (I (σ 16 (sh * 120 + i)))), (0, .ref (ad 0)), (1, .int (I sh)), (2, .int (I tt)), (3, .int (I wh))]) (k := 4) hl dX10_between_263 rfl (by decide) rfl (fun ls hl => ?_)
                        refine j_goto J 53 dX10_between_266 (by decide) ?_
                        exact ih53 (g + 0) (i + 1) (by omega) (by have hs9 := sumI_step (f := btF σ sh tt wh) hi0.1; first | (have e9 := btF0 (σ := σ) (sh := sh) (tt := tt) (i := i) (show wh = 0 by omega); rw [e9] at hs9; (try split at hs9) <;> omega) | (have e9 := btF1 (σ := σ) (sh := sh) (tt := tt) (i := i) (show wh = 1 by omega); rw [e9] at hs9; (try split at hs9) <;> omega) | (have e9 := btF2 (σ := σ) (sh := sh) (tt := tt) (i := i) (show wh = 2 by omega); rw [e9] at hs9; (try split at hs9) <;> omega)) (by omega) _ _ _ hw (lv_sub hl [0, 5, 6, 7, 8, 1] rfl)
                    · refine j_iconst J (1) dX10_between_109 ?_
                      refine j_goto J 114 dX10_between_110 (by decide) ?_
                      refine j_istore J (lv' := [(8, .int (I 1)), (7, .int (I (σ 16 (tt * 120 + i)))), (6, .int (I (σ 16 (sh * 120 + i)))), (5, .int (I i)), (0, .ref (ad 0)), (1, .int (I sh)), (2, .int (I tt)), (3, .int (I wh)), (4, .int (I g))]) hl dX10_between_114 (by decide) rfl (fun ls hl => ?_)
                      refine j_iload_n J dX10_between_116 rfl (lv_at hl 7 rfl) ?_
                      refine j_if_ne J 142 (show rg wh by unfold rg; omega) dX10_between_117 (by decide) (fun (h_25 : ¬ wh = 0) => ?_) (fun (h_25 : wh = 0) => ?_)
                      · refine j_iload_n J dX10_between_142 rfl (lv_at hl 7 rfl) ?_
                        refine j_iconst J (1) dX10_between_143 ?_
                        refine j_icmp_ne J 238 (show rg wh by unfold rg; omega) (by unfold rg; omega) dX10_between_144 (by decide) (fun (h_26 : ¬ wh = 1) => ?_) (fun (h_26 : wh = 1) => ?_)
                        · refine j_iload J dX10_between_238 (lv_at hl 8 rfl) ?_
                          refine j_aload_n J dX10_between_240 rfl (lv_at hl 4 rfl) ?_
                          refine mg_10_3 J hw lk_X10_20 dX10_between_241 ?_
                          refine j_iload J dX10_between_244 (lv_at hl 3 rfl) ?_
                          refine ma_ld_2 J hw (show 0 ≤ i ∧ i < ((120 : Nat) : Int) from by omega) dX10_between_246 ?_
                          refine j_if_le J 259 (show rg (σ 2 i) by unfold rg; omega) dX10_between_247 (by decide) (fun (h_27 : (σ 2 i) ≤ 0) => ?_) (fun (h_27 : 0 < (σ 2 i)) => ?_)
                          · refine j_iconst J (0) dX10_between_259 ?_
                            refine j_iadd J dX10_between_260 ?_
                            refine j_istore J (lv' := [(4, .int (I (g + 0))), (8, .int (I 1)), (7, .int (I (σ 16 (tt * 120 + i)))), (6, .int (I (σ 16 (sh * 120 + i)))), (5, .int (I i)), (0, .ref (ad 0)), (1, .int (I sh)), (2, .int (I tt)), (3, .int (I wh))]) hl dX10_between_261 (by decide) rfl (fun ls hl => ?_)
                            refine j_iinc J (lv' := [(5, .int (I (i + 1))), (4, .int (I (g + 0))), (8, .int (I 1)), (7, .int (I (σ 16 (tt * 120 + i)))), (6, .int (I (σ 16 (sh * 120 + i)))), (0, .ref (ad 0)), (1, .int (I sh)), (2, .int (I tt)), (3, .int (I wh))]) (k := 4) hl dX10_between_263 rfl (by decide) rfl (fun ls hl => ?_)
                            refine j_goto J 53 dX10_between_266 (by decide) ?_
                            exact ih53 (g + 0) (i + 1) (by omega) (by have hs9 := sumI_step (f := btF σ sh tt wh) hi0.1; first | (have e9 := btF0 (σ := σ) (sh := sh) (tt := tt) (i := i) (show wh = 0 by omega); rw [e9] at hs9; (try split at hs9) <;> omega) | (have e9 := btF1 (σ := σ) (sh := sh) (tt := tt) (i := i) (show wh = 1 by omega); rw [e9] at hs9; (try split at hs9) <;> omega) | (have e9 := btF2 (σ := σ) (sh := sh) (tt := tt) (i := i) (show wh = 2 by omega); rw [e9] at hs9; (try split at hs9) <;> omega)) (by omega) _ _ _ hw (lv_sub hl [0, 5, 6, 7, 8, 1] rfl)
                          · refine j_iload J dX10_between_250 (lv_at hl 0 rfl) ?_
                            refine j_if_ne J 259 (by unfold rg; omega) dX10_between_252 (by decide) (fun (h_28 : ¬ 1 = 0) => ?_) (fun (h_28 : 1 = 0) => absurd h_28 (by omega))
                            refine j_iconst J (0) dX10_between_259 ?_
                            refine j_iadd J dX10_between_260 ?_
                            refine j_istore J (lv' := [(4, .int (I (g + 0))), (8, .int (I 1)), (7, .int (I (σ 16 (tt * 120 + i)))), (6, .int (I (σ 16 (sh * 120 + i)))), (5, .int (I i)), (0, .ref (ad 0)), (1, .int (I sh)), (2, .int (I tt)), (3, .int (I wh))]) hl dX10_between_261 (by decide) rfl (fun ls hl => ?_)
                            refine j_iinc J (lv' := [(5, .int (I (i + 1))), (4, .int (I (g + 0))), (8, .int (I 1)), (7, .int (I (σ 16 (tt * 120 + i)))), (6, .int (I (σ 16 (sh * 120 + i)))), (0, .ref (ad 0)), (1, .int (I sh)), (2, .int (I tt)), (3, .int (I wh))]) (k := 4) hl dX10_between_263 rfl (by decide) rfl (fun ls hl => ?_)
                            refine j_goto J 53 dX10_between_266 (by decide) ?_
                            exact ih53 (g + 0) (i + 1) (by omega) (by have hs9 := sumI_step (f := btF σ sh tt wh) hi0.1; first | (have e9 := btF0 (σ := σ) (sh := sh) (tt := tt) (i := i) (show wh = 0 by omega); rw [e9] at hs9; (try split at hs9) <;> omega) | (have e9 := btF1 (σ := σ) (sh := sh) (tt := tt) (i := i) (show wh = 1 by omega); rw [e9] at hs9; (try split at hs9) <;> omega) | (have e9 := btF2 (σ := σ) (sh := sh) (tt := tt) (i := i) (show wh = 2 by omega); rw [e9] at hs9; (try split at hs9) <;> omega)) (by omega) _ _ _ hw (lv_sub hl [0, 5, 6, 7, 8, 1] rfl)
                        · refine j_iload J dX10_between_147 (lv_at hl 1 rfl) ?_
                          refine j_aload_n J dX10_between_149 rfl (lv_at hl 4 rfl) ?_
                          refine mg_10_3 J hw lk_X10_20 dX10_between_150 ?_
                          refine j_iload J dX10_between_153 (lv_at hl 3 rfl) ?_
                          refine ma_ld_2 J hw (show 0 ≤ i ∧ i < ((120 : Nat) : Int) from by omega) dX10_between_155 ?_
                          refine j_aload_n J dX10_between_156 rfl (lv_at hl 4 rfl) ?_
                          refine mg_10_7 J hw lk_X10_32 dX10_between_157 ?_
                          refine j_iconst J (0) dX10_between_160 ?_
                          refine ma_ld_0 J hw (show 0 ≤ 0 ∧ 0 < ((5 : Nat) : Int) from by omega) dX10_between_161 ?_
                          refine j_iadd J dX10_between_162 ?_
                          refine j_icmp_ge J 171 (show rg (σ 16 (tt * 120 + i)) by unfold rg; omega) (show rg ((σ 2 i) + (σ 0 0)) by unfold rg; omega) dX10_between_163 (by decide) (fun (h_29 : ((σ 2 i) + (σ 0 0)) ≤ (σ 16 (tt * 120 + i))) => ?_) (fun (h_29 : (σ 16 (tt * 120 + i)) < ((σ 2 i) + (σ 0 0))) => ?_)
                          · refine j_aload_n J dX10_between_171 rfl (lv_at hl 4 rfl) ?_
                            refine mg_10_3 J hw lk_X10_20 dX10_between_172 ?_
                            refine j_iload J dX10_between_175 (lv_at hl 3 rfl) ?_
                            refine ma_ld_2 J hw (show 0 ≤ i ∧ i < ((120 : Nat) : Int) from by omega) dX10_between_177 ?_
                            refine j_aload_n J dX10_between_178 rfl (lv_at hl 4 rfl) ?_
                            refine mg_10_7 J hw lk_X10_32 dX10_between_179 ?_
                            refine j_iconst J (0) dX10_between_182 ?_
                            refine ma_ld_0 J hw (show 0 ≤ 0 ∧ 0 < ((5 : Nat) : Int) from by omega) dX10_between_183 ?_
                            refine j_iadd J dX10_between_184 ?_
                            refine j_istore J (lv' := [(9, .int (I ((σ 2 i) + (σ 0 0)))), (8, .int (I 1)), (7, .int (I (σ 16 (tt * 120 + i)))), (6, .int (I (σ 16 (sh * 120 + i)))), (5, .int (I i)), (0, .ref (ad 0)), (1, .int (I sh)), (2, .int (I tt)), (3, .int (I wh)), (4, .int (I g))]) hl dX10_between_185 (by decide) rfl (fun ls hl => ?_)
                            refine j_iload J dX10_between_187 (lv_at hl 9 rfl) ?_
                            refine j_iload J dX10_between_189 (lv_at hl 1 rfl) ?_
                            refine j_if_eq J 231 (by unfold rg; omega) dX10_between_191 (by decide) (fun (h_30 : 1 = 0) => absurd h_30 (by omega)) (fun (h_30 : ¬ 1 = 0) => ?_)
                            refine j_aload_n J dX10_between_194 rfl (lv_at hl 5 rfl) ?_
                            refine mg_10_3 J hw lk_X10_20 dX10_between_195 ?_
                            refine j_iload J dX10_between_198 (lv_at hl 4 rfl) ?_
                            refine ma_ld_2 J hw (show 0 ≤ i ∧ i < ((120 : Nat) : Int) from by omega) dX10_between_200 ?_
                            refine j_if_le J 231 (show rg (σ 2 i) by unfold rg; omega) dX10_between_201 (by decide) (fun (h_31 : (σ 2 i) ≤ 0) => ?_) (fun (h_31 : 0 < (σ 2 i)) => ?_)
                            · refine j_iconst J (0) dX10_between_231 ?_
                              refine j_iadd J dX10_between_232 ?_
                              refine j_istore J (lv' := [(4, .int (I (g + 0))), (9, .int (I ((σ 2 i) + (σ 0 0)))), (8, .int (I 1)), (7, .int (I (σ 16 (tt * 120 + i)))), (6, .int (I (σ 16 (sh * 120 + i)))), (5, .int (I i)), (0, .ref (ad 0)), (1, .int (I sh)), (2, .int (I tt)), (3, .int (I wh))]) hl dX10_between_233 (by decide) rfl (fun ls hl => ?_)
                              refine j_goto J 263 dX10_between_235 (by decide) ?_
                              refine j_iinc J (lv' := [(5, .int (I (i + 1))), (4, .int (I (g + 0))), (9, .int (I ((σ 2 i) + (σ 0 0)))), (8, .int (I 1)), (7, .int (I (σ 16 (tt * 120 + i)))), (6, .int (I (σ 16 (sh * 120 + i)))), (0, .ref (ad 0)), (1, .int (I sh)), (2, .int (I tt)), (3, .int (I wh))]) (k := 5) hl dX10_between_263 rfl (by decide) rfl (fun ls hl => ?_)
                              refine j_goto J 53 dX10_between_266 (by decide) ?_
                              exact ih53 (g + 0) (i + 1) (by omega) (by have hs9 := sumI_step (f := btF σ sh tt wh) hi0.1; first | (have e9 := btF0 (σ := σ) (sh := sh) (tt := tt) (i := i) (show wh = 0 by omega); rw [e9] at hs9; (try split at hs9) <;> omega) | (have e9 := btF1 (σ := σ) (sh := sh) (tt := tt) (i := i) (show wh = 1 by omega); rw [e9] at hs9; (try split at hs9) <;> omega) | (have e9 := btF2 (σ := σ) (sh := sh) (tt := tt) (i := i) (show wh = 2 by omega); rw [e9] at hs9; (try split at hs9) <;> omega)) (by omega) _ _ _ hw (lv_sub hl [0, 6, 7, 8, 9, 1] rfl)
                            · refine j_iload J dX10_between_204 (lv_at hl 2 rfl) ?_
                              refine j_aload_n J dX10_between_206 rfl (lv_at hl 5 rfl) ?_
                              refine mg_10_3 J hw lk_X10_20 dX10_between_207 ?_
                              refine j_iload J dX10_between_210 (lv_at hl 4 rfl) ?_
                              refine ma_ld_2 J hw (show 0 ≤ i ∧ i < ((120 : Nat) : Int) from by omega) dX10_between_212 ?_
                              refine j_icmp_lt J 231 (show rg (σ 16 (tt * 120 + i)) by unfold rg; omega) (show rg (σ 2 i) by unfold rg; omega) dX10_between_213 (by decide) (fun (h_32 : (σ 16 (tt * 120 + i)) < (σ 2 i)) => ?_) (fun (h_32 : (σ 2 i) ≤ (σ 16 (tt * 120 + i))) => ?_)
                              · refine j_iconst J (0) dX10_between_231 ?_
                                refine j_iadd J dX10_between_232 ?_
                                refine j_istore J (lv' := [(4, .int (I (g + 0))), (9, .int (I ((σ 2 i) + (σ 0 0)))), (8, .int (I 1)), (7, .int (I (σ 16 (tt * 120 + i)))), (6, .int (I (σ 16 (sh * 120 + i)))), (5, .int (I i)), (0, .ref (ad 0)), (1, .int (I sh)), (2, .int (I tt)), (3, .int (I wh))]) hl dX10_between_233 (by decide) rfl (fun ls hl => ?_)
                                refine j_goto J 263 dX10_between_235 (by decide) ?_
                                refine j_iinc J (lv' := [(5, .int (I (i + 1))), (4, .int (I (g + 0))), (9, .int (I ((σ 2 i) + (σ 0 0)))), (8, .int (I 1)), (7, .int (I (σ 16 (tt * 120 + i)))), (6, .int (I (σ 16 (sh * 120 + i)))), (0, .ref (ad 0)), (1, .int (I sh)), (2, .int (I tt)), (3, .int (I wh))]) (k := 5) hl dX10_between_263 rfl (by decide) rfl (fun ls hl => ?_)
                                refine j_goto J 53 dX10_between_266 (by decide) ?_
                                exact ih53 (g + 0) (i + 1) (by omega) (by have hs9 := sumI_step (f := btF σ sh tt wh) hi0.1; first | (have e9 := btF0 (σ := σ) (sh := sh) (tt := tt) (i := i) (show wh = 0 by omega); rw [e9] at hs9; (try split at hs9) <;> omega) | (have e9 := btF1 (σ := σ) (sh := sh) (tt := tt) (i := i) (show wh = 1 by omega); rw [e9] at hs9; (try split at hs9) <;> omega) | (have e9 := btF2 (σ := σ) (sh := sh) (tt := tt) (i := i) (show wh = 2 by omega); rw [e9] at hs9; (try split at hs9) <;> omega)) (by omega) _ _ _ hw (lv_sub hl [0, 6, 7, 8, 9, 1] rfl)
                              · refine j_iload J dX10_between_216 (lv_at hl 0 rfl) ?_
                                refine j_iload J dX10_between_218 (lv_at hl 3 rfl) ?_
                                refine j_icmp_le J 231 (show rg ((σ 2 i) + (σ 0 0)) by unfold rg; omega) (show rg (σ 16 (sh * 120 + i)) by unfold rg; omega) dX10_between_220 (by decide) (fun (h_33 : ((σ 2 i) + (σ 0 0)) ≤ (σ 16 (sh * 120 + i))) => ?_) (fun (h_33 : (σ 16 (sh * 120 + i)) < ((σ 2 i) + (σ 0 0))) => ?_)
                                · refine j_iconst J (0) dX10_between_231 ?_
                                  refine j_iadd J dX10_between_232 ?_
                                  refine j_istore J (lv' := [(4, .int (I (g + 0))), (9, .int (I ((σ 2 i) + (σ 0 0)))), (8, .int (I 1)), (7, .int (I (σ 16 (tt * 120 + i)))), (6, .int (I (σ 16 (sh * 120 + i)))), (5, .int (I i)), (0, .ref (ad 0)), (1, .int (I sh)), (2, .int (I tt)), (3, .int (I wh))]) hl dX10_between_233 (by decide) rfl (fun ls hl => ?_)
                                  refine j_goto J 263 dX10_between_235 (by decide) ?_
                                  refine j_iinc J (lv' := [(5, .int (I (i + 1))), (4, .int (I (g + 0))), (9, .int (I ((σ 2 i) + (σ 0 0)))), (8, .int (I 1)), (7, .int (I (σ 16 (tt * 120 + i)))), (6, .int (I (σ 16 (sh * 120 + i)))), (0, .ref (ad 0)), (1, .int (I sh)), (2, .int (I tt)), (3, .int (I wh))]) (k := 5) hl dX10_between_263 rfl (by decide) rfl (fun ls hl => ?_)
                                  refine j_goto J 53 dX10_between_266 (by decide) ?_
                                  exact ih53 (g + 0) (i + 1) (by omega) (by have hs9 := sumI_step (f := btF σ sh tt wh) hi0.1; first | (have e9 := btF0 (σ := σ) (sh := sh) (tt := tt) (i := i) (show wh = 0 by omega); rw [e9] at hs9; (try split at hs9) <;> omega) | (have e9 := btF1 (σ := σ) (sh := sh) (tt := tt) (i := i) (show wh = 1 by omega); rw [e9] at hs9; (try split at hs9) <;> omega) | (have e9 := btF2 (σ := σ) (sh := sh) (tt := tt) (i := i) (show wh = 2 by omega); rw [e9] at hs9; (try split at hs9) <;> omega)) (by omega) _ _ _ hw (lv_sub hl [0, 6, 7, 8, 9, 1] rfl)
                                · refine j_iload J dX10_between_223 (lv_at hl 0 rfl) ?_
                                  refine j_iload J dX10_between_225 (lv_at hl 3 rfl) ?_
                                  refine j_isub J dX10_between_227 ?_
                                  refine j_goto J 232 dX10_between_228 (by decide) ?_
                                  refine j_iadd J dX10_between_232 ?_
                                  refine j_istore J (lv' := [(4, .int (I (g + (((σ 2 i) + (σ 0 0)) - (σ 16 (sh * 120 + i)))))), (9, .int (I ((σ 2 i) + (σ 0 0)))), (8, .int (I 1)), (7, .int (I (σ 16 (tt * 120 + i)))), (6, .int (I (σ 16 (sh * 120 + i)))), (5, .int (I i)), (0, .ref (ad 0)), (1, .int (I sh)), (2, .int (I tt)), (3, .int (I wh))]) hl dX10_between_233 (by decide) rfl (fun ls hl => ?_)
                                  refine j_goto J 263 dX10_between_235 (by decide) ?_
                                  refine j_iinc J (lv' := [(5, .int (I (i + 1))), (4, .int (I (g + (((σ 2 i) + (σ 0 0)) - (σ 16 (sh * 120 + i)))))), (9, .int (I ((σ 2 i) + (σ 0 0)))), (8, .int (I 1)), (7, .int (I (σ 16 (tt * 120 + i)))), (6, .int (I (σ 16 (sh * 120 + i)))), (0, .ref (ad 0)), (1, .int (I sh)), (2, .int (I tt)), (3, .int (I wh))]) (k := 5) hl dX10_between_263 rfl (by decide) rfl (fun ls hl => ?_)
                                  refine j_goto J 53 dX10_between_266 (by decide) ?_
                                  exact ih53 (g + (((σ 2 i) + (σ 0 0)) - (σ 16 (sh * 120 + i)))) (i + 1) (by omega) (by have hs9 := sumI_step (f := btF σ sh tt wh) hi0.1; first | (have e9 := btF0 (σ := σ) (sh := sh) (tt := tt) (i := i) (show wh = 0 by omega); rw [e9] at hs9; (try split at hs9) <;> omega) | (have e9 := btF1 (σ := σ) (sh := sh) (tt := tt) (i := i) (show wh = 1 by omega); rw [e9] at hs9; (try split at hs9) <;> omega) | (have e9 := btF2 (σ := σ) (sh := sh) (tt := tt) (i := i) (show wh = 2 by omega); rw [e9] at hs9; (try split at hs9) <;> omega)) (by omega) _ _ _ hw (lv_sub hl [0, 6, 7, 8, 9, 1] rfl)
                          · refine j_iload J dX10_between_166 (lv_at hl 1 rfl) ?_
                            refine j_goto J 185 dX10_between_168 (by decide) ?_
                            refine j_istore J (lv' := [(9, .int (I (σ 16 (tt * 120 + i)))), (8, .int (I 1)), (7, .int (I (σ 16 (tt * 120 + i)))), (6, .int (I (σ 16 (sh * 120 + i)))), (5, .int (I i)), (0, .ref (ad 0)), (1, .int (I sh)), (2, .int (I tt)), (3, .int (I wh)), (4, .int (I g))]) hl dX10_between_185 (by decide) rfl (fun ls hl => ?_)
                            refine j_iload J dX10_between_187 (lv_at hl 9 rfl) ?_
                            refine j_iload J dX10_between_189 (lv_at hl 1 rfl) ?_
                            refine j_if_eq J 231 (by unfold rg; omega) dX10_between_191 (by decide) (fun (h_34 : 1 = 0) => absurd h_34 (by omega)) (fun (h_34 : ¬ 1 = 0) => ?_)
                            refine j_aload_n J dX10_between_194 rfl (lv_at hl 5 rfl) ?_
                            refine mg_10_3 J hw lk_X10_20 dX10_between_195 ?_
                            refine j_iload J dX10_between_198 (lv_at hl 4 rfl) ?_
                            refine ma_ld_2 J hw (show 0 ≤ i ∧ i < ((120 : Nat) : Int) from by omega) dX10_between_200 ?_
                            refine j_if_le J 231 (show rg (σ 2 i) by unfold rg; omega) dX10_between_201 (by decide) (fun (h_35 : (σ 2 i) ≤ 0) => ?_) (fun (h_35 : 0 < (σ 2 i)) => ?_)
                            · refine j_iconst J (0) dX10_between_231 ?_
                              refine j_iadd J dX10_between_232 ?_
                              refine j_istore J (lv' := [(4, .int (I (g + 0))), (9, .int (I (σ 16 (tt * 120 + i)))), (8, .int (I 1)), (7, .int (I (σ 16 (tt * 120 + i)))), (6, .int (I (σ 16 (sh * 120 + i)))), (5, .int (I i)), (0, .ref (ad 0)), (1, .int (I sh)), (2, .int (I tt)), (3, .int (I wh))]) hl dX10_between_233 (by decide) rfl (fun ls hl => ?_)
                              refine j_goto J 263 dX10_between_235 (by decide) ?_
                              refine j_iinc J (lv' := [(5, .int (I (i + 1))), (4, .int (I (g + 0))), (9, .int (I (σ 16 (tt * 120 + i)))), (8, .int (I 1)), (7, .int (I (σ 16 (tt * 120 + i)))), (6, .int (I (σ 16 (sh * 120 + i)))), (0, .ref (ad 0)), (1, .int (I sh)), (2, .int (I tt)), (3, .int (I wh))]) (k := 5) hl dX10_between_263 rfl (by decide) rfl (fun ls hl => ?_)
                              refine j_goto J 53 dX10_between_266 (by decide) ?_
                              exact ih53 (g + 0) (i + 1) (by omega) (by have hs9 := sumI_step (f := btF σ sh tt wh) hi0.1; first | (have e9 := btF0 (σ := σ) (sh := sh) (tt := tt) (i := i) (show wh = 0 by omega); rw [e9] at hs9; (try split at hs9) <;> omega) | (have e9 := btF1 (σ := σ) (sh := sh) (tt := tt) (i := i) (show wh = 1 by omega); rw [e9] at hs9; (try split at hs9) <;> omega) | (have e9 := btF2 (σ := σ) (sh := sh) (tt := tt) (i := i) (show wh = 2 by omega); rw [e9] at hs9; (try split at hs9) <;> omega)) (by omega) _ _ _ hw (lv_sub hl [0, 6, 7, 8, 9, 1] rfl)
                            · refine j_iload J dX10_between_204 (lv_at hl 2 rfl) ?_
                              refine j_aload_n J dX10_between_206 rfl (lv_at hl 5 rfl) ?_
                              refine mg_10_3 J hw lk_X10_20 dX10_between_207 ?_
                              refine j_iload J dX10_between_210 (lv_at hl 4 rfl) ?_
                              refine ma_ld_2 J hw (show 0 ≤ i ∧ i < ((120 : Nat) : Int) from by omega) dX10_between_212 ?_
                              refine j_icmp_lt J 231 (show rg (σ 16 (tt * 120 + i)) by unfold rg; omega) (show rg (σ 2 i) by unfold rg; omega) dX10_between_213 (by decide) (fun (h_36 : (σ 16 (tt * 120 + i)) < (σ 2 i)) => ?_) (fun (h_36 : (σ 2 i) ≤ (σ 16 (tt * 120 + i))) => ?_)
                              · refine j_iconst J (0) dX10_between_231 ?_
                                refine j_iadd J dX10_between_232 ?_
                                refine j_istore J (lv' := [(4, .int (I (g + 0))), (9, .int (I (σ 16 (tt * 120 + i)))), (8, .int (I 1)), (7, .int (I (σ 16 (tt * 120 + i)))), (6, .int (I (σ 16 (sh * 120 + i)))), (5, .int (I i)), (0, .ref (ad 0)), (1, .int (I sh)), (2, .int (I tt)), (3, .int (I wh))]) hl dX10_between_233 (by decide) rfl (fun ls hl => ?_)
                                refine j_goto J 263 dX10_between_235 (by decide) ?_
                                refine j_iinc J (lv' := [(5, .int (I (i + 1))), (4, .int (I (g + 0))), (9, .int (I (σ 16 (tt * 120 + i)))), (8, .int (I 1)), (7, .int (I (σ 16 (tt * 120 + i)))), (6, .int (I (σ 16 (sh * 120 + i)))), (0, .ref (ad 0)), (1, .int (I sh)), (2, .int (I tt)), (3, .int (I wh))]) (k := 5) hl dX10_between_263 rfl (by decide) rfl (fun ls hl => ?_)
                                refine j_goto J 53 dX10_between_266 (by decide) ?_
                                exact ih53 (g + 0) (i + 1) (by omega) (by have hs9 := sumI_step (f := btF σ sh tt wh) hi0.1; first | (have e9 := btF0 (σ := σ) (sh := sh) (tt := tt) (i := i) (show wh = 0 by omega); rw [e9] at hs9; (try split at hs9) <;> omega) | (have e9 := btF1 (σ := σ) (sh := sh) (tt := tt) (i := i) (show wh = 1 by omega); rw [e9] at hs9; (try split at hs9) <;> omega) | (have e9 := btF2 (σ := σ) (sh := sh) (tt := tt) (i := i) (show wh = 2 by omega); rw [e9] at hs9; (try split at hs9) <;> omega)) (by omega) _ _ _ hw (lv_sub hl [0, 6, 7, 8, 9, 1] rfl)
                              · refine j_iload J dX10_between_216 (lv_at hl 0 rfl) ?_
                                refine j_iload J dX10_between_218 (lv_at hl 3 rfl) ?_
                                refine j_icmp_le J 231 (show rg (σ 16 (tt * 120 + i)) by unfold rg; omega) (show rg (σ 16 (sh * 120 + i)) by unfold rg; omega) dX10_between_220 (by decide) (fun (h_37 : (σ 16 (tt * 120 + i)) ≤ (σ 16 (sh * 120 + i))) => ?_) (fun (h_37 : (σ 16 (sh * 120 + i)) < (σ 16 (tt * 120 + i))) => ?_)
                                · refine j_iconst J (0) dX10_between_231 ?_
                                  refine j_iadd J dX10_between_232 ?_
                                  refine j_istore J (lv' := [(4, .int (I (g + 0))), (9, .int (I (σ 16 (tt * 120 + i)))), (8, .int (I 1)), (7, .int (I (σ 16 (tt * 120 + i)))), (6, .int (I (σ 16 (sh * 120 + i)))), (5, .int (I i)), (0, .ref (ad 0)), (1, .int (I sh)), (2, .int (I tt)), (3, .int (I wh))]) hl dX10_between_233 (by decide) rfl (fun ls hl => ?_)
                                  refine j_goto J 263 dX10_between_235 (by decide) ?_
                                  refine j_iinc J (lv' := [(5, .int (I (i + 1))), (4, .int (I (g + 0))), (9, .int (I (σ 16 (tt * 120 + i)))), (8, .int (I 1)), (7, .int (I (σ 16 (tt * 120 + i)))), (6, .int (I (σ 16 (sh * 120 + i)))), (0, .ref (ad 0)), (1, .int (I sh)), (2, .int (I tt)), (3, .int (I wh))]) (k := 5) hl dX10_between_263 rfl (by decide) rfl (fun ls hl => ?_)
                                  refine j_goto J 53 dX10_between_266 (by decide) ?_
                                  exact ih53 (g + 0) (i + 1) (by omega) (by have hs9 := sumI_step (f := btF σ sh tt wh) hi0.1; first | (have e9 := btF0 (σ := σ) (sh := sh) (tt := tt) (i := i) (show wh = 0 by omega); rw [e9] at hs9; (try split at hs9) <;> omega) | (have e9 := btF1 (σ := σ) (sh := sh) (tt := tt) (i := i) (show wh = 1 by omega); rw [e9] at hs9; (try split at hs9) <;> omega) | (have e9 := btF2 (σ := σ) (sh := sh) (tt := tt) (i := i) (show wh = 2 by omega); rw [e9] at hs9; (try split at hs9) <;> omega)) (by omega) _ _ _ hw (lv_sub hl [0, 6, 7, 8, 9, 1] rfl)
                                · refine j_iload J dX10_between_223 (lv_at hl 0 rfl) ?_
                                  refine j_iload J dX10_between_225 (lv_at hl 3 rfl) ?_
                                  refine j_isub J dX10_between_227 ?_
                                  refine j_goto J 232 dX10_between_228 (by decide) ?_
                                  refine j_iadd J dX10_between_232 ?_
                                  refine j_istore J (lv' := [(4, .int (I (g + ((σ 16 (tt * 120 + i)) - (σ 16 (sh * 120 + i)))))), (9, .int (I (σ 16 (tt * 120 + i)))), (8, .int (I 1)), (7, .int (I (σ 16 (tt * 120 + i)))), (6, .int (I (σ 16 (sh * 120 + i)))), (5, .int (I i)), (0, .ref (ad 0)), (1, .int (I sh)), (2, .int (I tt)), (3, .int (I wh))]) hl dX10_between_233 (by decide) rfl (fun ls hl => ?_)
                                  refine j_goto J 263 dX10_between_235 (by decide) ?_
                                  refine j_iinc J (lv' := [(5, .int (I (i + 1))), (4, .int (I (g + ((σ 16 (tt * 120 + i)) - (σ 16 (sh * 120 + i)))))), (9, .int (I (σ 16 (tt * 120 + i)))), (8, .int (I 1)), (7, .int (I (σ 16 (tt * 120 + i)))), (6, .int (I (σ 16 (sh * 120 + i)))), (0, .ref (ad 0)), (1, .int (I sh)), (2, .int (I tt)), (3, .int (I wh))]) (k := 5) hl dX10_between_263 rfl (by decide) rfl (fun ls hl => ?_)
                                  refine j_goto J 53 dX10_between_266 (by decide) ?_
                                  exact ih53 (g + ((σ 16 (tt * 120 + i)) - (σ 16 (sh * 120 + i)))) (i + 1) (by omega) (by have hs9 := sumI_step (f := btF σ sh tt wh) hi0.1; first | (have e9 := btF0 (σ := σ) (sh := sh) (tt := tt) (i := i) (show wh = 0 by omega); rw [e9] at hs9; (try split at hs9) <;> omega) | (have e9 := btF1 (σ := σ) (sh := sh) (tt := tt) (i := i) (show wh = 1 by omega); rw [e9] at hs9; (try split at hs9) <;> omega) | (have e9 := btF2 (σ := σ) (sh := sh) (tt := tt) (i := i) (show wh = 2 by omega); rw [e9] at hs9; (try split at hs9) <;> omega)) (by omega) _ _ _ hw (lv_sub hl [0, 6, 7, 8, 9, 1] rfl)
                      · refine j_iload J dX10_between_120 (lv_at hl 8 rfl) ?_
                        refine j_iload J dX10_between_122 (lv_at hl 0 rfl) ?_
                        refine j_if_eq J 135 (by unfold rg; omega) dX10_between_124 (by decide) (fun (h_38 : 1 = 0) => absurd h_38 (by omega)) (fun (h_38 : ¬ 1 = 0) => ?_)
                        refine j_iload J dX10_between_127 (lv_at hl 1 rfl) ?_
                        refine j_iload J dX10_between_129 (lv_at hl 2 rfl) ?_
                        refine j_isub J dX10_between_131 ?_
                        refine j_goto J 136 dX10_between_132 (by decide) ?_
                        refine j_iadd J dX10_between_136 ?_
                        refine j_istore J (lv' := [(4, .int (I (g + ((σ 16 (tt * 120 + i)) - (σ 16 (sh * 120 + i)))))), (8, .int (I 1)), (7, .int (I (σ 16 (tt * 120 + i)))), (6, .int (I (σ 16 (sh * 120 + i)))), (5, .int (I i)), (0, .ref (ad 0)), (1, .int (I sh)), (2, .int (I tt)), (3, .int (I wh))]) hl dX10_between_137 (by decide) rfl (fun ls hl => ?_)
                        refine j_goto J 263 dX10_between_139 (by decide) ?_
                        refine j_iinc J (lv' := [(5, .int (I (i + 1))), (4, .int (I (g + ((σ 16 (tt * 120 + i)) - (σ 16 (sh * 120 + i)))))), (8, .int (I 1)), (7, .int (I (σ 16 (tt * 120 + i)))), (6, .int (I (σ 16 (sh * 120 + i)))), (0, .ref (ad 0)), (1, .int (I sh)), (2, .int (I tt)), (3, .int (I wh))]) (k := 4) hl dX10_between_263 rfl (by decide) rfl (fun ls hl => ?_)
                        refine j_goto J 53 dX10_between_266 (by decide) ?_
                        exact ih53 (g + ((σ 16 (tt * 120 + i)) - (σ 16 (sh * 120 + i)))) (i + 1) (by omega) (by have hs9 := sumI_step (f := btF σ sh tt wh) hi0.1; first | (have e9 := btF0 (σ := σ) (sh := sh) (tt := tt) (i := i) (show wh = 0 by omega); rw [e9] at hs9; (try split at hs9) <;> omega) | (have e9 := btF1 (σ := σ) (sh := sh) (tt := tt) (i := i) (show wh = 1 by omega); rw [e9] at hs9; (try split at hs9) <;> omega) | (have e9 := btF2 (σ := σ) (sh := sh) (tt := tt) (i := i) (show wh = 2 by omega); rw [e9] at hs9; (try split at hs9) <;> omega)) (by omega) _ _ _ hw (lv_sub hl [0, 5, 6, 7, 8, 1] rfl)
            exact L53 _ 0 0 (by omega) (sumI_0.symm) (Nat.lt_succ_self _) _ _ _ hw (lv_sub hl [0, 2, 3, 4, 5, 1] rfl)
          · refine j_ldc J (-1000002) lk_X10_133 dX10_between_44 ?_
            exact fin _ (σ) _ _ _ _ dX10_between_46 rfl (by first | (unfold betweenS; (repeat (first | rw [if_pos (by omega)] | rw [if_neg (by omega)])); exact ⟨rfl, Eqp.rf⟩) | (exfalso; omega)) hw
      · refine j_ldc J (-1000001) lk_X10_132 dX10_between_23 ?_
        exact fin _ (σ) _ _ _ _ dX10_between_25 rfl (by first | (unfold betweenS; (repeat (first | rw [if_pos (by omega)] | rw [if_neg (by omega)])); exact ⟨rfl, Eqp.rf⟩) | (exfalso; omega)) hw
theorem k_X10_between {p : Program} {l : Launch} {e : Env} {R : Room} {s : State} {m : MethodId} {args : Array Value} {below : List Frame} {meth : Method} {c : Code} {H : Heap} {locs : List Loc} {Q : State → Prop} {cc : ByteArray} {pc : Nat} {ls : Array Slot} {rest : List Value} {nL : Nat} {own : String} {D : va_G} {σ : St} {cI cZ : ClassId} {ad : Nat → Nat} {index : Nat} {sh tt wh : Int} (hD : ∀ τ, va_D (AD ad 45) (wsM cI cZ ad τ)) (hB : Bd σ) (r_sh : rg sh) (r_tt : rg tt) (r_wh : rg wh) (J : Jx p m c cc nL s args own D [(cI, .int), (cZ, .boolean)] (AD ad 45) (wsM cI cZ ad)) (hw : jW D (AD ad 45) s.heap (wsM cI cZ ad σ) H locs) (hsz : ls.size = nL) (hlk : Cond.methodLink own index yX10_between ∈ TBw) (hR : 3 ≤ R.frames ∧ 71 ≤ R.locals) (hroom : (rest.map fun v => v.category).sum ≤ 8) (hdg : decode cc pc = .ok (.invokevirtual index, 3)) (kk : ∀ (r : Int) (τ : St) (H1 : Heap) (locs1 : List Loc), (fun r τ => r = (betweenS σ sh tt wh).1 ∧ Eqp τ (betweenS σ sh tt wh).2) r τ → jW D (AD ad 45) s.heap (wsM cI cZ ad τ) H1 locs1 → W p l e R s m args below meth c H1 locs1 0 0 Q (F0 m (pc + 3) ls (.int (I r) :: rest))) : W p l e R s m args below meth c H locs 0 0 Q (F0 m pc ls (.int (I wh) :: .int (I tt) :: .int (I sh) :: .ref (ad 0) :: rest)) := 
  j_callVi J hw (c_X10_between  hD hB r_sh r_tt r_wh) hlk in_X10_between se_X10_between ini_X10 co_X10_between (n := 3) (by decide +kernel) ⟨rfl, rfl, hR.1, hR.2⟩ (j := 0) (ci := 10) rfl rfl rfl rfl hroom hsz ⟨Nat.zero_le _, Nat.zero_le _⟩ rfl hdg kk
def rm_X10_sounded : Room := { frames := 2, cells := 0, slots := 0, locals := 43 }
set_option maxHeartbeats 4000000 in
set_option maxRecDepth 100000 in
theorem c_X10_sounded {l : Launch} {D : va_G} {cI cZ : ClassId} {ad : Nat → Nat} {σ : St} {sh cl : Int} (hD : ∀ τ, va_D (AD ad 45) (wsM cI cZ ad τ)) (hB : Bd σ) (r_sh : rg sh) (r_cl : rg cl) : JMi l yX10_sounded cX10_sounded 3 (some .int) rm_X10_sounded D [(cI, .int), (cZ, .boolean)] (AD ad 45) (wsM cI cZ ad) [.ref (ad 0), .int (I sh), .int (I cl)] σ (fun r τ => r = (soundedS σ sh cl).1 ∧ Eqp τ (soundedS σ sh cl).2) := by
  refine JMi.of RX10 (by decide +kernel) rfl (Nat.le_of_ble_eq_true rfl) hD ?_
  intro p e s m args below meth c Q J fin H ls hw hl
  generalize ([] : List Loc) = locs at hw ⊢
  have hl : lv_has ls 3 [(0, .ref (ad 0)), (1, .int (I sh)), (2, .int (I cl))] := hl
  have hd : Dim _ := hB.dim
  have hd1 := hd.1; have hd2 := hd.2.1; have hd3 := hd.2.2.1; have hd4 := hd.2.2.2; have hm := hd.mul
  have u_sh := r_sh; unfold rg at u_sh
  have u_cl := r_cl; unfold rg at u_cl
  have b17 := hB.taken sh
  refine j_iload_n J dX10_sounded_0 rfl (lv_at hl 1 rfl) ?_
  refine k_X10_isSix (sh := sh) (σ := σ) hD (show rg sh from by unfold rg; omega) J hw hl.1 lk_X10_129 ⟨Nat.le_of_ble_eq_true rfl, Nat.le_of_ble_eq_true rfl⟩ (Nat.le_of_ble_eq_true rfl) dX10_sounded_1 (fun H locs hw => ?_)
  refine j_ifeqB J 15 dX10_sounded_4 (by decide) (fun (h_1 : ¬ (0 ≤ sh ∧ sh ≤ 5)) => ?_) (fun (h_1 : 0 ≤ sh ∧ sh ≤ 5) => ?_)
  · refine j_iconst J (-1) dX10_sounded_15 ?_
    exact fin _ (σ) _ _ _ _ dX10_sounded_16 rfl (by first | (unfold soundedS; (repeat (first | rw [if_pos (by omega)] | rw [if_neg (by omega)])); exact ⟨rfl, Eqp.rf⟩) | (exfalso; omega)) hw
  · refine j_aload_n J dX10_sounded_7 rfl (lv_at hl 0 rfl) ?_
    refine j_iload_n J dX10_sounded_8 rfl (lv_at hl 2 rfl) ?_
    refine k_X10_isCell (cell := cl) (σ := σ) hD (show Dim σ from hd) (show rg cl from by unfold rg; omega) J hw hl.1 lk_X10_97 ⟨Nat.le_of_ble_eq_true rfl, Nat.le_of_ble_eq_true rfl⟩ (Nat.le_of_ble_eq_true rfl) dX10_sounded_9 (fun H locs hw => ?_)
    refine j_ifneB J 17 dX10_sounded_12 (by decide) (fun (h_2 : 0 ≤ cl ∧ cl ≤ σ 18 0 * σ 18 1 - 1) => ?_) (fun (h_2 : ¬ (0 ≤ cl ∧ cl ≤ σ 18 0 * σ 18 1 - 1)) => ?_)
    · refine j_aload_n J dX10_sounded_17 rfl (lv_at hl 0 rfl) ?_
      refine mg_10_17 J hw lk_X10_59 dX10_sounded_18 ?_
      refine j_iload_n J dX10_sounded_21 rfl (lv_at hl 1 rfl) ?_
      refine ma_ld_17 J hw (show 0 ≤ sh ∧ sh < ((6 : Nat) : Int) from by omega) dX10_sounded_22 ?_
      refine j_if_eq J 40 (show rg (σ 17 sh) by unfold rg; omega) dX10_sounded_23 (by decide) (fun (h_3 : (σ 17 sh) = 0) => ?_) (fun (h_3 : ¬ (σ 17 sh) = 0) => ?_)
      · refine j_bipush J (-2) dX10_sounded_40 (by decide) ?_
        exact fin _ (σ) _ _ _ _ dX10_sounded_42 rfl (by first | (unfold soundedS; (repeat (first | rw [if_pos (by omega)] | rw [if_neg (by omega)])); exact ⟨rfl, Eqp.rf⟩) | (exfalso; omega)) hw
      · refine j_aload_n J dX10_sounded_26 rfl (lv_at hl 0 rfl) ?_
        refine mg_10_18 J hw lk_X10_63 dX10_sounded_27 ?_
        refine j_bipush J (120) dX10_sounded_30 (by decide) ?_
        refine j_iload_n J dX10_sounded_32 rfl (lv_at hl 1 rfl) ?_
        refine j_imul J dX10_sounded_33 ?_
        refine j_iload_n J dX10_sounded_34 rfl (lv_at hl 2 rfl) ?_
        refine j_iadd J dX10_sounded_35 ?_
        rw [show 120 * sh + cl = sh * 120 + cl by omega]
        refine ma_ld_16 J hw (show 0 ≤ sh * 120 + cl ∧ (sh * 120 + cl) < ((720 : Nat) : Int) from by omega) dX10_sounded_36 ?_
        refine j_goto J 42 dX10_sounded_37 (by decide) ?_
        exact fin _ (σ) _ _ _ _ dX10_sounded_42 rfl (by first | (unfold soundedS; (repeat (first | rw [if_pos (by omega)] | rw [if_neg (by omega)])); exact ⟨rfl, Eqp.rf⟩) | (exfalso; omega)) hw
    · refine j_iconst J (-1) dX10_sounded_15 ?_
      exact fin _ (σ) _ _ _ _ dX10_sounded_16 rfl (by first | (unfold soundedS; (repeat (first | rw [if_pos (by omega)] | rw [if_neg (by omega)])); exact ⟨rfl, Eqp.rf⟩) | (exfalso; omega)) hw
theorem k_X10_sounded {p : Program} {l : Launch} {e : Env} {R : Room} {s : State} {m : MethodId} {args : Array Value} {below : List Frame} {meth : Method} {c : Code} {H : Heap} {locs : List Loc} {Q : State → Prop} {cc : ByteArray} {pc : Nat} {ls : Array Slot} {rest : List Value} {nL : Nat} {own : String} {D : va_G} {σ : St} {cI cZ : ClassId} {ad : Nat → Nat} {index : Nat} {sh cl : Int} (hD : ∀ τ, va_D (AD ad 45) (wsM cI cZ ad τ)) (hB : Bd σ) (r_sh : rg sh) (r_cl : rg cl) (J : Jx p m c cc nL s args own D [(cI, .int), (cZ, .boolean)] (AD ad 45) (wsM cI cZ ad)) (hw : jW D (AD ad 45) s.heap (wsM cI cZ ad σ) H locs) (hsz : ls.size = nL) (hlk : Cond.methodLink own index yX10_sounded ∈ TBw) (hR : 3 ≤ R.frames ∧ 65 ≤ R.locals) (hroom : (rest.map fun v => v.category).sum ≤ 8) (hdg : decode cc pc = .ok (.invokevirtual index, 3)) (kk : ∀ (r : Int) (τ : St) (H1 : Heap) (locs1 : List Loc), (fun r τ => r = (soundedS σ sh cl).1 ∧ Eqp τ (soundedS σ sh cl).2) r τ → jW D (AD ad 45) s.heap (wsM cI cZ ad τ) H1 locs1 → W p l e R s m args below meth c H1 locs1 0 0 Q (F0 m (pc + 3) ls (.int (I r) :: rest))) : W p l e R s m args below meth c H locs 0 0 Q (F0 m pc ls (.int (I cl) :: .int (I sh) :: .ref (ad 0) :: rest)) := 
  j_callVi J hw (c_X10_sounded  hD hB r_sh r_cl) hlk in_X10_sounded se_X10_sounded ini_X10 co_X10_sounded (n := 2) (by decide +kernel) ⟨rfl, rfl, hR.1, hR.2⟩ (j := 0) (ci := 10) rfl rfl rfl rfl hroom hsz ⟨Nat.zero_le _, Nat.zero_le _⟩ rfl hdg kk
def rm_X10_cell : Room := { frames := 2, cells := 0, slots := 0, locals := 43 }
set_option maxHeartbeats 4000000 in
set_option maxRecDepth 100000 in
theorem c_X10_cell {l : Launch} {D : va_G} {cI cZ : ClassId} {ad : Nat → Nat} {σ : St} {cl wh : Int} (hD : ∀ τ, va_D (AD ad 45) (wsM cI cZ ad τ)) (hB : Bd σ) (r_cl : rg cl) (r_wh : rg wh) : JMi l yX10_cell cX10_cell 3 (some .int) rm_X10_cell D [(cI, .int), (cZ, .boolean)] (AD ad 45) (wsM cI cZ ad) [.ref (ad 0), .int (I cl), .int (I wh)] σ (fun r τ => r = (cellS σ cl wh).1 ∧ Eqp τ (cellS σ cl wh).2) := by
  refine JMi.of RX10 (by decide +kernel) rfl (Nat.le_of_ble_eq_true rfl) hD ?_
  intro p e s m args below meth c Q J fin H ls hw hl
  generalize ([] : List Loc) = locs at hw ⊢
  have hl : lv_has ls 3 [(0, .ref (ad 0)), (1, .int (I cl)), (2, .int (I wh))] := hl
  have hd : Dim _ := hB.dim
  have hd1 := hd.1; have hd2 := hd.2.1; have hd3 := hd.2.2.1; have hd4 := hd.2.2.2; have hm := hd.mul
  have u_cl := r_cl; unfold rg at u_cl
  have u_wh := r_wh; unfold rg at u_wh
  refine j_aload_n J dX10_cell_0 rfl (lv_at hl 0 rfl) ?_
  refine j_iload_n J dX10_cell_1 rfl (lv_at hl 1 rfl) ?_
  refine k_X10_isCell (cell := cl) (σ := σ) hD (show Dim σ from hd) (show rg cl from by unfold rg; omega) J hw hl.1 lk_X10_97 ⟨Nat.le_of_ble_eq_true rfl, Nat.le_of_ble_eq_true rfl⟩ (Nat.le_of_ble_eq_true rfl) dX10_cell_2 (fun H locs hw => ?_)
  refine j_ifeqB J 17 dX10_cell_5 (by decide) (fun (h_1 : ¬ (0 ≤ cl ∧ cl ≤ σ 18 0 * σ 18 1 - 1)) => ?_) (fun (h_1 : 0 ≤ cl ∧ cl ≤ σ 18 0 * σ 18 1 - 1) => ?_)
  · refine j_iconst J (-1) dX10_cell_17 ?_
    exact fin _ (σ) _ _ _ _ dX10_cell_18 rfl (by first | (unfold cellS; (repeat (first | rw [if_pos (by omega)] | rw [if_neg (by omega)])); exact ⟨rfl, Eqp.rf⟩) | (exfalso; omega)) hw
  · refine j_iload_n J dX10_cell_8 rfl (lv_at hl 2 rfl) ?_
    refine j_iconst J (0) dX10_cell_9 ?_
    refine j_iconst J (3) dX10_cell_10 ?_
    refine k_X10_in (v := wh) (lo := 0) (hi := 3) (σ := σ) hD (show rg wh from by unfold rg; omega) (show rg 0 from by unfold rg; omega) (show rg 3 from by unfold rg; omega) J hw hl.1 lk_X10_69 ⟨Nat.le_of_ble_eq_true rfl, Nat.le_of_ble_eq_true rfl⟩ (Nat.le_of_ble_eq_true rfl) dX10_cell_11 (fun H locs hw => ?_)
    refine j_ifneB J 19 dX10_cell_14 (by decide) (fun (h_2 : 0 ≤ wh ∧ wh ≤ 3) => ?_) (fun (h_2 : ¬ (0 ≤ wh ∧ wh ≤ 3)) => ?_)
    · refine j_iload_n J dX10_cell_19 rfl (lv_at hl 2 rfl) ?_
      refine j_if_ne J 32 (show rg wh by unfold rg; omega) dX10_cell_20 (by decide) (fun (h_3 : ¬ wh = 0) => ?_) (fun (h_3 : wh = 0) => ?_)
      · refine j_iload_n J dX10_cell_32 rfl (lv_at hl 2 rfl) ?_
        refine j_iconst J (1) dX10_cell_33 ?_
        refine j_icmp_ne J 46 (show rg wh by unfold rg; omega) (by unfold rg; omega) dX10_cell_34 (by decide) (fun (h_4 : ¬ wh = 1) => ?_) (fun (h_4 : wh = 1) => ?_)
        · refine j_iload_n J dX10_cell_46 rfl (lv_at hl 2 rfl) ?_
          refine j_iconst J (2) dX10_cell_47 ?_
          refine j_icmp_ne J 60 (show rg wh by unfold rg; omega) (by unfold rg; omega) dX10_cell_48 (by decide) (fun (h_5 : ¬ wh = 2) => ?_) (fun (h_5 : wh = 2) => ?_)
          · refine j_aload_n J dX10_cell_60 rfl (lv_at hl 0 rfl) ?_
            refine mg_10_5 J hw lk_X10_26 dX10_cell_61 ?_
            refine j_iload_n J dX10_cell_64 rfl (lv_at hl 1 rfl) ?_
            refine ma_ld_5 J hw (show 0 ≤ cl ∧ cl < ((120 : Nat) : Int) from by omega) dX10_cell_65 ?_
            exact fin _ (σ) _ _ _ _ dX10_cell_66 rfl (by first | (unfold cellS; (repeat (first | rw [if_pos (by omega)] | rw [if_neg (by omega)])); exact ⟨rfl, Eqp.rf⟩) | (exfalso; omega)) hw
          · refine j_aload_n J dX10_cell_51 rfl (lv_at hl 0 rfl) ?_
            refine mg_10_4 J hw lk_X10_23 dX10_cell_52 ?_
            refine j_iload_n J dX10_cell_55 rfl (lv_at hl 1 rfl) ?_
            refine ma_ld_4 J hw (show 0 ≤ cl ∧ cl < ((120 : Nat) : Int) from by omega) dX10_cell_56 ?_
            refine j_goto J 66 dX10_cell_57 (by decide) ?_
            exact fin _ (σ) _ _ _ _ dX10_cell_66 rfl (by first | (unfold cellS; (repeat (first | rw [if_pos (by omega)] | rw [if_neg (by omega)])); exact ⟨rfl, Eqp.rf⟩) | (exfalso; omega)) hw
        · refine j_aload_n J dX10_cell_37 rfl (lv_at hl 0 rfl) ?_
          refine mg_10_3 J hw lk_X10_20 dX10_cell_38 ?_
          refine j_iload_n J dX10_cell_41 rfl (lv_at hl 1 rfl) ?_
          refine ma_ld_2 J hw (show 0 ≤ cl ∧ cl < ((120 : Nat) : Int) from by omega) dX10_cell_42 ?_
          refine j_goto J 66 dX10_cell_43 (by decide) ?_
          exact fin _ (σ) _ _ _ _ dX10_cell_66 rfl (by first | (unfold cellS; (repeat (first | rw [if_pos (by omega)] | rw [if_neg (by omega)])); exact ⟨rfl, Eqp.rf⟩) | (exfalso; omega)) hw
      · refine j_aload_n J dX10_cell_23 rfl (lv_at hl 0 rfl) ?_
        refine mg_10_2 J hw lk_X10_16 dX10_cell_24 ?_
        refine j_iload_n J dX10_cell_27 rfl (lv_at hl 1 rfl) ?_
        refine ma_ld_1 J hw (show 0 ≤ cl ∧ cl < ((120 : Nat) : Int) from by omega) dX10_cell_28 ?_
        refine j_goto J 66 dX10_cell_29 (by decide) ?_
        exact fin _ (σ) _ _ _ _ dX10_cell_66 rfl (by first | (unfold cellS; (repeat (first | rw [if_pos (by omega)] | rw [if_neg (by omega)])); exact ⟨rfl, Eqp.rf⟩) | (exfalso; omega)) hw
    · refine j_iconst J (-1) dX10_cell_17 ?_
      exact fin _ (σ) _ _ _ _ dX10_cell_18 rfl (by first | (unfold cellS; (repeat (first | rw [if_pos (by omega)] | rw [if_neg (by omega)])); exact ⟨rfl, Eqp.rf⟩) | (exfalso; omega)) hw
theorem k_X10_cell {p : Program} {l : Launch} {e : Env} {R : Room} {s : State} {m : MethodId} {args : Array Value} {below : List Frame} {meth : Method} {c : Code} {H : Heap} {locs : List Loc} {Q : State → Prop} {cc : ByteArray} {pc : Nat} {ls : Array Slot} {rest : List Value} {nL : Nat} {own : String} {D : va_G} {σ : St} {cI cZ : ClassId} {ad : Nat → Nat} {index : Nat} {cl wh : Int} (hD : ∀ τ, va_D (AD ad 45) (wsM cI cZ ad τ)) (hB : Bd σ) (r_cl : rg cl) (r_wh : rg wh) (J : Jx p m c cc nL s args own D [(cI, .int), (cZ, .boolean)] (AD ad 45) (wsM cI cZ ad)) (hw : jW D (AD ad 45) s.heap (wsM cI cZ ad σ) H locs) (hsz : ls.size = nL) (hlk : Cond.methodLink own index yX10_cell ∈ TBw) (hR : 3 ≤ R.frames ∧ 65 ≤ R.locals) (hroom : (rest.map fun v => v.category).sum ≤ 8) (hdg : decode cc pc = .ok (.invokevirtual index, 3)) (kk : ∀ (r : Int) (τ : St) (H1 : Heap) (locs1 : List Loc), (fun r τ => r = (cellS σ cl wh).1 ∧ Eqp τ (cellS σ cl wh).2) r τ → jW D (AD ad 45) s.heap (wsM cI cZ ad τ) H1 locs1 → W p l e R s m args below meth c H1 locs1 0 0 Q (F0 m (pc + 3) ls (.int (I r) :: rest))) : W p l e R s m args below meth c H locs 0 0 Q (F0 m pc ls (.int (I wh) :: .int (I cl) :: .ref (ad 0) :: rest)) := 
  j_callVi J hw (c_X10_cell  hD hB r_cl r_wh) hlk in_X10_cell se_X10_cell ini_X10 co_X10_cell (n := 2) (by decide +kernel) ⟨rfl, rfl, hR.1, hR.2⟩ (j := 0) (ci := 10) rfl rfl rfl rfl hroom hsz ⟨Nat.zero_le _, Nat.zero_le _⟩ rfl hdg kk
def rm_X10_about : Room := { frames := 2, cells := 0, slots := 0, locals := 42 }
set_option maxHeartbeats 4000000 in
set_option maxRecDepth 100000 in
theorem c_X10_about {l : Launch} {D : va_G} {cI cZ : ClassId} {ad : Nat → Nat} {σ : St} {sp wh : Int} (hD : ∀ τ, va_D (AD ad 45) (wsM cI cZ ad τ)) (hB : Bd σ) (r_sp : rg sp) (r_wh : rg wh) : JMi l yX10_about cX10_about 3 (some .int) rm_X10_about D [(cI, .int), (cZ, .boolean)] (AD ad 45) (wsM cI cZ ad) [.ref (ad 0), .int (I sp), .int (I wh)] σ (fun r τ => r = (aboutS σ sp wh).1 ∧ Eqp τ (aboutS σ sp wh).2) := by
  refine JMi.of RX10 (by decide +kernel) rfl (Nat.le_of_ble_eq_true rfl) hD ?_
  intro p e s m args below meth c Q J fin H ls hw hl
  generalize ([] : List Loc) = locs at hw ⊢
  have hl : lv_has ls 3 [(0, .ref (ad 0)), (1, .int (I sp)), (2, .int (I wh))] := hl
  have hd : Dim _ := hB.dim
  have hd1 := hd.1; have hd2 := hd.2.1; have hd3 := hd.2.2.1; have hd4 := hd.2.2.2; have hm := hd.mul
  have u_sp := r_sp; unfold rg at u_sp
  have u_wh := r_wh; unfold rg at u_wh
  refine j_iload_n J dX10_about_0 rfl (lv_at hl 1 rfl) ?_
  refine k_X10_isSpot (sp := sp) (σ := σ) hD (show rg sp from by unfold rg; omega) J hw hl.1 lk_X10_101 ⟨Nat.le_of_ble_eq_true rfl, Nat.le_of_ble_eq_true rfl⟩ (Nat.le_of_ble_eq_true rfl) dX10_about_1 (fun H locs hw => ?_)
  refine j_ifeqB J 16 dX10_about_4 (by decide) (fun (h_1 : ¬ (0 ≤ sp ∧ sp ≤ 2)) => ?_) (fun (h_1 : 0 ≤ sp ∧ sp ≤ 2) => ?_)
  · refine j_iconst J (-1) dX10_about_16 ?_
    exact fin _ (σ) _ _ _ _ dX10_about_17 rfl (by first | (unfold aboutS; (repeat (first | rw [if_pos (by omega)] | rw [if_neg (by omega)])); exact ⟨rfl, Eqp.rf⟩) | (exfalso; omega)) hw
  · refine j_iload_n J dX10_about_7 rfl (lv_at hl 2 rfl) ?_
    refine j_iconst J (0) dX10_about_8 ?_
    refine j_iconst J (2) dX10_about_9 ?_
    refine k_X10_in (v := wh) (lo := 0) (hi := 2) (σ := σ) hD (show rg wh from by unfold rg; omega) (show rg 0 from by unfold rg; omega) (show rg 2 from by unfold rg; omega) J hw hl.1 lk_X10_69 ⟨Nat.le_of_ble_eq_true rfl, Nat.le_of_ble_eq_true rfl⟩ (Nat.le_of_ble_eq_true rfl) dX10_about_10 (fun H locs hw => ?_)
    refine j_ifneB J 18 dX10_about_13 (by decide) (fun (h_2 : 0 ≤ wh ∧ wh ≤ 2) => ?_) (fun (h_2 : ¬ (0 ≤ wh ∧ wh ≤ 2)) => ?_)
    · refine j_iload_n J dX10_about_18 rfl (lv_at hl 2 rfl) ?_
      refine j_if_ne J 31 (show rg wh by unfold rg; omega) dX10_about_19 (by decide) (fun (h_3 : ¬ wh = 0) => ?_) (fun (h_3 : wh = 0) => ?_)
      · refine j_iload_n J dX10_about_31 rfl (lv_at hl 2 rfl) ?_
        refine j_iconst J (1) dX10_about_32 ?_
        refine j_icmp_ne J 45 (show rg wh by unfold rg; omega) (by unfold rg; omega) dX10_about_33 (by decide) (fun (h_4 : ¬ wh = 1) => ?_) (fun (h_4 : wh = 1) => ?_)
        · refine j_aload_n J dX10_about_45 rfl (lv_at hl 0 rfl) ?_
          refine mg_10_10 J hw lk_X10_41 dX10_about_46 ?_
          refine j_iload_n J dX10_about_49 rfl (lv_at hl 1 rfl) ?_
          refine ma_ld_12 J hw (show 0 ≤ sp ∧ sp < ((3 : Nat) : Int) from by omega) dX10_about_50 ?_
          exact fin _ (σ) _ _ _ _ dX10_about_51 rfl (by first | (unfold aboutS; (repeat (first | rw [if_pos (by omega)] | rw [if_neg (by omega)])); exact ⟨rfl, Eqp.rf⟩) | (exfalso; omega)) hw
        · refine j_aload_n J dX10_about_36 rfl (lv_at hl 0 rfl) ?_
          refine mg_10_9 J hw lk_X10_38 dX10_about_37 ?_
          refine j_iload_n J dX10_about_40 rfl (lv_at hl 1 rfl) ?_
          refine ma_ld_11 J hw (show 0 ≤ sp ∧ sp < ((3 : Nat) : Int) from by omega) dX10_about_41 ?_
          refine j_goto J 51 dX10_about_42 (by decide) ?_
          exact fin _ (σ) _ _ _ _ dX10_about_51 rfl (by first | (unfold aboutS; (repeat (first | rw [if_pos (by omega)] | rw [if_neg (by omega)])); exact ⟨rfl, Eqp.rf⟩) | (exfalso; omega)) hw
      · refine j_aload_n J dX10_about_22 rfl (lv_at hl 0 rfl) ?_
        refine mg_10_11 J hw lk_X10_44 dX10_about_23 ?_
        refine j_iload_n J dX10_about_26 rfl (lv_at hl 1 rfl) ?_
        refine ma_ld_10 J hw (show 0 ≤ sp ∧ sp < ((3 : Nat) : Int) from by omega) dX10_about_27 ?_
        refine j_goto J 51 dX10_about_28 (by decide) ?_
        exact fin _ (σ) _ _ _ _ dX10_about_51 rfl (by first | (unfold aboutS; (repeat (first | rw [if_pos (by omega)] | rw [if_neg (by omega)])); exact ⟨rfl, Eqp.rf⟩) | (exfalso; omega)) hw
    · refine j_iconst J (-1) dX10_about_16 ?_
      exact fin _ (σ) _ _ _ _ dX10_about_17 rfl (by first | (unfold aboutS; (repeat (first | rw [if_pos (by omega)] | rw [if_neg (by omega)])); exact ⟨rfl, Eqp.rf⟩) | (exfalso; omega)) hw
theorem k_X10_about {p : Program} {l : Launch} {e : Env} {R : Room} {s : State} {m : MethodId} {args : Array Value} {below : List Frame} {meth : Method} {c : Code} {H : Heap} {locs : List Loc} {Q : State → Prop} {cc : ByteArray} {pc : Nat} {ls : Array Slot} {rest : List Value} {nL : Nat} {own : String} {D : va_G} {σ : St} {cI cZ : ClassId} {ad : Nat → Nat} {index : Nat} {sp wh : Int} (hD : ∀ τ, va_D (AD ad 45) (wsM cI cZ ad τ)) (hB : Bd σ) (r_sp : rg sp) (r_wh : rg wh) (J : Jx p m c cc nL s args own D [(cI, .int), (cZ, .boolean)] (AD ad 45) (wsM cI cZ ad)) (hw : jW D (AD ad 45) s.heap (wsM cI cZ ad σ) H locs) (hsz : ls.size = nL) (hlk : Cond.methodLink own index yX10_about ∈ TBw) (hR : 3 ≤ R.frames ∧ 64 ≤ R.locals) (hroom : (rest.map fun v => v.category).sum ≤ 8) (hdg : decode cc pc = .ok (.invokevirtual index, 3)) (kk : ∀ (r : Int) (τ : St) (H1 : Heap) (locs1 : List Loc), (fun r τ => r = (aboutS σ sp wh).1 ∧ Eqp τ (aboutS σ sp wh).2) r τ → jW D (AD ad 45) s.heap (wsM cI cZ ad τ) H1 locs1 → W p l e R s m args below meth c H1 locs1 0 0 Q (F0 m (pc + 3) ls (.int (I r) :: rest))) : W p l e R s m args below meth c H locs 0 0 Q (F0 m pc ls (.int (I wh) :: .int (I sp) :: .ref (ad 0) :: rest)) := 
  j_callVi J hw (c_X10_about  hD hB r_sp r_wh) hlk in_X10_about se_X10_about ini_X10 co_X10_about (n := 2) (by decide +kernel) ⟨rfl, rfl, hR.1, hR.2⟩ (j := 0) (ci := 10) rfl rfl rfl rfl hroom hsz ⟨Nat.zero_le _, Nat.zero_le _⟩ rfl hdg kk
def rm_X10_broken : Room := { frames := 1, cells := 0, slots := 0, locals := 22 }
set_option maxHeartbeats 4000000 in
set_option maxRecDepth 100000 in
theorem c_X10_broken {l : Launch} {D : va_G} {cI cZ : ClassId} {ad : Nat → Nat} {σ : St} {q : Int} (hD : ∀ τ, va_D (AD ad 45) (wsM cI cZ ad τ)) (hB : Bd σ) (r_q : rg q) : JMi l yX10_broken cX10_broken 2 (some .int) rm_X10_broken D [(cI, .int), (cZ, .boolean)] (AD ad 45) (wsM cI cZ ad) [.ref (ad 0), .int (I q)] σ (fun r τ => r = (brokenS σ q).1 ∧ Eqp τ (brokenS σ q).2) := by
  refine JMi.of RX10 (by decide +kernel) rfl (Nat.le_of_ble_eq_true rfl) hD ?_
  intro p e s m args below meth c Q J fin H ls hw hl
  generalize ([] : List Loc) = locs at hw ⊢
  have hl : lv_has ls 2 [(0, .ref (ad 0)), (1, .int (I q))] := hl
  have hd : Dim _ := hB.dim
  have hd1 := hd.1; have hd2 := hd.2.1; have hd3 := hd.2.2.1; have hd4 := hd.2.2.2; have hm := hd.mul
  have u_q := r_q; unfold rg at u_q
  have hq := hB.posts
  refine j_iload_n J dX10_broken_0 rfl (lv_at hl 1 rfl) ?_
  refine j_iconst J (0) dX10_broken_1 ?_
  refine j_aload_n J dX10_broken_2 rfl (lv_at hl 0 rfl) ?_
  refine mg_10_13 J hw lk_X10_73 dX10_broken_3 ?_
  refine j_iconst J (1) dX10_broken_6 ?_
  refine j_isub J dX10_broken_7 ?_
  refine k_X10_in (v := q) (lo := 0) (hi := (σ 18 6) - 1) (σ := σ) hD (show rg q from by unfold rg; omega) (show rg 0 from by unfold rg; omega) (show rg ((σ 18 6) - 1) from by unfold rg; omega) J hw hl.1 lk_X10_69 ⟨Nat.le_of_ble_eq_true rfl, Nat.le_of_ble_eq_true rfl⟩ (Nat.le_of_ble_eq_true rfl) dX10_broken_8 (fun H locs hw => ?_)
  refine j_ifeqB J 23 dX10_broken_11 (by decide) (fun (h_1 : ¬ (0 ≤ q ∧ q ≤ ((σ 18 6) - 1))) => ?_) (fun (h_1 : 0 ≤ q ∧ q ≤ ((σ 18 6) - 1)) => ?_)
  · refine j_iconst J (-1) dX10_broken_23 ?_
    exact fin _ (σ) _ _ _ _ dX10_broken_24 rfl (by first | (unfold brokenS; (repeat (first | rw [if_pos (by omega)] | rw [if_neg (by omega)])); exact ⟨rfl, Eqp.rf⟩) | (exfalso; omega)) hw
  · refine j_aload_n J dX10_broken_14 rfl (lv_at hl 0 rfl) ?_
    refine mg_10_16 J hw lk_X10_56 dX10_broken_15 ?_
    refine j_iload_n J dX10_broken_18 rfl (lv_at hl 1 rfl) ?_
    refine ma_ld_15 J hw (show 0 ≤ q ∧ q < ((8 : Nat) : Int) from by omega) dX10_broken_19 ?_
    refine j_goto J 24 dX10_broken_20 (by decide) ?_
    exact fin _ (σ) _ _ _ _ dX10_broken_24 rfl (by first | (unfold brokenS; (repeat (first | rw [if_pos (by omega)] | rw [if_neg (by omega)])); exact ⟨rfl, Eqp.rf⟩) | (exfalso; omega)) hw
theorem k_X10_broken {p : Program} {l : Launch} {e : Env} {R : Room} {s : State} {m : MethodId} {args : Array Value} {below : List Frame} {meth : Method} {c : Code} {H : Heap} {locs : List Loc} {Q : State → Prop} {cc : ByteArray} {pc : Nat} {ls : Array Slot} {rest : List Value} {nL : Nat} {own : String} {D : va_G} {σ : St} {cI cZ : ClassId} {ad : Nat → Nat} {index : Nat} {q : Int} (hD : ∀ τ, va_D (AD ad 45) (wsM cI cZ ad τ)) (hB : Bd σ) (r_q : rg q) (J : Jx p m c cc nL s args own D [(cI, .int), (cZ, .boolean)] (AD ad 45) (wsM cI cZ ad)) (hw : jW D (AD ad 45) s.heap (wsM cI cZ ad σ) H locs) (hsz : ls.size = nL) (hlk : Cond.methodLink own index yX10_broken ∈ TBw) (hR : 2 ≤ R.frames ∧ 43 ≤ R.locals) (hroom : (rest.map fun v => v.category).sum ≤ 8) (hdg : decode cc pc = .ok (.invokevirtual index, 3)) (kk : ∀ (r : Int) (τ : St) (H1 : Heap) (locs1 : List Loc), (fun r τ => r = (brokenS σ q).1 ∧ Eqp τ (brokenS σ q).2) r τ → jW D (AD ad 45) s.heap (wsM cI cZ ad τ) H1 locs1 → W p l e R s m args below meth c H1 locs1 0 0 Q (F0 m (pc + 3) ls (.int (I r) :: rest))) : W p l e R s m args below meth c H locs 0 0 Q (F0 m pc ls (.int (I q) :: .ref (ad 0) :: rest)) := 
  j_callVi J hw (c_X10_broken  hD hB r_q) hlk in_X10_broken se_X10_broken ini_X10 co_X10_broken (n := 1) (by decide +kernel) ⟨rfl, rfl, hR.1, hR.2⟩ (j := 0) (ci := 10) rfl rfl rfl rfl hroom hsz ⟨Nat.zero_le _, Nat.zero_le _⟩ rfl hdg kk
def rm_X10_undone : Room := { frames := 0, cells := 0, slots := 0, locals := 0 }
set_option maxHeartbeats 4000000 in
set_option maxRecDepth 100000 in
theorem c_X10_undone {l : Launch} {D : va_G} {cI cZ : ClassId} {ad : Nat → Nat} {σ : St}  (hD : ∀ τ, va_D (AD ad 45) (wsM cI cZ ad τ)) (hB : Bd σ) : JMi l yX10_undone cX10_undone 3 (some .int) rm_X10_undone D [(cI, .int), (cZ, .boolean)] (AD ad 45) (wsM cI cZ ad) [.ref (ad 0)] σ (fun r τ => r = (sumI (unfF σ) (σ 18 0 * σ 18 1)) ∧ τ = σ) := by
  refine JMi.of RX10 (by decide +kernel) rfl (Nat.le_of_ble_eq_true rfl) hD ?_
  intro p e s m args below meth c Q J fin H ls hw hl
  generalize ([] : List Loc) = locs at hw ⊢
  have hl : lv_has ls 3 [(0, .ref (ad 0))] := hl
  have hd : Dim _ := hB.dim
  have hd1 := hd.1; have hd2 := hd.2.1; have hd3 := hd.2.2.1; have hd4 := hd.2.2.2; have hm := hd.mul
  refine j_iconst J (0) dX10_undone_0 ?_
  refine j_istore_n J (lv' := [(1, .int (I 0)), (0, .ref (ad 0))]) hl dX10_undone_1 rfl (by decide) rfl (fun ls hl => ?_)
  refine j_iconst J (0) dX10_undone_2 ?_
  refine j_istore_n J (lv' := [(2, .int (I 0)), (1, .int (I 0)), (0, .ref (ad 0))]) hl dX10_undone_3 rfl (by decide) rfl (fun ls hl => ?_)
  have L4 : ∀ n : Nat, ∀ (g : Int) (i : Int), (0 ≤ i ∧ i ≤ σ 18 0 * σ 18 1) → (g = sumI (unfF σ) i) → ((σ 18 0 * σ 18 1 - i).toNat) < n → ∀ (H : Heap) (locs : List Loc) (ls : Array Slot), jW D (AD ad 45) s.heap (wsM cI cZ ad σ) H locs → lv_has ls 3 [(2, .int (I i)), (0, .ref (ad 0)), (1, .int (I g))] → W p l e rm_X10_undone s m args below meth c H locs 0 0 Q (F0 m 4 ls []) := by
    intro n
    induction n with
    | zero =>
      intro g i hi0 hs hm H locs ls hw hl
      exact absurd hm (Nat.not_lt_zero _)
    | succ n ih =>
      intro g i hi0 hs hm H locs ls hw hl
      have ih4 := ih
      refine j_iload_n J dX10_undone_4 rfl (lv_at hl 0 rfl) ?_
      refine j_aload_n J dX10_undone_5 rfl (lv_at hl 1 rfl) ?_
      refine mg_10_0 J hw lk_X10_7 dX10_undone_6 ?_
      refine j_aload_n J dX10_undone_9 rfl (lv_at hl 1 rfl) ?_
      refine mg_10_1 J hw lk_X10_13 dX10_undone_10 ?_
      refine j_imul J dX10_undone_13 ?_
      refine j_icmp_ge J 55 (show rg i by unfold rg; omega) (show rg ((σ 18 0) * (σ 18 1)) by unfold rg; omega) dX10_undone_14 (by decide) (fun (h_1 : ((σ 18 0) * (σ 18 1)) ≤ i) => ?_) (fun (h_1 : i < ((σ 18 0) * (σ 18 1))) => ?_)
      · refine j_iload_n J dX10_undone_55 rfl (lv_at hl 2 rfl) ?_
        exact fin _ (σ) _ _ _ _ dX10_undone_56 rfl (⟨by rw [hs, show i = σ 18 0 * σ 18 1 by omega], rfl⟩) hw
      · have b1 := hB.depth i; have b2 := hB.design i
        refine j_iload_n J dX10_undone_17 rfl (lv_at hl 2 rfl) ?_
        refine j_aload_n J dX10_undone_18 rfl (lv_at hl 1 rfl) ?_
        refine mg_10_3 J hw lk_X10_20 dX10_undone_19 ?_
        refine j_iload_n J dX10_undone_22 rfl (lv_at hl 0 rfl) ?_
        refine ma_ld_2 J hw (show 0 ≤ i ∧ i < ((120 : Nat) : Int) from by omega) dX10_undone_23 ?_
        refine j_if_le J 46 (show rg (σ 2 i) by unfold rg; omega) dX10_undone_24 (by decide) (fun (h_2 : (σ 2 i) ≤ 0) => ?_) (fun (h_2 : 0 < (σ 2 i)) => ?_)
        · refine j_iconst J (0) dX10_undone_46 ?_
          refine j_iadd J dX10_undone_47 ?_
          refine j_istore_n J (lv' := [(1, .int (I (g + 0))), (2, .int (I i)), (0, .ref (ad 0))]) hl dX10_undone_48 rfl (by decide) rfl (fun ls hl => ?_)
          refine j_iinc J (lv' := [(2, .int (I (i + 1))), (1, .int (I (g + 0))), (0, .ref (ad 0))]) (k := 1) hl dX10_undone_49 rfl (by decide) rfl (fun ls hl => ?_)
          refine j_goto J 4 dX10_undone_52 (by decide) ?_
          exact ih4 (g + 0) (i + 1) (by omega) (by have hs9 := sumI_step (f := unfF σ) hi0.1; have e9 : unfF σ i = (if σ 1 i < σ 2 i then 1 else 0) := rfl; rw [e9] at hs9; (try split at hs9) <;> omega) (by omega) _ _ _ hw (lv_sub hl [0, 2, 1] rfl)
        · refine j_aload_n J dX10_undone_27 rfl (lv_at hl 1 rfl) ?_
          refine mg_10_2 J hw lk_X10_16 dX10_undone_28 ?_
          refine j_iload_n J dX10_undone_31 rfl (lv_at hl 0 rfl) ?_
          refine ma_ld_1 J hw (show 0 ≤ i ∧ i < ((120 : Nat) : Int) from by omega) dX10_undone_32 ?_
          refine j_aload_n J dX10_undone_33 rfl (lv_at hl 1 rfl) ?_
          refine mg_10_3 J hw lk_X10_20 dX10_undone_34 ?_
          refine j_iload_n J dX10_undone_37 rfl (lv_at hl 0 rfl) ?_
          refine ma_ld_2 J hw (show 0 ≤ i ∧ i < ((120 : Nat) : Int) from by omega) dX10_undone_38 ?_
          refine j_icmp_ge J 46 (show rg (σ 1 i) by unfold rg; omega) (show rg (σ 2 i) by unfold rg; omega) dX10_undone_39 (by decide) (fun (h_3 : (σ 2 i) ≤ (σ 1 i)) => ?_) (fun (h_3 : (σ 1 i) < (σ 2 i)) => ?_)
          · refine j_iconst J (0) dX10_undone_46 ?_
            refine j_iadd J dX10_undone_47 ?_
            refine j_istore_n J (lv' := [(1, .int (I (g + 0))), (2, .int (I i)), (0, .ref (ad 0))]) hl dX10_undone_48 rfl (by decide) rfl (fun ls hl => ?_)
            refine j_iinc J (lv' := [(2, .int (I (i + 1))), (1, .int (I (g + 0))), (0, .ref (ad 0))]) (k := 1) hl dX10_undone_49 rfl (by decide) rfl (fun ls hl => ?_)
            refine j_goto J 4 dX10_undone_52 (by decide) ?_
            exact ih4 (g + 0) (i + 1) (by omega) (by have hs9 := sumI_step (f := unfF σ) hi0.1; have e9 : unfF σ i = (if σ 1 i < σ 2 i then 1 else 0) := rfl; rw [e9] at hs9; (try split at hs9) <;> omega) (by omega) _ _ _ hw (lv_sub hl [0, 2, 1] rfl)
          · refine j_iconst J (1) dX10_undone_42 ?_
            refine j_goto J 47 dX10_undone_43 (by decide) ?_
            refine j_iadd J dX10_undone_47 ?_
            refine j_istore_n J (lv' := [(1, .int (I (g + 1))), (2, .int (I i)), (0, .ref (ad 0))]) hl dX10_undone_48 rfl (by decide) rfl (fun ls hl => ?_)
            refine j_iinc J (lv' := [(2, .int (I (i + 1))), (1, .int (I (g + 1))), (0, .ref (ad 0))]) (k := 1) hl dX10_undone_49 rfl (by decide) rfl (fun ls hl => ?_)
            refine j_goto J 4 dX10_undone_52 (by decide) ?_
            exact ih4 (g + 1) (i + 1) (by omega) (by have hs9 := sumI_step (f := unfF σ) hi0.1; have e9 : unfF σ i = (if σ 1 i < σ 2 i then 1 else 0) := rfl; rw [e9] at hs9; (try split at hs9) <;> omega) (by omega) _ _ _ hw (lv_sub hl [0, 2, 1] rfl)
  exact L4 _ 0 0 (by omega) (sumI_0.symm) (Nat.lt_succ_self _) _ _ _ hw (lv_sub hl [0, 2, 1] rfl)
theorem k_X10_undone {p : Program} {l : Launch} {e : Env} {R : Room} {s : State} {m : MethodId} {args : Array Value} {below : List Frame} {meth : Method} {c : Code} {H : Heap} {locs : List Loc} {Q : State → Prop} {cc : ByteArray} {pc : Nat} {ls : Array Slot} {rest : List Value} {nL : Nat} {own : String} {D : va_G} {σ : St} {cI cZ : ClassId} {ad : Nat → Nat} {index : Nat}  (hD : ∀ τ, va_D (AD ad 45) (wsM cI cZ ad τ)) (hB : Bd σ) (J : Jx p m c cc nL s args own D [(cI, .int), (cZ, .boolean)] (AD ad 45) (wsM cI cZ ad)) (hw : jW D (AD ad 45) s.heap (wsM cI cZ ad σ) H locs) (hsz : ls.size = nL) (hlk : Cond.methodLink own index yX10_undone ∈ TBw) (hR : 1 ≤ R.frames ∧ 22 ≤ R.locals) (hroom : (rest.map fun v => v.category).sum ≤ 8) (hdg : decode cc pc = .ok (.invokevirtual index, 3)) (kk : ∀ (H1 : Heap) (locs1 : List Loc), jW D (AD ad 45) s.heap (wsM cI cZ ad σ) H1 locs1 → W p l e R s m args below meth c H1 locs1 0 0 Q (F0 m (pc + 3) ls (.int (I (sumI (unfF σ) (σ 18 0 * σ 18 1))) :: rest))) : W p l e R s m args below meth c H locs 0 0 Q (F0 m pc ls (.ref (ad 0) :: rest)) := 
  j_callVi J hw (c_X10_undone  hD hB) hlk in_X10_undone se_X10_undone ini_X10 co_X10_undone (n := 0) (by decide +kernel) ⟨rfl, rfl, hR.1, hR.2⟩ (j := 0) (ci := 10) rfl rfl rfl rfl hroom hsz ⟨Nat.zero_le _, Nat.zero_le _⟩ rfl hdg (fun r τ H1 locs1 hp hw1 => by obtain ⟨rfl, rfl⟩ := hp; exact kk H1 locs1 hw1)
def rm_X10_count : Room := { frames := 1, cells := 0, slots := 0, locals := 22 }
set_option maxHeartbeats 4000000 in
set_option maxRecDepth 100000 in
theorem c_X10_count {l : Launch} {D : va_G} {cI cZ : ClassId} {ad : Nat → Nat} {σ : St} {wh : Int} (hD : ∀ τ, va_D (AD ad 45) (wsM cI cZ ad τ)) (hB : Bd σ) (r_wh : rg wh) : JMi l yX10_count cX10_count 2 (some .int) rm_X10_count D [(cI, .int), (cZ, .boolean)] (AD ad 45) (wsM cI cZ ad) [.ref (ad 0), .int (I wh)] σ (fun r τ => r = (countS σ wh).1 ∧ Eqp τ (countS σ wh).2) := by
  refine JMi.of RX10 (by decide +kernel) rfl (Nat.le_of_ble_eq_true rfl) hD ?_
  intro p e s m args below meth c Q J fin H ls hw hl
  generalize ([] : List Loc) = locs at hw ⊢
  have hl : lv_has ls 2 [(0, .ref (ad 0)), (1, .int (I wh))] := hl
  have hd : Dim _ := hB.dim
  have hd1 := hd.1; have hd2 := hd.2.1; have hd3 := hd.2.2.1; have hd4 := hd.2.2.2; have hm := hd.mul
  have u_wh := r_wh; unfold rg at u_wh
  refine j_iload_n J dX10_count_0 rfl (lv_at hl 1 rfl) ?_
  rcases (show wh = 0 ∨ wh = 1 ∨ wh = 2 ∨ wh = 3 ∨ wh = 4 ∨ wh = 5 ∨ wh = 6 ∨ wh = 7 ∨ wh = 8 ∨ wh = 9 ∨ wh = 10 ∨ (wh < 0 ∨ 10 < wh) by omega) with hsw | hsw | hsw | hsw | hsw | hsw | hsw | hsw | hsw | hsw | hsw | hsw
  · refine j_tableIn J 0 60 hsw (by unfold rg; omega) dX10_count_1 (by decide) (by decide) rfl (by decide) ?_
    refine j_aload_n J dX10_count_60 rfl (lv_at hl 0 rfl) ?_
    refine mg_10_0 J hw lk_X10_7 dX10_count_61 ?_
    exact fin _ (σ) _ _ _ _ dX10_count_64 rfl (by first | (unfold countS; (repeat (first | rw [if_pos (by omega)] | rw [if_neg (by omega)])); exact ⟨rfl, Eqp.rf⟩) | (exfalso; omega)) hw
  · refine j_tableIn J 1 65 hsw (by unfold rg; omega) dX10_count_1 (by decide) (by decide) rfl (by decide) ?_
    refine j_aload_n J dX10_count_65 rfl (lv_at hl 0 rfl) ?_
    refine mg_10_1 J hw lk_X10_13 dX10_count_66 ?_
    exact fin _ (σ) _ _ _ _ dX10_count_69 rfl (by first | (unfold countS; (repeat (first | rw [if_pos (by omega)] | rw [if_neg (by omega)])); exact ⟨rfl, Eqp.rf⟩) | (exfalso; omega)) hw
  · refine j_tableIn J 2 70 hsw (by unfold rg; omega) dX10_count_1 (by decide) (by decide) rfl (by decide) ?_
    refine j_aload_n J dX10_count_70 rfl (lv_at hl 0 rfl) ?_
    refine mg_10_19 J hw lk_X10_76 dX10_count_71 ?_
    exact fin _ (σ) _ _ _ _ dX10_count_74 rfl (by first | (unfold countS; (repeat (first | rw [if_pos (by omega)] | rw [if_neg (by omega)])); exact ⟨rfl, Eqp.rf⟩) | (exfalso; omega)) hw
  · refine j_tableIn J 3 75 hsw (by unfold rg; omega) dX10_count_1 (by decide) (by decide) rfl (by decide) ?_
    refine j_aload_n J dX10_count_75 rfl (lv_at hl 0 rfl) ?_
    refine mg_10_20 J hw lk_X10_79 dX10_count_76 ?_
    exact fin _ (σ) _ _ _ _ dX10_count_79 rfl (by first | (unfold countS; (repeat (first | rw [if_pos (by omega)] | rw [if_neg (by omega)])); exact ⟨rfl, Eqp.rf⟩) | (exfalso; omega)) hw
  · refine j_tableIn J 4 80 hsw (by unfold rg; omega) dX10_count_1 (by decide) (by decide) rfl (by decide) ?_
    refine j_aload_n J dX10_count_80 rfl (lv_at hl 0 rfl) ?_
    refine mg_10_21 J hw lk_X10_82 dX10_count_81 ?_
    exact fin _ (σ) _ _ _ _ dX10_count_84 rfl (by first | (unfold countS; (repeat (first | rw [if_pos (by omega)] | rw [if_neg (by omega)])); exact ⟨rfl, Eqp.rf⟩) | (exfalso; omega)) hw
  · refine j_tableIn J 5 85 hsw (by unfold rg; omega) dX10_count_1 (by decide) (by decide) rfl (by decide) ?_
    refine j_aload_n J dX10_count_85 rfl (lv_at hl 0 rfl) ?_
    refine mg_10_22 J hw lk_X10_85 dX10_count_86 ?_
    exact fin _ (σ) _ _ _ _ dX10_count_89 rfl (by first | (unfold countS; (repeat (first | rw [if_pos (by omega)] | rw [if_neg (by omega)])); exact ⟨rfl, Eqp.rf⟩) | (exfalso; omega)) hw
  · refine j_tableIn J 6 90 hsw (by unfold rg; omega) dX10_count_1 (by decide) (by decide) rfl (by decide) ?_
    refine j_aload_n J dX10_count_90 rfl (lv_at hl 0 rfl) ?_
    refine mg_10_23 J hw lk_X10_88 dX10_count_91 ?_
    exact fin _ (σ) _ _ _ _ dX10_count_94 rfl (by first | (unfold countS; (repeat (first | rw [if_pos (by omega)] | rw [if_neg (by omega)])); exact ⟨rfl, Eqp.rf⟩) | (exfalso; omega)) hw
  · refine j_tableIn J 7 95 hsw (by unfold rg; omega) dX10_count_1 (by decide) (by decide) rfl (by decide) ?_
    refine j_aload_n J dX10_count_95 rfl (lv_at hl 0 rfl) ?_
    refine mg_10_24 J hw lk_X10_91 dX10_count_96 ?_
    exact fin _ (σ) _ _ _ _ dX10_count_99 rfl (by first | (unfold countS; (repeat (first | rw [if_pos (by omega)] | rw [if_neg (by omega)])); exact ⟨rfl, Eqp.rf⟩) | (exfalso; omega)) hw
  · refine j_tableIn J 8 100 hsw (by unfold rg; omega) dX10_count_1 (by decide) (by decide) rfl (by decide) ?_
    refine j_aload_n J dX10_count_100 rfl (lv_at hl 0 rfl) ?_
    refine mg_10_25 J hw lk_X10_94 dX10_count_101 ?_
    exact fin _ (σ) _ _ _ _ dX10_count_104 rfl (by first | (unfold countS; (repeat (first | rw [if_pos (by omega)] | rw [if_neg (by omega)])); exact ⟨rfl, Eqp.rf⟩) | (exfalso; omega)) hw
  · refine j_tableIn J 9 105 hsw (by unfold rg; omega) dX10_count_1 (by decide) (by decide) rfl (by decide) ?_
    refine j_aload_n J dX10_count_105 rfl (lv_at hl 0 rfl) ?_
    refine k_X10_undone (σ := σ) hD (show Bd σ from hB) J hw hl.1 lk_X10_134 ⟨Nat.le_of_ble_eq_true rfl, Nat.le_of_ble_eq_true rfl⟩ (Nat.le_of_ble_eq_true rfl) dX10_count_106 (fun H locs hw => ?_)
    exact fin _ (σ) _ _ _ _ dX10_count_109 rfl (by first | (unfold countS; (repeat (first | rw [if_pos (by omega)] | rw [if_neg (by omega)])); exact ⟨rfl, Eqp.rf⟩) | (exfalso; omega)) hw
  · refine j_tableIn J 10 110 hsw (by unfold rg; omega) dX10_count_1 (by decide) (by decide) rfl (by decide) ?_
    refine j_aload_n J dX10_count_110 rfl (lv_at hl 0 rfl) ?_
    refine mg_10_13 J hw lk_X10_73 dX10_count_111 ?_
    exact fin _ (σ) _ _ _ _ dX10_count_114 rfl (by first | (unfold countS; (repeat (first | rw [if_pos (by omega)] | rw [if_neg (by omega)])); exact ⟨rfl, Eqp.rf⟩) | (exfalso; omega)) hw
  · refine j_tableOut J 115 (show rg wh by unfold rg; omega) dX10_count_1 hsw (by decide) ?_
    refine j_iconst J (-1) dX10_count_115 ?_
    exact fin _ (σ) _ _ _ _ dX10_count_116 rfl (by first | (unfold countS; (repeat (first | rw [if_pos (by omega)] | rw [if_neg (by omega)])); exact ⟨rfl, Eqp.rf⟩) | (exfalso; omega)) hw
theorem k_X10_count {p : Program} {l : Launch} {e : Env} {R : Room} {s : State} {m : MethodId} {args : Array Value} {below : List Frame} {meth : Method} {c : Code} {H : Heap} {locs : List Loc} {Q : State → Prop} {cc : ByteArray} {pc : Nat} {ls : Array Slot} {rest : List Value} {nL : Nat} {own : String} {D : va_G} {σ : St} {cI cZ : ClassId} {ad : Nat → Nat} {index : Nat} {wh : Int} (hD : ∀ τ, va_D (AD ad 45) (wsM cI cZ ad τ)) (hB : Bd σ) (r_wh : rg wh) (J : Jx p m c cc nL s args own D [(cI, .int), (cZ, .boolean)] (AD ad 45) (wsM cI cZ ad)) (hw : jW D (AD ad 45) s.heap (wsM cI cZ ad σ) H locs) (hsz : ls.size = nL) (hlk : Cond.methodLink own index yX10_count ∈ TBw) (hR : 2 ≤ R.frames ∧ 43 ≤ R.locals) (hroom : (rest.map fun v => v.category).sum ≤ 8) (hdg : decode cc pc = .ok (.invokevirtual index, 3)) (kk : ∀ (r : Int) (τ : St) (H1 : Heap) (locs1 : List Loc), (fun r τ => r = (countS σ wh).1 ∧ Eqp τ (countS σ wh).2) r τ → jW D (AD ad 45) s.heap (wsM cI cZ ad τ) H1 locs1 → W p l e R s m args below meth c H1 locs1 0 0 Q (F0 m (pc + 3) ls (.int (I r) :: rest))) : W p l e R s m args below meth c H locs 0 0 Q (F0 m pc ls (.int (I wh) :: .ref (ad 0) :: rest)) := 
  j_callVi J hw (c_X10_count  hD hB r_wh) hlk in_X10_count se_X10_count ini_X10 co_X10_count (n := 1) (by decide +kernel) ⟨rfl, rfl, hR.1, hR.2⟩ (j := 0) (ci := 10) rfl rfl rfl rfl hroom hsz ⟨Nat.zero_le _, Nat.zero_le _⟩ rfl hdg kk
