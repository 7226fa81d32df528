/-! what the small loops make -/
def feN (σ : St) (h : Int) : Nat → Int → Int
  | 0, _ => -1
  | n + 1, x => if h ≤ σ 7 (x % 12) then x else feN σ h n (x + 1)
theorem feN_step {σ : St} {h x e : Int} (hx : x < e) (hn : ¬ h ≤ σ 7 (x % 12)) : feN σ h (e - x).toNat x = feN σ h ((e - x).toNat - 1) (x + 1) := by
  obtain ⟨k, hk⟩ : ∃ k, (e - x).toNat = k + 1 := ⟨(e - x).toNat - 1, by omega⟩
  rw [hk]
  show (if h ≤ σ 7 (x % 12) then x else feN σ h k (x + 1)) = _
  rw [if_neg hn]
  rfl
theorem feN_hit {σ : St} {h x e : Int} (hx : x < e) (hn : h ≤ σ 7 (x % 12)) : feN σ h (e - x).toNat x = x := by
  obtain ⟨k, hk⟩ : ∃ k, (e - x).toNat = k + 1 := ⟨(e - x).toNat - 1, by omega⟩
  rw [hk]
  exact if_pos hn
def tbS (σ : St) (n : Int) : St := fun k i => if k = 8 ∧ 0 ≤ i ∧ i < n then i else σ k i
theorem tbS_0 {σ : St} : tbS σ 0 = σ := by
  funext k i
  unfold tbS
  rw [if_neg (by omega)]
theorem tbS_step {σ : St} {n : Int} (h : 0 ≤ n) : st (tbS σ n) 8 n n = tbS σ (n + 1) := by
  funext k i
  show (if k = 8 ∧ i = n then n else (if k = 8 ∧ 0 ≤ i ∧ i < n then i else σ k i)) = (if k = 8 ∧ 0 ≤ i ∧ i < n + 1 then i else σ k i)
  by_cases h1 : k = 8 ∧ i = n
  · rw [if_pos h1, if_pos (by omega)]; omega
  · rw [if_neg h1]
    by_cases h2 : k = 8 ∧ 0 ≤ i ∧ i < n
    · rw [if_pos h2, if_pos (by omega)]
    · rw [if_neg h2, if_neg (by omega)]
/-- the hold's table, half changed -/
def hdS (σ : St) (t v lo mid hi : Int) : St := fun k i => if k = 8 ∧ 1 ≤ i ∧ i < lo then min v (σ 8 i) else if k = 8 ∧ i = t ∧ mid = 1 then v else if k = 8 ∧ t < i ∧ i < hi then max v (σ 8 i) else σ k i
theorem hdS_0 {σ : St} {t v : Int} : hdS σ t v 1 0 (t + 1) = σ := by
  funext k i
  unfold hdS
  rw [if_neg (by omega), if_neg (by omega), if_neg (by omega)]
theorem hdS_at1 {σ : St} {t v i : Int} (h : i < t) : hdS σ t v i 0 (t + 1) 8 i = σ 8 i := by
  unfold hdS
  rw [if_neg (by omega), if_neg (by omega), if_neg (by omega)]
theorem hdS_at2 {σ : St} {t v i : Int} (h : t < i) : hdS σ t v t 1 i 8 i = σ 8 i := by
  unfold hdS
  rw [if_neg (by omega), if_neg (by omega), if_neg (by omega)]
theorem hdS_lo {σ : St} {t v i : Int} (h0 : 1 ≤ i) (h : i < t) : st (hdS σ t v i 0 (t + 1)) 8 i (min v (σ 8 i)) = hdS σ t v (i + 1) 0 (t + 1) := by
  funext k j
  unfold st
  by_cases h1 : k = 8 ∧ j = i
  · rw [if_pos h1]; unfold hdS; rw [if_pos (by omega), h1.2]
  · rw [if_neg h1]; unfold hdS
    by_cases h2 : k = 8 ∧ 1 ≤ j ∧ j < i
    · rw [if_pos h2, if_pos (by omega)]
    · rw [if_neg h2, if_neg (by omega), if_neg (show ¬ (k = 8 ∧ 1 ≤ j ∧ j < i + 1) by omega)]
theorem hdS_mid {σ : St} {t v : Int} (h : 1 ≤ t) : st (hdS σ t v t 0 (t + 1)) 8 t v = hdS σ t v t 1 (t + 1) := by
  funext k j
  unfold st
  by_cases h1 : k = 8 ∧ j = t
  · rw [if_pos h1]; unfold hdS; rw [if_neg (by omega), if_pos (by omega)]
  · rw [if_neg h1]; unfold hdS
    by_cases h2 : k = 8 ∧ 1 ≤ j ∧ j < t
    · rw [if_pos h2, if_pos h2]
    · rw [if_neg h2, if_neg h2, if_neg (by omega), if_neg (by omega), if_neg (by omega)]
theorem hdS_hi {σ : St} {t v i : Int} (h : t + 1 ≤ i) : st (hdS σ t v t 1 i) 8 i (max v (σ 8 i)) = hdS σ t v t 1 (i + 1) := by
  funext k j
  unfold st
  by_cases h1 : k = 8 ∧ j = i
  · rw [if_pos h1]; unfold hdS; rw [if_neg (by omega), if_neg (by omega), if_pos (by omega), h1.2]
  · rw [if_neg h1]; unfold hdS
    by_cases h2 : k = 8 ∧ 1 ≤ j ∧ j < t
    · rw [if_pos h2, if_pos h2]
    · rw [if_neg h2, if_neg h2]
      by_cases h3 : k = 8 ∧ j = t ∧ (1 : Int) = 1
      · rw [if_pos h3, if_pos h3]
      · rw [if_neg h3, if_neg h3]
        by_cases h4 : k = 8 ∧ t < j ∧ j < i
        · rw [if_pos h4, if_pos (by omega)]
        · rw [if_neg h4, if_neg (by omega)]
/-- BEST, found up to the n-th minute behind the first -/
def bsN (σ : St) (a : Int) : Nat → Int
  | 0 => 1
  | n + 1 => if σ 8 (bsN σ a n) * (((n : Int) + 2) + 120 * a) < σ 8 ((n : Int) + 2) * (bsN σ a n + 120 * a) then (n : Int) + 2 else bsN σ a n
theorem bsN_yes {σ : St} {a t f : Int} (ht : 2 ≤ t) (hf : f = bsN σ a (t - 2).toNat) (h : σ 8 f * (t + 120 * a) < σ 8 t * (f + 120 * a)) : t = bsN σ a ((t - 2).toNat + 1) := by
  show t = if σ 8 (bsN σ a (t - 2).toNat) * (((((t - 2).toNat : Nat) : Int) + 2) + 120 * a) < σ 8 ((((t - 2).toNat : Nat) : Int) + 2) * (bsN σ a (t - 2).toNat + 120 * a) then (((t - 2).toNat : Nat) : Int) + 2 else bsN σ a (t - 2).toNat
  rw [← hf, show (((t - 2).toNat : Nat) : Int) + 2 = t by omega, if_pos h]
theorem bsN_no {σ : St} {a t f : Int} (ht : 2 ≤ t) (hf : f = bsN σ a (t - 2).toNat) (h : ¬ σ 8 f * (t + 120 * a) < σ 8 t * (f + 120 * a)) : f = bsN σ a ((t - 2).toNat + 1) := by
  show f = if σ 8 (bsN σ a (t - 2).toNat) * (((((t - 2).toNat : Nat) : Int) + 2) + 120 * a) < σ 8 ((((t - 2).toNat : Nat) : Int) + 2) * (bsN σ a (t - 2).toNat + 120 * a) then (((t - 2).toNat : Nat) : Int) + 2 else bsN σ a (t - 2).toNat
  rw [← hf, show (((t - 2).toNat : Nat) : Int) + 2 = t by omega, if_neg h]
/-- the POSTS up to the n-th, as an hour's end finds them -/
def wtS (σ : St) (n : Int) : St := fun k i => if k = 15 ∧ 0 ≤ i ∧ i < n ∧ σ 14 i < σ 4 (σ 13 i) then σ 15 i + 1 else σ k i
theorem wtS_0 {σ : St} : wtS σ 0 = σ := by
  funext k i
  unfold wtS
  rw [if_neg (by omega)]
theorem wtS_at {σ : St} {n : Int} : wtS σ n 15 n = σ 15 n := by
  unfold wtS
  rw [if_neg (by omega)]
theorem wtS_yes {σ : St} {n : Int} (h : 0 ≤ n) (hc : σ 14 n < σ 4 (σ 13 n)) : st (wtS σ n) 15 n (wtS σ n 15 n + 1) = wtS σ (n + 1) := by
  rw [wtS_at]
  funext k i
  unfold st
  by_cases h1 : k = 15 ∧ i = n
  · obtain ⟨rfl, rfl⟩ := h1
    rw [if_pos ⟨rfl, rfl⟩]; unfold wtS; rw [if_pos ⟨rfl, by omega, by omega, hc⟩]
  · rw [if_neg h1]; unfold wtS
    by_cases h2 : k = 15 ∧ 0 ≤ i ∧ i < n ∧ σ 14 i < σ 4 (σ 13 i)
    · rw [if_pos h2, if_pos ⟨h2.1, h2.2.1, by omega, h2.2.2.2⟩]
    · rw [if_neg h2, if_neg (fun h3 => h2 ⟨h3.1, h3.2.1, by have := h3.2.2.1; omega, h3.2.2.2⟩)]
theorem wtS_no {σ : St} {n : Int} (h : 0 ≤ n) (hc : ¬ σ 14 n < σ 4 (σ 13 n)) : wtS σ n = wtS σ (n + 1) := by
  funext k i
  unfold wtS
  by_cases h2 : k = 15 ∧ 0 ≤ i ∧ i < n ∧ σ 14 i < σ 4 (σ 13 i)
  · rw [if_pos h2, if_pos ⟨h2.1, h2.2.1, by omega, h2.2.2.2⟩]
  · rw [if_neg h2, if_neg (fun h3 => h2 ⟨h3.1, h3.2.1, by have := h3.2.2.1; have : i ≠ n := (fun e => by subst e; exact hc h3.2.2.2); omega, h3.2.2.2⟩)]
def rm_X9_within : Room := { frames := 0, cells := 0, slots := 0, locals := 0 }
set_option maxHeartbeats 4000000 in
set_option maxRecDepth 100000 in
theorem c_X9_within {l : Launch} {D : va_G} {cI cZ : ClassId} {ad : Nat → Nat} {σ : St} {v lo hi : Int} (hD : ∀ τ, va_D (AD ad 45) (wsX cI ad τ)) (r_v : rg v) (r_lo : rg lo) (r_hi : rg hi) : JMi l yX9_within cX9_within 3 (some .boolean) rm_X9_within D [(cI, .int), (cZ, .boolean)] (AD ad 45) (wsX cI ad) [.int (I v), .int (I lo), .int (I hi)] σ (fun r τ => r = (if lo ≤ v ∧ v ≤ hi then 1 else 0) ∧ τ = σ) := by
  refine JMi.of RX9 (by decide +kernel) rfl (Nat.le_of_ble_eq_true rfl) hD ?_
  intro p e s m args below meth c Q J fin H ls hw hl
  generalize ([] : List Loc) = locs at hw ⊢
  have hl : lv_has ls 3 [(0, .int (I v)), (1, .int (I lo)), (2, .int (I hi))] := hl
  refine j_iload_n J dX9_within_0 rfl (lv_at hl 0 rfl) ?_
  refine j_iload_n J dX9_within_1 rfl (lv_at hl 1 rfl) ?_
  refine j_icmp_lt J 14 (by assumption) (by assumption) dX9_within_2 (by decide) (fun (h_1 : v < lo) => ?_) (fun (h_1 : lo ≤ v) => ?_)
  · refine j_iconst J (0) dX9_within_14 ?_
    exact fin _ _ _ _ _ _ dX9_within_15 rfl (⟨by first | exact (if_pos (by omega)).symm | exact (if_neg (by omega)).symm, rfl⟩) hw
  · refine j_iload_n J dX9_within_5 rfl (lv_at hl 0 rfl) ?_
    refine j_iload_n J dX9_within_6 rfl (lv_at hl 2 rfl) ?_
    refine j_icmp_gt J 14 (by assumption) (by assumption) dX9_within_7 (by decide) (fun (h_2 : hi < v) => ?_) (fun (h_2 : v ≤ hi) => ?_)
    · refine j_iconst J (0) dX9_within_14 ?_
      exact fin _ _ _ _ _ _ dX9_within_15 rfl (⟨by first | exact (if_pos (by omega)).symm | exact (if_neg (by omega)).symm, rfl⟩) hw
    · refine j_iconst J (1) dX9_within_10 ?_
      refine j_goto J 15 dX9_within_11 (by decide) ?_
      exact fin _ _ _ _ _ _ dX9_within_15 rfl (⟨by first | exact (if_pos (by omega)).symm | exact (if_neg (by omega)).symm, rfl⟩) hw
theorem k_X9_within {p : Program} {l : Launch} {e : Env} {R : Room} {s : State} {m : MethodId} {args : Array Value} {below : List Frame} {meth : Method} {c : Code} {H : Heap} {locs : List Loc} {Q : State → Prop} {cc : ByteArray} {pc : Nat} {ls : Array Slot} {rest : List Value} {nL : Nat} {D : va_G} {σ : St} {cI cZ : ClassId} {ad : Nat → Nat} {index : Nat} {v lo hi : Int} (hD : ∀ τ, va_D (AD ad 45) (wsX cI ad τ)) (r_v : rg v) (r_lo : rg lo) (r_hi : rg hi) (J : Jx p m c cc nL s args RX9 D [(cI, .int), (cZ, .boolean)] (AD ad 45) (wsX cI ad)) (hw : jW D (AD ad 45) s.heap (wsX cI ad σ) H locs) (hsz : ls.size = nL) (hlk : Cond.methodLink RX9 index yX9_within ∈ TBw) (hR : 1 ≤ R.frames ∧ 22 ≤ R.locals) (hroom : (rest.map fun v => v.category).sum ≤ 8) (hdg : decode cc pc = .ok (.invokestatic index, 3)) (kk : ∀ (H1 : Heap) (locs1 : List Loc), jW D (AD ad 45) s.heap (wsX cI ad σ) H1 locs1 → W p l e R s m args below meth c H1 locs1 0 0 Q (F0 m (pc + 3) ls (.int (I (if lo ≤ v ∧ v ≤ hi then 1 else 0)) :: rest))) : W p l e R s m args below meth c H locs 0 0 Q (F0 m pc ls (.int (I hi) :: .int (I lo) :: .int (I v) :: rest)) := 
  j_callSi J hw (c_X9_within  hD r_v r_lo r_hi) hlk sta_X9_within ini_X9 co_X9_within (n := 3) (by decide +kernel) ⟨rfl, rfl, hR.1, hR.2⟩ rfl hroom hsz ⟨Nat.zero_le _, Nat.zero_le _⟩ rfl hdg (fun r τ H1 locs1 hp hw1 => by obtain ⟨rfl, rfl⟩ := hp; exact kk H1 locs1 hw1)
theorem kn_X9_within {p : Program} {l : Launch} {e : Env} {R : Room} {s : State} {m : MethodId} {args : Array Value} {below : List Frame} {meth : Method} {c : Code} {H : Heap} {locs : List Loc} {Q : State → Prop} {cc : ByteArray} {pc : Nat} {ls : Array Slot} {rest : List Value} {nL : Nat} {own : String} {D : va_G} {σ : St} {cI cZ : ClassId} {ad : Nat → Nat} {index : Nat} {v lo hi : Int} (hD : ∀ τ, va_D (AD ad 45) (wsX cI ad τ)) (r_v : rg v) (r_lo : rg lo) (r_hi : rg hi) (J : Jx p m c cc nL s args own D [(cI, .int), (cZ, .boolean)] (AD ad 45) (wsX cI ad)) (hw : jW D (AD ad 45) s.heap (wsX cI ad σ) H locs) (hsz : ls.size = nL) (hlk : Cond.methodLinkNest own index yX9_within RX9 ∈ nwList) (hR : 1 ≤ R.frames ∧ 22 ≤ R.locals) (hroom : (rest.map fun v => v.category).sum ≤ 8) (hdg : decode cc pc = .ok (.invokestatic index, 3)) (kk : ∀ (H1 : Heap) (locs1 : List Loc), jW D (AD ad 45) s.heap (wsX cI ad σ) H1 locs1 → W p l e R s m args below meth c H1 locs1 0 0 Q (F0 m (pc + 3) ls (.int (I (if lo ≤ v ∧ v ≤ hi then 1 else 0)) :: rest))) : W p l e R s m args below meth c H locs 0 0 Q (F0 m pc ls (.int (I hi) :: .int (I lo) :: .int (I v) :: rest)) := 
  j_callNi J hw (c_X9_within  hD r_v r_lo r_hi) hlk sta_X9_within ini_X9 co_X9_within (n := 3) (by decide +kernel) ⟨rfl, rfl, hR.1, hR.2⟩ rfl hroom hsz ⟨Nat.zero_le _, Nat.zero_le _⟩ rfl hdg (fun r τ H1 locs1 hp hw1 => by obtain ⟨rfl, rfl⟩ := hp; exact kk H1 locs1 hw1)
def rm_X9_leastOfRule : Room := { frames := 0, cells := 0, slots := 0, locals := 0 }
set_option maxHeartbeats 4000000 in
set_option maxRecDepth 100000 in
theorem c_X9_leastOfRule {l : Launch} {D : va_G} {cI cZ : ClassId} {ad : Nat → Nat} {σ : St} {w : Int} (hD : ∀ τ, va_D (AD ad 45) (wsX cI ad τ)) (r_w : rg w) : JMi l yX9_leastOfRule cX9_leastOfRule 1 (some .int) rm_X9_leastOfRule D [(cI, .int), (cZ, .boolean)] (AD ad 45) (wsX cI ad) [.int (I w)] σ (fun r τ => r = (if w = 4 then -1 else 0) ∧ τ = σ) := by
  refine JMi.of RX9 (by decide +kernel) rfl (Nat.le_of_ble_eq_true rfl) hD ?_
  intro p e s m args below meth c Q J fin H ls hw hl
  generalize ([] : List Loc) = locs at hw ⊢
  have hl : lv_has ls 1 [(0, .int (I w))] := hl
  have u_w := r_w; unfold rg at u_w
  refine j_iload_n J dX9_leastOfRule_0 rfl (lv_at hl 0 rfl) ?_
  refine j_iconst J (4) dX9_leastOfRule_1 ?_
  refine j_icmp_ne J 9 (show rg w by unfold rg; omega) (by unfold rg; omega) dX9_leastOfRule_2 (by decide) (fun (h_1 : ¬ w = 4) => ?_) (fun (h_1 : w = 4) => ?_)
  · refine j_iconst J (0) dX9_leastOfRule_9 ?_
    exact fin _ _ _ _ _ _ dX9_leastOfRule_10 rfl (⟨by first | exact (if_pos (by omega)).symm | exact (if_neg (by omega)).symm, rfl⟩) hw
  · refine j_iconst J (-1) dX9_leastOfRule_5 ?_
    refine j_goto J 10 dX9_leastOfRule_6 (by decide) ?_
    exact fin _ _ _ _ _ _ dX9_leastOfRule_10 rfl (⟨by first | exact (if_pos (by omega)).symm | exact (if_neg (by omega)).symm, rfl⟩) hw
theorem k_X9_leastOfRule {p : Program} {l : Launch} {e : Env} {R : Room} {s : State} {m : MethodId} {args : Array Value} {below : List Frame} {meth : Method} {c : Code} {H : Heap} {locs : List Loc} {Q : State → Prop} {cc : ByteArray} {pc : Nat} {ls : Array Slot} {rest : List Value} {nL : Nat} {D : va_G} {σ : St} {cI cZ : ClassId} {ad : Nat → Nat} {index : Nat} {w : Int} (hD : ∀ τ, va_D (AD ad 45) (wsX cI ad τ)) (r_w : rg w) (J : Jx p m c cc nL s args RX9 D [(cI, .int), (cZ, .boolean)] (AD ad 45) (wsX cI ad)) (hw : jW D (AD ad 45) s.heap (wsX cI ad σ) H locs) (hsz : ls.size = nL) (hlk : Cond.methodLink RX9 index yX9_leastOfRule ∈ TBw) (hR : 1 ≤ R.frames ∧ 20 ≤ R.locals) (hroom : (rest.map fun v => v.category).sum ≤ 8) (hdg : decode cc pc = .ok (.invokestatic index, 3)) (kk : ∀ (H1 : Heap) (locs1 : List Loc), jW D (AD ad 45) s.heap (wsX cI ad σ) H1 locs1 → W p l e R s m args below meth c H1 locs1 0 0 Q (F0 m (pc + 3) ls (.int (I (if w = 4 then -1 else 0)) :: rest))) : W p l e R s m args below meth c H locs 0 0 Q (F0 m pc ls (.int (I w) :: rest)) := 
  j_callSi J hw (c_X9_leastOfRule  hD r_w) hlk sta_X9_leastOfRule ini_X9 co_X9_leastOfRule (n := 1) (by decide +kernel) ⟨rfl, rfl, hR.1, hR.2⟩ rfl hroom hsz ⟨Nat.zero_le _, Nat.zero_le _⟩ rfl hdg (fun r τ H1 locs1 hp hw1 => by obtain ⟨rfl, rfl⟩ := hp; exact kk H1 locs1 hw1)
theorem kn_X9_leastOfRule {p : Program} {l : Launch} {e : Env} {R : Room} {s : State} {m : MethodId} {args : Array Value} {below : List Frame} {meth : Method} {c : Code} {H : Heap} {locs : List Loc} {Q : State → Prop} {cc : ByteArray} {pc : Nat} {ls : Array Slot} {rest : List Value} {nL : Nat} {own : String} {D : va_G} {σ : St} {cI cZ : ClassId} {ad : Nat → Nat} {index : Nat} {w : Int} (hD : ∀ τ, va_D (AD ad 45) (wsX cI ad τ)) (r_w : rg w) (J : Jx p m c cc nL s args own D [(cI, .int), (cZ, .boolean)] (AD ad 45) (wsX cI ad)) (hw : jW D (AD ad 45) s.heap (wsX cI ad σ) H locs) (hsz : ls.size = nL) (hlk : Cond.methodLinkNest own index yX9_leastOfRule RX9 ∈ nwList) (hR : 1 ≤ R.frames ∧ 20 ≤ R.locals) (hroom : (rest.map fun v => v.category).sum ≤ 8) (hdg : decode cc pc = .ok (.invokestatic index, 3)) (kk : ∀ (H1 : Heap) (locs1 : List Loc), jW D (AD ad 45) s.heap (wsX cI ad σ) H1 locs1 → W p l e R s m args below meth c H1 locs1 0 0 Q (F0 m (pc + 3) ls (.int (I (if w = 4 then -1 else 0)) :: rest))) : W p l e R s m args below meth c H locs 0 0 Q (F0 m pc ls (.int (I w) :: rest)) := 
  j_callNi J hw (c_X9_leastOfRule  hD r_w) hlk sta_X9_leastOfRule ini_X9 co_X9_leastOfRule (n := 1) (by decide +kernel) ⟨rfl, rfl, hR.1, hR.2⟩ rfl hroom hsz ⟨Nat.zero_le _, Nat.zero_le _⟩ rfl hdg (fun r τ H1 locs1 hp hw1 => by obtain ⟨rfl, rfl⟩ := hp; exact kk H1 locs1 hw1)
def rm_X9_mostOfRule : Room := { frames := 0, cells := 0, slots := 0, locals := 0 }
set_option maxHeartbeats 4000000 in
set_option maxRecDepth 100000 in
theorem c_X9_mostOfRule {l : Launch} {D : va_G} {cI cZ : ClassId} {ad : Nat → Nat} {σ : St} {w : Int} (hD : ∀ τ, va_D (AD ad 45) (wsX cI ad τ)) (r_w : rg w) : JMi l yX9_mostOfRule cX9_mostOfRule 1 (some .int) rm_X9_mostOfRule D [(cI, .int), (cZ, .boolean)] (AD ad 45) (wsX cI ad) [.int (I w)] σ (fun r τ => r = (if w = 0 then 50 else if w = 4 then 1 else 400) ∧ τ = σ) := by
  refine JMi.of RX9 (by decide +kernel) rfl (Nat.le_of_ble_eq_true rfl) hD ?_
  intro p e s m args below meth c Q J fin H ls hw hl
  generalize ([] : List Loc) = locs at hw ⊢
  have hl : lv_has ls 1 [(0, .int (I w))] := hl
  have u_w := r_w; unfold rg at u_w
  refine j_iload_n J dX9_mostOfRule_0 rfl (lv_at hl 0 rfl) ?_
  refine j_if_ne J 7 (show rg w by unfold rg; omega) dX9_mostOfRule_1 (by decide) (fun (h_1 : ¬ w = 0) => ?_) (fun (h_1 : w = 0) => ?_)
  · refine j_iload_n J dX9_mostOfRule_7 rfl (lv_at hl 0 rfl) ?_
    refine j_iconst J (4) dX9_mostOfRule_8 ?_
    refine j_icmp_ne J 16 (show rg w by unfold rg; omega) (by unfold rg; omega) dX9_mostOfRule_9 (by decide) (fun (h_2 : ¬ w = 4) => ?_) (fun (h_2 : w = 4) => ?_)
    · refine j_sipush J (400) dX9_mostOfRule_16 (by decide) ?_
      exact fin _ _ _ _ _ _ dX9_mostOfRule_19 rfl (⟨by first | exact (if_pos (by omega)).symm | (rw [if_neg (by omega)]; first | exact (if_pos (by omega)).symm | exact (if_neg (by omega)).symm), rfl⟩) hw
    · refine j_iconst J (1) dX9_mostOfRule_12 ?_
      refine j_goto J 19 dX9_mostOfRule_13 (by decide) ?_
      exact fin _ _ _ _ _ _ dX9_mostOfRule_19 rfl (⟨by first | exact (if_pos (by omega)).symm | (rw [if_neg (by omega)]; first | exact (if_pos (by omega)).symm | exact (if_neg (by omega)).symm), rfl⟩) hw
  · refine j_bipush J (50) dX9_mostOfRule_4 (by decide) ?_
    exact fin _ _ _ _ _ _ dX9_mostOfRule_6 rfl (⟨by first | exact (if_pos (by omega)).symm | (rw [if_neg (by omega)]; first | exact (if_pos (by omega)).symm | exact (if_neg (by omega)).symm), rfl⟩) hw
theorem k_X9_mostOfRule {p : Program} {l : Launch} {e : Env} {R : Room} {s : State} {m : MethodId} {args : Array Value} {below : List Frame} {meth : Method} {c : Code} {H : Heap} {locs : List Loc} {Q : State → Prop} {cc : ByteArray} {pc : Nat} {ls : Array Slot} {rest : List Value} {nL : Nat} {D : va_G} {σ : St} {cI cZ : ClassId} {ad : Nat → Nat} {index : Nat} {w : Int} (hD : ∀ τ, va_D (AD ad 45) (wsX cI ad τ)) (r_w : rg w) (J : Jx p m c cc nL s args RX9 D [(cI, .int), (cZ, .boolean)] (AD ad 45) (wsX cI ad)) (hw : jW D (AD ad 45) s.heap (wsX cI ad σ) H locs) (hsz : ls.size = nL) (hlk : Cond.methodLink RX9 index yX9_mostOfRule ∈ TBw) (hR : 1 ≤ R.frames ∧ 20 ≤ R.locals) (hroom : (rest.map fun v => v.category).sum ≤ 8) (hdg : decode cc pc = .ok (.invokestatic index, 3)) (kk : ∀ (H1 : Heap) (locs1 : List Loc), jW D (AD ad 45) s.heap (wsX cI ad σ) H1 locs1 → W p l e R s m args below meth c H1 locs1 0 0 Q (F0 m (pc + 3) ls (.int (I (if w = 0 then 50 else if w = 4 then 1 else 400)) :: rest))) : W p l e R s m args below meth c H locs 0 0 Q (F0 m pc ls (.int (I w) :: rest)) := 
  j_callSi J hw (c_X9_mostOfRule  hD r_w) hlk sta_X9_mostOfRule ini_X9 co_X9_mostOfRule (n := 1) (by decide +kernel) ⟨rfl, rfl, hR.1, hR.2⟩ rfl hroom hsz ⟨Nat.zero_le _, Nat.zero_le _⟩ rfl hdg (fun r τ H1 locs1 hp hw1 => by obtain ⟨rfl, rfl⟩ := hp; exact kk H1 locs1 hw1)
theorem kn_X9_mostOfRule {p : Program} {l : Launch} {e : Env} {R : Room} {s : State} {m : MethodId} {args : Array Value} {below : List Frame} {meth : Method} {c : Code} {H : Heap} {locs : List Loc} {Q : State → Prop} {cc : ByteArray} {pc : Nat} {ls : Array Slot} {rest : List Value} {nL : Nat} {own : String} {D : va_G} {σ : St} {cI cZ : ClassId} {ad : Nat → Nat} {index : Nat} {w : Int} (hD : ∀ τ, va_D (AD ad 45) (wsX cI ad τ)) (r_w : rg w) (J : Jx p m c cc nL s args own D [(cI, .int), (cZ, .boolean)] (AD ad 45) (wsX cI ad)) (hw : jW D (AD ad 45) s.heap (wsX cI ad σ) H locs) (hsz : ls.size = nL) (hlk : Cond.methodLinkNest own index yX9_mostOfRule RX9 ∈ nwList) (hR : 1 ≤ R.frames ∧ 20 ≤ R.locals) (hroom : (rest.map fun v => v.category).sum ≤ 8) (hdg : decode cc pc = .ok (.invokestatic index, 3)) (kk : ∀ (H1 : Heap) (locs1 : List Loc), jW D (AD ad 45) s.heap (wsX cI ad σ) H1 locs1 → W p l e R s m args below meth c H1 locs1 0 0 Q (F0 m (pc + 3) ls (.int (I (if w = 0 then 50 else if w = 4 then 1 else 400)) :: rest))) : W p l e R s m args below meth c H locs 0 0 Q (F0 m pc ls (.int (I w) :: rest)) := 
  j_callNi J hw (c_X9_mostOfRule  hD r_w) hlk sta_X9_mostOfRule ini_X9 co_X9_mostOfRule (n := 1) (by decide +kernel) ⟨rfl, rfl, hR.1, hR.2⟩ rfl hroom hsz ⟨Nat.zero_le _, Nat.zero_le _⟩ rfl hdg (fun r τ H1 locs1 hp hw1 => by obtain ⟨rfl, rfl⟩ := hp; exact kk H1 locs1 hw1)
def rm_X1_size : Room := { frames := 0, cells := 0, slots := 0, locals := 0 }
set_option maxHeartbeats 4000000 in
set_option maxRecDepth 100000 in
theorem c_X1_size {l : Launch} {D : va_G} {cI cZ : ClassId} {ad : Nat → Nat} {σ : St}  (hD : ∀ τ, va_D (AD ad 45) (wsX cI ad τ))  : JMi l yX1_size cX1_size 1 (some .int) rm_X1_size D [(cI, .int), (cZ, .boolean)] (AD ad 45) (wsX cI ad) [.ref (ad 1)] σ (fun r τ => r = (σ 18 0 * σ 18 1) ∧ τ = σ) := by
  refine JMi.of RX1 (by decide +kernel) rfl (Nat.le_of_ble_eq_true rfl) hD ?_
  intro p e s m args below meth c Q J fin H ls hw hl
  generalize ([] : List Loc) = locs at hw ⊢
  have hl : lv_has ls 1 [(0, .ref (ad 1))] := hl
  refine j_aload_n J dX1_size_0 rfl (lv_at hl 0 rfl) ?_
  refine xg_1_3 J hw lk_X1_26 dX1_size_1 ?_
  refine j_aload_n J dX1_size_4 rfl (lv_at hl 0 rfl) ?_
  refine xg_1_4 J hw lk_X1_30 dX1_size_5 ?_
  refine j_imul J dX1_size_8 ?_
  exact fin _ _ _ _ _ _ dX1_size_9 rfl (⟨by first | rfl | exact (if_pos (by omega)).symm | exact (if_neg (by omega)).symm | omega, rfl⟩) hw
theorem k_X1_size {p : Program} {l : Launch} {e : Env} {R : Room} {s : State} {m : MethodId} {args : Array Value} {below : List Frame} {meth : Method} {c : Code} {H : Heap} {locs : List Loc} {Q : State → Prop} {cc : ByteArray} {pc : Nat} {ls : Array Slot} {rest : List Value} {nL : Nat} {own : String} {D : va_G} {σ : St} {cI cZ : ClassId} {ad : Nat → Nat} {index : Nat}  (hD : ∀ τ, va_D (AD ad 45) (wsX cI ad τ))  (J : Jx p m c cc nL s args own D [(cI, .int), (cZ, .boolean)] (AD ad 45) (wsX cI ad)) (hw : jW D (AD ad 45) s.heap (wsX cI ad σ) H locs) (hsz : ls.size = nL) (hlk : Cond.methodLink own index yX1_size ∈ TBw) (hR : 1 ≤ R.frames ∧ 20 ≤ R.locals) (hroom : (rest.map fun v => v.category).sum ≤ 8) (hdg : decode cc pc = .ok (.invokevirtual index, 3)) (kk : ∀ (H1 : Heap) (locs1 : List Loc), jW D (AD ad 45) s.heap (wsX cI ad σ) H1 locs1 → W p l e R s m args below meth c H1 locs1 0 0 Q (F0 m (pc + 3) ls (.int (I (σ 18 0 * σ 18 1)) :: rest))) : W p l e R s m args below meth c H locs 0 0 Q (F0 m pc ls (.ref (ad 1) :: rest)) := 
  j_callVi J hw (c_X1_size  hD ) hlk in_X1_size se_X1_size ini_X1 co_X1_size (n := 0) (by decide +kernel) ⟨rfl, rfl, hR.1, hR.2⟩ (j := 1) (ci := 1) rfl rfl rfl rfl hroom hsz ⟨Nat.zero_le _, Nat.zero_le _⟩ rfl hdg (fun r τ H1 locs1 hp hw1 => by obtain ⟨rfl, rfl⟩ := hp; exact kk H1 locs1 hw1)
def rm_X1_has : Room := { frames := 1, cells := 0, slots := 0, locals := 22 }
set_option maxHeartbeats 4000000 in
set_option maxRecDepth 100000 in
theorem c_X1_has {l : Launch} {D : va_G} {cI cZ : ClassId} {ad : Nat → Nat} {σ : St} {cell : Int} (hD : ∀ τ, va_D (AD ad 45) (wsX cI ad τ)) (hd : Dim σ) (r_cell : rg cell) : JMi l yX1_has cX1_has 2 (some .boolean) rm_X1_has D [(cI, .int), (cZ, .boolean)] (AD ad 45) (wsX cI ad) [.ref (ad 1), .int (I cell)] σ (fun r τ => r = (if 0 ≤ cell ∧ cell ≤ σ 18 0 * σ 18 1 - 1 then 1 else 0) ∧ τ = σ) := by
  refine JMi.of RX1 (by decide +kernel) rfl (Nat.le_of_ble_eq_true rfl) hD ?_
  intro p e s m args below meth c Q J fin H ls hw hl
  generalize ([] : List Loc) = locs at hw ⊢
  have hl : lv_has ls 2 [(0, .ref (ad 1)), (1, .int (I cell))] := hl
  have hd1 := hd.1; have hd2 := hd.2.1; have hd3 := hd.2.2.1; have hd4 := hd.2.2.2; have hm := hd.mul
  have u_cell := r_cell; unfold rg at u_cell
  refine j_iload_n J dX1_has_0 rfl (lv_at hl 1 rfl) ?_
  refine j_iconst J (0) dX1_has_1 ?_
  refine j_aload_n J dX1_has_2 rfl (lv_at hl 0 rfl) ?_
  refine k_X1_size  hD  J hw hl.1 lk_X1_39 ⟨Nat.le_of_ble_eq_true rfl, Nat.le_of_ble_eq_true rfl⟩ (Nat.le_of_ble_eq_true rfl) dX1_has_3 (fun H locs hw => ?_)
  refine j_iconst J (1) dX1_has_6 ?_
  refine j_isub J dX1_has_7 ?_
  refine kn_X9_within (v := cell) (lo := 0) (hi := (σ 18 0 * σ 18 1) - 1) hD (by unfold rg; omega) (by unfold rg; omega) (by unfold rg; omega) J hw hl.1 (List.mem_of_getElem? (i := 8) rfl) ⟨Nat.le_of_ble_eq_true rfl, Nat.le_of_ble_eq_true rfl⟩ (Nat.le_of_ble_eq_true rfl) dX1_has_8 (fun H locs hw => ?_)
  exact fin _ _ _ _ _ _ dX1_has_11 (by split <;> rfl) (⟨rfl, rfl⟩) hw
theorem k_X1_has {p : Program} {l : Launch} {e : Env} {R : Room} {s : State} {m : MethodId} {args : Array Value} {below : List Frame} {meth : Method} {c : Code} {H : Heap} {locs : List Loc} {Q : State → Prop} {cc : ByteArray} {pc : Nat} {ls : Array Slot} {rest : List Value} {nL : Nat} {own : String} {D : va_G} {σ : St} {cI cZ : ClassId} {ad : Nat → Nat} {index : Nat} {cell : Int} (hD : ∀ τ, va_D (AD ad 45) (wsX cI ad τ)) (hd : Dim σ) (r_cell : rg cell) (J : Jx p m c cc nL s args own D [(cI, .int), (cZ, .boolean)] (AD ad 45) (wsX cI ad)) (hw : jW D (AD ad 45) s.heap (wsX cI ad σ) H locs) (hsz : ls.size = nL) (hlk : Cond.methodLink own index yX1_has ∈ TBw) (hR : 2 ≤ R.frames ∧ 43 ≤ R.locals) (hroom : (rest.map fun v => v.category).sum ≤ 8) (hdg : decode cc pc = .ok (.invokevirtual index, 3)) (kk : ∀ (H1 : Heap) (locs1 : List Loc), jW D (AD ad 45) s.heap (wsX cI ad σ) H1 locs1 → W p l e R s m args below meth c H1 locs1 0 0 Q (F0 m (pc + 3) ls (.int (I (if 0 ≤ cell ∧ cell ≤ σ 18 0 * σ 18 1 - 1 then 1 else 0)) :: rest))) : W p l e R s m args below meth c H locs 0 0 Q (F0 m pc ls (.int (I cell) :: .ref (ad 1) :: rest)) := 
  j_callVi J hw (c_X1_has  hD hd r_cell) hlk in_X1_has se_X1_has ini_X1 co_X1_has (n := 1) (by decide +kernel) ⟨rfl, rfl, hR.1, hR.2⟩ (j := 1) (ci := 1) rfl rfl rfl rfl hroom hsz ⟨Nat.zero_le _, Nat.zero_le _⟩ rfl hdg (fun r τ H1 locs1 hp hw1 => by obtain ⟨rfl, rfl⟩ := hp; exact kk H1 locs1 hw1)
def rm_X1_hasRow : Room := { frames := 1, cells := 0, slots := 0, locals := 22 }
set_option maxHeartbeats 4000000 in
set_option maxRecDepth 100000 in
theorem c_X1_hasRow {l : Launch} {D : va_G} {cI cZ : ClassId} {ad : Nat → Nat} {σ : St} {row : Int} (hD : ∀ τ, va_D (AD ad 45) (wsX cI ad τ)) (hd : Dim σ) (r_row : rg row) : JMi l yX1_hasRow cX1_hasRow 2 (some .boolean) rm_X1_hasRow D [(cI, .int), (cZ, .boolean)] (AD ad 45) (wsX cI ad) [.ref (ad 1), .int (I row)] σ (fun r τ => r = (if 0 ≤ row ∧ row ≤ σ 18 1 - 1 then 1 else 0) ∧ τ = σ) := by
  refine JMi.of RX1 (by decide +kernel) rfl (Nat.le_of_ble_eq_true rfl) hD ?_
  intro p e s m args below meth c Q J fin H ls hw hl
  generalize ([] : List Loc) = locs at hw ⊢
  have hl : lv_has ls 2 [(0, .ref (ad 1)), (1, .int (I row))] := hl
  have hd1 := hd.1; have hd2 := hd.2.1; have hd3 := hd.2.2.1; have hd4 := hd.2.2.2; have hm := hd.mul
  have u_row := r_row; unfold rg at u_row
  refine j_iload_n J dX1_hasRow_0 rfl (lv_at hl 1 rfl) ?_
  refine j_iconst J (0) dX1_hasRow_1 ?_
  refine j_aload_n J dX1_hasRow_2 rfl (lv_at hl 0 rfl) ?_
  refine xg_1_4 J hw lk_X1_30 dX1_hasRow_3 ?_
  refine j_iconst J (1) dX1_hasRow_6 ?_
  refine j_isub J dX1_hasRow_7 ?_
  refine kn_X9_within (v := row) (lo := 0) (hi := (σ 18 1) - 1) hD (by unfold rg; omega) (by unfold rg; omega) (by unfold rg; omega) J hw hl.1 (List.mem_of_getElem? (i := 8) rfl) ⟨Nat.le_of_ble_eq_true rfl, Nat.le_of_ble_eq_true rfl⟩ (Nat.le_of_ble_eq_true rfl) dX1_hasRow_8 (fun H locs hw => ?_)
  exact fin _ _ _ _ _ _ dX1_hasRow_11 (by split <;> rfl) (⟨rfl, rfl⟩) hw
theorem k_X1_hasRow {p : Program} {l : Launch} {e : Env} {R : Room} {s : State} {m : MethodId} {args : Array Value} {below : List Frame} {meth : Method} {c : Code} {H : Heap} {locs : List Loc} {Q : State → Prop} {cc : ByteArray} {pc : Nat} {ls : Array Slot} {rest : List Value} {nL : Nat} {own : String} {D : va_G} {σ : St} {cI cZ : ClassId} {ad : Nat → Nat} {index : Nat} {row : Int} (hD : ∀ τ, va_D (AD ad 45) (wsX cI ad τ)) (hd : Dim σ) (r_row : rg row) (J : Jx p m c cc nL s args own D [(cI, .int), (cZ, .boolean)] (AD ad 45) (wsX cI ad)) (hw : jW D (AD ad 45) s.heap (wsX cI ad σ) H locs) (hsz : ls.size = nL) (hlk : Cond.methodLink own index yX1_hasRow ∈ TBw) (hR : 2 ≤ R.frames ∧ 43 ≤ R.locals) (hroom : (rest.map fun v => v.category).sum ≤ 8) (hdg : decode cc pc = .ok (.invokevirtual index, 3)) (kk : ∀ (H1 : Heap) (locs1 : List Loc), jW D (AD ad 45) s.heap (wsX cI ad σ) H1 locs1 → W p l e R s m args below meth c H1 locs1 0 0 Q (F0 m (pc + 3) ls (.int (I (if 0 ≤ row ∧ row ≤ σ 18 1 - 1 then 1 else 0)) :: rest))) : W p l e R s m args below meth c H locs 0 0 Q (F0 m pc ls (.int (I row) :: .ref (ad 1) :: rest)) := 
  j_callVi J hw (c_X1_hasRow  hD hd r_row) hlk in_X1_hasRow se_X1_hasRow ini_X1 co_X1_hasRow (n := 1) (by decide +kernel) ⟨rfl, rfl, hR.1, hR.2⟩ (j := 1) (ci := 1) rfl rfl rfl rfl hroom hsz ⟨Nat.zero_le _, Nat.zero_le _⟩ rfl hdg (fun r τ H1 locs1 hp hw1 => by obtain ⟨rfl, rfl⟩ := hp; exact kk H1 locs1 hw1)
def rm_X1_hasColumn : Room := { frames := 1, cells := 0, slots := 0, locals := 22 }
set_option maxHeartbeats 4000000 in
set_option maxRecDepth 100000 in
theorem c_X1_hasColumn {l : Launch} {D : va_G} {cI cZ : ClassId} {ad : Nat → Nat} {σ : St} {col : Int} (hD : ∀ τ, va_D (AD ad 45) (wsX cI ad τ)) (hd : Dim σ) (r_col : rg col) : JMi l yX1_hasColumn cX1_hasColumn 2 (some .boolean) rm_X1_hasColumn D [(cI, .int), (cZ, .boolean)] (AD ad 45) (wsX cI ad) [.ref (ad 1), .int (I col)] σ (fun r τ => r = (if 0 ≤ col ∧ col ≤ σ 18 0 - 1 then 1 else 0) ∧ τ = σ) := by
  refine JMi.of RX1 (by decide +kernel) rfl (Nat.le_of_ble_eq_true rfl) hD ?_
  intro p e s m args below meth c Q J fin H ls hw hl
  generalize ([] : List Loc) = locs at hw ⊢
  have hl : lv_has ls 2 [(0, .ref (ad 1)), (1, .int (I col))] := hl
  have hd1 := hd.1; have hd2 := hd.2.1; have hd3 := hd.2.2.1; have hd4 := hd.2.2.2; have hm := hd.mul
  have u_col := r_col; unfold rg at u_col
  refine j_iload_n J dX1_hasColumn_0 rfl (lv_at hl 1 rfl) ?_
  refine j_iconst J (0) dX1_hasColumn_1 ?_
  refine j_aload_n J dX1_hasColumn_2 rfl (lv_at hl 0 rfl) ?_
  refine xg_1_3 J hw lk_X1_26 dX1_hasColumn_3 ?_
  refine j_iconst J (1) dX1_hasColumn_6 ?_
  refine j_isub J dX1_hasColumn_7 ?_
  refine kn_X9_within (v := col) (lo := 0) (hi := (σ 18 0) - 1) hD (by unfold rg; omega) (by unfold rg; omega) (by unfold rg; omega) J hw hl.1 (List.mem_of_getElem? (i := 8) rfl) ⟨Nat.le_of_ble_eq_true rfl, Nat.le_of_ble_eq_true rfl⟩ (Nat.le_of_ble_eq_true rfl) dX1_hasColumn_8 (fun H locs hw => ?_)
  exact fin _ _ _ _ _ _ dX1_hasColumn_11 (by split <;> rfl) (⟨rfl, rfl⟩) hw
theorem k_X1_hasColumn {p : Program} {l : Launch} {e : Env} {R : Room} {s : State} {m : MethodId} {args : Array Value} {below : List Frame} {meth : Method} {c : Code} {H : Heap} {locs : List Loc} {Q : State → Prop} {cc : ByteArray} {pc : Nat} {ls : Array Slot} {rest : List Value} {nL : Nat} {own : String} {D : va_G} {σ : St} {cI cZ : ClassId} {ad : Nat → Nat} {index : Nat} {col : Int} (hD : ∀ τ, va_D (AD ad 45) (wsX cI ad τ)) (hd : Dim σ) (r_col : rg col) (J : Jx p m c cc nL s args own D [(cI, .int), (cZ, .boolean)] (AD ad 45) (wsX cI ad)) (hw : jW D (AD ad 45) s.heap (wsX cI ad σ) H locs) (hsz : ls.size = nL) (hlk : Cond.methodLink own index yX1_hasColumn ∈ TBw) (hR : 2 ≤ R.frames ∧ 43 ≤ R.locals) (hroom : (rest.map fun v => v.category).sum ≤ 8) (hdg : decode cc pc = .ok (.invokevirtual index, 3)) (kk : ∀ (H1 : Heap) (locs1 : List Loc), jW D (AD ad 45) s.heap (wsX cI ad σ) H1 locs1 → W p l e R s m args below meth c H1 locs1 0 0 Q (F0 m (pc + 3) ls (.int (I (if 0 ≤ col ∧ col ≤ σ 18 0 - 1 then 1 else 0)) :: rest))) : W p l e R s m args below meth c H locs 0 0 Q (F0 m pc ls (.int (I col) :: .ref (ad 1) :: rest)) := 
  j_callVi J hw (c_X1_hasColumn  hD hd r_col) hlk in_X1_hasColumn se_X1_hasColumn ini_X1 co_X1_hasColumn (n := 1) (by decide +kernel) ⟨rfl, rfl, hR.1, hR.2⟩ (j := 1) (ci := 1) rfl rfl rfl rfl hroom hsz ⟨Nat.zero_le _, Nat.zero_le _⟩ rfl hdg (fun r τ H1 locs1 hp hw1 => by obtain ⟨rfl, rfl⟩ := hp; exact kk H1 locs1 hw1)
def rm_X1_number : Room := { frames := 0, cells := 0, slots := 0, locals := 0 }
set_option maxHeartbeats 4000000 in
set_option maxRecDepth 100000 in
theorem c_X1_number {l : Launch} {D : va_G} {cI cZ : ClassId} {ad : Nat → Nat} {σ : St} {row col : Int} (hD : ∀ τ, va_D (AD ad 45) (wsX cI ad τ))  : JMi l yX1_number cX1_number 3 (some .int) rm_X1_number D [(cI, .int), (cZ, .boolean)] (AD ad 45) (wsX cI ad) [.ref (ad 1), .int (I row), .int (I col)] σ (fun r τ => r = (row * σ 18 0 + col) ∧ τ = σ) := by
  refine JMi.of RX1 (by decide +kernel) rfl (Nat.le_of_ble_eq_true rfl) hD ?_
  intro p e s m args below meth c Q J fin H ls hw hl
  generalize ([] : List Loc) = locs at hw ⊢
  have hl : lv_has ls 3 [(0, .ref (ad 1)), (1, .int (I row)), (2, .int (I col))] := hl
  refine j_iload_n J dX1_number_0 rfl (lv_at hl 1 rfl) ?_
  refine j_aload_n J dX1_number_1 rfl (lv_at hl 0 rfl) ?_
  refine xg_1_3 J hw lk_X1_26 dX1_number_2 ?_
  refine j_imul J dX1_number_5 ?_
  refine j_iload_n J dX1_number_6 rfl (lv_at hl 2 rfl) ?_
  refine j_iadd J dX1_number_7 ?_
  exact fin _ _ _ _ _ _ dX1_number_8 rfl (⟨rfl, rfl⟩) hw
theorem k_X1_number {p : Program} {l : Launch} {e : Env} {R : Room} {s : State} {m : MethodId} {args : Array Value} {below : List Frame} {meth : Method} {c : Code} {H : Heap} {locs : List Loc} {Q : State → Prop} {cc : ByteArray} {pc : Nat} {ls : Array Slot} {rest : List Value} {nL : Nat} {own : String} {D : va_G} {σ : St} {cI cZ : ClassId} {ad : Nat → Nat} {index : Nat} {row col : Int} (hD : ∀ τ, va_D (AD ad 45) (wsX cI ad τ))  (J : Jx p m c cc nL s args own D [(cI, .int), (cZ, .boolean)] (AD ad 45) (wsX cI ad)) (hw : jW D (AD ad 45) s.heap (wsX cI ad σ) H locs) (hsz : ls.size = nL) (hlk : Cond.methodLink own index yX1_number ∈ TBw) (hR : 1 ≤ R.frames ∧ 22 ≤ R.locals) (hroom : (rest.map fun v => v.category).sum ≤ 8) (hdg : decode cc pc = .ok (.invokevirtual index, 3)) (kk : ∀ (H1 : Heap) (locs1 : List Loc), jW D (AD ad 45) s.heap (wsX cI ad σ) H1 locs1 → W p l e R s m args below meth c H1 locs1 0 0 Q (F0 m (pc + 3) ls (.int (I (row * σ 18 0 + col)) :: rest))) : W p l e R s m args below meth c H locs 0 0 Q (F0 m pc ls (.int (I col) :: .int (I row) :: .ref (ad 1) :: rest)) := 
  j_callVi J hw (c_X1_number  hD ) hlk in_X1_number se_X1_number ini_X1 co_X1_number (n := 2) (by decide +kernel) ⟨rfl, rfl, hR.1, hR.2⟩ (j := 1) (ci := 1) rfl rfl rfl rfl hroom hsz ⟨Nat.zero_le _, Nat.zero_le _⟩ rfl hdg (fun r τ H1 locs1 hp hw1 => by obtain ⟨rfl, rfl⟩ := hp; exact kk H1 locs1 hw1)
def rm_X1_room : Room := { frames := 1, cells := 0, slots := 0, locals := 21 }
set_option maxHeartbeats 4000000 in
set_option maxRecDepth 100000 in
theorem c_X1_room {l : Launch} {D : va_G} {cI cZ : ClassId} {ad : Nat → Nat} {σ : St} {cell over : Int} (hD : ∀ τ, va_D (AD ad 45) (wsX cI ad τ)) (hB : Bd σ) (hc : 0 ≤ cell ∧ cell < 120) (ho : 0 ≤ over ∧ over ≤ 50) : JMi l yX1_room cX1_room 3 (some .int) rm_X1_room D [(cI, .int), (cZ, .boolean)] (AD ad 45) (wsX cI ad) [.ref (ad 1), .int (I cell), .int (I over)] σ (fun r τ => r = (if σ 2 cell = 0 then 0 else max 0 (σ 2 cell + over - σ 1 cell)) ∧ τ = σ) := by
  refine JMi.of RX1 (by decide +kernel) rfl (Nat.le_of_ble_eq_true rfl) hD ?_
  intro p e s m args below meth c Q J fin H ls hw hl
  generalize ([] : List Loc) = locs at hw ⊢
  have hl : lv_has ls 3 [(0, .ref (ad 1)), (1, .int (I cell)), (2, .int (I over))] := hl
  have hd : Dim _ := hB.dim
  have hd1 := hd.1; have hd2 := hd.2.1; have hd3 := hd.2.2.1; have hd4 := hd.2.2.2; have hm := hd.mul
  have b1 := hB.depth cell; have b2 := hB.design cell
  refine j_aload_n J dX1_room_0 rfl (lv_at hl 0 rfl) ?_
  refine xg_1_1 J hw lk_X1_20 dX1_room_1 ?_
  refine j_iload_n J dX1_room_4 rfl (lv_at hl 1 rfl) ?_
  refine k_X2_get (k := 2) (i := cell) hD (by decide) (show 0 ≤ cell ∧ cell < ((120 : Nat) : Int) from by omega) J hw hl.1 lk_X1_47 ⟨Nat.le_of_ble_eq_true rfl, Nat.le_of_ble_eq_true rfl⟩ (Nat.le_of_ble_eq_true rfl) dX1_room_5 (fun H locs hw => ?_)
  refine j_if_ne J 13 (show rg (σ 2 cell) by unfold rg; omega) dX1_room_8 (by decide) (fun (h_1 : ¬ (σ 2 cell) = 0) => ?_) (fun (h_1 : (σ 2 cell) = 0) => ?_)
  · refine j_iconst J (0) dX1_room_13 ?_
    refine j_aload_n J dX1_room_14 rfl (lv_at hl 0 rfl) ?_
    refine xg_1_1 J hw lk_X1_20 dX1_room_15 ?_
    refine j_iload_n J dX1_room_18 rfl (lv_at hl 1 rfl) ?_
    refine k_X2_get (k := 2) (i := cell) hD (by decide) (show 0 ≤ cell ∧ cell < ((120 : Nat) : Int) from by omega) J hw hl.1 lk_X1_47 ⟨Nat.le_of_ble_eq_true rfl, Nat.le_of_ble_eq_true rfl⟩ (Nat.le_of_ble_eq_true rfl) dX1_room_19 (fun H locs hw => ?_)
    refine j_iload_n J dX1_room_22 rfl (lv_at hl 2 rfl) ?_
    refine j_iadd J dX1_room_23 ?_
    refine j_aload_n J dX1_room_24 rfl (lv_at hl 0 rfl) ?_
    refine xg_1_0 J hw lk_X1_14 dX1_room_25 ?_
    refine j_iload_n J dX1_room_28 rfl (lv_at hl 1 rfl) ?_
    refine k_X2_get (k := 1) (i := cell) hD (by decide) (show 0 ≤ cell ∧ cell < ((120 : Nat) : Int) from by omega) J hw hl.1 lk_X1_47 ⟨Nat.le_of_ble_eq_true rfl, Nat.le_of_ble_eq_true rfl⟩ (Nat.le_of_ble_eq_true rfl) dX1_room_29 (fun H locs hw => ?_)
    refine j_isub J dX1_room_32 ?_
    refine j_max J (by unfold rg; omega) (show rg (((σ 2 cell) + over) - (σ 1 cell)) by unfold rg; omega) hl.1 lk_X1_51 ⟨Nat.le_of_ble_eq_true rfl, Nat.le_of_ble_eq_true rfl, Nat.zero_le _, Nat.zero_le _⟩ dX1_room_33 ?_
    exact fin _ _ _ _ _ _ dX1_room_36 rfl (⟨by first | exact (if_pos (by omega)).symm | exact (if_neg (by omega)).symm, rfl⟩) hw
  · refine j_iconst J (0) dX1_room_11 ?_
    exact fin _ _ _ _ _ _ dX1_room_12 rfl (⟨by first | exact (if_pos (by omega)).symm | exact (if_neg (by omega)).symm, rfl⟩) hw
theorem k_X1_room {p : Program} {l : Launch} {e : Env} {R : Room} {s : State} {m : MethodId} {args : Array Value} {below : List Frame} {meth : Method} {c : Code} {H : Heap} {locs : List Loc} {Q : State → Prop} {cc : ByteArray} {pc : Nat} {ls : Array Slot} {rest : List Value} {nL : Nat} {own : String} {D : va_G} {σ : St} {cI cZ : ClassId} {ad : Nat → Nat} {index : Nat} {cell over : Int} (hD : ∀ τ, va_D (AD ad 45) (wsX cI ad τ)) (hB : Bd σ) (hc : 0 ≤ cell ∧ cell < 120) (ho : 0 ≤ over ∧ over ≤ 50) (J : Jx p m c cc nL s args own D [(cI, .int), (cZ, .boolean)] (AD ad 45) (wsX cI ad)) (hw : jW D (AD ad 45) s.heap (wsX cI ad σ) H locs) (hsz : ls.size = nL) (hlk : Cond.methodLink own index yX1_room ∈ TBw) (hR : 2 ≤ R.frames ∧ 43 ≤ R.locals) (hroom : (rest.map fun v => v.category).sum ≤ 8) (hdg : decode cc pc = .ok (.invokevirtual index, 3)) (kk : ∀ (H1 : Heap) (locs1 : List Loc), jW D (AD ad 45) s.heap (wsX cI ad σ) H1 locs1 → W p l e R s m args below meth c H1 locs1 0 0 Q (F0 m (pc + 3) ls (.int (I (if σ 2 cell = 0 then 0 else max 0 (σ 2 cell + over - σ 1 cell))) :: rest))) : W p l e R s m args below meth c H locs 0 0 Q (F0 m pc ls (.int (I over) :: .int (I cell) :: .ref (ad 1) :: rest)) := 
  j_callVi J hw (c_X1_room  hD hB hc ho) hlk in_X1_room se_X1_room ini_X1 co_X1_room (n := 2) (by decide +kernel) ⟨rfl, rfl, hR.1, hR.2⟩ (j := 1) (ci := 1) rfl rfl rfl rfl hroom hsz ⟨Nat.zero_le _, Nat.zero_le _⟩ rfl hdg (fun r τ H1 locs1 hp hw1 => by obtain ⟨rfl, rfl⟩ := hp; exact kk H1 locs1 hw1)
def rm_X1_unfinished : Room := { frames := 1, cells := 0, slots := 0, locals := 21 }
set_option maxHeartbeats 4000000 in
set_option maxRecDepth 100000 in
theorem c_X1_unfinished {l : Launch} {D : va_G} {cI cZ : ClassId} {ad : Nat → Nat} {σ : St}  (hD : ∀ τ, va_D (AD ad 45) (wsX cI ad τ)) (hB : Bd σ) : JMi l yX1_unfinished cX1_unfinished 3 (some .int) rm_X1_unfinished D [(cI, .int), (cZ, .boolean)] (AD ad 45) (wsX cI ad) [.ref (ad 1)] σ (fun r τ => r = (sumI (fun c => if σ 1 c < σ 2 c then 1 else 0) (σ 18 0 * σ 18 1)) ∧ τ = σ) := by
  refine JMi.of RX1 (by decide +kernel) rfl (Nat.le_of_ble_eq_true rfl) hD ?_
  intro p e s m args below meth c Q J fin H ls hw hl
  generalize ([] : List Loc) = locs at hw ⊢
  have hl : lv_has ls 3 [(0, .ref (ad 1))] := hl
  have hd : Dim _ := hB.dim
  have hd1 := hd.1; have hd2 := hd.2.1; have hd3 := hd.2.2.1; have hd4 := hd.2.2.2; have hm := hd.mul
  refine j_iconst J (0) dX1_unfinished_0 ?_
  refine j_istore_n J (lv' := [(1, .int (I 0)), (0, .ref (ad 1))]) hl dX1_unfinished_1 rfl (by decide) rfl (fun ls hl => ?_)
  refine j_iconst J (0) dX1_unfinished_2 ?_
  refine j_istore_n J (lv' := [(2, .int (I 0)), (1, .int (I 0)), (0, .ref (ad 1))]) hl dX1_unfinished_3 rfl (by decide) rfl (fun ls hl => ?_)
  have L4 : ∀ n : Nat, ∀ (n1 : Int) (i : Int), (0 ≤ i) → (i ≤ σ 18 0 * σ 18 1) → (n1 = sumI (fun c => if σ 1 c < σ 2 c then 1 else 0) i) → ((σ 18 0 * σ 18 1 - i).toNat) < n → ∀ (H : Heap) (locs : List Loc) (ls : Array Slot), jW D (AD ad 45) s.heap (wsX cI ad σ) H locs → lv_has ls 3 [(2, .int (I i)), (0, .ref (ad 1)), (1, .int (I n1))] → W p l e rm_X1_unfinished s m args below meth c H locs 0 0 Q (F0 m 4 ls []) := by
    intro n
    induction n with
    | zero =>
      intro n1 i hi0 hi1 hs hm H locs ls hw hl
      exact absurd hm (Nat.not_lt_zero _)
    | succ n ih =>
      intro n1 i hi0 hi1 hs hm H locs ls hw hl
      have ih4 := ih
      refine j_iload_n J dX1_unfinished_4 rfl (lv_at hl 0 rfl) ?_
      refine j_aload_n J dX1_unfinished_5 rfl (lv_at hl 1 rfl) ?_
      refine k_X1_size  hD  J hw hl.1 lk_X1_39 ⟨Nat.le_of_ble_eq_true rfl, Nat.le_of_ble_eq_true rfl⟩ (Nat.le_of_ble_eq_true rfl) dX1_unfinished_6 (fun H locs hw => ?_)
      refine j_icmp_ge J 40 (show rg i by unfold rg; omega) (show rg (σ 18 0 * σ 18 1) by unfold rg; omega) dX1_unfinished_9 (by decide) (fun (h_1 : (σ 18 0 * σ 18 1) ≤ i) => ?_) (fun (h_1 : i < (σ 18 0 * σ 18 1)) => ?_)
      · refine j_iload_n J dX1_unfinished_40 rfl (lv_at hl 2 rfl) ?_
        exact fin _ _ _ _ _ _ dX1_unfinished_41 rfl (⟨by rw [hs, show i = σ 18 0 * σ 18 1 by omega], rfl⟩) hw
      · refine j_aload_n J dX1_unfinished_12 rfl (lv_at hl 1 rfl) ?_
        refine xg_1_0 J hw lk_X1_14 dX1_unfinished_13 ?_
        refine j_iload_n J dX1_unfinished_16 rfl (lv_at hl 0 rfl) ?_
        refine k_X2_get (k := 1) (i := i) hD (by decide) (show 0 ≤ i ∧ i < ((120 : Nat) : Int) from by omega) J hw hl.1 lk_X1_47 ⟨Nat.le_of_ble_eq_true rfl, Nat.le_of_ble_eq_true rfl⟩ (Nat.le_of_ble_eq_true rfl) dX1_unfinished_17 (fun H locs hw => ?_)
        refine j_aload_n J dX1_unfinished_20 rfl (lv_at hl 1 rfl) ?_
        refine xg_1_1 J hw lk_X1_20 dX1_unfinished_21 ?_
        refine j_iload_n J dX1_unfinished_24 rfl (lv_at hl 0 rfl) ?_
        refine k_X2_get (k := 2) (i := i) hD (by decide) (show 0 ≤ i ∧ i < ((120 : Nat) : Int) from by omega) J hw hl.1 lk_X1_47 ⟨Nat.le_of_ble_eq_true rfl, Nat.le_of_ble_eq_true rfl⟩ (Nat.le_of_ble_eq_true rfl) dX1_unfinished_25 (fun H locs hw => ?_)
        have b1 := hB.depth i; have b2 := hB.design i
        refine j_icmp_ge J 34 (show rg (σ 1 i) by unfold rg; omega) (show rg (σ 2 i) by unfold rg; omega) dX1_unfinished_28 (by decide) (fun (h_2 : (σ 2 i) ≤ (σ 1 i)) => ?_) (fun (h_2 : (σ 1 i) < (σ 2 i)) => ?_)
        · refine j_iinc J (lv' := [(2, .int (I (i + 1))), (0, .ref (ad 1)), (1, .int (I n1))]) (k := 0) hl dX1_unfinished_34 rfl (by decide) rfl (fun ls hl => ?_)
          refine j_goto J 4 dX1_unfinished_37 (by decide) ?_
          exact ih4 n1 (i + 1) (by omega) (by omega) (by have hs9 := sumI_step (f := (fun c => if σ 1 c < σ 2 c then 1 else 0)) hi0; (try dsimp only at hs9); (try split at hs9) <;> omega) (by omega) _ _ _ hw (lv_sub hl [0, 1, 2] rfl)
        · refine j_iinc J (lv' := [(1, .int (I (n1 + 1))), (2, .int (I i)), (0, .ref (ad 1))]) (k := 2) hl dX1_unfinished_31 rfl (by decide) rfl (fun ls hl => ?_)
          refine j_iinc J (lv' := [(2, .int (I (i + 1))), (1, .int (I (n1 + 1))), (0, .ref (ad 1))]) (k := 1) hl dX1_unfinished_34 rfl (by decide) rfl (fun ls hl => ?_)
          refine j_goto J 4 dX1_unfinished_37 (by decide) ?_
          exact ih4 (n1 + 1) (i + 1) (by omega) (by omega) (by have hs9 := sumI_step (f := (fun c => if σ 1 c < σ 2 c then 1 else 0)) hi0; (try dsimp only at hs9); (try split at hs9) <;> omega) (by omega) _ _ _ hw (lv_sub hl [0, 2, 1] rfl)
  exact L4 _ 0 0 (by omega) (by omega) (sumI_0.symm) (Nat.lt_succ_self _) _ _ _ hw (lv_sub hl [0, 2, 1] rfl)
theorem k_X1_unfinished {p : Program} {l : Launch} {e : Env} {R : Room} {s : State} {m : MethodId} {args : Array Value} {below : List Frame} {meth : Method} {c : Code} {H : Heap} {locs : List Loc} {Q : State → Prop} {cc : ByteArray} {pc : Nat} {ls : Array Slot} {rest : List Value} {nL : Nat} {own : String} {D : va_G} {σ : St} {cI cZ : ClassId} {ad : Nat → Nat} {index : Nat}  (hD : ∀ τ, va_D (AD ad 45) (wsX cI ad τ)) (hB : Bd σ) (J : Jx p m c cc nL s args own D [(cI, .int), (cZ, .boolean)] (AD ad 45) (wsX cI ad)) (hw : jW D (AD ad 45) s.heap (wsX cI ad σ) H locs) (hsz : ls.size = nL) (hlk : Cond.methodLink own index yX1_unfinished ∈ TBw) (hR : 2 ≤ R.frames ∧ 43 ≤ R.locals) (hroom : (rest.map fun v => v.category).sum ≤ 8) (hdg : decode cc pc = .ok (.invokevirtual index, 3)) (kk : ∀ (H1 : Heap) (locs1 : List Loc), jW D (AD ad 45) s.heap (wsX cI ad σ) H1 locs1 → W p l e R s m args below meth c H1 locs1 0 0 Q (F0 m (pc + 3) ls (.int (I (sumI (fun c => if σ 1 c < σ 2 c then 1 else 0) (σ 18 0 * σ 18 1))) :: rest))) : W p l e R s m args below meth c H locs 0 0 Q (F0 m pc ls (.ref (ad 1) :: rest)) := 
  j_callVi J hw (c_X1_unfinished  hD hB) hlk in_X1_unfinished se_X1_unfinished ini_X1 co_X1_unfinished (n := 0) (by decide +kernel) ⟨rfl, rfl, hR.1, hR.2⟩ (j := 1) (ci := 1) rfl rfl rfl rfl hroom hsz ⟨Nat.zero_le _, Nat.zero_le _⟩ rfl hdg (fun r τ H1 locs1 hp hw1 => by obtain ⟨rfl, rfl⟩ := hp; exact kk H1 locs1 hw1)
def rm_X1_raise : Room := { frames := 1, cells := 0, slots := 0, locals := 23 }
set_option maxHeartbeats 4000000 in
set_option maxRecDepth 100000 in
theorem c_X1_raise {l : Launch} {D : va_G} {cI cZ : ClassId} {ad : Nat → Nat} {σ : St} {cell by1 : Int} (hD : ∀ τ, va_D (AD ad 45) (wsX cI ad τ)) (hc : 0 ≤ cell ∧ cell < 120) (hb1 : 0 ≤ by1 ∧ by1 ≤ 1000000) (hb2 : 0 ≤ σ 1 cell ∧ σ 1 cell ≤ 400) : JMv l yX1_raise cX1_raise 3 rm_X1_raise D [(cI, .int), (cZ, .boolean)] (AD ad 45) (wsX cI ad) [.ref (ad 1), .int (I cell), .int (I by1)] σ (fun τ => τ = st σ 1 cell (max 0 (σ 1 cell - by1))) := by
  refine JMv.of RX1 (by decide +kernel) rfl (Nat.le_of_ble_eq_true rfl) hD ?_
  intro p e s m args below meth c Q J fin H ls hw hl
  generalize ([] : List Loc) = locs at hw ⊢
  have hl : lv_has ls 3 [(0, .ref (ad 1)), (1, .int (I cell)), (2, .int (I by1))] := hl
  refine j_aload_n J dX1_raise_0 rfl (lv_at hl 0 rfl) ?_
  refine xg_1_0 J hw lk_X1_14 dX1_raise_1 ?_
  refine j_iload_n J dX1_raise_4 rfl (lv_at hl 1 rfl) ?_
  refine j_iconst J (0) dX1_raise_5 ?_
  refine j_aload_n J dX1_raise_6 rfl (lv_at hl 0 rfl) ?_
  refine xg_1_0 J hw lk_X1_14 dX1_raise_7 ?_
  refine j_iload_n J dX1_raise_10 rfl (lv_at hl 1 rfl) ?_
  refine k_X2_get (k := 1) (i := cell) hD (by decide) (show 0 ≤ cell ∧ cell < ((120 : Nat) : Int) from by omega) J hw hl.1 lk_X1_47 ⟨Nat.le_of_ble_eq_true rfl, Nat.le_of_ble_eq_true rfl⟩ (Nat.le_of_ble_eq_true rfl) dX1_raise_11 (fun H locs hw => ?_)
  refine j_iload_n J dX1_raise_14 rfl (lv_at hl 2 rfl) ?_
  refine j_isub J dX1_raise_15 ?_
  refine j_max J (by unfold rg; omega) (show rg ((σ 1 cell) - by1) by unfold rg; omega) hl.1 lk_X1_51 ⟨Nat.le_of_ble_eq_true rfl, Nat.le_of_ble_eq_true rfl, Nat.zero_le _, Nat.zero_le _⟩ dX1_raise_16 ?_
  refine k_X2_put (k := 1) (i := cell) (v := max 0 ((σ 1 cell) - by1)) hD (by decide) (show 0 ≤ cell ∧ cell < ((120 : Nat) : Int) from by omega) J hw hl.1 lk_X1_57 ⟨Nat.le_of_ble_eq_true rfl, Nat.le_of_ble_eq_true rfl⟩ (Nat.le_of_ble_eq_true rfl) dX1_raise_19 (fun H locs hw => ?_)
  refine j_pop J dX1_raise_22 rfl ?_
  exact fin _ _ _ _ _ dX1_raise_23 (rfl) hw
theorem k_X1_raise {p : Program} {l : Launch} {e : Env} {R : Room} {s : State} {m : MethodId} {args : Array Value} {below : List Frame} {meth : Method} {c : Code} {H : Heap} {locs : List Loc} {Q : State → Prop} {cc : ByteArray} {pc : Nat} {ls : Array Slot} {rest : List Value} {nL : Nat} {own : String} {D : va_G} {σ : St} {cI cZ : ClassId} {ad : Nat → Nat} {index : Nat} {cell by1 : Int} (hD : ∀ τ, va_D (AD ad 45) (wsX cI ad τ)) (hc : 0 ≤ cell ∧ cell < 120) (hb1 : 0 ≤ by1 ∧ by1 ≤ 1000000) (hb2 : 0 ≤ σ 1 cell ∧ σ 1 cell ≤ 400) (J : Jx p m c cc nL s args own D [(cI, .int), (cZ, .boolean)] (AD ad 45) (wsX cI ad)) (hw : jW D (AD ad 45) s.heap (wsX cI ad σ) H locs) (hsz : ls.size = nL) (hlk : Cond.methodLink own index yX1_raise ∈ TBw) (hR : 2 ≤ R.frames ∧ 45 ≤ R.locals) (hroom : (rest.map fun v => v.category).sum ≤ 8) (hdg : decode cc pc = .ok (.invokevirtual index, 3)) (kk : ∀ (H1 : Heap) (locs1 : List Loc), jW D (AD ad 45) s.heap (wsX cI ad (st σ 1 cell (max 0 (σ 1 cell - by1)))) H1 locs1 → W p l e R s m args below meth c H1 locs1 0 0 Q (F0 m (pc + 3) ls rest)) : W p l e R s m args below meth c H locs 0 0 Q (F0 m pc ls (.int (I by1) :: .int (I cell) :: .ref (ad 1) :: rest)) := 
  j_callVv J hw (c_X1_raise  hD hc hb1 hb2) hlk in_X1_raise se_X1_raise ini_X1 co_X1_raise (n := 2) (by decide +kernel) ⟨rfl, rfl, hR.1, hR.2⟩ (j := 1) (ci := 1) rfl rfl rfl rfl hroom hsz ⟨Nat.zero_le _, Nat.zero_le _⟩ rfl hdg (fun τ H1 locs1 hp hw1 => by subst hp; exact kk H1 locs1 hw1)
def rm_X1_start : Room := { frames := 1, cells := 0, slots := 0, locals := 22 }
set_option maxHeartbeats 4000000 in
set_option maxRecDepth 100000 in
theorem c_X1_start {l : Launch} {D : va_G} {cI cZ : ClassId} {ad : Nat → Nat} {σ : St} {c1 r1 : Int} (hD : ∀ τ, va_D (AD ad 45) (wsX cI ad τ))  : JMv l yX1_start cX1_start 3 rm_X1_start D [(cI, .int), (cZ, .boolean)] (AD ad 45) (wsX cI ad) [.ref (ad 1), .int (I c1), .int (I r1)] σ (fun τ => τ = fl (fl (st (st (st σ 18 0 c1) 18 1 r1) 18 2 0) 1 0 120) 2 0 120) := by
  refine JMv.of RX1 (by decide +kernel) rfl (Nat.le_of_ble_eq_true rfl) hD ?_
  intro p e s m args below meth c Q J fin H ls hw hl
  generalize ([] : List Loc) = locs at hw ⊢
  have hl : lv_has ls 3 [(0, .ref (ad 1)), (1, .int (I c1)), (2, .int (I r1))] := hl
  refine j_aload_n J dX1_start_0 rfl (lv_at hl 0 rfl) ?_
  refine j_iload_n J dX1_start_1 rfl (lv_at hl 1 rfl) ?_
  refine xs_1_3 J hw lk_X1_26 dX1_start_2 (fun H locs hw => ?_)
  refine j_aload_n J dX1_start_5 rfl (lv_at hl 0 rfl) ?_
  refine j_iload_n J dX1_start_6 rfl (lv_at hl 2 rfl) ?_
  refine xs_1_4 J hw lk_X1_30 dX1_start_7 (fun H locs hw => ?_)
  refine j_aload_n J dX1_start_10 rfl (lv_at hl 0 rfl) ?_
  refine j_iconst J (0) dX1_start_11 ?_
  refine xs_1_5 J hw lk_X1_33 dX1_start_12 (fun H locs hw => ?_)
  refine j_aload_n J dX1_start_15 rfl (lv_at hl 0 rfl) ?_
  refine xg_1_0 J hw lk_X1_14 dX1_start_16 ?_
  refine j_iconst J (0) dX1_start_19 ?_
  refine k_X2_fill (k := 1) (v := 0) hD (by decide) J hw hl.1 lk_X1_36 ⟨Nat.le_of_ble_eq_true rfl, Nat.le_of_ble_eq_true rfl⟩ (Nat.le_of_ble_eq_true rfl) dX1_start_20 (fun H locs hw => ?_)
  refine j_aload_n J dX1_start_23 rfl (lv_at hl 0 rfl) ?_
  refine xg_1_1 J hw lk_X1_20 dX1_start_24 ?_
  refine j_iconst J (0) dX1_start_27 ?_
  refine k_X2_fill (k := 2) (v := 0) hD (by decide) J hw hl.1 lk_X1_36 ⟨Nat.le_of_ble_eq_true rfl, Nat.le_of_ble_eq_true rfl⟩ (Nat.le_of_ble_eq_true rfl) dX1_start_28 (fun H locs hw => ?_)
  exact fin _ _ _ _ _ dX1_start_31 (rfl) hw
theorem k_X1_start {p : Program} {l : Launch} {e : Env} {R : Room} {s : State} {m : MethodId} {args : Array Value} {below : List Frame} {meth : Method} {c : Code} {H : Heap} {locs : List Loc} {Q : State → Prop} {cc : ByteArray} {pc : Nat} {ls : Array Slot} {rest : List Value} {nL : Nat} {own : String} {D : va_G} {σ : St} {cI cZ : ClassId} {ad : Nat → Nat} {index : Nat} {c1 r1 : Int} (hD : ∀ τ, va_D (AD ad 45) (wsX cI ad τ))  (J : Jx p m c cc nL s args own D [(cI, .int), (cZ, .boolean)] (AD ad 45) (wsX cI ad)) (hw : jW D (AD ad 45) s.heap (wsX cI ad σ) H locs) (hsz : ls.size = nL) (hlk : Cond.methodLink own index yX1_start ∈ TBw) (hR : 2 ≤ R.frames ∧ 44 ≤ R.locals) (hroom : (rest.map fun v => v.category).sum ≤ 8) (hdg : decode cc pc = .ok (.invokevirtual index, 3)) (kk : ∀ (H1 : Heap) (locs1 : List Loc), jW D (AD ad 45) s.heap (wsX cI ad (fl (fl (st (st (st σ 18 0 c1) 18 1 r1) 18 2 0) 1 0 120) 2 0 120)) H1 locs1 → W p l e R s m args below meth c H1 locs1 0 0 Q (F0 m (pc + 3) ls rest)) : W p l e R s m args below meth c H locs 0 0 Q (F0 m pc ls (.int (I r1) :: .int (I c1) :: .ref (ad 1) :: rest)) := 
  j_callVv J hw (c_X1_start  hD ) hlk in_X1_start se_X1_start ini_X1 co_X1_start (n := 2) (by decide +kernel) ⟨rfl, rfl, hR.1, hR.2⟩ (j := 1) (ci := 1) rfl rfl rfl rfl hroom hsz ⟨Nat.zero_le _, Nat.zero_le _⟩ rfl hdg (fun τ H1 locs1 hp hw1 => by subst hp; exact kk H1 locs1 hw1)
def rm_X8_firstEnough : Room := { frames := 1, cells := 0, slots := 0, locals := 21 }
set_option maxHeartbeats 4000000 in
set_option maxRecDepth 100000 in
theorem c_X8_firstEnough {l : Launch} {D : va_G} {cI cZ : ClassId} {ad : Nat → Nat} {σ : St} {a h : Int} (hD : ∀ τ, va_D (AD ad 45) (wsX cI ad τ)) (hB : Bd σ) (ha : 0 ≤ a ∧ a ≤ 10000) (hh : -1000 ≤ h ∧ h ≤ 1000) : JMi l yX8_firstEnough cX8_firstEnough 4 (some .int) rm_X8_firstEnough D [(cI, .int), (cZ, .boolean)] (AD ad 45) (wsX cI ad) [.ref (ad 3), .int (I a), .int (I h)] σ (fun r τ => r = (feN σ h 12 a) ∧ τ = σ) := by
  refine JMi.of RX8 (by decide +kernel) rfl (Nat.le_of_ble_eq_true rfl) hD ?_
  intro p e s m args below meth c Q J fin H ls hw hl
  generalize ([] : List Loc) = locs at hw ⊢
  have hl : lv_has ls 4 [(0, .ref (ad 3)), (1, .int (I a)), (2, .int (I h))] := hl
  refine j_iload_n J dX8_firstEnough_0 rfl (lv_at hl 1 rfl) ?_
  refine j_istore_n J (lv' := [(3, .int (I a)), (0, .ref (ad 3)), (1, .int (I a)), (2, .int (I h))]) hl dX8_firstEnough_1 rfl (by decide) rfl (fun ls hl => ?_)
  have L2 : ∀ n : Nat, ∀ (x : Int), (a ≤ x ∧ x ≤ a + 12) → (feN σ h 12 a = feN σ h (a + 12 - x).toNat x) → ((a + 12 - x).toNat) < n → ∀ (H : Heap) (locs : List Loc) (ls : Array Slot), jW D (AD ad 45) s.heap (wsX cI ad σ) H locs → lv_has ls 4 [(3, .int (I x)), (0, .ref (ad 3)), (1, .int (I a)), (2, .int (I h))] → W p l e rm_X8_firstEnough s m args below meth c H locs 0 0 Q (F0 m 2 ls []) := by
    intro n
    induction n with
    | zero =>
      intro x hx hfe hm H locs ls hw hl
      exact absurd hm (Nat.not_lt_zero _)
    | succ n ih =>
      intro x hx hfe hm H locs ls hw hl
      have ih2 := ih
      refine j_iload_n J dX8_firstEnough_2 rfl (lv_at hl 0 rfl) ?_
      refine j_iload_n J dX8_firstEnough_3 rfl (lv_at hl 2 rfl) ?_
      refine j_bipush J (12) dX8_firstEnough_4 (by decide) ?_
      refine j_iadd J dX8_firstEnough_6 ?_
      refine j_icmp_ge J 33 (show rg x by unfold rg; omega) (show rg (a + 12) by unfold rg; omega) dX8_firstEnough_7 (by decide) (fun (h_1 : (a + 12) ≤ x) => ?_) (fun (h_1 : x < (a + 12)) => ?_)
      · refine j_iconst J (-1) dX8_firstEnough_33 ?_
        exact fin _ _ _ _ _ _ dX8_firstEnough_34 rfl (⟨by rw [hfe, show (a + 12 - x).toNat = 0 by omega]; rfl, rfl⟩) hw
      · refine j_aload_n J dX8_firstEnough_10 rfl (lv_at hl 1 rfl) ?_
        refine xg_8_0 J hw lk_X8_14 dX8_firstEnough_11 ?_
        refine j_iload_n J dX8_firstEnough_14 rfl (lv_at hl 0 rfl) ?_
        refine j_bipush J (12) dX8_firstEnough_15 (by decide) ?_
        refine j_irem J (show 0 ≤ x ∧ x < 2147483648 ∧ 0 < 12 ∧ 12 < 2147483648 from by omega) dX8_firstEnough_17 ?_
        refine k_X2_get (k := 7) (i := x % 12) hD (by decide) (show 0 ≤ x % 12 ∧ (x % 12) < ((12 : Nat) : Int) from by omega) J hw hl.1 lk_X8_20 ⟨Nat.le_of_ble_eq_true rfl, Nat.le_of_ble_eq_true rfl⟩ (Nat.le_of_ble_eq_true rfl) dX8_firstEnough_18 (fun H locs hw => ?_)
        refine j_iload_n J dX8_firstEnough_21 rfl (lv_at hl 3 rfl) ?_
        have b1 := hB.tide (x % 12)
        refine j_icmp_lt J 27 (show rg (σ 7 (x % 12)) by unfold rg; omega) (show rg h by unfold rg; omega) dX8_firstEnough_22 (by decide) (fun (h_2 : (σ 7 (x % 12)) < h) => ?_) (fun (h_2 : h ≤ (σ 7 (x % 12))) => ?_)
        · refine j_iinc J (lv' := [(3, .int (I (x + 1))), (0, .ref (ad 3)), (1, .int (I a)), (2, .int (I h))]) (k := 0) hl dX8_firstEnough_27 rfl (by decide) rfl (fun ls hl => ?_)
          refine j_goto J 2 dX8_firstEnough_30 (by decide) ?_
          exact ih2 (x + 1) (by omega) (by rw [hfe, feN_step (by omega) (by omega)]; exact congrArg (fun z => feN σ h z (x + 1)) (by omega)) (by omega) _ _ _ hw (lv_sub hl [0, 1, 2, 3] rfl)
        · refine j_iload_n J dX8_firstEnough_25 rfl (lv_at hl 0 rfl) ?_
          exact fin _ _ _ _ _ _ dX8_firstEnough_26 rfl (⟨by rw [hfe, feN_hit (by omega) (by omega)], rfl⟩) hw
  exact L2 _ a (by omega) (by rw [show (a + 12 - a).toNat = 12 by omega]) (Nat.lt_succ_self _) _ _ _ hw (lv_sub hl [0, 1, 2, 3] rfl)
theorem k_X8_firstEnough {p : Program} {l : Launch} {e : Env} {R : Room} {s : State} {m : MethodId} {args : Array Value} {below : List Frame} {meth : Method} {c : Code} {H : Heap} {locs : List Loc} {Q : State → Prop} {cc : ByteArray} {pc : Nat} {ls : Array Slot} {rest : List Value} {nL : Nat} {own : String} {D : va_G} {σ : St} {cI cZ : ClassId} {ad : Nat → Nat} {index : Nat} {a h : Int} (hD : ∀ τ, va_D (AD ad 45) (wsX cI ad τ)) (hB : Bd σ) (ha : 0 ≤ a ∧ a ≤ 10000) (hh : -1000 ≤ h ∧ h ≤ 1000) (J : Jx p m c cc nL s args own D [(cI, .int), (cZ, .boolean)] (AD ad 45) (wsX cI ad)) (hw : jW D (AD ad 45) s.heap (wsX cI ad σ) H locs) (hsz : ls.size = nL) (hlk : Cond.methodLink own index yX8_firstEnough ∈ TBw) (hR : 2 ≤ R.frames ∧ 44 ≤ R.locals) (hroom : (rest.map fun v => v.category).sum ≤ 8) (hdg : decode cc pc = .ok (.invokevirtual index, 3)) (kk : ∀ (H1 : Heap) (locs1 : List Loc), jW D (AD ad 45) s.heap (wsX cI ad σ) H1 locs1 → W p l e R s m args below meth c H1 locs1 0 0 Q (F0 m (pc + 3) ls (.int (I (feN σ h 12 a)) :: rest))) : W p l e R s m args below meth c H locs 0 0 Q (F0 m pc ls (.int (I h) :: .int (I a) :: .ref (ad 3) :: rest)) := 
  j_callVi J hw (c_X8_firstEnough  hD hB ha hh) hlk in_X8_firstEnough se_X8_firstEnough ini_X8 co_X8_firstEnough (n := 2) (by decide +kernel) ⟨rfl, rfl, hR.1, hR.2⟩ (j := 3) (ci := 8) rfl rfl rfl rfl hroom hsz ⟨Nat.zero_le _, Nat.zero_le _⟩ rfl hdg (fun r τ H1 locs1 hp hw1 => by obtain ⟨rfl, rfl⟩ := hp; exact kk H1 locs1 hw1)
def rm_X6_start : Room := { frames := 1, cells := 0, slots := 0, locals := 23 }
set_option maxHeartbeats 4000000 in
set_option maxRecDepth 100000 in
theorem c_X6_start {l : Launch} {D : va_G} {cI cZ : ClassId} {ad : Nat → Nat} {σ : St}  (hD : ∀ τ, va_D (AD ad 45) (wsX cI ad τ))  : JMv l yX6_start cX6_start 2 rm_X6_start D [(cI, .int), (cZ, .boolean)] (AD ad 45) (wsX cI ad) [.ref (ad 4)] σ (fun τ => τ = tbS σ 31) := by
  refine JMv.of RX6 (by decide +kernel) rfl (Nat.le_of_ble_eq_true rfl) hD ?_
  intro p e s m args below meth c Q J fin H ls hw hl
  generalize ([] : List Loc) = locs at hw ⊢
  have hl : lv_has ls 2 [(0, .ref (ad 4))] := hl
  refine j_iconst J (0) dX6_start_0 ?_
  refine j_istore_n J (lv' := [(1, .int (I 0)), (0, .ref (ad 4))]) hl dX6_start_1 rfl (by decide) rfl (fun ls hl => ?_)
  have L2 : ∀ n : Nat, ∀ (i : Int), (0 ≤ i ∧ i ≤ 31) → ((31 - i).toNat) < n → ∀ (H : Heap) (locs : List Loc) (ls : Array Slot), jW D (AD ad 45) s.heap (wsX cI ad (tbS σ i)) H locs → lv_has ls 2 [(1, .int (I i)), (0, .ref (ad 4))] → W p l e rm_X6_start s m args below meth c H locs 0 0 Q (F0 m 2 ls []) := by
    intro n
    induction n with
    | zero =>
      intro i hi0 hm H locs ls hw hl
      exact absurd hm (Nat.not_lt_zero _)
    | succ n ih =>
      intro i hi0 hm H locs ls hw hl
      have ih2 := ih
      refine j_iload_n J dX6_start_2 rfl (lv_at hl 0 rfl) ?_
      refine j_bipush J (30) dX6_start_3 (by decide) ?_
      refine j_icmp_gt J 24 (show rg i by unfold rg; omega) (by unfold rg; omega) dX6_start_5 (by decide) (fun (h_1 : 30 < i) => ?_) (fun (h_1 : i ≤ 30) => ?_)
      · exact fin _ _ _ _ _ dX6_start_24 (by rw [show i = 31 by omega]) hw
      · refine j_aload_n J dX6_start_8 rfl (lv_at hl 1 rfl) ?_
        refine xg_6_0 J hw lk_X6_14 dX6_start_9 ?_
        refine j_iload_n J dX6_start_12 rfl (lv_at hl 0 rfl) ?_
        refine j_iload_n J dX6_start_13 rfl (lv_at hl 0 rfl) ?_
        refine k_X2_put (k := 8) (i := i) (v := i) hD (by decide) (show 0 ≤ i ∧ i < ((31 : Nat) : Int) from by omega) J hw hl.1 lk_X6_20 ⟨Nat.le_of_ble_eq_true rfl, Nat.le_of_ble_eq_true rfl⟩ (Nat.le_of_ble_eq_true rfl) dX6_start_14 (fun H locs hw => ?_)
        refine j_pop J dX6_start_17 rfl ?_
        refine j_iinc J (lv' := [(1, .int (I (i + 1))), (0, .ref (ad 4))]) (k := 0) hl dX6_start_18 rfl (by decide) rfl (fun ls hl => ?_)
        refine j_goto J 2 dX6_start_21 (by decide) ?_
        exact ih2 (i + 1) (by omega) (by omega) _ _ _ (by rw [← tbS_step hi0.1]; exact hw) (lv_sub hl [0, 1] rfl)
  exact L2 _ 0 (by omega) (Nat.lt_succ_self _) _ _ _ (by rw [tbS_0]; exact hw) (lv_sub hl [0, 1] rfl)
theorem k_X6_start {p : Program} {l : Launch} {e : Env} {R : Room} {s : State} {m : MethodId} {args : Array Value} {below : List Frame} {meth : Method} {c : Code} {H : Heap} {locs : List Loc} {Q : State → Prop} {cc : ByteArray} {pc : Nat} {ls : Array Slot} {rest : List Value} {nL : Nat} {own : String} {D : va_G} {σ : St} {cI cZ : ClassId} {ad : Nat → Nat} {index : Nat}  (hD : ∀ τ, va_D (AD ad 45) (wsX cI ad τ))  (J : Jx p m c cc nL s args own D [(cI, .int), (cZ, .boolean)] (AD ad 45) (wsX cI ad)) (hw : jW D (AD ad 45) s.heap (wsX cI ad σ) H locs) (hsz : ls.size = nL) (hlk : Cond.methodLink own index yX6_start ∈ TBw) (hR : 2 ≤ R.frames ∧ 44 ≤ R.locals) (hroom : (rest.map fun v => v.category).sum ≤ 8) (hdg : decode cc pc = .ok (.invokevirtual index, 3)) (kk : ∀ (H1 : Heap) (locs1 : List Loc), jW D (AD ad 45) s.heap (wsX cI ad (tbS σ 31)) H1 locs1 → W p l e R s m args below meth c H1 locs1 0 0 Q (F0 m (pc + 3) ls rest)) : W p l e R s m args below meth c H locs 0 0 Q (F0 m pc ls (.ref (ad 4) :: rest)) := 
  j_callVv J hw (c_X6_start  hD ) hlk in_X6_start se_X6_start ini_X6 co_X6_start (n := 0) (by decide +kernel) ⟨rfl, rfl, hR.1, hR.2⟩ (j := 4) (ci := 6) rfl rfl rfl rfl hroom hsz ⟨Nat.zero_le _, Nat.zero_le _⟩ rfl hdg (fun τ H1 locs1 hp hw1 => by subst hp; exact kk H1 locs1 hw1)
def rm_X6_setTable : Room := { frames := 1, cells := 0, slots := 0, locals := 23 }
set_option maxHeartbeats 4000000 in
set_option maxRecDepth 100000 in
theorem c_X6_setTable {l : Launch} {D : va_G} {cI cZ : ClassId} {ad : Nat → Nat} {σ : St} {t v : Int} (hD : ∀ τ, va_D (AD ad 45) (wsX cI ad τ)) (hB : Bd σ) (ht : 1 ≤ t ∧ t ≤ 30) (hv : 0 ≤ v ∧ v ≤ 200) : JMi l yX6_setTable cX6_setTable 5 (some .int) rm_X6_setTable D [(cI, .int), (cZ, .boolean)] (AD ad 45) (wsX cI ad) [.ref (ad 4), .int (I t), .int (I v)] σ (fun r τ => r = (σ 8 t) ∧ τ = hdS σ t v t 1 31) := by
  refine JMi.of RX6 (by decide +kernel) rfl (Nat.le_of_ble_eq_true rfl) hD ?_
  intro p e s m args below meth c Q J fin H ls hw hl
  generalize ([] : List Loc) = locs at hw ⊢
  have hl : lv_has ls 5 [(0, .ref (ad 4)), (1, .int (I t)), (2, .int (I v))] := hl
  refine j_aload_n J dX6_setTable_0 rfl (lv_at hl 0 rfl) ?_
  refine xg_6_0 J hw lk_X6_14 dX6_setTable_1 ?_
  refine j_iload_n J dX6_setTable_4 rfl (lv_at hl 1 rfl) ?_
  refine k_X2_get (k := 8) (i := t) hD (by decide) (show 0 ≤ t ∧ t < ((31 : Nat) : Int) from by omega) J hw hl.1 lk_X6_24 ⟨Nat.le_of_ble_eq_true rfl, Nat.le_of_ble_eq_true rfl⟩ (Nat.le_of_ble_eq_true rfl) dX6_setTable_5 (fun H locs hw => ?_)
  refine j_istore_n J (lv' := [(3, .int (I (σ 8 t))), (0, .ref (ad 4)), (1, .int (I t)), (2, .int (I v))]) hl dX6_setTable_8 rfl (by decide) rfl (fun ls hl => ?_)
  refine j_iconst J (1) dX6_setTable_9 ?_
  refine j_istore J (lv' := [(4, .int (I 1)), (3, .int (I (σ 8 t))), (0, .ref (ad 4)), (1, .int (I t)), (2, .int (I v))]) hl dX6_setTable_10 (by decide) rfl (fun ls hl => ?_)
  have L12 : ∀ n : Nat, ∀ (i : Int), (1 ≤ i ∧ i ≤ t) → ((t - i).toNat) < n → ∀ (H : Heap) (locs : List Loc) (ls : Array Slot), jW D (AD ad 45) s.heap (wsX cI ad (hdS σ t v i 0 (t + 1))) H locs → lv_has ls 5 [(4, .int (I i)), (0, .ref (ad 4)), (1, .int (I t)), (2, .int (I v)), (3, .int (I (σ 8 t)))] → W p l e rm_X6_setTable s m args below meth c H locs 0 0 Q (F0 m 12 ls []) := by
    intro n
    induction n with
    | zero =>
      intro i hi0 hm H locs ls hw hl
      exact absurd hm (Nat.not_lt_zero _)
    | succ n ih =>
      intro i hi0 hm H locs ls hw hl
      have ih12 := ih
      refine j_iload J dX6_setTable_12 (lv_at hl 0 rfl) ?_
      refine j_iload_n J dX6_setTable_14 rfl (lv_at hl 2 rfl) ?_
      refine j_icmp_ge J 47 (show rg i by unfold rg; omega) (show rg t by unfold rg; omega) dX6_setTable_15 (by decide) (fun (h_1 : t ≤ i) => ?_) (fun (h_1 : i < t) => ?_)
      · refine j_aload_n J dX6_setTable_47 rfl (lv_at hl 1 rfl) ?_
        refine xg_6_0 J hw lk_X6_14 dX6_setTable_48 ?_
        refine j_iload_n J dX6_setTable_51 rfl (lv_at hl 2 rfl) ?_
        refine j_iload_n J dX6_setTable_52 rfl (lv_at hl 3 rfl) ?_
        refine k_X2_put (k := 8) (i := t) (v := v) hD (by decide) (show 0 ≤ t ∧ t < ((31 : Nat) : Int) from by omega) J hw hl.1 lk_X6_20 ⟨Nat.le_of_ble_eq_true rfl, Nat.le_of_ble_eq_true rfl⟩ (Nat.le_of_ble_eq_true rfl) dX6_setTable_53 (fun H locs hw => ?_)
        refine j_pop J dX6_setTable_56 rfl ?_
        refine j_iload_n J dX6_setTable_57 rfl (lv_at hl 2 rfl) ?_
        refine j_iconst J (1) dX6_setTable_58 ?_
        refine j_iadd J dX6_setTable_59 ?_
        refine j_istore J (lv' := [(4, .int (I (t + 1))), (0, .ref (ad 4)), (1, .int (I t)), (2, .int (I v)), (3, .int (I (σ 8 t)))]) hl dX6_setTable_60 (by decide) rfl (fun ls hl => ?_)
        have L62 : ∀ n : Nat, ∀ (i2 : Int), (t + 1 ≤ i2 ∧ i2 ≤ 31) → ((31 - i2).toNat) < n → ∀ (H : Heap) (locs : List Loc) (ls : Array Slot), jW D (AD ad 45) s.heap (wsX cI ad (hdS σ t v t 1 i2)) H locs → lv_has ls 5 [(4, .int (I i2)), (0, .ref (ad 4)), (1, .int (I t)), (2, .int (I v)), (3, .int (I (σ 8 t)))] → W p l e rm_X6_setTable s m args below meth c H locs 0 0 Q (F0 m 62 ls []) := by
          intro n
          induction n with
          | zero =>
            intro i2 hi2 hm H locs ls hw hl
            exact absurd hm (Nat.not_lt_zero _)
          | succ n ih =>
            intro i2 hi2 hm H locs ls hw hl
            have ih62 := ih
            refine j_iload J dX6_setTable_62 (lv_at hl 0 rfl) ?_
            refine j_bipush J (30) dX6_setTable_64 (by decide) ?_
            refine j_icmp_gt J 98 (show rg i2 by unfold rg; omega) (by unfold rg; omega) dX6_setTable_66 (by decide) (fun (h_2 : 30 < i2) => ?_) (fun (h_2 : i2 ≤ 30) => ?_)
            · refine j_iload_n J dX6_setTable_98 rfl (lv_at hl 4 rfl) ?_
              exact fin _ _ _ _ _ _ dX6_setTable_99 rfl (⟨rfl, by rw [show i2 = 31 by omega]⟩) hw
            · refine j_aload_n J dX6_setTable_69 rfl (lv_at hl 1 rfl) ?_
              refine xg_6_0 J hw lk_X6_14 dX6_setTable_70 ?_
              refine j_iload J dX6_setTable_73 (lv_at hl 0 rfl) ?_
              refine j_iload_n J dX6_setTable_75 rfl (lv_at hl 3 rfl) ?_
              refine j_aload_n J dX6_setTable_76 rfl (lv_at hl 1 rfl) ?_
              refine xg_6_0 J hw lk_X6_14 dX6_setTable_77 ?_
              refine j_iload J dX6_setTable_80 (lv_at hl 0 rfl) ?_
              refine k_X2_get (k := 8) (i := i2) hD (by decide) (show 0 ≤ i2 ∧ i2 < ((31 : Nat) : Int) from by omega) J hw hl.1 lk_X6_24 ⟨Nat.le_of_ble_eq_true rfl, Nat.le_of_ble_eq_true rfl⟩ (Nat.le_of_ble_eq_true rfl) dX6_setTable_82 (fun H locs hw => ?_)
              have b1 := hB.table i2; rw [show hdS σ t v t 1 i2 8 i2 = σ 8 i2 from hdS_at2 (by omega)]
              refine j_max J (show rg v by unfold rg; omega) (show rg (σ 8 i2) by unfold rg; omega) hl.1 lk_X6_33 ⟨Nat.le_of_ble_eq_true rfl, Nat.le_of_ble_eq_true rfl, Nat.zero_le _, Nat.zero_le _⟩ dX6_setTable_85 ?_
              refine k_X2_put (k := 8) (i := i2) (v := max v (σ 8 i2)) hD (by decide) (show 0 ≤ i2 ∧ i2 < ((31 : Nat) : Int) from by omega) J hw hl.1 lk_X6_20 ⟨Nat.le_of_ble_eq_true rfl, Nat.le_of_ble_eq_true rfl⟩ (Nat.le_of_ble_eq_true rfl) dX6_setTable_88 (fun H locs hw => ?_)
              refine j_pop J dX6_setTable_91 rfl ?_
              refine j_iinc J (lv' := [(4, .int (I (i2 + 1))), (0, .ref (ad 4)), (1, .int (I t)), (2, .int (I v)), (3, .int (I (σ 8 t)))]) (k := 0) hl dX6_setTable_92 rfl (by decide) rfl (fun ls hl => ?_)
              refine j_goto J 62 dX6_setTable_95 (by decide) ?_
              exact ih62 (i2 + 1) (by omega) (by omega) _ _ _ (by rw [← hdS_hi hi2.1]; exact hw) (lv_sub hl [0, 1, 2, 3, 4] rfl)
        have e9 : i = t := by omega
        rw [e9] at hw
        exact L62 _ (t + 1) (by omega) (Nat.lt_succ_self _) _ _ _ (by rw [← hdS_mid (by omega)]; exact hw) (lv_sub hl [0, 1, 2, 3, 4] rfl)
      · refine j_aload_n J dX6_setTable_18 rfl (lv_at hl 1 rfl) ?_
        refine xg_6_0 J hw lk_X6_14 dX6_setTable_19 ?_
        refine j_iload J dX6_setTable_22 (lv_at hl 0 rfl) ?_
        refine j_iload_n J dX6_setTable_24 rfl (lv_at hl 3 rfl) ?_
        refine j_aload_n J dX6_setTable_25 rfl (lv_at hl 1 rfl) ?_
        refine xg_6_0 J hw lk_X6_14 dX6_setTable_26 ?_
        refine j_iload J dX6_setTable_29 (lv_at hl 0 rfl) ?_
        refine k_X2_get (k := 8) (i := i) hD (by decide) (show 0 ≤ i ∧ i < ((31 : Nat) : Int) from by omega) J hw hl.1 lk_X6_24 ⟨Nat.le_of_ble_eq_true rfl, Nat.le_of_ble_eq_true rfl⟩ (Nat.le_of_ble_eq_true rfl) dX6_setTable_31 (fun H locs hw => ?_)
        have b1 := hB.table i; rw [show hdS σ t v i 0 (t + 1) 8 i = σ 8 i from hdS_at1 (by omega)]
        refine j_min J (show rg v by unfold rg; omega) (show rg (σ 8 i) by unfold rg; omega) hl.1 lk_X6_28 ⟨Nat.le_of_ble_eq_true rfl, Nat.le_of_ble_eq_true rfl, Nat.zero_le _, Nat.zero_le _⟩ dX6_setTable_34 ?_
        refine k_X2_put (k := 8) (i := i) (v := min v (σ 8 i)) hD (by decide) (show 0 ≤ i ∧ i < ((31 : Nat) : Int) from by omega) J hw hl.1 lk_X6_20 ⟨Nat.le_of_ble_eq_true rfl, Nat.le_of_ble_eq_true rfl⟩ (Nat.le_of_ble_eq_true rfl) dX6_setTable_37 (fun H locs hw => ?_)
        refine j_pop J dX6_setTable_40 rfl ?_
        refine j_iinc J (lv' := [(4, .int (I (i + 1))), (0, .ref (ad 4)), (1, .int (I t)), (2, .int (I v)), (3, .int (I (σ 8 t)))]) (k := 0) hl dX6_setTable_41 rfl (by decide) rfl (fun ls hl => ?_)
        refine j_goto J 12 dX6_setTable_44 (by decide) ?_
        exact ih12 (i + 1) (by omega) (by omega) _ _ _ (by rw [← hdS_lo hi0.1 (by omega)]; exact hw) (lv_sub hl [0, 1, 2, 3, 4] rfl)
  exact L12 _ 1 (by omega) (Nat.lt_succ_self _) _ _ _ (by rw [hdS_0]; exact hw) (lv_sub hl [0, 2, 3, 4, 1] rfl)
theorem k_X6_setTable {p : Program} {l : Launch} {e : Env} {R : Room} {s : State} {m : MethodId} {args : Array Value} {below : List Frame} {meth : Method} {c : Code} {H : Heap} {locs : List Loc} {Q : State → Prop} {cc : ByteArray} {pc : Nat} {ls : Array Slot} {rest : List Value} {nL : Nat} {own : String} {D : va_G} {σ : St} {cI cZ : ClassId} {ad : Nat → Nat} {index : Nat} {t v : Int} (hD : ∀ τ, va_D (AD ad 45) (wsX cI ad τ)) (hB : Bd σ) (ht : 1 ≤ t ∧ t ≤ 30) (hv : 0 ≤ v ∧ v ≤ 200) (J : Jx p m c cc nL s args own D [(cI, .int), (cZ, .boolean)] (AD ad 45) (wsX cI ad)) (hw : jW D (AD ad 45) s.heap (wsX cI ad σ) H locs) (hsz : ls.size = nL) (hlk : Cond.methodLink own index yX6_setTable ∈ TBw) (hR : 2 ≤ R.frames ∧ 47 ≤ R.locals) (hroom : (rest.map fun v => v.category).sum ≤ 8) (hdg : decode cc pc = .ok (.invokevirtual index, 3)) (kk : ∀ (H1 : Heap) (locs1 : List Loc), jW D (AD ad 45) s.heap (wsX cI ad (hdS σ t v t 1 31)) H1 locs1 → W p l e R s m args below meth c H1 locs1 0 0 Q (F0 m (pc + 3) ls (.int (I (σ 8 t)) :: rest))) : W p l e R s m args below meth c H locs 0 0 Q (F0 m pc ls (.int (I v) :: .int (I t) :: .ref (ad 4) :: rest)) := 
  j_callVi J hw (c_X6_setTable  hD hB ht hv) hlk in_X6_setTable se_X6_setTable ini_X6 co_X6_setTable (n := 2) (by decide +kernel) ⟨rfl, rfl, hR.1, hR.2⟩ (j := 4) (ci := 6) rfl rfl rfl rfl hroom hsz ⟨Nat.zero_le _, Nat.zero_le _⟩ rfl hdg (fun r τ H1 locs1 hp hw1 => by obtain ⟨rfl, rfl⟩ := hp; exact kk H1 locs1 hw1)
def rm_X6_bestMinutes : Room := { frames := 1, cells := 0, slots := 0, locals := 21 }
set_option maxHeartbeats 4000000 in
set_option maxRecDepth 100000 in
theorem c_X6_bestMinutes {l : Launch} {D : va_G} {cI cZ : ClassId} {ad : Nat → Nat} {σ : St} {a : Int} (hD : ∀ τ, va_D (AD ad 45) (wsX cI ad τ)) (hB : Bd σ) (ha : 1 ≤ a ∧ a ≤ 20) : JMi l yX6_bestMinutes cX6_bestMinutes 5 (some .int) rm_X6_bestMinutes D [(cI, .int), (cZ, .boolean)] (AD ad 45) (wsX cI ad) [.ref (ad 4), .int (I a)] σ (fun r τ => r = (bsN σ a 29) ∧ τ = σ) := by
  refine JMi.of RX6 (by decide +kernel) rfl (Nat.le_of_ble_eq_true rfl) hD ?_
  intro p e s m args below meth c Q J fin H ls hw hl
  generalize ([] : List Loc) = locs at hw ⊢
  have hl : lv_has ls 5 [(0, .ref (ad 4)), (1, .int (I a))] := hl
  refine j_bipush J (120) dX6_bestMinutes_0 (by decide) ?_
  refine j_iload_n J dX6_bestMinutes_2 rfl (lv_at hl 1 rfl) ?_
  refine j_imul J dX6_bestMinutes_3 ?_
  refine j_istore_n J (lv' := [(2, .int (I (120 * a))), (0, .ref (ad 4)), (1, .int (I a))]) hl dX6_bestMinutes_4 rfl (by decide) rfl (fun ls hl => ?_)
  refine j_iconst J (1) dX6_bestMinutes_5 ?_
  refine j_istore_n J (lv' := [(3, .int (I 1)), (2, .int (I (120 * a))), (0, .ref (ad 4)), (1, .int (I a))]) hl dX6_bestMinutes_6 rfl (by decide) rfl (fun ls hl => ?_)
  refine j_iconst J (2) dX6_bestMinutes_7 ?_
  refine j_istore J (lv' := [(4, .int (I 2)), (3, .int (I 1)), (2, .int (I (120 * a))), (0, .ref (ad 4)), (1, .int (I a))]) hl dX6_bestMinutes_8 (by decide) rfl (fun ls hl => ?_)
  have L10 : ∀ n : Nat, ∀ (f : Int) (t : Int), (2 ≤ t ∧ t ≤ 31) → (1 ≤ f ∧ f ≤ 30) → (f = bsN σ a (t - 2).toNat) → ((31 - t).toNat) < n → ∀ (H : Heap) (locs : List Loc) (ls : Array Slot), jW D (AD ad 45) s.heap (wsX cI ad σ) H locs → lv_has ls 5 [(4, .int (I t)), (0, .ref (ad 4)), (1, .int (I a)), (2, .int (I (120 * a))), (3, .int (I f))] → W p l e rm_X6_bestMinutes s m args below meth c H locs 0 0 Q (F0 m 10 ls []) := by
    intro n
    induction n with
    | zero =>
      intro f t ht hf hfe hm H locs ls hw hl
      exact absurd hm (Nat.not_lt_zero _)
    | succ n ih =>
      intro f t ht hf hfe hm H locs ls hw hl
      have ih10 := ih
      refine j_iload J dX6_bestMinutes_10 (lv_at hl 0 rfl) ?_
      refine j_bipush J (30) dX6_bestMinutes_12 (by decide) ?_
      refine j_icmp_gt J 55 (show rg t by unfold rg; omega) (by unfold rg; omega) dX6_bestMinutes_14 (by decide) (fun (h_1 : 30 < t) => ?_) (fun (h_1 : t ≤ 30) => ?_)
      · refine j_iload_n J dX6_bestMinutes_55 rfl (lv_at hl 4 rfl) ?_
        exact fin _ _ _ _ _ _ dX6_bestMinutes_56 rfl (⟨by rw [hfe, show (t - 2).toNat = 29 by omega], rfl⟩) hw
      · refine j_aload_n J dX6_bestMinutes_17 rfl (lv_at hl 1 rfl) ?_
        refine xg_6_0 J hw lk_X6_14 dX6_bestMinutes_18 ?_
        refine j_iload J dX6_bestMinutes_21 (lv_at hl 0 rfl) ?_
        refine k_X2_get (k := 8) (i := t) hD (by decide) (show 0 ≤ t ∧ t < ((31 : Nat) : Int) from by omega) J hw hl.1 lk_X6_24 ⟨Nat.le_of_ble_eq_true rfl, Nat.le_of_ble_eq_true rfl⟩ (Nat.le_of_ble_eq_true rfl) dX6_bestMinutes_23 (fun H locs hw => ?_)
        refine j_iload_n J dX6_bestMinutes_26 rfl (lv_at hl 4 rfl) ?_
        refine j_iload_n J dX6_bestMinutes_27 rfl (lv_at hl 3 rfl) ?_
        refine j_iadd J dX6_bestMinutes_28 ?_
        refine j_imul J dX6_bestMinutes_29 ?_
        refine j_aload_n J dX6_bestMinutes_30 rfl (lv_at hl 1 rfl) ?_
        refine xg_6_0 J hw lk_X6_14 dX6_bestMinutes_31 ?_
        refine j_iload_n J dX6_bestMinutes_34 rfl (lv_at hl 4 rfl) ?_
        refine k_X2_get (k := 8) (i := f) hD (by decide) (show 0 ≤ f ∧ f < ((31 : Nat) : Int) from by omega) J hw hl.1 lk_X6_24 ⟨Nat.le_of_ble_eq_true rfl, Nat.le_of_ble_eq_true rfl⟩ (Nat.le_of_ble_eq_true rfl) dX6_bestMinutes_35 (fun H locs hw => ?_)
        refine j_iload J dX6_bestMinutes_38 (lv_at hl 0 rfl) ?_
        refine j_iload_n J dX6_bestMinutes_40 rfl (lv_at hl 3 rfl) ?_
        refine j_iadd J dX6_bestMinutes_41 ?_
        refine j_imul J dX6_bestMinutes_42 ?_
        have b1 := hB.table t; have b2 := hB.table f
        have q1 : 0 ≤ σ 8 t * (f + 120 * a) ∧ σ 8 t * (f + 120 * a) ≤ 200 * 2430 := ⟨Int.mul_nonneg (by omega) (by omega), Int.mul_le_mul (by omega) (by omega) (by omega) (by omega)⟩
        have q2 : 0 ≤ σ 8 f * (t + 120 * a) ∧ σ 8 f * (t + 120 * a) ≤ 200 * 2430 := ⟨Int.mul_nonneg (by omega) (by omega), Int.mul_le_mul (by omega) (by omega) (by omega) (by omega)⟩
        refine j_icmp_le J 49 (show rg ((σ 8 t) * (f + (120 * a))) by unfold rg; omega) (show rg ((σ 8 f) * (t + (120 * a))) by unfold rg; omega) dX6_bestMinutes_43 (by decide) (fun (h_2 : ((σ 8 t) * (f + (120 * a))) ≤ ((σ 8 f) * (t + (120 * a)))) => ?_) (fun (h_2 : ((σ 8 f) * (t + (120 * a))) < ((σ 8 t) * (f + (120 * a)))) => ?_)
        · refine j_iinc J (lv' := [(4, .int (I (t + 1))), (0, .ref (ad 4)), (1, .int (I a)), (2, .int (I (120 * a))), (3, .int (I f))]) (k := 0) hl dX6_bestMinutes_49 rfl (by decide) rfl (fun ls hl => ?_)
          refine j_goto J 10 dX6_bestMinutes_52 (by decide) ?_
          exact ih10 f (t + 1) (by omega) (by omega) (by rw [show (t + 1 - 2).toNat = (t - 2).toNat + 1 by omega]; first | exact bsN_yes ht.1 hfe (by assumption) | exact bsN_no ht.1 hfe (Int.not_lt.mpr (by assumption))) (by omega) _ _ _ hw (lv_sub hl [0, 1, 2, 3, 4] rfl)
        · refine j_iload J dX6_bestMinutes_46 (lv_at hl 0 rfl) ?_
          refine j_istore_n J (lv' := [(3, .int (I t)), (4, .int (I t)), (0, .ref (ad 4)), (1, .int (I a)), (2, .int (I (120 * a)))]) hl dX6_bestMinutes_48 rfl (by decide) rfl (fun ls hl => ?_)
          refine j_iinc J (lv' := [(4, .int (I (t + 1))), (3, .int (I t)), (0, .ref (ad 4)), (1, .int (I a)), (2, .int (I (120 * a)))]) (k := 1) hl dX6_bestMinutes_49 rfl (by decide) rfl (fun ls hl => ?_)
          refine j_goto J 10 dX6_bestMinutes_52 (by decide) ?_
          exact ih10 t (t + 1) (by omega) (by omega) (by rw [show (t + 1 - 2).toNat = (t - 2).toNat + 1 by omega]; first | exact bsN_yes ht.1 hfe (by assumption) | exact bsN_no ht.1 hfe (Int.not_lt.mpr (by assumption))) (by omega) _ _ _ hw (lv_sub hl [0, 2, 3, 4, 1] rfl)
  exact L10 _ 1 2 (by omega) (by omega) (rfl) (Nat.lt_succ_self _) _ _ _ hw (lv_sub hl [0, 3, 4, 2, 1] rfl)
theorem k_X6_bestMinutes {p : Program} {l : Launch} {e : Env} {R : Room} {s : State} {m : MethodId} {args : Array Value} {below : List Frame} {meth : Method} {c : Code} {H : Heap} {locs : List Loc} {Q : State → Prop} {cc : ByteArray} {pc : Nat} {ls : Array Slot} {rest : List Value} {nL : Nat} {own : String} {D : va_G} {σ : St} {cI cZ : ClassId} {ad : Nat → Nat} {index : Nat} {a : Int} (hD : ∀ τ, va_D (AD ad 45) (wsX cI ad τ)) (hB : Bd σ) (ha : 1 ≤ a ∧ a ≤ 20) (J : Jx p m c cc nL s args own D [(cI, .int), (cZ, .boolean)] (AD ad 45) (wsX cI ad)) (hw : jW D (AD ad 45) s.heap (wsX cI ad σ) H locs) (hsz : ls.size = nL) (hlk : Cond.methodLink own index yX6_bestMinutes ∈ TBw) (hR : 2 ≤ R.frames ∧ 45 ≤ R.locals) (hroom : (rest.map fun v => v.category).sum ≤ 8) (hdg : decode cc pc = .ok (.invokevirtual index, 3)) (kk : ∀ (H1 : Heap) (locs1 : List Loc), jW D (AD ad 45) s.heap (wsX cI ad σ) H1 locs1 → W p l e R s m args below meth c H1 locs1 0 0 Q (F0 m (pc + 3) ls (.int (I (bsN σ a 29)) :: rest))) : W p l e R s m args below meth c H locs 0 0 Q (F0 m pc ls (.int (I a) :: .ref (ad 4) :: rest)) := 
  j_callVi J hw (c_X6_bestMinutes  hD hB ha) hlk in_X6_bestMinutes se_X6_bestMinutes ini_X6 co_X6_bestMinutes (n := 1) (by decide +kernel) ⟨rfl, rfl, hR.1, hR.2⟩ (j := 4) (ci := 6) rfl rfl rfl rfl hroom hsz ⟨Nat.zero_le _, Nat.zero_le _⟩ rfl hdg (fun r τ H1 locs1 hp hw1 => by obtain ⟨rfl, rfl⟩ := hp; exact kk H1 locs1 hw1)
def rm_X7_start : Room := { frames := 1, cells := 0, slots := 0, locals := 22 }
set_option maxHeartbeats 4000000 in
set_option maxRecDepth 100000 in
theorem c_X7_start {l : Launch} {D : va_G} {cI cZ : ClassId} {ad : Nat → Nat} {σ : St}  (hD : ∀ τ, va_D (AD ad 45) (wsX cI ad τ))  : JMv l yX7_start cX7_start 1 rm_X7_start D [(cI, .int), (cZ, .boolean)] (AD ad 45) (wsX cI ad) [.ref (ad 6)] σ (fun τ => τ = fl (fl (fl σ 10 0 3) 11 1000 3) 12 2 3) := by
  refine JMv.of RX7 (by decide +kernel) rfl (Nat.le_of_ble_eq_true rfl) hD ?_
  intro p e s m args below meth c Q J fin H ls hw hl
  generalize ([] : List Loc) = locs at hw ⊢
  have hl : lv_has ls 1 [(0, .ref (ad 6))] := hl
  refine j_aload_n J dX7_start_0 rfl (lv_at hl 0 rfl) ?_
  refine xg_7_0 J hw lk_X7_14 dX7_start_1 ?_
  refine j_iconst J (0) dX7_start_4 ?_
  refine k_X2_fill (k := 10) (v := 0) hD (by decide) J hw hl.1 lk_X7_26 ⟨Nat.le_of_ble_eq_true rfl, Nat.le_of_ble_eq_true rfl⟩ (Nat.le_of_ble_eq_true rfl) dX7_start_5 (fun H locs hw => ?_)
  refine j_aload_n J dX7_start_8 rfl (lv_at hl 0 rfl) ?_
  refine xg_7_1 J hw lk_X7_20 dX7_start_9 ?_
  refine j_sipush J (1000) dX7_start_12 (by decide) ?_
  refine k_X2_fill (k := 11) (v := 1000) hD (by decide) J hw hl.1 lk_X7_26 ⟨Nat.le_of_ble_eq_true rfl, Nat.le_of_ble_eq_true rfl⟩ (Nat.le_of_ble_eq_true rfl) dX7_start_15 (fun H locs hw => ?_)
  refine j_aload_n J dX7_start_18 rfl (lv_at hl 0 rfl) ?_
  refine xg_7_2 J hw lk_X7_23 dX7_start_19 ?_
  refine j_iconst J (2) dX7_start_22 ?_
  refine k_X2_fill (k := 12) (v := 2) hD (by decide) J hw hl.1 lk_X7_26 ⟨Nat.le_of_ble_eq_true rfl, Nat.le_of_ble_eq_true rfl⟩ (Nat.le_of_ble_eq_true rfl) dX7_start_23 (fun H locs hw => ?_)
  exact fin _ _ _ _ _ dX7_start_26 (rfl) hw
theorem k_X7_start {p : Program} {l : Launch} {e : Env} {R : Room} {s : State} {m : MethodId} {args : Array Value} {below : List Frame} {meth : Method} {c : Code} {H : Heap} {locs : List Loc} {Q : State → Prop} {cc : ByteArray} {pc : Nat} {ls : Array Slot} {rest : List Value} {nL : Nat} {own : String} {D : va_G} {σ : St} {cI cZ : ClassId} {ad : Nat → Nat} {index : Nat}  (hD : ∀ τ, va_D (AD ad 45) (wsX cI ad τ))  (J : Jx p m c cc nL s args own D [(cI, .int), (cZ, .boolean)] (AD ad 45) (wsX cI ad)) (hw : jW D (AD ad 45) s.heap (wsX cI ad σ) H locs) (hsz : ls.size = nL) (hlk : Cond.methodLink own index yX7_start ∈ TBw) (hR : 2 ≤ R.frames ∧ 42 ≤ R.locals) (hroom : (rest.map fun v => v.category).sum ≤ 8) (hdg : decode cc pc = .ok (.invokevirtual index, 3)) (kk : ∀ (H1 : Heap) (locs1 : List Loc), jW D (AD ad 45) s.heap (wsX cI ad (fl (fl (fl σ 10 0 3) 11 1000 3) 12 2 3)) H1 locs1 → W p l e R s m args below meth c H1 locs1 0 0 Q (F0 m (pc + 3) ls rest)) : W p l e R s m args below meth c H locs 0 0 Q (F0 m pc ls (.ref (ad 6) :: rest)) := 
  j_callVv J hw (c_X7_start  hD ) hlk in_X7_start se_X7_start ini_X7 co_X7_start (n := 0) (by decide +kernel) ⟨rfl, rfl, hR.1, hR.2⟩ (j := 6) (ci := 7) rfl rfl rfl rfl hroom hsz ⟨Nat.zero_le _, Nat.zero_le _⟩ rfl hdg (fun τ H1 locs1 hp hw1 => by subst hp; exact kk H1 locs1 hw1)
def rm_X7_has : Room := { frames := 1, cells := 0, slots := 0, locals := 22 }
set_option maxHeartbeats 4000000 in
set_option maxRecDepth 100000 in
theorem c_X7_has {l : Launch} {D : va_G} {cI cZ : ClassId} {ad : Nat → Nat} {σ : St} {sp : Int} (hD : ∀ τ, va_D (AD ad 45) (wsX cI ad τ)) (r_sp : rg sp) : JMi l yX7_has cX7_has 2 (some .boolean) rm_X7_has D [(cI, .int), (cZ, .boolean)] (AD ad 45) (wsX cI ad) [.ref (ad 6), .int (I sp)] σ (fun r τ => r = (if 0 ≤ sp ∧ sp ≤ 2 then 1 else 0) ∧ τ = σ) := by
  refine JMi.of RX7 (by decide +kernel) rfl (Nat.le_of_ble_eq_true rfl) hD ?_
  intro p e s m args below meth c Q J fin H ls hw hl
  generalize ([] : List Loc) = locs at hw ⊢
  have hl : lv_has ls 2 [(0, .ref (ad 6)), (1, .int (I sp))] := hl
  have u_sp := r_sp; unfold rg at u_sp
  refine j_iload_n J dX7_has_0 rfl (lv_at hl 1 rfl) ?_
  refine j_iconst J (0) dX7_has_1 ?_
  refine j_iconst J (2) dX7_has_2 ?_
  refine kn_X9_within (v := sp) (lo := 0) (hi := 2) hD (by unfold rg; omega) (by unfold rg; omega) (by unfold rg; omega) J hw hl.1 (List.mem_of_getElem? (i := 9) rfl) ⟨Nat.le_of_ble_eq_true rfl, Nat.le_of_ble_eq_true rfl⟩ (Nat.le_of_ble_eq_true rfl) dX7_has_3 (fun H locs hw => ?_)
  exact fin _ _ _ _ _ _ dX7_has_6 (by split <;> rfl) (⟨rfl, rfl⟩) hw
theorem k_X7_has {p : Program} {l : Launch} {e : Env} {R : Room} {s : State} {m : MethodId} {args : Array Value} {below : List Frame} {meth : Method} {c : Code} {H : Heap} {locs : List Loc} {Q : State → Prop} {cc : ByteArray} {pc : Nat} {ls : Array Slot} {rest : List Value} {nL : Nat} {own : String} {D : va_G} {σ : St} {cI cZ : ClassId} {ad : Nat → Nat} {index : Nat} {sp : Int} (hD : ∀ τ, va_D (AD ad 45) (wsX cI ad τ)) (r_sp : rg sp) (J : Jx p m c cc nL s args own D [(cI, .int), (cZ, .boolean)] (AD ad 45) (wsX cI ad)) (hw : jW D (AD ad 45) s.heap (wsX cI ad σ) H locs) (hsz : ls.size = nL) (hlk : Cond.methodLink own index yX7_has ∈ TBw) (hR : 2 ≤ R.frames ∧ 43 ≤ R.locals) (hroom : (rest.map fun v => v.category).sum ≤ 8) (hdg : decode cc pc = .ok (.invokevirtual index, 3)) (kk : ∀ (H1 : Heap) (locs1 : List Loc), jW D (AD ad 45) s.heap (wsX cI ad σ) H1 locs1 → W p l e R s m args below meth c H1 locs1 0 0 Q (F0 m (pc + 3) ls (.int (I (if 0 ≤ sp ∧ sp ≤ 2 then 1 else 0)) :: rest))) : W p l e R s m args below meth c H locs 0 0 Q (F0 m pc ls (.int (I sp) :: .ref (ad 6) :: rest)) := 
  j_callVi J hw (c_X7_has  hD r_sp) hlk in_X7_has se_X7_has ini_X7 co_X7_has (n := 1) (by decide +kernel) ⟨rfl, rfl, hR.1, hR.2⟩ (j := 6) (ci := 7) rfl rfl rfl rfl hroom hsz ⟨Nat.zero_le _, Nat.zero_le _⟩ rfl hdg (fun r τ H1 locs1 hp hw1 => by obtain ⟨rfl, rfl⟩ := hp; exact kk H1 locs1 hw1)
def rm_X7_hasRoom : Room := { frames := 1, cells := 0, slots := 0, locals := 21 }
set_option maxHeartbeats 4000000 in
set_option maxRecDepth 100000 in
theorem c_X7_hasRoom {l : Launch} {D : va_G} {cI cZ : ClassId} {ad : Nat → Nat} {σ : St} {sp ld : Int} (hD : ∀ τ, va_D (AD ad 45) (wsX cI ad τ)) (hB : Bd σ) (hs : 0 ≤ sp ∧ sp ≤ 2) (hl0 : 0 ≤ ld ∧ ld ≤ 200) : JMi l yX7_hasRoom cX7_hasRoom 3 (some .boolean) rm_X7_hasRoom D [(cI, .int), (cZ, .boolean)] (AD ad 45) (wsX cI ad) [.ref (ad 6), .int (I sp), .int (I ld)] σ (fun r τ => r = (if σ 10 sp + ld ≤ σ 11 sp then 1 else 0) ∧ τ = σ) := by
  refine JMi.of RX7 (by decide +kernel) rfl (Nat.le_of_ble_eq_true rfl) hD ?_
  intro p e s m args below meth c Q J fin H ls hw hl
  generalize ([] : List Loc) = locs at hw ⊢
  have hl : lv_has ls 3 [(0, .ref (ad 6)), (1, .int (I sp)), (2, .int (I ld))] := hl
  have b1 := hB.held sp; have b2 := hB.most sp
  refine j_aload_n J dX7_hasRoom_0 rfl (lv_at hl 0 rfl) ?_
  refine xg_7_0 J hw lk_X7_14 dX7_hasRoom_1 ?_
  refine j_iload_n J dX7_hasRoom_4 rfl (lv_at hl 1 rfl) ?_
  refine k_X2_get (k := 10) (i := sp) hD (by decide) (show 0 ≤ sp ∧ sp < ((3 : Nat) : Int) from by omega) J hw hl.1 lk_X7_33 ⟨Nat.le_of_ble_eq_true rfl, Nat.le_of_ble_eq_true rfl⟩ (Nat.le_of_ble_eq_true rfl) dX7_hasRoom_5 (fun H locs hw => ?_)
  refine j_iload_n J dX7_hasRoom_8 rfl (lv_at hl 2 rfl) ?_
  refine j_iadd J dX7_hasRoom_9 ?_
  refine j_aload_n J dX7_hasRoom_10 rfl (lv_at hl 0 rfl) ?_
  refine xg_7_1 J hw lk_X7_20 dX7_hasRoom_11 ?_
  refine j_iload_n J dX7_hasRoom_14 rfl (lv_at hl 1 rfl) ?_
  refine k_X2_get (k := 11) (i := sp) hD (by decide) (show 0 ≤ sp ∧ sp < ((3 : Nat) : Int) from by omega) J hw hl.1 lk_X7_33 ⟨Nat.le_of_ble_eq_true rfl, Nat.le_of_ble_eq_true rfl⟩ (Nat.le_of_ble_eq_true rfl) dX7_hasRoom_15 (fun H locs hw => ?_)
  refine j_icmp_gt J 25 (show rg ((σ 10 sp) + ld) by unfold rg; omega) (show rg (σ 11 sp) by unfold rg; omega) dX7_hasRoom_18 (by decide) (fun (h_1 : (σ 11 sp) < ((σ 10 sp) + ld)) => ?_) (fun (h_1 : ((σ 10 sp) + ld) ≤ (σ 11 sp)) => ?_)
  · refine j_iconst J (0) dX7_hasRoom_25 ?_
    exact fin _ _ _ _ _ _ dX7_hasRoom_26 rfl (⟨by first | exact (if_pos (by omega)).symm | exact (if_neg (by omega)).symm, rfl⟩) hw
  · refine j_iconst J (1) dX7_hasRoom_21 ?_
    refine j_goto J 26 dX7_hasRoom_22 (by decide) ?_
    exact fin _ _ _ _ _ _ dX7_hasRoom_26 rfl (⟨by first | exact (if_pos (by omega)).symm | exact (if_neg (by omega)).symm, rfl⟩) hw
theorem k_X7_hasRoom {p : Program} {l : Launch} {e : Env} {R : Room} {s : State} {m : MethodId} {args : Array Value} {below : List Frame} {meth : Method} {c : Code} {H : Heap} {locs : List Loc} {Q : State → Prop} {cc : ByteArray} {pc : Nat} {ls : Array Slot} {rest : List Value} {nL : Nat} {own : String} {D : va_G} {σ : St} {cI cZ : ClassId} {ad : Nat → Nat} {index : Nat} {sp ld : Int} (hD : ∀ τ, va_D (AD ad 45) (wsX cI ad τ)) (hB : Bd σ) (hs : 0 ≤ sp ∧ sp ≤ 2) (hl0 : 0 ≤ ld ∧ ld ≤ 200) (J : Jx p m c cc nL s args own D [(cI, .int), (cZ, .boolean)] (AD ad 45) (wsX cI ad)) (hw : jW D (AD ad 45) s.heap (wsX cI ad σ) H locs) (hsz : ls.size = nL) (hlk : Cond.methodLink own index yX7_hasRoom ∈ TBw) (hR : 2 ≤ R.frames ∧ 43 ≤ R.locals) (hroom : (rest.map fun v => v.category).sum ≤ 8) (hdg : decode cc pc = .ok (.invokevirtual index, 3)) (kk : ∀ (H1 : Heap) (locs1 : List Loc), jW D (AD ad 45) s.heap (wsX cI ad σ) H1 locs1 → W p l e R s m args below meth c H1 locs1 0 0 Q (F0 m (pc + 3) ls (.int (I (if σ 10 sp + ld ≤ σ 11 sp then 1 else 0)) :: rest))) : W p l e R s m args below meth c H locs 0 0 Q (F0 m pc ls (.int (I ld) :: .int (I sp) :: .ref (ad 6) :: rest)) := 
  j_callVi J hw (c_X7_hasRoom  hD hB hs hl0) hlk in_X7_hasRoom se_X7_hasRoom ini_X7 co_X7_hasRoom (n := 2) (by decide +kernel) ⟨rfl, rfl, hR.1, hR.2⟩ (j := 6) (ci := 7) rfl rfl rfl rfl hroom hsz ⟨Nat.zero_le _, Nat.zero_le _⟩ rfl hdg (fun r τ H1 locs1 hp hw1 => by obtain ⟨rfl, rfl⟩ := hp; exact kk H1 locs1 hw1)
def rm_X4_has : Room := { frames := 1, cells := 0, slots := 0, locals := 22 }
set_option maxHeartbeats 4000000 in
set_option maxRecDepth 100000 in
theorem c_X4_has {l : Launch} {D : va_G} {cI cZ : ClassId} {ad : Nat → Nat} {σ : St} {po : Int} (hD : ∀ τ, va_D (AD ad 45) (wsX cI ad τ)) (hq : 0 ≤ σ 18 6 ∧ σ 18 6 ≤ 8) (r_po : rg po) : JMi l yX4_has cX4_has 2 (some .boolean) rm_X4_has D [(cI, .int), (cZ, .boolean)] (AD ad 45) (wsX cI ad) [.ref (ad 7), .int (I po)] σ (fun r τ => r = (if 0 ≤ po ∧ po ≤ σ 18 6 - 1 then 1 else 0) ∧ τ = σ) := by
  refine JMi.of RX4 (by decide +kernel) rfl (Nat.le_of_ble_eq_true rfl) hD ?_
  intro p e s m args below meth c Q J fin H ls hw hl
  generalize ([] : List Loc) = locs at hw ⊢
  have hl : lv_has ls 2 [(0, .ref (ad 7)), (1, .int (I po))] := hl
  have u_po := r_po; unfold rg at u_po
  refine j_iload_n J dX4_has_0 rfl (lv_at hl 1 rfl) ?_
  refine j_iconst J (0) dX4_has_1 ?_
  refine j_aload_n J dX4_has_2 rfl (lv_at hl 0 rfl) ?_
  refine xg_4_3 J hw lk_X4_26 dX4_has_3 ?_
  refine j_iconst J (1) dX4_has_6 ?_
  refine j_isub J dX4_has_7 ?_
  refine kn_X9_within (v := po) (lo := 0) (hi := (σ 18 6) - 1) hD (by unfold rg; omega) (by unfold rg; omega) (by unfold rg; omega) J hw hl.1 (List.mem_of_getElem? (i := 11) rfl) ⟨Nat.le_of_ble_eq_true rfl, Nat.le_of_ble_eq_true rfl⟩ (Nat.le_of_ble_eq_true rfl) dX4_has_8 (fun H locs hw => ?_)
  exact fin _ _ _ _ _ _ dX4_has_11 (by split <;> rfl) (⟨rfl, rfl⟩) hw
theorem k_X4_has {p : Program} {l : Launch} {e : Env} {R : Room} {s : State} {m : MethodId} {args : Array Value} {below : List Frame} {meth : Method} {c : Code} {H : Heap} {locs : List Loc} {Q : State → Prop} {cc : ByteArray} {pc : Nat} {ls : Array Slot} {rest : List Value} {nL : Nat} {own : String} {D : va_G} {σ : St} {cI cZ : ClassId} {ad : Nat → Nat} {index : Nat} {po : Int} (hD : ∀ τ, va_D (AD ad 45) (wsX cI ad τ)) (hq : 0 ≤ σ 18 6 ∧ σ 18 6 ≤ 8) (r_po : rg po) (J : Jx p m c cc nL s args own D [(cI, .int), (cZ, .boolean)] (AD ad 45) (wsX cI ad)) (hw : jW D (AD ad 45) s.heap (wsX cI ad σ) H locs) (hsz : ls.size = nL) (hlk : Cond.methodLink own index yX4_has ∈ TBw) (hR : 2 ≤ R.frames ∧ 43 ≤ R.locals) (hroom : (rest.map fun v => v.category).sum ≤ 8) (hdg : decode cc pc = .ok (.invokevirtual index, 3)) (kk : ∀ (H1 : Heap) (locs1 : List Loc), jW D (AD ad 45) s.heap (wsX cI ad σ) H1 locs1 → W p l e R s m args below meth c H1 locs1 0 0 Q (F0 m (pc + 3) ls (.int (I (if 0 ≤ po ∧ po ≤ σ 18 6 - 1 then 1 else 0)) :: rest))) : W p l e R s m args below meth c H locs 0 0 Q (F0 m pc ls (.int (I po) :: .ref (ad 7) :: rest)) := 
  j_callVi J hw (c_X4_has  hD hq r_po) hlk in_X4_has se_X4_has ini_X4 co_X4_has (n := 1) (by decide +kernel) ⟨rfl, rfl, hR.1, hR.2⟩ (j := 7) (ci := 4) rfl rfl rfl rfl hroom hsz ⟨Nat.zero_le _, Nat.zero_le _⟩ rfl hdg (fun r τ H1 locs1 hp hw1 => by obtain ⟨rfl, rfl⟩ := hp; exact kk H1 locs1 hw1)
def rm_X4_isFull : Room := { frames := 0, cells := 0, slots := 0, locals := 0 }
set_option maxHeartbeats 4000000 in
set_option maxRecDepth 100000 in
theorem c_X4_isFull {l : Launch} {D : va_G} {cI cZ : ClassId} {ad : Nat → Nat} {σ : St}  (hD : ∀ τ, va_D (AD ad 45) (wsX cI ad τ)) (hq : 0 ≤ σ 18 6 ∧ σ 18 6 ≤ 8) : JMi l yX4_isFull cX4_isFull 1 (some .boolean) rm_X4_isFull D [(cI, .int), (cZ, .boolean)] (AD ad 45) (wsX cI ad) [.ref (ad 7)] σ (fun r τ => r = (if 8 ≤ σ 18 6 then 1 else 0) ∧ τ = σ) := by
  refine JMi.of RX4 (by decide +kernel) rfl (Nat.le_of_ble_eq_true rfl) hD ?_
  intro p e s m args below meth c Q J fin H ls hw hl
  generalize ([] : List Loc) = locs at hw ⊢
  have hl : lv_has ls 1 [(0, .ref (ad 7))] := hl
  refine j_aload_n J dX4_isFull_0 rfl (lv_at hl 0 rfl) ?_
  refine xg_4_3 J hw lk_X4_26 dX4_isFull_1 ?_
  refine j_bipush J (8) dX4_isFull_4 (by decide) ?_
  refine j_icmp_lt J 13 (show rg (σ 18 6) by unfold rg; omega) (by unfold rg; omega) dX4_isFull_6 (by decide) (fun (h_1 : (σ 18 6) < 8) => ?_) (fun (h_1 : 8 ≤ (σ 18 6)) => ?_)
  · refine j_iconst J (0) dX4_isFull_13 ?_
    exact fin _ _ _ _ _ _ dX4_isFull_14 rfl (⟨by first | exact (if_pos (by omega)).symm | exact (if_neg (by omega)).symm, rfl⟩) hw
  · refine j_iconst J (1) dX4_isFull_9 ?_
    refine j_goto J 14 dX4_isFull_10 (by decide) ?_
    exact fin _ _ _ _ _ _ dX4_isFull_14 rfl (⟨by first | exact (if_pos (by omega)).symm | exact (if_neg (by omega)).symm, rfl⟩) hw
theorem k_X4_isFull {p : Program} {l : Launch} {e : Env} {R : Room} {s : State} {m : MethodId} {args : Array Value} {below : List Frame} {meth : Method} {c : Code} {H : Heap} {locs : List Loc} {Q : State → Prop} {cc : ByteArray} {pc : Nat} {ls : Array Slot} {rest : List Value} {nL : Nat} {own : String} {D : va_G} {σ : St} {cI cZ : ClassId} {ad : Nat → Nat} {index : Nat}  (hD : ∀ τ, va_D (AD ad 45) (wsX cI ad τ)) (hq : 0 ≤ σ 18 6 ∧ σ 18 6 ≤ 8) (J : Jx p m c cc nL s args own D [(cI, .int), (cZ, .boolean)] (AD ad 45) (wsX cI ad)) (hw : jW D (AD ad 45) s.heap (wsX cI ad σ) H locs) (hsz : ls.size = nL) (hlk : Cond.methodLink own index yX4_isFull ∈ TBw) (hR : 1 ≤ R.frames ∧ 20 ≤ R.locals) (hroom : (rest.map fun v => v.category).sum ≤ 8) (hdg : decode cc pc = .ok (.invokevirtual index, 3)) (kk : ∀ (H1 : Heap) (locs1 : List Loc), jW D (AD ad 45) s.heap (wsX cI ad σ) H1 locs1 → W p l e R s m args below meth c H1 locs1 0 0 Q (F0 m (pc + 3) ls (.int (I (if 8 ≤ σ 18 6 then 1 else 0)) :: rest))) : W p l e R s m args below meth c H locs 0 0 Q (F0 m pc ls (.ref (ad 7) :: rest)) := 
  j_callVi J hw (c_X4_isFull  hD hq) hlk in_X4_isFull se_X4_isFull ini_X4 co_X4_isFull (n := 0) (by decide +kernel) ⟨rfl, rfl, hR.1, hR.2⟩ (j := 7) (ci := 4) rfl rfl rfl rfl hroom hsz ⟨Nat.zero_le _, Nat.zero_le _⟩ rfl hdg (fun r τ H1 locs1 hp hw1 => by obtain ⟨rfl, rfl⟩ := hp; exact kk H1 locs1 hw1)
def rm_X4_put : Room := { frames := 1, cells := 0, slots := 0, locals := 23 }
set_option maxHeartbeats 4000000 in
set_option maxRecDepth 100000 in
theorem c_X4_put {l : Launch} {D : va_G} {cI cZ : ClassId} {ad : Nat → Nat} {σ : St} {cell lim : Int} (hD : ∀ τ, va_D (AD ad 45) (wsX cI ad τ)) (hq : 0 ≤ σ 18 6 ∧ σ 18 6 < 8) : JMi l yX4_put cX4_put 3 (some .int) rm_X4_put D [(cI, .int), (cZ, .boolean)] (AD ad 45) (wsX cI ad) [.ref (ad 7), .int (I cell), .int (I lim)] σ (fun r τ => r = (σ 18 6) ∧ τ = st (st (st (st σ 13 (σ 18 6) cell) 14 (σ 18 6) lim) 15 (σ 18 6) 0) 18 6 (σ 18 6 + 1)) := by
  refine JMi.of RX4 (by decide +kernel) rfl (Nat.le_of_ble_eq_true rfl) hD ?_
  intro p e s m args below meth c Q J fin H ls hw hl
  generalize ([] : List Loc) = locs at hw ⊢
  have hl : lv_has ls 3 [(0, .ref (ad 7)), (1, .int (I cell)), (2, .int (I lim))] := hl
  refine j_aload_n J dX4_put_0 rfl (lv_at hl 0 rfl) ?_
  refine xg_4_0 J hw lk_X4_14 dX4_put_1 ?_
  refine j_aload_n J dX4_put_4 rfl (lv_at hl 0 rfl) ?_
  refine xg_4_3 J hw lk_X4_26 dX4_put_5 ?_
  refine j_iload_n J dX4_put_8 rfl (lv_at hl 1 rfl) ?_
  refine k_X2_put (k := 13) (i := σ 18 6) (v := cell) hD (by decide) (show 0 ≤ σ 18 6 ∧ (σ 18 6) < ((8 : Nat) : Int) from by omega) J hw hl.1 lk_X4_34 ⟨Nat.le_of_ble_eq_true rfl, Nat.le_of_ble_eq_true rfl⟩ (Nat.le_of_ble_eq_true rfl) dX4_put_9 (fun H locs hw => ?_)
  refine j_pop J dX4_put_12 rfl ?_
  refine j_aload_n J dX4_put_13 rfl (lv_at hl 0 rfl) ?_
  refine xg_4_1 J hw lk_X4_20 dX4_put_14 ?_
  refine j_aload_n J dX4_put_17 rfl (lv_at hl 0 rfl) ?_
  refine xg_4_3 J hw lk_X4_26 dX4_put_18 ?_
  refine j_iload_n J dX4_put_21 rfl (lv_at hl 2 rfl) ?_
  refine k_X2_put (k := 14) (i := σ 18 6) (v := lim) hD (by decide) (show 0 ≤ σ 18 6 ∧ (σ 18 6) < ((8 : Nat) : Int) from by omega) J hw hl.1 lk_X4_34 ⟨Nat.le_of_ble_eq_true rfl, Nat.le_of_ble_eq_true rfl⟩ (Nat.le_of_ble_eq_true rfl) dX4_put_22 (fun H locs hw => ?_)
  refine j_pop J dX4_put_25 rfl ?_
  refine j_aload_n J dX4_put_26 rfl (lv_at hl 0 rfl) ?_
  refine xg_4_2 J hw lk_X4_23 dX4_put_27 ?_
  refine j_aload_n J dX4_put_30 rfl (lv_at hl 0 rfl) ?_
  refine xg_4_3 J hw lk_X4_26 dX4_put_31 ?_
  refine j_iconst J (0) dX4_put_34 ?_
  refine k_X2_put (k := 15) (i := σ 18 6) (v := 0) hD (by decide) (show 0 ≤ σ 18 6 ∧ (σ 18 6) < ((8 : Nat) : Int) from by omega) J hw hl.1 lk_X4_34 ⟨Nat.le_of_ble_eq_true rfl, Nat.le_of_ble_eq_true rfl⟩ (Nat.le_of_ble_eq_true rfl) dX4_put_35 (fun H locs hw => ?_)
  refine j_pop J dX4_put_38 rfl ?_
  refine j_aload_n J dX4_put_39 rfl (lv_at hl 0 rfl) ?_
  refine j_dup J dX4_put_40 rfl ?_
  refine xg_4_3 J hw lk_X4_26 dX4_put_41 ?_
  refine j_iconst J (1) dX4_put_44 ?_
  refine j_iadd J dX4_put_45 ?_
  refine xs_4_3 J hw lk_X4_26 dX4_put_46 (fun H locs hw => ?_)
  refine j_aload_n J dX4_put_49 rfl (lv_at hl 0 rfl) ?_
  refine xg_4_3 J hw lk_X4_26 dX4_put_50 ?_
  refine j_iconst J (1) dX4_put_53 ?_
  refine j_isub J dX4_put_54 ?_
  exact fin _ _ _ _ _ _ dX4_put_55 rfl (⟨by show σ 18 6 + 1 - 1 = σ 18 6; omega, rfl⟩) hw
theorem k_X4_put {p : Program} {l : Launch} {e : Env} {R : Room} {s : State} {m : MethodId} {args : Array Value} {below : List Frame} {meth : Method} {c : Code} {H : Heap} {locs : List Loc} {Q : State → Prop} {cc : ByteArray} {pc : Nat} {ls : Array Slot} {rest : List Value} {nL : Nat} {own : String} {D : va_G} {σ : St} {cI cZ : ClassId} {ad : Nat → Nat} {index : Nat} {cell lim : Int} (hD : ∀ τ, va_D (AD ad 45) (wsX cI ad τ)) (hq : 0 ≤ σ 18 6 ∧ σ 18 6 < 8) (J : Jx p m c cc nL s args own D [(cI, .int), (cZ, .boolean)] (AD ad 45) (wsX cI ad)) (hw : jW D (AD ad 45) s.heap (wsX cI ad σ) H locs) (hsz : ls.size = nL) (hlk : Cond.methodLink own index yX4_put ∈ TBw) (hR : 2 ≤ R.frames ∧ 45 ≤ R.locals) (hroom : (rest.map fun v => v.category).sum ≤ 8) (hdg : decode cc pc = .ok (.invokevirtual index, 3)) (kk : ∀ (H1 : Heap) (locs1 : List Loc), jW D (AD ad 45) s.heap (wsX cI ad (st (st (st (st σ 13 (σ 18 6) cell) 14 (σ 18 6) lim) 15 (σ 18 6) 0) 18 6 (σ 18 6 + 1))) H1 locs1 → W p l e R s m args below meth c H1 locs1 0 0 Q (F0 m (pc + 3) ls (.int (I (σ 18 6)) :: rest))) : W p l e R s m args below meth c H locs 0 0 Q (F0 m pc ls (.int (I lim) :: .int (I cell) :: .ref (ad 7) :: rest)) := 
  j_callVi J hw (c_X4_put  hD hq) hlk in_X4_put se_X4_put ini_X4 co_X4_put (n := 2) (by decide +kernel) ⟨rfl, rfl, hR.1, hR.2⟩ (j := 7) (ci := 4) rfl rfl rfl rfl hroom hsz ⟨Nat.zero_le _, Nat.zero_le _⟩ rfl hdg (fun r τ H1 locs1 hp hw1 => by obtain ⟨rfl, rfl⟩ := hp; exact kk H1 locs1 hw1)
def rm_X4_watch : Room := { frames := 2, cells := 0, slots := 0, locals := 45 }
set_option maxHeartbeats 4000000 in
set_option maxRecDepth 100000 in
theorem c_X4_watch {l : Launch} {D : va_G} {cI cZ : ClassId} {ad : Nat → Nat} {σ : St}  (hD : ∀ τ, va_D (AD ad 45) (wsX cI ad τ)) (hB : Bd σ) : JMv l yX4_watch cX4_watch 3 rm_X4_watch D [(cI, .int), (cZ, .boolean)] (AD ad 45) (wsX cI ad) [.ref (ad 7), .ref (ad 2)] σ (fun τ => τ = wtS σ (σ 18 6)) := by
  refine JMv.of RX4 (by decide +kernel) rfl (Nat.le_of_ble_eq_true rfl) hD ?_
  intro p e s m args below meth c Q J fin H ls hw hl
  generalize ([] : List Loc) = locs at hw ⊢
  have hl : lv_has ls 3 [(0, .ref (ad 7)), (1, .ref (ad 2))] := hl
  have hd : Dim _ := hB.dim
  have hd1 := hd.1; have hd2 := hd.2.1; have hd3 := hd.2.2.1; have hd4 := hd.2.2.2; have hm := hd.mul
  have hq := hB.posts; have htr := hB.trips
  refine j_iconst J (0) dX4_watch_0 ?_
  refine j_istore_n J (lv' := [(2, .int (I 0)), (0, .ref (ad 7)), (1, .ref (ad 2))]) hl dX4_watch_1 rfl (by decide) rfl (fun ls hl => ?_)
  have L2 : ∀ n : Nat, ∀ (i : Int), (0 ≤ i ∧ i ≤ σ 18 6) → ((σ 18 6 - i).toNat) < n → ∀ (H : Heap) (locs : List Loc) (ls : Array Slot), jW D (AD ad 45) s.heap (wsX cI ad (wtS σ i)) H locs → lv_has ls 3 [(2, .int (I i)), (0, .ref (ad 7)), (1, .ref (ad 2))] → W p l e rm_X4_watch s m args below meth c H locs 0 0 Q (F0 m 2 ls []) := by
    intro n
    induction n with
    | zero =>
      intro i hi0 hm H locs ls hw hl
      exact absurd hm (Nat.not_lt_zero _)
    | succ n ih =>
      intro i hi0 hm H locs ls hw hl
      have ih2 := ih
      refine j_iload_n J dX4_watch_2 rfl (lv_at hl 0 rfl) ?_
      refine j_aload_n J dX4_watch_3 rfl (lv_at hl 1 rfl) ?_
      refine xg_4_3 J hw lk_X4_26 dX4_watch_4 ?_
      refine j_icmp_ge J 51 (show rg i by unfold rg; omega) (show rg (σ 18 6) by unfold rg; omega) dX4_watch_7 (by decide) (fun (h_1 : (σ 18 6) ≤ i) => ?_) (fun (h_1 : i < (σ 18 6)) => ?_)
      · exact fin _ _ _ _ _ dX4_watch_51 (by rw [show i = σ 18 6 by omega]) hw
      · refine j_aload_n J dX4_watch_10 rfl (lv_at hl 2 rfl) ?_
        refine xg_0_0 J hw lk_X4_38 dX4_watch_11 ?_
        refine j_aload_n J dX4_watch_14 rfl (lv_at hl 1 rfl) ?_
        refine xg_4_0 J hw lk_X4_14 dX4_watch_15 ?_
        refine j_iload_n J dX4_watch_18 rfl (lv_at hl 0 rfl) ?_
        refine k_X2_get (k := 13) (i := i) hD (by decide) (show 0 ≤ i ∧ i < ((8 : Nat) : Int) from by omega) J hw hl.1 lk_X4_43 ⟨Nat.le_of_ble_eq_true rfl, Nat.le_of_ble_eq_true rfl⟩ (Nat.le_of_ble_eq_true rfl) dX4_watch_19 (fun H locs hw => ?_)
        have bp2 := hB.place i (by omega) (by omega)
        refine k_X2_get (k := 4) (i := σ 13 i) hD (by decide) (show 0 ≤ σ 13 i ∧ (σ 13 i) < ((120 : Nat) : Int) from by omega) J hw hl.1 lk_X4_43 ⟨Nat.le_of_ble_eq_true rfl, Nat.le_of_ble_eq_true rfl⟩ (Nat.le_of_ble_eq_true rfl) dX4_watch_22 (fun H locs hw => ?_)
        refine j_aload_n J dX4_watch_25 rfl (lv_at hl 1 rfl) ?_
        refine xg_4_1 J hw lk_X4_20 dX4_watch_26 ?_
        refine j_iload_n J dX4_watch_29 rfl (lv_at hl 0 rfl) ?_
        refine k_X2_get (k := 14) (i := i) hD (by decide) (show 0 ≤ i ∧ i < ((8 : Nat) : Int) from by omega) J hw hl.1 lk_X4_43 ⟨Nat.le_of_ble_eq_true rfl, Nat.le_of_ble_eq_true rfl⟩ (Nat.le_of_ble_eq_true rfl) dX4_watch_30 (fun H locs hw => ?_)
        have b1 := hB.cloud (σ 13 i); have b2 := hB.limit i
        refine j_icmp_le J 45 (show rg (σ 4 (σ 13 i)) by unfold rg; omega) (show rg (σ 14 i) by unfold rg; omega) dX4_watch_33 (by decide) (fun (h_2 : (σ 4 (σ 13 i)) ≤ (σ 14 i)) => ?_) (fun (h_2 : (σ 14 i) < (σ 4 (σ 13 i))) => ?_)
        · refine j_iinc J (lv' := [(2, .int (I (i + 1))), (0, .ref (ad 7)), (1, .ref (ad 2))]) (k := 0) hl dX4_watch_45 rfl (by decide) rfl (fun ls hl => ?_)
          refine j_goto J 2 dX4_watch_48 (by decide) ?_
          exact ih2 (i + 1) (by omega) (by omega) _ _ _ (by first | (rw [← wtS_yes hi0.1 (by assumption)]; exact hw) | (rw [← wtS_no hi0.1 (by omega)]; exact hw)) (lv_sub hl [0, 1, 2] rfl)
        · refine j_aload_n J dX4_watch_36 rfl (lv_at hl 1 rfl) ?_
          refine xg_4_2 J hw lk_X4_23 dX4_watch_37 ?_
          refine j_iload_n J dX4_watch_40 rfl (lv_at hl 0 rfl) ?_
          refine j_iconst J (1) dX4_watch_41 ?_
          refine k_X2_add (k := 15) (i := i) (v := 1) hD (by decide) (show 0 ≤ i ∧ i < ((8 : Nat) : Int) from by omega) J hw hl.1 lk_X4_47 ⟨Nat.le_of_ble_eq_true rfl, Nat.le_of_ble_eq_true rfl⟩ (Nat.le_of_ble_eq_true rfl) dX4_watch_42 (fun H locs hw => ?_)
          refine j_iinc J (lv' := [(2, .int (I (i + 1))), (0, .ref (ad 7)), (1, .ref (ad 2))]) (k := 0) hl dX4_watch_45 rfl (by decide) rfl (fun ls hl => ?_)
          refine j_goto J 2 dX4_watch_48 (by decide) ?_
          exact ih2 (i + 1) (by omega) (by omega) _ _ _ (by first | (rw [← wtS_yes hi0.1 (by assumption)]; exact hw) | (rw [← wtS_no hi0.1 (by omega)]; exact hw)) (lv_sub hl [0, 1, 2] rfl)
  exact L2 _ 0 (by omega) (Nat.lt_succ_self _) _ _ _ (by rw [wtS_0]; exact hw) (lv_sub hl [0, 1, 2] rfl)
theorem k_X4_watch {p : Program} {l : Launch} {e : Env} {R : Room} {s : State} {m : MethodId} {args : Array Value} {below : List Frame} {meth : Method} {c : Code} {H : Heap} {locs : List Loc} {Q : State → Prop} {cc : ByteArray} {pc : Nat} {ls : Array Slot} {rest : List Value} {nL : Nat} {own : String} {D : va_G} {σ : St} {cI cZ : ClassId} {ad : Nat → Nat} {index : Nat}  (hD : ∀ τ, va_D (AD ad 45) (wsX cI ad τ)) (hB : Bd σ) (J : Jx p m c cc nL s args own D [(cI, .int), (cZ, .boolean)] (AD ad 45) (wsX cI ad)) (hw : jW D (AD ad 45) s.heap (wsX cI ad σ) H locs) (hsz : ls.size = nL) (hlk : Cond.methodLink own index yX4_watch ∈ TBw) (hR : 3 ≤ R.frames ∧ 67 ≤ R.locals) (hroom : (rest.map fun v => v.category).sum ≤ 8) (hdg : decode cc pc = .ok (.invokevirtual index, 3)) (kk : ∀ (H1 : Heap) (locs1 : List Loc), jW D (AD ad 45) s.heap (wsX cI ad (wtS σ (σ 18 6))) H1 locs1 → W p l e R s m args below meth c H1 locs1 0 0 Q (F0 m (pc + 3) ls rest)) : W p l e R s m args below meth c H locs 0 0 Q (F0 m pc ls (.ref (ad 2) :: .ref (ad 7) :: rest)) := 
  j_callVv J hw (c_X4_watch  hD hB) hlk in_X4_watch se_X4_watch ini_X4 co_X4_watch (n := 1) (by decide +kernel) ⟨rfl, rfl, hR.1, hR.2⟩ (j := 7) (ci := 4) rfl rfl rfl rfl hroom hsz ⟨Nat.zero_le _, Nat.zero_le _⟩ rfl hdg (fun τ H1 locs1 hp hw1 => by subst hp; exact kk H1 locs1 hw1)
