/-! sheets -/
def tkS (σ : St) (sh n : Int) : St := fun k i => if k = 17 ∧ i = sh then 1 else if k = 16 ∧ sh * 120 ≤ i ∧ i < sh * 120 + n then σ 1 (i - sh * 120) else σ k i
theorem tkS_0 {σ : St} {sh : Int} : tkS σ sh 0 = st σ 17 sh 1 := by
  funext k i
  unfold tkS st
  by_cases h : k = 17 ∧ i = sh
  · rw [if_pos h, if_pos h]
  · rw [if_neg h, if_neg h, if_neg (by omega)]
theorem tkS_step {σ : St} {sh n : Int} (h : 0 ≤ n) : st (tkS σ sh n) 16 (sh * 120 + n) (σ 1 n) = tkS σ sh (n + 1) := by
  funext k i
  unfold st
  by_cases h1 : k = 16 ∧ i = sh * 120 + n
  · rw [if_pos h1]; unfold tkS; rw [if_neg (by omega), if_pos (by omega), show i - sh * 120 = n by omega]
  · rw [if_neg h1]; unfold tkS
    by_cases h2 : k = 17 ∧ i = sh
    · rw [if_pos h2, if_pos h2]
    · rw [if_neg h2, if_neg h2]
      by_cases h3 : k = 16 ∧ sh * 120 ≤ i ∧ i < sh * 120 + n
      · rw [if_pos h3, if_pos (by omega)]
      · rw [if_neg h3, if_neg (by omega)]
def jnS (σ : St) (sh tt n : Int) : St := fun k i => if k = 16 ∧ sh * 120 ≤ i ∧ i < sh * 120 + n ∧ σ 16 i = -4 ∧ ¬ σ 16 (tt * 120 + (i - sh * 120)) = -4 then σ 16 (tt * 120 + (i - sh * 120)) else σ k i
theorem jnS_0 {σ : St} {sh tt : Int} : jnS σ sh tt 0 = σ := by
  funext k i
  unfold jnS
  rw [if_neg (by omega)]
theorem jn_at1 {σ : St} {sh tt n : Int} : jnS σ sh tt n 16 (sh * 120 + n) = σ 16 (sh * 120 + n) := by
  unfold jnS
  rw [if_neg (by omega)]
theorem jn_at2 {σ : St} {sh tt n : Int} (h : 0 ≤ n ∧ n < 120) : jnS σ sh tt n 16 (tt * 120 + n) = σ 16 (tt * 120 + n) := by
  unfold jnS
  rw [if_neg (by omega)]
theorem jn_yes {σ τ : St} {sh tt n : Int} (h : 0 ≤ n) (hτ : τ = jnS σ sh tt n) (h1 : σ 16 (sh * 120 + n) = -4) (h2 : ¬ σ 16 (tt * 120 + n) = -4) (e2 : τ 16 (tt * 120 + n) = σ 16 (tt * 120 + n)) : st τ 16 (sh * 120 + n) (τ 16 (tt * 120 + n)) = jnS σ sh tt (n + 1) := by
  rw [e2, hτ]
  funext k i
  unfold st
  by_cases hk : k = 16 ∧ i = sh * 120 + n
  · rw [if_pos hk]; unfold jnS; rw [hk.2, if_pos ⟨hk.1, by omega, by omega, h1, by rw [show sh * 120 + n - sh * 120 = n by omega]; exact h2⟩, show sh * 120 + n - sh * 120 = n by omega]
  · rw [if_neg hk]; unfold jnS
    by_cases h3 : k = 16 ∧ sh * 120 ≤ i ∧ i < sh * 120 + n ∧ σ 16 i = -4 ∧ ¬ σ 16 (tt * 120 + (i - sh * 120)) = -4
    · rw [if_pos h3, if_pos ⟨h3.1, h3.2.1, by omega, h3.2.2.2⟩]
    · rw [if_neg h3, if_neg (fun h4 => h3 ⟨h4.1, h4.2.1, by omega, h4.2.2.2⟩)]
theorem jn_no {σ τ : St} {sh tt n : Int} (h : 0 ≤ n) (hτ : τ = jnS σ sh tt n) (h1 : ¬ (σ 16 (sh * 120 + n) = -4 ∧ ¬ σ 16 (tt * 120 + n) = -4)) : τ = jnS σ sh tt (n + 1) := by
  rw [hτ]
  funext k i
  unfold jnS
  by_cases h3 : k = 16 ∧ sh * 120 ≤ i ∧ i < sh * 120 + n ∧ σ 16 i = -4 ∧ ¬ σ 16 (tt * 120 + (i - sh * 120)) = -4
  · rw [if_pos h3, if_pos ⟨h3.1, h3.2.1, by omega, h3.2.2.2⟩]
  · rw [if_neg h3, if_neg]
    intro h4
    by_cases e : i = sh * 120 + n
    · rw [e, show sh * 120 + n - sh * 120 = n by omega] at h4
      exact h1 ⟨h4.2.2.2.1, h4.2.2.2.2⟩
    · exact h3 ⟨h4.1, h4.2.1, by omega, h4.2.2.2⟩
def rm_X5_start : Room := { frames := 1, cells := 0, slots := 0, locals := 22 }
set_option maxHeartbeats 4000000 in
set_option maxRecDepth 100000 in
theorem c_X5_start {l : Launch} {D : va_G} {cI cZ : ClassId} {ad : Nat → Nat} {σ : St}  (hD : ∀ τ, va_D (AD ad 45) (wsX cI ad τ))  : JMv l yX5_start cX5_start 1 rm_X5_start D [(cI, .int), (cZ, .boolean)] (AD ad 45) (wsX cI ad) [.ref (ad 8)] σ (fun τ => τ = fl σ 17 0 6) := by
  refine JMv.of RX5 (by decide +kernel) rfl (Nat.le_of_ble_eq_true rfl) hD ?_
  intro p e s m args below meth c Q J fin H ls hw hl
  generalize ([] : List Loc) = locs at hw ⊢
  have hl : lv_has ls 1 [(0, .ref (ad 8))] := hl
  refine j_aload_n J dX5_start_0 rfl (lv_at hl 0 rfl) ?_
  refine xg_5_1 J hw lk_X5_20 dX5_start_1 ?_
  refine j_iconst J (0) dX5_start_4 ?_
  refine k_X2_fill (k := 17) (v := 0) hD (by decide) J hw hl.1 lk_X5_23 ⟨Nat.le_of_ble_eq_true rfl, Nat.le_of_ble_eq_true rfl⟩ (Nat.le_of_ble_eq_true rfl) dX5_start_5 (fun H locs hw => ?_)
  exact fin _ _ _ _ _ dX5_start_8 (rfl) hw
theorem k_X5_start {p : Program} {l : Launch} {e : Env} {R : Room} {s : State} {m : MethodId} {args : Array Value} {below : List Frame} {meth : Method} {c : Code} {H : Heap} {locs : List Loc} {Q : State → Prop} {cc : ByteArray} {pc : Nat} {ls : Array Slot} {rest : List Value} {nL : Nat} {own : String} {D : va_G} {σ : St} {cI cZ : ClassId} {ad : Nat → Nat} {index : Nat}  (hD : ∀ τ, va_D (AD ad 45) (wsX cI ad τ))  (J : Jx p m c cc nL s args own D [(cI, .int), (cZ, .boolean)] (AD ad 45) (wsX cI ad)) (hw : jW D (AD ad 45) s.heap (wsX cI ad σ) H locs) (hsz : ls.size = nL) (hlk : Cond.methodLink own index yX5_start ∈ TBw) (hR : 2 ≤ R.frames ∧ 42 ≤ R.locals) (hroom : (rest.map fun v => v.category).sum ≤ 8) (hdg : decode cc pc = .ok (.invokevirtual index, 3)) (kk : ∀ (H1 : Heap) (locs1 : List Loc), jW D (AD ad 45) s.heap (wsX cI ad (fl σ 17 0 6)) H1 locs1 → W p l e R s m args below meth c H1 locs1 0 0 Q (F0 m (pc + 3) ls rest)) : W p l e R s m args below meth c H locs 0 0 Q (F0 m pc ls (.ref (ad 8) :: rest)) := 
  j_callVv J hw (c_X5_start  hD ) hlk in_X5_start se_X5_start ini_X5 co_X5_start (n := 0) (by decide +kernel) ⟨rfl, rfl, hR.1, hR.2⟩ (j := 8) (ci := 5) rfl rfl rfl rfl hroom hsz ⟨Nat.zero_le _, Nat.zero_le _⟩ rfl hdg (fun τ H1 locs1 hp hw1 => by subst hp; exact kk H1 locs1 hw1)
def rm_X5_has : Room := { frames := 1, cells := 0, slots := 0, locals := 22 }
set_option maxHeartbeats 4000000 in
set_option maxRecDepth 100000 in
theorem c_X5_has {l : Launch} {D : va_G} {cI cZ : ClassId} {ad : Nat → Nat} {σ : St} {sh : Int} (hD : ∀ τ, va_D (AD ad 45) (wsX cI ad τ)) (r_sh : rg sh) : JMi l yX5_has cX5_has 2 (some .boolean) rm_X5_has D [(cI, .int), (cZ, .boolean)] (AD ad 45) (wsX cI ad) [.ref (ad 8), .int (I sh)] σ (fun r τ => r = (if 0 ≤ sh ∧ sh ≤ 5 then 1 else 0) ∧ τ = σ) := by
  refine JMi.of RX5 (by decide +kernel) rfl (Nat.le_of_ble_eq_true rfl) hD ?_
  intro p e s m args below meth c Q J fin H ls hw hl
  generalize ([] : List Loc) = locs at hw ⊢
  have hl : lv_has ls 2 [(0, .ref (ad 8)), (1, .int (I sh))] := hl
  have u_sh := r_sh; unfold rg at u_sh
  refine j_iload_n J dX5_has_0 rfl (lv_at hl 1 rfl) ?_
  refine j_iconst J (0) dX5_has_1 ?_
  refine j_iconst J (5) dX5_has_2 ?_
  refine kn_X9_within (v := sh) (lo := 0) (hi := 5) hD (by unfold rg; omega) (by unfold rg; omega) (by unfold rg; omega) J hw hl.1 (List.mem_of_getElem? (i := 10) rfl) ⟨Nat.le_of_ble_eq_true rfl, Nat.le_of_ble_eq_true rfl⟩ (Nat.le_of_ble_eq_true rfl) dX5_has_3 (fun H locs hw => ?_)
  exact fin _ _ _ _ _ _ dX5_has_6 (by split <;> rfl) (⟨rfl, rfl⟩) hw
theorem k_X5_has {p : Program} {l : Launch} {e : Env} {R : Room} {s : State} {m : MethodId} {args : Array Value} {below : List Frame} {meth : Method} {c : Code} {H : Heap} {locs : List Loc} {Q : State → Prop} {cc : ByteArray} {pc : Nat} {ls : Array Slot} {rest : List Value} {nL : Nat} {own : String} {D : va_G} {σ : St} {cI cZ : ClassId} {ad : Nat → Nat} {index : Nat} {sh : Int} (hD : ∀ τ, va_D (AD ad 45) (wsX cI ad τ)) (r_sh : rg sh) (J : Jx p m c cc nL s args own D [(cI, .int), (cZ, .boolean)] (AD ad 45) (wsX cI ad)) (hw : jW D (AD ad 45) s.heap (wsX cI ad σ) H locs) (hsz : ls.size = nL) (hlk : Cond.methodLink own index yX5_has ∈ TBw) (hR : 2 ≤ R.frames ∧ 43 ≤ R.locals) (hroom : (rest.map fun v => v.category).sum ≤ 8) (hdg : decode cc pc = .ok (.invokevirtual index, 3)) (kk : ∀ (H1 : Heap) (locs1 : List Loc), jW D (AD ad 45) s.heap (wsX cI ad σ) H1 locs1 → W p l e R s m args below meth c H1 locs1 0 0 Q (F0 m (pc + 3) ls (.int (I (if 0 ≤ sh ∧ sh ≤ 5 then 1 else 0)) :: rest))) : W p l e R s m args below meth c H locs 0 0 Q (F0 m pc ls (.int (I sh) :: .ref (ad 8) :: rest)) := 
  j_callVi J hw (c_X5_has  hD r_sh) hlk in_X5_has se_X5_has ini_X5 co_X5_has (n := 1) (by decide +kernel) ⟨rfl, rfl, hR.1, hR.2⟩ (j := 8) (ci := 5) rfl rfl rfl rfl hroom hsz ⟨Nat.zero_le _, Nat.zero_le _⟩ rfl hdg (fun r τ H1 locs1 hp hw1 => by obtain ⟨rfl, rfl⟩ := hp; exact kk H1 locs1 hw1)
def rm_X5_isMissing : Room := { frames := 1, cells := 0, slots := 0, locals := 21 }
set_option maxHeartbeats 4000000 in
set_option maxRecDepth 100000 in
theorem c_X5_isMissing {l : Launch} {D : va_G} {cI cZ : ClassId} {ad : Nat → Nat} {σ : St} {sh : Int} (hD : ∀ τ, va_D (AD ad 45) (wsX cI ad τ)) (hsh : 0 ≤ sh ∧ sh ≤ 5) (hv : 0 ≤ σ 17 sh ∧ σ 17 sh ≤ 1) : JMi l yX5_isMissing cX5_isMissing 2 (some .boolean) rm_X5_isMissing D [(cI, .int), (cZ, .boolean)] (AD ad 45) (wsX cI ad) [.ref (ad 8), .int (I sh)] σ (fun r τ => r = (if σ 17 sh = 0 then 1 else 0) ∧ τ = σ) := by
  refine JMi.of RX5 (by decide +kernel) rfl (Nat.le_of_ble_eq_true rfl) hD ?_
  intro p e s m args below meth c Q J fin H ls hw hl
  generalize ([] : List Loc) = locs at hw ⊢
  have hl : lv_has ls 2 [(0, .ref (ad 8)), (1, .int (I sh))] := hl
  refine j_aload_n J dX5_isMissing_0 rfl (lv_at hl 0 rfl) ?_
  refine xg_5_1 J hw lk_X5_20 dX5_isMissing_1 ?_
  refine j_iload_n J dX5_isMissing_4 rfl (lv_at hl 1 rfl) ?_
  refine k_X2_get (k := 17) (i := sh) hD (by decide) (show 0 ≤ sh ∧ sh < ((6 : Nat) : Int) from by omega) J hw hl.1 lk_X5_30 ⟨Nat.le_of_ble_eq_true rfl, Nat.le_of_ble_eq_true rfl⟩ (Nat.le_of_ble_eq_true rfl) dX5_isMissing_5 (fun H locs hw => ?_)
  refine j_if_ne J 15 (show rg (σ 17 sh) by unfold rg; omega) dX5_isMissing_8 (by decide) (fun (h_1 : ¬ (σ 17 sh) = 0) => ?_) (fun (h_1 : (σ 17 sh) = 0) => ?_)
  · refine j_iconst J (0) dX5_isMissing_15 ?_
    exact fin _ _ _ _ _ _ dX5_isMissing_16 rfl (⟨by first | exact (if_pos (by omega)).symm | exact (if_neg (by omega)).symm, rfl⟩) hw
  · refine j_iconst J (1) dX5_isMissing_11 ?_
    refine j_goto J 16 dX5_isMissing_12 (by decide) ?_
    exact fin _ _ _ _ _ _ dX5_isMissing_16 rfl (⟨by first | exact (if_pos (by omega)).symm | exact (if_neg (by omega)).symm, rfl⟩) hw
theorem k_X5_isMissing {p : Program} {l : Launch} {e : Env} {R : Room} {s : State} {m : MethodId} {args : Array Value} {below : List Frame} {meth : Method} {c : Code} {H : Heap} {locs : List Loc} {Q : State → Prop} {cc : ByteArray} {pc : Nat} {ls : Array Slot} {rest : List Value} {nL : Nat} {own : String} {D : va_G} {σ : St} {cI cZ : ClassId} {ad : Nat → Nat} {index : Nat} {sh : Int} (hD : ∀ τ, va_D (AD ad 45) (wsX cI ad τ)) (hsh : 0 ≤ sh ∧ sh ≤ 5) (hv : 0 ≤ σ 17 sh ∧ σ 17 sh ≤ 1) (J : Jx p m c cc nL s args own D [(cI, .int), (cZ, .boolean)] (AD ad 45) (wsX cI ad)) (hw : jW D (AD ad 45) s.heap (wsX cI ad σ) H locs) (hsz : ls.size = nL) (hlk : Cond.methodLink own index yX5_isMissing ∈ TBw) (hR : 2 ≤ R.frames ∧ 42 ≤ R.locals) (hroom : (rest.map fun v => v.category).sum ≤ 8) (hdg : decode cc pc = .ok (.invokevirtual index, 3)) (kk : ∀ (H1 : Heap) (locs1 : List Loc), jW D (AD ad 45) s.heap (wsX cI ad σ) H1 locs1 → W p l e R s m args below meth c H1 locs1 0 0 Q (F0 m (pc + 3) ls (.int (I (if σ 17 sh = 0 then 1 else 0)) :: rest))) : W p l e R s m args below meth c H locs 0 0 Q (F0 m pc ls (.int (I sh) :: .ref (ad 8) :: rest)) := 
  j_callVi J hw (c_X5_isMissing  hD hsh hv) hlk in_X5_isMissing se_X5_isMissing ini_X5 co_X5_isMissing (n := 1) (by decide +kernel) ⟨rfl, rfl, hR.1, hR.2⟩ (j := 8) (ci := 5) rfl rfl rfl rfl hroom hsz ⟨Nat.zero_le _, Nat.zero_le _⟩ rfl hdg (fun r τ H1 locs1 hp hw1 => by obtain ⟨rfl, rfl⟩ := hp; exact kk H1 locs1 hw1)
def rm_X5_read : Room := { frames := 1, cells := 0, slots := 0, locals := 21 }
set_option maxHeartbeats 4000000 in
set_option maxRecDepth 100000 in
theorem c_X5_read {l : Launch} {D : va_G} {cI cZ : ClassId} {ad : Nat → Nat} {σ : St} {sh cl : Int} (hD : ∀ τ, va_D (AD ad 45) (wsX cI ad τ)) (hsh : 0 ≤ sh ∧ sh ≤ 5) (hc : 0 ≤ cl ∧ cl < 120) : JMi l yX5_read cX5_read 3 (some .int) rm_X5_read D [(cI, .int), (cZ, .boolean)] (AD ad 45) (wsX cI ad) [.ref (ad 8), .int (I sh), .int (I cl)] σ (fun r τ => r = (σ 16 (sh * 120 + cl)) ∧ τ = σ) := by
  refine JMi.of RX5 (by decide +kernel) rfl (Nat.le_of_ble_eq_true rfl) hD ?_
  intro p e s m args below meth c Q J fin H ls hw hl
  generalize ([] : List Loc) = locs at hw ⊢
  have hl : lv_has ls 3 [(0, .ref (ad 8)), (1, .int (I sh)), (2, .int (I cl))] := hl
  refine j_aload_n J dX5_read_0 rfl (lv_at hl 0 rfl) ?_
  refine xg_5_0 J hw lk_X5_14 dX5_read_1 ?_
  refine j_iload_n J dX5_read_4 rfl (lv_at hl 1 rfl) ?_
  refine j_bipush J (120) dX5_read_5 (by decide) ?_
  refine j_imul J dX5_read_7 ?_
  refine j_iload_n J dX5_read_8 rfl (lv_at hl 2 rfl) ?_
  refine j_iadd J dX5_read_9 ?_
  refine k_X2_get (k := 16) (i := (sh * 120) + cl) hD (by decide) (show 0 ≤ (sh * 120) + cl ∧ ((sh * 120) + cl) < ((720 : Nat) : Int) from by omega) J hw hl.1 lk_X5_30 ⟨Nat.le_of_ble_eq_true rfl, Nat.le_of_ble_eq_true rfl⟩ (Nat.le_of_ble_eq_true rfl) dX5_read_10 (fun H locs hw => ?_)
  exact fin _ _ _ _ _ _ dX5_read_13 rfl (⟨rfl, rfl⟩) hw
theorem k_X5_read {p : Program} {l : Launch} {e : Env} {R : Room} {s : State} {m : MethodId} {args : Array Value} {below : List Frame} {meth : Method} {c : Code} {H : Heap} {locs : List Loc} {Q : State → Prop} {cc : ByteArray} {pc : Nat} {ls : Array Slot} {rest : List Value} {nL : Nat} {own : String} {D : va_G} {σ : St} {cI cZ : ClassId} {ad : Nat → Nat} {index : Nat} {sh cl : Int} (hD : ∀ τ, va_D (AD ad 45) (wsX cI ad τ)) (hsh : 0 ≤ sh ∧ sh ≤ 5) (hc : 0 ≤ cl ∧ cl < 120) (J : Jx p m c cc nL s args own D [(cI, .int), (cZ, .boolean)] (AD ad 45) (wsX cI ad)) (hw : jW D (AD ad 45) s.heap (wsX cI ad σ) H locs) (hsz : ls.size = nL) (hlk : Cond.methodLink own index yX5_read ∈ TBw) (hR : 2 ≤ R.frames ∧ 43 ≤ R.locals) (hroom : (rest.map fun v => v.category).sum ≤ 8) (hdg : decode cc pc = .ok (.invokevirtual index, 3)) (kk : ∀ (H1 : Heap) (locs1 : List Loc), jW D (AD ad 45) s.heap (wsX cI ad σ) H1 locs1 → W p l e R s m args below meth c H1 locs1 0 0 Q (F0 m (pc + 3) ls (.int (I (σ 16 (sh * 120 + cl))) :: rest))) : W p l e R s m args below meth c H locs 0 0 Q (F0 m pc ls (.int (I cl) :: .int (I sh) :: .ref (ad 8) :: rest)) := 
  j_callVi J hw (c_X5_read  hD hsh hc) hlk in_X5_read se_X5_read ini_X5 co_X5_read (n := 2) (by decide +kernel) ⟨rfl, rfl, hR.1, hR.2⟩ (j := 8) (ci := 5) rfl rfl rfl rfl hroom hsz ⟨Nat.zero_le _, Nat.zero_le _⟩ rfl hdg (fun r τ H1 locs1 hp hw1 => by obtain ⟨rfl, rfl⟩ := hp; exact kk H1 locs1 hw1)
def rm_X5_write : Room := { frames := 1, cells := 0, slots := 0, locals := 23 }
set_option maxHeartbeats 4000000 in
set_option maxRecDepth 100000 in
theorem c_X5_write {l : Launch} {D : va_G} {cI cZ : ClassId} {ad : Nat → Nat} {σ : St} {sh cl v : Int} (hD : ∀ τ, va_D (AD ad 45) (wsX cI ad τ)) (hsh : 0 ≤ sh ∧ sh ≤ 5) (hc : 0 ≤ cl ∧ cl < 120) : JMv l yX5_write cX5_write 4 rm_X5_write D [(cI, .int), (cZ, .boolean)] (AD ad 45) (wsX cI ad) [.ref (ad 8), .int (I sh), .int (I cl), .int (I v)] σ (fun τ => τ = st σ 16 (sh * 120 + cl) v) := by
  refine JMv.of RX5 (by decide +kernel) rfl (Nat.le_of_ble_eq_true rfl) hD ?_
  intro p e s m args below meth c Q J fin H ls hw hl
  generalize ([] : List Loc) = locs at hw ⊢
  have hl : lv_has ls 4 [(0, .ref (ad 8)), (1, .int (I sh)), (2, .int (I cl)), (3, .int (I v))] := hl
  refine j_aload_n J dX5_write_0 rfl (lv_at hl 0 rfl) ?_
  refine xg_5_0 J hw lk_X5_14 dX5_write_1 ?_
  refine j_iload_n J dX5_write_4 rfl (lv_at hl 1 rfl) ?_
  refine j_bipush J (120) dX5_write_5 (by decide) ?_
  refine j_imul J dX5_write_7 ?_
  refine j_iload_n J dX5_write_8 rfl (lv_at hl 2 rfl) ?_
  refine j_iadd J dX5_write_9 ?_
  refine j_iload_n J dX5_write_10 rfl (lv_at hl 3 rfl) ?_
  refine k_X2_put (k := 16) (i := (sh * 120) + cl) (v := v) hD (by decide) (show 0 ≤ (sh * 120) + cl ∧ ((sh * 120) + cl) < ((720 : Nat) : Int) from by omega) J hw hl.1 lk_X5_34 ⟨Nat.le_of_ble_eq_true rfl, Nat.le_of_ble_eq_true rfl⟩ (Nat.le_of_ble_eq_true rfl) dX5_write_11 (fun H locs hw => ?_)
  refine j_pop J dX5_write_14 rfl ?_
  exact fin _ _ _ _ _ dX5_write_15 (rfl) hw
theorem k_X5_write {p : Program} {l : Launch} {e : Env} {R : Room} {s : State} {m : MethodId} {args : Array Value} {below : List Frame} {meth : Method} {c : Code} {H : Heap} {locs : List Loc} {Q : State → Prop} {cc : ByteArray} {pc : Nat} {ls : Array Slot} {rest : List Value} {nL : Nat} {own : String} {D : va_G} {σ : St} {cI cZ : ClassId} {ad : Nat → Nat} {index : Nat} {sh cl v : Int} (hD : ∀ τ, va_D (AD ad 45) (wsX cI ad τ)) (hsh : 0 ≤ sh ∧ sh ≤ 5) (hc : 0 ≤ cl ∧ cl < 120) (J : Jx p m c cc nL s args own D [(cI, .int), (cZ, .boolean)] (AD ad 45) (wsX cI ad)) (hw : jW D (AD ad 45) s.heap (wsX cI ad σ) H locs) (hsz : ls.size = nL) (hlk : Cond.methodLink own index yX5_write ∈ TBw) (hR : 2 ≤ R.frames ∧ 46 ≤ R.locals) (hroom : (rest.map fun v => v.category).sum ≤ 8) (hdg : decode cc pc = .ok (.invokevirtual index, 3)) (kk : ∀ (H1 : Heap) (locs1 : List Loc), jW D (AD ad 45) s.heap (wsX cI ad (st σ 16 (sh * 120 + cl) v)) H1 locs1 → W p l e R s m args below meth c H1 locs1 0 0 Q (F0 m (pc + 3) ls rest)) : W p l e R s m args below meth c H locs 0 0 Q (F0 m pc ls (.int (I v) :: .int (I cl) :: .int (I sh) :: .ref (ad 8) :: rest)) := 
  j_callVv J hw (c_X5_write  hD hsh hc) hlk in_X5_write se_X5_write ini_X5 co_X5_write (n := 3) (by decide +kernel) ⟨rfl, rfl, hR.1, hR.2⟩ (j := 8) (ci := 5) rfl rfl rfl rfl hroom hsz ⟨Nat.zero_le _, Nat.zero_le _⟩ rfl hdg (fun τ H1 locs1 hp hw1 => by subst hp; exact kk H1 locs1 hw1)
def rm_X5_knows : Room := { frames := 2, cells := 0, slots := 0, locals := 43 }
set_option maxHeartbeats 4000000 in
set_option maxRecDepth 100000 in
theorem c_X5_knows {l : Launch} {D : va_G} {cI cZ : ClassId} {ad : Nat → Nat} {σ : St} {sh cl : Int} (hD : ∀ τ, va_D (AD ad 45) (wsX cI ad τ)) (hsh : 0 ≤ sh ∧ sh ≤ 5) (hc : 0 ≤ cl ∧ cl < 120) (hv : -4 ≤ σ 16 (sh * 120 + cl) ∧ σ 16 (sh * 120 + cl) ≤ 400) : JMi l yX5_knows cX5_knows 3 (some .boolean) rm_X5_knows D [(cI, .int), (cZ, .boolean)] (AD ad 45) (wsX cI ad) [.ref (ad 8), .int (I sh), .int (I cl)] σ (fun r τ => r = (if ¬ σ 16 (sh * 120 + cl) = -4 then 1 else 0) ∧ τ = σ) := by
  refine JMi.of RX5 (by decide +kernel) rfl (Nat.le_of_ble_eq_true rfl) hD ?_
  intro p e s m args below meth c Q J fin H ls hw hl
  generalize ([] : List Loc) = locs at hw ⊢
  have hl : lv_has ls 3 [(0, .ref (ad 8)), (1, .int (I sh)), (2, .int (I cl))] := hl
  refine j_aload_n J dX5_knows_0 rfl (lv_at hl 0 rfl) ?_
  refine j_iload_n J dX5_knows_1 rfl (lv_at hl 1 rfl) ?_
  refine j_iload_n J dX5_knows_2 rfl (lv_at hl 2 rfl) ?_
  refine k_X5_read (sh := sh) (cl := cl) hD (by omega) (by omega) J hw hl.1 lk_X5_38 ⟨Nat.le_of_ble_eq_true rfl, Nat.le_of_ble_eq_true rfl⟩ (Nat.le_of_ble_eq_true rfl) dX5_knows_3 (fun H locs hw => ?_)
  refine j_bipush J (-4) dX5_knows_6 (by decide) ?_
  refine j_icmp_eq J 15 (show rg (σ 16 (sh * 120 + cl)) by unfold rg; omega) (by unfold rg; omega) dX5_knows_8 (by decide) (fun (h_1 : (σ 16 (sh * 120 + cl)) = (-4)) => ?_) (fun (h_1 : ¬ (σ 16 (sh * 120 + cl)) = (-4)) => ?_)
  · refine j_iconst J (0) dX5_knows_15 ?_
    exact fin _ _ _ _ _ _ dX5_knows_16 rfl (⟨by first | exact (if_pos (by omega)).symm | exact (if_neg (by omega)).symm, rfl⟩) hw
  · refine j_iconst J (1) dX5_knows_11 ?_
    refine j_goto J 16 dX5_knows_12 (by decide) ?_
    exact fin _ _ _ _ _ _ dX5_knows_16 rfl (⟨by first | exact (if_pos (by omega)).symm | exact (if_neg (by omega)).symm, rfl⟩) hw
theorem k_X5_knows {p : Program} {l : Launch} {e : Env} {R : Room} {s : State} {m : MethodId} {args : Array Value} {below : List Frame} {meth : Method} {c : Code} {H : Heap} {locs : List Loc} {Q : State → Prop} {cc : ByteArray} {pc : Nat} {ls : Array Slot} {rest : List Value} {nL : Nat} {own : String} {D : va_G} {σ : St} {cI cZ : ClassId} {ad : Nat → Nat} {index : Nat} {sh cl : Int} (hD : ∀ τ, va_D (AD ad 45) (wsX cI ad τ)) (hsh : 0 ≤ sh ∧ sh ≤ 5) (hc : 0 ≤ cl ∧ cl < 120) (hv : -4 ≤ σ 16 (sh * 120 + cl) ∧ σ 16 (sh * 120 + cl) ≤ 400) (J : Jx p m c cc nL s args own D [(cI, .int), (cZ, .boolean)] (AD ad 45) (wsX cI ad)) (hw : jW D (AD ad 45) s.heap (wsX cI ad σ) H locs) (hsz : ls.size = nL) (hlk : Cond.methodLink own index yX5_knows ∈ TBw) (hR : 3 ≤ R.frames ∧ 65 ≤ R.locals) (hroom : (rest.map fun v => v.category).sum ≤ 8) (hdg : decode cc pc = .ok (.invokevirtual index, 3)) (kk : ∀ (H1 : Heap) (locs1 : List Loc), jW D (AD ad 45) s.heap (wsX cI ad σ) H1 locs1 → W p l e R s m args below meth c H1 locs1 0 0 Q (F0 m (pc + 3) ls (.int (I (if ¬ σ 16 (sh * 120 + cl) = -4 then 1 else 0)) :: rest))) : W p l e R s m args below meth c H locs 0 0 Q (F0 m pc ls (.int (I cl) :: .int (I sh) :: .ref (ad 8) :: rest)) := 
  j_callVi J hw (c_X5_knows  hD hsh hc hv) hlk in_X5_knows se_X5_knows ini_X5 co_X5_knows (n := 2) (by decide +kernel) ⟨rfl, rfl, hR.1, hR.2⟩ (j := 8) (ci := 5) rfl rfl rfl rfl hroom hsz ⟨Nat.zero_le _, Nat.zero_le _⟩ rfl hdg (fun r τ H1 locs1 hp hw1 => by obtain ⟨rfl, rfl⟩ := hp; exact kk H1 locs1 hw1)
def rm_X5_bothKnow : Room := { frames := 3, cells := 0, slots := 0, locals := 65 }
set_option maxHeartbeats 4000000 in
set_option maxRecDepth 100000 in
theorem c_X5_bothKnow {l : Launch} {D : va_G} {cI cZ : ClassId} {ad : Nat → Nat} {σ : St} {sh tt cl : Int} (hD : ∀ τ, va_D (AD ad 45) (wsX cI ad τ)) (hsh : 0 ≤ sh ∧ sh ≤ 5) (htt : 0 ≤ tt ∧ tt ≤ 5) (hc : 0 ≤ cl ∧ cl < 120) (hv1 : -4 ≤ σ 16 (sh * 120 + cl) ∧ σ 16 (sh * 120 + cl) ≤ 400) (hv2 : -4 ≤ σ 16 (tt * 120 + cl) ∧ σ 16 (tt * 120 + cl) ≤ 400) : JMi l yX5_bothKnow cX5_bothKnow 4 (some .boolean) rm_X5_bothKnow D [(cI, .int), (cZ, .boolean)] (AD ad 45) (wsX cI ad) [.ref (ad 8), .int (I sh), .int (I tt), .int (I cl)] σ (fun r τ => r = (if ¬ σ 16 (sh * 120 + cl) = -4 ∧ ¬ σ 16 (tt * 120 + cl) = -4 then 1 else 0) ∧ τ = σ) := by
  refine JMi.of RX5 (by decide +kernel) rfl (Nat.le_of_ble_eq_true rfl) hD ?_
  intro p e s m args below meth c Q J fin H ls hw hl
  generalize ([] : List Loc) = locs at hw ⊢
  have hl : lv_has ls 4 [(0, .ref (ad 8)), (1, .int (I sh)), (2, .int (I tt)), (3, .int (I cl))] := hl
  refine j_aload_n J dX5_bothKnow_0 rfl (lv_at hl 0 rfl) ?_
  refine j_iload_n J dX5_bothKnow_1 rfl (lv_at hl 1 rfl) ?_
  refine j_iload_n J dX5_bothKnow_2 rfl (lv_at hl 3 rfl) ?_
  refine k_X5_knows (sh := sh) (cl := cl) hD (by omega) (by omega) (hv1) J hw hl.1 lk_X5_41 ⟨Nat.le_of_ble_eq_true rfl, Nat.le_of_ble_eq_true rfl⟩ (Nat.le_of_ble_eq_true rfl) dX5_bothKnow_3 (fun H locs hw => ?_)
  refine j_ifeqB J 22 dX5_bothKnow_6 (by decide) (fun (h_1 : ¬ (¬ σ 16 (sh * 120 + cl) = -4)) => ?_) (fun (h_1 : ¬ σ 16 (sh * 120 + cl) = -4) => ?_)
  · refine j_iconst J (0) dX5_bothKnow_22 ?_
    exact fin _ _ _ _ _ _ dX5_bothKnow_23 rfl (⟨by first | exact (if_pos ⟨by assumption, by assumption⟩).symm | exact (if_neg (by omega)).symm, rfl⟩) hw
  · refine j_aload_n J dX5_bothKnow_9 rfl (lv_at hl 0 rfl) ?_
    refine j_iload_n J dX5_bothKnow_10 rfl (lv_at hl 2 rfl) ?_
    refine j_iload_n J dX5_bothKnow_11 rfl (lv_at hl 3 rfl) ?_
    refine k_X5_knows (sh := tt) (cl := cl) hD (by omega) (by omega) (hv2) J hw hl.1 lk_X5_41 ⟨Nat.le_of_ble_eq_true rfl, Nat.le_of_ble_eq_true rfl⟩ (Nat.le_of_ble_eq_true rfl) dX5_bothKnow_12 (fun H locs hw => ?_)
    refine j_ifeqB J 22 dX5_bothKnow_15 (by decide) (fun (h_2 : ¬ (¬ σ 16 (tt * 120 + cl) = -4)) => ?_) (fun (h_2 : ¬ σ 16 (tt * 120 + cl) = -4) => ?_)
    · refine j_iconst J (0) dX5_bothKnow_22 ?_
      exact fin _ _ _ _ _ _ dX5_bothKnow_23 rfl (⟨by first | exact (if_pos ⟨by assumption, by assumption⟩).symm | exact (if_neg (by omega)).symm, rfl⟩) hw
    · refine j_iconst J (1) dX5_bothKnow_18 ?_
      refine j_goto J 23 dX5_bothKnow_19 (by decide) ?_
      exact fin _ _ _ _ _ _ dX5_bothKnow_23 rfl (⟨by first | exact (if_pos ⟨by assumption, by assumption⟩).symm | exact (if_neg (by omega)).symm, rfl⟩) hw
theorem k_X5_bothKnow {p : Program} {l : Launch} {e : Env} {R : Room} {s : State} {m : MethodId} {args : Array Value} {below : List Frame} {meth : Method} {c : Code} {H : Heap} {locs : List Loc} {Q : State → Prop} {cc : ByteArray} {pc : Nat} {ls : Array Slot} {rest : List Value} {nL : Nat} {own : String} {D : va_G} {σ : St} {cI cZ : ClassId} {ad : Nat → Nat} {index : Nat} {sh tt cl : Int} (hD : ∀ τ, va_D (AD ad 45) (wsX cI ad τ)) (hsh : 0 ≤ sh ∧ sh ≤ 5) (htt : 0 ≤ tt ∧ tt ≤ 5) (hc : 0 ≤ cl ∧ cl < 120) (hv1 : -4 ≤ σ 16 (sh * 120 + cl) ∧ σ 16 (sh * 120 + cl) ≤ 400) (hv2 : -4 ≤ σ 16 (tt * 120 + cl) ∧ σ 16 (tt * 120 + cl) ≤ 400) (J : Jx p m c cc nL s args own D [(cI, .int), (cZ, .boolean)] (AD ad 45) (wsX cI ad)) (hw : jW D (AD ad 45) s.heap (wsX cI ad σ) H locs) (hsz : ls.size = nL) (hlk : Cond.methodLink own index yX5_bothKnow ∈ TBw) (hR : 4 ≤ R.frames ∧ 88 ≤ R.locals) (hroom : (rest.map fun v => v.category).sum ≤ 8) (hdg : decode cc pc = .ok (.invokevirtual index, 3)) (kk : ∀ (H1 : Heap) (locs1 : List Loc), jW D (AD ad 45) s.heap (wsX cI ad σ) H1 locs1 → W p l e R s m args below meth c H1 locs1 0 0 Q (F0 m (pc + 3) ls (.int (I (if ¬ σ 16 (sh * 120 + cl) = -4 ∧ ¬ σ 16 (tt * 120 + cl) = -4 then 1 else 0)) :: rest))) : W p l e R s m args below meth c H locs 0 0 Q (F0 m pc ls (.int (I cl) :: .int (I tt) :: .int (I sh) :: .ref (ad 8) :: rest)) := 
  j_callVi J hw (c_X5_bothKnow  hD hsh htt hc hv1 hv2) hlk in_X5_bothKnow se_X5_bothKnow ini_X5 co_X5_bothKnow (n := 3) (by decide +kernel) ⟨rfl, rfl, hR.1, hR.2⟩ (j := 8) (ci := 5) rfl rfl rfl rfl hroom hsz ⟨Nat.zero_le _, Nat.zero_le _⟩ rfl hdg (fun r τ H1 locs1 hp hw1 => by obtain ⟨rfl, rfl⟩ := hp; exact kk H1 locs1 hw1)
def rm_X5_take : Room := { frames := 2, cells := 0, slots := 0, locals := 46 }
set_option maxHeartbeats 4000000 in
set_option maxRecDepth 100000 in
theorem c_X5_take {l : Launch} {D : va_G} {cI cZ : ClassId} {ad : Nat → Nat} {σ : St} {sh : Int} (hD : ∀ τ, va_D (AD ad 45) (wsX cI ad τ)) (hB : Bd σ) (hsh : 0 ≤ sh ∧ sh ≤ 5) : JMv l yX5_take cX5_take 4 rm_X5_take D [(cI, .int), (cZ, .boolean)] (AD ad 45) (wsX cI ad) [.ref (ad 8), .int (I sh), .ref (ad 1)] σ (fun τ => τ = tkS σ sh (σ 18 0 * σ 18 1)) := by
  refine JMv.of RX5 (by decide +kernel) rfl (Nat.le_of_ble_eq_true rfl) hD ?_
  intro p e s m args below meth c Q J fin H ls hw hl
  generalize ([] : List Loc) = locs at hw ⊢
  have hl : lv_has ls 4 [(0, .ref (ad 8)), (1, .int (I sh)), (2, .ref (ad 1))] := hl
  have hd : Dim _ := hB.dim
  have hd1 := hd.1; have hd2 := hd.2.1; have hd3 := hd.2.2.1; have hd4 := hd.2.2.2; have hm := hd.mul
  refine j_aload_n J dX5_take_0 rfl (lv_at hl 0 rfl) ?_
  refine xg_5_1 J hw lk_X5_20 dX5_take_1 ?_
  refine j_iload_n J dX5_take_4 rfl (lv_at hl 1 rfl) ?_
  refine j_iconst J (1) dX5_take_5 ?_
  refine k_X2_put (k := 17) (i := sh) (v := 1) hD (by decide) (show 0 ≤ sh ∧ sh < ((6 : Nat) : Int) from by omega) J hw hl.1 lk_X5_34 ⟨Nat.le_of_ble_eq_true rfl, Nat.le_of_ble_eq_true rfl⟩ (Nat.le_of_ble_eq_true rfl) dX5_take_6 (fun H locs hw => ?_)
  refine j_pop J dX5_take_9 rfl ?_
  refine j_iconst J (0) dX5_take_10 ?_
  refine j_istore_n J (lv' := [(3, .int (I 0)), (0, .ref (ad 8)), (1, .int (I sh)), (2, .ref (ad 1))]) hl dX5_take_11 rfl (by decide) rfl (fun ls hl => ?_)
  have L12 : ∀ n : Nat, ∀ (i : Int), (0 ≤ i ∧ i ≤ σ 18 0 * σ 18 1) → ((σ 18 0 * σ 18 1 - i).toNat) < n → ∀ (H : Heap) (locs : List Loc) (ls : Array Slot), jW D (AD ad 45) s.heap (wsX cI ad (tkS σ sh i)) H locs → lv_has ls 4 [(3, .int (I i)), (0, .ref (ad 8)), (1, .int (I sh)), (2, .ref (ad 1))] → W p l e rm_X5_take s m args below meth c H locs 0 0 Q (F0 m 12 ls []) := by
    intro n
    induction n with
    | zero =>
      intro i hi0 hm H locs ls hw hl
      exact absurd hm (Nat.not_lt_zero _)
    | succ n ih =>
      intro i hi0 hm H locs ls hw hl
      have ih12 := ih
      refine j_iload_n J dX5_take_12 rfl (lv_at hl 0 rfl) ?_
      refine j_aload_n J dX5_take_13 rfl (lv_at hl 3 rfl) ?_
      refine k_X1_size  hD  J hw hl.1 lk_X5_45 ⟨Nat.le_of_ble_eq_true rfl, Nat.le_of_ble_eq_true rfl⟩ (Nat.le_of_ble_eq_true rfl) dX5_take_14 (fun H locs hw => ?_)
      refine j_icmp_ge J 40 (show rg i by unfold rg; omega) (show rg (σ 18 0 * σ 18 1) by unfold rg; omega) dX5_take_17 (by decide) (fun (h_1 : (σ 18 0 * σ 18 1) ≤ i) => ?_) (fun (h_1 : i < (σ 18 0 * σ 18 1)) => ?_)
      · exact fin _ _ _ _ _ dX5_take_40 (by rw [show i = σ 18 0 * σ 18 1 by omega]) hw
      · refine j_aload_n J dX5_take_20 rfl (lv_at hl 1 rfl) ?_
        refine j_iload_n J dX5_take_21 rfl (lv_at hl 2 rfl) ?_
        refine j_iload_n J dX5_take_22 rfl (lv_at hl 0 rfl) ?_
        refine j_aload_n J dX5_take_23 rfl (lv_at hl 3 rfl) ?_
        refine xg_1_0 J hw lk_X5_51 dX5_take_24 ?_
        refine j_iload_n J dX5_take_27 rfl (lv_at hl 0 rfl) ?_
        refine k_X2_get (k := 1) (i := i) hD (by decide) (show 0 ≤ i ∧ i < ((120 : Nat) : Int) from by omega) J hw hl.1 lk_X5_30 ⟨Nat.le_of_ble_eq_true rfl, Nat.le_of_ble_eq_true rfl⟩ (Nat.le_of_ble_eq_true rfl) dX5_take_28 (fun H locs hw => ?_)
        refine k_X5_write (sh := sh) (cl := i) (v := σ 1 i) hD (by omega) (by omega) J hw hl.1 lk_X5_54 ⟨Nat.le_of_ble_eq_true rfl, Nat.le_of_ble_eq_true rfl⟩ (Nat.le_of_ble_eq_true rfl) dX5_take_31 (fun H locs hw => ?_)
        refine j_iinc J (lv' := [(3, .int (I (i + 1))), (0, .ref (ad 8)), (1, .int (I sh)), (2, .ref (ad 1))]) (k := 0) hl dX5_take_34 rfl (by decide) rfl (fun ls hl => ?_)
        refine j_goto J 12 dX5_take_37 (by decide) ?_
        exact ih12 (i + 1) (by omega) (by omega) _ _ _ (by rw [← tkS_step hi0.1]; exact hw) (lv_sub hl [0, 1, 2, 3] rfl)
  exact L12 _ 0 (by omega) (Nat.lt_succ_self _) _ _ _ (by rw [tkS_0]; exact hw) (lv_sub hl [0, 1, 2, 3] rfl)
theorem k_X5_take {p : Program} {l : Launch} {e : Env} {R : Room} {s : State} {m : MethodId} {args : Array Value} {below : List Frame} {meth : Method} {c : Code} {H : Heap} {locs : List Loc} {Q : State → Prop} {cc : ByteArray} {pc : Nat} {ls : Array Slot} {rest : List Value} {nL : Nat} {own : String} {D : va_G} {σ : St} {cI cZ : ClassId} {ad : Nat → Nat} {index : Nat} {sh : Int} (hD : ∀ τ, va_D (AD ad 45) (wsX cI ad τ)) (hB : Bd σ) (hsh : 0 ≤ sh ∧ sh ≤ 5) (J : Jx p m c cc nL s args own D [(cI, .int), (cZ, .boolean)] (AD ad 45) (wsX cI ad)) (hw : jW D (AD ad 45) s.heap (wsX cI ad σ) H locs) (hsz : ls.size = nL) (hlk : Cond.methodLink own index yX5_take ∈ TBw) (hR : 3 ≤ R.frames ∧ 69 ≤ R.locals) (hroom : (rest.map fun v => v.category).sum ≤ 8) (hdg : decode cc pc = .ok (.invokevirtual index, 3)) (kk : ∀ (H1 : Heap) (locs1 : List Loc), jW D (AD ad 45) s.heap (wsX cI ad (tkS σ sh (σ 18 0 * σ 18 1))) H1 locs1 → W p l e R s m args below meth c H1 locs1 0 0 Q (F0 m (pc + 3) ls rest)) : W p l e R s m args below meth c H locs 0 0 Q (F0 m pc ls (.ref (ad 1) :: .int (I sh) :: .ref (ad 8) :: rest)) := 
  j_callVv J hw (c_X5_take  hD hB hsh) hlk in_X5_take se_X5_take ini_X5 co_X5_take (n := 2) (by decide +kernel) ⟨rfl, rfl, hR.1, hR.2⟩ (j := 8) (ci := 5) rfl rfl rfl rfl hroom hsz ⟨Nat.zero_le _, Nat.zero_le _⟩ rfl hdg (fun τ H1 locs1 hp hw1 => by subst hp; exact kk H1 locs1 hw1)
def rm_X5_makeGap : Room := { frames := 3, cells := 0, slots := 0, locals := 65 }
set_option maxHeartbeats 4000000 in
set_option maxRecDepth 100000 in
theorem c_X5_makeGap {l : Launch} {D : va_G} {cI cZ : ClassId} {ad : Nat → Nat} {σ : St} {sh cl : Int} (hD : ∀ τ, va_D (AD ad 45) (wsX cI ad τ)) (hsh : 0 ≤ sh ∧ sh ≤ 5) (hc : 0 ≤ cl ∧ cl < 120) (hv : -4 ≤ σ 16 (sh * 120 + cl) ∧ σ 16 (sh * 120 + cl) ≤ 400) : JMi l yX5_makeGap cX5_makeGap 4 (some .boolean) rm_X5_makeGap D [(cI, .int), (cZ, .boolean)] (AD ad 45) (wsX cI ad) [.ref (ad 8), .int (I sh), .int (I cl)] σ (fun r τ => r = (if ¬ σ 16 (sh * 120 + cl) = -4 then 1 else 0) ∧ τ = st σ 16 (sh * 120 + cl) (-4)) := by
  refine JMi.of RX5 (by decide +kernel) rfl (Nat.le_of_ble_eq_true rfl) hD ?_
  intro p e s m args below meth c Q J fin H ls hw hl
  generalize ([] : List Loc) = locs at hw ⊢
  have hl : lv_has ls 4 [(0, .ref (ad 8)), (1, .int (I sh)), (2, .int (I cl))] := hl
  refine j_aload_n J dX5_makeGap_0 rfl (lv_at hl 0 rfl) ?_
  refine j_iload_n J dX5_makeGap_1 rfl (lv_at hl 1 rfl) ?_
  refine j_iload_n J dX5_makeGap_2 rfl (lv_at hl 2 rfl) ?_
  refine k_X5_knows (sh := sh) (cl := cl) hD (by omega) (by omega) (hv) J hw hl.1 lk_X5_41 ⟨Nat.le_of_ble_eq_true rfl, Nat.le_of_ble_eq_true rfl⟩ (Nat.le_of_ble_eq_true rfl) dX5_makeGap_3 (fun H locs hw => ?_)
  refine j_istore_n J (lv' := [(3, .int (I (if ¬ σ 16 (sh * 120 + cl) = -4 then 1 else 0))), (0, .ref (ad 8)), (1, .int (I sh)), (2, .int (I cl))]) hl dX5_makeGap_6 rfl (by decide) rfl (fun ls hl => ?_)
  refine j_aload_n J dX5_makeGap_7 rfl (lv_at hl 1 rfl) ?_
  refine j_iload_n J dX5_makeGap_8 rfl (lv_at hl 2 rfl) ?_
  refine j_iload_n J dX5_makeGap_9 rfl (lv_at hl 3 rfl) ?_
  refine j_bipush J (-4) dX5_makeGap_10 (by decide) ?_
  refine k_X5_write (sh := sh) (cl := cl) (v := -4) hD (by omega) (by omega) J hw hl.1 lk_X5_54 ⟨Nat.le_of_ble_eq_true rfl, Nat.le_of_ble_eq_true rfl⟩ (Nat.le_of_ble_eq_true rfl) dX5_makeGap_12 (fun H locs hw => ?_)
  refine j_iload_n J dX5_makeGap_15 rfl (lv_at hl 0 rfl) ?_
  exact fin _ _ _ _ _ _ dX5_makeGap_16 (by split <;> rfl) (⟨rfl, rfl⟩) hw
theorem k_X5_makeGap {p : Program} {l : Launch} {e : Env} {R : Room} {s : State} {m : MethodId} {args : Array Value} {below : List Frame} {meth : Method} {c : Code} {H : Heap} {locs : List Loc} {Q : State → Prop} {cc : ByteArray} {pc : Nat} {ls : Array Slot} {rest : List Value} {nL : Nat} {own : String} {D : va_G} {σ : St} {cI cZ : ClassId} {ad : Nat → Nat} {index : Nat} {sh cl : Int} (hD : ∀ τ, va_D (AD ad 45) (wsX cI ad τ)) (hsh : 0 ≤ sh ∧ sh ≤ 5) (hc : 0 ≤ cl ∧ cl < 120) (hv : -4 ≤ σ 16 (sh * 120 + cl) ∧ σ 16 (sh * 120 + cl) ≤ 400) (J : Jx p m c cc nL s args own D [(cI, .int), (cZ, .boolean)] (AD ad 45) (wsX cI ad)) (hw : jW D (AD ad 45) s.heap (wsX cI ad σ) H locs) (hsz : ls.size = nL) (hlk : Cond.methodLink own index yX5_makeGap ∈ TBw) (hR : 4 ≤ R.frames ∧ 88 ≤ R.locals) (hroom : (rest.map fun v => v.category).sum ≤ 8) (hdg : decode cc pc = .ok (.invokevirtual index, 3)) (kk : ∀ (H1 : Heap) (locs1 : List Loc), jW D (AD ad 45) s.heap (wsX cI ad (st σ 16 (sh * 120 + cl) (-4))) H1 locs1 → W p l e R s m args below meth c H1 locs1 0 0 Q (F0 m (pc + 3) ls (.int (I (if ¬ σ 16 (sh * 120 + cl) = -4 then 1 else 0)) :: rest))) : W p l e R s m args below meth c H locs 0 0 Q (F0 m pc ls (.int (I cl) :: .int (I sh) :: .ref (ad 8) :: rest)) := 
  j_callVi J hw (c_X5_makeGap  hD hsh hc hv) hlk in_X5_makeGap se_X5_makeGap ini_X5 co_X5_makeGap (n := 2) (by decide +kernel) ⟨rfl, rfl, hR.1, hR.2⟩ (j := 8) (ci := 5) rfl rfl rfl rfl hroom hsz ⟨Nat.zero_le _, Nat.zero_le _⟩ rfl hdg (fun r τ H1 locs1 hp hw1 => by obtain ⟨rfl, rfl⟩ := hp; exact kk H1 locs1 hw1)
def rm_X5_fillGaps : Room := { frames := 3, cells := 0, slots := 0, locals := 65 }
set_option maxHeartbeats 4000000 in
set_option maxRecDepth 100000 in
theorem c_X5_fillGaps {l : Launch} {D : va_G} {cI cZ : ClassId} {ad : Nat → Nat} {σ : St} {sh tt cn : Int} (hD : ∀ τ, va_D (AD ad 45) (wsX cI ad τ)) (hB : Bd σ) (hsh : 0 ≤ sh ∧ sh ≤ 5) (htt : 0 ≤ tt ∧ tt ≤ 5) (hn : 0 ≤ cn ∧ cn ≤ 120) : JMi l yX5_fillGaps cX5_fillGaps 6 (some .int) rm_X5_fillGaps D [(cI, .int), (cZ, .boolean)] (AD ad 45) (wsX cI ad) [.ref (ad 8), .int (I sh), .int (I tt), .int (I cn)] σ (fun r τ => r = (sumI (fun c => if σ 16 (sh * 120 + c) = -4 ∧ ¬ σ 16 (tt * 120 + c) = -4 then 1 else 0) cn) ∧ τ = jnS σ sh tt cn) := by
  refine JMi.of RX5 (by decide +kernel) rfl (Nat.le_of_ble_eq_true rfl) hD ?_
  intro p e s m args below meth c Q J fin H ls hw hl
  generalize ([] : List Loc) = locs at hw ⊢
  have hl : lv_has ls 6 [(0, .ref (ad 8)), (1, .int (I sh)), (2, .int (I tt)), (3, .int (I cn))] := hl
  refine j_iconst J (0) dX5_fillGaps_0 ?_
  refine j_istore J (lv' := [(4, .int (I 0)), (0, .ref (ad 8)), (1, .int (I sh)), (2, .int (I tt)), (3, .int (I cn))]) hl dX5_fillGaps_1 (by decide) rfl (fun ls hl => ?_)
  refine j_iconst J (0) dX5_fillGaps_3 ?_
  refine j_istore J (lv' := [(5, .int (I 0)), (4, .int (I 0)), (0, .ref (ad 8)), (1, .int (I sh)), (2, .int (I tt)), (3, .int (I cn))]) hl dX5_fillGaps_4 (by decide) rfl (fun ls hl => ?_)
  have L6 : ∀ n : Nat, ∀ (τ : St) (g : Int) (i : Int), (0 ≤ i ∧ i ≤ cn) → (τ = jnS σ sh tt i) → (g = sumI (fun c => if σ 16 (sh * 120 + c) = -4 ∧ ¬ σ 16 (tt * 120 + c) = -4 then 1 else 0) i) → ((cn - i).toNat) < n → ∀ (H : Heap) (locs : List Loc) (ls : Array Slot), jW D (AD ad 45) s.heap (wsX cI ad τ) H locs → lv_has ls 6 [(5, .int (I i)), (0, .ref (ad 8)), (1, .int (I sh)), (2, .int (I tt)), (3, .int (I cn)), (4, .int (I g))] → W p l e rm_X5_fillGaps s m args below meth c H locs 0 0 Q (F0 m 6 ls []) := by
    intro n
    induction n with
    | zero =>
      intro τ g i hi0 hτ hs hm H locs ls hw hl
      exact absurd hm (Nat.not_lt_zero _)
    | succ n ih =>
      intro τ g i hi0 hτ hs hm H locs ls hw hl
      have ih6 := ih
      refine j_iload J dX5_fillGaps_6 (lv_at hl 0 rfl) ?_
      refine j_iload_n J dX5_fillGaps_8 rfl (lv_at hl 4 rfl) ?_
      refine j_icmp_ge J 55 (show rg i by unfold rg; omega) (show rg cn by unfold rg; omega) dX5_fillGaps_9 (by decide) (fun (h_1 : cn ≤ i) => ?_) (fun (h_1 : i < cn) => ?_)
      · refine j_iload J dX5_fillGaps_55 (lv_at hl 5 rfl) ?_
        exact fin _ _ _ _ _ _ dX5_fillGaps_57 rfl (⟨by rw [hs, show i = cn by omega], by rw [hτ, show i = cn by omega]⟩) hw
      · have e1 : τ 16 (sh * 120 + i) = σ 16 (sh * 120 + i) := by rw [hτ]; exact jn_at1
        have e2 : τ 16 (tt * 120 + i) = σ 16 (tt * 120 + i) := by rw [hτ]; exact jn_at2 (by omega)
        have b1 := hB.sheet (sh * 120 + i); have b2 := hB.sheet (tt * 120 + i)
        refine j_aload_n J dX5_fillGaps_12 rfl (lv_at hl 1 rfl) ?_
        refine j_iload_n J dX5_fillGaps_13 rfl (lv_at hl 2 rfl) ?_
        refine j_iload J dX5_fillGaps_14 (lv_at hl 0 rfl) ?_
        refine k_X5_knows (sh := sh) (cl := i) hD (by omega) (by omega) (by omega) J hw hl.1 lk_X5_41 ⟨Nat.le_of_ble_eq_true rfl, Nat.le_of_ble_eq_true rfl⟩ (Nat.le_of_ble_eq_true rfl) dX5_fillGaps_16 (fun H locs hw => ?_)
        refine j_ifneB J 49 dX5_fillGaps_19 (by decide) (fun (h_2 : ¬ τ 16 (sh * 120 + i) = -4) => ?_) (fun (h_2 : ¬ (¬ τ 16 (sh * 120 + i) = -4)) => ?_)
        · refine j_iinc J (lv' := [(5, .int (I (i + 1))), (0, .ref (ad 8)), (1, .int (I sh)), (2, .int (I tt)), (3, .int (I cn)), (4, .int (I g))]) (k := 0) hl dX5_fillGaps_49 rfl (by decide) rfl (fun ls hl => ?_)
          refine j_goto J 6 dX5_fillGaps_52 (by decide) ?_
          exact ih6 τ g (i + 1) (by omega) (by first | exact jn_yes hi0.1 hτ (by omega) (by omega) e2 | exact jn_no hi0.1 hτ (by omega)) (by have hs9 := sumI_step (f := (fun c => if σ 16 (sh * 120 + c) = -4 ∧ ¬ σ 16 (tt * 120 + c) = -4 then 1 else 0)) hi0.1; (try dsimp only at hs9); (try split at hs9) <;> omega) (by omega) _ _ _ hw (lv_sub hl [0, 1, 2, 3, 4, 5] rfl)
        · refine j_aload_n J dX5_fillGaps_22 rfl (lv_at hl 1 rfl) ?_
          refine j_iload_n J dX5_fillGaps_23 rfl (lv_at hl 3 rfl) ?_
          refine j_iload J dX5_fillGaps_24 (lv_at hl 0 rfl) ?_
          refine k_X5_knows (sh := tt) (cl := i) hD (by omega) (by omega) (by omega) J hw hl.1 lk_X5_41 ⟨Nat.le_of_ble_eq_true rfl, Nat.le_of_ble_eq_true rfl⟩ (Nat.le_of_ble_eq_true rfl) dX5_fillGaps_26 (fun H locs hw => ?_)
          refine j_ifeqB J 49 dX5_fillGaps_29 (by decide) (fun (h_3 : ¬ (¬ τ 16 (tt * 120 + i) = -4)) => ?_) (fun (h_3 : ¬ τ 16 (tt * 120 + i) = -4) => ?_)
          · refine j_iinc J (lv' := [(5, .int (I (i + 1))), (0, .ref (ad 8)), (1, .int (I sh)), (2, .int (I tt)), (3, .int (I cn)), (4, .int (I g))]) (k := 0) hl dX5_fillGaps_49 rfl (by decide) rfl (fun ls hl => ?_)
            refine j_goto J 6 dX5_fillGaps_52 (by decide) ?_
            exact ih6 τ g (i + 1) (by omega) (by first | exact jn_yes hi0.1 hτ (by omega) (by omega) e2 | exact jn_no hi0.1 hτ (by omega)) (by have hs9 := sumI_step (f := (fun c => if σ 16 (sh * 120 + c) = -4 ∧ ¬ σ 16 (tt * 120 + c) = -4 then 1 else 0)) hi0.1; (try dsimp only at hs9); (try split at hs9) <;> omega) (by omega) _ _ _ hw (lv_sub hl [0, 1, 2, 3, 4, 5] rfl)
          · refine j_aload_n J dX5_fillGaps_32 rfl (lv_at hl 1 rfl) ?_
            refine j_iload_n J dX5_fillGaps_33 rfl (lv_at hl 2 rfl) ?_
            refine j_iload J dX5_fillGaps_34 (lv_at hl 0 rfl) ?_
            refine j_aload_n J dX5_fillGaps_36 rfl (lv_at hl 1 rfl) ?_
            refine j_iload_n J dX5_fillGaps_37 rfl (lv_at hl 3 rfl) ?_
            refine j_iload J dX5_fillGaps_38 (lv_at hl 0 rfl) ?_
            refine k_X5_read (sh := tt) (cl := i) hD (by omega) (by omega) J hw hl.1 lk_X5_38 ⟨Nat.le_of_ble_eq_true rfl, Nat.le_of_ble_eq_true rfl⟩ (Nat.le_of_ble_eq_true rfl) dX5_fillGaps_40 (fun H locs hw => ?_)
            refine k_X5_write (sh := sh) (cl := i) (v := τ 16 (tt * 120 + i)) hD (by omega) (by omega) J hw hl.1 lk_X5_54 ⟨Nat.le_of_ble_eq_true rfl, Nat.le_of_ble_eq_true rfl⟩ (Nat.le_of_ble_eq_true rfl) dX5_fillGaps_43 (fun H locs hw => ?_)
            refine j_iinc J (lv' := [(4, .int (I (g + 1))), (5, .int (I i)), (0, .ref (ad 8)), (1, .int (I sh)), (2, .int (I tt)), (3, .int (I cn))]) (k := 5) hl dX5_fillGaps_46 rfl (by decide) rfl (fun ls hl => ?_)
            refine j_iinc J (lv' := [(5, .int (I (i + 1))), (4, .int (I (g + 1))), (0, .ref (ad 8)), (1, .int (I sh)), (2, .int (I tt)), (3, .int (I cn))]) (k := 1) hl dX5_fillGaps_49 rfl (by decide) rfl (fun ls hl => ?_)
            refine j_goto J 6 dX5_fillGaps_52 (by decide) ?_
            exact ih6 (st τ 16 (sh * 120 + i) (τ 16 (tt * 120 + i))) (g + 1) (i + 1) (by omega) (by first | exact jn_yes hi0.1 hτ (by omega) (by omega) e2 | exact jn_no hi0.1 hτ (by omega)) (by have hs9 := sumI_step (f := (fun c => if σ 16 (sh * 120 + c) = -4 ∧ ¬ σ 16 (tt * 120 + c) = -4 then 1 else 0)) hi0.1; (try dsimp only at hs9); (try split at hs9) <;> omega) (by omega) _ _ _ hw (lv_sub hl [0, 2, 3, 4, 5, 1] rfl)
  exact L6 _ σ 0 0 (by omega) (jnS_0.symm) (sumI_0.symm) (Nat.lt_succ_self _) _ _ _ hw (lv_sub hl [0, 2, 3, 4, 5, 1] rfl)
theorem k_X5_fillGaps {p : Program} {l : Launch} {e : Env} {R : Room} {s : State} {m : MethodId} {args : Array Value} {below : List Frame} {meth : Method} {c : Code} {H : Heap} {locs : List Loc} {Q : State → Prop} {cc : ByteArray} {pc : Nat} {ls : Array Slot} {rest : List Value} {nL : Nat} {own : String} {D : va_G} {σ : St} {cI cZ : ClassId} {ad : Nat → Nat} {index : Nat} {sh tt cn : Int} (hD : ∀ τ, va_D (AD ad 45) (wsX cI ad τ)) (hB : Bd σ) (hsh : 0 ≤ sh ∧ sh ≤ 5) (htt : 0 ≤ tt ∧ tt ≤ 5) (hn : 0 ≤ cn ∧ cn ≤ 120) (J : Jx p m c cc nL s args own D [(cI, .int), (cZ, .boolean)] (AD ad 45) (wsX cI ad)) (hw : jW D (AD ad 45) s.heap (wsX cI ad σ) H locs) (hsz : ls.size = nL) (hlk : Cond.methodLink own index yX5_fillGaps ∈ TBw) (hR : 4 ≤ R.frames ∧ 90 ≤ R.locals) (hroom : (rest.map fun v => v.category).sum ≤ 8) (hdg : decode cc pc = .ok (.invokevirtual index, 3)) (kk : ∀ (H1 : Heap) (locs1 : List Loc), jW D (AD ad 45) s.heap (wsX cI ad (jnS σ sh tt cn)) H1 locs1 → W p l e R s m args below meth c H1 locs1 0 0 Q (F0 m (pc + 3) ls (.int (I (sumI (fun c => if σ 16 (sh * 120 + c) = -4 ∧ ¬ σ 16 (tt * 120 + c) = -4 then 1 else 0) cn)) :: rest))) : W p l e R s m args below meth c H locs 0 0 Q (F0 m pc ls (.int (I cn) :: .int (I tt) :: .int (I sh) :: .ref (ad 8) :: rest)) := 
  j_callVi J hw (c_X5_fillGaps  hD hB hsh htt hn) hlk in_X5_fillGaps se_X5_fillGaps ini_X5 co_X5_fillGaps (n := 3) (by decide +kernel) ⟨rfl, rfl, hR.1, hR.2⟩ (j := 8) (ci := 5) rfl rfl rfl rfl hroom hsz ⟨Nat.zero_le _, Nat.zero_le _⟩ rfl hdg (fun r τ H1 locs1 hp hw1 => by obtain ⟨rfl, rfl⟩ := hp; exact kk H1 locs1 hw1)
def rm_X5_volume : Room := { frames := 4, cells := 0, slots := 0, locals := 88 }
set_option maxHeartbeats 4000000 in
set_option maxRecDepth 100000 in
theorem c_X5_volume {l : Launch} {D : va_G} {cI cZ : ClassId} {ad : Nat → Nat} {σ : St} {sh tt cn : Int} (hD : ∀ τ, va_D (AD ad 45) (wsX cI ad τ)) (hB : Bd σ) (hsh : 0 ≤ sh ∧ sh ≤ 5) (htt : 0 ≤ tt ∧ tt ≤ 5) (hn : 0 ≤ cn ∧ cn ≤ 120) : JMi l yX5_volume cX5_volume 6 (some .int) rm_X5_volume D [(cI, .int), (cZ, .boolean)] (AD ad 45) (wsX cI ad) [.ref (ad 8), .int (I sh), .int (I tt), .int (I cn)] σ (fun r τ => r = (sumI (fun c => if (¬ σ 16 (sh * 120 + c) = -4 ∧ ¬ σ 16 (tt * 120 + c) = -4) then σ 16 (tt * 120 + c) - σ 16 (sh * 120 + c) else 0) cn) ∧ τ = σ) := by
  refine JMi.of RX5 (by decide +kernel) rfl (Nat.le_of_ble_eq_true rfl) hD ?_
  intro p e s m args below meth c Q J fin H ls hw hl
  generalize ([] : List Loc) = locs at hw ⊢
  have hl : lv_has ls 6 [(0, .ref (ad 8)), (1, .int (I sh)), (2, .int (I tt)), (3, .int (I cn))] := hl
  refine j_iconst J (0) dX5_volume_0 ?_
  refine j_istore J (lv' := [(4, .int (I 0)), (0, .ref (ad 8)), (1, .int (I sh)), (2, .int (I tt)), (3, .int (I cn))]) hl dX5_volume_1 (by decide) rfl (fun ls hl => ?_)
  refine j_iconst J (0) dX5_volume_3 ?_
  refine j_istore J (lv' := [(5, .int (I 0)), (4, .int (I 0)), (0, .ref (ad 8)), (1, .int (I sh)), (2, .int (I tt)), (3, .int (I cn))]) hl dX5_volume_4 (by decide) rfl (fun ls hl => ?_)
  have L6 : ∀ n : Nat, ∀ (g : Int) (i : Int), (0 ≤ i ∧ i ≤ cn) → (g = sumI (fun c => if (¬ σ 16 (sh * 120 + c) = -4 ∧ ¬ σ 16 (tt * 120 + c) = -4) then σ 16 (tt * 120 + c) - σ 16 (sh * 120 + c) else 0) i) → ((cn - i).toNat) < n → ∀ (H : Heap) (locs : List Loc) (ls : Array Slot), jW D (AD ad 45) s.heap (wsX cI ad σ) H locs → lv_has ls 6 [(5, .int (I i)), (0, .ref (ad 8)), (1, .int (I sh)), (2, .int (I tt)), (3, .int (I cn)), (4, .int (I g))] → W p l e rm_X5_volume s m args below meth c H locs 0 0 Q (F0 m 6 ls []) := by
    intro n
    induction n with
    | zero =>
      intro g i hi0 hs hm H locs ls hw hl
      exact absurd hm (Nat.not_lt_zero _)
    | succ n ih =>
      intro g i hi0 hs hm H locs ls hw hl
      have ih6 := ih
      refine j_iload J dX5_volume_6 (lv_at hl 0 rfl) ?_
      refine j_iload_n J dX5_volume_8 rfl (lv_at hl 4 rfl) ?_
      refine j_icmp_ge J 49 (show rg i by unfold rg; omega) (show rg cn by unfold rg; omega) dX5_volume_9 (by decide) (fun (h_1 : cn ≤ i) => ?_) (fun (h_1 : i < cn) => ?_)
      · refine j_iload J dX5_volume_49 (lv_at hl 5 rfl) ?_
        exact fin _ _ _ _ _ _ dX5_volume_51 rfl (⟨by rw [hs, show i = cn by omega], rfl⟩) hw
      · refine j_aload_n J dX5_volume_12 rfl (lv_at hl 1 rfl) ?_
        refine j_iload_n J dX5_volume_13 rfl (lv_at hl 2 rfl) ?_
        refine j_iload_n J dX5_volume_14 rfl (lv_at hl 3 rfl) ?_
        refine j_iload J dX5_volume_15 (lv_at hl 0 rfl) ?_
        refine k_X5_bothKnow (sh := sh) (tt := tt) (cl := i) hD (by omega) (by omega) (by omega) (hB.sheet _) (hB.sheet _) J hw hl.1 lk_X5_58 ⟨Nat.le_of_ble_eq_true rfl, Nat.le_of_ble_eq_true rfl⟩ (Nat.le_of_ble_eq_true rfl) dX5_volume_17 (fun H locs hw => ?_)
        refine j_ifeqB J 43 dX5_volume_20 (by decide) (fun (h_2 : ¬ (¬ σ 16 (sh * 120 + i) = -4 ∧ ¬ σ 16 (tt * 120 + i) = -4)) => ?_) (fun (h_2 : ¬ σ 16 (sh * 120 + i) = -4 ∧ ¬ σ 16 (tt * 120 + i) = -4) => ?_)
        · refine j_iinc J (lv' := [(5, .int (I (i + 1))), (0, .ref (ad 8)), (1, .int (I sh)), (2, .int (I tt)), (3, .int (I cn)), (4, .int (I g))]) (k := 0) hl dX5_volume_43 rfl (by decide) rfl (fun ls hl => ?_)
          refine j_goto J 6 dX5_volume_46 (by decide) ?_
          exact ih6 g (i + 1) (by omega) (by have hs9 := sumI_step (f := (fun c => if (¬ σ 16 (sh * 120 + c) = -4 ∧ ¬ σ 16 (tt * 120 + c) = -4) then σ 16 (tt * 120 + c) - σ 16 (sh * 120 + c) else 0)) hi0.1; (try dsimp only at hs9); (try split at hs9) <;> omega) (by omega) _ _ _ hw (lv_sub hl [0, 1, 2, 3, 4, 5] rfl)
        · refine j_iload J dX5_volume_23 (lv_at hl 5 rfl) ?_
          refine j_aload_n J dX5_volume_25 rfl (lv_at hl 1 rfl) ?_
          refine j_iload_n J dX5_volume_26 rfl (lv_at hl 3 rfl) ?_
          refine j_iload J dX5_volume_27 (lv_at hl 0 rfl) ?_
          refine k_X5_read (sh := tt) (cl := i) hD (by omega) (by omega) J hw hl.1 lk_X5_38 ⟨Nat.le_of_ble_eq_true rfl, Nat.le_of_ble_eq_true rfl⟩ (Nat.le_of_ble_eq_true rfl) dX5_volume_29 (fun H locs hw => ?_)
          refine j_aload_n J dX5_volume_32 rfl (lv_at hl 1 rfl) ?_
          refine j_iload_n J dX5_volume_33 rfl (lv_at hl 2 rfl) ?_
          refine j_iload J dX5_volume_34 (lv_at hl 0 rfl) ?_
          refine k_X5_read (sh := sh) (cl := i) hD (by omega) (by omega) J hw hl.1 lk_X5_38 ⟨Nat.le_of_ble_eq_true rfl, Nat.le_of_ble_eq_true rfl⟩ (Nat.le_of_ble_eq_true rfl) dX5_volume_36 (fun H locs hw => ?_)
          refine j_isub J dX5_volume_39 ?_
          refine j_iadd J dX5_volume_40 ?_
          refine j_istore J (lv' := [(4, .int (I (g + ((σ 16 (tt * 120 + i)) - (σ 16 (sh * 120 + i)))))), (5, .int (I i)), (0, .ref (ad 8)), (1, .int (I sh)), (2, .int (I tt)), (3, .int (I cn))]) hl dX5_volume_41 (by decide) rfl (fun ls hl => ?_)
          refine j_iinc J (lv' := [(5, .int (I (i + 1))), (4, .int (I (g + ((σ 16 (tt * 120 + i)) - (σ 16 (sh * 120 + i)))))), (0, .ref (ad 8)), (1, .int (I sh)), (2, .int (I tt)), (3, .int (I cn))]) (k := 1) hl dX5_volume_43 rfl (by decide) rfl (fun ls hl => ?_)
          refine j_goto J 6 dX5_volume_46 (by decide) ?_
          exact ih6 (g + ((σ 16 (tt * 120 + i)) - (σ 16 (sh * 120 + i)))) (i + 1) (by omega) (by have hs9 := sumI_step (f := (fun c => if (¬ σ 16 (sh * 120 + c) = -4 ∧ ¬ σ 16 (tt * 120 + c) = -4) then σ 16 (tt * 120 + c) - σ 16 (sh * 120 + c) else 0)) hi0.1; (try dsimp only at hs9); (try split at hs9) <;> omega) (by omega) _ _ _ hw (lv_sub hl [0, 2, 3, 4, 5, 1] rfl)
  exact L6 _ 0 0 (by omega) (sumI_0.symm) (Nat.lt_succ_self _) _ _ _ hw (lv_sub hl [0, 2, 3, 4, 5, 1] rfl)
theorem k_X5_volume {p : Program} {l : Launch} {e : Env} {R : Room} {s : State} {m : MethodId} {args : Array Value} {below : List Frame} {meth : Method} {c : Code} {H : Heap} {locs : List Loc} {Q : State → Prop} {cc : ByteArray} {pc : Nat} {ls : Array Slot} {rest : List Value} {nL : Nat} {own : String} {D : va_G} {σ : St} {cI cZ : ClassId} {ad : Nat → Nat} {index : Nat} {sh tt cn : Int} (hD : ∀ τ, va_D (AD ad 45) (wsX cI ad τ)) (hB : Bd σ) (hsh : 0 ≤ sh ∧ sh ≤ 5) (htt : 0 ≤ tt ∧ tt ≤ 5) (hn : 0 ≤ cn ∧ cn ≤ 120) (J : Jx p m c cc nL s args own D [(cI, .int), (cZ, .boolean)] (AD ad 45) (wsX cI ad)) (hw : jW D (AD ad 45) s.heap (wsX cI ad σ) H locs) (hsz : ls.size = nL) (hlk : Cond.methodLink own index yX5_volume ∈ TBw) (hR : 5 ≤ R.frames ∧ 113 ≤ R.locals) (hroom : (rest.map fun v => v.category).sum ≤ 8) (hdg : decode cc pc = .ok (.invokevirtual index, 3)) (kk : ∀ (H1 : Heap) (locs1 : List Loc), jW D (AD ad 45) s.heap (wsX cI ad σ) H1 locs1 → W p l e R s m args below meth c H1 locs1 0 0 Q (F0 m (pc + 3) ls (.int (I (sumI (fun c => if (¬ σ 16 (sh * 120 + c) = -4 ∧ ¬ σ 16 (tt * 120 + c) = -4) then σ 16 (tt * 120 + c) - σ 16 (sh * 120 + c) else 0) cn)) :: rest))) : W p l e R s m args below meth c H locs 0 0 Q (F0 m pc ls (.int (I cn) :: .int (I tt) :: .int (I sh) :: .ref (ad 8) :: rest)) := 
  j_callVi J hw (c_X5_volume  hD hB hsh htt hn) hlk in_X5_volume se_X5_volume ini_X5 co_X5_volume (n := 3) (by decide +kernel) ⟨rfl, rfl, hR.1, hR.2⟩ (j := 8) (ci := 5) rfl rfl rfl rfl hroom hsz ⟨Nat.zero_le _, Nat.zero_le _⟩ rfl hdg (fun r τ H1 locs1 hp hw1 => by obtain ⟨rfl, rfl⟩ := hp; exact kk H1 locs1 hw1)
def rm_X5_pay : Room := { frames := 4, cells := 0, slots := 0, locals := 88 }
set_option maxHeartbeats 4000000 in
set_option maxRecDepth 100000 in
theorem c_X5_pay {l : Launch} {D : va_G} {cI cZ : ClassId} {ad : Nat → Nat} {σ : St} {sh tt ov : Int} (hD : ∀ τ, va_D (AD ad 45) (wsX cI ad τ)) (hB : Bd σ) (hsh : 0 ≤ sh ∧ sh ≤ 5) (htt : 0 ≤ tt ∧ tt ≤ 5) (ho : 0 ≤ ov ∧ ov ≤ 50) : JMi l yX5_pay cX5_pay 8 (some .int) rm_X5_pay D [(cI, .int), (cZ, .boolean)] (AD ad 45) (wsX cI ad) [.ref (ad 8), .int (I sh), .int (I tt), .ref (ad 1), .int (I ov)] σ (fun r τ => r = (sumI (fun c => if 0 < σ 2 c ∧ (¬ σ 16 (sh * 120 + c) = -4 ∧ ¬ σ 16 (tt * 120 + c) = -4) ∧ σ 2 c ≤ σ 16 (tt * 120 + c) then max 0 (min (σ 16 (tt * 120 + c)) (σ 2 c + ov) - σ 16 (sh * 120 + c)) else 0) (σ 18 0 * σ 18 1)) ∧ τ = σ) := by
  refine JMi.of RX5 (by decide +kernel) rfl (Nat.le_of_ble_eq_true rfl) hD ?_
  intro p e s m args below meth c Q J fin H ls hw hl
  generalize ([] : List Loc) = locs at hw ⊢
  have hl : lv_has ls 8 [(0, .ref (ad 8)), (1, .int (I sh)), (2, .int (I tt)), (3, .ref (ad 1)), (4, .int (I ov))] := hl
  have hd : Dim _ := hB.dim
  have hd1 := hd.1; have hd2 := hd.2.1; have hd3 := hd.2.2.1; have hd4 := hd.2.2.2; have hm := hd.mul
  refine j_iconst J (0) dX5_pay_0 ?_
  refine j_istore J (lv' := [(5, .int (I 0)), (0, .ref (ad 8)), (1, .int (I sh)), (2, .int (I tt)), (3, .ref (ad 1)), (4, .int (I ov))]) hl dX5_pay_1 (by decide) rfl (fun ls hl => ?_)
  refine j_iconst J (0) dX5_pay_3 ?_
  refine j_istore J (lv' := [(6, .int (I 0)), (5, .int (I 0)), (0, .ref (ad 8)), (1, .int (I sh)), (2, .int (I tt)), (3, .ref (ad 1)), (4, .int (I ov))]) hl dX5_pay_4 (by decide) rfl (fun ls hl => ?_)
  have L6 : ∀ n : Nat, ∀ (g : Int) (i : Int), (0 ≤ i ∧ i ≤ σ 18 0 * σ 18 1) → (g = sumI (fun c => if 0 < σ 2 c ∧ (¬ σ 16 (sh * 120 + c) = -4 ∧ ¬ σ 16 (tt * 120 + c) = -4) ∧ σ 2 c ≤ σ 16 (tt * 120 + c) then max 0 (min (σ 16 (tt * 120 + c)) (σ 2 c + ov) - σ 16 (sh * 120 + c)) else 0) i) → ((σ 18 0 * σ 18 1 - i).toNat) < n → ∀ (H : Heap) (locs : List Loc) (ls : Array Slot), jW D (AD ad 45) s.heap (wsX cI ad σ) H locs → lv_has ls 8 [(6, .int (I i)), (0, .ref (ad 8)), (1, .int (I sh)), (2, .int (I tt)), (3, .ref (ad 1)), (4, .int (I ov)), (5, .int (I g))] → W p l e rm_X5_pay s m args below meth c H locs 0 0 Q (F0 m 6 ls []) := by
    intro n
    induction n with
    | zero =>
      intro g i hi0 hs hm H locs ls hw hl
      exact absurd hm (Nat.not_lt_zero _)
    | succ n ih =>
      intro g i hi0 hs hm H locs ls hw hl
      have ih6 := ih
      refine j_iload J dX5_pay_6 (lv_at hl 0 rfl) ?_
      refine j_aload_n J dX5_pay_8 rfl (lv_at hl 4 rfl) ?_
      refine k_X1_size  hD  J hw hl.1 lk_X5_45 ⟨Nat.le_of_ble_eq_true rfl, Nat.le_of_ble_eq_true rfl⟩ (Nat.le_of_ble_eq_true rfl) dX5_pay_9 (fun H locs hw => ?_)
      refine j_icmp_ge J 92 (show rg i by unfold rg; omega) (show rg (σ 18 0 * σ 18 1) by unfold rg; omega) dX5_pay_12 (by decide) (fun (h_1 : (σ 18 0 * σ 18 1) ≤ i) => ?_) (fun (h_1 : i < (σ 18 0 * σ 18 1)) => ?_)
      · refine j_iload J dX5_pay_92 (lv_at hl 6 rfl) ?_
        exact fin _ _ _ _ _ _ dX5_pay_94 rfl (⟨by rw [hs, show i = σ 18 0 * σ 18 1 by omega], rfl⟩) hw
      · refine j_aload_n J dX5_pay_15 rfl (lv_at hl 4 rfl) ?_
        refine xg_1_1 J hw lk_X5_61 dX5_pay_16 ?_
        refine j_iload J dX5_pay_19 (lv_at hl 0 rfl) ?_
        refine k_X2_get (k := 2) (i := i) hD (by decide) (show 0 ≤ i ∧ i < ((120 : Nat) : Int) from by omega) J hw hl.1 lk_X5_30 ⟨Nat.le_of_ble_eq_true rfl, Nat.le_of_ble_eq_true rfl⟩ (Nat.le_of_ble_eq_true rfl) dX5_pay_21 (fun H locs hw => ?_)
        have b0 := hB.design i; have b1 := hB.sheet (sh * 120 + i); have b2 := hB.sheet (tt * 120 + i)
        refine j_istore J (lv' := [(7, .int (I (σ 2 i))), (6, .int (I i)), (0, .ref (ad 8)), (1, .int (I sh)), (2, .int (I tt)), (3, .ref (ad 1)), (4, .int (I ov)), (5, .int (I g))]) hl dX5_pay_24 (by decide) rfl (fun ls hl => ?_)
        refine j_iload J dX5_pay_26 (lv_at hl 0 rfl) ?_
        refine j_if_le J 86 (show rg (σ 2 i) by unfold rg; omega) dX5_pay_28 (by decide) (fun (h_2 : (σ 2 i) ≤ 0) => ?_) (fun (h_2 : 0 < (σ 2 i)) => ?_)
        · refine j_iinc J (lv' := [(6, .int (I (i + 1))), (7, .int (I (σ 2 i))), (0, .ref (ad 8)), (1, .int (I sh)), (2, .int (I tt)), (3, .ref (ad 1)), (4, .int (I ov)), (5, .int (I g))]) (k := 1) hl dX5_pay_86 rfl (by decide) rfl (fun ls hl => ?_)
          refine j_goto J 6 dX5_pay_89 (by decide) ?_
          exact ih6 g (i + 1) (by omega) (by have hs9 := sumI_step (f := (fun c => if 0 < σ 2 c ∧ (¬ σ 16 (sh * 120 + c) = -4 ∧ ¬ σ 16 (tt * 120 + c) = -4) ∧ σ 2 c ≤ σ 16 (tt * 120 + c) then max 0 (min (σ 16 (tt * 120 + c)) (σ 2 c + ov) - σ 16 (sh * 120 + c)) else 0)) hi0.1; (try dsimp only at hs9); (try split at hs9) <;> omega) (by omega) _ _ _ hw (lv_sub hl [0, 2, 3, 4, 5, 6, 7] rfl)
        · refine j_aload_n J dX5_pay_31 rfl (lv_at hl 2 rfl) ?_
          refine j_iload_n J dX5_pay_32 rfl (lv_at hl 3 rfl) ?_
          refine j_iload_n J dX5_pay_33 rfl (lv_at hl 4 rfl) ?_
          refine j_iload J dX5_pay_34 (lv_at hl 1 rfl) ?_
          refine k_X5_bothKnow (sh := sh) (tt := tt) (cl := i) hD (by omega) (by omega) (by omega) (hB.sheet _) (hB.sheet _) J hw hl.1 lk_X5_58 ⟨Nat.le_of_ble_eq_true rfl, Nat.le_of_ble_eq_true rfl⟩ (Nat.le_of_ble_eq_true rfl) dX5_pay_36 (fun H locs hw => ?_)
          refine j_ifeqB J 86 dX5_pay_39 (by decide) (fun (h_3 : ¬ (¬ σ 16 (sh * 120 + i) = -4 ∧ ¬ σ 16 (tt * 120 + i) = -4)) => ?_) (fun (h_3 : ¬ σ 16 (sh * 120 + i) = -4 ∧ ¬ σ 16 (tt * 120 + i) = -4) => ?_)
          · refine j_iinc J (lv' := [(6, .int (I (i + 1))), (7, .int (I (σ 2 i))), (0, .ref (ad 8)), (1, .int (I sh)), (2, .int (I tt)), (3, .ref (ad 1)), (4, .int (I ov)), (5, .int (I g))]) (k := 1) hl dX5_pay_86 rfl (by decide) rfl (fun ls hl => ?_)
            refine j_goto J 6 dX5_pay_89 (by decide) ?_
            exact ih6 g (i + 1) (by omega) (by have hs9 := sumI_step (f := (fun c => if 0 < σ 2 c ∧ (¬ σ 16 (sh * 120 + c) = -4 ∧ ¬ σ 16 (tt * 120 + c) = -4) ∧ σ 2 c ≤ σ 16 (tt * 120 + c) then max 0 (min (σ 16 (tt * 120 + c)) (σ 2 c + ov) - σ 16 (sh * 120 + c)) else 0)) hi0.1; (try dsimp only at hs9); (try split at hs9) <;> omega) (by omega) _ _ _ hw (lv_sub hl [0, 2, 3, 4, 5, 6, 7] rfl)
          · refine j_aload_n J dX5_pay_42 rfl (lv_at hl 2 rfl) ?_
            refine j_iload_n J dX5_pay_43 rfl (lv_at hl 4 rfl) ?_
            refine j_iload J dX5_pay_44 (lv_at hl 1 rfl) ?_
            refine k_X5_read (sh := tt) (cl := i) hD (by omega) (by omega) J hw hl.1 lk_X5_38 ⟨Nat.le_of_ble_eq_true rfl, Nat.le_of_ble_eq_true rfl⟩ (Nat.le_of_ble_eq_true rfl) dX5_pay_46 (fun H locs hw => ?_)
            refine j_iload J dX5_pay_49 (lv_at hl 0 rfl) ?_
            refine j_icmp_lt J 86 (show rg (σ 16 (tt * 120 + i)) by unfold rg; omega) (show rg (σ 2 i) by unfold rg; omega) dX5_pay_51 (by decide) (fun (h_4 : (σ 16 (tt * 120 + i)) < (σ 2 i)) => ?_) (fun (h_4 : (σ 2 i) ≤ (σ 16 (tt * 120 + i))) => ?_)
            · refine j_iinc J (lv' := [(6, .int (I (i + 1))), (7, .int (I (σ 2 i))), (0, .ref (ad 8)), (1, .int (I sh)), (2, .int (I tt)), (3, .ref (ad 1)), (4, .int (I ov)), (5, .int (I g))]) (k := 1) hl dX5_pay_86 rfl (by decide) rfl (fun ls hl => ?_)
              refine j_goto J 6 dX5_pay_89 (by decide) ?_
              exact ih6 g (i + 1) (by omega) (by have hs9 := sumI_step (f := (fun c => if 0 < σ 2 c ∧ (¬ σ 16 (sh * 120 + c) = -4 ∧ ¬ σ 16 (tt * 120 + c) = -4) ∧ σ 2 c ≤ σ 16 (tt * 120 + c) then max 0 (min (σ 16 (tt * 120 + c)) (σ 2 c + ov) - σ 16 (sh * 120 + c)) else 0)) hi0.1; (try dsimp only at hs9); (try split at hs9) <;> omega) (by omega) _ _ _ hw (lv_sub hl [0, 2, 3, 4, 5, 6, 7] rfl)
            · refine j_iload J dX5_pay_54 (lv_at hl 7 rfl) ?_
              refine j_iconst J (0) dX5_pay_56 ?_
              refine j_aload_n J dX5_pay_57 rfl (lv_at hl 2 rfl) ?_
              refine j_iload_n J dX5_pay_58 rfl (lv_at hl 4 rfl) ?_
              refine j_iload J dX5_pay_59 (lv_at hl 1 rfl) ?_
              refine k_X5_read (sh := tt) (cl := i) hD (by omega) (by omega) J hw hl.1 lk_X5_38 ⟨Nat.le_of_ble_eq_true rfl, Nat.le_of_ble_eq_true rfl⟩ (Nat.le_of_ble_eq_true rfl) dX5_pay_61 (fun H locs hw => ?_)
              refine j_iload J dX5_pay_64 (lv_at hl 0 rfl) ?_
              refine j_iload J dX5_pay_66 (lv_at hl 6 rfl) ?_
              refine j_iadd J dX5_pay_68 ?_
              refine j_min J (show rg (σ 16 (tt * 120 + i)) by unfold rg; omega) (show rg ((σ 2 i) + ov) by unfold rg; omega) hl.1 lk_X5_64 ⟨Nat.le_of_ble_eq_true rfl, Nat.le_of_ble_eq_true rfl, Nat.zero_le _, Nat.zero_le _⟩ dX5_pay_69 ?_
              refine j_aload_n J dX5_pay_72 rfl (lv_at hl 2 rfl) ?_
              refine j_iload_n J dX5_pay_73 rfl (lv_at hl 3 rfl) ?_
              refine j_iload J dX5_pay_74 (lv_at hl 1 rfl) ?_
              refine k_X5_read (sh := sh) (cl := i) hD (by omega) (by omega) J hw hl.1 lk_X5_38 ⟨Nat.le_of_ble_eq_true rfl, Nat.le_of_ble_eq_true rfl⟩ (Nat.le_of_ble_eq_true rfl) dX5_pay_76 (fun H locs hw => ?_)
              refine j_isub J dX5_pay_79 ?_
              refine j_max J (by unfold rg; omega) (show rg ((min (σ 16 (tt * 120 + i)) ((σ 2 i) + ov)) - (σ 16 (sh * 120 + i))) by unfold rg; omega) hl.1 lk_X5_69 ⟨Nat.le_of_ble_eq_true rfl, Nat.le_of_ble_eq_true rfl, Nat.zero_le _, Nat.zero_le _⟩ dX5_pay_80 ?_
              refine j_iadd J dX5_pay_83 ?_
              refine j_istore J (lv' := [(5, .int (I (g + (max 0 ((min (σ 16 (tt * 120 + i)) ((σ 2 i) + ov)) - (σ 16 (sh * 120 + i))))))), (7, .int (I (σ 2 i))), (6, .int (I i)), (0, .ref (ad 8)), (1, .int (I sh)), (2, .int (I tt)), (3, .ref (ad 1)), (4, .int (I ov))]) hl dX5_pay_84 (by decide) rfl (fun ls hl => ?_)
              refine j_iinc J (lv' := [(6, .int (I (i + 1))), (5, .int (I (g + (max 0 ((min (σ 16 (tt * 120 + i)) ((σ 2 i) + ov)) - (σ 16 (sh * 120 + i))))))), (7, .int (I (σ 2 i))), (0, .ref (ad 8)), (1, .int (I sh)), (2, .int (I tt)), (3, .ref (ad 1)), (4, .int (I ov))]) (k := 2) hl dX5_pay_86 rfl (by decide) rfl (fun ls hl => ?_)
              refine j_goto J 6 dX5_pay_89 (by decide) ?_
              exact ih6 (g + (max 0 ((min (σ 16 (tt * 120 + i)) ((σ 2 i) + ov)) - (σ 16 (sh * 120 + i))))) (i + 1) (by omega) (by have hs9 := sumI_step (f := (fun c => if 0 < σ 2 c ∧ (¬ σ 16 (sh * 120 + c) = -4 ∧ ¬ σ 16 (tt * 120 + c) = -4) ∧ σ 2 c ≤ σ 16 (tt * 120 + c) then max 0 (min (σ 16 (tt * 120 + c)) (σ 2 c + ov) - σ 16 (sh * 120 + c)) else 0)) hi0.1; (try dsimp only at hs9); (try split at hs9) <;> omega) (by omega) _ _ _ hw (lv_sub hl [0, 3, 4, 5, 6, 7, 1] rfl)
  exact L6 _ 0 0 (by omega) (sumI_0.symm) (Nat.lt_succ_self _) _ _ _ hw (lv_sub hl [0, 2, 3, 4, 5, 6, 1] rfl)
theorem k_X5_pay {p : Program} {l : Launch} {e : Env} {R : Room} {s : State} {m : MethodId} {args : Array Value} {below : List Frame} {meth : Method} {c : Code} {H : Heap} {locs : List Loc} {Q : State → Prop} {cc : ByteArray} {pc : Nat} {ls : Array Slot} {rest : List Value} {nL : Nat} {own : String} {D : va_G} {σ : St} {cI cZ : ClassId} {ad : Nat → Nat} {index : Nat} {sh tt ov : Int} (hD : ∀ τ, va_D (AD ad 45) (wsX cI ad τ)) (hB : Bd σ) (hsh : 0 ≤ sh ∧ sh ≤ 5) (htt : 0 ≤ tt ∧ tt ≤ 5) (ho : 0 ≤ ov ∧ ov ≤ 50) (J : Jx p m c cc nL s args own D [(cI, .int), (cZ, .boolean)] (AD ad 45) (wsX cI ad)) (hw : jW D (AD ad 45) s.heap (wsX cI ad σ) H locs) (hsz : ls.size = nL) (hlk : Cond.methodLink own index yX5_pay ∈ TBw) (hR : 5 ≤ R.frames ∧ 115 ≤ R.locals) (hroom : (rest.map fun v => v.category).sum ≤ 8) (hdg : decode cc pc = .ok (.invokevirtual index, 3)) (kk : ∀ (H1 : Heap) (locs1 : List Loc), jW D (AD ad 45) s.heap (wsX cI ad σ) H1 locs1 → W p l e R s m args below meth c H1 locs1 0 0 Q (F0 m (pc + 3) ls (.int (I (sumI (fun c => if 0 < σ 2 c ∧ (¬ σ 16 (sh * 120 + c) = -4 ∧ ¬ σ 16 (tt * 120 + c) = -4) ∧ σ 2 c ≤ σ 16 (tt * 120 + c) then max 0 (min (σ 16 (tt * 120 + c)) (σ 2 c + ov) - σ 16 (sh * 120 + c)) else 0) (σ 18 0 * σ 18 1))) :: rest))) : W p l e R s m args below meth c H locs 0 0 Q (F0 m pc ls (.int (I ov) :: .ref (ad 1) :: .int (I tt) :: .int (I sh) :: .ref (ad 8) :: rest)) := 
  j_callVi J hw (c_X5_pay  hD hB hsh htt ho) hlk in_X5_pay se_X5_pay ini_X5 co_X5_pay (n := 4) (by decide +kernel) ⟨rfl, rfl, hR.1, hR.2⟩ (j := 8) (ci := 5) rfl rfl rfl rfl hroom hsz ⟨Nat.zero_le _, Nat.zero_le _⟩ rfl hdg (fun r τ H1 locs1 hp hw1 => by obtain ⟨rfl, rfl⟩ := hp; exact kk H1 locs1 hw1)
def rm_X5_unknown : Room := { frames := 4, cells := 0, slots := 0, locals := 88 }
set_option maxHeartbeats 4000000 in
set_option maxRecDepth 100000 in
theorem c_X5_unknown {l : Launch} {D : va_G} {cI cZ : ClassId} {ad : Nat → Nat} {σ : St} {sh tt : Int} (hD : ∀ τ, va_D (AD ad 45) (wsX cI ad τ)) (hB : Bd σ) (hsh : 0 ≤ sh ∧ sh ≤ 5) (htt : 0 ≤ tt ∧ tt ≤ 5) : JMi l yX5_unknown cX5_unknown 6 (some .int) rm_X5_unknown D [(cI, .int), (cZ, .boolean)] (AD ad 45) (wsX cI ad) [.ref (ad 8), .int (I sh), .int (I tt), .ref (ad 1)] σ (fun r τ => r = (sumI (fun c => if 0 < σ 2 c ∧ ¬ (¬ σ 16 (sh * 120 + c) = -4 ∧ ¬ σ 16 (tt * 120 + c) = -4) then 1 else 0) (σ 18 0 * σ 18 1)) ∧ τ = σ) := by
  refine JMi.of RX5 (by decide +kernel) rfl (Nat.le_of_ble_eq_true rfl) hD ?_
  intro p e s m args below meth c Q J fin H ls hw hl
  generalize ([] : List Loc) = locs at hw ⊢
  have hl : lv_has ls 6 [(0, .ref (ad 8)), (1, .int (I sh)), (2, .int (I tt)), (3, .ref (ad 1))] := hl
  have hd : Dim _ := hB.dim
  have hd1 := hd.1; have hd2 := hd.2.1; have hd3 := hd.2.2.1; have hd4 := hd.2.2.2; have hm := hd.mul
  refine j_iconst J (0) dX5_unknown_0 ?_
  refine j_istore J (lv' := [(4, .int (I 0)), (0, .ref (ad 8)), (1, .int (I sh)), (2, .int (I tt)), (3, .ref (ad 1))]) hl dX5_unknown_1 (by decide) rfl (fun ls hl => ?_)
  refine j_iconst J (0) dX5_unknown_3 ?_
  refine j_istore J (lv' := [(5, .int (I 0)), (4, .int (I 0)), (0, .ref (ad 8)), (1, .int (I sh)), (2, .int (I tt)), (3, .ref (ad 1))]) hl dX5_unknown_4 (by decide) rfl (fun ls hl => ?_)
  have L6 : ∀ n : Nat, ∀ (g : Int) (i : Int), (0 ≤ i ∧ i ≤ σ 18 0 * σ 18 1) → (g = sumI (fun c => if 0 < σ 2 c ∧ ¬ (¬ σ 16 (sh * 120 + c) = -4 ∧ ¬ σ 16 (tt * 120 + c) = -4) then 1 else 0) i) → ((σ 18 0 * σ 18 1 - i).toNat) < n → ∀ (H : Heap) (locs : List Loc) (ls : Array Slot), jW D (AD ad 45) s.heap (wsX cI ad σ) H locs → lv_has ls 6 [(5, .int (I i)), (0, .ref (ad 8)), (1, .int (I sh)), (2, .int (I tt)), (3, .ref (ad 1)), (4, .int (I g))] → W p l e rm_X5_unknown s m args below meth c H locs 0 0 Q (F0 m 6 ls []) := by
    intro n
    induction n with
    | zero =>
      intro g i hi0 hs hm H locs ls hw hl
      exact absurd hm (Nat.not_lt_zero _)
    | succ n ih =>
      intro g i hi0 hs hm H locs ls hw hl
      have ih6 := ih
      refine j_iload J dX5_unknown_6 (lv_at hl 0 rfl) ?_
      refine j_aload_n J dX5_unknown_8 rfl (lv_at hl 4 rfl) ?_
      refine k_X1_size  hD  J hw hl.1 lk_X5_45 ⟨Nat.le_of_ble_eq_true rfl, Nat.le_of_ble_eq_true rfl⟩ (Nat.le_of_ble_eq_true rfl) dX5_unknown_9 (fun H locs hw => ?_)
      refine j_icmp_ge J 47 (show rg i by unfold rg; omega) (show rg (σ 18 0 * σ 18 1) by unfold rg; omega) dX5_unknown_12 (by decide) (fun (h_1 : (σ 18 0 * σ 18 1) ≤ i) => ?_) (fun (h_1 : i < (σ 18 0 * σ 18 1)) => ?_)
      · refine j_iload J dX5_unknown_47 (lv_at hl 5 rfl) ?_
        exact fin _ _ _ _ _ _ dX5_unknown_49 rfl (⟨by rw [hs, show i = σ 18 0 * σ 18 1 by omega], rfl⟩) hw
      · refine j_aload_n J dX5_unknown_15 rfl (lv_at hl 4 rfl) ?_
        refine xg_1_1 J hw lk_X5_61 dX5_unknown_16 ?_
        refine j_iload J dX5_unknown_19 (lv_at hl 0 rfl) ?_
        refine k_X2_get (k := 2) (i := i) hD (by decide) (show 0 ≤ i ∧ i < ((120 : Nat) : Int) from by omega) J hw hl.1 lk_X5_30 ⟨Nat.le_of_ble_eq_true rfl, Nat.le_of_ble_eq_true rfl⟩ (Nat.le_of_ble_eq_true rfl) dX5_unknown_21 (fun H locs hw => ?_)
        have b0 := hB.design i
        refine j_if_le J 41 (show rg (σ 2 i) by unfold rg; omega) dX5_unknown_24 (by decide) (fun (h_2 : (σ 2 i) ≤ 0) => ?_) (fun (h_2 : 0 < (σ 2 i)) => ?_)
        · refine j_iinc J (lv' := [(5, .int (I (i + 1))), (0, .ref (ad 8)), (1, .int (I sh)), (2, .int (I tt)), (3, .ref (ad 1)), (4, .int (I g))]) (k := 0) hl dX5_unknown_41 rfl (by decide) rfl (fun ls hl => ?_)
          refine j_goto J 6 dX5_unknown_44 (by decide) ?_
          exact ih6 g (i + 1) (by omega) (by have hs9 := sumI_step (f := (fun c => if 0 < σ 2 c ∧ ¬ (¬ σ 16 (sh * 120 + c) = -4 ∧ ¬ σ 16 (tt * 120 + c) = -4) then 1 else 0)) hi0.1; (try dsimp only at hs9); (try split at hs9) <;> omega) (by omega) _ _ _ hw (lv_sub hl [0, 1, 2, 3, 4, 5] rfl)
        · refine j_aload_n J dX5_unknown_27 rfl (lv_at hl 1 rfl) ?_
          refine j_iload_n J dX5_unknown_28 rfl (lv_at hl 2 rfl) ?_
          refine j_iload_n J dX5_unknown_29 rfl (lv_at hl 3 rfl) ?_
          refine j_iload J dX5_unknown_30 (lv_at hl 0 rfl) ?_
          refine k_X5_bothKnow (sh := sh) (tt := tt) (cl := i) hD (by omega) (by omega) (by omega) (hB.sheet _) (hB.sheet _) J hw hl.1 lk_X5_58 ⟨Nat.le_of_ble_eq_true rfl, Nat.le_of_ble_eq_true rfl⟩ (Nat.le_of_ble_eq_true rfl) dX5_unknown_32 (fun H locs hw => ?_)
          refine j_ifneB J 41 dX5_unknown_35 (by decide) (fun (h_3 : ¬ σ 16 (sh * 120 + i) = -4 ∧ ¬ σ 16 (tt * 120 + i) = -4) => ?_) (fun (h_3 : ¬ (¬ σ 16 (sh * 120 + i) = -4 ∧ ¬ σ 16 (tt * 120 + i) = -4)) => ?_)
          · refine j_iinc J (lv' := [(5, .int (I (i + 1))), (0, .ref (ad 8)), (1, .int (I sh)), (2, .int (I tt)), (3, .ref (ad 1)), (4, .int (I g))]) (k := 0) hl dX5_unknown_41 rfl (by decide) rfl (fun ls hl => ?_)
            refine j_goto J 6 dX5_unknown_44 (by decide) ?_
            exact ih6 g (i + 1) (by omega) (by have hs9 := sumI_step (f := (fun c => if 0 < σ 2 c ∧ ¬ (¬ σ 16 (sh * 120 + c) = -4 ∧ ¬ σ 16 (tt * 120 + c) = -4) then 1 else 0)) hi0.1; (try dsimp only at hs9); (try split at hs9) <;> omega) (by omega) _ _ _ hw (lv_sub hl [0, 1, 2, 3, 4, 5] rfl)
          · refine j_iinc J (lv' := [(4, .int (I (g + 1))), (5, .int (I i)), (0, .ref (ad 8)), (1, .int (I sh)), (2, .int (I tt)), (3, .ref (ad 1))]) (k := 5) hl dX5_unknown_38 rfl (by decide) rfl (fun ls hl => ?_)
            refine j_iinc J (lv' := [(5, .int (I (i + 1))), (4, .int (I (g + 1))), (0, .ref (ad 8)), (1, .int (I sh)), (2, .int (I tt)), (3, .ref (ad 1))]) (k := 1) hl dX5_unknown_41 rfl (by decide) rfl (fun ls hl => ?_)
            refine j_goto J 6 dX5_unknown_44 (by decide) ?_
            exact ih6 (g + 1) (i + 1) (by omega) (by have hs9 := sumI_step (f := (fun c => if 0 < σ 2 c ∧ ¬ (¬ σ 16 (sh * 120 + c) = -4 ∧ ¬ σ 16 (tt * 120 + c) = -4) then 1 else 0)) hi0.1; (try dsimp only at hs9); (try split at hs9) <;> omega) (by omega) _ _ _ hw (lv_sub hl [0, 2, 3, 4, 5, 1] rfl)
  exact L6 _ 0 0 (by omega) (sumI_0.symm) (Nat.lt_succ_self _) _ _ _ hw (lv_sub hl [0, 2, 3, 4, 5, 1] rfl)
theorem k_X5_unknown {p : Program} {l : Launch} {e : Env} {R : Room} {s : State} {m : MethodId} {args : Array Value} {below : List Frame} {meth : Method} {c : Code} {H : Heap} {locs : List Loc} {Q : State → Prop} {cc : ByteArray} {pc : Nat} {ls : Array Slot} {rest : List Value} {nL : Nat} {own : String} {D : va_G} {σ : St} {cI cZ : ClassId} {ad : Nat → Nat} {index : Nat} {sh tt : Int} (hD : ∀ τ, va_D (AD ad 45) (wsX cI ad τ)) (hB : Bd σ) (hsh : 0 ≤ sh ∧ sh ≤ 5) (htt : 0 ≤ tt ∧ tt ≤ 5) (J : Jx p m c cc nL s args own D [(cI, .int), (cZ, .boolean)] (AD ad 45) (wsX cI ad)) (hw : jW D (AD ad 45) s.heap (wsX cI ad σ) H locs) (hsz : ls.size = nL) (hlk : Cond.methodLink own index yX5_unknown ∈ TBw) (hR : 5 ≤ R.frames ∧ 113 ≤ R.locals) (hroom : (rest.map fun v => v.category).sum ≤ 8) (hdg : decode cc pc = .ok (.invokevirtual index, 3)) (kk : ∀ (H1 : Heap) (locs1 : List Loc), jW D (AD ad 45) s.heap (wsX cI ad σ) H1 locs1 → W p l e R s m args below meth c H1 locs1 0 0 Q (F0 m (pc + 3) ls (.int (I (sumI (fun c => if 0 < σ 2 c ∧ ¬ (¬ σ 16 (sh * 120 + c) = -4 ∧ ¬ σ 16 (tt * 120 + c) = -4) then 1 else 0) (σ 18 0 * σ 18 1))) :: rest))) : W p l e R s m args below meth c H locs 0 0 Q (F0 m pc ls (.ref (ad 1) :: .int (I tt) :: .int (I sh) :: .ref (ad 8) :: rest)) := 
  j_callVi J hw (c_X5_unknown  hD hB hsh htt) hlk in_X5_unknown se_X5_unknown ini_X5 co_X5_unknown (n := 3) (by decide +kernel) ⟨rfl, rfl, hR.1, hR.2⟩ (j := 8) (ci := 5) rfl rfl rfl rfl hroom hsz ⟨Nat.zero_le _, Nat.zero_le _⟩ rfl hdg (fun r τ H1 locs1 hp hw1 => by obtain ⟨rfl, rfl⟩ := hp; exact kk H1 locs1 hw1)
