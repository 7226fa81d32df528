def AD (ad : Nat → Nat) (n : Nat) : Nat → Prop := fun q => ∃ k, k < n ∧ q = ad k
/-- the first n places of an array hold v -/
def fl (σ : St) (k : Nat) (v n : Int) : St := fun k' i' => if k' = k ∧ 0 ≤ i' ∧ i' < n then v else σ k' i'
theorem fl_0 {σ : St} {k : Nat} {v : Int} : fl σ k v 0 = σ := by
  funext k' i'
  unfold fl
  rw [if_neg (by omega)]
theorem fl_step {σ : St} {k : Nat} {v n : Int} (h : 0 ≤ n) : st (fl σ k v n) k n v = fl σ k v (n + 1) := by
  funext k' i'
  show (if k' = k ∧ i' = n then v else (if k' = k ∧ 0 ≤ i' ∧ i' < n then v else σ k' i')) = (if k' = k ∧ 0 ≤ i' ∧ i' < n + 1 then v else σ k' i')
  by_cases h1 : k' = k ∧ i' = n
  · rw [if_pos h1, if_pos (by omega)]
  · rw [if_neg h1]
    by_cases h2 : k' = k ∧ 0 ≤ i' ∧ i' < n
    · rw [if_pos h2, if_pos (by omega)]
    · rw [if_neg h2, if_neg (by omega)]
def rm_X2_get : Room := { frames := 0, cells := 0, slots := 0, locals := 0 }
set_option maxHeartbeats 4000000 in
set_option maxRecDepth 100000 in
theorem c_X2_get {l : Launch} {D : va_G} {cI cZ : ClassId} {ad : Nat → Nat} {σ : St} {k : Nat} {i : Int} (hD : ∀ τ, va_D (AD ad 45) (wsX cI ad τ)) (hk : k < 18) (hi : 0 ≤ i ∧ i < lenX k) : JMi l yX2_get cX2_get 2 (some .int) rm_X2_get D [(cI, .int), (cZ, .boolean)] (AD ad 45) (wsX cI ad) [.ref (ad (9 + 2 * k)), .int (I i)] σ (fun r τ => r = σ k i ∧ τ = σ) := by
  refine JMi.of RX2 (by decide +kernel) rfl (Nat.le_of_ble_eq_true rfl) hD ?_
  intro p e s m args below meth c Q J fin H ls hw hl
  generalize ([] : List Loc) = locs at hw ⊢
  have hl : lv_has ls 2 [(0, .ref (ad (9 + 2 * k))), (1, .int (I i))] := hl
  have hlen := lenX_lt hk
  refine j_iload_n J dX2_get_0 rfl (lv_at hl 1 rfl) ?_
  refine j_if_lt J 22 (by unfold rg; omega) dX2_get_1 (by decide) (fun (h_1 : i < 0) => absurd h_1 (by omega)) (fun (h_1 : 0 ≤ i) => ?_)
  refine j_iload_n J dX2_get_4 rfl (lv_at hl 1 rfl) ?_
  refine j_aload_n J dX2_get_5 rfl (lv_at hl 0 rfl) ?_
  refine xg_num (k := k) hk J hw lk_X2_13 dX2_get_6 ?_
  refine xa_len hk J hw dX2_get_9 ?_
  refine j_icmp_ge J 22 (by unfold rg; omega) (by unfold rg; omega) dX2_get_10 (by decide) (fun (h_2 : ((lenX k : Nat) : Int) ≤ i) => absurd h_2 (by omega)) (fun (h_2 : i < ((lenX k : Nat) : Int)) => ?_)
  refine j_aload_n J dX2_get_13 rfl (lv_at hl 0 rfl) ?_
  refine xg_num (k := k) hk J hw lk_X2_13 dX2_get_14 ?_
  refine j_iload_n J dX2_get_17 rfl (lv_at hl 1 rfl) ?_
  refine xa_ld hk J hw hi dX2_get_18 ?_
  refine j_goto J 23 dX2_get_19 (by decide) ?_
  exact fin _ _ _ _ _ _ dX2_get_23 rfl (⟨rfl, rfl⟩) hw
theorem k_X2_get {p : Program} {l : Launch} {e : Env} {R : Room} {s : State} {m : MethodId} {args : Array Value} {below : List Frame} {meth : Method} {c : Code} {H : Heap} {locs : List Loc} {Q : State → Prop} {cc : ByteArray} {pc : Nat} {ls : Array Slot} {rest : List Value} {nL : Nat} {own : String} {D : va_G} {σ : St} {cI cZ : ClassId} {ad : Nat → Nat} {index : Nat} {k : Nat} {i : Int} (hD : ∀ τ, va_D (AD ad 45) (wsX cI ad τ)) (hk : k < 18) (hi : 0 ≤ i ∧ i < lenX k) (J : Jx p m c cc nL s args own D [(cI, .int), (cZ, .boolean)] (AD ad 45) (wsX cI ad)) (hw : jW D (AD ad 45) s.heap (wsX cI ad σ) H locs) (hsz : ls.size = nL) (hlk : Cond.methodLink own index yX2_get ∈ TBw) (hR : 1 ≤ R.frames ∧ 21 ≤ R.locals) (hroom : (rest.map fun v => v.category).sum ≤ 8) (hdg : decode cc pc = .ok (.invokevirtual index, 3)) (kk : ∀ (H1 : Heap) (locs1 : List Loc), jW D (AD ad 45) s.heap (wsX cI ad σ) H1 locs1 → W p l e R s m args below meth c H1 locs1 0 0 Q (F0 m (pc + 3) ls (.int (I (σ k i)) :: rest))) : W p l e R s m args below meth c H locs 0 0 Q (F0 m pc ls (.int (I i) :: .ref (ad (9 + 2 * k)) :: rest)) := 
  j_callVi J hw (c_X2_get (k := k) hD hk hi) hlk in_X2_get se_X2_get ini_X2 co_X2_get (n := 1) (by decide +kernel) ⟨rfl, rfl, hR.1, hR.2⟩ (j := 9 + 2 * k) (ci := 2) (wsX_num hk) rfl rfl rfl hroom hsz ⟨Nat.zero_le _, Nat.zero_le _⟩ rfl hdg (fun r τ H1 locs1 hp hw1 => by obtain ⟨rfl, rfl⟩ := hp; exact kk H1 locs1 hw1)
def rm_X2_put : Room := { frames := 0, cells := 0, slots := 0, locals := 0 }
set_option maxHeartbeats 4000000 in
set_option maxRecDepth 100000 in
theorem c_X2_put {l : Launch} {D : va_G} {cI cZ : ClassId} {ad : Nat → Nat} {σ : St} {k : Nat} {i v : Int} (hD : ∀ τ, va_D (AD ad 45) (wsX cI ad τ)) (hk : k < 18) (hi : 0 ≤ i ∧ i < lenX k) : JMi l yX2_put cX2_put 4 (some .int) rm_X2_put D [(cI, .int), (cZ, .boolean)] (AD ad 45) (wsX cI ad) [.ref (ad (9 + 2 * k)), .int (I i), .int (I v)] σ (fun r τ => r = σ k i ∧ τ = st σ k i v) := by
  refine JMi.of RX2 (by decide +kernel) rfl (Nat.le_of_ble_eq_true rfl) hD ?_
  intro p e s m args below meth c Q J fin H ls hw hl
  generalize ([] : List Loc) = locs at hw ⊢
  have hl : lv_has ls 4 [(0, .ref (ad (9 + 2 * k))), (1, .int (I i)), (2, .int (I v))] := hl
  have hlen := lenX_lt hk
  refine j_iload_n J dX2_put_0 rfl (lv_at hl 1 rfl) ?_
  refine j_if_lt J 13 (by unfold rg; omega) dX2_put_1 (by decide) (fun (h_1 : i < 0) => absurd h_1 (by omega)) (fun (h_1 : 0 ≤ i) => ?_)
  refine j_iload_n J dX2_put_4 rfl (lv_at hl 1 rfl) ?_
  refine j_aload_n J dX2_put_5 rfl (lv_at hl 0 rfl) ?_
  refine xg_num (k := k) hk J hw lk_X2_13 dX2_put_6 ?_
  refine xa_len hk J hw dX2_put_9 ?_
  refine j_icmp_lt J 15 (by unfold rg; omega) (by unfold rg; omega) dX2_put_10 (by decide) (fun (h_2 : i < ((lenX k : Nat) : Int)) => ?_) (fun (h_2 : ((lenX k : Nat) : Int) ≤ i) => absurd h_2 (by omega))
  refine j_aload_n J dX2_put_15 rfl (lv_at hl 0 rfl) ?_
  refine xg_num (k := k) hk J hw lk_X2_13 dX2_put_16 ?_
  refine j_iload_n J dX2_put_19 rfl (lv_at hl 1 rfl) ?_
  refine xa_ld hk J hw hi dX2_put_20 ?_
  refine j_istore_n J (lv' := [(3, .int (I (σ k i))), (0, .ref (ad (9 + 2 * k))), (1, .int (I i)), (2, .int (I v))]) hl dX2_put_21 rfl (by decide) rfl (fun ls hl => ?_)
  refine j_aload_n J dX2_put_22 rfl (lv_at hl 1 rfl) ?_
  refine xg_num (k := k) hk J hw lk_X2_13 dX2_put_23 ?_
  refine j_iload_n J dX2_put_26 rfl (lv_at hl 2 rfl) ?_
  refine j_iload_n J dX2_put_27 rfl (lv_at hl 3 rfl) ?_
  refine xa_st hk J hw hi dX2_put_28 (fun H locs hw => ?_)
  refine j_iload_n J dX2_put_29 rfl (lv_at hl 0 rfl) ?_
  exact fin _ _ _ _ _ _ dX2_put_30 rfl (⟨rfl, rfl⟩) hw
theorem k_X2_put {p : Program} {l : Launch} {e : Env} {R : Room} {s : State} {m : MethodId} {args : Array Value} {below : List Frame} {meth : Method} {c : Code} {H : Heap} {locs : List Loc} {Q : State → Prop} {cc : ByteArray} {pc : Nat} {ls : Array Slot} {rest : List Value} {nL : Nat} {own : String} {D : va_G} {σ : St} {cI cZ : ClassId} {ad : Nat → Nat} {index : Nat} {k : Nat} {i v : Int} (hD : ∀ τ, va_D (AD ad 45) (wsX cI ad τ)) (hk : k < 18) (hi : 0 ≤ i ∧ i < lenX k) (J : Jx p m c cc nL s args own D [(cI, .int), (cZ, .boolean)] (AD ad 45) (wsX cI ad)) (hw : jW D (AD ad 45) s.heap (wsX cI ad σ) H locs) (hsz : ls.size = nL) (hlk : Cond.methodLink own index yX2_put ∈ TBw) (hR : 1 ≤ R.frames ∧ 23 ≤ R.locals) (hroom : (rest.map fun v => v.category).sum ≤ 8) (hdg : decode cc pc = .ok (.invokevirtual index, 3)) (kk : ∀ (H1 : Heap) (locs1 : List Loc), jW D (AD ad 45) s.heap (wsX cI ad (st σ k i v)) H1 locs1 → W p l e R s m args below meth c H1 locs1 0 0 Q (F0 m (pc + 3) ls (.int (I (σ k i)) :: rest))) : W p l e R s m args below meth c H locs 0 0 Q (F0 m pc ls (.int (I v) :: .int (I i) :: .ref (ad (9 + 2 * k)) :: rest)) := 
  j_callVi J hw (c_X2_put (k := k) hD hk hi) hlk in_X2_put se_X2_put ini_X2 co_X2_put (n := 2) (by decide +kernel) ⟨rfl, rfl, hR.1, hR.2⟩ (j := 9 + 2 * k) (ci := 2) (wsX_num hk) rfl rfl rfl hroom hsz ⟨Nat.zero_le _, Nat.zero_le _⟩ rfl hdg (fun r τ H1 locs1 hp hw1 => by obtain ⟨rfl, rfl⟩ := hp; exact kk H1 locs1 hw1)
def rm_X2_add : Room := { frames := 1, cells := 0, slots := 0, locals := 23 }
set_option maxHeartbeats 4000000 in
set_option maxRecDepth 100000 in
theorem c_X2_add {l : Launch} {D : va_G} {cI cZ : ClassId} {ad : Nat → Nat} {σ : St} {k : Nat} {i v : Int} (hD : ∀ τ, va_D (AD ad 45) (wsX cI ad τ)) (hk : k < 18) (hi : 0 ≤ i ∧ i < lenX k) : JMv l yX2_add cX2_add 3 rm_X2_add D [(cI, .int), (cZ, .boolean)] (AD ad 45) (wsX cI ad) [.ref (ad (9 + 2 * k)), .int (I i), .int (I v)] σ (fun τ => τ = st σ k i (σ k i + v)) := by
  refine JMv.of RX2 (by decide +kernel) rfl (Nat.le_of_ble_eq_true rfl) hD ?_
  intro p e s m args below meth c Q J fin H ls hw hl
  generalize ([] : List Loc) = locs at hw ⊢
  have hl : lv_has ls 3 [(0, .ref (ad (9 + 2 * k))), (1, .int (I i)), (2, .int (I v))] := hl
  have hlen := lenX_lt hk
  refine j_aload_n J dX2_add_0 rfl (lv_at hl 0 rfl) ?_
  refine j_iload_n J dX2_add_1 rfl (lv_at hl 1 rfl) ?_
  refine j_aload_n J dX2_add_2 rfl (lv_at hl 0 rfl) ?_
  refine j_iload_n J dX2_add_3 rfl (lv_at hl 1 rfl) ?_
  refine k_X2_get (k := k) (i := i) hD hk hi J hw hl.1 lk_X2_19 ⟨Nat.le_of_ble_eq_true rfl, Nat.le_of_ble_eq_true rfl⟩ (Nat.le_of_ble_eq_true rfl) dX2_add_4 (fun H locs hw => ?_)
  refine j_iload_n J dX2_add_7 rfl (lv_at hl 2 rfl) ?_
  refine j_iadd J dX2_add_8 ?_
  refine k_X2_put (k := k) (i := i) (v := (σ k i) + v) hD hk hi J hw hl.1 lk_X2_23 ⟨Nat.le_of_ble_eq_true rfl, Nat.le_of_ble_eq_true rfl⟩ (Nat.le_of_ble_eq_true rfl) dX2_add_9 (fun H locs hw => ?_)
  refine j_pop J dX2_add_12 rfl ?_
  exact fin _ _ _ _ _ dX2_add_13 (rfl) hw
theorem k_X2_add {p : Program} {l : Launch} {e : Env} {R : Room} {s : State} {m : MethodId} {args : Array Value} {below : List Frame} {meth : Method} {c : Code} {H : Heap} {locs : List Loc} {Q : State → Prop} {cc : ByteArray} {pc : Nat} {ls : Array Slot} {rest : List Value} {nL : Nat} {own : String} {D : va_G} {σ : St} {cI cZ : ClassId} {ad : Nat → Nat} {index : Nat} {k : Nat} {i v : Int} (hD : ∀ τ, va_D (AD ad 45) (wsX cI ad τ)) (hk : k < 18) (hi : 0 ≤ i ∧ i < lenX k) (J : Jx p m c cc nL s args own D [(cI, .int), (cZ, .boolean)] (AD ad 45) (wsX cI ad)) (hw : jW D (AD ad 45) s.heap (wsX cI ad σ) H locs) (hsz : ls.size = nL) (hlk : Cond.methodLink own index yX2_add ∈ TBw) (hR : 2 ≤ R.frames ∧ 45 ≤ R.locals) (hroom : (rest.map fun v => v.category).sum ≤ 8) (hdg : decode cc pc = .ok (.invokevirtual index, 3)) (kk : ∀ (H1 : Heap) (locs1 : List Loc), jW D (AD ad 45) s.heap (wsX cI ad (st σ k i (σ k i + v))) H1 locs1 → W p l e R s m args below meth c H1 locs1 0 0 Q (F0 m (pc + 3) ls rest)) : W p l e R s m args below meth c H locs 0 0 Q (F0 m pc ls (.int (I v) :: .int (I i) :: .ref (ad (9 + 2 * k)) :: rest)) := 
  j_callVv J hw (c_X2_add (k := k) hD hk hi) hlk in_X2_add se_X2_add ini_X2 co_X2_add (n := 2) (by decide +kernel) ⟨rfl, rfl, hR.1, hR.2⟩ (j := 9 + 2 * k) (ci := 2) (wsX_num hk) rfl rfl rfl hroom hsz ⟨Nat.zero_le _, Nat.zero_le _⟩ rfl hdg (fun τ H1 locs1 hp hw1 => by subst hp; exact kk H1 locs1 hw1)
def rm_X2_fill : Room := { frames := 0, cells := 0, slots := 0, locals := 0 }
set_option maxHeartbeats 4000000 in
set_option maxRecDepth 100000 in
theorem c_X2_fill {l : Launch} {D : va_G} {cI cZ : ClassId} {ad : Nat → Nat} {σ : St} {k : Nat} {v : Int} (hD : ∀ τ, va_D (AD ad 45) (wsX cI ad τ)) (hk : k < 18) : JMv l yX2_fill cX2_fill 3 rm_X2_fill D [(cI, .int), (cZ, .boolean)] (AD ad 45) (wsX cI ad) [.ref (ad (9 + 2 * k)), .int (I v)] σ (fun τ => τ = fl σ k v (lenX k)) := by
  refine JMv.of RX2 (by decide +kernel) rfl (Nat.le_of_ble_eq_true rfl) hD ?_
  intro p e s m args below meth c Q J fin H ls hw hl
  generalize ([] : List Loc) = locs at hw ⊢
  have hl : lv_has ls 3 [(0, .ref (ad (9 + 2 * k))), (1, .int (I v))] := hl
  have hlen := lenX_lt hk
  refine j_iconst J (0) dX2_fill_0 ?_
  refine j_istore_n J (lv' := [(2, .int (I 0)), (0, .ref (ad (9 + 2 * k))), (1, .int (I v))]) hl dX2_fill_1 rfl (by decide) rfl (fun ls hl => ?_)
  have L2 : ∀ n : Nat, ∀ (i : Int), (0 ≤ i) → (i ≤ lenX k) → (((lenX k : Int) - i).toNat) < n → ∀ (H : Heap) (locs : List Loc) (ls : Array Slot), jW D (AD ad 45) s.heap (wsX cI ad (fl σ k v i)) H locs → lv_has ls 3 [(2, .int (I i)), (0, .ref (ad (9 + 2 * k))), (1, .int (I v))] → W p l e rm_X2_fill s m args below meth c H locs 0 0 Q (F0 m 2 ls []) := by
    intro n
    induction n with
    | zero =>
      intro i hi0 hi1 hm H locs ls hw hl
      exact absurd hm (Nat.not_lt_zero _)
    | succ n ih =>
      intro i hi0 hi1 hm H locs ls hw hl
      have ih2 := ih
      refine j_iload_n J dX2_fill_2 rfl (lv_at hl 0 rfl) ?_
      refine j_aload_n J dX2_fill_3 rfl (lv_at hl 1 rfl) ?_
      refine xg_num (k := k) hk J hw lk_X2_13 dX2_fill_4 ?_
      refine xa_len hk J hw dX2_fill_7 ?_
      refine j_icmp_ge J 24 (by unfold rg; omega) (by unfold rg; omega) dX2_fill_8 (by decide) (fun (h_1 : ((lenX k : Nat) : Int) ≤ i) => ?_) (fun (h_1 : i < ((lenX k : Nat) : Int)) => ?_)
      · exact fin _ _ _ _ _ dX2_fill_24 (by rw [show i = ((lenX k : Nat) : Int) by omega]) hw
      · refine j_aload_n J dX2_fill_11 rfl (lv_at hl 1 rfl) ?_
        refine xg_num (k := k) hk J hw lk_X2_13 dX2_fill_12 ?_
        refine j_iload_n J dX2_fill_15 rfl (lv_at hl 0 rfl) ?_
        refine j_iload_n J dX2_fill_16 rfl (lv_at hl 2 rfl) ?_
        refine xa_st hk J hw (by omega) dX2_fill_17 (fun H locs hw => ?_)
        refine j_iinc J (lv' := [(2, .int (I (i + 1))), (0, .ref (ad (9 + 2 * k))), (1, .int (I v))]) (k := 0) hl dX2_fill_18 rfl (by decide) rfl (fun ls hl => ?_)
        refine j_goto J 2 dX2_fill_21 (by decide) ?_
        exact ih2 (i + 1) (by omega) (by omega) (by omega) _ _ _ (by rw [← fl_step hi0]; exact hw) (lv_sub hl [0, 1, 2] rfl)
  exact L2 _ 0 (by omega) (by omega) (Nat.lt_succ_self _) _ _ _ (by rw [fl_0]; exact hw) (lv_sub hl [0, 1, 2] rfl)
theorem k_X2_fill {p : Program} {l : Launch} {e : Env} {R : Room} {s : State} {m : MethodId} {args : Array Value} {below : List Frame} {meth : Method} {c : Code} {H : Heap} {locs : List Loc} {Q : State → Prop} {cc : ByteArray} {pc : Nat} {ls : Array Slot} {rest : List Value} {nL : Nat} {own : String} {D : va_G} {σ : St} {cI cZ : ClassId} {ad : Nat → Nat} {index : Nat} {k : Nat} {v : Int} (hD : ∀ τ, va_D (AD ad 45) (wsX cI ad τ)) (hk : k < 18) (J : Jx p m c cc nL s args own D [(cI, .int), (cZ, .boolean)] (AD ad 45) (wsX cI ad)) (hw : jW D (AD ad 45) s.heap (wsX cI ad σ) H locs) (hsz : ls.size = nL) (hlk : Cond.methodLink own index yX2_fill ∈ TBw) (hR : 1 ≤ R.frames ∧ 22 ≤ R.locals) (hroom : (rest.map fun v => v.category).sum ≤ 8) (hdg : decode cc pc = .ok (.invokevirtual index, 3)) (kk : ∀ (H1 : Heap) (locs1 : List Loc), jW D (AD ad 45) s.heap (wsX cI ad (fl σ k v (lenX k))) H1 locs1 → W p l e R s m args below meth c H1 locs1 0 0 Q (F0 m (pc + 3) ls rest)) : W p l e R s m args below meth c H locs 0 0 Q (F0 m pc ls (.int (I v) :: .ref (ad (9 + 2 * k)) :: rest)) := 
  j_callVv J hw (c_X2_fill (k := k) hD hk) hlk in_X2_fill se_X2_fill ini_X2 co_X2_fill (n := 1) (by decide +kernel) ⟨rfl, rfl, hR.1, hR.2⟩ (j := 9 + 2 * k) (ci := 2) (wsX_num hk) rfl rfl rfl hroom hsz ⟨Nat.zero_le _, Nat.zero_le _⟩ rfl hdg (fun τ H1 locs1 hp hw1 => by subst hp; exact kk H1 locs1 hw1)
