def rm_X9_endHour : Room := { frames := 4, cells := 0, slots := 0, locals := 96 }
set_option maxHeartbeats 4000000 in
set_option maxRecDepth 100000 in
theorem c_X9_endHour {l : Launch} {D : va_G} {cI cZ : ClassId} {ad : Nat → Nat} {σ : St}  (hD : ∀ τ, va_D (AD ad 45) (wsX cI ad τ)) (hB : Bd σ) (hn : σ 18 7 < 5000) : JMv l yX9_endHour cX9_endHour 1 rm_X9_endHour D [(cI, .int), (cZ, .boolean)] (AD ad 45) (wsX cI ad) [.ref (ad 0)] σ (fun τ => Eqp τ (hrS σ) ∧ KS σ τ) := by
  refine JMv.of RX9 (by decide +kernel) rfl (Nat.le_of_ble_eq_true rfl) hD ?_
  intro p e s m args below meth c Q J fin H ls hw hl
  generalize ([] : List Loc) = locs at hw ⊢
  have hl : lv_has ls 1 [(0, .ref (ad 0))] := hl
  have hh := hB.hour
  have hB1 := Bd_hour (h := σ 18 7 + 1) hB (by omega)
  refine j_aload_n J dX9_endHour_0 rfl (lv_at hl 0 rfl) ?_
  refine j_dup J dX9_endHour_1 rfl ?_
  refine xg_9_9 J hw lk_X9_162 dX9_endHour_2 ?_
  refine j_iconst J (1) dX9_endHour_5 ?_
  refine j_iadd J dX9_endHour_6 ?_
  refine xs_9_9 J hw lk_X9_162 dX9_endHour_7 (fun H locs hw => ?_)
  refine j_aload_n J dX9_endHour_10 rfl (lv_at hl 0 rfl) ?_
  refine xg_9_2 J hw lk_X9_28 dX9_endHour_11 ?_
  refine j_aload_n J dX9_endHour_14 rfl (lv_at hl 0 rfl) ?_
  refine xg_9_1 J hw lk_X9_21 dX9_endHour_15 ?_
  refine j_aload_n J dX9_endHour_18 rfl (lv_at hl 0 rfl) ?_
  refine xg_9_0 J hw lk_X9_14 dX9_endHour_19 ?_
  refine j_iconst J (4) dX9_endHour_22 ?_
  refine k_X2_get (k := 0) (i := 4) (σ := st σ 18 7 ((σ 18 7) + 1)) hD (by decide) (show 0 ≤ 4 ∧ 4 < ((5 : Nat) : Int) from by omega) J hw hl.1 lk_X9_118 ⟨Nat.le_of_ble_eq_true rfl, Nat.le_of_ble_eq_true rfl⟩ (Nat.le_of_ble_eq_true rfl) dX9_endHour_23 (fun H locs hw => ?_)
  refine k_X0_drift (σ := st σ 18 7 ((σ 18 7) + 1)) hD (show Bd (st σ 18 7 ((σ 18 7) + 1)) from hB1) J hw hl.1 lk_X9_276 ⟨Nat.le_of_ble_eq_true rfl, Nat.le_of_ble_eq_true rfl⟩ (Nat.le_of_ble_eq_true rfl) dX9_endHour_26 (fun τ1 H locs hp1 hw => ?_)
  have hB2 := (Bd_dr hB1).eqp hp1.1
  have e7 : τ1 18 7 = σ 18 7 + 1 := qs hp1.1 7 (by decide)
  have e6 : τ1 18 6 = σ 18 6 := qs hp1.1 6 (by decide)
  have hE1 : Eqp (wtS τ1 (τ1 18 6)) (wtS (drE (st σ 18 7 (σ 18 7 + 1))) (σ 18 6)) := by rw [e6]; exact wtS_eqp hp1.1 _
  have hK1 : KS σ (wtS τ1 (τ1 18 6)) := fun i hi => (hp1.2 i hi).trans ((KS.st (σ := σ) (k := 18) (j := 7) (v := σ 18 7 + 1) (fun _ _ => rfl) (Or.inr (by decide))) i hi)
  refine j_aload_n J dX9_endHour_29 rfl (lv_at hl 0 rfl) ?_
  refine xg_9_7 J hw lk_X9_63 dX9_endHour_30 ?_
  refine j_aload_n J dX9_endHour_33 rfl (lv_at hl 0 rfl) ?_
  refine xg_9_2 J hw lk_X9_28 dX9_endHour_34 ?_
  refine k_X4_watch (σ := τ1) hD (show Bd τ1 from hB2) J hw hl.1 lk_X9_280 ⟨Nat.le_of_ble_eq_true rfl, Nat.le_of_ble_eq_true rfl⟩ (Nat.le_of_ble_eq_true rfl) dX9_endHour_37 (fun H locs hw => ?_)
  refine j_aload_n J dX9_endHour_40 rfl (lv_at hl 0 rfl) ?_
  refine xg_9_9 J hw lk_X9_162 dX9_endHour_41 ?_
  refine j_bipush J (24) dX9_endHour_44 (by decide) ?_
  refine j_irem J (show 0 ≤ τ1 18 7 ∧ (τ1 18 7) < 2147483648 ∧ 0 < 24 ∧ 24 < 2147483648 from by omega) dX9_endHour_46 ?_
  refine j_if_ne J 57 (show rg ((τ1 18 7) % 24) by unfold rg; omega) dX9_endHour_47 (by decide) (fun (h_4 : ¬ ((τ1 18 7) % 24) = 0) => ?_) (fun (h_4 : ((τ1 18 7) % 24) = 0) => ?_)
  · exact fin _ _ _ _ _ dX9_endHour_57 (by unfold hrS; first | (rw [if_neg (by omega)]; exact ⟨hE1, hK1⟩) | (rw [if_pos (by omega)]; refine ⟨hp2.1.tr ?_, fun i hi => (hp2.2 i hi).trans (hK1 i hi)⟩; have e0 : τ1 18 0 = σ 18 0 := qs hp1.1 0 (by decide); have e1 : τ1 18 1 = σ 18 1 := qs hp1.1 1 (by decide); show Eqp (silS (wtS τ1 (τ1 18 6)) (τ1 18 0 * τ1 18 1)) _; rw [e0, e1]; exact silS_eqp hE1 _)) hw
  · refine j_aload_n J dX9_endHour_50 rfl (lv_at hl 0 rfl) ?_
    refine xg_9_1 J hw lk_X9_21 dX9_endHour_51 ?_
    refine k_X1_siltUp (σ := wtS τ1 (τ1 18 6)) hD (show Bd (wtS τ1 (τ1 18 6)) from Bd_wt _ hB2) J hw hl.1 lk_X9_284 ⟨Nat.le_of_ble_eq_true rfl, Nat.le_of_ble_eq_true rfl⟩ (Nat.le_of_ble_eq_true rfl) dX9_endHour_54 (fun τ2 H locs hp2 hw => ?_)
    exact fin _ _ _ _ _ dX9_endHour_57 (by unfold hrS; first | (rw [if_neg (by omega)]; exact ⟨hE1, hK1⟩) | (rw [if_pos (by omega)]; refine ⟨hp2.1.tr ?_, fun i hi => (hp2.2 i hi).trans (hK1 i hi)⟩; have e0 : τ1 18 0 = σ 18 0 := qs hp1.1 0 (by decide); have e1 : τ1 18 1 = σ 18 1 := qs hp1.1 1 (by decide); show Eqp (silS (wtS τ1 (τ1 18 6)) (τ1 18 0 * τ1 18 1)) _; rw [e0, e1]; exact silS_eqp hE1 _)) hw
theorem k_X9_endHour {p : Program} {l : Launch} {e : Env} {R : Room} {s : State} {m : MethodId} {args : Array Value} {below : List Frame} {meth : Method} {c : Code} {H : Heap} {locs : List Loc} {Q : State → Prop} {cc : ByteArray} {pc : Nat} {ls : Array Slot} {rest : List Value} {nL : Nat} {own : String} {D : va_G} {σ : St} {cI cZ : ClassId} {ad : Nat → Nat} {index : Nat}  (hD : ∀ τ, va_D (AD ad 45) (wsX cI ad τ)) (hB : Bd σ) (hn : σ 18 7 < 5000) (J : Jx p m c cc nL s args own D [(cI, .int), (cZ, .boolean)] (AD ad 45) (wsX cI ad)) (hw : jW D (AD ad 45) s.heap (wsX cI ad σ) H locs) (hsz : ls.size = nL) (hlk : Cond.methodLink own index yX9_endHour ∈ TBw) (hR : 5 ≤ R.frames ∧ 116 ≤ R.locals) (hroom : (rest.map fun v => v.category).sum ≤ 8) (hdg : decode cc pc = .ok (.invokevirtual index, 3)) (kk : ∀ (τ : St) (H1 : Heap) (locs1 : List Loc), (fun τ => Eqp τ (hrS σ) ∧ KS σ τ) τ → jW D (AD ad 45) s.heap (wsX cI ad τ) H1 locs1 → W p l e R s m args below meth c H1 locs1 0 0 Q (F0 m (pc + 3) ls rest)) : W p l e R s m args below meth c H locs 0 0 Q (F0 m pc ls (.ref (ad 0) :: rest)) := 
  j_callVv J hw (c_X9_endHour  hD hB hn) hlk in_X9_endHour se_X9_endHour ini_X9 co_X9_endHour (n := 0) (by decide +kernel) ⟨rfl, rfl, hR.1, hR.2⟩ (j := 0) (ci := 9) rfl rfl rfl rfl hroom hsz ⟨Nat.zero_le _, Nat.zero_le _⟩ rfl hdg kk
def rm_X9_passHours : Room := { frames := 5, cells := 0, slots := 0, locals := 116 }
set_option maxHeartbeats 4000000 in
set_option maxRecDepth 100000 in
theorem c_X9_passHours {l : Launch} {D : va_G} {cI cZ : ClassId} {ad : Nat → Nat} {σ : St} {nh : Int} (hD : ∀ τ, va_D (AD ad 45) (wsX cI ad τ)) (hB : Bd σ) (hn : 0 ≤ nh ∧ σ 18 7 + nh ≤ 5000) : JMv l yX9_passHours cX9_passHours 3 rm_X9_passHours D [(cI, .int), (cZ, .boolean)] (AD ad 45) (wsX cI ad) [.ref (ad 0), .int (I nh)] σ (fun τ => Eqp τ (hrN σ nh) ∧ KS σ τ) := by
  refine JMv.of RX9 (by decide +kernel) rfl (Nat.le_of_ble_eq_true rfl) hD ?_
  intro p e s m args below meth c Q J fin H ls hw hl
  generalize ([] : List Loc) = locs at hw ⊢
  have hl : lv_has ls 3 [(0, .ref (ad 0)), (1, .int (I nh))] := hl
  have hh := hB.hour
  refine j_iconst J (0) dX9_passHours_0 ?_
  refine j_istore_n J (lv' := [(2, .int (I 0)), (0, .ref (ad 0)), (1, .int (I nh))]) hl dX9_passHours_1 rfl (by decide) rfl (fun ls hl => ?_)
  have L2 : ∀ n : Nat, ∀ (τ : St) (i : Int), (0 ≤ i ∧ i ≤ nh) → (Eqp τ (hrN σ i)) → (KS σ τ) → ((nh - i).toNat) < n → ∀ (H : Heap) (locs : List Loc) (ls : Array Slot), jW D (AD ad 45) s.heap (wsX cI ad τ) H locs → lv_has ls 3 [(2, .int (I i)), (0, .ref (ad 0)), (1, .int (I nh))] → W p l e rm_X9_passHours s m args below meth c H locs 0 0 Q (F0 m 2 ls []) := by
    intro n
    induction n with
    | zero =>
      intro τ i hi0 hE hK hm H locs ls hw hl
      exact absurd hm (Nat.not_lt_zero _)
    | succ n ih =>
      intro τ i hi0 hE hK hm H locs ls hw hl
      have ih2 := ih
      refine j_iload_n J dX9_passHours_2 rfl (lv_at hl 0 rfl) ?_
      refine j_iload_n J dX9_passHours_3 rfl (lv_at hl 2 rfl) ?_
      refine j_icmp_ge J 17 (show rg i by unfold rg; omega) (show rg nh by unfold rg; omega) dX9_passHours_4 (by decide) (fun (h_1 : nh ≤ i) => ?_) (fun (h_1 : i < nh) => ?_)
      · exact fin _ _ _ _ _ dX9_passHours_17 (by rw [show nh = i by omega]; exact ⟨hE, hK⟩) hw
      · have hf := hrN_facts hB hi0.1 (show σ 18 7 + i ≤ 5000 by omega)
        have e7 : τ 18 7 = σ 18 7 + i := by rw [qs hE 7 (by decide)]; exact hf.2.1
        refine j_aload_n J dX9_passHours_7 rfl (lv_at hl 1 rfl) ?_
        refine k_X9_endHour (σ := τ) hD (show Bd τ from hf.1.eqp hE) (show τ 18 7 < 5000 from by omega) J hw hl.1 lk_X9_273 ⟨Nat.le_of_ble_eq_true rfl, Nat.le_of_ble_eq_true rfl⟩ (Nat.le_of_ble_eq_true rfl) dX9_passHours_8 (fun τ1 H locs hp1 hw => ?_)
        refine j_iinc J (lv' := [(2, .int (I (i + 1))), (0, .ref (ad 0)), (1, .int (I nh))]) (k := 0) hl dX9_passHours_11 rfl (by decide) rfl (fun ls hl => ?_)
        refine j_goto J 2 dX9_passHours_14 (by decide) ?_
        exact ih2 τ1 (i + 1) (by omega) (by rw [hrN_step hi0.1]; exact hp1.1.tr (hrS_eqp hE)) (fun j hj => (hp1.2 j hj).trans (hK j hj)) (by omega) _ _ _ hw (lv_sub hl [0, 1, 2] rfl)
  exact L2 _ σ 0 (by omega) (Eqp.rf) (fun _ _ => rfl) (Nat.lt_succ_self _) _ _ _ hw (lv_sub hl [0, 1, 2] rfl)
theorem k_X9_passHours {p : Program} {l : Launch} {e : Env} {R : Room} {s : State} {m : MethodId} {args : Array Value} {below : List Frame} {meth : Method} {c : Code} {H : Heap} {locs : List Loc} {Q : State → Prop} {cc : ByteArray} {pc : Nat} {ls : Array Slot} {rest : List Value} {nL : Nat} {own : String} {D : va_G} {σ : St} {cI cZ : ClassId} {ad : Nat → Nat} {index : Nat} {nh : Int} (hD : ∀ τ, va_D (AD ad 45) (wsX cI ad τ)) (hB : Bd σ) (hn : 0 ≤ nh ∧ σ 18 7 + nh ≤ 5000) (J : Jx p m c cc nL s args own D [(cI, .int), (cZ, .boolean)] (AD ad 45) (wsX cI ad)) (hw : jW D (AD ad 45) s.heap (wsX cI ad σ) H locs) (hsz : ls.size = nL) (hlk : Cond.methodLink own index yX9_passHours ∈ TBw) (hR : 6 ≤ R.frames ∧ 138 ≤ R.locals) (hroom : (rest.map fun v => v.category).sum ≤ 8) (hdg : decode cc pc = .ok (.invokevirtual index, 3)) (kk : ∀ (τ : St) (H1 : Heap) (locs1 : List Loc), (fun τ => Eqp τ (hrN σ nh) ∧ KS σ τ) τ → jW D (AD ad 45) s.heap (wsX cI ad τ) H1 locs1 → W p l e R s m args below meth c H1 locs1 0 0 Q (F0 m (pc + 3) ls rest)) : W p l e R s m args below meth c H locs 0 0 Q (F0 m pc ls (.int (I nh) :: .ref (ad 0) :: rest)) := 
  j_callVv J hw (c_X9_passHours  hD hB hn) hlk in_X9_passHours se_X9_passHours ini_X9 co_X9_passHours (n := 1) (by decide +kernel) ⟨rfl, rfl, hR.1, hR.2⟩ (j := 0) (ci := 9) rfl rfl rfl rfl hroom hsz ⟨Nat.zero_le _, Nat.zero_le _⟩ rfl hdg kk
def rm_X9_homeHour : Room := { frames := 2, cells := 0, slots := 0, locals := 44 }
set_option maxHeartbeats 4000000 in
set_option maxRecDepth 100000 in
theorem c_X9_homeHour {l : Launch} {D : va_G} {cI cZ : ClassId} {ad : Nat → Nat} {σ : St} {ld aw : Int} (hD : ∀ τ, va_D (AD ad 45) (wsX cI ad τ)) (hB : Bd σ) (hl : 0 ≤ ld ∧ ld ≤ 200) (ha : 1 ≤ aw ∧ aw ≤ 20) : JMi l yX9_homeHour cX9_homeHour 6 (some .int) rm_X9_homeHour D [(cI, .int), (cZ, .boolean)] (AD ad 45) (wsX cI ad) [.ref (ad 0), .int (I ld), .int (I aw)] σ (fun r τ => r = (hhS σ ld aw) ∧ τ = σ) := by
  refine JMi.of RX9 (by decide +kernel) rfl (Nat.le_of_ble_eq_true rfl) hD ?_
  intro p e s m args below meth c Q J fin H ls hw hl
  generalize ([] : List Loc) = locs at hw ⊢
  have hl : lv_has ls 6 [(0, .ref (ad 0)), (1, .int (I ld)), (2, .int (I aw))] := hl
  have o1 := hB.rule 1 (by decide) (by decide); have o2 := hB.rule 2 (by decide) (by decide); have o3 := hB.rule 3 (by decide) (by decide); have hh := hB.hour
  have g1 := feN_rng (σ := σ) (h := σ 0 2 - σ 0 1) 12 (σ 18 7 + 1); have g2 := feN_rng (σ := σ) (h := σ 0 3 - σ 0 1) 12 (σ 18 7 + 1)
  refine j_aload_n J dX9_homeHour_0 rfl (lv_at hl 0 rfl) ?_
  refine xg_9_0 J hw lk_X9_14 dX9_homeHour_1 ?_
  refine j_iload_n J dX9_homeHour_4 rfl (lv_at hl 1 rfl) ?_
  refine j_if_ne J 12 (show rg ld by unfold rg; omega) dX9_homeHour_5 (by decide) (fun (h_1 : ¬ ld = 0) => ?_) (fun (h_1 : ld = 0) => ?_)
  · refine j_iconst J (3) dX9_homeHour_12 ?_
    refine k_X2_get (k := 0) (i := 3) (σ := σ) hD (by decide) (show 0 ≤ 3 ∧ 3 < ((5 : Nat) : Int) from by omega) J hw hl.1 lk_X9_118 ⟨Nat.le_of_ble_eq_true rfl, Nat.le_of_ble_eq_true rfl⟩ (Nat.le_of_ble_eq_true rfl) dX9_homeHour_13 (fun H locs hw => ?_)
    refine j_istore_n J (lv' := [(3, .int (I (σ 0 3))), (0, .ref (ad 0)), (1, .int (I ld)), (2, .int (I aw))]) hl dX9_homeHour_16 rfl (by decide) rfl (fun ls hl => ?_)
    refine j_aload_n J dX9_homeHour_17 rfl (lv_at hl 1 rfl) ?_
    refine xg_9_3 J hw lk_X9_35 dX9_homeHour_18 ?_
    refine j_aload_n J dX9_homeHour_21 rfl (lv_at hl 1 rfl) ?_
    refine xg_9_9 J hw lk_X9_162 dX9_homeHour_22 ?_
    refine j_iconst J (1) dX9_homeHour_25 ?_
    refine j_iadd J dX9_homeHour_26 ?_
    refine j_iload_n J dX9_homeHour_27 rfl (lv_at hl 0 rfl) ?_
    refine j_aload_n J dX9_homeHour_28 rfl (lv_at hl 1 rfl) ?_
    refine xg_9_0 J hw lk_X9_14 dX9_homeHour_29 ?_
    refine j_iconst J (1) dX9_homeHour_32 ?_
    refine k_X2_get (k := 0) (i := 1) (σ := σ) hD (by decide) (show 0 ≤ 1 ∧ 1 < ((5 : Nat) : Int) from by omega) J hw hl.1 lk_X9_118 ⟨Nat.le_of_ble_eq_true rfl, Nat.le_of_ble_eq_true rfl⟩ (Nat.le_of_ble_eq_true rfl) dX9_homeHour_33 (fun H locs hw => ?_)
    refine j_isub J dX9_homeHour_36 ?_
    refine k_X8_firstEnough (a := (σ 18 7) + 1) (h := (σ 0 3) - (σ 0 1)) (σ := σ) hD (show Bd σ from hB) (show 0 ≤ ((σ 18 7) + 1) ∧ ((σ 18 7) + 1) ≤ 10000 from by omega) (show -1000 ≤ ((σ 0 3) - (σ 0 1)) ∧ ((σ 0 3) - (σ 0 1)) ≤ 1000 from by omega) J hw hl.1 lk_X9_252 ⟨Nat.le_of_ble_eq_true rfl, Nat.le_of_ble_eq_true rfl⟩ (Nat.le_of_ble_eq_true rfl) dX9_homeHour_37 (fun H locs hw => ?_)
    refine j_istore J (lv' := [(4, .int (I (feN σ ((σ 0 3) - (σ 0 1)) 12 ((σ 18 7) + 1)))), (3, .int (I (σ 0 3))), (0, .ref (ad 0)), (1, .int (I ld)), (2, .int (I aw))]) hl dX9_homeHour_40 (by decide) rfl (fun ls hl => ?_)
    refine j_iload J dX9_homeHour_42 (lv_at hl 0 rfl) ?_
    refine j_iconst J (-1) dX9_homeHour_44 ?_
    refine j_icmp_ne J 50 (show rg (feN σ ((σ 0 3) - (σ 0 1)) 12 ((σ 18 7) + 1)) by unfold rg; omega) (by unfold rg; omega) dX9_homeHour_45 (by decide) (fun (h_2 : ¬ (feN σ ((σ 0 3) - (σ 0 1)) 12 ((σ 18 7) + 1)) = (-1)) => ?_) (fun (h_2 : (feN σ ((σ 0 3) - (σ 0 1)) 12 ((σ 18 7) + 1)) = (-1)) => ?_)
    · refine j_aload_n J dX9_homeHour_50 rfl (lv_at hl 2 rfl) ?_
      refine xg_9_3 J hw lk_X9_35 dX9_homeHour_51 ?_
      refine j_iload J dX9_homeHour_54 (lv_at hl 0 rfl) ?_
      refine j_iload_n J dX9_homeHour_56 rfl (lv_at hl 4 rfl) ?_
      refine j_iadd J dX9_homeHour_57 ?_
      refine j_aload_n J dX9_homeHour_58 rfl (lv_at hl 2 rfl) ?_
      refine xg_9_0 J hw lk_X9_14 dX9_homeHour_59 ?_
      refine j_iconst J (2) dX9_homeHour_62 ?_
      refine k_X2_get (k := 0) (i := 2) (σ := σ) hD (by decide) (show 0 ≤ 2 ∧ 2 < ((5 : Nat) : Int) from by omega) J hw hl.1 lk_X9_118 ⟨Nat.le_of_ble_eq_true rfl, Nat.le_of_ble_eq_true rfl⟩ (Nat.le_of_ble_eq_true rfl) dX9_homeHour_63 (fun H locs hw => ?_)
      refine j_aload_n J dX9_homeHour_66 rfl (lv_at hl 2 rfl) ?_
      refine xg_9_0 J hw lk_X9_14 dX9_homeHour_67 ?_
      refine j_iconst J (1) dX9_homeHour_70 ?_
      refine k_X2_get (k := 0) (i := 1) (σ := σ) hD (by decide) (show 0 ≤ 1 ∧ 1 < ((5 : Nat) : Int) from by omega) J hw hl.1 lk_X9_118 ⟨Nat.le_of_ble_eq_true rfl, Nat.le_of_ble_eq_true rfl⟩ (Nat.le_of_ble_eq_true rfl) dX9_homeHour_71 (fun H locs hw => ?_)
      refine j_isub J dX9_homeHour_74 ?_
      refine k_X8_firstEnough (a := (feN σ ((σ 0 3) - (σ 0 1)) 12 ((σ 18 7) + 1)) + aw) (h := (σ 0 2) - (σ 0 1)) (σ := σ) hD (show Bd σ from hB) (show 0 ≤ ((feN σ ((σ 0 3) - (σ 0 1)) 12 ((σ 18 7) + 1)) + aw) ∧ ((feN σ ((σ 0 3) - (σ 0 1)) 12 ((σ 18 7) + 1)) + aw) ≤ 10000 from by omega) (show -1000 ≤ ((σ 0 2) - (σ 0 1)) ∧ ((σ 0 2) - (σ 0 1)) ≤ 1000 from by omega) J hw hl.1 lk_X9_252 ⟨Nat.le_of_ble_eq_true rfl, Nat.le_of_ble_eq_true rfl⟩ (Nat.le_of_ble_eq_true rfl) dX9_homeHour_75 (fun H locs hw => ?_)
      have g3 := feN_rng (σ := σ) (h := σ 0 2 - σ 0 1) 12 ((feN σ ((σ 0 3) - (σ 0 1)) 12 ((σ 18 7) + 1)) + aw)
      refine j_istore J (lv' := [(5, .int (I (feN σ ((σ 0 2) - (σ 0 1)) 12 ((feN σ ((σ 0 3) - (σ 0 1)) 12 ((σ 18 7) + 1)) + aw)))), (4, .int (I (feN σ ((σ 0 3) - (σ 0 1)) 12 ((σ 18 7) + 1)))), (3, .int (I (σ 0 3))), (0, .ref (ad 0)), (1, .int (I ld)), (2, .int (I aw))]) hl dX9_homeHour_78 (by decide) rfl (fun ls hl => ?_)
      refine j_iload J dX9_homeHour_80 (lv_at hl 0 rfl) ?_
      refine j_iconst J (-1) dX9_homeHour_82 ?_
      refine j_icmp_ne J 90 (show rg (feN σ ((σ 0 2) - (σ 0 1)) 12 ((feN σ ((σ 0 3) - (σ 0 1)) 12 ((σ 18 7) + 1)) + aw)) by unfold rg; omega) (by unfold rg; omega) dX9_homeHour_83 (by decide) (fun (h_3 : ¬ (feN σ ((σ 0 2) - (σ 0 1)) 12 ((feN σ ((σ 0 3) - (σ 0 1)) 12 ((σ 18 7) + 1)) + aw)) = (-1)) => ?_) (fun (h_3 : (feN σ ((σ 0 2) - (σ 0 1)) 12 ((feN σ ((σ 0 3) - (σ 0 1)) 12 ((σ 18 7) + 1)) + aw)) = (-1)) => ?_)
      · refine j_iload J dX9_homeHour_90 (lv_at hl 0 rfl) ?_
        refine j_iload_n J dX9_homeHour_92 rfl (lv_at hl 5 rfl) ?_
        refine j_iadd J dX9_homeHour_93 ?_
        exact fin _ _ _ _ _ _ dX9_homeHour_94 rfl (⟨by unfold hhS; (first | rw [if_pos (show ld = 0 by assumption)] | rw [if_neg (show ¬ ld = 0 by assumption)]); (repeat (first | rw [if_pos (by assumption)] | rw [if_neg (by assumption)])), rfl⟩) hw
      · refine j_iconst J (-1) dX9_homeHour_86 ?_
        refine j_goto J 94 dX9_homeHour_87 (by decide) ?_
        exact fin _ _ _ _ _ _ dX9_homeHour_94 rfl (⟨by unfold hhS; (first | rw [if_pos (show ld = 0 by assumption)] | rw [if_neg (show ¬ ld = 0 by assumption)]); (repeat (first | rw [if_pos (by assumption)] | rw [if_neg (by assumption)])), rfl⟩) hw
    · refine j_iconst J (-1) dX9_homeHour_48 ?_
      exact fin _ _ _ _ _ _ dX9_homeHour_49 rfl (⟨by unfold hhS; (first | rw [if_pos (show ld = 0 by assumption)] | rw [if_neg (show ¬ ld = 0 by assumption)]); (repeat (first | rw [if_pos (by assumption)] | rw [if_neg (by assumption)])), rfl⟩) hw
  · refine j_iconst J (2) dX9_homeHour_8 ?_
    refine j_goto J 13 dX9_homeHour_9 (by decide) ?_
    refine k_X2_get (k := 0) (i := 2) (σ := σ) hD (by decide) (show 0 ≤ 2 ∧ 2 < ((5 : Nat) : Int) from by omega) J hw hl.1 lk_X9_118 ⟨Nat.le_of_ble_eq_true rfl, Nat.le_of_ble_eq_true rfl⟩ (Nat.le_of_ble_eq_true rfl) dX9_homeHour_13 (fun H locs hw => ?_)
    refine j_istore_n J (lv' := [(3, .int (I (σ 0 2))), (0, .ref (ad 0)), (1, .int (I ld)), (2, .int (I aw))]) hl dX9_homeHour_16 rfl (by decide) rfl (fun ls hl => ?_)
    refine j_aload_n J dX9_homeHour_17 rfl (lv_at hl 1 rfl) ?_
    refine xg_9_3 J hw lk_X9_35 dX9_homeHour_18 ?_
    refine j_aload_n J dX9_homeHour_21 rfl (lv_at hl 1 rfl) ?_
    refine xg_9_9 J hw lk_X9_162 dX9_homeHour_22 ?_
    refine j_iconst J (1) dX9_homeHour_25 ?_
    refine j_iadd J dX9_homeHour_26 ?_
    refine j_iload_n J dX9_homeHour_27 rfl (lv_at hl 0 rfl) ?_
    refine j_aload_n J dX9_homeHour_28 rfl (lv_at hl 1 rfl) ?_
    refine xg_9_0 J hw lk_X9_14 dX9_homeHour_29 ?_
    refine j_iconst J (1) dX9_homeHour_32 ?_
    refine k_X2_get (k := 0) (i := 1) (σ := σ) hD (by decide) (show 0 ≤ 1 ∧ 1 < ((5 : Nat) : Int) from by omega) J hw hl.1 lk_X9_118 ⟨Nat.le_of_ble_eq_true rfl, Nat.le_of_ble_eq_true rfl⟩ (Nat.le_of_ble_eq_true rfl) dX9_homeHour_33 (fun H locs hw => ?_)
    refine j_isub J dX9_homeHour_36 ?_
    refine k_X8_firstEnough (a := (σ 18 7) + 1) (h := (σ 0 2) - (σ 0 1)) (σ := σ) hD (show Bd σ from hB) (show 0 ≤ ((σ 18 7) + 1) ∧ ((σ 18 7) + 1) ≤ 10000 from by omega) (show -1000 ≤ ((σ 0 2) - (σ 0 1)) ∧ ((σ 0 2) - (σ 0 1)) ≤ 1000 from by omega) J hw hl.1 lk_X9_252 ⟨Nat.le_of_ble_eq_true rfl, Nat.le_of_ble_eq_true rfl⟩ (Nat.le_of_ble_eq_true rfl) dX9_homeHour_37 (fun H locs hw => ?_)
    refine j_istore J (lv' := [(4, .int (I (feN σ ((σ 0 2) - (σ 0 1)) 12 ((σ 18 7) + 1)))), (3, .int (I (σ 0 2))), (0, .ref (ad 0)), (1, .int (I ld)), (2, .int (I aw))]) hl dX9_homeHour_40 (by decide) rfl (fun ls hl => ?_)
    refine j_iload J dX9_homeHour_42 (lv_at hl 0 rfl) ?_
    refine j_iconst J (-1) dX9_homeHour_44 ?_
    refine j_icmp_ne J 50 (show rg (feN σ ((σ 0 2) - (σ 0 1)) 12 ((σ 18 7) + 1)) by unfold rg; omega) (by unfold rg; omega) dX9_homeHour_45 (by decide) (fun (h_4 : ¬ (feN σ ((σ 0 2) - (σ 0 1)) 12 ((σ 18 7) + 1)) = (-1)) => ?_) (fun (h_4 : (feN σ ((σ 0 2) - (σ 0 1)) 12 ((σ 18 7) + 1)) = (-1)) => ?_)
    · refine j_aload_n J dX9_homeHour_50 rfl (lv_at hl 2 rfl) ?_
      refine xg_9_3 J hw lk_X9_35 dX9_homeHour_51 ?_
      refine j_iload J dX9_homeHour_54 (lv_at hl 0 rfl) ?_
      refine j_iload_n J dX9_homeHour_56 rfl (lv_at hl 4 rfl) ?_
      refine j_iadd J dX9_homeHour_57 ?_
      refine j_aload_n J dX9_homeHour_58 rfl (lv_at hl 2 rfl) ?_
      refine xg_9_0 J hw lk_X9_14 dX9_homeHour_59 ?_
      refine j_iconst J (2) dX9_homeHour_62 ?_
      refine k_X2_get (k := 0) (i := 2) (σ := σ) hD (by decide) (show 0 ≤ 2 ∧ 2 < ((5 : Nat) : Int) from by omega) J hw hl.1 lk_X9_118 ⟨Nat.le_of_ble_eq_true rfl, Nat.le_of_ble_eq_true rfl⟩ (Nat.le_of_ble_eq_true rfl) dX9_homeHour_63 (fun H locs hw => ?_)
      refine j_aload_n J dX9_homeHour_66 rfl (lv_at hl 2 rfl) ?_
      refine xg_9_0 J hw lk_X9_14 dX9_homeHour_67 ?_
      refine j_iconst J (1) dX9_homeHour_70 ?_
      refine k_X2_get (k := 0) (i := 1) (σ := σ) hD (by decide) (show 0 ≤ 1 ∧ 1 < ((5 : Nat) : Int) from by omega) J hw hl.1 lk_X9_118 ⟨Nat.le_of_ble_eq_true rfl, Nat.le_of_ble_eq_true rfl⟩ (Nat.le_of_ble_eq_true rfl) dX9_homeHour_71 (fun H locs hw => ?_)
      refine j_isub J dX9_homeHour_74 ?_
      refine k_X8_firstEnough (a := (feN σ ((σ 0 2) - (σ 0 1)) 12 ((σ 18 7) + 1)) + aw) (h := (σ 0 2) - (σ 0 1)) (σ := σ) hD (show Bd σ from hB) (show 0 ≤ ((feN σ ((σ 0 2) - (σ 0 1)) 12 ((σ 18 7) + 1)) + aw) ∧ ((feN σ ((σ 0 2) - (σ 0 1)) 12 ((σ 18 7) + 1)) + aw) ≤ 10000 from by omega) (show -1000 ≤ ((σ 0 2) - (σ 0 1)) ∧ ((σ 0 2) - (σ 0 1)) ≤ 1000 from by omega) J hw hl.1 lk_X9_252 ⟨Nat.le_of_ble_eq_true rfl, Nat.le_of_ble_eq_true rfl⟩ (Nat.le_of_ble_eq_true rfl) dX9_homeHour_75 (fun H locs hw => ?_)
      have g3 := feN_rng (σ := σ) (h := σ 0 2 - σ 0 1) 12 ((feN σ ((σ 0 2) - (σ 0 1)) 12 ((σ 18 7) + 1)) + aw)
      refine j_istore J (lv' := [(5, .int (I (feN σ ((σ 0 2) - (σ 0 1)) 12 ((feN σ ((σ 0 2) - (σ 0 1)) 12 ((σ 18 7) + 1)) + aw)))), (4, .int (I (feN σ ((σ 0 2) - (σ 0 1)) 12 ((σ 18 7) + 1)))), (3, .int (I (σ 0 2))), (0, .ref (ad 0)), (1, .int (I ld)), (2, .int (I aw))]) hl dX9_homeHour_78 (by decide) rfl (fun ls hl => ?_)
      refine j_iload J dX9_homeHour_80 (lv_at hl 0 rfl) ?_
      refine j_iconst J (-1) dX9_homeHour_82 ?_
      refine j_icmp_ne J 90 (show rg (feN σ ((σ 0 2) - (σ 0 1)) 12 ((feN σ ((σ 0 2) - (σ 0 1)) 12 ((σ 18 7) + 1)) + aw)) by unfold rg; omega) (by unfold rg; omega) dX9_homeHour_83 (by decide) (fun (h_5 : ¬ (feN σ ((σ 0 2) - (σ 0 1)) 12 ((feN σ ((σ 0 2) - (σ 0 1)) 12 ((σ 18 7) + 1)) + aw)) = (-1)) => ?_) (fun (h_5 : (feN σ ((σ 0 2) - (σ 0 1)) 12 ((feN σ ((σ 0 2) - (σ 0 1)) 12 ((σ 18 7) + 1)) + aw)) = (-1)) => ?_)
      · refine j_iload J dX9_homeHour_90 (lv_at hl 0 rfl) ?_
        refine j_iload_n J dX9_homeHour_92 rfl (lv_at hl 5 rfl) ?_
        refine j_iadd J dX9_homeHour_93 ?_
        exact fin _ _ _ _ _ _ dX9_homeHour_94 rfl (⟨by unfold hhS; (first | rw [if_pos (show ld = 0 by assumption)] | rw [if_neg (show ¬ ld = 0 by assumption)]); (repeat (first | rw [if_pos (by assumption)] | rw [if_neg (by assumption)])), rfl⟩) hw
      · refine j_iconst J (-1) dX9_homeHour_86 ?_
        refine j_goto J 94 dX9_homeHour_87 (by decide) ?_
        exact fin _ _ _ _ _ _ dX9_homeHour_94 rfl (⟨by unfold hhS; (first | rw [if_pos (show ld = 0 by assumption)] | rw [if_neg (show ¬ ld = 0 by assumption)]); (repeat (first | rw [if_pos (by assumption)] | rw [if_neg (by assumption)])), rfl⟩) hw
    · refine j_iconst J (-1) dX9_homeHour_48 ?_
      exact fin _ _ _ _ _ _ dX9_homeHour_49 rfl (⟨by unfold hhS; (first | rw [if_pos (show ld = 0 by assumption)] | rw [if_neg (show ¬ ld = 0 by assumption)]); (repeat (first | rw [if_pos (by assumption)] | rw [if_neg (by assumption)])), rfl⟩) hw
theorem k_X9_homeHour {p : Program} {l : Launch} {e : Env} {R : Room} {s : State} {m : MethodId} {args : Array Value} {below : List Frame} {meth : Method} {c : Code} {H : Heap} {locs : List Loc} {Q : State → Prop} {cc : ByteArray} {pc : Nat} {ls : Array Slot} {rest : List Value} {nL : Nat} {own : String} {D : va_G} {σ : St} {cI cZ : ClassId} {ad : Nat → Nat} {index : Nat} {ld aw : Int} (hD : ∀ τ, va_D (AD ad 45) (wsX cI ad τ)) (hB : Bd σ) (hl : 0 ≤ ld ∧ ld ≤ 200) (ha : 1 ≤ aw ∧ aw ≤ 20) (J : Jx p m c cc nL s args own D [(cI, .int), (cZ, .boolean)] (AD ad 45) (wsX cI ad)) (hw : jW D (AD ad 45) s.heap (wsX cI ad σ) H locs) (hsz : ls.size = nL) (hlk : Cond.methodLink own index yX9_homeHour ∈ TBw) (hR : 3 ≤ R.frames ∧ 69 ≤ R.locals) (hroom : (rest.map fun v => v.category).sum ≤ 8) (hdg : decode cc pc = .ok (.invokevirtual index, 3)) (kk : ∀ (H1 : Heap) (locs1 : List Loc), jW D (AD ad 45) s.heap (wsX cI ad σ) H1 locs1 → W p l e R s m args below meth c H1 locs1 0 0 Q (F0 m (pc + 3) ls (.int (I (hhS σ ld aw)) :: rest))) : W p l e R s m args below meth c H locs 0 0 Q (F0 m pc ls (.int (I aw) :: .int (I ld) :: .ref (ad 0) :: rest)) := 
  j_callVi J hw (c_X9_homeHour  hD hB hl ha) hlk in_X9_homeHour se_X9_homeHour ini_X9 co_X9_homeHour (n := 2) (by decide +kernel) ⟨rfl, rfl, hR.1, hR.2⟩ (j := 0) (ci := 9) rfl rfl rfl rfl hroom hsz ⟨Nat.zero_le _, Nat.zero_le _⟩ rfl hdg (fun r τ H1 locs1 hp hw1 => by obtain ⟨rfl, rfl⟩ := hp; exact kk H1 locs1 hw1)
def rm_X9_carryOut : Room := { frames := 3, cells := 0, slots := 0, locals := 67 }
set_option maxHeartbeats 4000000 in
set_option maxRecDepth 100000 in
theorem c_X9_carryOut {l : Launch} {D : va_G} {cI cZ : ClassId} {ad : Nat → Nat} {σ : St} {t s1 : Int} (hD : ∀ τ, va_D (AD ad 45) (wsX cI ad τ)) (hd : Dim σ) (hr : 0 ≤ σ 18 10 ∧ σ 18 10 < σ 18 1) (ht : 0 ≤ t ∧ t ≤ 30) (hs : 0 ≤ s1 ∧ s1 ≤ 2) (hl : 0 ≤ σ 18 11 ∧ σ 18 11 ≤ 200) (hla : 0 ≤ σ 18 12 ∧ σ 18 12 < 120) : JMv l yX9_carryOut cX9_carryOut 3 rm_X9_carryOut D [(cI, .int), (cZ, .boolean)] (AD ad 45) (wsX cI ad) [.ref (ad 0), .int (I t), .int (I s1)] σ (fun τ => τ = coS σ t s1) := by
  refine JMv.of RX9 (by decide +kernel) rfl (Nat.le_of_ble_eq_true rfl) hD ?_
  intro p e s m args below meth c Q J fin H ls hw hl
  generalize ([] : List Loc) = locs at hw ⊢
  have hl : lv_has ls 3 [(0, .ref (ad 0)), (1, .int (I t)), (2, .int (I s1))] := hl
  refine j_aload_n J dX9_carryOut_0 rfl (lv_at hl 0 rfl) ?_
  refine xg_9_5 J hw lk_X9_49 dX9_carryOut_1 ?_
  refine j_aload_n J dX9_carryOut_4 rfl (lv_at hl 0 rfl) ?_
  refine xg_9_1 J hw lk_X9_21 dX9_carryOut_5 ?_
  refine k_X3_digPlanned (σ := σ) hD (show Dim σ from hd) (show 0 ≤ σ 18 10 ∧ σ 18 10 < σ 18 1 from hr) J hw hl.1 lk_X9_255 ⟨Nat.le_of_ble_eq_true rfl, Nat.le_of_ble_eq_true rfl⟩ (Nat.le_of_ble_eq_true rfl) dX9_carryOut_8 (fun H locs hw => ?_)
  refine j_aload_n J dX9_carryOut_11 rfl (lv_at hl 0 rfl) ?_
  refine xg_9_2 J hw lk_X9_28 dX9_carryOut_12 ?_
  refine j_aload_n J dX9_carryOut_15 rfl (lv_at hl 0 rfl) ?_
  refine xg_9_5 J hw lk_X9_49 dX9_carryOut_16 ?_
  refine xg_3_3 J hw lk_X9_259 dX9_carryOut_19 ?_
  refine j_iconst J (0) dX9_carryOut_22 ?_
  refine j_iload_n J dX9_carryOut_23 rfl (lv_at hl 1 rfl) ?_
  refine j_iconst J (4) dX9_carryOut_24 ?_
  refine j_imul J dX9_carryOut_25 ?_
  refine j_aload_n J dX9_carryOut_26 rfl (lv_at hl 0 rfl) ?_
  refine xg_9_5 J hw lk_X9_49 dX9_carryOut_27 ?_
  refine xg_3_2 J hw lk_X9_148 dX9_carryOut_30 ?_
  refine j_isub J dX9_carryOut_33 ?_
  refine j_max J (by unfold rg; omega) (show rg ((t * 4) - (σ 18 11)) by unfold rg; omega) hl.1 lk_X9_262 ⟨Nat.le_of_ble_eq_true rfl, Nat.le_of_ble_eq_true rfl, Nat.zero_le _, Nat.zero_le _⟩ dX9_carryOut_34 ?_
  refine k_X0_come (cell := σ 18 12) (mu := max 0 ((t * 4) - (σ 18 11))) (σ := dpS σ (σ 18 0)) hD (show 0 ≤ (σ 18 12) ∧ (σ 18 12) < 120 from by omega) J hw hl.1 lk_X9_267 ⟨Nat.le_of_ble_eq_true rfl, Nat.le_of_ble_eq_true rfl⟩ (Nat.le_of_ble_eq_true rfl) dX9_carryOut_37 (fun H locs hw => ?_)
  refine j_aload_n J dX9_carryOut_40 rfl (lv_at hl 0 rfl) ?_
  refine xg_9_6 J hw lk_X9_56 dX9_carryOut_41 ?_
  refine xg_7_0 J hw lk_X9_115 dX9_carryOut_44 ?_
  refine j_iload_n J dX9_carryOut_47 rfl (lv_at hl 2 rfl) ?_
  refine j_aload_n J dX9_carryOut_48 rfl (lv_at hl 0 rfl) ?_
  refine xg_9_5 J hw lk_X9_49 dX9_carryOut_49 ?_
  refine xg_3_2 J hw lk_X9_148 dX9_carryOut_52 ?_
  refine k_X2_add (k := 10) (i := s1) (v := σ 18 11) (σ := st (st (dpS σ (σ 18 0)) 4 (σ 18 12) ((dpS σ (σ 18 0)) 4 (σ 18 12) + (max 0 ((t * 4) - (σ 18 11))))) 18 3 ((dpS σ (σ 18 0)) 18 3 + (max 0 ((t * 4) - (σ 18 11))))) hD (by decide) (show 0 ≤ s1 ∧ s1 < ((3 : Nat) : Int) from by omega) J hw hl.1 lk_X9_270 ⟨Nat.le_of_ble_eq_true rfl, Nat.le_of_ble_eq_true rfl⟩ (Nat.le_of_ble_eq_true rfl) dX9_carryOut_55 (fun H locs hw => ?_)
  refine j_aload_n J dX9_carryOut_58 rfl (lv_at hl 0 rfl) ?_
  refine j_dup J dX9_carryOut_59 rfl ?_
  refine xg_9_11 J hw lk_X9_218 dX9_carryOut_60 ?_
  refine j_aload_n J dX9_carryOut_63 rfl (lv_at hl 0 rfl) ?_
  refine xg_9_5 J hw lk_X9_49 dX9_carryOut_64 ?_
  refine xg_3_2 J hw lk_X9_148 dX9_carryOut_67 ?_
  refine j_iadd J dX9_carryOut_70 ?_
  refine xs_9_11 J hw lk_X9_218 dX9_carryOut_71 (fun H locs hw => ?_)
  refine j_aload_n J dX9_carryOut_74 rfl (lv_at hl 0 rfl) ?_
  refine j_dup J dX9_carryOut_75 rfl ?_
  refine xg_9_10 J hw lk_X9_215 dX9_carryOut_76 ?_
  refine j_iconst J (1) dX9_carryOut_79 ?_
  refine j_iadd J dX9_carryOut_80 ?_
  refine xs_9_10 J hw lk_X9_215 dX9_carryOut_81 (fun H locs hw => ?_)
  exact fin _ _ _ _ _ dX9_carryOut_84 (rfl) hw
theorem k_X9_carryOut {p : Program} {l : Launch} {e : Env} {R : Room} {s : State} {m : MethodId} {args : Array Value} {below : List Frame} {meth : Method} {c : Code} {H : Heap} {locs : List Loc} {Q : State → Prop} {cc : ByteArray} {pc : Nat} {ls : Array Slot} {rest : List Value} {nL : Nat} {own : String} {D : va_G} {σ : St} {cI cZ : ClassId} {ad : Nat → Nat} {index : Nat} {t s1 : Int} (hD : ∀ τ, va_D (AD ad 45) (wsX cI ad τ)) (hd : Dim σ) (hr : 0 ≤ σ 18 10 ∧ σ 18 10 < σ 18 1) (ht : 0 ≤ t ∧ t ≤ 30) (hs : 0 ≤ s1 ∧ s1 ≤ 2) (hl : 0 ≤ σ 18 11 ∧ σ 18 11 ≤ 200) (hla : 0 ≤ σ 18 12 ∧ σ 18 12 < 120) (J : Jx p m c cc nL s args own D [(cI, .int), (cZ, .boolean)] (AD ad 45) (wsX cI ad)) (hw : jW D (AD ad 45) s.heap (wsX cI ad σ) H locs) (hsz : ls.size = nL) (hlk : Cond.methodLink own index yX9_carryOut ∈ TBw) (hR : 4 ≤ R.frames ∧ 89 ≤ R.locals) (hroom : (rest.map fun v => v.category).sum ≤ 8) (hdg : decode cc pc = .ok (.invokevirtual index, 3)) (kk : ∀ (H1 : Heap) (locs1 : List Loc), jW D (AD ad 45) s.heap (wsX cI ad (coS σ t s1)) H1 locs1 → W p l e R s m args below meth c H1 locs1 0 0 Q (F0 m (pc + 3) ls rest)) : W p l e R s m args below meth c H locs 0 0 Q (F0 m pc ls (.int (I s1) :: .int (I t) :: .ref (ad 0) :: rest)) := 
  j_callVv J hw (c_X9_carryOut  hD hd hr ht hs hl hla) hlk in_X9_carryOut se_X9_carryOut ini_X9 co_X9_carryOut (n := 2) (by decide +kernel) ⟨rfl, rfl, hR.1, hR.2⟩ (j := 0) (ci := 9) rfl rfl rfl rfl hroom hsz ⟨Nat.zero_le _, Nat.zero_le _⟩ rfl hdg (fun τ H1 locs1 hp hw1 => by subst hp; exact kk H1 locs1 hw1)
def rm_X9_hours : Room := { frames := 6, cells := 0, slots := 0, locals := 138 }
set_option maxHeartbeats 4000000 in
set_option maxRecDepth 100000 in
theorem c_X9_hours {l : Launch} {D : va_G} {cI cZ : ClassId} {ad : Nat → Nat} {σ : St} {n : Int} (hD : ∀ τ, va_D (AD ad 45) (wsX cI ad τ)) (hB : Bd σ) (r_n : rg n) : JMi l yX9_hours cX9_hours 2 (some .int) rm_X9_hours D [(cI, .int), (cZ, .boolean)] (AD ad 45) (wsX cI ad) [.ref (ad 0), .int (I n)] σ (fun r τ => r = (hoursS σ n).1 ∧ Eqp τ (hoursS σ n).2) := by
  refine JMi.of RX9 (by decide +kernel) rfl (Nat.le_of_ble_eq_true rfl) hD ?_
  intro p e s m args below meth c Q J fin H ls hw hl
  generalize ([] : List Loc) = locs at hw ⊢
  have hl : lv_has ls 2 [(0, .ref (ad 0)), (1, .int (I n))] := hl
  have hd : Dim _ := hB.dim
  have hd1 := hd.1; have hd2 := hd.2.1; have hd3 := hd.2.2.1; have hd4 := hd.2.2.2; have hm := hd.mul
  have u_n := r_n; unfold rg at u_n
  have hh := hB.hour
  refine j_iload_n J dX9_hours_0 rfl (lv_at hl 1 rfl) ?_
  refine j_iconst J (1) dX9_hours_1 ?_
  refine j_sipush J (200) dX9_hours_2 (by decide) ?_
  refine k_X9_within (v := n) (lo := 1) (hi := 200) (σ := σ) hD (show rg n from by unfold rg; omega) (show rg 1 from by unfold rg; omega) (show rg 200 from by unfold rg; omega) J hw hl.1 lk_X9_78 ⟨Nat.le_of_ble_eq_true rfl, Nat.le_of_ble_eq_true rfl⟩ (Nat.le_of_ble_eq_true rfl) dX9_hours_5 (fun H locs hw => ?_)
  refine j_ifneB J 13 dX9_hours_8 (by decide) (fun (h_1 : 1 ≤ n ∧ n ≤ 200) => ?_) (fun (h_1 : ¬ (1 ≤ n ∧ n ≤ 200)) => ?_)
  · refine j_aload_n J dX9_hours_13 rfl (lv_at hl 0 rfl) ?_
    refine xg_9_9 J hw lk_X9_162 dX9_hours_14 ?_
    refine j_iload_n J dX9_hours_17 rfl (lv_at hl 1 rfl) ?_
    refine j_iadd J dX9_hours_18 ?_
    refine j_sipush J (5000) dX9_hours_19 (by decide) ?_
    refine j_icmp_le J 28 (show rg ((σ 18 7) + n) by unfold rg; omega) (by unfold rg; omega) dX9_hours_22 (by decide) (fun (h_2 : ((σ 18 7) + n) ≤ 5000) => ?_) (fun (h_2 : 5000 < ((σ 18 7) + n)) => ?_)
    · refine j_aload_n J dX9_hours_28 rfl (lv_at hl 0 rfl) ?_
      refine j_iload_n J dX9_hours_29 rfl (lv_at hl 1 rfl) ?_
      refine k_X9_passHours (nh := n) (σ := σ) hD (show Bd σ from hB) (show 0 ≤ n ∧ σ 18 7 + n ≤ 5000 from by omega) J hw hl.1 lk_X9_165 ⟨Nat.le_of_ble_eq_true rfl, Nat.le_of_ble_eq_true rfl⟩ (Nat.le_of_ble_eq_true rfl) dX9_hours_30 (fun τ1 H locs hp1 hw => ?_)
      have hf := hrN_facts hB (show 0 ≤ n by omega) (show σ 18 7 + n ≤ 5000 by omega)
      have e7 : τ1 18 7 = σ 18 7 + n := by rw [qs hp1.1 7 (by decide)]; exact hf.2.1
      refine j_aload_n J dX9_hours_33 rfl (lv_at hl 0 rfl) ?_
      refine xg_9_9 J hw lk_X9_162 dX9_hours_34 ?_
      exact fin _ _ _ _ _ _ dX9_hours_37 rfl (by first | (unfold hoursS; (repeat (first | rw [if_pos (by omega)] | rw [if_neg (by omega)])); exact ⟨e7, hp1.1⟩) | (exfalso; omega)) hw
    · refine j_bipush J (-3) dX9_hours_25 (by decide) ?_
      exact fin _ _ _ _ _ _ dX9_hours_27 rfl (by first | (unfold hoursS; (repeat (first | rw [if_pos (by omega)] | rw [if_neg (by omega)])); exact ⟨rfl, Eqp.rf⟩) | (exfalso; omega)) hw
  · refine j_iconst J (-1) dX9_hours_11 ?_
    exact fin _ _ _ _ _ _ dX9_hours_12 rfl (by first | (unfold hoursS; (repeat (first | rw [if_pos (by omega)] | rw [if_neg (by omega)])); exact ⟨rfl, Eqp.rf⟩) | (exfalso; omega)) hw
theorem k_X9_hours {p : Program} {l : Launch} {e : Env} {R : Room} {s : State} {m : MethodId} {args : Array Value} {below : List Frame} {meth : Method} {c : Code} {H : Heap} {locs : List Loc} {Q : State → Prop} {cc : ByteArray} {pc : Nat} {ls : Array Slot} {rest : List Value} {nL : Nat} {own : String} {D : va_G} {σ : St} {cI cZ : ClassId} {ad : Nat → Nat} {index : Nat} {n : Int} (hD : ∀ τ, va_D (AD ad 45) (wsX cI ad τ)) (hB : Bd σ) (r_n : rg n) (J : Jx p m c cc nL s args own D [(cI, .int), (cZ, .boolean)] (AD ad 45) (wsX cI ad)) (hw : jW D (AD ad 45) s.heap (wsX cI ad σ) H locs) (hsz : ls.size = nL) (hlk : Cond.methodLink own index yX9_hours ∈ TBw) (hR : 7 ≤ R.frames ∧ 159 ≤ R.locals) (hroom : (rest.map fun v => v.category).sum ≤ 8) (hdg : decode cc pc = .ok (.invokevirtual index, 3)) (kk : ∀ (r : Int) (τ : St) (H1 : Heap) (locs1 : List Loc), (fun r τ => r = (hoursS σ n).1 ∧ Eqp τ (hoursS σ n).2) r τ → jW D (AD ad 45) s.heap (wsX cI ad τ) H1 locs1 → W p l e R s m args below meth c H1 locs1 0 0 Q (F0 m (pc + 3) ls (.int (I r) :: rest))) : W p l e R s m args below meth c H locs 0 0 Q (F0 m pc ls (.int (I n) :: .ref (ad 0) :: rest)) := 
  j_callVi J hw (c_X9_hours  hD hB r_n) hlk in_X9_hours se_X9_hours ini_X9 co_X9_hours (n := 1) (by decide +kernel) ⟨rfl, rfl, hR.1, hR.2⟩ (j := 0) (ci := 9) rfl rfl rfl rfl hroom hsz ⟨Nat.zero_le _, Nat.zero_le _⟩ rfl hdg kk
def rm_X9_trip : Room := { frames := 6, cells := 0, slots := 0, locals := 138 }
set_option maxHeartbeats 4000000 in
set_option maxRecDepth 100000 in
theorem c_X9_trip {l : Launch} {D : va_G} {cI cZ : ClassId} {ad : Nat → Nat} {σ : St} {row a b t sp : Int} (hD : ∀ τ, va_D (AD ad 45) (wsX cI ad τ)) (hB : Bd σ) (r_row : rg row) (r_a : rg a) (r_b : rg b) (r_t : rg t) (r_sp : rg sp) (htp : σ 18 8 ≤ σ 18 7) : JMi l yX9_trip cX9_trip 7 (some .int) rm_X9_trip D [(cI, .int), (cZ, .boolean)] (AD ad 45) (wsX cI ad) [.ref (ad 0), .int (I row), .int (I a), .int (I b), .int (I t), .int (I sp)] σ (fun r τ => r = (tripS σ row a b t sp).1 ∧ Eqp τ (tripS σ row a b t sp).2) := by
  refine JMi.of RX9 (by decide +kernel) rfl (Nat.le_of_ble_eq_true rfl) hD ?_
  intro p e s m args below meth c Q J fin H ls hw hl
  generalize ([] : List Loc) = locs at hw ⊢
  have hl : lv_has ls 7 [(0, .ref (ad 0)), (1, .int (I row)), (2, .int (I a)), (3, .int (I b)), (4, .int (I t)), (5, .int (I sp))] := hl
  have hd : Dim _ := hB.dim
  have hd1 := hd.1; have hd2 := hd.2.1; have hd3 := hd.2.2.1; have hd4 := hd.2.2.2; have hm := hd.mul
  have u_row := r_row; unfold rg at u_row
  have u_a := r_a; unfold rg at u_a
  have u_b := r_b; unfold rg at u_b
  have u_t := r_t; unfold rg at u_t
  have u_sp := r_sp; unfold rg at u_sp
  have hh := hB.hour; have bo := hB.over; have bt := hB.table t
  refine j_aload_n J dX9_trip_0 rfl (lv_at hl 0 rfl) ?_
  refine xg_9_1 J hw lk_X9_21 dX9_trip_1 ?_
  refine j_iload_n J dX9_trip_4 rfl (lv_at hl 1 rfl) ?_
  refine k_X1_hasRow (row := row) (σ := σ) hD (show Dim σ from hd) (show rg row from by unfold rg; omega) J hw hl.1 lk_X9_135 ⟨Nat.le_of_ble_eq_true rfl, Nat.le_of_ble_eq_true rfl⟩ (Nat.le_of_ble_eq_true rfl) dX9_trip_5 (fun H locs hw => ?_)
  refine j_ifeqB J 33 dX9_trip_8 (by decide) (fun (h_1 : ¬ (0 ≤ row ∧ row ≤ σ 18 1 - 1)) => ?_) (fun (h_1 : 0 ≤ row ∧ row ≤ σ 18 1 - 1) => ?_)
  · refine j_iconst J (-1) dX9_trip_33 ?_
    exact fin _ _ _ _ _ _ dX9_trip_34 rfl (by first | (unfold tripS; (repeat (first | rw [if_pos (by omega)] | rw [if_neg (by omega)])); exact ⟨rfl, Eqp.rf⟩) | (exfalso; omega)) hw
  · refine j_aload_n J dX9_trip_11 rfl (lv_at hl 0 rfl) ?_
    refine xg_9_1 J hw lk_X9_21 dX9_trip_12 ?_
    refine j_iload_n J dX9_trip_15 rfl (lv_at hl 2 rfl) ?_
    refine k_X1_hasColumn (col := a) (σ := σ) hD (show Dim σ from hd) (show rg a from by unfold rg; omega) J hw hl.1 lk_X9_138 ⟨Nat.le_of_ble_eq_true rfl, Nat.le_of_ble_eq_true rfl⟩ (Nat.le_of_ble_eq_true rfl) dX9_trip_16 (fun H locs hw => ?_)
    refine j_ifeqB J 33 dX9_trip_19 (by decide) (fun (h_2 : ¬ (0 ≤ a ∧ a ≤ σ 18 0 - 1)) => ?_) (fun (h_2 : 0 ≤ a ∧ a ≤ σ 18 0 - 1) => ?_)
    · refine j_iconst J (-1) dX9_trip_33 ?_
      exact fin _ _ _ _ _ _ dX9_trip_34 rfl (by first | (unfold tripS; (repeat (first | rw [if_pos (by omega)] | rw [if_neg (by omega)])); exact ⟨rfl, Eqp.rf⟩) | (exfalso; omega)) hw
    · refine j_aload_n J dX9_trip_22 rfl (lv_at hl 0 rfl) ?_
      refine xg_9_1 J hw lk_X9_21 dX9_trip_23 ?_
      refine j_iload_n J dX9_trip_26 rfl (lv_at hl 3 rfl) ?_
      refine k_X1_hasColumn (col := b) (σ := σ) hD (show Dim σ from hd) (show rg b from by unfold rg; omega) J hw hl.1 lk_X9_138 ⟨Nat.le_of_ble_eq_true rfl, Nat.le_of_ble_eq_true rfl⟩ (Nat.le_of_ble_eq_true rfl) dX9_trip_27 (fun H locs hw => ?_)
      refine j_ifneB J 35 dX9_trip_30 (by decide) (fun (h_3 : 0 ≤ b ∧ b ≤ σ 18 0 - 1) => ?_) (fun (h_3 : ¬ (0 ≤ b ∧ b ≤ σ 18 0 - 1)) => ?_)
      · refine j_iload J dX9_trip_35 (lv_at hl 4 rfl) ?_
        refine j_iconst J (0) dX9_trip_37 ?_
        refine j_bipush J (30) dX9_trip_38 (by decide) ?_
        refine k_X9_within (v := t) (lo := 0) (hi := 30) (σ := σ) hD (show rg t from by unfold rg; omega) (show rg 0 from by unfold rg; omega) (show rg 30 from by unfold rg; omega) J hw hl.1 lk_X9_78 ⟨Nat.le_of_ble_eq_true rfl, Nat.le_of_ble_eq_true rfl⟩ (Nat.le_of_ble_eq_true rfl) dX9_trip_40 (fun H locs hw => ?_)
        refine j_ifeqB J 58 dX9_trip_43 (by decide) (fun (h_4 : ¬ (0 ≤ t ∧ t ≤ 30)) => ?_) (fun (h_4 : 0 ≤ t ∧ t ≤ 30) => ?_)
        · refine j_iconst J (-1) dX9_trip_58 ?_
          exact fin _ _ _ _ _ _ dX9_trip_59 rfl (by first | (unfold tripS; (repeat (first | rw [if_pos (by omega)] | rw [if_neg (by omega)])); exact ⟨rfl, Eqp.rf⟩) | (exfalso; omega)) hw
        · refine j_aload_n J dX9_trip_46 rfl (lv_at hl 0 rfl) ?_
          refine xg_9_6 J hw lk_X9_56 dX9_trip_47 ?_
          refine j_iload J dX9_trip_50 (lv_at hl 5 rfl) ?_
          refine k_X7_has (sp := sp) (σ := σ) hD (show rg sp from by unfold rg; omega) J hw hl.1 lk_X9_113 ⟨Nat.le_of_ble_eq_true rfl, Nat.le_of_ble_eq_true rfl⟩ (Nat.le_of_ble_eq_true rfl) dX9_trip_52 (fun H locs hw => ?_)
          refine j_ifneB J 60 dX9_trip_55 (by decide) (fun (h_5 : 0 ≤ sp ∧ sp ≤ 2) => ?_) (fun (h_5 : ¬ (0 ≤ sp ∧ sp ≤ 2)) => ?_)
          · have pf := pl_facts (row := row) (a := a) (b := b) (t := t) hB (by omega) (by omega)
            have pm := pl_more (row := row) (a := a) (b := b) (t := t) hB (by omega) (by omega) (by omega)
            have hE := pf.1
            have hBp := hB.eqp hE
            have e10 := q10 hE sp; have e11 := q11 hE sp; have e12 := q12 hE sp
            have b10 := hB.held sp; have b11 := hB.most sp; have b12 := hB.away sp (by omega) (by omega)
            have c0 : plS σ row a b t 18 0 = σ 18 0 := qs hE 0 (by decide)
            have c1 : plS σ row a b t 18 1 = σ 18 1 := qs hE 1 (by decide)
            have c7 : plS σ row a b t 18 7 = σ 18 7 := qs hE 7 (by decide)
            have hg := hh_rng (σ := σ) (ld := plS σ row a b t 18 11) (aw := σ 12 sp) b12.1
            refine j_aload_n J dX9_trip_60 rfl (lv_at hl 0 rfl) ?_
            refine xg_9_5 J hw lk_X9_49 dX9_trip_61 ?_
            refine j_aload_n J dX9_trip_64 rfl (lv_at hl 0 rfl) ?_
            refine xg_9_1 J hw lk_X9_21 dX9_trip_65 ?_
            refine j_iload_n J dX9_trip_68 rfl (lv_at hl 1 rfl) ?_
            refine j_iload_n J dX9_trip_69 rfl (lv_at hl 2 rfl) ?_
            refine j_iload_n J dX9_trip_70 rfl (lv_at hl 3 rfl) ?_
            refine j_aload_n J dX9_trip_71 rfl (lv_at hl 0 rfl) ?_
            refine xg_9_4 J hw lk_X9_42 dX9_trip_72 ?_
            refine xg_6_0 J hw lk_X9_141 dX9_trip_75 ?_
            refine j_iload J dX9_trip_78 (lv_at hl 4 rfl) ?_
            refine k_X2_get (k := 8) (i := t) (σ := σ) hD (by decide) (show 0 ≤ t ∧ t < ((31 : Nat) : Int) from by omega) J hw hl.1 lk_X9_118 ⟨Nat.le_of_ble_eq_true rfl, Nat.le_of_ble_eq_true rfl⟩ (Nat.le_of_ble_eq_true rfl) dX9_trip_80 (fun H locs hw => ?_)
            refine j_aload_n J dX9_trip_83 rfl (lv_at hl 0 rfl) ?_
            refine xg_9_0 J hw lk_X9_14 dX9_trip_84 ?_
            refine j_iconst J (0) dX9_trip_87 ?_
            refine k_X2_get (k := 0) (i := 0) (σ := σ) hD (by decide) (show 0 ≤ 0 ∧ 0 < ((5 : Nat) : Int) from by omega) J hw hl.1 lk_X9_118 ⟨Nat.le_of_ble_eq_true rfl, Nat.le_of_ble_eq_true rfl⟩ (Nat.le_of_ble_eq_true rfl) dX9_trip_88 (fun H locs hw => ?_)
            refine k_X3_plan (row := row) (a := a) (b := b) (w := σ 8 t) (ov := σ 0 0) (σ := σ) hD (show Bd σ from hB) (show 0 ≤ row ∧ row < σ 18 1 from by omega) (show 0 ≤ a ∧ a < σ 18 0 from by omega) (show 0 ≤ b ∧ b < σ 18 0 from by omega) (show 0 ≤ (σ 8 t) ∧ (σ 8 t) ≤ 200 from by omega) (show 0 ≤ (σ 0 0) ∧ (σ 0 0) ≤ 50 from bo) J hw hl.1 lk_X9_144 ⟨Nat.le_of_ble_eq_true rfl, Nat.le_of_ble_eq_true rfl⟩ (Nat.le_of_ble_eq_true rfl) dX9_trip_91 (fun H locs hw => ?_)
            have hw : jW D (AD ad 45) s.heap (wsX cI ad (plS σ row a b t)) H locs := hw
            refine j_aload_n J dX9_trip_94 rfl (lv_at hl 0 rfl) ?_
            refine xg_9_6 J hw lk_X9_56 dX9_trip_95 ?_
            refine j_iload J dX9_trip_98 (lv_at hl 5 rfl) ?_
            refine j_aload_n J dX9_trip_100 rfl (lv_at hl 0 rfl) ?_
            refine xg_9_5 J hw lk_X9_49 dX9_trip_101 ?_
            refine xg_3_2 J hw lk_X9_148 dX9_trip_104 ?_
            refine k_X7_hasRoom (sp := sp) (ld := (plS σ row a b t) 18 11) (σ := plS σ row a b t) hD (show Bd (plS σ row a b t) from hBp) (show 0 ≤ sp ∧ sp ≤ 2 from by omega) (show 0 ≤ ((plS σ row a b t) 18 11) ∧ ((plS σ row a b t) 18 11) ≤ 200 from by omega) J hw hl.1 lk_X9_152 ⟨Nat.le_of_ble_eq_true rfl, Nat.le_of_ble_eq_true rfl⟩ (Nat.le_of_ble_eq_true rfl) dX9_trip_107 (fun H locs hw => ?_)
            refine j_ifneB J 116 dX9_trip_110 (by decide) (fun (h_6 : (plS σ row a b t) 10 sp + ((plS σ row a b t) 18 11) ≤ (plS σ row a b t) 11 sp) => ?_) (fun (h_6 : ¬ ((plS σ row a b t) 10 sp + ((plS σ row a b t) 18 11) ≤ (plS σ row a b t) 11 sp)) => ?_)
            · refine j_aload_n J dX9_trip_116 rfl (lv_at hl 0 rfl) ?_
              refine j_aload_n J dX9_trip_117 rfl (lv_at hl 0 rfl) ?_
              refine xg_9_5 J hw lk_X9_49 dX9_trip_118 ?_
              refine xg_3_2 J hw lk_X9_148 dX9_trip_121 ?_
              refine j_aload_n J dX9_trip_124 rfl (lv_at hl 0 rfl) ?_
              refine xg_9_6 J hw lk_X9_56 dX9_trip_125 ?_
              refine xg_7_2 J hw lk_X9_124 dX9_trip_128 ?_
              refine j_iload J dX9_trip_131 (lv_at hl 5 rfl) ?_
              refine k_X2_get (k := 12) (i := sp) (σ := plS σ row a b t) hD (by decide) (show 0 ≤ sp ∧ sp < ((3 : Nat) : Int) from by omega) J hw hl.1 lk_X9_118 ⟨Nat.le_of_ble_eq_true rfl, Nat.le_of_ble_eq_true rfl⟩ (Nat.le_of_ble_eq_true rfl) dX9_trip_133 (fun H locs hw => ?_)
              refine k_X9_homeHour (ld := (plS σ row a b t) 18 11) (aw := (plS σ row a b t) 12 sp) (σ := plS σ row a b t) hD (show Bd (plS σ row a b t) from hBp) (show 0 ≤ ((plS σ row a b t) 18 11) ∧ ((plS σ row a b t) 18 11) ≤ 200 from by omega) (show 1 ≤ ((plS σ row a b t) 12 sp) ∧ ((plS σ row a b t) 12 sp) ≤ 20 from by omega) J hw hl.1 lk_X9_156 ⟨Nat.le_of_ble_eq_true rfl, Nat.le_of_ble_eq_true rfl⟩ (Nat.le_of_ble_eq_true rfl) dX9_trip_136 (fun H locs hw => ?_)
              rw [hhS_eqp hE, e12]
              refine j_istore J (lv' := [(6, .int (I (hhS σ (plS σ row a b t 18 11) (σ 12 sp)))), (0, .ref (ad 0)), (1, .int (I row)), (2, .int (I a)), (3, .int (I b)), (4, .int (I t)), (5, .int (I sp))]) hl dX9_trip_139 (by decide) rfl (fun ls hl => ?_)
              refine j_iload J dX9_trip_141 (lv_at hl 0 rfl) ?_
              refine j_iconst J (-1) dX9_trip_143 ?_
              refine j_icmp_ne J 150 (show rg (hhS σ (plS σ row a b t 18 11) (σ 12 sp)) by unfold rg; omega) (by unfold rg; omega) dX9_trip_144 (by decide) (fun (h_7 : ¬ (hhS σ (plS σ row a b t 18 11) (σ 12 sp)) = (-1)) => ?_) (fun (h_7 : (hhS σ (plS σ row a b t 18 11) (σ 12 sp)) = (-1)) => ?_)
              · refine j_iload J dX9_trip_150 (lv_at hl 0 rfl) ?_
                refine j_sipush J (5000) dX9_trip_152 (by decide) ?_
                refine j_icmp_le J 161 (show rg (hhS σ (plS σ row a b t 18 11) (σ 12 sp)) by unfold rg; omega) (by unfold rg; omega) dX9_trip_155 (by decide) (fun (h_8 : (hhS σ (plS σ row a b t 18 11) (σ 12 sp)) ≤ 5000) => ?_) (fun (h_8 : 5000 < (hhS σ (plS σ row a b t 18 11) (σ 12 sp))) => ?_)
                · have hBc := Bd_co (t := t) (s := sp) hB (show 0 ≤ row ∧ row < σ 18 1 by omega) (show 0 ≤ a ∧ a < σ 18 0 by omega) (show 0 ≤ b ∧ b < σ 18 0 by omega) (by omega) (by omega) (by omega)
                  have hdp : Dim (plS σ row a b t) := hBp.dim
                  have prow := pf.2.1
                  refine j_aload_n J dX9_trip_161 rfl (lv_at hl 1 rfl) ?_
                  refine j_iload J dX9_trip_162 (lv_at hl 5 rfl) ?_
                  refine j_iload J dX9_trip_164 (lv_at hl 6 rfl) ?_
                  refine k_X9_carryOut (t := t) (s1 := sp) (σ := plS σ row a b t) hD (show Dim (plS σ row a b t) from hdp) (show 0 ≤ (plS σ row a b t) 18 10 ∧ (plS σ row a b t) 18 10 < (plS σ row a b t) 18 1 from by omega) (show 0 ≤ t ∧ t ≤ 30 from by omega) (show 0 ≤ sp ∧ sp ≤ 2 from by omega) (show 0 ≤ (plS σ row a b t) 18 11 ∧ (plS σ row a b t) 18 11 ≤ 200 from by omega) (show 0 ≤ (plS σ row a b t) 18 12 ∧ (plS σ row a b t) 18 12 < 120 from by omega) J hw hl.1 lk_X9_159 ⟨Nat.le_of_ble_eq_true rfl, Nat.le_of_ble_eq_true rfl⟩ (Nat.le_of_ble_eq_true rfl) dX9_trip_166 (fun H locs hw => ?_)
                  refine j_aload_n J dX9_trip_169 rfl (lv_at hl 1 rfl) ?_
                  refine j_iload J dX9_trip_170 (lv_at hl 0 rfl) ?_
                  refine j_aload_n J dX9_trip_172 rfl (lv_at hl 1 rfl) ?_
                  refine xg_9_9 J hw lk_X9_162 dX9_trip_173 ?_
                  refine j_isub J dX9_trip_176 ?_
                  refine k_X9_passHours (nh := (hhS σ (plS σ row a b t 18 11) (σ 12 sp)) - ((plS σ row a b t) 18 7)) (σ := coS (plS σ row a b t) t sp) hD (show Bd (coS (plS σ row a b t) t sp) from hBc) (show 0 ≤ ((hhS σ (plS σ row a b t 18 11) (σ 12 sp)) - ((plS σ row a b t) 18 7)) ∧ (plS σ row a b t) 18 7 + ((hhS σ (plS σ row a b t 18 11) (σ 12 sp)) - ((plS σ row a b t) 18 7)) ≤ 5000 from by omega) J hw hl.1 lk_X9_165 ⟨Nat.le_of_ble_eq_true rfl, Nat.le_of_ble_eq_true rfl⟩ (Nat.le_of_ble_eq_true rfl) dX9_trip_177 (fun τ1 H locs hp1 hw => ?_)
                  refine j_aload_n J dX9_trip_180 rfl (lv_at hl 1 rfl) ?_
                  refine xg_9_5 J hw lk_X9_49 dX9_trip_181 ?_
                  refine xg_3_2 J hw lk_X9_148 dX9_trip_184 ?_
                  exact fin _ _ _ _ _ _ dX9_trip_187 rfl (by unfold tripS; (rw [if_pos (show 0 ≤ row ∧ row < σ 18 1 ∧ 0 ≤ a ∧ a < σ 18 0 ∧ 0 ≤ b ∧ b < σ 18 0 ∧ 0 ≤ t ∧ t ≤ 30 ∧ 0 ≤ sp ∧ sp ≤ 2 by omega), if_neg (by omega), if_neg (by omega), if_neg (by omega)]); exact ⟨hp1.2 11 (by decide), by rw [← c7]; exact hp1.1⟩) hw
                · refine j_bipush J (-3) dX9_trip_158 (by decide) ?_
                  exact fin _ _ _ _ _ _ dX9_trip_160 rfl (by unfold tripS; rw [if_pos (show 0 ≤ row ∧ row < σ 18 1 ∧ 0 ≤ a ∧ a < σ 18 0 ∧ 0 ≤ b ∧ b < σ 18 0 ∧ 0 ≤ t ∧ t ≤ 30 ∧ 0 ≤ sp ∧ sp ≤ 2 by omega), if_neg (by omega), if_neg (by omega), if_pos (by omega)]; exact ⟨rfl, hE⟩) hw
              · refine j_bipush J (-2) dX9_trip_147 (by decide) ?_
                exact fin _ _ _ _ _ _ dX9_trip_149 rfl (by unfold tripS; rw [if_pos (show 0 ≤ row ∧ row < σ 18 1 ∧ 0 ≤ a ∧ a < σ 18 0 ∧ 0 ≤ b ∧ b < σ 18 0 ∧ 0 ≤ t ∧ t ≤ 30 ∧ 0 ≤ sp ∧ sp ≤ 2 by omega), if_neg (by omega), if_pos (by omega)]; exact ⟨rfl, hE⟩) hw
            · refine j_bipush J (-2) dX9_trip_113 (by decide) ?_
              exact fin _ _ _ _ _ _ dX9_trip_115 rfl (by unfold tripS; rw [if_pos (show 0 ≤ row ∧ row < σ 18 1 ∧ 0 ≤ a ∧ a < σ 18 0 ∧ 0 ≤ b ∧ b < σ 18 0 ∧ 0 ≤ t ∧ t ≤ 30 ∧ 0 ≤ sp ∧ sp ≤ 2 by omega), if_pos (by omega)]; exact ⟨rfl, hE⟩) hw
          · refine j_iconst J (-1) dX9_trip_58 ?_
            exact fin _ _ _ _ _ _ dX9_trip_59 rfl (by first | (unfold tripS; (repeat (first | rw [if_pos (by omega)] | rw [if_neg (by omega)])); exact ⟨rfl, Eqp.rf⟩) | (exfalso; omega)) hw
      · refine j_iconst J (-1) dX9_trip_33 ?_
        exact fin _ _ _ _ _ _ dX9_trip_34 rfl (by first | (unfold tripS; (repeat (first | rw [if_pos (by omega)] | rw [if_neg (by omega)])); exact ⟨rfl, Eqp.rf⟩) | (exfalso; omega)) hw
theorem k_X9_trip {p : Program} {l : Launch} {e : Env} {R : Room} {s : State} {m : MethodId} {args : Array Value} {below : List Frame} {meth : Method} {c : Code} {H : Heap} {locs : List Loc} {Q : State → Prop} {cc : ByteArray} {pc : Nat} {ls : Array Slot} {rest : List Value} {nL : Nat} {own : String} {D : va_G} {σ : St} {cI cZ : ClassId} {ad : Nat → Nat} {index : Nat} {row a b t sp : Int} (hD : ∀ τ, va_D (AD ad 45) (wsX cI ad τ)) (hB : Bd σ) (r_row : rg row) (r_a : rg a) (r_b : rg b) (r_t : rg t) (r_sp : rg sp) (htp : σ 18 8 ≤ σ 18 7) (J : Jx p m c cc nL s args own D [(cI, .int), (cZ, .boolean)] (AD ad 45) (wsX cI ad)) (hw : jW D (AD ad 45) s.heap (wsX cI ad σ) H locs) (hsz : ls.size = nL) (hlk : Cond.methodLink own index yX9_trip ∈ TBw) (hR : 7 ≤ R.frames ∧ 164 ≤ R.locals) (hroom : (rest.map fun v => v.category).sum ≤ 8) (hdg : decode cc pc = .ok (.invokevirtual index, 3)) (kk : ∀ (r : Int) (τ : St) (H1 : Heap) (locs1 : List Loc), (fun r τ => r = (tripS σ row a b t sp).1 ∧ Eqp τ (tripS σ row a b t sp).2) r τ → jW D (AD ad 45) s.heap (wsX cI ad τ) H1 locs1 → W p l e R s m args below meth c H1 locs1 0 0 Q (F0 m (pc + 3) ls (.int (I r) :: rest))) : W p l e R s m args below meth c H locs 0 0 Q (F0 m pc ls (.int (I sp) :: .int (I t) :: .int (I b) :: .int (I a) :: .int (I row) :: .ref (ad 0) :: rest)) := 
  j_callVi J hw (c_X9_trip  hD hB r_row r_a r_b r_t r_sp htp) hlk in_X9_trip se_X9_trip ini_X9 co_X9_trip (n := 5) (by decide +kernel) ⟨rfl, rfl, hR.1, hR.2⟩ (j := 0) (ci := 9) rfl rfl rfl rfl hroom hsz ⟨Nat.zero_le _, Nat.zero_le _⟩ rfl hdg kk
