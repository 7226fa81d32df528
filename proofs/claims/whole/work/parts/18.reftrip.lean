def rm_X10_trip : Room := { frames := 3, cells := 0, slots := 0, locals := 68 }
set_option maxHeartbeats 4000000 in
set_option maxRecDepth 100000 in
theorem c_X10_trip {l : Launch} {D : va_G} {cI cZ : ClassId} {ad : Nat → Nat} {σ : St} {row a b t sp : Int} (hD : ∀ τ, va_D (AD ad 45) (wsM cI cZ ad τ)) (hB : Bd σ) (r_row : rg row) (r_a : rg a) (r_b : rg b) (r_t : rg t) (r_sp : rg sp) (htp : σ 18 8 ≤ σ 18 7) : JMi l yX10_trip cX10_trip 12 (some .int) rm_X10_trip D [(cI, .int), (cZ, .boolean)] (AD ad 45) (wsM cI cZ ad) [.ref (ad 0), .int (I row), .int (I a), .int (I b), .int (I t), .int (I sp)] σ (fun r τ => r = (tripS σ row a b t sp).1 ∧ Eqp τ (tripS σ row a b t sp).2) := by
  refine JMi.of RX10 (by decide +kernel) rfl (Nat.le_of_ble_eq_true rfl) hD ?_
  intro p e s m args below meth c Q J fin H ls hw hl
  generalize ([] : List Loc) = locs at hw ⊢
  have hl : lv_has ls 12 [(0, .ref (ad 0)), (1, .int (I row)), (2, .int (I a)), (3, .int (I b)), (4, .int (I t)), (5, .int (I sp))] := hl
  have hd : Dim _ := hB.dim
  have hd1 := hd.1; have hd2 := hd.2.1; have hd3 := hd.2.2.1; have hd4 := hd.2.2.2; have hm := hd.mul
  have u_row := r_row; unfold rg at u_row
  have u_a := r_a; unfold rg at u_a
  have u_b := r_b; unfold rg at u_b
  have u_t := r_t; unfold rg at u_t
  have u_sp := r_sp; unfold rg at u_sp
  have hh := hB.hour; have bo := hB.over; have bt := hB.table t
  have o1 := hB.rule 1 (by decide) (by decide); have o2 := hB.rule 2 (by decide) (by decide); have o3 := hB.rule 3 (by decide) (by decide)
  refine j_iload_n J dX10_trip_0 rfl (lv_at hl 1 rfl) ?_
  refine j_iconst J (0) dX10_trip_1 ?_
  refine j_aload_n J dX10_trip_2 rfl (lv_at hl 0 rfl) ?_
  refine mg_10_1 J hw lk_X10_13 dX10_trip_3 ?_
  refine j_iconst J (1) dX10_trip_6 ?_
  refine j_isub J dX10_trip_7 ?_
  refine k_X10_in (v := row) (lo := 0) (hi := (σ 18 1) - 1) (σ := σ) hD (show rg row from by unfold rg; omega) (show rg 0 from by unfold rg; omega) (show rg ((σ 18 1) - 1) from by unfold rg; omega) J hw hl.1 lk_X10_69 ⟨Nat.le_of_ble_eq_true rfl, Nat.le_of_ble_eq_true rfl⟩ (Nat.le_of_ble_eq_true rfl) dX10_trip_8 (fun H locs hw => ?_)
  refine j_ifeqB J 61 dX10_trip_11 (by decide) (fun (h_1 : ¬ (0 ≤ row ∧ row ≤ ((σ 18 1) - 1))) => ?_) (fun (h_1 : 0 ≤ row ∧ row ≤ ((σ 18 1) - 1)) => ?_)
  · refine j_iconst J (-1) dX10_trip_61 ?_
    exact fin _ (σ) _ _ _ _ dX10_trip_62 rfl (by first | (unfold tripS; (repeat (first | rw [if_pos (by omega)] | rw [if_neg (by omega)])); exact ⟨rfl, Eqp.rf⟩) | (exfalso; omega)) hw
  · refine j_iload_n J dX10_trip_14 rfl (lv_at hl 2 rfl) ?_
    refine j_iconst J (0) dX10_trip_15 ?_
    refine j_aload_n J dX10_trip_16 rfl (lv_at hl 0 rfl) ?_
    refine mg_10_0 J hw lk_X10_7 dX10_trip_17 ?_
    refine j_iconst J (1) dX10_trip_20 ?_
    refine j_isub J dX10_trip_21 ?_
    refine k_X10_in (v := a) (lo := 0) (hi := (σ 18 0) - 1) (σ := σ) hD (show rg a from by unfold rg; omega) (show rg 0 from by unfold rg; omega) (show rg ((σ 18 0) - 1) from by unfold rg; omega) J hw hl.1 lk_X10_69 ⟨Nat.le_of_ble_eq_true rfl, Nat.le_of_ble_eq_true rfl⟩ (Nat.le_of_ble_eq_true rfl) dX10_trip_22 (fun H locs hw => ?_)
    refine j_ifeqB J 61 dX10_trip_25 (by decide) (fun (h_2 : ¬ (0 ≤ a ∧ a ≤ ((σ 18 0) - 1))) => ?_) (fun (h_2 : 0 ≤ a ∧ a ≤ ((σ 18 0) - 1)) => ?_)
    · refine j_iconst J (-1) dX10_trip_61 ?_
      exact fin _ (σ) _ _ _ _ dX10_trip_62 rfl (by first | (unfold tripS; (repeat (first | rw [if_pos (by omega)] | rw [if_neg (by omega)])); exact ⟨rfl, Eqp.rf⟩) | (exfalso; omega)) hw
    · refine j_iload_n J dX10_trip_28 rfl (lv_at hl 3 rfl) ?_
      refine j_iconst J (0) dX10_trip_29 ?_
      refine j_aload_n J dX10_trip_30 rfl (lv_at hl 0 rfl) ?_
      refine mg_10_0 J hw lk_X10_7 dX10_trip_31 ?_
      refine j_iconst J (1) dX10_trip_34 ?_
      refine j_isub J dX10_trip_35 ?_
      refine k_X10_in (v := b) (lo := 0) (hi := (σ 18 0) - 1) (σ := σ) hD (show rg b from by unfold rg; omega) (show rg 0 from by unfold rg; omega) (show rg ((σ 18 0) - 1) from by unfold rg; omega) J hw hl.1 lk_X10_69 ⟨Nat.le_of_ble_eq_true rfl, Nat.le_of_ble_eq_true rfl⟩ (Nat.le_of_ble_eq_true rfl) dX10_trip_36 (fun H locs hw => ?_)
      refine j_ifeqB J 61 dX10_trip_39 (by decide) (fun (h_3 : ¬ (0 ≤ b ∧ b ≤ ((σ 18 0) - 1))) => ?_) (fun (h_3 : 0 ≤ b ∧ b ≤ ((σ 18 0) - 1)) => ?_)
      · refine j_iconst J (-1) dX10_trip_61 ?_
        exact fin _ (σ) _ _ _ _ dX10_trip_62 rfl (by first | (unfold tripS; (repeat (first | rw [if_pos (by omega)] | rw [if_neg (by omega)])); exact ⟨rfl, Eqp.rf⟩) | (exfalso; omega)) hw
      · refine j_iload J dX10_trip_42 (lv_at hl 4 rfl) ?_
        refine j_iconst J (0) dX10_trip_44 ?_
        refine j_bipush J (30) dX10_trip_45 (by decide) ?_
        refine k_X10_in (v := t) (lo := 0) (hi := 30) (σ := σ) hD (show rg t from by unfold rg; omega) (show rg 0 from by unfold rg; omega) (show rg 30 from by unfold rg; omega) J hw hl.1 lk_X10_69 ⟨Nat.le_of_ble_eq_true rfl, Nat.le_of_ble_eq_true rfl⟩ (Nat.le_of_ble_eq_true rfl) dX10_trip_47 (fun H locs hw => ?_)
        refine j_ifeqB J 61 dX10_trip_50 (by decide) (fun (h_4 : ¬ (0 ≤ t ∧ t ≤ 30)) => ?_) (fun (h_4 : 0 ≤ t ∧ t ≤ 30) => ?_)
        · refine j_iconst J (-1) dX10_trip_61 ?_
          exact fin _ (σ) _ _ _ _ dX10_trip_62 rfl (by first | (unfold tripS; (repeat (first | rw [if_pos (by omega)] | rw [if_neg (by omega)])); exact ⟨rfl, Eqp.rf⟩) | (exfalso; omega)) hw
        · refine j_iload J dX10_trip_53 (lv_at hl 5 rfl) ?_
          refine k_X10_isSpot (sp := sp) (σ := σ) hD (show rg sp from by unfold rg; omega) J hw hl.1 lk_X10_101 ⟨Nat.le_of_ble_eq_true rfl, Nat.le_of_ble_eq_true rfl⟩ (Nat.le_of_ble_eq_true rfl) dX10_trip_55 (fun H locs hw => ?_)
          refine j_ifneB J 63 dX10_trip_58 (by decide) (fun (h_5 : 0 ≤ sp ∧ sp ≤ 2) => ?_) (fun (h_5 : ¬ (0 ≤ sp ∧ sp ≤ 2)) => ?_)
          · have pf := pl_facts (row := row) (a := a) (b := b) (t := t) hB (by omega) (by omega)
            have pm := pl_more (row := row) (a := a) (b := b) (t := t) hB (by omega) (by omega) (by omega)
            have hE := pf.1
            have hPr := pf.2.1
            have b10 := hB.held sp; have b11 := hB.most sp; have b12 := hB.away sp (by omega) (by omega)
            refine j_aload_n J dX10_trip_63 rfl (lv_at hl 0 rfl) ?_
            refine j_iload_n J dX10_trip_64 rfl (lv_at hl 1 rfl) ?_
            refine j_iload_n J dX10_trip_65 rfl (lv_at hl 2 rfl) ?_
            refine j_iload_n J dX10_trip_66 rfl (lv_at hl 3 rfl) ?_
            refine j_aload_n J dX10_trip_67 rfl (lv_at hl 0 rfl) ?_
            refine mg_10_12 J hw lk_X10_47 dX10_trip_68 ?_
            refine j_iload J dX10_trip_71 (lv_at hl 4 rfl) ?_
            refine ma_ld_8 J hw (show 0 ≤ t ∧ t < ((31 : Nat) : Int) from by omega) dX10_trip_73 ?_
            refine k_X10_digs (row := row) (a := a) (b := b) (w := σ 8 t) (σ := σ) hD (show Bd σ from hB) (show 0 ≤ row ∧ row < σ 18 1 from by omega) (show 0 ≤ a ∧ a < σ 18 0 from by omega) (show 0 ≤ b ∧ b < σ 18 0 from by omega) (show 0 ≤ (σ 8 t) ∧ (σ 8 t) ≤ 200 from bt) J hw hl.1 lk_X10_121 ⟨Nat.le_of_ble_eq_true rfl, Nat.le_of_ble_eq_true rfl⟩ (Nat.le_of_ble_eq_true rfl) dX10_trip_74 (fun ld1 τ1 H locs hp1 hw => ?_)
            have hld : ld1 = plS σ row a b t 18 11 := hp1.1
            have hMR : MR σ row (plS σ row a b t) τ1 := hp1.2
            subst hld
            have hE1 := hMR.1
            have hB1 := hB.eqp hE1
            have e7 : τ1 18 7 = σ 18 7 := qs hE1 7 (by decide)
            have e02 := q0 hE1 2; have e03 := q0 hE1 3
            have e10 := q10 hE1 sp; have e11 := q11 hE1 sp; have e12 := q12 hE1 sp
            have d0 : τ1 18 0 = σ 18 0 := qs hE1 0 (by decide)
            have d1 : τ1 18 1 = σ 18 1 := qs hE1 1 (by decide)
            have d01 : τ1 18 0 * τ1 18 1 = σ 18 0 * σ 18 1 := by rw [d0, d1]
            have hla := hMR.2.2.2
            have pm1 := pm.1; have pl0 := pf.2.2.2
            refine j_istore J (lv' := [(6, .int (I (plS σ row a b t 18 11))), (0, .ref (ad 0)), (1, .int (I row)), (2, .int (I a)), (3, .int (I b)), (4, .int (I t)), (5, .int (I sp))]) hl dX10_trip_77 (by decide) rfl (fun ls hl => ?_)
            refine j_aload_n J dX10_trip_79 rfl (lv_at hl 1 rfl) ?_
            refine j_aload_n J dX10_trip_80 rfl (lv_at hl 1 rfl) ?_
            refine mg_10_19 J hw lk_X10_76 dX10_trip_81 ?_
            refine j_iconst J (1) dX10_trip_84 ?_
            refine j_iadd J dX10_trip_85 ?_
            refine j_iload J dX10_trip_86 (lv_at hl 0 rfl) ?_
            refine j_if_ne J 100 (show rg (plS σ row a b t 18 11) by unfold rg; omega) dX10_trip_88 (by decide) (fun (h_9 : ¬ (plS σ row a b t 18 11) = 0) => ?_) (fun (h_9 : (plS σ row a b t 18 11) = 0) => ?_)
            · refine j_aload_n J dX10_trip_100 rfl (lv_at hl 1 rfl) ?_
              refine mg_10_7 J hw lk_X10_32 dX10_trip_101 ?_
              refine j_iconst J (3) dX10_trip_104 ?_
              refine ma_ld_0 J hw (show 0 ≤ 3 ∧ 3 < ((5 : Nat) : Int) from by omega) dX10_trip_105 ?_
              refine k_X10_waits (fr := (τ1 18 7) + 1) (dg := τ1 0 3) (σ := τ1) hD (show Bd τ1 from hB1) (show 0 ≤ ((τ1 18 7) + 1) ∧ ((τ1 18 7) + 1) ≤ 10000 from by omega) (show 0 ≤ (τ1 0 3) ∧ (τ1 0 3) ≤ 400 from by omega) J hw hl.1 lk_X10_125 ⟨Nat.le_of_ble_eq_true rfl, Nat.le_of_ble_eq_true rfl⟩ (Nat.le_of_ble_eq_true rfl) dX10_trip_106 (fun H locs hw => ?_)
              rw [wtsS_eqp hE1, e7]
              first | rw [e02] | rw [e03]
              have g1 : -1 ≤ (wtsS σ (σ 18 7 + 1) (σ 0 3)) ∧ (wtsS σ (σ 18 7 + 1) (σ 0 3)) ≤ 12 := wts_rng
              refine j_istore J (lv' := [(7, .int (I (wtsS σ (σ 18 7 + 1) (σ 0 3)))), (6, .int (I (plS σ row a b t 18 11))), (0, .ref (ad 0)), (1, .int (I row)), (2, .int (I a)), (3, .int (I b)), (4, .int (I t)), (5, .int (I sp))]) hl dX10_trip_109 (by decide) rfl (fun ls hl => ?_)
              have hM := hh_M (σ := σ) (ld := plS σ row a b t 18 11) (aw := σ 12 sp) (dg := σ 0 3) hh.1 (by omega) (by first | exact (if_pos (by assumption)).symm | exact (if_neg (by assumption)).symm)
              refine j_iload J dX10_trip_111 (lv_at hl 0 rfl) ?_
              refine j_if_ge J 120 (show rg (wtsS σ (σ 18 7 + 1) (σ 0 3)) by unfold rg; omega) dX10_trip_113 (by decide) (fun (h_10 : 0 ≤ (wtsS σ (σ 18 7 + 1) (σ 0 3))) => ?_) (fun (h_10 : (wtsS σ (σ 18 7 + 1) (σ 0 3)) < 0) => ?_)
              · refine j_aload_n J dX10_trip_120 rfl (lv_at hl 2 rfl) ?_
                refine j_aload_n J dX10_trip_121 rfl (lv_at hl 2 rfl) ?_
                refine mg_10_19 J hw lk_X10_76 dX10_trip_122 ?_
                refine j_iconst J (1) dX10_trip_125 ?_
                refine j_iadd J dX10_trip_126 ?_
                refine j_iload J dX10_trip_127 (lv_at hl 0 rfl) ?_
                refine j_iadd J dX10_trip_129 ?_
                refine j_aload_n J dX10_trip_130 rfl (lv_at hl 2 rfl) ?_
                refine mg_10_10 J hw lk_X10_41 dX10_trip_131 ?_
                refine j_iload J dX10_trip_134 (lv_at hl 7 rfl) ?_
                refine ma_ld_12 J hw (show 0 ≤ sp ∧ sp < ((3 : Nat) : Int) from by omega) dX10_trip_136 ?_
                refine j_iadd J dX10_trip_137 ?_
                refine j_aload_n J dX10_trip_138 rfl (lv_at hl 2 rfl) ?_
                refine mg_10_7 J hw lk_X10_32 dX10_trip_139 ?_
                refine j_iconst J (2) dX10_trip_142 ?_
                refine ma_ld_0 J hw (show 0 ≤ 2 ∧ 2 < ((5 : Nat) : Int) from by omega) dX10_trip_143 ?_
                refine k_X10_waits (fr := (((τ1 18 7) + 1) + (wtsS σ (σ 18 7 + 1) (σ 0 3))) + (τ1 12 sp)) (dg := τ1 0 2) (σ := τ1) hD (show Bd τ1 from hB1) (show 0 ≤ ((((τ1 18 7) + 1) + (wtsS σ (σ 18 7 + 1) (σ 0 3))) + (τ1 12 sp)) ∧ ((((τ1 18 7) + 1) + (wtsS σ (σ 18 7 + 1) (σ 0 3))) + (τ1 12 sp)) ≤ 10000 from by omega) (show 0 ≤ (τ1 0 2) ∧ (τ1 0 2) ≤ 400 from by omega) J hw hl.1 lk_X10_125 ⟨Nat.le_of_ble_eq_true rfl, Nat.le_of_ble_eq_true rfl⟩ (Nat.le_of_ble_eq_true rfl) dX10_trip_144 (fun H locs hw => ?_)
                rw [wtsS_eqp hE1, e7, e12, e02]
                have g2 : -1 ≤ (wtsS σ (((σ 18 7 + 1) + (wtsS σ (σ 18 7 + 1) (σ 0 3))) + σ 12 sp) (σ 0 2)) ∧ (wtsS σ (((σ 18 7 + 1) + (wtsS σ (σ 18 7 + 1) (σ 0 3))) + σ 12 sp) (σ 0 2)) ≤ 12 := by first | exact wts_rng | omega
                refine j_istore J (lv' := [(8, .int (I (wtsS σ (((σ 18 7 + 1) + (wtsS σ (σ 18 7 + 1) (σ 0 3))) + σ 12 sp) (σ 0 2)))), (7, .int (I (wtsS σ (σ 18 7 + 1) (σ 0 3)))), (6, .int (I (plS σ row a b t 18 11))), (0, .ref (ad 0)), (1, .int (I row)), (2, .int (I a)), (3, .int (I b)), (4, .int (I t)), (5, .int (I sp))]) hl dX10_trip_147 (by decide) rfl (fun ls hl => ?_)
                refine j_aload_n J dX10_trip_149 rfl (lv_at hl 3 rfl) ?_
                refine mg_10_11 J hw lk_X10_44 dX10_trip_150 ?_
                refine j_iload J dX10_trip_153 (lv_at hl 8 rfl) ?_
                refine ma_ld_10 J hw (show 0 ≤ sp ∧ sp < ((3 : Nat) : Int) from by omega) dX10_trip_155 ?_
                refine j_iload J dX10_trip_156 (lv_at hl 2 rfl) ?_
                refine j_iadd J dX10_trip_158 ?_
                refine j_aload_n J dX10_trip_159 rfl (lv_at hl 3 rfl) ?_
                refine mg_10_9 J hw lk_X10_38 dX10_trip_160 ?_
                refine j_iload J dX10_trip_163 (lv_at hl 8 rfl) ?_
                refine ma_ld_11 J hw (show 0 ≤ sp ∧ sp < ((3 : Nat) : Int) from by omega) dX10_trip_165 ?_
                refine j_icmp_gt J 174 (show rg ((τ1 10 sp) + (plS σ row a b t 18 11)) by unfold rg; omega) (show rg (τ1 11 sp) by unfold rg; omega) dX10_trip_166 (by decide) (fun (h_11 : (τ1 11 sp) < ((τ1 10 sp) + (plS σ row a b t 18 11))) => ?_) (fun (h_11 : ((τ1 10 sp) + (plS σ row a b t 18 11)) ≤ (τ1 11 sp)) => ?_)
                · refine j_bipush J (-2) dX10_trip_174 (by decide) ?_
                  exact fin _ (τ1) _ _ _ _ dX10_trip_176 rfl (by unfold tripS; rw [if_pos (show 0 ≤ row ∧ row < σ 18 1 ∧ 0 ≤ a ∧ a < σ 18 0 ∧ 0 ≤ b ∧ b < σ 18 0 ∧ 0 ≤ t ∧ t ≤ 30 ∧ 0 ≤ sp ∧ sp ≤ 2 by omega)]; first | (rw [if_pos (by omega)]; exact ⟨rfl, hE1⟩) | (rw [if_neg (by omega), if_pos (by first | exact hM.1 (by omega) | exact (hM.2 (by omega)).1 (by omega))]; exact ⟨rfl, hE1⟩)) hw
                · refine j_iload J dX10_trip_169 (lv_at hl 0 rfl) ?_
                  refine j_if_ge J 177 (show rg (wtsS σ (((σ 18 7 + 1) + (wtsS σ (σ 18 7 + 1) (σ 0 3))) + σ 12 sp) (σ 0 2)) by unfold rg; omega) dX10_trip_171 (by decide) (fun (h_12 : 0 ≤ (wtsS σ (((σ 18 7 + 1) + (wtsS σ (σ 18 7 + 1) (σ 0 3))) + σ 12 sp) (σ 0 2))) => ?_) (fun (h_12 : (wtsS σ (((σ 18 7 + 1) + (wtsS σ (σ 18 7 + 1) (σ 0 3))) + σ 12 sp) (σ 0 2)) < 0) => ?_)
                  · have hH := (hM.2 (by omega)).2 (by omega)
                    refine j_iconst J (1) dX10_trip_177 ?_
                    refine j_iload J dX10_trip_178 (lv_at hl 1 rfl) ?_
                    refine j_iadd J dX10_trip_180 ?_
                    refine j_iload J dX10_trip_181 (lv_at hl 0 rfl) ?_
                    refine j_iadd J dX10_trip_183 ?_
                    refine j_iconst J (2) dX10_trip_184 ?_
                    refine j_aload_n J dX10_trip_185 rfl (lv_at hl 3 rfl) ?_
                    refine mg_10_10 J hw lk_X10_41 dX10_trip_186 ?_
                    refine j_iload J dX10_trip_189 (lv_at hl 8 rfl) ?_
                    refine ma_ld_12 J hw (show 0 ≤ sp ∧ sp < ((3 : Nat) : Int) from by omega) dX10_trip_191 ?_
                    refine j_imul J dX10_trip_192 ?_
                    refine j_iadd J dX10_trip_193 ?_
                    obtain ⟨al, hal⟩ : ∃ z, z = (((1 + (wtsS σ (σ 18 7 + 1) (σ 0 3))) + (wtsS σ (((σ 18 7 + 1) + (wtsS σ (σ 18 7 + 1) (σ 0 3))) + σ 12 sp) (σ 0 2))) + (2 * (τ1 12 sp))) := ⟨_, rfl⟩
                    rw [← hal]
                    refine j_istore J (lv' := [(9, .int (I al)), (8, .int (I (wtsS σ (((σ 18 7 + 1) + (wtsS σ (σ 18 7 + 1) (σ 0 3))) + σ 12 sp) (σ 0 2)))), (7, .int (I (wtsS σ (σ 18 7 + 1) (σ 0 3)))), (6, .int (I (plS σ row a b t 18 11))), (0, .ref (ad 0)), (1, .int (I row)), (2, .int (I a)), (3, .int (I b)), (4, .int (I t)), (5, .int (I sp))]) hl dX10_trip_194 (by decide) rfl (fun ls hl => ?_)
                    refine j_aload_n J dX10_trip_196 rfl (lv_at hl 4 rfl) ?_
                    refine mg_10_19 J hw lk_X10_76 dX10_trip_197 ?_
                    refine j_iload J dX10_trip_200 (lv_at hl 0 rfl) ?_
                    refine j_iadd J dX10_trip_202 ?_
                    refine j_sipush J (5000) dX10_trip_203 (by decide) ?_
                    refine j_icmp_le J 212 (show rg ((τ1 18 7) + al) by unfold rg; omega) (by unfold rg; omega) dX10_trip_206 (by decide) (fun (h_13 : ((τ1 18 7) + al) ≤ 5000) => ?_) (fun (h_13 : 5000 < ((τ1 18 7) + al)) => ?_)
                    · have hBc := Bd_co (t := t) (s := sp) hB (show 0 ≤ row ∧ row < σ 18 1 by omega) (show 0 ≤ a ∧ a < σ 18 0 by omega) (show 0 ≤ b ∧ b < σ 18 0 by omega) (by omega) (by omega) (by omega)
                      have c7 : coS (plS σ row a b t) t sp 18 7 = σ 18 7 := qs hE 7 (by decide)
                      refine j_iconst J (0) dX10_trip_212 ?_
                      refine j_istore J (lv' := [(10, .int (I 0)), (9, .int (I al)), (8, .int (I (wtsS σ (((σ 18 7 + 1) + (wtsS σ (σ 18 7 + 1) (σ 0 3))) + σ 12 sp) (σ 0 2)))), (7, .int (I (wtsS σ (σ 18 7 + 1) (σ 0 3)))), (6, .int (I (plS σ row a b t 18 11))), (0, .ref (ad 0)), (1, .int (I row)), (2, .int (I a)), (3, .int (I b)), (4, .int (I t)), (5, .int (I sp))]) hl dX10_trip_213 (by decide) rfl (fun ls hl => ?_)
                      have L215 : ∀ n : Nat, ∀ (j : Int), (0 ≤ j ∧ j ≤ σ 18 0 * σ 18 1) → ((σ 18 0 * σ 18 1 - j).toNat) < n → ∀ (H : Heap) (locs : List Loc) (ls : Array Slot), jW D (AD ad 45) s.heap (wsM cI cZ ad (dgM τ1 j)) H locs → lv_has ls 12 [(10, .int (I j)), (0, .ref (ad 0)), (4, .int (I t)), (5, .int (I sp)), (6, .int (I (plS σ row a b t 18 11))), (9, .int (I al))] → W p l e rm_X10_trip s m args below meth c H locs 0 0 Q (F0 m 215 ls []) := by
                        intro n
                        induction n with
                        | zero =>
                          intro j hj0 hm H locs ls hw hl
                          exact absurd hm (Nat.not_lt_zero _)
                        | succ n ih =>
                          intro j hj0 hm H locs ls hw hl
                          have ih215 := ih
                          refine j_iload J dX10_trip_215 (lv_at hl 0 rfl) ?_
                          refine j_aload_n J dX10_trip_217 rfl (lv_at hl 1 rfl) ?_
                          refine mg_10_0 J hw lk_X10_7 dX10_trip_218 ?_
                          refine j_aload_n J dX10_trip_221 rfl (lv_at hl 1 rfl) ?_
                          refine mg_10_1 J hw lk_X10_13 dX10_trip_222 ?_
                          refine j_imul J dX10_trip_225 ?_
                          refine j_icmp_ge J 252 (show rg j by unfold rg; omega) (show rg ((τ1 18 0) * (τ1 18 1)) by unfold rg; omega) dX10_trip_226 (by decide) (fun (h_14 : ((τ1 18 0) * (τ1 18 1)) ≤ j) => ?_) (fun (h_14 : j < ((τ1 18 0) * (τ1 18 1))) => ?_)
                          · rw [show j = σ 18 0 * σ 18 1 by omega] at hw
                            refine j_iconst J (4) dX10_trip_252 ?_
                            have hw : jW D (AD ad 45) s.heap (wsM cI cZ ad (dgM τ1 (σ 18 0 * σ 18 1))) H locs := hw
                            refine j_iload J dX10_trip_253 (lv_at hl 2 rfl) ?_
                            refine j_imul J dX10_trip_255 ?_
                            refine j_iload J dX10_trip_256 (lv_at hl 4 rfl) ?_
                            refine j_isub J dX10_trip_258 ?_
                            refine j_istore J (lv' := [(10, .int (I ((4 * t) - (plS σ row a b t 18 11)))), (0, .ref (ad 0)), (4, .int (I t)), (5, .int (I sp)), (6, .int (I (plS σ row a b t 18 11))), (9, .int (I al))]) hl dX10_trip_259 (by decide) rfl (fun ls hl => ?_)
                            refine j_iload J dX10_trip_261 (lv_at hl 0 rfl) ?_
                            refine j_if_ge J 270 (show rg ((4 * t) - (plS σ row a b t 18 11)) by unfold rg; omega) dX10_trip_263 (by decide) (fun (h_15 : 0 ≤ ((4 * t) - (plS σ row a b t 18 11))) => ?_) (fun (h_15 : ((4 * t) - (plS σ row a b t 18 11)) < 0) => ?_)
                            · refine j_iload J dX10_trip_270 (lv_at hl 0 rfl) ?_
                              refine j_istore J (lv' := [(10, .int (I ((4 * t) - (plS σ row a b t 18 11)))), (0, .ref (ad 0)), (4, .int (I t)), (5, .int (I sp)), (6, .int (I (plS σ row a b t 18 11))), (9, .int (I al))]) hl dX10_trip_272 (by decide) rfl (fun ls hl => ?_)
                              refine j_aload_n J dX10_trip_274 rfl (lv_at hl 1 rfl) ?_
                              refine mg_10_4 J hw lk_X10_23 dX10_trip_275 ?_
                              refine j_aload_n J dX10_trip_278 rfl (lv_at hl 1 rfl) ?_
                              refine mg_10_26 J hw lk_X10_118 dX10_trip_279 ?_
                              refine j_dup2 J dX10_trip_282 rfl rfl ?_
                              refine ma_ld_4 J hw (show 0 ≤ τ1 18 12 ∧ (τ1 18 12) < ((120 : Nat) : Int) from by omega) dX10_trip_283 ?_
                              refine j_iload J dX10_trip_284 (lv_at hl 0 rfl) ?_
                              refine j_iadd J dX10_trip_286 ?_
                              refine ma_st_4 J hw (show 0 ≤ τ1 18 12 ∧ (τ1 18 12) < ((120 : Nat) : Int) from by omega) dX10_trip_287 (fun H locs hw => ?_)
                              refine j_aload_n J dX10_trip_288 rfl (lv_at hl 1 rfl) ?_
                              refine j_dup J dX10_trip_289 rfl ?_
                              refine mg_10_22 J hw lk_X10_85 dX10_trip_290 ?_
                              refine j_iload J dX10_trip_293 (lv_at hl 0 rfl) ?_
                              refine j_iadd J dX10_trip_295 ?_
                              refine ms_10_22 J hw lk_X10_85 dX10_trip_296 (fun H locs hw => ?_)
                              refine j_aload_n J dX10_trip_299 rfl (lv_at hl 1 rfl) ?_
                              refine j_dup J dX10_trip_300 rfl ?_
                              refine mg_10_21 J hw lk_X10_82 dX10_trip_301 ?_
                              refine j_iload J dX10_trip_304 (lv_at hl 4 rfl) ?_
                              refine j_iadd J dX10_trip_306 ?_
                              refine ms_10_21 J hw lk_X10_82 dX10_trip_307 (fun H locs hw => ?_)
                              refine j_aload_n J dX10_trip_310 rfl (lv_at hl 1 rfl) ?_
                              refine mg_10_11 J hw lk_X10_44 dX10_trip_311 ?_
                              refine j_iload J dX10_trip_314 (lv_at hl 3 rfl) ?_
                              refine j_dup2 J dX10_trip_316 rfl rfl ?_
                              refine ma_ld_10 J hw (show 0 ≤ sp ∧ sp < ((3 : Nat) : Int) from by omega) dX10_trip_317 ?_
                              refine j_iload J dX10_trip_318 (lv_at hl 4 rfl) ?_
                              refine j_iadd J dX10_trip_320 ?_
                              refine ma_st_10 J hw (show 0 ≤ sp ∧ sp < ((3 : Nat) : Int) from by omega) dX10_trip_321 (fun H locs hw => ?_)
                              refine j_aload_n J dX10_trip_322 rfl (lv_at hl 1 rfl) ?_
                              refine j_dup J dX10_trip_323 rfl ?_
                              refine mg_10_20 J hw lk_X10_79 dX10_trip_324 ?_
                              refine j_iconst J (1) dX10_trip_327 ?_
                              refine j_iadd J dX10_trip_328 ?_
                              refine ms_10_20 J hw lk_X10_79 dX10_trip_329 (fun H locs hw => ?_)
                              refine j_iconst J (0) dX10_trip_332 ?_
                              refine j_istore J (lv' := [(11, .int (I 0)), (10, .int (I ((4 * t) - (plS σ row a b t 18 11)))), (0, .ref (ad 0)), (4, .int (I t)), (5, .int (I sp)), (6, .int (I (plS σ row a b t 18 11))), (9, .int (I al))]) hl dX10_trip_333 (by decide) rfl (fun ls hl => ?_)
                              have L335 : ∀ n : Nat, ∀ (τ : St) (i : Int), (0 ≤ i ∧ i ≤ al) → (Eqp τ (hrN (coS (plS σ row a b t) t sp) i)) → ((al - i).toNat) < n → ∀ (H : Heap) (locs : List Loc) (ls : Array Slot), jW D (AD ad 45) s.heap (wsM cI cZ ad τ) H locs → lv_has ls 12 [(11, .int (I i)), (0, .ref (ad 0)), (6, .int (I (plS σ row a b t 18 11))), (9, .int (I al))] → W p l e rm_X10_trip s m args below meth c H locs 0 0 Q (F0 m 335 ls []) := by
                                intro n
                                induction n with
                                | zero =>
                                  intro τ i hi0 hE2 hm H locs ls hw hl
                                  exact absurd hm (Nat.not_lt_zero _)
                                | succ n ih =>
                                  intro τ i hi0 hE2 hm H locs ls hw hl
                                  have ih335 := ih
                                  have hf := hrN_facts hBc hi0.1 (by omega)
                                  have e7i : τ 18 7 = σ 18 7 + i := by rw [qs hE2 7 (by decide), hf.2.1]; omega
                                  refine j_iload J dX10_trip_335 (lv_at hl 0 rfl) ?_
                                  refine j_iload J dX10_trip_337 (lv_at hl 3 rfl) ?_
                                  refine j_icmp_ge J 352 (show rg i by unfold rg; omega) (show rg al by unfold rg; omega) dX10_trip_339 (by decide) (fun (h_16 : al ≤ i) => ?_) (fun (h_16 : i < al) => ?_)
                                  · refine j_iload J dX10_trip_352 (lv_at hl 2 rfl) ?_
                                    exact fin _ (τ) _ _ _ _ dX10_trip_354 rfl (by unfold tripS; rw [if_pos (show 0 ≤ row ∧ row < σ 18 1 ∧ 0 ≤ a ∧ a < σ 18 0 ∧ 0 ≤ b ∧ b < σ 18 0 ∧ 0 ≤ t ∧ t ≤ 30 ∧ 0 ≤ sp ∧ sp ≤ 2 by omega), if_neg (by omega), if_neg (by omega), if_neg (by omega)]; exact ⟨rfl, by have e9 : hhS σ (plS σ row a b t 18 11) (σ 12 sp) - σ 18 7 = i := (by omega); rw [e9]; exact hE2⟩) hw
                                  · refine j_aload_n J dX10_trip_342 rfl (lv_at hl 1 rfl) ?_
                                    refine k_X10_passes (σ := τ) hD (show Bd τ from hf.1.eqp hE2) (show τ 18 7 < 5000 from by omega) J hw hl.1 lk_X10_115 ⟨Nat.le_of_ble_eq_true rfl, Nat.le_of_ble_eq_true rfl⟩ (Nat.le_of_ble_eq_true rfl) dX10_trip_343 (fun τ2 H locs hp2 hw => ?_)
                                    refine j_iinc J (lv' := [(11, .int (I (i + 1))), (0, .ref (ad 0)), (6, .int (I (plS σ row a b t 18 11))), (9, .int (I al))]) (k := 0) hl dX10_trip_346 rfl (by decide) rfl (fun ls hl => ?_)
                                    refine j_goto J 335 dX10_trip_349 (by decide) ?_
                                    exact ih335 τ2 (i + 1) (by omega) (by rw [hrN_step hi0.1]; exact hp2.tr (hrS_eqp hE2)) (by omega) _ _ _ hw (lv_sub hl [0, 1, 2, 3] rfl)
                              exact L335 _ (st (st (st (st (st (dgM τ1 (σ 18 0 * σ 18 1)) 4 (τ1 18 12) ((τ1 4 (τ1 18 12)) + ((4 * t) - (plS σ row a b t 18 11)))) 18 3 ((τ1 18 3) + ((4 * t) - (plS σ row a b t 18 11)))) 18 9 ((τ1 18 9) + (plS σ row a b t 18 11))) 10 sp ((τ1 10 sp) + (plS σ row a b t 18 11))) 18 8 ((τ1 18 8) + 1)) 0 (by omega) (show Eqp ((st (st (st (st (st (dgM τ1 (σ 18 0 * σ 18 1)) 4 (τ1 18 12) ((τ1 4 (τ1 18 12)) + ((4 * t) - (plS σ row a b t 18 11)))) 18 3 ((τ1 18 3) + ((4 * t) - (plS σ row a b t 18 11)))) 18 9 ((τ1 18 9) + (plS σ row a b t 18 11))) 10 sp ((τ1 10 sp) + (plS σ row a b t 18 11))) 18 8 ((τ1 18 8) + 1))) (coS (plS σ row a b t) t sp) from co_M hd (show 0 ≤ row ∧ row < σ 18 1 by omega) hMR hE hPr (by omega) rfl) (Nat.lt_succ_self _) _ _ _ hw (lv_sub hl [0, 2, 5, 6] rfl)
                            · refine j_iconst J (0) dX10_trip_266 ?_
                              refine j_goto J 272 dX10_trip_267 (by decide) ?_
                              refine j_istore J (lv' := [(10, .int (I 0)), (0, .ref (ad 0)), (4, .int (I t)), (5, .int (I sp)), (6, .int (I (plS σ row a b t 18 11))), (9, .int (I al))]) hl dX10_trip_272 (by decide) rfl (fun ls hl => ?_)
                              refine j_aload_n J dX10_trip_274 rfl (lv_at hl 1 rfl) ?_
                              refine mg_10_4 J hw lk_X10_23 dX10_trip_275 ?_
                              refine j_aload_n J dX10_trip_278 rfl (lv_at hl 1 rfl) ?_
                              refine mg_10_26 J hw lk_X10_118 dX10_trip_279 ?_
                              refine j_dup2 J dX10_trip_282 rfl rfl ?_
                              refine ma_ld_4 J hw (show 0 ≤ τ1 18 12 ∧ (τ1 18 12) < ((120 : Nat) : Int) from by omega) dX10_trip_283 ?_
                              refine j_iload J dX10_trip_284 (lv_at hl 0 rfl) ?_
                              refine j_iadd J dX10_trip_286 ?_
                              refine ma_st_4 J hw (show 0 ≤ τ1 18 12 ∧ (τ1 18 12) < ((120 : Nat) : Int) from by omega) dX10_trip_287 (fun H locs hw => ?_)
                              refine j_aload_n J dX10_trip_288 rfl (lv_at hl 1 rfl) ?_
                              refine j_dup J dX10_trip_289 rfl ?_
                              refine mg_10_22 J hw lk_X10_85 dX10_trip_290 ?_
                              refine j_iload J dX10_trip_293 (lv_at hl 0 rfl) ?_
                              refine j_iadd J dX10_trip_295 ?_
                              refine ms_10_22 J hw lk_X10_85 dX10_trip_296 (fun H locs hw => ?_)
                              refine j_aload_n J dX10_trip_299 rfl (lv_at hl 1 rfl) ?_
                              refine j_dup J dX10_trip_300 rfl ?_
                              refine mg_10_21 J hw lk_X10_82 dX10_trip_301 ?_
                              refine j_iload J dX10_trip_304 (lv_at hl 4 rfl) ?_
                              refine j_iadd J dX10_trip_306 ?_
                              refine ms_10_21 J hw lk_X10_82 dX10_trip_307 (fun H locs hw => ?_)
                              refine j_aload_n J dX10_trip_310 rfl (lv_at hl 1 rfl) ?_
                              refine mg_10_11 J hw lk_X10_44 dX10_trip_311 ?_
                              refine j_iload J dX10_trip_314 (lv_at hl 3 rfl) ?_
                              refine j_dup2 J dX10_trip_316 rfl rfl ?_
                              refine ma_ld_10 J hw (show 0 ≤ sp ∧ sp < ((3 : Nat) : Int) from by omega) dX10_trip_317 ?_
                              refine j_iload J dX10_trip_318 (lv_at hl 4 rfl) ?_
                              refine j_iadd J dX10_trip_320 ?_
                              refine ma_st_10 J hw (show 0 ≤ sp ∧ sp < ((3 : Nat) : Int) from by omega) dX10_trip_321 (fun H locs hw => ?_)
                              refine j_aload_n J dX10_trip_322 rfl (lv_at hl 1 rfl) ?_
                              refine j_dup J dX10_trip_323 rfl ?_
                              refine mg_10_20 J hw lk_X10_79 dX10_trip_324 ?_
                              refine j_iconst J (1) dX10_trip_327 ?_
                              refine j_iadd J dX10_trip_328 ?_
                              refine ms_10_20 J hw lk_X10_79 dX10_trip_329 (fun H locs hw => ?_)
                              refine j_iconst J (0) dX10_trip_332 ?_
                              refine j_istore J (lv' := [(11, .int (I 0)), (10, .int (I 0)), (0, .ref (ad 0)), (4, .int (I t)), (5, .int (I sp)), (6, .int (I (plS σ row a b t 18 11))), (9, .int (I al))]) hl dX10_trip_333 (by decide) rfl (fun ls hl => ?_)
                              have L335 : ∀ n : Nat, ∀ (τ : St) (i : Int), (0 ≤ i ∧ i ≤ al) → (Eqp τ (hrN (coS (plS σ row a b t) t sp) i)) → ((al - i).toNat) < n → ∀ (H : Heap) (locs : List Loc) (ls : Array Slot), jW D (AD ad 45) s.heap (wsM cI cZ ad τ) H locs → lv_has ls 12 [(11, .int (I i)), (0, .ref (ad 0)), (6, .int (I (plS σ row a b t 18 11))), (9, .int (I al))] → W p l e rm_X10_trip s m args below meth c H locs 0 0 Q (F0 m 335 ls []) := by
                                intro n
                                induction n with
                                | zero =>
                                  intro τ i hi0 hE2 hm H locs ls hw hl
                                  exact absurd hm (Nat.not_lt_zero _)
                                | succ n ih =>
                                  intro τ i hi0 hE2 hm H locs ls hw hl
                                  have ih335 := ih
                                  have hf := hrN_facts hBc hi0.1 (by omega)
                                  have e7i : τ 18 7 = σ 18 7 + i := by rw [qs hE2 7 (by decide), hf.2.1]; omega
                                  refine j_iload J dX10_trip_335 (lv_at hl 0 rfl) ?_
                                  refine j_iload J dX10_trip_337 (lv_at hl 3 rfl) ?_
                                  refine j_icmp_ge J 352 (show rg i by unfold rg; omega) (show rg al by unfold rg; omega) dX10_trip_339 (by decide) (fun (h_20 : al ≤ i) => ?_) (fun (h_20 : i < al) => ?_)
                                  · refine j_iload J dX10_trip_352 (lv_at hl 2 rfl) ?_
                                    exact fin _ (τ) _ _ _ _ dX10_trip_354 rfl (by unfold tripS; rw [if_pos (show 0 ≤ row ∧ row < σ 18 1 ∧ 0 ≤ a ∧ a < σ 18 0 ∧ 0 ≤ b ∧ b < σ 18 0 ∧ 0 ≤ t ∧ t ≤ 30 ∧ 0 ≤ sp ∧ sp ≤ 2 by omega), if_neg (by omega), if_neg (by omega), if_neg (by omega)]; exact ⟨rfl, by have e9 : hhS σ (plS σ row a b t 18 11) (σ 12 sp) - σ 18 7 = i := (by omega); rw [e9]; exact hE2⟩) hw
                                  · refine j_aload_n J dX10_trip_342 rfl (lv_at hl 1 rfl) ?_
                                    refine k_X10_passes (σ := τ) hD (show Bd τ from hf.1.eqp hE2) (show τ 18 7 < 5000 from by omega) J hw hl.1 lk_X10_115 ⟨Nat.le_of_ble_eq_true rfl, Nat.le_of_ble_eq_true rfl⟩ (Nat.le_of_ble_eq_true rfl) dX10_trip_343 (fun τ2 H locs hp2 hw => ?_)
                                    refine j_iinc J (lv' := [(11, .int (I (i + 1))), (0, .ref (ad 0)), (6, .int (I (plS σ row a b t 18 11))), (9, .int (I al))]) (k := 0) hl dX10_trip_346 rfl (by decide) rfl (fun ls hl => ?_)
                                    refine j_goto J 335 dX10_trip_349 (by decide) ?_
                                    exact ih335 τ2 (i + 1) (by omega) (by rw [hrN_step hi0.1]; exact hp2.tr (hrS_eqp hE2)) (by omega) _ _ _ hw (lv_sub hl [0, 1, 2, 3] rfl)
                              exact L335 _ (st (st (st (st (st (dgM τ1 (σ 18 0 * σ 18 1)) 4 (τ1 18 12) ((τ1 4 (τ1 18 12)) + 0)) 18 3 ((τ1 18 3) + 0)) 18 9 ((τ1 18 9) + (plS σ row a b t 18 11))) 10 sp ((τ1 10 sp) + (plS σ row a b t 18 11))) 18 8 ((τ1 18 8) + 1)) 0 (by omega) (show Eqp ((st (st (st (st (st (dgM τ1 (σ 18 0 * σ 18 1)) 4 (τ1 18 12) ((τ1 4 (τ1 18 12)) + 0)) 18 3 ((τ1 18 3) + 0)) 18 9 ((τ1 18 9) + (plS σ row a b t 18 11))) 10 sp ((τ1 10 sp) + (plS σ row a b t 18 11))) 18 8 ((τ1 18 8) + 1))) (coS (plS σ row a b t) t sp) from co_M hd (show 0 ≤ row ∧ row < σ 18 1 by omega) hMR hE hPr (by omega) rfl) (Nat.lt_succ_self _) _ _ _ hw (lv_sub hl [0, 2, 5, 6] rfl)
                          · refine j_aload_n J dX10_trip_229 rfl (lv_at hl 1 rfl) ?_
                            refine mg_10_2 J hw lk_X10_16 dX10_trip_230 ?_
                            refine j_iload J dX10_trip_233 (lv_at hl 0 rfl) ?_
                            refine j_dup2 J dX10_trip_235 rfl rfl ?_
                            refine ma_ld_1 J hw (show 0 ≤ j ∧ j < ((120 : Nat) : Int) from by omega) dX10_trip_236 ?_
                            refine j_aload_n J dX10_trip_237 rfl (lv_at hl 1 rfl) ?_
                            refine mg_10_6 J hw lk_X10_29 dX10_trip_238 ?_
                            refine j_iload J dX10_trip_241 (lv_at hl 0 rfl) ?_
                            refine ma_ld_6 J hw (show 0 ≤ j ∧ j < ((120 : Nat) : Int) from by omega) dX10_trip_243 ?_
                            refine j_iadd J dX10_trip_244 ?_
                            refine ma_st_1 J hw (show 0 ≤ j ∧ j < ((120 : Nat) : Int) from by omega) dX10_trip_245 (fun H locs hw => ?_)
                            refine j_iinc J (lv' := [(10, .int (I (j + 1))), (0, .ref (ad 0)), (4, .int (I t)), (5, .int (I sp)), (6, .int (I (plS σ row a b t 18 11))), (9, .int (I al))]) (k := 0) hl dX10_trip_246 rfl (by decide) rfl (fun ls hl => ?_)
                            refine j_goto J 215 dX10_trip_249 (by decide) ?_
                            exact ih215 (j + 1) (by omega) (by omega) _ _ _ (by rw [← dgM_step hj0.1]; exact hw) (lv_sub hl [0, 1, 2, 3, 4, 5] rfl)
                      exact L215 _ 0 (by omega) (Nat.lt_succ_self _) _ _ _ (by rw [dgM_0]; exact hw) (lv_sub hl [0, 5, 9, 10, 4, 1] rfl)
                    · refine j_bipush J (-3) dX10_trip_209 (by decide) ?_
                      exact fin _ (τ1) _ _ _ _ dX10_trip_211 rfl (by unfold tripS; rw [if_pos (show 0 ≤ row ∧ row < σ 18 1 ∧ 0 ≤ a ∧ a < σ 18 0 ∧ 0 ≤ b ∧ b < σ 18 0 ∧ 0 ≤ t ∧ t ≤ 30 ∧ 0 ≤ sp ∧ sp ≤ 2 by omega), if_neg (by omega), if_neg (by omega), if_pos (by omega)]; exact ⟨rfl, hE1⟩) hw
                  · refine j_bipush J (-2) dX10_trip_174 (by decide) ?_
                    exact fin _ (τ1) _ _ _ _ dX10_trip_176 rfl (by unfold tripS; rw [if_pos (show 0 ≤ row ∧ row < σ 18 1 ∧ 0 ≤ a ∧ a < σ 18 0 ∧ 0 ≤ b ∧ b < σ 18 0 ∧ 0 ≤ t ∧ t ≤ 30 ∧ 0 ≤ sp ∧ sp ≤ 2 by omega)]; first | (rw [if_pos (by omega)]; exact ⟨rfl, hE1⟩) | (rw [if_neg (by omega), if_pos (by first | exact hM.1 (by omega) | exact (hM.2 (by omega)).1 (by omega))]; exact ⟨rfl, hE1⟩)) hw
              · refine j_iconst J (-1) dX10_trip_116 ?_
                refine j_goto J 147 dX10_trip_117 (by decide) ?_
                have g2 : -1 ≤ (-1) ∧ (-1) ≤ 12 := by first | exact wts_rng | omega
                refine j_istore J (lv' := [(8, .int (I (-1))), (7, .int (I (wtsS σ (σ 18 7 + 1) (σ 0 3)))), (6, .int (I (plS σ row a b t 18 11))), (0, .ref (ad 0)), (1, .int (I row)), (2, .int (I a)), (3, .int (I b)), (4, .int (I t)), (5, .int (I sp))]) hl dX10_trip_147 (by decide) rfl (fun ls hl => ?_)
                refine j_aload_n J dX10_trip_149 rfl (lv_at hl 3 rfl) ?_
                refine mg_10_11 J hw lk_X10_44 dX10_trip_150 ?_
                refine j_iload J dX10_trip_153 (lv_at hl 8 rfl) ?_
                refine ma_ld_10 J hw (show 0 ≤ sp ∧ sp < ((3 : Nat) : Int) from by omega) dX10_trip_155 ?_
                refine j_iload J dX10_trip_156 (lv_at hl 2 rfl) ?_
                refine j_iadd J dX10_trip_158 ?_
                refine j_aload_n J dX10_trip_159 rfl (lv_at hl 3 rfl) ?_
                refine mg_10_9 J hw lk_X10_38 dX10_trip_160 ?_
                refine j_iload J dX10_trip_163 (lv_at hl 8 rfl) ?_
                refine ma_ld_11 J hw (show 0 ≤ sp ∧ sp < ((3 : Nat) : Int) from by omega) dX10_trip_165 ?_
                refine j_icmp_gt J 174 (show rg ((τ1 10 sp) + (plS σ row a b t 18 11)) by unfold rg; omega) (show rg (τ1 11 sp) by unfold rg; omega) dX10_trip_166 (by decide) (fun (h_24 : (τ1 11 sp) < ((τ1 10 sp) + (plS σ row a b t 18 11))) => ?_) (fun (h_24 : ((τ1 10 sp) + (plS σ row a b t 18 11)) ≤ (τ1 11 sp)) => ?_)
                · refine j_bipush J (-2) dX10_trip_174 (by decide) ?_
                  exact fin _ (τ1) _ _ _ _ dX10_trip_176 rfl (by unfold tripS; rw [if_pos (show 0 ≤ row ∧ row < σ 18 1 ∧ 0 ≤ a ∧ a < σ 18 0 ∧ 0 ≤ b ∧ b < σ 18 0 ∧ 0 ≤ t ∧ t ≤ 30 ∧ 0 ≤ sp ∧ sp ≤ 2 by omega)]; first | (rw [if_pos (by omega)]; exact ⟨rfl, hE1⟩) | (rw [if_neg (by omega), if_pos (by first | exact hM.1 (by omega) | exact (hM.2 (by omega)).1 (by omega))]; exact ⟨rfl, hE1⟩)) hw
                · refine j_iload J dX10_trip_169 (lv_at hl 0 rfl) ?_
                  refine j_if_ge J 177 (by unfold rg; omega) dX10_trip_171 (by decide) (fun (h_25 : 0 ≤ (-1)) => absurd h_25 (by omega)) (fun (h_25 : (-1) < 0) => ?_)
                  refine j_bipush J (-2) dX10_trip_174 (by decide) ?_
                  exact fin _ (τ1) _ _ _ _ dX10_trip_176 rfl (by unfold tripS; rw [if_pos (show 0 ≤ row ∧ row < σ 18 1 ∧ 0 ≤ a ∧ a < σ 18 0 ∧ 0 ≤ b ∧ b < σ 18 0 ∧ 0 ≤ t ∧ t ≤ 30 ∧ 0 ≤ sp ∧ sp ≤ 2 by omega)]; first | (rw [if_pos (by omega)]; exact ⟨rfl, hE1⟩) | (rw [if_neg (by omega), if_pos (by first | exact hM.1 (by omega) | exact (hM.2 (by omega)).1 (by omega))]; exact ⟨rfl, hE1⟩)) hw
            · refine j_aload_n J dX10_trip_91 rfl (lv_at hl 1 rfl) ?_
              refine mg_10_7 J hw lk_X10_32 dX10_trip_92 ?_
              refine j_iconst J (2) dX10_trip_95 ?_
              refine ma_ld_0 J hw (show 0 ≤ 2 ∧ 2 < ((5 : Nat) : Int) from by omega) dX10_trip_96 ?_
              refine j_goto J 106 dX10_trip_97 (by decide) ?_
              refine k_X10_waits (fr := (τ1 18 7) + 1) (dg := τ1 0 2) (σ := τ1) hD (show Bd τ1 from hB1) (show 0 ≤ ((τ1 18 7) + 1) ∧ ((τ1 18 7) + 1) ≤ 10000 from by omega) (show 0 ≤ (τ1 0 2) ∧ (τ1 0 2) ≤ 400 from by omega) J hw hl.1 lk_X10_125 ⟨Nat.le_of_ble_eq_true rfl, Nat.le_of_ble_eq_true rfl⟩ (Nat.le_of_ble_eq_true rfl) dX10_trip_106 (fun H locs hw => ?_)
              rw [wtsS_eqp hE1, e7]
              first | rw [e02] | rw [e03]
              have g1 : -1 ≤ (wtsS σ (σ 18 7 + 1) (σ 0 2)) ∧ (wtsS σ (σ 18 7 + 1) (σ 0 2)) ≤ 12 := wts_rng
              refine j_istore J (lv' := [(7, .int (I (wtsS σ (σ 18 7 + 1) (σ 0 2)))), (6, .int (I (plS σ row a b t 18 11))), (0, .ref (ad 0)), (1, .int (I row)), (2, .int (I a)), (3, .int (I b)), (4, .int (I t)), (5, .int (I sp))]) hl dX10_trip_109 (by decide) rfl (fun ls hl => ?_)
              have hM := hh_M (σ := σ) (ld := plS σ row a b t 18 11) (aw := σ 12 sp) (dg := σ 0 2) hh.1 (by omega) (by first | exact (if_pos (by assumption)).symm | exact (if_neg (by assumption)).symm)
              refine j_iload J dX10_trip_111 (lv_at hl 0 rfl) ?_
              refine j_if_ge J 120 (show rg (wtsS σ (σ 18 7 + 1) (σ 0 2)) by unfold rg; omega) dX10_trip_113 (by decide) (fun (h_26 : 0 ≤ (wtsS σ (σ 18 7 + 1) (σ 0 2))) => ?_) (fun (h_26 : (wtsS σ (σ 18 7 + 1) (σ 0 2)) < 0) => ?_)
              · refine j_aload_n J dX10_trip_120 rfl (lv_at hl 2 rfl) ?_
                refine j_aload_n J dX10_trip_121 rfl (lv_at hl 2 rfl) ?_
                refine mg_10_19 J hw lk_X10_76 dX10_trip_122 ?_
                refine j_iconst J (1) dX10_trip_125 ?_
                refine j_iadd J dX10_trip_126 ?_
                refine j_iload J dX10_trip_127 (lv_at hl 0 rfl) ?_
                refine j_iadd J dX10_trip_129 ?_
                refine j_aload_n J dX10_trip_130 rfl (lv_at hl 2 rfl) ?_
                refine mg_10_10 J hw lk_X10_41 dX10_trip_131 ?_
                refine j_iload J dX10_trip_134 (lv_at hl 7 rfl) ?_
                refine ma_ld_12 J hw (show 0 ≤ sp ∧ sp < ((3 : Nat) : Int) from by omega) dX10_trip_136 ?_
                refine j_iadd J dX10_trip_137 ?_
                refine j_aload_n J dX10_trip_138 rfl (lv_at hl 2 rfl) ?_
                refine mg_10_7 J hw lk_X10_32 dX10_trip_139 ?_
                refine j_iconst J (2) dX10_trip_142 ?_
                refine ma_ld_0 J hw (show 0 ≤ 2 ∧ 2 < ((5 : Nat) : Int) from by omega) dX10_trip_143 ?_
                refine k_X10_waits (fr := (((τ1 18 7) + 1) + (wtsS σ (σ 18 7 + 1) (σ 0 2))) + (τ1 12 sp)) (dg := τ1 0 2) (σ := τ1) hD (show Bd τ1 from hB1) (show 0 ≤ ((((τ1 18 7) + 1) + (wtsS σ (σ 18 7 + 1) (σ 0 2))) + (τ1 12 sp)) ∧ ((((τ1 18 7) + 1) + (wtsS σ (σ 18 7 + 1) (σ 0 2))) + (τ1 12 sp)) ≤ 10000 from by omega) (show 0 ≤ (τ1 0 2) ∧ (τ1 0 2) ≤ 400 from by omega) J hw hl.1 lk_X10_125 ⟨Nat.le_of_ble_eq_true rfl, Nat.le_of_ble_eq_true rfl⟩ (Nat.le_of_ble_eq_true rfl) dX10_trip_144 (fun H locs hw => ?_)
                rw [wtsS_eqp hE1, e7, e12, e02]
                have g2 : -1 ≤ (wtsS σ (((σ 18 7 + 1) + (wtsS σ (σ 18 7 + 1) (σ 0 2))) + σ 12 sp) (σ 0 2)) ∧ (wtsS σ (((σ 18 7 + 1) + (wtsS σ (σ 18 7 + 1) (σ 0 2))) + σ 12 sp) (σ 0 2)) ≤ 12 := by first | exact wts_rng | omega
                refine j_istore J (lv' := [(8, .int (I (wtsS σ (((σ 18 7 + 1) + (wtsS σ (σ 18 7 + 1) (σ 0 2))) + σ 12 sp) (σ 0 2)))), (7, .int (I (wtsS σ (σ 18 7 + 1) (σ 0 2)))), (6, .int (I (plS σ row a b t 18 11))), (0, .ref (ad 0)), (1, .int (I row)), (2, .int (I a)), (3, .int (I b)), (4, .int (I t)), (5, .int (I sp))]) hl dX10_trip_147 (by decide) rfl (fun ls hl => ?_)
                refine j_aload_n J dX10_trip_149 rfl (lv_at hl 3 rfl) ?_
                refine mg_10_11 J hw lk_X10_44 dX10_trip_150 ?_
                refine j_iload J dX10_trip_153 (lv_at hl 8 rfl) ?_
                refine ma_ld_10 J hw (show 0 ≤ sp ∧ sp < ((3 : Nat) : Int) from by omega) dX10_trip_155 ?_
                refine j_iload J dX10_trip_156 (lv_at hl 2 rfl) ?_
                refine j_iadd J dX10_trip_158 ?_
                refine j_aload_n J dX10_trip_159 rfl (lv_at hl 3 rfl) ?_
                refine mg_10_9 J hw lk_X10_38 dX10_trip_160 ?_
                refine j_iload J dX10_trip_163 (lv_at hl 8 rfl) ?_
                refine ma_ld_11 J hw (show 0 ≤ sp ∧ sp < ((3 : Nat) : Int) from by omega) dX10_trip_165 ?_
                refine j_icmp_gt J 174 (show rg ((τ1 10 sp) + (plS σ row a b t 18 11)) by unfold rg; omega) (show rg (τ1 11 sp) by unfold rg; omega) dX10_trip_166 (by decide) (fun (h_27 : (τ1 11 sp) < ((τ1 10 sp) + (plS σ row a b t 18 11))) => ?_) (fun (h_27 : ((τ1 10 sp) + (plS σ row a b t 18 11)) ≤ (τ1 11 sp)) => ?_)
                · refine j_bipush J (-2) dX10_trip_174 (by decide) ?_
                  exact fin _ (τ1) _ _ _ _ dX10_trip_176 rfl (by unfold tripS; rw [if_pos (show 0 ≤ row ∧ row < σ 18 1 ∧ 0 ≤ a ∧ a < σ 18 0 ∧ 0 ≤ b ∧ b < σ 18 0 ∧ 0 ≤ t ∧ t ≤ 30 ∧ 0 ≤ sp ∧ sp ≤ 2 by omega)]; first | (rw [if_pos (by omega)]; exact ⟨rfl, hE1⟩) | (rw [if_neg (by omega), if_pos (by first | exact hM.1 (by omega) | exact (hM.2 (by omega)).1 (by omega))]; exact ⟨rfl, hE1⟩)) hw
                · refine j_iload J dX10_trip_169 (lv_at hl 0 rfl) ?_
                  refine j_if_ge J 177 (show rg (wtsS σ (((σ 18 7 + 1) + (wtsS σ (σ 18 7 + 1) (σ 0 2))) + σ 12 sp) (σ 0 2)) by unfold rg; omega) dX10_trip_171 (by decide) (fun (h_28 : 0 ≤ (wtsS σ (((σ 18 7 + 1) + (wtsS σ (σ 18 7 + 1) (σ 0 2))) + σ 12 sp) (σ 0 2))) => ?_) (fun (h_28 : (wtsS σ (((σ 18 7 + 1) + (wtsS σ (σ 18 7 + 1) (σ 0 2))) + σ 12 sp) (σ 0 2)) < 0) => ?_)
                  · have hH := (hM.2 (by omega)).2 (by omega)
                    refine j_iconst J (1) dX10_trip_177 ?_
                    refine j_iload J dX10_trip_178 (lv_at hl 1 rfl) ?_
                    refine j_iadd J dX10_trip_180 ?_
                    refine j_iload J dX10_trip_181 (lv_at hl 0 rfl) ?_
                    refine j_iadd J dX10_trip_183 ?_
                    refine j_iconst J (2) dX10_trip_184 ?_
                    refine j_aload_n J dX10_trip_185 rfl (lv_at hl 3 rfl) ?_
                    refine mg_10_10 J hw lk_X10_41 dX10_trip_186 ?_
                    refine j_iload J dX10_trip_189 (lv_at hl 8 rfl) ?_
                    refine ma_ld_12 J hw (show 0 ≤ sp ∧ sp < ((3 : Nat) : Int) from by omega) dX10_trip_191 ?_
                    refine j_imul J dX10_trip_192 ?_
                    refine j_iadd J dX10_trip_193 ?_
                    obtain ⟨al, hal⟩ : ∃ z, z = (((1 + (wtsS σ (σ 18 7 + 1) (σ 0 2))) + (wtsS σ (((σ 18 7 + 1) + (wtsS σ (σ 18 7 + 1) (σ 0 2))) + σ 12 sp) (σ 0 2))) + (2 * (τ1 12 sp))) := ⟨_, rfl⟩
                    rw [← hal]
                    refine j_istore J (lv' := [(9, .int (I al)), (8, .int (I (wtsS σ (((σ 18 7 + 1) + (wtsS σ (σ 18 7 + 1) (σ 0 2))) + σ 12 sp) (σ 0 2)))), (7, .int (I (wtsS σ (σ 18 7 + 1) (σ 0 2)))), (6, .int (I (plS σ row a b t 18 11))), (0, .ref (ad 0)), (1, .int (I row)), (2, .int (I a)), (3, .int (I b)), (4, .int (I t)), (5, .int (I sp))]) hl dX10_trip_194 (by decide) rfl (fun ls hl => ?_)
                    refine j_aload_n J dX10_trip_196 rfl (lv_at hl 4 rfl) ?_
                    refine mg_10_19 J hw lk_X10_76 dX10_trip_197 ?_
                    refine j_iload J dX10_trip_200 (lv_at hl 0 rfl) ?_
                    refine j_iadd J dX10_trip_202 ?_
                    refine j_sipush J (5000) dX10_trip_203 (by decide) ?_
                    refine j_icmp_le J 212 (show rg ((τ1 18 7) + al) by unfold rg; omega) (by unfold rg; omega) dX10_trip_206 (by decide) (fun (h_29 : ((τ1 18 7) + al) ≤ 5000) => ?_) (fun (h_29 : 5000 < ((τ1 18 7) + al)) => ?_)
                    · have hBc := Bd_co (t := t) (s := sp) hB (show 0 ≤ row ∧ row < σ 18 1 by omega) (show 0 ≤ a ∧ a < σ 18 0 by omega) (show 0 ≤ b ∧ b < σ 18 0 by omega) (by omega) (by omega) (by omega)
                      have c7 : coS (plS σ row a b t) t sp 18 7 = σ 18 7 := qs hE 7 (by decide)
                      refine j_iconst J (0) dX10_trip_212 ?_
                      refine j_istore J (lv' := [(10, .int (I 0)), (9, .int (I al)), (8, .int (I (wtsS σ (((σ 18 7 + 1) + (wtsS σ (σ 18 7 + 1) (σ 0 2))) + σ 12 sp) (σ 0 2)))), (7, .int (I (wtsS σ (σ 18 7 + 1) (σ 0 2)))), (6, .int (I (plS σ row a b t 18 11))), (0, .ref (ad 0)), (1, .int (I row)), (2, .int (I a)), (3, .int (I b)), (4, .int (I t)), (5, .int (I sp))]) hl dX10_trip_213 (by decide) rfl (fun ls hl => ?_)
                      have L215 : ∀ n : Nat, ∀ (j : Int), (0 ≤ j ∧ j ≤ σ 18 0 * σ 18 1) → ((σ 18 0 * σ 18 1 - j).toNat) < n → ∀ (H : Heap) (locs : List Loc) (ls : Array Slot), jW D (AD ad 45) s.heap (wsM cI cZ ad (dgM τ1 j)) H locs → lv_has ls 12 [(10, .int (I j)), (0, .ref (ad 0)), (4, .int (I t)), (5, .int (I sp)), (6, .int (I (plS σ row a b t 18 11))), (9, .int (I al))] → W p l e rm_X10_trip s m args below meth c H locs 0 0 Q (F0 m 215 ls []) := by
                        intro n
                        induction n with
                        | zero =>
                          intro j hj0 hm H locs ls hw hl
                          exact absurd hm (Nat.not_lt_zero _)
                        | succ n ih =>
                          intro j hj0 hm H locs ls hw hl
                          have ih215 := ih
                          refine j_iload J dX10_trip_215 (lv_at hl 0 rfl) ?_
                          refine j_aload_n J dX10_trip_217 rfl (lv_at hl 1 rfl) ?_
                          refine mg_10_0 J hw lk_X10_7 dX10_trip_218 ?_
                          refine j_aload_n J dX10_trip_221 rfl (lv_at hl 1 rfl) ?_
                          refine mg_10_1 J hw lk_X10_13 dX10_trip_222 ?_
                          refine j_imul J dX10_trip_225 ?_
                          refine j_icmp_ge J 252 (show rg j by unfold rg; omega) (show rg ((τ1 18 0) * (τ1 18 1)) by unfold rg; omega) dX10_trip_226 (by decide) (fun (h_30 : ((τ1 18 0) * (τ1 18 1)) ≤ j) => ?_) (fun (h_30 : j < ((τ1 18 0) * (τ1 18 1))) => ?_)
                          · rw [show j = σ 18 0 * σ 18 1 by omega] at hw
                            refine j_iconst J (4) dX10_trip_252 ?_
                            have hw : jW D (AD ad 45) s.heap (wsM cI cZ ad (dgM τ1 (σ 18 0 * σ 18 1))) H locs := hw
                            refine j_iload J dX10_trip_253 (lv_at hl 2 rfl) ?_
                            refine j_imul J dX10_trip_255 ?_
                            refine j_iload J dX10_trip_256 (lv_at hl 4 rfl) ?_
                            refine j_isub J dX10_trip_258 ?_
                            refine j_istore J (lv' := [(10, .int (I ((4 * t) - (plS σ row a b t 18 11)))), (0, .ref (ad 0)), (4, .int (I t)), (5, .int (I sp)), (6, .int (I (plS σ row a b t 18 11))), (9, .int (I al))]) hl dX10_trip_259 (by decide) rfl (fun ls hl => ?_)
                            refine j_iload J dX10_trip_261 (lv_at hl 0 rfl) ?_
                            refine j_if_ge J 270 (show rg ((4 * t) - (plS σ row a b t 18 11)) by unfold rg; omega) dX10_trip_263 (by decide) (fun (h_31 : 0 ≤ ((4 * t) - (plS σ row a b t 18 11))) => ?_) (fun (h_31 : ((4 * t) - (plS σ row a b t 18 11)) < 0) => ?_)
                            · refine j_iload J dX10_trip_270 (lv_at hl 0 rfl) ?_
                              refine j_istore J (lv' := [(10, .int (I ((4 * t) - (plS σ row a b t 18 11)))), (0, .ref (ad 0)), (4, .int (I t)), (5, .int (I sp)), (6, .int (I (plS σ row a b t 18 11))), (9, .int (I al))]) hl dX10_trip_272 (by decide) rfl (fun ls hl => ?_)
                              refine j_aload_n J dX10_trip_274 rfl (lv_at hl 1 rfl) ?_
                              refine mg_10_4 J hw lk_X10_23 dX10_trip_275 ?_
                              refine j_aload_n J dX10_trip_278 rfl (lv_at hl 1 rfl) ?_
                              refine mg_10_26 J hw lk_X10_118 dX10_trip_279 ?_
                              refine j_dup2 J dX10_trip_282 rfl rfl ?_
                              refine ma_ld_4 J hw (show 0 ≤ τ1 18 12 ∧ (τ1 18 12) < ((120 : Nat) : Int) from by omega) dX10_trip_283 ?_
                              refine j_iload J dX10_trip_284 (lv_at hl 0 rfl) ?_
                              refine j_iadd J dX10_trip_286 ?_
                              refine ma_st_4 J hw (show 0 ≤ τ1 18 12 ∧ (τ1 18 12) < ((120 : Nat) : Int) from by omega) dX10_trip_287 (fun H locs hw => ?_)
                              refine j_aload_n J dX10_trip_288 rfl (lv_at hl 1 rfl) ?_
                              refine j_dup J dX10_trip_289 rfl ?_
                              refine mg_10_22 J hw lk_X10_85 dX10_trip_290 ?_
                              refine j_iload J dX10_trip_293 (lv_at hl 0 rfl) ?_
                              refine j_iadd J dX10_trip_295 ?_
                              refine ms_10_22 J hw lk_X10_85 dX10_trip_296 (fun H locs hw => ?_)
                              refine j_aload_n J dX10_trip_299 rfl (lv_at hl 1 rfl) ?_
                              refine j_dup J dX10_trip_300 rfl ?_
                              refine mg_10_21 J hw lk_X10_82 dX10_trip_301 ?_
                              refine j_iload J dX10_trip_304 (lv_at hl 4 rfl) ?_
                              refine j_iadd J dX10_trip_306 ?_
                              refine ms_10_21 J hw lk_X10_82 dX10_trip_307 (fun H locs hw => ?_)
                              refine j_aload_n J dX10_trip_310 rfl (lv_at hl 1 rfl) ?_
                              refine mg_10_11 J hw lk_X10_44 dX10_trip_311 ?_
                              refine j_iload J dX10_trip_314 (lv_at hl 3 rfl) ?_
                              refine j_dup2 J dX10_trip_316 rfl rfl ?_
                              refine ma_ld_10 J hw (show 0 ≤ sp ∧ sp < ((3 : Nat) : Int) from by omega) dX10_trip_317 ?_
                              refine j_iload J dX10_trip_318 (lv_at hl 4 rfl) ?_
                              refine j_iadd J dX10_trip_320 ?_
                              refine ma_st_10 J hw (show 0 ≤ sp ∧ sp < ((3 : Nat) : Int) from by omega) dX10_trip_321 (fun H locs hw => ?_)
                              refine j_aload_n J dX10_trip_322 rfl (lv_at hl 1 rfl) ?_
                              refine j_dup J dX10_trip_323 rfl ?_
                              refine mg_10_20 J hw lk_X10_79 dX10_trip_324 ?_
                              refine j_iconst J (1) dX10_trip_327 ?_
                              refine j_iadd J dX10_trip_328 ?_
                              refine ms_10_20 J hw lk_X10_79 dX10_trip_329 (fun H locs hw => ?_)
                              refine j_iconst J (0) dX10_trip_332 ?_
                              refine j_istore J (lv' := [(11, .int (I 0)), (10, .int (I ((4 * t) - (plS σ row a b t 18 11)))), (0, .ref (ad 0)), (4, .int (I t)), (5, .int (I sp)), (6, .int (I (plS σ row a b t 18 11))), (9, .int (I al))]) hl dX10_trip_333 (by decide) rfl (fun ls hl => ?_)
                              have L335 : ∀ n : Nat, ∀ (τ : St) (i : Int), (0 ≤ i ∧ i ≤ al) → (Eqp τ (hrN (coS (plS σ row a b t) t sp) i)) → ((al - i).toNat) < n → ∀ (H : Heap) (locs : List Loc) (ls : Array Slot), jW D (AD ad 45) s.heap (wsM cI cZ ad τ) H locs → lv_has ls 12 [(11, .int (I i)), (0, .ref (ad 0)), (6, .int (I (plS σ row a b t 18 11))), (9, .int (I al))] → W p l e rm_X10_trip s m args below meth c H locs 0 0 Q (F0 m 335 ls []) := by
                                intro n
                                induction n with
                                | zero =>
                                  intro τ i hi0 hE2 hm H locs ls hw hl
                                  exact absurd hm (Nat.not_lt_zero _)
                                | succ n ih =>
                                  intro τ i hi0 hE2 hm H locs ls hw hl
                                  have ih335 := ih
                                  have hf := hrN_facts hBc hi0.1 (by omega)
                                  have e7i : τ 18 7 = σ 18 7 + i := by rw [qs hE2 7 (by decide), hf.2.1]; omega
                                  refine j_iload J dX10_trip_335 (lv_at hl 0 rfl) ?_
                                  refine j_iload J dX10_trip_337 (lv_at hl 3 rfl) ?_
                                  refine j_icmp_ge J 352 (show rg i by unfold rg; omega) (show rg al by unfold rg; omega) dX10_trip_339 (by decide) (fun (h_32 : al ≤ i) => ?_) (fun (h_32 : i < al) => ?_)
                                  · refine j_iload J dX10_trip_352 (lv_at hl 2 rfl) ?_
                                    exact fin _ (τ) _ _ _ _ dX10_trip_354 rfl (by unfold tripS; rw [if_pos (show 0 ≤ row ∧ row < σ 18 1 ∧ 0 ≤ a ∧ a < σ 18 0 ∧ 0 ≤ b ∧ b < σ 18 0 ∧ 0 ≤ t ∧ t ≤ 30 ∧ 0 ≤ sp ∧ sp ≤ 2 by omega), if_neg (by omega), if_neg (by omega), if_neg (by omega)]; exact ⟨rfl, by have e9 : hhS σ (plS σ row a b t 18 11) (σ 12 sp) - σ 18 7 = i := (by omega); rw [e9]; exact hE2⟩) hw
                                  · refine j_aload_n J dX10_trip_342 rfl (lv_at hl 1 rfl) ?_
                                    refine k_X10_passes (σ := τ) hD (show Bd τ from hf.1.eqp hE2) (show τ 18 7 < 5000 from by omega) J hw hl.1 lk_X10_115 ⟨Nat.le_of_ble_eq_true rfl, Nat.le_of_ble_eq_true rfl⟩ (Nat.le_of_ble_eq_true rfl) dX10_trip_343 (fun τ2 H locs hp2 hw => ?_)
                                    refine j_iinc J (lv' := [(11, .int (I (i + 1))), (0, .ref (ad 0)), (6, .int (I (plS σ row a b t 18 11))), (9, .int (I al))]) (k := 0) hl dX10_trip_346 rfl (by decide) rfl (fun ls hl => ?_)
                                    refine j_goto J 335 dX10_trip_349 (by decide) ?_
                                    exact ih335 τ2 (i + 1) (by omega) (by rw [hrN_step hi0.1]; exact hp2.tr (hrS_eqp hE2)) (by omega) _ _ _ hw (lv_sub hl [0, 1, 2, 3] rfl)
                              exact L335 _ (st (st (st (st (st (dgM τ1 (σ 18 0 * σ 18 1)) 4 (τ1 18 12) ((τ1 4 (τ1 18 12)) + ((4 * t) - (plS σ row a b t 18 11)))) 18 3 ((τ1 18 3) + ((4 * t) - (plS σ row a b t 18 11)))) 18 9 ((τ1 18 9) + (plS σ row a b t 18 11))) 10 sp ((τ1 10 sp) + (plS σ row a b t 18 11))) 18 8 ((τ1 18 8) + 1)) 0 (by omega) (show Eqp ((st (st (st (st (st (dgM τ1 (σ 18 0 * σ 18 1)) 4 (τ1 18 12) ((τ1 4 (τ1 18 12)) + ((4 * t) - (plS σ row a b t 18 11)))) 18 3 ((τ1 18 3) + ((4 * t) - (plS σ row a b t 18 11)))) 18 9 ((τ1 18 9) + (plS σ row a b t 18 11))) 10 sp ((τ1 10 sp) + (plS σ row a b t 18 11))) 18 8 ((τ1 18 8) + 1))) (coS (plS σ row a b t) t sp) from co_M hd (show 0 ≤ row ∧ row < σ 18 1 by omega) hMR hE hPr (by omega) rfl) (Nat.lt_succ_self _) _ _ _ hw (lv_sub hl [0, 2, 5, 6] rfl)
                            · refine j_iconst J (0) dX10_trip_266 ?_
                              refine j_goto J 272 dX10_trip_267 (by decide) ?_
                              refine j_istore J (lv' := [(10, .int (I 0)), (0, .ref (ad 0)), (4, .int (I t)), (5, .int (I sp)), (6, .int (I (plS σ row a b t 18 11))), (9, .int (I al))]) hl dX10_trip_272 (by decide) rfl (fun ls hl => ?_)
                              refine j_aload_n J dX10_trip_274 rfl (lv_at hl 1 rfl) ?_
                              refine mg_10_4 J hw lk_X10_23 dX10_trip_275 ?_
                              refine j_aload_n J dX10_trip_278 rfl (lv_at hl 1 rfl) ?_
                              refine mg_10_26 J hw lk_X10_118 dX10_trip_279 ?_
                              refine j_dup2 J dX10_trip_282 rfl rfl ?_
                              refine ma_ld_4 J hw (show 0 ≤ τ1 18 12 ∧ (τ1 18 12) < ((120 : Nat) : Int) from by omega) dX10_trip_283 ?_
                              refine j_iload J dX10_trip_284 (lv_at hl 0 rfl) ?_
                              refine j_iadd J dX10_trip_286 ?_
                              refine ma_st_4 J hw (show 0 ≤ τ1 18 12 ∧ (τ1 18 12) < ((120 : Nat) : Int) from by omega) dX10_trip_287 (fun H locs hw => ?_)
                              refine j_aload_n J dX10_trip_288 rfl (lv_at hl 1 rfl) ?_
                              refine j_dup J dX10_trip_289 rfl ?_
                              refine mg_10_22 J hw lk_X10_85 dX10_trip_290 ?_
                              refine j_iload J dX10_trip_293 (lv_at hl 0 rfl) ?_
                              refine j_iadd J dX10_trip_295 ?_
                              refine ms_10_22 J hw lk_X10_85 dX10_trip_296 (fun H locs hw => ?_)
                              refine j_aload_n J dX10_trip_299 rfl (lv_at hl 1 rfl) ?_
                              refine j_dup J dX10_trip_300 rfl ?_
                              refine mg_10_21 J hw lk_X10_82 dX10_trip_301 ?_
                              refine j_iload J dX10_trip_304 (lv_at hl 4 rfl) ?_
                              refine j_iadd J dX10_trip_306 ?_
                              refine ms_10_21 J hw lk_X10_82 dX10_trip_307 (fun H locs hw => ?_)
                              refine j_aload_n J dX10_trip_310 rfl (lv_at hl 1 rfl) ?_
                              refine mg_10_11 J hw lk_X10_44 dX10_trip_311 ?_
                              refine j_iload J dX10_trip_314 (lv_at hl 3 rfl) ?_
                              refine j_dup2 J dX10_trip_316 rfl rfl ?_
                              refine ma_ld_10 J hw (show 0 ≤ sp ∧ sp < ((3 : Nat) : Int) from by omega) dX10_trip_317 ?_
                              refine j_iload J dX10_trip_318 (lv_at hl 4 rfl) ?_
                              refine j_iadd J dX10_trip_320 ?_
                              refine ma_st_10 J hw (show 0 ≤ sp ∧ sp < ((3 : Nat) : Int) from by omega) dX10_trip_321 (fun H locs hw => ?_)
                              refine j_aload_n J dX10_trip_322 rfl (lv_at hl 1 rfl) ?_
                              refine j_dup J dX10_trip_323 rfl ?_
                              refine mg_10_20 J hw lk_X10_79 dX10_trip_324 ?_
                              refine j_iconst J (1) dX10_trip_327 ?_
                              refine j_iadd J dX10_trip_328 ?_
                              refine ms_10_20 J hw lk_X10_79 dX10_trip_329 (fun H locs hw => ?_)
                              refine j_iconst J (0) dX10_trip_332 ?_
                              refine j_istore J (lv' := [(11, .int (I 0)), (10, .int (I 0)), (0, .ref (ad 0)), (4, .int (I t)), (5, .int (I sp)), (6, .int (I (plS σ row a b t 18 11))), (9, .int (I al))]) hl dX10_trip_333 (by decide) rfl (fun ls hl => ?_)
                              have L335 : ∀ n : Nat, ∀ (τ : St) (i : Int), (0 ≤ i ∧ i ≤ al) → (Eqp τ (hrN (coS (plS σ row a b t) t sp) i)) → ((al - i).toNat) < n → ∀ (H : Heap) (locs : List Loc) (ls : Array Slot), jW D (AD ad 45) s.heap (wsM cI cZ ad τ) H locs → lv_has ls 12 [(11, .int (I i)), (0, .ref (ad 0)), (6, .int (I (plS σ row a b t 18 11))), (9, .int (I al))] → W p l e rm_X10_trip s m args below meth c H locs 0 0 Q (F0 m 335 ls []) := by
                                intro n
                                induction n with
                                | zero =>
                                  intro τ i hi0 hE2 hm H locs ls hw hl
                                  exact absurd hm (Nat.not_lt_zero _)
                                | succ n ih =>
                                  intro τ i hi0 hE2 hm H locs ls hw hl
                                  have ih335 := ih
                                  have hf := hrN_facts hBc hi0.1 (by omega)
                                  have e7i : τ 18 7 = σ 18 7 + i := by rw [qs hE2 7 (by decide), hf.2.1]; omega
                                  refine j_iload J dX10_trip_335 (lv_at hl 0 rfl) ?_
                                  refine j_iload J dX10_trip_337 (lv_at hl 3 rfl) ?_
                                  refine j_icmp_ge J 352 (show rg i by unfold rg; omega) (show rg al by unfold rg; omega) dX10_trip_339 (by decide) (fun (h_36 : al ≤ i) => ?_) (fun (h_36 : i < al) => ?_)
                                  · refine j_iload J dX10_trip_352 (lv_at hl 2 rfl) ?_
                                    exact fin _ (τ) _ _ _ _ dX10_trip_354 rfl (by unfold tripS; rw [if_pos (show 0 ≤ row ∧ row < σ 18 1 ∧ 0 ≤ a ∧ a < σ 18 0 ∧ 0 ≤ b ∧ b < σ 18 0 ∧ 0 ≤ t ∧ t ≤ 30 ∧ 0 ≤ sp ∧ sp ≤ 2 by omega), if_neg (by omega), if_neg (by omega), if_neg (by omega)]; exact ⟨rfl, by have e9 : hhS σ (plS σ row a b t 18 11) (σ 12 sp) - σ 18 7 = i := (by omega); rw [e9]; exact hE2⟩) hw
                                  · refine j_aload_n J dX10_trip_342 rfl (lv_at hl 1 rfl) ?_
                                    refine k_X10_passes (σ := τ) hD (show Bd τ from hf.1.eqp hE2) (show τ 18 7 < 5000 from by omega) J hw hl.1 lk_X10_115 ⟨Nat.le_of_ble_eq_true rfl, Nat.le_of_ble_eq_true rfl⟩ (Nat.le_of_ble_eq_true rfl) dX10_trip_343 (fun τ2 H locs hp2 hw => ?_)
                                    refine j_iinc J (lv' := [(11, .int (I (i + 1))), (0, .ref (ad 0)), (6, .int (I (plS σ row a b t 18 11))), (9, .int (I al))]) (k := 0) hl dX10_trip_346 rfl (by decide) rfl (fun ls hl => ?_)
                                    refine j_goto J 335 dX10_trip_349 (by decide) ?_
                                    exact ih335 τ2 (i + 1) (by omega) (by rw [hrN_step hi0.1]; exact hp2.tr (hrS_eqp hE2)) (by omega) _ _ _ hw (lv_sub hl [0, 1, 2, 3] rfl)
                              exact L335 _ (st (st (st (st (st (dgM τ1 (σ 18 0 * σ 18 1)) 4 (τ1 18 12) ((τ1 4 (τ1 18 12)) + 0)) 18 3 ((τ1 18 3) + 0)) 18 9 ((τ1 18 9) + (plS σ row a b t 18 11))) 10 sp ((τ1 10 sp) + (plS σ row a b t 18 11))) 18 8 ((τ1 18 8) + 1)) 0 (by omega) (show Eqp ((st (st (st (st (st (dgM τ1 (σ 18 0 * σ 18 1)) 4 (τ1 18 12) ((τ1 4 (τ1 18 12)) + 0)) 18 3 ((τ1 18 3) + 0)) 18 9 ((τ1 18 9) + (plS σ row a b t 18 11))) 10 sp ((τ1 10 sp) + (plS σ row a b t 18 11))) 18 8 ((τ1 18 8) + 1))) (coS (plS σ row a b t) t sp) from co_M hd (show 0 ≤ row ∧ row < σ 18 1 by omega) hMR hE hPr (by omega) rfl) (Nat.lt_succ_self _) _ _ _ hw (lv_sub hl [0, 2, 5, 6] rfl)
                          · refine j_aload_n J dX10_trip_229 rfl (lv_at hl 1 rfl) ?_
                            refine mg_10_2 J hw lk_X10_16 dX10_trip_230 ?_
                            refine j_iload J dX10_trip_233 (lv_at hl 0 rfl) ?_
                            refine j_dup2 J dX10_trip_235 rfl rfl ?_
                            refine ma_ld_1 J hw (show 0 ≤ j ∧ j < ((120 : Nat) : Int) from by omega) dX10_trip_236 ?_
                            refine j_aload_n J dX10_trip_237 rfl (lv_at hl 1 rfl) ?_
                            refine mg_10_6 J hw lk_X10_29 dX10_trip_238 ?_
                            refine j_iload J dX10_trip_241 (lv_at hl 0 rfl) ?_
                            refine ma_ld_6 J hw (show 0 ≤ j ∧ j < ((120 : Nat) : Int) from by omega) dX10_trip_243 ?_
                            refine j_iadd J dX10_trip_244 ?_
                            refine ma_st_1 J hw (show 0 ≤ j ∧ j < ((120 : Nat) : Int) from by omega) dX10_trip_245 (fun H locs hw => ?_)
                            refine j_iinc J (lv' := [(10, .int (I (j + 1))), (0, .ref (ad 0)), (4, .int (I t)), (5, .int (I sp)), (6, .int (I (plS σ row a b t 18 11))), (9, .int (I al))]) (k := 0) hl dX10_trip_246 rfl (by decide) rfl (fun ls hl => ?_)
                            refine j_goto J 215 dX10_trip_249 (by decide) ?_
                            exact ih215 (j + 1) (by omega) (by omega) _ _ _ (by rw [← dgM_step hj0.1]; exact hw) (lv_sub hl [0, 1, 2, 3, 4, 5] rfl)
                      exact L215 _ 0 (by omega) (Nat.lt_succ_self _) _ _ _ (by rw [dgM_0]; exact hw) (lv_sub hl [0, 5, 9, 10, 4, 1] rfl)
                    · refine j_bipush J (-3) dX10_trip_209 (by decide) ?_
                      exact fin _ (τ1) _ _ _ _ dX10_trip_211 rfl (by unfold tripS; rw [if_pos (show 0 ≤ row ∧ row < σ 18 1 ∧ 0 ≤ a ∧ a < σ 18 0 ∧ 0 ≤ b ∧ b < σ 18 0 ∧ 0 ≤ t ∧ t ≤ 30 ∧ 0 ≤ sp ∧ sp ≤ 2 by omega), if_neg (by omega), if_neg (by omega), if_pos (by omega)]; exact ⟨rfl, hE1⟩) hw
                  · refine j_bipush J (-2) dX10_trip_174 (by decide) ?_
                    exact fin _ (τ1) _ _ _ _ dX10_trip_176 rfl (by unfold tripS; rw [if_pos (show 0 ≤ row ∧ row < σ 18 1 ∧ 0 ≤ a ∧ a < σ 18 0 ∧ 0 ≤ b ∧ b < σ 18 0 ∧ 0 ≤ t ∧ t ≤ 30 ∧ 0 ≤ sp ∧ sp ≤ 2 by omega)]; first | (rw [if_pos (by omega)]; exact ⟨rfl, hE1⟩) | (rw [if_neg (by omega), if_pos (by first | exact hM.1 (by omega) | exact (hM.2 (by omega)).1 (by omega))]; exact ⟨rfl, hE1⟩)) hw
              · refine j_iconst J (-1) dX10_trip_116 ?_
                refine j_goto J 147 dX10_trip_117 (by decide) ?_
                have g2 : -1 ≤ (-1) ∧ (-1) ≤ 12 := by first | exact wts_rng | omega
                refine j_istore J (lv' := [(8, .int (I (-1))), (7, .int (I (wtsS σ (σ 18 7 + 1) (σ 0 2)))), (6, .int (I (plS σ row a b t 18 11))), (0, .ref (ad 0)), (1, .int (I row)), (2, .int (I a)), (3, .int (I b)), (4, .int (I t)), (5, .int (I sp))]) hl dX10_trip_147 (by decide) rfl (fun ls hl => ?_)
                refine j_aload_n J dX10_trip_149 rfl (lv_at hl 3 rfl) ?_
                refine mg_10_11 J hw lk_X10_44 dX10_trip_150 ?_
                refine j_iload J dX10_trip_153 (lv_at hl 8 rfl) ?_
                refine ma_ld_10 J hw (show 0 ≤ sp ∧ sp < ((3 : Nat) : Int) from by omega) dX10_trip_155 ?_
                refine j_iload J dX10_trip_156 (lv_at hl 2 rfl) ?_
                refine j_iadd J dX10_trip_158 ?_
                refine j_aload_n J dX10_trip_159 rfl (lv_at hl 3 rfl) ?_
                refine mg_10_9 J hw lk_X10_38 dX10_trip_160 ?_
                refine j_iload J dX10_trip_163 (lv_at hl 8 rfl) ?_
                refine ma_ld_11 J hw (show 0 ≤ sp ∧ sp < ((3 : Nat) : Int) from by omega) dX10_trip_165 ?_
                refine j_icmp_gt J 174 (show rg ((τ1 10 sp) + (plS σ row a b t 18 11)) by unfold rg; omega) (show rg (τ1 11 sp) by unfold rg; omega) dX10_trip_166 (by decide) (fun (h_40 : (τ1 11 sp) < ((τ1 10 sp) + (plS σ row a b t 18 11))) => ?_) (fun (h_40 : ((τ1 10 sp) + (plS σ row a b t 18 11)) ≤ (τ1 11 sp)) => ?_)
                · refine j_bipush J (-2) dX10_trip_174 (by decide) ?_
                  exact fin _ (τ1) _ _ _ _ dX10_trip_176 rfl (by unfold tripS; rw [if_pos (show 0 ≤ row ∧ row < σ 18 1 ∧ 0 ≤ a ∧ a < σ 18 0 ∧ 0 ≤ b ∧ b < σ 18 0 ∧ 0 ≤ t ∧ t ≤ 30 ∧ 0 ≤ sp ∧ sp ≤ 2 by omega)]; first | (rw [if_pos (by omega)]; exact ⟨rfl, hE1⟩) | (rw [if_neg (by omega), if_pos (by first | exact hM.1 (by omega) | exact (hM.2 (by omega)).1 (by omega))]; exact ⟨rfl, hE1⟩)) hw
                · refine j_iload J dX10_trip_169 (lv_at hl 0 rfl) ?_
                  refine j_if_ge J 177 (by unfold rg; omega) dX10_trip_171 (by decide) (fun (h_41 : 0 ≤ (-1)) => absurd h_41 (by omega)) (fun (h_41 : (-1) < 0) => ?_)
                  refine j_bipush J (-2) dX10_trip_174 (by decide) ?_
                  exact fin _ (τ1) _ _ _ _ dX10_trip_176 rfl (by unfold tripS; rw [if_pos (show 0 ≤ row ∧ row < σ 18 1 ∧ 0 ≤ a ∧ a < σ 18 0 ∧ 0 ≤ b ∧ b < σ 18 0 ∧ 0 ≤ t ∧ t ≤ 30 ∧ 0 ≤ sp ∧ sp ≤ 2 by omega)]; first | (rw [if_pos (by omega)]; exact ⟨rfl, hE1⟩) | (rw [if_neg (by omega), if_pos (by first | exact hM.1 (by omega) | exact (hM.2 (by omega)).1 (by omega))]; exact ⟨rfl, hE1⟩)) hw
          · refine j_iconst J (-1) dX10_trip_61 ?_
            exact fin _ (σ) _ _ _ _ dX10_trip_62 rfl (by first | (unfold tripS; (repeat (first | rw [if_pos (by omega)] | rw [if_neg (by omega)])); exact ⟨rfl, Eqp.rf⟩) | (exfalso; omega)) hw
theorem k_X10_trip {p : Program} {l : Launch} {e : Env} {R : Room} {s : State} {m : MethodId} {args : Array Value} {below : List Frame} {meth : Method} {c : Code} {H : Heap} {locs : List Loc} {Q : State → Prop} {cc : ByteArray} {pc : Nat} {ls : Array Slot} {rest : List Value} {nL : Nat} {own : String} {D : va_G} {σ : St} {cI cZ : ClassId} {ad : Nat → Nat} {index : Nat} {row a b t sp : Int} (hD : ∀ τ, va_D (AD ad 45) (wsM cI cZ ad τ)) (hB : Bd σ) (r_row : rg row) (r_a : rg a) (r_b : rg b) (r_t : rg t) (r_sp : rg sp) (htp : σ 18 8 ≤ σ 18 7) (J : Jx p m c cc nL s args own D [(cI, .int), (cZ, .boolean)] (AD ad 45) (wsM cI cZ ad)) (hw : jW D (AD ad 45) s.heap (wsM cI cZ ad σ) H locs) (hsz : ls.size = nL) (hlk : Cond.methodLink own index yX10_trip ∈ TBw) (hR : 4 ≤ R.frames ∧ 99 ≤ R.locals) (hroom : (rest.map fun v => v.category).sum ≤ 8) (hdg : decode cc pc = .ok (.invokevirtual index, 3)) (kk : ∀ (r : Int) (τ : St) (H1 : Heap) (locs1 : List Loc), (fun r τ => r = (tripS σ row a b t sp).1 ∧ Eqp τ (tripS σ row a b t sp).2) r τ → jW D (AD ad 45) s.heap (wsM cI cZ ad τ) H1 locs1 → W p l e R s m args below meth c H1 locs1 0 0 Q (F0 m (pc + 3) ls (.int (I r) :: rest))) : W p l e R s m args below meth c H locs 0 0 Q (F0 m pc ls (.int (I sp) :: .int (I t) :: .int (I b) :: .int (I a) :: .int (I row) :: .ref (ad 0) :: rest)) := 
  j_callVi J hw (c_X10_trip  hD hB r_row r_a r_b r_t r_sp htp) hlk in_X10_trip se_X10_trip ini_X10 co_X10_trip (n := 5) (by decide +kernel) ⟨rfl, rfl, hR.1, hR.2⟩ (j := 0) (ci := 10) rfl rfl rfl rfl hroom hsz ⟨Nat.zero_le _, Nat.zero_le _⟩ rfl hdg kk
