/-! the law's loop and its start -/
theorem va_D.left {A : Nat → Prop} {w1 w2 : va_W} (h : va_D A (w1 ++ w2)) : va_D A w1 := by
  have key : ∀ (k : Nat) (q : Nat × va_E), w1[k]? = some q → (w1 ++ w2)[k]? = some q := fun k q hk => by rw [List.getElem?_append_left (List.getElem?_eq_some_iff.mp hk).1]; exact hk
  exact ⟨fun i j p q hi hj hpq => h.1 i j p q (key i p hi) (key j q hj) hpq, fun k q hk => h.2 k q (key k q hk)⟩
theorem va_D.right {A : Nat → Prop} {w1 w2 : va_W} (h : va_D A (w1 ++ w2)) : va_D A w2 := by
  have key : ∀ (k : Nat) (q : Nat × va_E), w2[k]? = some q → (w1 ++ w2)[w1.length + k]? = some q := fun k q hk => by rw [List.getElem?_append_right (by omega), Nat.add_sub_cancel_left]; exact hk
  exact ⟨fun i j p q hi hj hpq => by have := h.1 _ _ p q (key i p hi) (key j q hj) hpq; omega, fun k q hk => h.2 _ q (key k q hk)⟩
theorem va_P.left {D : va_G} {cl : List vw_C} {w1 w2 : va_W} {H : Heap} (h : va_P D cl (w1 ++ w2) H) : va_P D cl w1 H := fun k q hk => h k q (by rw [List.getElem?_append_left (List.getElem?_eq_some_iff.mp hk).1]; exact hk)
theorem va_P.right {D : va_G} {cl : List vw_C} {w1 w2 : va_W} {H : Heap} (h : va_P D cl (w1 ++ w2) H) : va_P D cl w2 H := fun k q hk => h (w1.length + k) q (by rw [List.getElem?_append_right (by omega), Nat.add_sub_cancel_left]; exact hk)
theorem AD_idx {w : va_W} {ad : Nat → Nat} {n : Nat} (T : List Nat) (e : w.map Prod.fst = T.map ad) (hT : ∀ k, k < n → ∃ j ∈ T, ad k = ad j) {q : Nat} (hq : AD ad n q) : ∃ (i : Nat) (x : Nat × va_E), w[i]? = some x ∧ x.1 = q := by
  obtain ⟨k, hk, rfl⟩ := hq
  obtain ⟨j, hj, he⟩ := hT k hk
  obtain ⟨i, hi⟩ := List.getElem?_of_mem hj
  have h1 : (w.map Prod.fst)[i]? = some (ad j) := by rw [e, List.getElem?_map, hi]; rfl
  rw [List.getElem?_map] at h1
  obtain ⟨x, hx, hxe⟩ := Option.map_eq_some_iff.mp h1
  exact ⟨i, x, hx, hxe.trans he.symm⟩
theorem ap_XM {A : Nat → Prop} {cI cZ : ClassId} {ax am : Nat → Nat} {σ τ : St} (h : va_D A (wsX cI ax σ ++ wsM cI cZ am τ)) (ha : ALM am) (q : Nat) (h1 : AD ax 45 q) (h2 : AD am 45 q) : False := by
  obtain ⟨i, x, hx, ex⟩ := AD_idx (w := wsX cI ax σ) (List.range 45) rfl (fun k hk => ⟨k, List.mem_range.mpr hk, rfl⟩) h1
  obtain ⟨j, y, hy, ey⟩ := AD_idx (w := wsM cI cZ am τ) LM rfl ha h2
  have hl := (List.getElem?_eq_some_iff.mp hx).1
  have h3 := h.1 i ((wsX cI ax σ).length + j) x y (by rw [List.getElem?_append_left hl]; exact hx) (by rw [List.getElem?_append_right (by omega), Nat.add_sub_cancel_left]; exact hy) (by rw [ex, ey])
  omega
set_option maxHeartbeats 2000000 in
theorem law_loop {p : Program} {l : Launch} {e : Env} {s : State} {m : MethodId} {below : List Frame} {meth : Method} {c : Code} {b L : Nat} {xs : Nat → Int32} {D : va_G} {cI cZ : ClassId} {ax am : Nat → Nat} {cells slots : Nat} (J : LJ p m c s b L xs D cI cZ ax am (fun q => s.heap.size ≤ q)) (hr : meth.sig.returnType = ret) (hlocks : meth.locks = false) (hcs : cells ≤ 600000 ∧ slots ≤ 7302250) : ∀ n : Nat, ∀ i : Int, 0 ≤ i → i ≤ 4000 → ((L : Int) + 6 - i).toNat < n → ∀ (τx τm : St) (H : Heap) (locs : List Loc) (ls : Array Slot), lP D cI cZ ax am (fun q => s.heap.size ≤ q) s.heap τx τm H locs → Inv τx → Eqp τm τx → lv_has ls 4 [(3, .int (I i)), (2, .ref (am 0)), (1, .ref (ax 0)), (0, .ref b)] →
    W p l e room_1 s m #[Value.ref b] below meth c H locs cells slots (lw_Z below #[Value.ref b] s) (F0 m 18 ls []) := by
  intro n
  induction n with
  | zero => intro i h0 h1 hn; omega
  | succ n ih =>
    intro i h0 h1 hn τx τm H locs ls hw hI hE hl
    have hL := J.2.1.2.2.1
    refine j_iload_n J.1 dL_law_18 rfl (lv_at hl 0 rfl) ?_
    refine j_aload_n J.1 dL_law_19 rfl (lv_at hl 3 rfl) ?_
    refine va_slen J.1.1.1 J.1.1.2.1 J.2.1.1 J.2.1.2.1 J.2.1.2.2.2 hw.2.2 dL_law_20 ?_
    rw [show Int32.ofNat L = I (L : Int) from nI_I L]
    refine j_bipush J.1 6 dL_law_21 (by decide) ?_
    refine j_isub J.1 dL_law_23 ?_
    refine j_icmp_gt J.1 767 ⟨by omega, by omega⟩ ⟨by omega, by omega⟩ dL_law_24 rfl (fun hgt => ?_) (fun hle => ?_)
    · refine j_iconst J.1 1 dL_law_767 ?_
      refine va_forget (fun q hq => hw.2.2.2.2 q hq) ?_
      refine W.widen (k := 600000) (n := 7302250) hcs.1 hcs.2 ?_
      exact lw_ret J.1.1.1 J.1.1.2.1 hr hlocks dL_law_768
    · have hnext : ∀ (τx τm : St) (H : Heap) (locs : List Loc), lP D cI cZ ax am (fun q => s.heap.size ≤ q) s.heap τx τm H locs → Inv τx → Eqp τm τx → W p l e room_1 s m #[Value.ref b] below meth c H locs cells slots (lw_Z below #[Value.ref b] s) (F0 m 761 ls []) := by
        intro τx τm H locs hw hI hE
        refine j_iinc J.1 (k := 0) hl dL_law_761 rfl (by decide) rfl (fun ls hl => ?_)
        refine j_goto J.1 18 dL_law_764 rfl ?_
        exact ih (i + 6) (by omega) (by omega) (by omega) τx τm H locs ls hw hI hE hl
      refine j_aload_n J.1 dL_law_27 rfl (lv_at hl 3 rfl) ?_
      refine j_iload_n J.1 dL_law_28 rfl (lv_at hl 0 rfl) ?_
      refine va_sld J.1.1.1 J.1.1.2.1 J.2.1.1 J.2.1.2.1 J.2.1.2.2.2 hw.2.2 (I_in h0 (by omega) (by omega)) dL_law_29 ?_
      refine j_bipush J.1 31 dL_law_30 (by decide) ?_
      refine lv_iand J.1.1.1 J.1.1.2.1 dL_law_32 ?_
      generalize xs (I i).toNatClampNeg &&& I 31 = z0
      rw [I_of z0]
      have hz := I_rg z0
      generalize z0.toInt = z at hz ⊢
      rcases (show z = 0 ∨ z = 1 ∨ z = 2 ∨ z = 3 ∨ z = 4 ∨ z = 5 ∨ z = 6 ∨ z = 7 ∨ z = 8 ∨ z = 9 ∨ z = 10 ∨ z = 11 ∨ z = 12 ∨ z = 13 ∨ z = 14 ∨ z = 15 ∨ z = 16 ∨ z = 17 ∨ z = 18 ∨ (z < 0 ∨ 18 < z) by omega) with h | h | h | h | h | h | h | h | h | h | h | h | h | h | h | h | h | h | h | h
      · exact j_tableIn J.1 0 124 h ⟨by decide, by decide⟩ dL_law_33 (by decide) (by decide) rfl rfl (law_board J ⟨h0, by omega⟩ hw hI hE hl hcs hnext)
      · exact j_tableIn J.1 1 157 h ⟨by decide, by decide⟩ dL_law_33 (by decide) (by decide) rfl rfl (law_lay J ⟨h0, by omega⟩ hw hI hE hl hcs hnext)
      · exact j_tableIn J.1 2 200 h ⟨by decide, by decide⟩ dL_law_33 (by decide) (by decide) rfl rfl (law_rule J ⟨h0, by omega⟩ hw hI hE hl hcs hnext)
      · exact j_tableIn J.1 3 233 h ⟨by decide, by decide⟩ dL_law_33 (by decide) (by decide) rfl rfl (law_tide J ⟨h0, by omega⟩ hw hI hE hl hcs hnext)
      · exact j_tableIn J.1 4 266 h ⟨by decide, by decide⟩ dL_law_33 (by decide) (by decide) rfl rfl (law_hold J ⟨h0, by omega⟩ hw hI hE hl hcs hnext)
      · exact j_tableIn J.1 5 299 h ⟨by decide, by decide⟩ dL_law_33 (by decide) (by decide) rfl rfl (law_spot J ⟨h0, by omega⟩ hw hI hE hl hcs hnext)
      · exact j_tableIn J.1 6 342 h ⟨by decide, by decide⟩ dL_law_33 (by decide) (by decide) rfl rfl (law_post J ⟨h0, by omega⟩ hw hI hE hl hcs hnext)
      · exact j_tableIn J.1 7 375 h ⟨by decide, by decide⟩ dL_law_33 (by decide) (by decide) rfl rfl (law_best J ⟨h0, by omega⟩ hw hI hE hl hcs hnext)
      · exact j_tableIn J.1 8 398 h ⟨by decide, by decide⟩ dL_law_33 (by decide) (by decide) rfl rfl (law_trip J ⟨h0, by omega⟩ hw hI hE hl hcs hnext)
      · exact j_tableIn J.1 9 461 h ⟨by decide, by decide⟩ dL_law_33 (by decide) (by decide) rfl rfl (law_hours J ⟨h0, by omega⟩ hw hI hE hl hcs hnext)
      · exact j_tableIn J.1 10 484 h ⟨by decide, by decide⟩ dL_law_33 (by decide) (by decide) rfl rfl (law_sound J ⟨h0, by omega⟩ hw hI hE hl hcs hnext)
      · exact j_tableIn J.1 11 507 h ⟨by decide, by decide⟩ dL_law_33 (by decide) (by decide) rfl rfl (law_lose J ⟨h0, by omega⟩ hw hI hE hl hcs hnext)
      · exact j_tableIn J.1 12 540 h ⟨by decide, by decide⟩ dL_law_33 (by decide) (by decide) rfl rfl (law_join J ⟨h0, by omega⟩ hw hI hE hl hcs hnext)
      · exact j_tableIn J.1 13 573 h ⟨by decide, by decide⟩ dL_law_33 (by decide) (by decide) rfl rfl (law_between J ⟨h0, by omega⟩ hw hI hE hl hcs hnext)
      · exact j_tableIn J.1 14 616 h ⟨by decide, by decide⟩ dL_law_33 (by decide) (by decide) rfl rfl (law_sounded J ⟨h0, by omega⟩ hw hI hE hl hcs hnext)
      · exact j_tableIn J.1 15 649 h ⟨by decide, by decide⟩ dL_law_33 (by decide) (by decide) rfl rfl (law_cell J ⟨h0, by omega⟩ hw hI hE hl hcs hnext)
      · exact j_tableIn J.1 16 682 h ⟨by decide, by decide⟩ dL_law_33 (by decide) (by decide) rfl rfl (law_about J ⟨h0, by omega⟩ hw hI hE hl hcs hnext)
      · exact j_tableIn J.1 17 715 h ⟨by decide, by decide⟩ dL_law_33 (by decide) (by decide) rfl rfl (law_broken J ⟨h0, by omega⟩ hw hI hE hl hcs hnext)
      · exact j_tableIn J.1 18 738 h ⟨by decide, by decide⟩ dL_law_33 (by decide) (by decide) rfl rfl (law_count J ⟨h0, by omega⟩ hw hI hE hl hcs hnext)
      · exact j_tableOut J.1 761 hz dL_law_33 h rfl (hnext τx τm H locs hw hI hE)
set_option maxHeartbeats 2000000 in
theorem whole_start {p : Program} {e : Env} {s : State} {m : MethodId} {below : List Frame} {meth : Method} {c : Code} (l : Launch) (hflags : l.flags = flags0) {b L : Nat} {xs : Nat → Int32} (hL : L ≤ 3072) (C0 : lw_At p s m meth c b L xs) : W p l e room_1 s m #[Value.ref b] below meth c s.heap [] 0 0 (lw_Z below #[Value.ref b] s) (entryFrame m ([Value.ref b] : List Value).toArray 4) := by
  obtain ⟨hx, hb, hr, hml, hown, hts, hX, hbl, hlocks, hgv⟩ := C0
  have htb : ∀ w ∈ TBw, w.before #[Value.ref b] s = true := fun w h => hts w (tb_in h)
  obtain ⟨c0, i0, K0⟩ := u_known htb fi_X0 (htb _ inst_X0)
  obtain ⟨c1, i1, K1⟩ := u_known htb fi_X1 (htb _ inst_X1)
  obtain ⟨c2, i2, K2⟩ := u_known htb fi_X2 (htb _ inst_X2)
  obtain ⟨c3, i3, K3⟩ := u_known htb fi_X3 (htb _ inst_X3)
  obtain ⟨c4, i4, K4⟩ := u_known htb fi_X4 (htb _ inst_X4)
  obtain ⟨c5, i5, K5⟩ := u_known htb fi_X5 (htb _ inst_X5)
  obtain ⟨c6, i6, K6⟩ := u_known htb fi_X6 (htb _ inst_X6)
  obtain ⟨c7, i7, K7⟩ := u_known htb fi_X7 (htb _ inst_X7)
  obtain ⟨c8, i8, K8⟩ := u_known htb fi_X8 (htb _ inst_X8)
  obtain ⟨c9, i9, K9⟩ := u_known htb fi_X9 (htb _ inst_X9)
  obtain ⟨c10, i10, K10⟩ := u_known htb fi_X10 (htb _ inst_X10)
  obtain ⟨cI, hI1, hI2⟩ := arr_int (htb _ ac_int)
  obtain ⟨cZ, hZ1, hZ2⟩ := arr_bool (htb _ ac_boolean)
  obtain ⟨D, hDe⟩ : ∃ D : va_G, D = (fun k => [c0, c1, c2, c3, c4, c5, c6, c7, c8, c9, c10].getD k c0, fun k => [i0, i1, i2, i3, i4, i5, i6, i7, i8, i9, i10].getD k i0) := ⟨_, rfl⟩
  have hK : va_K D vwCl [(cI, .int), (cZ, .boolean)] s := by
    rw [hDe]
    refine ⟨fun k q hq => ?_, fun k q hq => ?_⟩
    · have hk : k < 11 := (List.getElem?_eq_some_iff.mp hq).1
      rcases (show k = 0 ∨ k = 1 ∨ k = 2 ∨ k = 3 ∨ k = 4 ∨ k = 5 ∨ k = 6 ∨ k = 7 ∨ k = 8 ∨ k = 9 ∨ k = 10 by omega) with rfl | rfl | rfl | rfl | rfl | rfl | rfl | rfl | rfl | rfl | rfl
      · cases hq; exact K0
      · cases hq; exact K1
      · cases hq; exact K2
      · cases hq; exact K3
      · cases hq; exact K4
      · cases hq; exact K5
      · cases hq; exact K6
      · cases hq; exact K7
      · cases hq; exact K8
      · cases hq; exact K9
      · cases hq; exact K10
    · have hk : k < 2 := (List.getElem?_eq_some_iff.mp hq).1
      rcases (show k = 0 ∨ k = 1 by omega) with rfl | rfl
      · cases hq; exact ⟨hI1, hI2⟩
      · cases hq; exact ⟨hZ1, hZ2⟩
  have hN : NW s := List.forall_mem_cons.mpr ⟨va_Nw.of rfl (hts _ nl_X9_20), List.forall_mem_cons.mpr ⟨va_Nw.of rfl (hts _ nl_X9_27), List.forall_mem_cons.mpr ⟨va_Nw.of rfl (hts _ nl_X9_34), List.forall_mem_cons.mpr ⟨va_Nw.of rfl (hts _ nl_X9_41), List.forall_mem_cons.mpr ⟨va_Nw.of rfl (hts _ nl_X9_48), List.forall_mem_cons.mpr ⟨va_Nw.of rfl (hts _ nl_X9_55), List.forall_mem_cons.mpr ⟨va_Nw.of rfl (hts _ nl_X9_62), List.forall_mem_cons.mpr ⟨va_Nw.of rfl (hts _ nl_X9_69), List.forall_mem_cons.mpr ⟨va_Nw.of rfl (hts _ nl_X1_43), List.forall_mem_cons.mpr ⟨va_Nw.of rfl (hts _ nl_X7_29), List.forall_mem_cons.mpr ⟨va_Nw.of rfl (hts _ nl_X5_26), List.forall_mem_cons.mpr ⟨va_Nw.of rfl (hts _ nl_X4_30), (fun _ h => absurd h List.not_mem_nil)⟩⟩⟩⟩⟩⟩⟩⟩⟩⟩⟩⟩
  have J : Jx p m c code 4 s #[Value.ref b] RL D [(cI, .int), (cZ, .boolean)] (fun q => s.heap.size ≤ q) (fun _ => []) := ⟨⟨hx, hb, hml, hown, htb⟩, hK, fun _ => ⟨fun _ _ _ _ h => (by cases h), fun _ _ h => (by cases h)⟩, hN⟩
  have hA : ∀ q, s.heap.size ≤ q → (fun q => s.heap.size ≤ q) q := fun q h => h
  rw [lg_entry_eq]
  have hl := lv_entry ([Value.ref b]) (n := 4) (Nat.le_of_ble_eq_true rfl)
  generalize (lg_sl ([Value.ref b]) ++ List.replicate (4 - (lg_sl ([Value.ref b])).length) Slot.unset).toArray = ls at hl ⊢
  have hl : lv_has ls 4 [(0, .ref b)] := hl
  have hz : cW D (fun q => s.heap.size ≤ q) s.heap [] s.heap [] := ⟨fun _ _ h => (by cases h), ⟨fun _ _ _ _ h => (by cases h), fun _ _ h => (by cases h)⟩, va_S.rf⟩
  refine cz_new J hz hA (ci := 9) (fs := [.null, .null, .null, .null, .null, .null, .null, .null, .null, .int (I 0), .int (I 0), .int (I 0)]) fi_X9 tyX9_ok rfl (fun j hj => by rcases (show j = 0 ∨ j = 1 ∨ j = 2 ∨ j = 3 ∨ j = 4 ∨ j = 5 ∨ j = 6 ∨ j = 7 ∨ j = 8 ∨ j = 9 ∨ j = 10 ∨ j = 11 by omega) with rfl | rfl | rfl | rfl | rfl | rfl | rfl | rfl | rfl | rfl | rfl | rfl <;> rfl) lk_L_7 inst_X9 ini_X9 (Nat.le_of_ble_eq_true rfl) (Nat.le_of_ble_eq_true rfl) dL_law_0 (fun q1 H hz => ?_)
  refine j_dup J dL_law_3 rfl ?_
  refine cz_init J (wr := []) hz hA c_X9_init lk_L_9 in_X9_init ini_X9 co_X9_init (n := 0) (by decide +kernel) rfl ⟨rfl, rfl, Nat.le_of_ble_eq_true rfl, Nat.le_of_ble_eq_true rfl⟩ rfl (Nat.le_of_ble_eq_true rfl) hl.1 ⟨Nat.le_of_ble_eq_true rfl, Nat.le_of_ble_eq_true rfl⟩ rfl dL_law_4 (fun u H locs hp9 hz => ?_)
  obtain ⟨ax, τx⟩ := u
  obtain ⟨hx0, hEx⟩ := hp9
  have hx0 : ax 0 = q1 := hx0
  have hEx : Eqp τx (anS z0 1 1) := hEx
  have hz : cW D (fun q => s.heap.size ≤ q) s.heap (wsX cI ax τx) H locs := hz
  rw [← hx0]
  refine lv_astore_n J.1.1 J.1.2.1 dL_law_7 rfl hl (by decide) rfl (fun ls hl => ?_)
  refine cz_new J hz hA (ci := 10) (fs := [.int (I 0), .int (I 0), .null, .null, .null, .null, .null, .null, .null, .null, .null, .null, .null, .int (I 0), .null, .null, .null, .null, .null, .int (I 0), .int (I 0), .int (I 0), .int (I 0), .int (I 0), .int (I 0), .int (I 0), .int (I 0)]) fi_X10 tyX10_ok rfl (fun j hj => by rcases (show j = 0 ∨ j = 1 ∨ j = 2 ∨ j = 3 ∨ j = 4 ∨ j = 5 ∨ j = 6 ∨ j = 7 ∨ j = 8 ∨ j = 9 ∨ j = 10 ∨ j = 11 ∨ j = 12 ∨ j = 13 ∨ j = 14 ∨ j = 15 ∨ j = 16 ∨ j = 17 ∨ j = 18 ∨ j = 19 ∨ j = 20 ∨ j = 21 ∨ j = 22 ∨ j = 23 ∨ j = 24 ∨ j = 25 ∨ j = 26 by omega) with rfl | rfl | rfl | rfl | rfl | rfl | rfl | rfl | rfl | rfl | rfl | rfl | rfl | rfl | rfl | rfl | rfl | rfl | rfl | rfl | rfl | rfl | rfl | rfl | rfl | rfl | rfl <;> rfl) lk_L_10 inst_X10 ini_X10 (Nat.le_of_ble_eq_true rfl) (Nat.le_of_ble_eq_true rfl) dL_law_8 (fun q2 H hz => ?_)
  refine j_dup J dL_law_11 rfl ?_
  refine cz_init J (wr := wsX cI ax τx) hz hA c_X10_init lk_L_12 in_X10_init ini_X10 co_X10_init (n := 0) (by decide +kernel) rfl ⟨rfl, rfl, Nat.le_of_ble_eq_true rfl, Nat.le_of_ble_eq_true rfl⟩ rfl (Nat.le_of_ble_eq_true rfl) hl.1 ⟨Nat.le_of_ble_eq_true rfl, Nat.le_of_ble_eq_true rfl⟩ rfl dL_law_12 (fun u H locs hp10 hz => ?_)
  obtain ⟨am, τm⟩ := u
  obtain ⟨hm0, hAL, hEm⟩ := hp10
  have hm0 : am 0 = q2 := hm0
  have hAL : ALM am := hAL
  have hEm : Eqp τm (anS z1 1 1) := hEm
  have hz : cW D (fun q => s.heap.size ≤ q) s.heap (wsX cI ax τx ++ wsM cI cZ am τm) H locs := hz
  rw [← hm0]
  refine lv_astore_n J.1.1 J.1.2.1 dL_law_15 rfl hl (by decide) rfl (fun ls hl => ?_)
  refine j_iconst J 0 dL_law_16 ?_
  refine j_istore_n J hl dL_law_17 rfl (by decide) rfl (fun ls hl => ?_)
  have hDx := wx_D hz.2.1.left
  have hDm := wm_D hz.2.1.right hAL
  refine law_loop (D := D) (cI := cI) (cZ := cZ) (ax := ax) (am := am) (xs := xs) (L := L) ⟨J, ⟨hX, hbl, hL, by show ¬ s.heap.size ≤ b; omega⟩, hDx.1, hDx.2, hDm.1, hDm.2, ap_XM hz.2.1 hAL⟩ hr hlocks ⟨Nat.le_of_ble_eq_true rfl, Nat.le_of_ble_eq_true rfl⟩ (L + 7) 0 (by decide) (by decide) (by omega) τx τm H locs ls ⟨hz.1.left, hz.1.right, hz.2.2⟩ (i_z.eqp hEx) ((hEm.tr e_z).tr hEx.sym) hl
