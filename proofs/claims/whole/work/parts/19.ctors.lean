/-! constructors -/
theorem arr_int {args : Array Value} {s : State} (h : (Cond.arrayClass .int).before args s = true) : ∃ c : ClassId, ArrOfT s c .int ∧ va_RA s c .int := by
  obtain ⟨c, k, comp, h1, h2, h3⟩ := Cond.arrayClass_spec h
  exact ⟨c, fun n z => ⟨fun k h => (by cases h), k, h2, comp, h3⟩, h1⟩
theorem arr_bool {args : Array Value} {s : State} (h : (Cond.arrayClass .boolean).before args s = true) : ∃ c : ClassId, ArrOfT s c .boolean ∧ va_RA s c .boolean := by
  obtain ⟨c, k, comp, h1, h2, h3⟩ := Cond.arrayClass_spec h
  exact ⟨c, fun n z => ⟨fun k h => (by cases h), k, h2, comp, h3⟩, h1⟩
def cW (D : va_G) (A : Nat → Prop) (H0 : Heap) (ws : va_W) (H : Heap) (locs : List Loc) : Prop := va_P D vwCl ws H ∧ va_D A ws ∧ va_S A H0 H locs
def JC (l : Launch) (y : MethodName) (cc : ByteArray) (maxL : Nat) (rm : Room) (D : va_G) (tys : List (ClassId × FieldType)) (h0 : Nat) (e0 : va_E) (As : List Value) {S1 : Type} (P1 : S1 → Prop) (W1 : S1 → va_W) (mc ms : Nat) : Prop :=
  ∀ sz : Nat, Met l y (.code y cc maxL none :: TBw) rm (va_Pc (.ref h0 :: As) (fun U => U.heap.size = sz ∧ va_P D vwCl [(h0, e0)] U.heap ∧ va_K D vwCl tys U ∧ NW U)) (va_Qv P1 (fun u t => va_P D vwCl (W1 u) t.heap ∧ va_D (va_A [(h0, e0)] sz) (W1 u)) (va_A [(h0, e0)] sz)) mc ms (va_A [(h0, e0)] sz)
theorem va_D1 {h0 : Nat} {e0 : va_E} : va_D (fun _ => True) [(h0, e0)] := by
  refine ⟨fun i j p q hi hj _ => ?_, fun _ _ _ => trivial⟩
  have h1 : i < 1 := (List.getElem?_eq_some_iff.mp hi).1
  have h2 : j < 1 := (List.getElem?_eq_some_iff.mp hj).1
  omega
theorem JC.of {l : Launch} {y : MethodName} {cc : ByteArray} {maxL : Nat} {rm : Room} {D : va_G} {tys : List (ClassId × FieldType)} {h0 : Nat} {e0 : va_E} {As : List Value} {S1 : Type} {P1 : S1 → Prop} {W1 : S1 → va_W} {mc ms : Nat} (own : String)
    (hy : plainName y.cls = true) (hown : y.cls = own) (hyn : y.name = "<init>") (hlen : (lg_sl (.ref h0 :: As)).length ≤ maxL)
    (body : ∀ (p : Program) (e : Env) (s : State) (m : MethodId) (args : Array Value) (below : List Frame) (meth : Method) (c : Code) (Q : State → Prop), Jx p m c cc maxL s args own D tys (va_A [(h0, e0)] s.heap.size) (fun _ => []) → meth.name = "<init>" →
      (∀ (u : S1) (H : Heap) (locs : List Loc) (ls : Array Slot) (pc : Nat), P1 u → decode cc pc = .ok (.return_, 1) → cW D (va_A [(h0, e0)] s.heap.size) s.heap (W1 u) H locs → W p l e rm s m args below meth c H locs mc ms Q (F0 m pc ls [])) →
      ∀ (H : Heap) (locs : List Loc) (ls : Array Slot), H.size = s.heap.size → cW D (va_A [(h0, e0)] s.heap.size) s.heap [(h0, e0)] H locs → lv_has ls maxL (lv_args 0 (.ref h0 :: As)) → W p l e rm s m args below meth c H locs 0 0 Q (F0 m 0 ls [])) : JC l y cc maxL rm D tys h0 e0 As P1 W1 mc ms := by
  intro sz
  refine Met.ofW hy rfl ?_
  intro p e s m args below meth c s₁ B hml hv
  obtain ⟨rfl, hsz, hP, hK, hN⟩ := hv
  subst hsz
  have hts := atoms_spec (ws := .code y cc maxL none :: TBw) B.pre
  have hown' : s.vm.findClass own = some m.cls := by rw [← hown]; exact findClass_of_methodNamed B.named
  have hlocks := B.notSynchronized
  have hin : meth.name = "<init>" := (name_of_methodNamed B.named B.method).1.trans hyn
  rw [lg_entry_eq]
  exact body _ _ _ _ _ _ _ _ _ ⟨⟨B.exec, B.bytes, hml, hown', fun w h => hts w (List.mem_cons_of_mem _ h)⟩, hK, fun _ => ⟨fun _ _ _ _ h => (by cases h), fun _ _ h => (by cases h)⟩, hN⟩ hin (fun u H locs ls pc hp1 hdg hw => W.vret B.exec B.bytes B.returns (fun t ht hW => ⟨⟨u, rfl, hp1, by show va_P D vwCl (W1 u) t.heap ∧ _; rw [ht]; exact ⟨hw.1, hw.2.1⟩⟩, hw.2.2.F ht⟩) hw.2.2.2.2 hdg) s.heap [] _ rfl ⟨hP, va_D1.self, va_S.rf⟩ (lv_entry _ hlen)
section CR
variable {p : Program} {l : Launch} {e : Env} {R : Room} {s : State} {m : MethodId} {args : Array Value} {below : List Frame} {meth : Method} {c : Code} {H : Heap} {locs : List Loc} {cells slots : Nat} {Q : State → Prop}
variable {cc : ByteArray} {pc : Nat} {ls : Array Slot} {rest : List Value} {nL : Nat} {own : String} {D : va_G} {tys : List (ClassId × FieldType)} {A B : Nat → Prop} {wl : St → va_W} {ws : va_W}
theorem cz_obj (J : Jx p m c cc nL s args own D tys B wl) {index : Nat} {a : Addr} (hsz : ls.size = nL) (hlk : Cond.methodLink own index objectInit ∈ TBw) (hR : 1 ≤ R.frames ∧ (rest.map fun v => v.category).sum + 12 ≤ R.locals) (hdg : decode cc pc = .ok (.invokespecial index, 3)) (kk : W p l e R s m args below meth c H locs cells slots Q (F0 m (pc + 3) ls rest)) : W p l e R s m args below meth c H locs cells slots Q (F0 m pc ls (.ref a :: rest)) := by
  refine W.objInit J.1.1 J.1.2.1 J.1.2.2.2.1 (J.1.2.2.2.2 _ hlk) (J.1.2.2.2.2 _ in_objectInit) (J.1.2.2.2.2 _ co_objectInit) rfl (by rw [J.1.2.2.1]; exact hsz) rfl hdg hR.1 (by show 2 * 0 + _ + 12 ≤ _; omega) ?_
  exact W.eq rfl kk
theorem cz_new (J : Jx p m c cc nL s args own D tys B wl) (hw : cW D A s.heap ws H locs) (hA : ∀ q, s.heap.size ≤ q → A q) {index ci N : Nat} {C : String} {T : u_T} {ty : Nat → FieldType} {fs : List Value} (hfi : ∀ w ∈ u_ws C T N, w ∈ TBw) (hty : ∀ k, k < N → parseFieldDescriptor (T k).2.2.1 = some (ty k)) (hc : vwCl[ci]? = some (C, T, N)) (hfs : ∀ j, j < N → defaultValue (ty j) = vp_V fs j) (hcl : Cond.classLink own index C ∈ TBw) (hinst : Cond.instantiable C N ∈ TBw) (hini : Cond.initialized C ∈ TBw) (hcells : cells + 1 ≤ R.cells) (hslots : slots + N ≤ R.slots) (hdg : decode cc pc = .ok (.new index, 3))
    (kk : ∀ (q : Nat) (H1 : Heap), cW D A s.heap (ws ++ [(q, .inr (ci, fs))]) H1 locs → W p l e R s m args below meth c H1 locs (cells + 1) (slots + N) Q (F0 m (pc + 3) ls (.ref q :: rest))) : W p l e R s m args below meth c H locs cells slots Q (F0 m pc ls rest) :=
  va_new J.1.1 J.1.2.1 J.1.2.2.2.2 hfi ty hty J.1.2.2.2.1 (J.1.2.2.2.2 _ hcl) (J.1.2.2.2.2 _ hinst) (J.1.2.2.2.2 _ hini) J.2.1 hw.1 hw.2.1 hw.2.2 hA hc hfs hcells hslots hdg (fun q H1 hP hD hS => kk q H1 ⟨hP, hD, hS⟩)
theorem cz_arrI {cI : ClassId} (J : Jx p m c cc nL s args own D tys B wl) (ht : tys[0]? = some (cI, .int)) (hw : cW D A s.heap ws H locs) (hA : ∀ q, s.heap.size ≤ q → A q) {n : Int} (N : Nat) (hn : n = N) (hN : N ≤ 1000) (hcells : cells + 1 ≤ R.cells) (hslots : slots + N ≤ R.slots) (hdg : decode cc pc = .ok (.newarray .int, 2))
    (kk : ∀ (q : Nat) (H1 : Heap), cW D A s.heap (ws ++ [(q, .inl (cI, N, .inl fun _ => I 0))]) H1 locs → W p l e R s m args below meth c H1 locs (cells + 1) (slots + N) Q (F0 m (pc + 2) ls (.ref q :: rest))) : W p l e R s m args below meth c H locs cells slots Q (F0 m pc ls (.int (I n) :: rest)) := by
  subst hn
  refine va_newa (atype := .int) J.1.1 J.1.2.1 (J.1.2.2.2.2 _ ac_int) rfl J.2.1 hw.1 hw.2.1 hw.2.2 hA (a0 := (N, .inl fun _ => I 0)) (N' := N) (fun _ => rfl) (by rw [← I_0, I_lt ⟨by omega, by omega⟩ rg0]; omega) (by have := I_cl (a := (N : Int)) (by omega) (by omega); omega) (by show N * 4 ≤ 536870912; omega) hcells hslots hdg (fun q cA H1 hK hP hD hS => ?_)
  have h1 : va_RA s cI .int := (J.2.1.2 0 _ ht).2
  have h2 : va_RA s cA .int := (hK.2 tys.length (cA, .int) (by simp; rfl)).2
  have e : cA = cI := Option.some.inj (h2.symm.trans h1)
  subst e
  exact kk q H1 ⟨hP, hD, hS⟩
theorem cz_arrZ {cZ : ClassId} (J : Jx p m c cc nL s args own D tys B wl) (ht : tys[1]? = some (cZ, .boolean)) (hw : cW D A s.heap ws H locs) (hA : ∀ q, s.heap.size ≤ q → A q) {n : Int} (N : Nat) (hn : n = N) (hN : N ≤ 1000) (hcells : cells + 1 ≤ R.cells) (hslots : slots + N ≤ R.slots) (hdg : decode cc pc = .ok (.newarray .boolean, 2))
    (kk : ∀ (q : Nat) (H1 : Heap), cW D A s.heap (ws ++ [(q, .inl (cZ, N, .inl fun _ => I 0))]) H1 locs → W p l e R s m args below meth c H1 locs (cells + 1) (slots + N) Q (F0 m (pc + 2) ls (.ref q :: rest))) : W p l e R s m args below meth c H locs cells slots Q (F0 m pc ls (.int (I n) :: rest)) := by
  subst hn
  refine va_newa (atype := .boolean) J.1.1 J.1.2.1 (J.1.2.2.2.2 _ ac_boolean) rfl J.2.1 hw.1 hw.2.1 hw.2.2 hA (a0 := (N, .inl fun _ => I 0)) (N' := N) (fun _ => rfl) (by rw [← I_0, I_lt ⟨by omega, by omega⟩ rg0]; omega) (by have := I_cl (a := (N : Int)) (by omega) (by omega); omega) (by show N * 1 ≤ 536870912; omega) hcells hslots hdg (fun q cA H1 hK hP hD hS => ?_)
  have h1 : va_RA s cZ .boolean := (J.2.1.2 1 _ ht).2
  have h2 : va_RA s cA .boolean := (hK.2 tys.length (cA, .boolean) (by simp; rfl)).2
  have e : cA = cZ := Option.some.inj (h2.symm.trans h1)
  subst e
  exact kk q H1 ⟨hP, hD, hS⟩
theorem cz_putF (J : Jx p m c cc nL s args own D tys B wl) (hin : meth.name = "<init>") (hw : cW D A s.heap ws H locs) {index j ci N b : Nat} {fs : List Value} {C : String} {T : u_T} {ty0 : Nat → FieldType} {v : Value} (he : ws[j]? = some (b, .inr (ci, fs))) (hfi : ∀ w ∈ u_ws C T N, w ∈ TBw) (hty : ∀ k, k < N → parseFieldDescriptor (T k).2.2.1 = some (ty0 k)) (hnm : ∀ a, a < N → ∀ b, b < N → a ≠ b → (T a).2.1 ≠ (T b).2.1) (hc : vwCl[ci]? = some (C, T, N)) (k : Nat) (hk : k < N) (hC : (T k).1 = C) (hCo : C = own) (hlk : Cond.fieldLink own index C (T k).2.1 (T k).2.2.1 ∈ TBw) (hfin : (T k).2.2.2 = true) (hn : narrow (ty0 k) v = v) (hft : fits (ty0 k) v = true) (hlen : k < fs.length) (hdg : decode cc pc = .ok (.putfield index, 3))
    (kk : ∀ (H1 : Heap) (locs1 : List Loc), cW D A s.heap (ws.set j (b, .inr (ci, fs.set k v))) H1 locs1 → W p l e R s m args below meth c H1 locs1 cells slots Q (F0 m (pc + 3) ls rest)) : W p l e R s m args below meth c H locs cells slots Q (F0 m pc ls (v :: .ref b :: rest)) :=
  va_putF J.1.1 J.1.2.1 J.1.2.2.2.2 hfi ty0 hty hnm J.1.2.2.2.1 J.2.1 hw.1 hw.2.1 hw.2.2 j he hc k hk (J.1.2.2.2.2 _ hlk) (fun x h => by rw [hC] at h; exact h) hfin hin (hC.trans hCo) (hty k hk) hn hft hlen hdg (fun H1 locs1 hP hD hS => kk H1 locs1 ⟨hP, hD, hS⟩)
theorem cz_put (J : Jx p m c cc nL s args own D tys B wl) (hw : cW D A s.heap ws H locs) {index j ci N b : Nat} {fs : List Value} {C : String} {T : u_T} {ty0 : Nat → FieldType} {v : Int} (he : ws[j]? = some (b, .inr (ci, fs))) (hfi : ∀ w ∈ u_ws C T N, w ∈ TBw) (hty : ∀ k, k < N → parseFieldDescriptor (T k).2.2.1 = some (ty0 k)) (hnm : ∀ a, a < N → ∀ b, b < N → a ≠ b → (T a).2.1 ≠ (T b).2.1) (hc : vwCl[ci]? = some (C, T, N)) (k : Nat) (hk : k < N) (hC : (T k).1 = C) (hlk : Cond.fieldLink own index C (T k).2.1 (T k).2.2.1 ∈ TBw) (hfin : (T k).2.2.2 = false) (hI : (T k).2.2.1 = "I") (hlen : k < fs.length) (hdg : decode cc pc = .ok (.putfield index, 3))
    (kk : ∀ (H1 : Heap) (locs1 : List Loc), cW D A s.heap (ws.set j (b, .inr (ci, fs.set k (.int (I v))))) H1 locs1 → W p l e R s m args below meth c H1 locs1 cells slots Q (F0 m (pc + 3) ls rest)) : W p l e R s m args below meth c H locs cells slots Q (F0 m pc ls (.int (I v) :: .ref b :: rest)) :=
  va_put J.1.1 J.1.2.1 J.1.2.2.2.2 hfi ty0 hty hnm J.1.2.2.2.1 J.2.1 hw.1 hw.2.1 hw.2.2 j he hc k hk (J.1.2.2.2.2 _ hlk) (fun x h => by rw [hC] at h; exact h) hfin (ty := .int) (by rw [hI]; decide +kernel) rfl rfl hlen hdg (fun H1 locs1 hP hD hS => kk H1 locs1 ⟨hP, hD, hS⟩)
theorem cz_init (J : Jx p m c cc nL s args own D tys B wl) {index n maxL mc ms q : Nat} {y : MethodName} {bytes : ByteArray} {rmc : Room} {e0 : va_E} {As stk : List Value} {S1 : Type} {P1 : S1 → Prop} {W1 : S1 → va_W} {wr : va_W} (hw : cW D A s.heap (wr ++ [(q, e0)]) H locs) (hA : ∀ q, s.heap.size ≤ q → A q) (hM : JC l y bytes maxL rmc D tys q e0 As P1 W1 mc ms) (hlk : Cond.methodLink own index y ∈ TBw) (hin : Cond.instanceMethod y ∈ TBw) (hini : Cond.initialized y.cls ∈ TBw) (hco : Cond.code y bytes maxL none ∈ TBw) (hd : y.cls ≠ "java/lang/invoke/MethodHandle" ∧ y.cls ≠ "java/lang/invoke/VarHandle" ∧ (parseMethodDescriptor y.desc).map (fun d => d.parameters.length) = some n) (hyn : y.name = "<init>") (hR : rmc.cells = mc ∧ rmc.slots = ms ∧ rmc.frames + 1 ≤ R.frames ∧ 8 + (maxL + 11) + rmc.locals ≤ R.locals) (hn : As.length = n) (hroom : (rest.map fun v => v.category).sum ≤ 8) (hsz : ls.size = nL) (hf : cells + mc ≤ R.cells ∧ slots + ms ≤ R.slots) (hstk : stk = As.reverse ++ .ref q :: rest) (hdg : decode cc pc = .ok (.invokespecial index, 3))
    (kk : ∀ (u : S1) (H1 : Heap) (locs1 : List Loc), P1 u → cW D A s.heap (wr ++ W1 u) H1 locs1 → W p l e R s m args below meth c H1 locs1 (cells + mc) (slots + ms) Q (F0 m (pc + 3) ls rest)) : W p l e R s m args below meth c H locs cells slots Q (F0 m pc ls stk) := by
  subst hstk
  have hPc : va_P D vwCl [(q, e0)] H := fun k x hx => hw.1 (wr.length + k) x (by rw [List.getElem?_append_right (by omega), show wr.length + k - wr.length = k by omega]; exact hx)
  have hq : (wr ++ [(q, e0)])[wr.length]? = some (q, e0) := by rw [List.getElem?_append_right (Nat.le_refl _), Nat.sub_self]; rfl
  have hFc : ∀ x, va_A [(q, e0)] H.size x → A x := by
    rintro x (⟨k, f, hk⟩ | h)
    · have hk1 : k < 1 := (List.getElem?_eq_some_iff.mp hk).1
      rw [show k = 0 by omega] at hk
      cases hk
      exact hw.2.1.2 _ _ hq
    · exact hA x (Nat.le_trans hw.2.2.1 h)
  refine va_callv (va_runI (As := As) (rest := rest) J.1 (hM H.size) (cwI n J.1.2.2.2.2 (gd_C hco) rfl hR.1 hR.2.1 (J.1.2.2.2.2 _ hini) (J.1.2.2.2.2 _ hlk) (J.1.2.2.2.2 _ hin) hyn hd ⟨hR.2.2.1, hR.2.2.2⟩) ⟨fun a U g mk z => by obtain ⟨z0, z1, zP, zK, zN⟩ := z; exact ⟨z0, z1, zP, va_K.moved (u := U) (U := U.calling g mk a) (Vm.Alike.refl U.vm) zK, NW.same (u := U) (U := U.calling g mk a) rfl zN⟩, fun U hU hW => ⟨rfl, by rw [hU], by rw [hU]; exact hPc, va_K.moved hW.alike J.2.1, NW.moved hW J.2.2.2⟩⟩ rfl hn hsz rfl (lv_room hroom) hdg hf) hw.2.2 (fun x _ h => hFc x h) hFc (fun u t H1 locs1 ht hvm hp0 hB hz hk1 hS => ?_)
  have hP1 := hB.1
  rw [ht] at hP1
  have hwr : ∀ (k : Nat) (x : Nat × va_E), wr[k]? = some x → (wr ++ [(q, e0)])[k]? = some x ∧ k < wr.length := fun k x hx => by
    have hl := (List.getElem?_eq_some_iff.mp hx).1
    exact ⟨by rw [List.getElem?_append_left hl]; exact hx, hl⟩
  have apart : ∀ (k : Nat) (x : Nat × va_E), wr[k]? = some x → x.1 < H.size ∧ ¬ va_A [(q, e0)] H.size x.1 := fun k x hx => by
    obtain ⟨h1, hl⟩ := hwr k x hx
    have hlt := (hw.1 k x h1).lt
    refine ⟨hlt, ?_⟩
    rintro (⟨k2, f, hk⟩ | h)
    · have hk1 : k2 < 1 := (List.getElem?_eq_some_iff.mp hk).1
      rw [show k2 = 0 by omega] at hk
      have e : q = x.1 := congrArg Prod.fst (Option.some.inj hk)
      have := hw.2.1.1 k wr.length x (q, e0) h1 hq e.symm
      omega
    · omega
  refine kk u H1 locs1 hp0 ⟨va_P.app (fun k x hx => (hw.1 k x (hwr k x hx).1).kept (hk1 x.1 (apart k x hx).1 (apart k x hx).2)) hP1, va_D.app ⟨fun i j x y hi hj hxy => hw.2.1.1 i j x y (hwr i x hi).1 (hwr j y hj).1 hxy, fun k x hx => hw.2.1.2 k x (hwr k x hx).1⟩ (hB.2.weaken (fun k x _ h => hFc x.1 h)) (fun i j x y hi hj hxy => (apart i x hi).2 (by rw [hxy]; exact hB.2.2 j y hj)), hS⟩
theorem cz_initN (J : Jx p m c cc nL s args own D tys B wl) {index n maxL mc ms q : Nat} {y : MethodName} {bytes : ByteArray} {rmc : Room} {e0 : va_E} {As stk : List Value} {S1 : Type} {P1 : S1 → Prop} {W1 : S1 → va_W} {wr : va_W} {host : String} (hw : cW D A s.heap (wr ++ [(q, e0)]) H locs) (hA : ∀ q, s.heap.size ≤ q → A q) (hM : JC l y bytes maxL rmc D tys q e0 As P1 W1 mc ms) (hlk : Cond.methodLinkNest own index y host ∈ nwList) (hin : Cond.instanceMethod y ∈ TBw) (hini : Cond.initialized y.cls ∈ TBw) (hco : Cond.code y bytes maxL none ∈ TBw) (hd : y.cls ≠ "java/lang/invoke/MethodHandle" ∧ y.cls ≠ "java/lang/invoke/VarHandle" ∧ (parseMethodDescriptor y.desc).map (fun d => d.parameters.length) = some n) (hyn : y.name = "<init>") (hR : rmc.cells = mc ∧ rmc.slots = ms ∧ rmc.frames + 1 ≤ R.frames ∧ 8 + (maxL + 11) + rmc.locals ≤ R.locals) (hn : As.length = n) (hroom : (rest.map fun v => v.category).sum ≤ 8) (hsz : ls.size = nL) (hf : cells + mc ≤ R.cells ∧ slots + ms ≤ R.slots) (hstk : stk = As.reverse ++ .ref q :: rest) (hdg : decode cc pc = .ok (.invokespecial index, 3))
    (kk : ∀ (u : S1) (H1 : Heap) (locs1 : List Loc), P1 u → cW D A s.heap (wr ++ W1 u) H1 locs1 → W p l e R s m args below meth c H1 locs1 (cells + mc) (slots + ms) Q (F0 m (pc + 3) ls rest)) : W p l e R s m args below meth c H locs cells slots Q (F0 m pc ls stk) := by
  subst hstk
  have hPc : va_P D vwCl [(q, e0)] H := fun k x hx => hw.1 (wr.length + k) x (by rw [List.getElem?_append_right (by omega), show wr.length + k - wr.length = k by omega]; exact hx)
  have hq : (wr ++ [(q, e0)])[wr.length]? = some (q, e0) := by rw [List.getElem?_append_right (Nat.le_refl _), Nat.sub_self]; rfl
  have hFc : ∀ x, va_A [(q, e0)] H.size x → A x := by
    rintro x (⟨k, f, hk⟩ | h)
    · have hk1 : k < 1 := (List.getElem?_eq_some_iff.mp hk).1
      rw [show k = 0 by omega] at hk
      cases hk
      exact hw.2.1.2 _ _ hq
    · exact hA x (Nat.le_trans hw.2.2.1 h)
  refine va_callv (va_runIN (As := As) (rest := rest) J.1 (hM H.size) ⟨va_cnB n J.1.2.2.2.2 (gd_C hco) rfl hR.1 hR.2.1 (J.2.2.2 _ hlk) (J.1.2.2.2.2 _ hini) hd ⟨hR.2.2.1, hR.2.2.2⟩, hyn, J.1.2.2.2.2 _ hin⟩ ⟨fun a U g mk z => by obtain ⟨z0, z1, zP, zK, zN⟩ := z; exact ⟨z0, z1, zP, va_K.moved (u := U) (U := U.calling g mk a) (Vm.Alike.refl U.vm) zK, NW.same (u := U) (U := U.calling g mk a) rfl zN⟩, fun U hU hW => ⟨rfl, by rw [hU], by rw [hU]; exact hPc, va_K.moved hW.alike J.2.1, NW.moved hW J.2.2.2⟩⟩ rfl hn hsz rfl (lv_room hroom) hdg hf) hw.2.2 (fun x _ h => hFc x h) hFc (fun u t H1 locs1 ht hvm hp0 hB hz hk1 hS => ?_)
  have hP1 := hB.1
  rw [ht] at hP1
  have hwr : ∀ (k : Nat) (x : Nat × va_E), wr[k]? = some x → (wr ++ [(q, e0)])[k]? = some x ∧ k < wr.length := fun k x hx => by
    have hl := (List.getElem?_eq_some_iff.mp hx).1
    exact ⟨by rw [List.getElem?_append_left hl]; exact hx, hl⟩
  have apart : ∀ (k : Nat) (x : Nat × va_E), wr[k]? = some x → x.1 < H.size ∧ ¬ va_A [(q, e0)] H.size x.1 := fun k x hx => by
    obtain ⟨h1, hl⟩ := hwr k x hx
    have hlt := (hw.1 k x h1).lt
    refine ⟨hlt, ?_⟩
    rintro (⟨k2, f, hk⟩ | h)
    · have hk1 : k2 < 1 := (List.getElem?_eq_some_iff.mp hk).1
      rw [show k2 = 0 by omega] at hk
      have e : q = x.1 := congrArg Prod.fst (Option.some.inj hk)
      have := hw.2.1.1 k wr.length x (q, e0) h1 hq e.symm
      omega
    · omega
  refine kk u H1 locs1 hp0 ⟨va_P.app (fun k x hx => (hw.1 k x (hwr k x hx).1).kept (hk1 x.1 (apart k x hx).1 (apart k x hx).2)) hP1, va_D.app ⟨fun i j x y hi hj hxy => hw.2.1.1 i j x y (hwr i x hi).1 (hwr j y hj).1 hxy, fun k x hx => hw.2.1.2 k x (hwr k x hx).1⟩ (hB.2.weaken (fun k x _ h => hFc x.1 h)) (fun i j x y hi hj hxy => (apart i x hi).2 (by rw [hxy]; exact hB.2.2 j y hj)), hS⟩
end CR

def rm_X2_init (N : Nat) : Room := { frames := 1, cells := 1, slots := 0 + N, locals := 21 }
set_option maxHeartbeats 4000000 in
set_option maxRecDepth 100000 in
theorem c_X2_init {l : Launch} {D : va_G} {cI cZ : ClassId} {h0 : Nat} (N : Nat) (hN : N ≤ 1000) : JC l yX2_init cX2_init 2 (rm_X2_init N) D [(cI, .int), (cZ, .boolean)] h0 (.inr (2, [.null])) [.int (I (N : Int))] (fun _ : Nat → Nat => True) (fun u => [(h0, .inr (2, [.ref (u 0)])), (u 0, .inl (cI, N, .inl fun _ => I 0))]) 1 (0 + N) := by
  refine JC.of RX2 (by decide +kernel) rfl rfl (Nat.le_of_ble_eq_true rfl) ?_
  intro p e s m args below meth c Q J hin fin H locs ls hHs hz hl
  have hA : ∀ q, s.heap.size ≤ q → va_A [(h0, .inr (2, [.null]))] s.heap.size q := fun q h => Or.inr h
  have hl : lv_has ls 2 [(0, .ref h0), (1, .int (I (N : Int)))] := hl
  refine j_aload_n J dX2_init_0 rfl (lv_at hl 0 rfl) ?_
  refine cz_obj J hl.1 lk_X2_1 ⟨Nat.le_of_ble_eq_true rfl, Nat.le_of_ble_eq_true rfl⟩ dX2_init_1 ?_
  refine j_aload_n J dX2_init_4 rfl (lv_at hl 0 rfl) ?_
  refine j_iconst J 0 dX2_init_5 ?_
  refine j_iload_n J dX2_init_6 rfl (lv_at hl 1 rfl) ?_
  refine j_max J (show rg 0 by unfold rg; omega) (show rg (N : Int) by unfold rg; omega) hl.1 lk_X2_7 ⟨Nat.le_of_ble_eq_true rfl, Nat.le_of_ble_eq_true rfl, Nat.zero_le _, Nat.zero_le _⟩ dX2_init_7 ?_
  rw [show max (0 : Int) (N : Int) = (N : Int) by omega]
  refine cz_arrI J rfl hz hA N rfl hN (Nat.le_of_ble_eq_true rfl) (Nat.le_refl _) dX2_init_10 (fun q1 H hz => ?_)
  have hz : cW D (va_A [(h0, .inr (2, [.null]))] s.heap.size) s.heap [(h0, .inr (2, [.null])), (q1, .inl (cI, N, .inl fun _ => I 0))] H locs := hz
  refine cz_putF J hin hz (j := 0) (ci := 2) rfl fi_X2 tyX2_ok nmX2 rfl 0 (by decide) rfl rfl lk_X2_13 rfl rfl rfl (Nat.le_of_ble_eq_true rfl) dX2_init_12 (fun H locs hz => ?_)
  have hz : cW D (va_A [(h0, .inr (2, [.null]))] s.heap.size) s.heap [(h0, .inr (2, [.ref (q1)])), (q1, .inl (cI, N, .inl fun _ => I 0))] H locs := hz
  exact fin (fun _ => q1) H locs ls _ trivial dX2_init_15 hz
def rm_X0_init : Room := { frames := 2, cells := 6, slots := 363, locals := 42 }
set_option maxHeartbeats 4000000 in
set_option maxRecDepth 100000 in
theorem c_X0_init {l : Launch} {D : va_G} {cI cZ : ClassId} {h0 : Nat}  : JC l yX0_init cX0_init 1 rm_X0_init D [(cI, .int), (cZ, .boolean)] h0 (.inr (0, [.null, .null, .null, .int (I 0), .int (I 0), .int (I 0)])) [] (fun _ : Nat → Nat => True) (fun u => [(h0, .inr (0, [.ref (u 0), .ref (u 2), .ref (u 4), .int (I 0), .int (I 0), .int (I 0)])), (u 0, .inr (2, [.ref (u 1)])), (u 1, .inl (cI, 120, .inl fun _ => I 0)), (u 2, .inr (2, [.ref (u 3)])), (u 3, .inl (cI, 120, .inl fun _ => I 0)), (u 4, .inr (2, [.ref (u 5)])), (u 5, .inl (cI, 120, .inl fun _ => I 0))]) 6 363 := by
  refine JC.of RX0 (by decide +kernel) rfl rfl (Nat.le_of_ble_eq_true rfl) ?_
  intro p e s m args below meth c Q J hin fin H locs ls hHs hz hl
  have hA : ∀ q, s.heap.size ≤ q → va_A [(h0, .inr (0, [.null, .null, .null, .int (I 0), .int (I 0), .int (I 0)]))] s.heap.size q := fun q h => Or.inr h
  have hl : lv_has ls 1 [(0, .ref h0)] := hl
  refine j_aload_n J dX0_init_0 rfl (lv_at hl 0 rfl) ?_
  refine cz_obj J hl.1 lk_X0_3 ⟨Nat.le_of_ble_eq_true rfl, Nat.le_of_ble_eq_true rfl⟩ dX0_init_1 ?_
  refine j_aload_n J dX0_init_4 rfl (lv_at hl 0 rfl) ?_
  refine cz_new J hz hA (ci := 2) (fs := [.null]) fi_X2 tyX2_ok rfl (fun j hj => by rcases (show j = 0 by omega) with rfl <;> rfl) lk_X0_9 inst_X2 ini_X2 (Nat.le_of_ble_eq_true rfl) (Nat.le_of_ble_eq_true rfl) dX0_init_5 (fun q1 H hz => ?_)
  have hz : cW D (va_A [(h0, .inr (0, [.null, .null, .null, .int (I 0), .int (I 0), .int (I 0)]))] s.heap.size) s.heap [(h0, .inr (0, [.null, .null, .null, .int (I 0), .int (I 0), .int (I 0)])), (q1, .inr (2, [.null]))] H locs := hz
  refine j_dup J dX0_init_8 rfl ?_
  refine j_bipush J 120 dX0_init_9 (by decide) ?_
  refine cz_init J (wr := [(h0, .inr (0, [.null, .null, .null, .int (I 0), .int (I 0), .int (I 0)]))]) hz hA (c_X2_init 120 (by decide)) lk_X0_11 in_X2_init ini_X2 co_X2_init (n := 1) (by decide +kernel) rfl ⟨rfl, rfl, Nat.le_of_ble_eq_true rfl, Nat.le_of_ble_eq_true rfl⟩ rfl (Nat.le_of_ble_eq_true rfl) hl.1 ⟨Nat.le_of_ble_eq_true rfl, Nat.le_of_ble_eq_true rfl⟩ rfl dX0_init_11 (fun u2 H locs _ hz => ?_)
  have hz : cW D (va_A [(h0, .inr (0, [.null, .null, .null, .int (I 0), .int (I 0), .int (I 0)]))] s.heap.size) s.heap [(h0, .inr (0, [.null, .null, .null, .int (I 0), .int (I 0), .int (I 0)])), (q1, .inr (2, [.ref (u2 0)])), (u2 0, .inl (cI, 120, .inl fun _ => I 0))] H locs := hz
  refine cz_putF J hin hz (j := 0) (ci := 0) rfl fi_X0 tyX0_ok nmX0 rfl 0 (by decide) rfl rfl lk_X0_14 rfl rfl rfl (Nat.le_of_ble_eq_true rfl) dX0_init_14 (fun H locs hz => ?_)
  have hz : cW D (va_A [(h0, .inr (0, [.null, .null, .null, .int (I 0), .int (I 0), .int (I 0)]))] s.heap.size) s.heap [(h0, .inr (0, [.ref (q1), .null, .null, .int (I 0), .int (I 0), .int (I 0)])), (q1, .inr (2, [.ref (u2 0)])), (u2 0, .inl (cI, 120, .inl fun _ => I 0))] H locs := hz
  refine j_aload_n J dX0_init_17 rfl (lv_at hl 0 rfl) ?_
  refine cz_new J hz hA (ci := 2) (fs := [.null]) fi_X2 tyX2_ok rfl (fun j hj => by rcases (show j = 0 by omega) with rfl <;> rfl) lk_X0_9 inst_X2 ini_X2 (Nat.le_of_ble_eq_true rfl) (Nat.le_of_ble_eq_true rfl) dX0_init_18 (fun q3 H hz => ?_)
  have hz : cW D (va_A [(h0, .inr (0, [.null, .null, .null, .int (I 0), .int (I 0), .int (I 0)]))] s.heap.size) s.heap [(h0, .inr (0, [.ref (q1), .null, .null, .int (I 0), .int (I 0), .int (I 0)])), (q1, .inr (2, [.ref (u2 0)])), (u2 0, .inl (cI, 120, .inl fun _ => I 0)), (q3, .inr (2, [.null]))] H locs := hz
  refine j_dup J dX0_init_21 rfl ?_
  refine j_bipush J 120 dX0_init_22 (by decide) ?_
  refine cz_init J (wr := [(h0, .inr (0, [.ref (q1), .null, .null, .int (I 0), .int (I 0), .int (I 0)])), (q1, .inr (2, [.ref (u2 0)])), (u2 0, .inl (cI, 120, .inl fun _ => I 0))]) hz hA (c_X2_init 120 (by decide)) lk_X0_11 in_X2_init ini_X2 co_X2_init (n := 1) (by decide +kernel) rfl ⟨rfl, rfl, Nat.le_of_ble_eq_true rfl, Nat.le_of_ble_eq_true rfl⟩ rfl (Nat.le_of_ble_eq_true rfl) hl.1 ⟨Nat.le_of_ble_eq_true rfl, Nat.le_of_ble_eq_true rfl⟩ rfl dX0_init_24 (fun u4 H locs _ hz => ?_)
  have hz : cW D (va_A [(h0, .inr (0, [.null, .null, .null, .int (I 0), .int (I 0), .int (I 0)]))] s.heap.size) s.heap [(h0, .inr (0, [.ref (q1), .null, .null, .int (I 0), .int (I 0), .int (I 0)])), (q1, .inr (2, [.ref (u2 0)])), (u2 0, .inl (cI, 120, .inl fun _ => I 0)), (q3, .inr (2, [.ref (u4 0)])), (u4 0, .inl (cI, 120, .inl fun _ => I 0))] H locs := hz
  refine cz_putF J hin hz (j := 0) (ci := 0) rfl fi_X0 tyX0_ok nmX0 rfl 1 (by decide) rfl rfl lk_X0_20 rfl rfl rfl (Nat.le_of_ble_eq_true rfl) dX0_init_27 (fun H locs hz => ?_)
  have hz : cW D (va_A [(h0, .inr (0, [.null, .null, .null, .int (I 0), .int (I 0), .int (I 0)]))] s.heap.size) s.heap [(h0, .inr (0, [.ref (q1), .ref (q3), .null, .int (I 0), .int (I 0), .int (I 0)])), (q1, .inr (2, [.ref (u2 0)])), (u2 0, .inl (cI, 120, .inl fun _ => I 0)), (q3, .inr (2, [.ref (u4 0)])), (u4 0, .inl (cI, 120, .inl fun _ => I 0))] H locs := hz
  refine j_aload_n J dX0_init_30 rfl (lv_at hl 0 rfl) ?_
  refine cz_new J hz hA (ci := 2) (fs := [.null]) fi_X2 tyX2_ok rfl (fun j hj => by rcases (show j = 0 by omega) with rfl <;> rfl) lk_X0_9 inst_X2 ini_X2 (Nat.le_of_ble_eq_true rfl) (Nat.le_of_ble_eq_true rfl) dX0_init_31 (fun q5 H hz => ?_)
  have hz : cW D (va_A [(h0, .inr (0, [.null, .null, .null, .int (I 0), .int (I 0), .int (I 0)]))] s.heap.size) s.heap [(h0, .inr (0, [.ref (q1), .ref (q3), .null, .int (I 0), .int (I 0), .int (I 0)])), (q1, .inr (2, [.ref (u2 0)])), (u2 0, .inl (cI, 120, .inl fun _ => I 0)), (q3, .inr (2, [.ref (u4 0)])), (u4 0, .inl (cI, 120, .inl fun _ => I 0)), (q5, .inr (2, [.null]))] H locs := hz
  refine j_dup J dX0_init_34 rfl ?_
  refine j_bipush J 120 dX0_init_35 (by decide) ?_
  refine cz_init J (wr := [(h0, .inr (0, [.ref (q1), .ref (q3), .null, .int (I 0), .int (I 0), .int (I 0)])), (q1, .inr (2, [.ref (u2 0)])), (u2 0, .inl (cI, 120, .inl fun _ => I 0)), (q3, .inr (2, [.ref (u4 0)])), (u4 0, .inl (cI, 120, .inl fun _ => I 0))]) hz hA (c_X2_init 120 (by decide)) lk_X0_11 in_X2_init ini_X2 co_X2_init (n := 1) (by decide +kernel) rfl ⟨rfl, rfl, Nat.le_of_ble_eq_true rfl, Nat.le_of_ble_eq_true rfl⟩ rfl (Nat.le_of_ble_eq_true rfl) hl.1 ⟨Nat.le_of_ble_eq_true rfl, Nat.le_of_ble_eq_true rfl⟩ rfl dX0_init_37 (fun u6 H locs _ hz => ?_)
  have hz : cW D (va_A [(h0, .inr (0, [.null, .null, .null, .int (I 0), .int (I 0), .int (I 0)]))] s.heap.size) s.heap [(h0, .inr (0, [.ref (q1), .ref (q3), .null, .int (I 0), .int (I 0), .int (I 0)])), (q1, .inr (2, [.ref (u2 0)])), (u2 0, .inl (cI, 120, .inl fun _ => I 0)), (q3, .inr (2, [.ref (u4 0)])), (u4 0, .inl (cI, 120, .inl fun _ => I 0)), (q5, .inr (2, [.ref (u6 0)])), (u6 0, .inl (cI, 120, .inl fun _ => I 0))] H locs := hz
  refine cz_putF J hin hz (j := 0) (ci := 0) rfl fi_X0 tyX0_ok nmX0 rfl 2 (by decide) rfl rfl lk_X0_23 rfl rfl rfl (Nat.le_of_ble_eq_true rfl) dX0_init_40 (fun H locs hz => ?_)
  have hz : cW D (va_A [(h0, .inr (0, [.null, .null, .null, .int (I 0), .int (I 0), .int (I 0)]))] s.heap.size) s.heap [(h0, .inr (0, [.ref (q1), .ref (q3), .ref (q5), .int (I 0), .int (I 0), .int (I 0)])), (q1, .inr (2, [.ref (u2 0)])), (u2 0, .inl (cI, 120, .inl fun _ => I 0)), (q3, .inr (2, [.ref (u4 0)])), (u4 0, .inl (cI, 120, .inl fun _ => I 0)), (q5, .inr (2, [.ref (u6 0)])), (u6 0, .inl (cI, 120, .inl fun _ => I 0))] H locs := hz
  exact fin (fun k => [(q1), (u2 0), (q3), (u4 0), (q5), (u6 0)].getD k 0) H locs ls _ trivial dX0_init_43 hz
def rm_X1_init : Room := { frames := 2, cells := 6, slots := 363, locals := 42 }
set_option maxHeartbeats 4000000 in
set_option maxRecDepth 100000 in
theorem c_X1_init {l : Launch} {D : va_G} {cI cZ : ClassId} {h0 : Nat}  : JC l yX1_init cX1_init 1 rm_X1_init D [(cI, .int), (cZ, .boolean)] h0 (.inr (1, [.null, .null, .null, .int (I 0), .int (I 0), .int (I 0)])) [] (fun _ : Nat → Nat => True) (fun u => [(h0, .inr (1, [.ref (u 0), .ref (u 2), .ref (u 4), .int (I 0), .int (I 0), .int (I 0)])), (u 0, .inr (2, [.ref (u 1)])), (u 1, .inl (cI, 120, .inl fun _ => I 0)), (u 2, .inr (2, [.ref (u 3)])), (u 3, .inl (cI, 120, .inl fun _ => I 0)), (u 4, .inr (2, [.ref (u 5)])), (u 5, .inl (cI, 120, .inl fun _ => I 0))]) 6 363 := by
  refine JC.of RX1 (by decide +kernel) rfl rfl (Nat.le_of_ble_eq_true rfl) ?_
  intro p e s m args below meth c Q J hin fin H locs ls hHs hz hl
  have hA : ∀ q, s.heap.size ≤ q → va_A [(h0, .inr (1, [.null, .null, .null, .int (I 0), .int (I 0), .int (I 0)]))] s.heap.size q := fun q h => Or.inr h
  have hl : lv_has ls 1 [(0, .ref h0)] := hl
  refine j_aload_n J dX1_init_0 rfl (lv_at hl 0 rfl) ?_
  refine cz_obj J hl.1 lk_X1_3 ⟨Nat.le_of_ble_eq_true rfl, Nat.le_of_ble_eq_true rfl⟩ dX1_init_1 ?_
  refine j_aload_n J dX1_init_4 rfl (lv_at hl 0 rfl) ?_
  refine cz_new J hz hA (ci := 2) (fs := [.null]) fi_X2 tyX2_ok rfl (fun j hj => by rcases (show j = 0 by omega) with rfl <;> rfl) lk_X1_9 inst_X2 ini_X2 (Nat.le_of_ble_eq_true rfl) (Nat.le_of_ble_eq_true rfl) dX1_init_5 (fun q1 H hz => ?_)
  have hz : cW D (va_A [(h0, .inr (1, [.null, .null, .null, .int (I 0), .int (I 0), .int (I 0)]))] s.heap.size) s.heap [(h0, .inr (1, [.null, .null, .null, .int (I 0), .int (I 0), .int (I 0)])), (q1, .inr (2, [.null]))] H locs := hz
  refine j_dup J dX1_init_8 rfl ?_
  refine j_bipush J 120 dX1_init_9 (by decide) ?_
  refine cz_init J (wr := [(h0, .inr (1, [.null, .null, .null, .int (I 0), .int (I 0), .int (I 0)]))]) hz hA (c_X2_init 120 (by decide)) lk_X1_11 in_X2_init ini_X2 co_X2_init (n := 1) (by decide +kernel) rfl ⟨rfl, rfl, Nat.le_of_ble_eq_true rfl, Nat.le_of_ble_eq_true rfl⟩ rfl (Nat.le_of_ble_eq_true rfl) hl.1 ⟨Nat.le_of_ble_eq_true rfl, Nat.le_of_ble_eq_true rfl⟩ rfl dX1_init_11 (fun u2 H locs _ hz => ?_)
  have hz : cW D (va_A [(h0, .inr (1, [.null, .null, .null, .int (I 0), .int (I 0), .int (I 0)]))] s.heap.size) s.heap [(h0, .inr (1, [.null, .null, .null, .int (I 0), .int (I 0), .int (I 0)])), (q1, .inr (2, [.ref (u2 0)])), (u2 0, .inl (cI, 120, .inl fun _ => I 0))] H locs := hz
  refine cz_putF J hin hz (j := 0) (ci := 1) rfl fi_X1 tyX1_ok nmX1 rfl 0 (by decide) rfl rfl lk_X1_14 rfl rfl rfl (Nat.le_of_ble_eq_true rfl) dX1_init_14 (fun H locs hz => ?_)
  have hz : cW D (va_A [(h0, .inr (1, [.null, .null, .null, .int (I 0), .int (I 0), .int (I 0)]))] s.heap.size) s.heap [(h0, .inr (1, [.ref (q1), .null, .null, .int (I 0), .int (I 0), .int (I 0)])), (q1, .inr (2, [.ref (u2 0)])), (u2 0, .inl (cI, 120, .inl fun _ => I 0))] H locs := hz
  refine j_aload_n J dX1_init_17 rfl (lv_at hl 0 rfl) ?_
  refine cz_new J hz hA (ci := 2) (fs := [.null]) fi_X2 tyX2_ok rfl (fun j hj => by rcases (show j = 0 by omega) with rfl <;> rfl) lk_X1_9 inst_X2 ini_X2 (Nat.le_of_ble_eq_true rfl) (Nat.le_of_ble_eq_true rfl) dX1_init_18 (fun q3 H hz => ?_)
  have hz : cW D (va_A [(h0, .inr (1, [.null, .null, .null, .int (I 0), .int (I 0), .int (I 0)]))] s.heap.size) s.heap [(h0, .inr (1, [.ref (q1), .null, .null, .int (I 0), .int (I 0), .int (I 0)])), (q1, .inr (2, [.ref (u2 0)])), (u2 0, .inl (cI, 120, .inl fun _ => I 0)), (q3, .inr (2, [.null]))] H locs := hz
  refine j_dup J dX1_init_21 rfl ?_
  refine j_bipush J 120 dX1_init_22 (by decide) ?_
  refine cz_init J (wr := [(h0, .inr (1, [.ref (q1), .null, .null, .int (I 0), .int (I 0), .int (I 0)])), (q1, .inr (2, [.ref (u2 0)])), (u2 0, .inl (cI, 120, .inl fun _ => I 0))]) hz hA (c_X2_init 120 (by decide)) lk_X1_11 in_X2_init ini_X2 co_X2_init (n := 1) (by decide +kernel) rfl ⟨rfl, rfl, Nat.le_of_ble_eq_true rfl, Nat.le_of_ble_eq_true rfl⟩ rfl (Nat.le_of_ble_eq_true rfl) hl.1 ⟨Nat.le_of_ble_eq_true rfl, Nat.le_of_ble_eq_true rfl⟩ rfl dX1_init_24 (fun u4 H locs _ hz => ?_)
  have hz : cW D (va_A [(h0, .inr (1, [.null, .null, .null, .int (I 0), .int (I 0), .int (I 0)]))] s.heap.size) s.heap [(h0, .inr (1, [.ref (q1), .null, .null, .int (I 0), .int (I 0), .int (I 0)])), (q1, .inr (2, [.ref (u2 0)])), (u2 0, .inl (cI, 120, .inl fun _ => I 0)), (q3, .inr (2, [.ref (u4 0)])), (u4 0, .inl (cI, 120, .inl fun _ => I 0))] H locs := hz
  refine cz_putF J hin hz (j := 0) (ci := 1) rfl fi_X1 tyX1_ok nmX1 rfl 1 (by decide) rfl rfl lk_X1_20 rfl rfl rfl (Nat.le_of_ble_eq_true rfl) dX1_init_27 (fun H locs hz => ?_)
  have hz : cW D (va_A [(h0, .inr (1, [.null, .null, .null, .int (I 0), .int (I 0), .int (I 0)]))] s.heap.size) s.heap [(h0, .inr (1, [.ref (q1), .ref (q3), .null, .int (I 0), .int (I 0), .int (I 0)])), (q1, .inr (2, [.ref (u2 0)])), (u2 0, .inl (cI, 120, .inl fun _ => I 0)), (q3, .inr (2, [.ref (u4 0)])), (u4 0, .inl (cI, 120, .inl fun _ => I 0))] H locs := hz
  refine j_aload_n J dX1_init_30 rfl (lv_at hl 0 rfl) ?_
  refine cz_new J hz hA (ci := 2) (fs := [.null]) fi_X2 tyX2_ok rfl (fun j hj => by rcases (show j = 0 by omega) with rfl <;> rfl) lk_X1_9 inst_X2 ini_X2 (Nat.le_of_ble_eq_true rfl) (Nat.le_of_ble_eq_true rfl) dX1_init_31 (fun q5 H hz => ?_)
  have hz : cW D (va_A [(h0, .inr (1, [.null, .null, .null, .int (I 0), .int (I 0), .int (I 0)]))] s.heap.size) s.heap [(h0, .inr (1, [.ref (q1), .ref (q3), .null, .int (I 0), .int (I 0), .int (I 0)])), (q1, .inr (2, [.ref (u2 0)])), (u2 0, .inl (cI, 120, .inl fun _ => I 0)), (q3, .inr (2, [.ref (u4 0)])), (u4 0, .inl (cI, 120, .inl fun _ => I 0)), (q5, .inr (2, [.null]))] H locs := hz
  refine j_dup J dX1_init_34 rfl ?_
  refine j_bipush J 120 dX1_init_35 (by decide) ?_
  refine cz_init J (wr := [(h0, .inr (1, [.ref (q1), .ref (q3), .null, .int (I 0), .int (I 0), .int (I 0)])), (q1, .inr (2, [.ref (u2 0)])), (u2 0, .inl (cI, 120, .inl fun _ => I 0)), (q3, .inr (2, [.ref (u4 0)])), (u4 0, .inl (cI, 120, .inl fun _ => I 0))]) hz hA (c_X2_init 120 (by decide)) lk_X1_11 in_X2_init ini_X2 co_X2_init (n := 1) (by decide +kernel) rfl ⟨rfl, rfl, Nat.le_of_ble_eq_true rfl, Nat.le_of_ble_eq_true rfl⟩ rfl (Nat.le_of_ble_eq_true rfl) hl.1 ⟨Nat.le_of_ble_eq_true rfl, Nat.le_of_ble_eq_true rfl⟩ rfl dX1_init_37 (fun u6 H locs _ hz => ?_)
  have hz : cW D (va_A [(h0, .inr (1, [.null, .null, .null, .int (I 0), .int (I 0), .int (I 0)]))] s.heap.size) s.heap [(h0, .inr (1, [.ref (q1), .ref (q3), .null, .int (I 0), .int (I 0), .int (I 0)])), (q1, .inr (2, [.ref (u2 0)])), (u2 0, .inl (cI, 120, .inl fun _ => I 0)), (q3, .inr (2, [.ref (u4 0)])), (u4 0, .inl (cI, 120, .inl fun _ => I 0)), (q5, .inr (2, [.ref (u6 0)])), (u6 0, .inl (cI, 120, .inl fun _ => I 0))] H locs := hz
  refine cz_putF J hin hz (j := 0) (ci := 1) rfl fi_X1 tyX1_ok nmX1 rfl 2 (by decide) rfl rfl lk_X1_23 rfl rfl rfl (Nat.le_of_ble_eq_true rfl) dX1_init_40 (fun H locs hz => ?_)
  have hz : cW D (va_A [(h0, .inr (1, [.null, .null, .null, .int (I 0), .int (I 0), .int (I 0)]))] s.heap.size) s.heap [(h0, .inr (1, [.ref (q1), .ref (q3), .ref (q5), .int (I 0), .int (I 0), .int (I 0)])), (q1, .inr (2, [.ref (u2 0)])), (u2 0, .inl (cI, 120, .inl fun _ => I 0)), (q3, .inr (2, [.ref (u4 0)])), (u4 0, .inl (cI, 120, .inl fun _ => I 0)), (q5, .inr (2, [.ref (u6 0)])), (u6 0, .inl (cI, 120, .inl fun _ => I 0))] H locs := hz
  exact fin (fun k => [(q1), (u2 0), (q3), (u4 0), (q5), (u6 0)].getD k 0) H locs ls _ trivial dX1_init_43 hz
def rm_X3_init : Room := { frames := 2, cells := 2, slots := 13, locals := 42 }
set_option maxHeartbeats 4000000 in
set_option maxRecDepth 100000 in
theorem c_X3_init {l : Launch} {D : va_G} {cI cZ : ClassId} {h0 : Nat}  : JC l yX3_init cX3_init 1 rm_X3_init D [(cI, .int), (cZ, .boolean)] h0 (.inr (3, [.null, .int (I 0), .int (I 0), .int (I 0)])) [] (fun _ : Nat → Nat => True) (fun u => [(h0, .inr (3, [.ref (u 0), .int (I 0), .int (I 0), .int (I 0)])), (u 0, .inr (2, [.ref (u 1)])), (u 1, .inl (cI, 12, .inl fun _ => I 0))]) 2 13 := by
  refine JC.of RX3 (by decide +kernel) rfl rfl (Nat.le_of_ble_eq_true rfl) ?_
  intro p e s m args below meth c Q J hin fin H locs ls hHs hz hl
  have hA : ∀ q, s.heap.size ≤ q → va_A [(h0, .inr (3, [.null, .int (I 0), .int (I 0), .int (I 0)]))] s.heap.size q := fun q h => Or.inr h
  have hl : lv_has ls 1 [(0, .ref h0)] := hl
  refine j_aload_n J dX3_init_0 rfl (lv_at hl 0 rfl) ?_
  refine cz_obj J hl.1 lk_X3_3 ⟨Nat.le_of_ble_eq_true rfl, Nat.le_of_ble_eq_true rfl⟩ dX3_init_1 ?_
  refine j_aload_n J dX3_init_4 rfl (lv_at hl 0 rfl) ?_
  refine cz_new J hz hA (ci := 2) (fs := [.null]) fi_X2 tyX2_ok rfl (fun j hj => by rcases (show j = 0 by omega) with rfl <;> rfl) lk_X3_9 inst_X2 ini_X2 (Nat.le_of_ble_eq_true rfl) (Nat.le_of_ble_eq_true rfl) dX3_init_5 (fun q1 H hz => ?_)
  have hz : cW D (va_A [(h0, .inr (3, [.null, .int (I 0), .int (I 0), .int (I 0)]))] s.heap.size) s.heap [(h0, .inr (3, [.null, .int (I 0), .int (I 0), .int (I 0)])), (q1, .inr (2, [.null]))] H locs := hz
  refine j_dup J dX3_init_8 rfl ?_
  refine j_bipush J 12 dX3_init_9 (by decide) ?_
  refine cz_init J (wr := [(h0, .inr (3, [.null, .int (I 0), .int (I 0), .int (I 0)]))]) hz hA (c_X2_init 12 (by decide)) lk_X3_11 in_X2_init ini_X2 co_X2_init (n := 1) (by decide +kernel) rfl ⟨rfl, rfl, Nat.le_of_ble_eq_true rfl, Nat.le_of_ble_eq_true rfl⟩ rfl (Nat.le_of_ble_eq_true rfl) hl.1 ⟨Nat.le_of_ble_eq_true rfl, Nat.le_of_ble_eq_true rfl⟩ rfl dX3_init_11 (fun u2 H locs _ hz => ?_)
  have hz : cW D (va_A [(h0, .inr (3, [.null, .int (I 0), .int (I 0), .int (I 0)]))] s.heap.size) s.heap [(h0, .inr (3, [.null, .int (I 0), .int (I 0), .int (I 0)])), (q1, .inr (2, [.ref (u2 0)])), (u2 0, .inl (cI, 12, .inl fun _ => I 0))] H locs := hz
  refine cz_putF J hin hz (j := 0) (ci := 3) rfl fi_X3 tyX3_ok nmX3 rfl 0 (by decide) rfl rfl lk_X3_14 rfl rfl rfl (Nat.le_of_ble_eq_true rfl) dX3_init_14 (fun H locs hz => ?_)
  have hz : cW D (va_A [(h0, .inr (3, [.null, .int (I 0), .int (I 0), .int (I 0)]))] s.heap.size) s.heap [(h0, .inr (3, [.ref (q1), .int (I 0), .int (I 0), .int (I 0)])), (q1, .inr (2, [.ref (u2 0)])), (u2 0, .inl (cI, 12, .inl fun _ => I 0))] H locs := hz
  exact fin (fun k => [(q1), (u2 0)].getD k 0) H locs ls _ trivial dX3_init_17 hz
def rm_X4_init : Room := { frames := 2, cells := 6, slots := 27, locals := 42 }
set_option maxHeartbeats 4000000 in
set_option maxRecDepth 100000 in
theorem c_X4_init {l : Launch} {D : va_G} {cI cZ : ClassId} {h0 : Nat}  : JC l yX4_init cX4_init 1 rm_X4_init D [(cI, .int), (cZ, .boolean)] h0 (.inr (4, [.null, .null, .null, .int (I 0)])) [] (fun _ : Nat → Nat => True) (fun u => [(h0, .inr (4, [.ref (u 0), .ref (u 2), .ref (u 4), .int (I 0)])), (u 0, .inr (2, [.ref (u 1)])), (u 1, .inl (cI, 8, .inl fun _ => I 0)), (u 2, .inr (2, [.ref (u 3)])), (u 3, .inl (cI, 8, .inl fun _ => I 0)), (u 4, .inr (2, [.ref (u 5)])), (u 5, .inl (cI, 8, .inl fun _ => I 0))]) 6 27 := by
  refine JC.of RX4 (by decide +kernel) rfl rfl (Nat.le_of_ble_eq_true rfl) ?_
  intro p e s m args below meth c Q J hin fin H locs ls hHs hz hl
  have hA : ∀ q, s.heap.size ≤ q → va_A [(h0, .inr (4, [.null, .null, .null, .int (I 0)]))] s.heap.size q := fun q h => Or.inr h
  have hl : lv_has ls 1 [(0, .ref h0)] := hl
  refine j_aload_n J dX4_init_0 rfl (lv_at hl 0 rfl) ?_
  refine cz_obj J hl.1 lk_X4_3 ⟨Nat.le_of_ble_eq_true rfl, Nat.le_of_ble_eq_true rfl⟩ dX4_init_1 ?_
  refine j_aload_n J dX4_init_4 rfl (lv_at hl 0 rfl) ?_
  refine cz_new J hz hA (ci := 2) (fs := [.null]) fi_X2 tyX2_ok rfl (fun j hj => by rcases (show j = 0 by omega) with rfl <;> rfl) lk_X4_9 inst_X2 ini_X2 (Nat.le_of_ble_eq_true rfl) (Nat.le_of_ble_eq_true rfl) dX4_init_5 (fun q1 H hz => ?_)
  have hz : cW D (va_A [(h0, .inr (4, [.null, .null, .null, .int (I 0)]))] s.heap.size) s.heap [(h0, .inr (4, [.null, .null, .null, .int (I 0)])), (q1, .inr (2, [.null]))] H locs := hz
  refine j_dup J dX4_init_8 rfl ?_
  refine j_bipush J 8 dX4_init_9 (by decide) ?_
  refine cz_init J (wr := [(h0, .inr (4, [.null, .null, .null, .int (I 0)]))]) hz hA (c_X2_init 8 (by decide)) lk_X4_11 in_X2_init ini_X2 co_X2_init (n := 1) (by decide +kernel) rfl ⟨rfl, rfl, Nat.le_of_ble_eq_true rfl, Nat.le_of_ble_eq_true rfl⟩ rfl (Nat.le_of_ble_eq_true rfl) hl.1 ⟨Nat.le_of_ble_eq_true rfl, Nat.le_of_ble_eq_true rfl⟩ rfl dX4_init_11 (fun u2 H locs _ hz => ?_)
  have hz : cW D (va_A [(h0, .inr (4, [.null, .null, .null, .int (I 0)]))] s.heap.size) s.heap [(h0, .inr (4, [.null, .null, .null, .int (I 0)])), (q1, .inr (2, [.ref (u2 0)])), (u2 0, .inl (cI, 8, .inl fun _ => I 0))] H locs := hz
  refine cz_putF J hin hz (j := 0) (ci := 4) rfl fi_X4 tyX4_ok nmX4 rfl 0 (by decide) rfl rfl lk_X4_14 rfl rfl rfl (Nat.le_of_ble_eq_true rfl) dX4_init_14 (fun H locs hz => ?_)
  have hz : cW D (va_A [(h0, .inr (4, [.null, .null, .null, .int (I 0)]))] s.heap.size) s.heap [(h0, .inr (4, [.ref (q1), .null, .null, .int (I 0)])), (q1, .inr (2, [.ref (u2 0)])), (u2 0, .inl (cI, 8, .inl fun _ => I 0))] H locs := hz
  refine j_aload_n J dX4_init_17 rfl (lv_at hl 0 rfl) ?_
  refine cz_new J hz hA (ci := 2) (fs := [.null]) fi_X2 tyX2_ok rfl (fun j hj => by rcases (show j = 0 by omega) with rfl <;> rfl) lk_X4_9 inst_X2 ini_X2 (Nat.le_of_ble_eq_true rfl) (Nat.le_of_ble_eq_true rfl) dX4_init_18 (fun q3 H hz => ?_)
  have hz : cW D (va_A [(h0, .inr (4, [.null, .null, .null, .int (I 0)]))] s.heap.size) s.heap [(h0, .inr (4, [.ref (q1), .null, .null, .int (I 0)])), (q1, .inr (2, [.ref (u2 0)])), (u2 0, .inl (cI, 8, .inl fun _ => I 0)), (q3, .inr (2, [.null]))] H locs := hz
  refine j_dup J dX4_init_21 rfl ?_
  refine j_bipush J 8 dX4_init_22 (by decide) ?_
  refine cz_init J (wr := [(h0, .inr (4, [.ref (q1), .null, .null, .int (I 0)])), (q1, .inr (2, [.ref (u2 0)])), (u2 0, .inl (cI, 8, .inl fun _ => I 0))]) hz hA (c_X2_init 8 (by decide)) lk_X4_11 in_X2_init ini_X2 co_X2_init (n := 1) (by decide +kernel) rfl ⟨rfl, rfl, Nat.le_of_ble_eq_true rfl, Nat.le_of_ble_eq_true rfl⟩ rfl (Nat.le_of_ble_eq_true rfl) hl.1 ⟨Nat.le_of_ble_eq_true rfl, Nat.le_of_ble_eq_true rfl⟩ rfl dX4_init_24 (fun u4 H locs _ hz => ?_)
  have hz : cW D (va_A [(h0, .inr (4, [.null, .null, .null, .int (I 0)]))] s.heap.size) s.heap [(h0, .inr (4, [.ref (q1), .null, .null, .int (I 0)])), (q1, .inr (2, [.ref (u2 0)])), (u2 0, .inl (cI, 8, .inl fun _ => I 0)), (q3, .inr (2, [.ref (u4 0)])), (u4 0, .inl (cI, 8, .inl fun _ => I 0))] H locs := hz
  refine cz_putF J hin hz (j := 0) (ci := 4) rfl fi_X4 tyX4_ok nmX4 rfl 1 (by decide) rfl rfl lk_X4_20 rfl rfl rfl (Nat.le_of_ble_eq_true rfl) dX4_init_27 (fun H locs hz => ?_)
  have hz : cW D (va_A [(h0, .inr (4, [.null, .null, .null, .int (I 0)]))] s.heap.size) s.heap [(h0, .inr (4, [.ref (q1), .ref (q3), .null, .int (I 0)])), (q1, .inr (2, [.ref (u2 0)])), (u2 0, .inl (cI, 8, .inl fun _ => I 0)), (q3, .inr (2, [.ref (u4 0)])), (u4 0, .inl (cI, 8, .inl fun _ => I 0))] H locs := hz
  refine j_aload_n J dX4_init_30 rfl (lv_at hl 0 rfl) ?_
  refine cz_new J hz hA (ci := 2) (fs := [.null]) fi_X2 tyX2_ok rfl (fun j hj => by rcases (show j = 0 by omega) with rfl <;> rfl) lk_X4_9 inst_X2 ini_X2 (Nat.le_of_ble_eq_true rfl) (Nat.le_of_ble_eq_true rfl) dX4_init_31 (fun q5 H hz => ?_)
  have hz : cW D (va_A [(h0, .inr (4, [.null, .null, .null, .int (I 0)]))] s.heap.size) s.heap [(h0, .inr (4, [.ref (q1), .ref (q3), .null, .int (I 0)])), (q1, .inr (2, [.ref (u2 0)])), (u2 0, .inl (cI, 8, .inl fun _ => I 0)), (q3, .inr (2, [.ref (u4 0)])), (u4 0, .inl (cI, 8, .inl fun _ => I 0)), (q5, .inr (2, [.null]))] H locs := hz
  refine j_dup J dX4_init_34 rfl ?_
  refine j_bipush J 8 dX4_init_35 (by decide) ?_
  refine cz_init J (wr := [(h0, .inr (4, [.ref (q1), .ref (q3), .null, .int (I 0)])), (q1, .inr (2, [.ref (u2 0)])), (u2 0, .inl (cI, 8, .inl fun _ => I 0)), (q3, .inr (2, [.ref (u4 0)])), (u4 0, .inl (cI, 8, .inl fun _ => I 0))]) hz hA (c_X2_init 8 (by decide)) lk_X4_11 in_X2_init ini_X2 co_X2_init (n := 1) (by decide +kernel) rfl ⟨rfl, rfl, Nat.le_of_ble_eq_true rfl, Nat.le_of_ble_eq_true rfl⟩ rfl (Nat.le_of_ble_eq_true rfl) hl.1 ⟨Nat.le_of_ble_eq_true rfl, Nat.le_of_ble_eq_true rfl⟩ rfl dX4_init_37 (fun u6 H locs _ hz => ?_)
  have hz : cW D (va_A [(h0, .inr (4, [.null, .null, .null, .int (I 0)]))] s.heap.size) s.heap [(h0, .inr (4, [.ref (q1), .ref (q3), .null, .int (I 0)])), (q1, .inr (2, [.ref (u2 0)])), (u2 0, .inl (cI, 8, .inl fun _ => I 0)), (q3, .inr (2, [.ref (u4 0)])), (u4 0, .inl (cI, 8, .inl fun _ => I 0)), (q5, .inr (2, [.ref (u6 0)])), (u6 0, .inl (cI, 8, .inl fun _ => I 0))] H locs := hz
  refine cz_putF J hin hz (j := 0) (ci := 4) rfl fi_X4 tyX4_ok nmX4 rfl 2 (by decide) rfl rfl lk_X4_23 rfl rfl rfl (Nat.le_of_ble_eq_true rfl) dX4_init_40 (fun H locs hz => ?_)
  have hz : cW D (va_A [(h0, .inr (4, [.null, .null, .null, .int (I 0)]))] s.heap.size) s.heap [(h0, .inr (4, [.ref (q1), .ref (q3), .ref (q5), .int (I 0)])), (q1, .inr (2, [.ref (u2 0)])), (u2 0, .inl (cI, 8, .inl fun _ => I 0)), (q3, .inr (2, [.ref (u4 0)])), (u4 0, .inl (cI, 8, .inl fun _ => I 0)), (q5, .inr (2, [.ref (u6 0)])), (u6 0, .inl (cI, 8, .inl fun _ => I 0))] H locs := hz
  exact fin (fun k => [(q1), (u2 0), (q3), (u4 0), (q5), (u6 0)].getD k 0) H locs ls _ trivial dX4_init_43 hz
def rm_X5_init : Room := { frames := 2, cells := 4, slots := 728, locals := 42 }
set_option maxHeartbeats 4000000 in
set_option maxRecDepth 100000 in
theorem c_X5_init {l : Launch} {D : va_G} {cI cZ : ClassId} {h0 : Nat}  : JC l yX5_init cX5_init 1 rm_X5_init D [(cI, .int), (cZ, .boolean)] h0 (.inr (5, [.null, .null])) [] (fun _ : Nat → Nat => True) (fun u => [(h0, .inr (5, [.ref (u 0), .ref (u 2)])), (u 0, .inr (2, [.ref (u 1)])), (u 1, .inl (cI, 720, .inl fun _ => I 0)), (u 2, .inr (2, [.ref (u 3)])), (u 3, .inl (cI, 6, .inl fun _ => I 0))]) 4 728 := by
  refine JC.of RX5 (by decide +kernel) rfl rfl (Nat.le_of_ble_eq_true rfl) ?_
  intro p e s m args below meth c Q J hin fin H locs ls hHs hz hl
  have hA : ∀ q, s.heap.size ≤ q → va_A [(h0, .inr (5, [.null, .null]))] s.heap.size q := fun q h => Or.inr h
  have hl : lv_has ls 1 [(0, .ref h0)] := hl
  refine j_aload_n J dX5_init_0 rfl (lv_at hl 0 rfl) ?_
  refine cz_obj J hl.1 lk_X5_3 ⟨Nat.le_of_ble_eq_true rfl, Nat.le_of_ble_eq_true rfl⟩ dX5_init_1 ?_
  refine j_aload_n J dX5_init_4 rfl (lv_at hl 0 rfl) ?_
  refine cz_new J hz hA (ci := 2) (fs := [.null]) fi_X2 tyX2_ok rfl (fun j hj => by rcases (show j = 0 by omega) with rfl <;> rfl) lk_X5_9 inst_X2 ini_X2 (Nat.le_of_ble_eq_true rfl) (Nat.le_of_ble_eq_true rfl) dX5_init_5 (fun q1 H hz => ?_)
  have hz : cW D (va_A [(h0, .inr (5, [.null, .null]))] s.heap.size) s.heap [(h0, .inr (5, [.null, .null])), (q1, .inr (2, [.null]))] H locs := hz
  refine j_dup J dX5_init_8 rfl ?_
  refine j_sipush J 720 dX5_init_9 (by decide) ?_
  refine cz_init J (wr := [(h0, .inr (5, [.null, .null]))]) hz hA (c_X2_init 720 (by decide)) lk_X5_11 in_X2_init ini_X2 co_X2_init (n := 1) (by decide +kernel) rfl ⟨rfl, rfl, Nat.le_of_ble_eq_true rfl, Nat.le_of_ble_eq_true rfl⟩ rfl (Nat.le_of_ble_eq_true rfl) hl.1 ⟨Nat.le_of_ble_eq_true rfl, Nat.le_of_ble_eq_true rfl⟩ rfl dX5_init_12 (fun u2 H locs _ hz => ?_)
  have hz : cW D (va_A [(h0, .inr (5, [.null, .null]))] s.heap.size) s.heap [(h0, .inr (5, [.null, .null])), (q1, .inr (2, [.ref (u2 0)])), (u2 0, .inl (cI, 720, .inl fun _ => I 0))] H locs := hz
  refine cz_putF J hin hz (j := 0) (ci := 5) rfl fi_X5 tyX5_ok nmX5 rfl 0 (by decide) rfl rfl lk_X5_14 rfl rfl rfl (Nat.le_of_ble_eq_true rfl) dX5_init_15 (fun H locs hz => ?_)
  have hz : cW D (va_A [(h0, .inr (5, [.null, .null]))] s.heap.size) s.heap [(h0, .inr (5, [.ref (q1), .null])), (q1, .inr (2, [.ref (u2 0)])), (u2 0, .inl (cI, 720, .inl fun _ => I 0))] H locs := hz
  refine j_aload_n J dX5_init_18 rfl (lv_at hl 0 rfl) ?_
  refine cz_new J hz hA (ci := 2) (fs := [.null]) fi_X2 tyX2_ok rfl (fun j hj => by rcases (show j = 0 by omega) with rfl <;> rfl) lk_X5_9 inst_X2 ini_X2 (Nat.le_of_ble_eq_true rfl) (Nat.le_of_ble_eq_true rfl) dX5_init_19 (fun q3 H hz => ?_)
  have hz : cW D (va_A [(h0, .inr (5, [.null, .null]))] s.heap.size) s.heap [(h0, .inr (5, [.ref (q1), .null])), (q1, .inr (2, [.ref (u2 0)])), (u2 0, .inl (cI, 720, .inl fun _ => I 0)), (q3, .inr (2, [.null]))] H locs := hz
  refine j_dup J dX5_init_22 rfl ?_
  refine j_bipush J 6 dX5_init_23 (by decide) ?_
  refine cz_init J (wr := [(h0, .inr (5, [.ref (q1), .null])), (q1, .inr (2, [.ref (u2 0)])), (u2 0, .inl (cI, 720, .inl fun _ => I 0))]) hz hA (c_X2_init 6 (by decide)) lk_X5_11 in_X2_init ini_X2 co_X2_init (n := 1) (by decide +kernel) rfl ⟨rfl, rfl, Nat.le_of_ble_eq_true rfl, Nat.le_of_ble_eq_true rfl⟩ rfl (Nat.le_of_ble_eq_true rfl) hl.1 ⟨Nat.le_of_ble_eq_true rfl, Nat.le_of_ble_eq_true rfl⟩ rfl dX5_init_25 (fun u4 H locs _ hz => ?_)
  have hz : cW D (va_A [(h0, .inr (5, [.null, .null]))] s.heap.size) s.heap [(h0, .inr (5, [.ref (q1), .null])), (q1, .inr (2, [.ref (u2 0)])), (u2 0, .inl (cI, 720, .inl fun _ => I 0)), (q3, .inr (2, [.ref (u4 0)])), (u4 0, .inl (cI, 6, .inl fun _ => I 0))] H locs := hz
  refine cz_putF J hin hz (j := 0) (ci := 5) rfl fi_X5 tyX5_ok nmX5 rfl 1 (by decide) rfl rfl lk_X5_20 rfl rfl rfl (Nat.le_of_ble_eq_true rfl) dX5_init_28 (fun H locs hz => ?_)
  have hz : cW D (va_A [(h0, .inr (5, [.null, .null]))] s.heap.size) s.heap [(h0, .inr (5, [.ref (q1), .ref (q3)])), (q1, .inr (2, [.ref (u2 0)])), (u2 0, .inl (cI, 720, .inl fun _ => I 0)), (q3, .inr (2, [.ref (u4 0)])), (u4 0, .inl (cI, 6, .inl fun _ => I 0))] H locs := hz
  exact fin (fun k => [(q1), (u2 0), (q3), (u4 0)].getD k 0) H locs ls _ trivial dX5_init_31 hz
def rm_X6_init : Room := { frames := 2, cells := 2, slots := 32, locals := 42 }
set_option maxHeartbeats 4000000 in
set_option maxRecDepth 100000 in
theorem c_X6_init {l : Launch} {D : va_G} {cI cZ : ClassId} {h0 : Nat}  : JC l yX6_init cX6_init 1 rm_X6_init D [(cI, .int), (cZ, .boolean)] h0 (.inr (6, [.null])) [] (fun _ : Nat → Nat => True) (fun u => [(h0, .inr (6, [.ref (u 0)])), (u 0, .inr (2, [.ref (u 1)])), (u 1, .inl (cI, 31, .inl fun _ => I 0))]) 2 32 := by
  refine JC.of RX6 (by decide +kernel) rfl rfl (Nat.le_of_ble_eq_true rfl) ?_
  intro p e s m args below meth c Q J hin fin H locs ls hHs hz hl
  have hA : ∀ q, s.heap.size ≤ q → va_A [(h0, .inr (6, [.null]))] s.heap.size q := fun q h => Or.inr h
  have hl : lv_has ls 1 [(0, .ref h0)] := hl
  refine j_aload_n J dX6_init_0 rfl (lv_at hl 0 rfl) ?_
  refine cz_obj J hl.1 lk_X6_3 ⟨Nat.le_of_ble_eq_true rfl, Nat.le_of_ble_eq_true rfl⟩ dX6_init_1 ?_
  refine j_aload_n J dX6_init_4 rfl (lv_at hl 0 rfl) ?_
  refine cz_new J hz hA (ci := 2) (fs := [.null]) fi_X2 tyX2_ok rfl (fun j hj => by rcases (show j = 0 by omega) with rfl <;> rfl) lk_X6_9 inst_X2 ini_X2 (Nat.le_of_ble_eq_true rfl) (Nat.le_of_ble_eq_true rfl) dX6_init_5 (fun q1 H hz => ?_)
  have hz : cW D (va_A [(h0, .inr (6, [.null]))] s.heap.size) s.heap [(h0, .inr (6, [.null])), (q1, .inr (2, [.null]))] H locs := hz
  refine j_dup J dX6_init_8 rfl ?_
  refine j_bipush J 31 dX6_init_9 (by decide) ?_
  refine cz_init J (wr := [(h0, .inr (6, [.null]))]) hz hA (c_X2_init 31 (by decide)) lk_X6_11 in_X2_init ini_X2 co_X2_init (n := 1) (by decide +kernel) rfl ⟨rfl, rfl, Nat.le_of_ble_eq_true rfl, Nat.le_of_ble_eq_true rfl⟩ rfl (Nat.le_of_ble_eq_true rfl) hl.1 ⟨Nat.le_of_ble_eq_true rfl, Nat.le_of_ble_eq_true rfl⟩ rfl dX6_init_11 (fun u2 H locs _ hz => ?_)
  have hz : cW D (va_A [(h0, .inr (6, [.null]))] s.heap.size) s.heap [(h0, .inr (6, [.null])), (q1, .inr (2, [.ref (u2 0)])), (u2 0, .inl (cI, 31, .inl fun _ => I 0))] H locs := hz
  refine cz_putF J hin hz (j := 0) (ci := 6) rfl fi_X6 tyX6_ok nmX6 rfl 0 (by decide) rfl rfl lk_X6_14 rfl rfl rfl (Nat.le_of_ble_eq_true rfl) dX6_init_14 (fun H locs hz => ?_)
  have hz : cW D (va_A [(h0, .inr (6, [.null]))] s.heap.size) s.heap [(h0, .inr (6, [.ref (q1)])), (q1, .inr (2, [.ref (u2 0)])), (u2 0, .inl (cI, 31, .inl fun _ => I 0))] H locs := hz
  exact fin (fun k => [(q1), (u2 0)].getD k 0) H locs ls _ trivial dX6_init_17 hz
def rm_X7_init : Room := { frames := 2, cells := 6, slots := 12, locals := 42 }
set_option maxHeartbeats 4000000 in
set_option maxRecDepth 100000 in
theorem c_X7_init {l : Launch} {D : va_G} {cI cZ : ClassId} {h0 : Nat}  : JC l yX7_init cX7_init 1 rm_X7_init D [(cI, .int), (cZ, .boolean)] h0 (.inr (7, [.null, .null, .null])) [] (fun _ : Nat → Nat => True) (fun u => [(h0, .inr (7, [.ref (u 0), .ref (u 2), .ref (u 4)])), (u 0, .inr (2, [.ref (u 1)])), (u 1, .inl (cI, 3, .inl fun _ => I 0)), (u 2, .inr (2, [.ref (u 3)])), (u 3, .inl (cI, 3, .inl fun _ => I 0)), (u 4, .inr (2, [.ref (u 5)])), (u 5, .inl (cI, 3, .inl fun _ => I 0))]) 6 12 := by
  refine JC.of RX7 (by decide +kernel) rfl rfl (Nat.le_of_ble_eq_true rfl) ?_
  intro p e s m args below meth c Q J hin fin H locs ls hHs hz hl
  have hA : ∀ q, s.heap.size ≤ q → va_A [(h0, .inr (7, [.null, .null, .null]))] s.heap.size q := fun q h => Or.inr h
  have hl : lv_has ls 1 [(0, .ref h0)] := hl
  refine j_aload_n J dX7_init_0 rfl (lv_at hl 0 rfl) ?_
  refine cz_obj J hl.1 lk_X7_3 ⟨Nat.le_of_ble_eq_true rfl, Nat.le_of_ble_eq_true rfl⟩ dX7_init_1 ?_
  refine j_aload_n J dX7_init_4 rfl (lv_at hl 0 rfl) ?_
  refine cz_new J hz hA (ci := 2) (fs := [.null]) fi_X2 tyX2_ok rfl (fun j hj => by rcases (show j = 0 by omega) with rfl <;> rfl) lk_X7_9 inst_X2 ini_X2 (Nat.le_of_ble_eq_true rfl) (Nat.le_of_ble_eq_true rfl) dX7_init_5 (fun q1 H hz => ?_)
  have hz : cW D (va_A [(h0, .inr (7, [.null, .null, .null]))] s.heap.size) s.heap [(h0, .inr (7, [.null, .null, .null])), (q1, .inr (2, [.null]))] H locs := hz
  refine j_dup J dX7_init_8 rfl ?_
  refine j_iconst J 3 dX7_init_9 ?_
  refine cz_init J (wr := [(h0, .inr (7, [.null, .null, .null]))]) hz hA (c_X2_init 3 (by decide)) lk_X7_11 in_X2_init ini_X2 co_X2_init (n := 1) (by decide +kernel) rfl ⟨rfl, rfl, Nat.le_of_ble_eq_true rfl, Nat.le_of_ble_eq_true rfl⟩ rfl (Nat.le_of_ble_eq_true rfl) hl.1 ⟨Nat.le_of_ble_eq_true rfl, Nat.le_of_ble_eq_true rfl⟩ rfl dX7_init_10 (fun u2 H locs _ hz => ?_)
  have hz : cW D (va_A [(h0, .inr (7, [.null, .null, .null]))] s.heap.size) s.heap [(h0, .inr (7, [.null, .null, .null])), (q1, .inr (2, [.ref (u2 0)])), (u2 0, .inl (cI, 3, .inl fun _ => I 0))] H locs := hz
  refine cz_putF J hin hz (j := 0) (ci := 7) rfl fi_X7 tyX7_ok nmX7 rfl 0 (by decide) rfl rfl lk_X7_14 rfl rfl rfl (Nat.le_of_ble_eq_true rfl) dX7_init_13 (fun H locs hz => ?_)
  have hz : cW D (va_A [(h0, .inr (7, [.null, .null, .null]))] s.heap.size) s.heap [(h0, .inr (7, [.ref (q1), .null, .null])), (q1, .inr (2, [.ref (u2 0)])), (u2 0, .inl (cI, 3, .inl fun _ => I 0))] H locs := hz
  refine j_aload_n J dX7_init_16 rfl (lv_at hl 0 rfl) ?_
  refine cz_new J hz hA (ci := 2) (fs := [.null]) fi_X2 tyX2_ok rfl (fun j hj => by rcases (show j = 0 by omega) with rfl <;> rfl) lk_X7_9 inst_X2 ini_X2 (Nat.le_of_ble_eq_true rfl) (Nat.le_of_ble_eq_true rfl) dX7_init_17 (fun q3 H hz => ?_)
  have hz : cW D (va_A [(h0, .inr (7, [.null, .null, .null]))] s.heap.size) s.heap [(h0, .inr (7, [.ref (q1), .null, .null])), (q1, .inr (2, [.ref (u2 0)])), (u2 0, .inl (cI, 3, .inl fun _ => I 0)), (q3, .inr (2, [.null]))] H locs := hz
  refine j_dup J dX7_init_20 rfl ?_
  refine j_iconst J 3 dX7_init_21 ?_
  refine cz_init J (wr := [(h0, .inr (7, [.ref (q1), .null, .null])), (q1, .inr (2, [.ref (u2 0)])), (u2 0, .inl (cI, 3, .inl fun _ => I 0))]) hz hA (c_X2_init 3 (by decide)) lk_X7_11 in_X2_init ini_X2 co_X2_init (n := 1) (by decide +kernel) rfl ⟨rfl, rfl, Nat.le_of_ble_eq_true rfl, Nat.le_of_ble_eq_true rfl⟩ rfl (Nat.le_of_ble_eq_true rfl) hl.1 ⟨Nat.le_of_ble_eq_true rfl, Nat.le_of_ble_eq_true rfl⟩ rfl dX7_init_22 (fun u4 H locs _ hz => ?_)
  have hz : cW D (va_A [(h0, .inr (7, [.null, .null, .null]))] s.heap.size) s.heap [(h0, .inr (7, [.ref (q1), .null, .null])), (q1, .inr (2, [.ref (u2 0)])), (u2 0, .inl (cI, 3, .inl fun _ => I 0)), (q3, .inr (2, [.ref (u4 0)])), (u4 0, .inl (cI, 3, .inl fun _ => I 0))] H locs := hz
  refine cz_putF J hin hz (j := 0) (ci := 7) rfl fi_X7 tyX7_ok nmX7 rfl 1 (by decide) rfl rfl lk_X7_20 rfl rfl rfl (Nat.le_of_ble_eq_true rfl) dX7_init_25 (fun H locs hz => ?_)
  have hz : cW D (va_A [(h0, .inr (7, [.null, .null, .null]))] s.heap.size) s.heap [(h0, .inr (7, [.ref (q1), .ref (q3), .null])), (q1, .inr (2, [.ref (u2 0)])), (u2 0, .inl (cI, 3, .inl fun _ => I 0)), (q3, .inr (2, [.ref (u4 0)])), (u4 0, .inl (cI, 3, .inl fun _ => I 0))] H locs := hz
  refine j_aload_n J dX7_init_28 rfl (lv_at hl 0 rfl) ?_
  refine cz_new J hz hA (ci := 2) (fs := [.null]) fi_X2 tyX2_ok rfl (fun j hj => by rcases (show j = 0 by omega) with rfl <;> rfl) lk_X7_9 inst_X2 ini_X2 (Nat.le_of_ble_eq_true rfl) (Nat.le_of_ble_eq_true rfl) dX7_init_29 (fun q5 H hz => ?_)
  have hz : cW D (va_A [(h0, .inr (7, [.null, .null, .null]))] s.heap.size) s.heap [(h0, .inr (7, [.ref (q1), .ref (q3), .null])), (q1, .inr (2, [.ref (u2 0)])), (u2 0, .inl (cI, 3, .inl fun _ => I 0)), (q3, .inr (2, [.ref (u4 0)])), (u4 0, .inl (cI, 3, .inl fun _ => I 0)), (q5, .inr (2, [.null]))] H locs := hz
  refine j_dup J dX7_init_32 rfl ?_
  refine j_iconst J 3 dX7_init_33 ?_
  refine cz_init J (wr := [(h0, .inr (7, [.ref (q1), .ref (q3), .null])), (q1, .inr (2, [.ref (u2 0)])), (u2 0, .inl (cI, 3, .inl fun _ => I 0)), (q3, .inr (2, [.ref (u4 0)])), (u4 0, .inl (cI, 3, .inl fun _ => I 0))]) hz hA (c_X2_init 3 (by decide)) lk_X7_11 in_X2_init ini_X2 co_X2_init (n := 1) (by decide +kernel) rfl ⟨rfl, rfl, Nat.le_of_ble_eq_true rfl, Nat.le_of_ble_eq_true rfl⟩ rfl (Nat.le_of_ble_eq_true rfl) hl.1 ⟨Nat.le_of_ble_eq_true rfl, Nat.le_of_ble_eq_true rfl⟩ rfl dX7_init_34 (fun u6 H locs _ hz => ?_)
  have hz : cW D (va_A [(h0, .inr (7, [.null, .null, .null]))] s.heap.size) s.heap [(h0, .inr (7, [.ref (q1), .ref (q3), .null])), (q1, .inr (2, [.ref (u2 0)])), (u2 0, .inl (cI, 3, .inl fun _ => I 0)), (q3, .inr (2, [.ref (u4 0)])), (u4 0, .inl (cI, 3, .inl fun _ => I 0)), (q5, .inr (2, [.ref (u6 0)])), (u6 0, .inl (cI, 3, .inl fun _ => I 0))] H locs := hz
  refine cz_putF J hin hz (j := 0) (ci := 7) rfl fi_X7 tyX7_ok nmX7 rfl 2 (by decide) rfl rfl lk_X7_23 rfl rfl rfl (Nat.le_of_ble_eq_true rfl) dX7_init_37 (fun H locs hz => ?_)
  have hz : cW D (va_A [(h0, .inr (7, [.null, .null, .null]))] s.heap.size) s.heap [(h0, .inr (7, [.ref (q1), .ref (q3), .ref (q5)])), (q1, .inr (2, [.ref (u2 0)])), (u2 0, .inl (cI, 3, .inl fun _ => I 0)), (q3, .inr (2, [.ref (u4 0)])), (u4 0, .inl (cI, 3, .inl fun _ => I 0)), (q5, .inr (2, [.ref (u6 0)])), (u6 0, .inl (cI, 3, .inl fun _ => I 0))] H locs := hz
  exact fin (fun k => [(q1), (u2 0), (q3), (u4 0), (q5), (u6 0)].getD k 0) H locs ls _ trivial dX7_init_40 hz
def rm_X8_init : Room := { frames := 2, cells := 2, slots := 13, locals := 42 }
set_option maxHeartbeats 4000000 in
set_option maxRecDepth 100000 in
theorem c_X8_init {l : Launch} {D : va_G} {cI cZ : ClassId} {h0 : Nat}  : JC l yX8_init cX8_init 1 rm_X8_init D [(cI, .int), (cZ, .boolean)] h0 (.inr (8, [.null])) [] (fun _ : Nat → Nat => True) (fun u => [(h0, .inr (8, [.ref (u 0)])), (u 0, .inr (2, [.ref (u 1)])), (u 1, .inl (cI, 12, .inl fun _ => I 0))]) 2 13 := by
  refine JC.of RX8 (by decide +kernel) rfl rfl (Nat.le_of_ble_eq_true rfl) ?_
  intro p e s m args below meth c Q J hin fin H locs ls hHs hz hl
  have hA : ∀ q, s.heap.size ≤ q → va_A [(h0, .inr (8, [.null]))] s.heap.size q := fun q h => Or.inr h
  have hl : lv_has ls 1 [(0, .ref h0)] := hl
  refine j_aload_n J dX8_init_0 rfl (lv_at hl 0 rfl) ?_
  refine cz_obj J hl.1 lk_X8_3 ⟨Nat.le_of_ble_eq_true rfl, Nat.le_of_ble_eq_true rfl⟩ dX8_init_1 ?_
  refine j_aload_n J dX8_init_4 rfl (lv_at hl 0 rfl) ?_
  refine cz_new J hz hA (ci := 2) (fs := [.null]) fi_X2 tyX2_ok rfl (fun j hj => by rcases (show j = 0 by omega) with rfl <;> rfl) lk_X8_9 inst_X2 ini_X2 (Nat.le_of_ble_eq_true rfl) (Nat.le_of_ble_eq_true rfl) dX8_init_5 (fun q1 H hz => ?_)
  have hz : cW D (va_A [(h0, .inr (8, [.null]))] s.heap.size) s.heap [(h0, .inr (8, [.null])), (q1, .inr (2, [.null]))] H locs := hz
  refine j_dup J dX8_init_8 rfl ?_
  refine j_bipush J 12 dX8_init_9 (by decide) ?_
  refine cz_init J (wr := [(h0, .inr (8, [.null]))]) hz hA (c_X2_init 12 (by decide)) lk_X8_11 in_X2_init ini_X2 co_X2_init (n := 1) (by decide +kernel) rfl ⟨rfl, rfl, Nat.le_of_ble_eq_true rfl, Nat.le_of_ble_eq_true rfl⟩ rfl (Nat.le_of_ble_eq_true rfl) hl.1 ⟨Nat.le_of_ble_eq_true rfl, Nat.le_of_ble_eq_true rfl⟩ rfl dX8_init_11 (fun u2 H locs _ hz => ?_)
  have hz : cW D (va_A [(h0, .inr (8, [.null]))] s.heap.size) s.heap [(h0, .inr (8, [.null])), (q1, .inr (2, [.ref (u2 0)])), (u2 0, .inl (cI, 12, .inl fun _ => I 0))] H locs := hz
  refine cz_putF J hin hz (j := 0) (ci := 8) rfl fi_X8 tyX8_ok nmX8 rfl 0 (by decide) rfl rfl lk_X8_14 rfl rfl rfl (Nat.le_of_ble_eq_true rfl) dX8_init_14 (fun H locs hz => ?_)
  have hz : cW D (va_A [(h0, .inr (8, [.null]))] s.heap.size) s.heap [(h0, .inr (8, [.ref (q1)])), (q1, .inr (2, [.ref (u2 0)])), (u2 0, .inl (cI, 12, .inl fun _ => I 0))] H locs := hz
  exact fin (fun k => [(q1), (u2 0)].getD k 0) H locs ls _ trivial dX8_init_17 hz
