/-! THE CLAIM OUT OF ONE WALK OF THE LAW'S BODY. Your part is whole_start (and what it stands on); all else here is the same for every law, but numbers. -/
def R_law : String := "DredgeWaysLaw"
def lw_P (b : Addr) (xs : List Int32) (args : Array Value) (s : State) : Prop := args = #[.ref b] ∧ s.IntsAt b xs ∧ xs.length ≤ 3072 ∧ (Jvm.Cond.and given_1 narrow_1).before args s = true
def lw_Q (_ : Array Value) (s : State) (o : Outcome) (t : State) : Prop := o = .returned (some (.int 1)) ∧ Framed s o t [] 600000 7302250
def lw_Z (below : List Frame) (a : Array Value) (s : State) : State → Prop := fun t => ∃ o, t.status = .running ∧ Ended t below o ∧ lw_Q a s o t
/-- the law's own end, with 1 on the stack, nothing written that was there before, its room as the claim has it -/
theorem lw_ret {p : Program} {l : Launch} {e : Env} {s : State} {m : MethodId} {below : List Frame} {meth : Method} {c : Code} {b : Nat} (hx : p.tables.exec = Jvm.exec) (hb : c.code = code) (hr : meth.sig.returnType = ret) (hlocks : meth.locks = false) {pc : Nat} {H : Heap} {ls : Array Slot} (hdg : decode code pc = .ok (.ireturn, 1)) : W p l e room_1 s m #[Value.ref b] below meth c H [] 600000 7302250 (lw_Z below #[Value.ref b] s) (F0 m pc ls [.int 1]) := by
  intro T hT X
  obtain ⟨fs, hret, hrun, hended, hW, hframe⟩ := X.leave (v := some (.int 1)) (hlocks := hlocks) (fun h => by rw [hr] at h; cases h)
  have hmeth' : T.vm.method? m = some meth := X.method'
  refine ⟨T.setFrames fs, ?_, .returned (some (.int 1)), hrun, hended, rfl, ⟨_, rfl⟩, hW, hframe⟩
  jvm_step X.here [X.here.top, hx, hb, hdg, hmeth', hr, ret, narrow_b1]
  (try refine ⟨rfl, ?_⟩); (try refine ⟨rfl, ?_⟩)
  first | (intro acts; rw [hret _ acts rfl rfl rfl]) | rw [hret _ _ rfl rfl rfl]
  exact Steps.refl _
/-- what holds at the law's entry: the machine, the code, the tables' words (any of lw_tbl by 'hts w (by decide +kernel)'), the script of L ints xs at the cell b, what the Statement gives of the start (any of its parts by flat_of_before) -/
def lw_At (p : Program) (s : State) (m : MethodId) (meth : Method) (c : Code) (b L : Nat) (xs : Nat → Int32) : Prop :=
  p.tables.exec = Jvm.exec ∧ c.code = code ∧ meth.sig.returnType = ret ∧ c.maxLocals = 4 ∧ s.vm.findClass R_law = some m.cls ∧ (∀ w ∈ lw_tbl, w.before #[Value.ref b] s = true) ∧ va_X b L xs s s.heap ∧ b < s.heap.size ∧ meth.locks = false ∧ (Jvm.Cond.and given_1 narrow_1).before #[Value.ref b] s = true
/-! the law's rows -/
def sv (xs : Nat → Int32) (j : Int) : Int := (xs j.toNat).toInt
theorem I_rg (x : Int32) : rg x.toInt := ⟨x.le_toInt, x.toInt_lt⟩
theorem sv_rg {xs : Nat → Int32} {j : Int} : rg (sv xs j) := I_rg _
def lP (D : va_G) (cI cZ : ClassId) (ax am : Nat → Nat) (A : Nat → Prop) (H0 : Heap) (τx τm : St) (H : Heap) (locs : List Loc) : Prop := va_P D vwCl (wsX cI ax τx) H ∧ va_P D vwCl (wsM cI cZ am τm) H ∧ va_S A H0 H locs
def LJ (p : Program) (m : MethodId) (c : Code) (s : State) (b L : Nat) (xs : Nat → Int32) (D : va_G) (cI cZ : ClassId) (ax am : Nat → Nat) (A : Nat → Prop) : Prop :=
  Jx p m c code 4 s #[Value.ref b] RL D [(cI, .int), (cZ, .boolean)] A (fun _ => []) ∧ (va_X b L xs s s.heap ∧ b < s.heap.size ∧ L ≤ 3072 ∧ ¬ A b) ∧
    ((∀ τ, va_D (AD ax 45) (wsX cI ax τ)) ∧ (∀ q, AD ax 45 q → A q) ∧ (∀ τ, va_D (AD am 45) (wsM cI cZ am τ)) ∧ (∀ q, AD am 45 q → A q) ∧ ∀ q, AD ax 45 q → ¬ AD am 45 q)
theorem va_kept {D : va_G} {w : va_W} {A1 A2 : Nat → Prop} {H H1 : Heap} (hP : va_P D vwCl w H) (hD : va_D A2 w) (hdis : ∀ q, A2 q → ¬ A1 q) (hk : ∀ q : Nat, q < H.size → ¬ A1 q → H1[q]? = H[q]?) : va_P D vwCl w H1 := fun k x hx => (hP k x hx).kept (hk x.1 (hP k x hx).lt (hdis _ (hD.2 k x hx)))
section LW
variable {p : Program} {l : Launch} {e : Env} {s : State} {m : MethodId} {below : List Frame} {meth : Method} {c : Code} {H : Heap} {locs : List Loc} {cells slots : Nat} {Q : State → Prop} {b L : Nat} {xs : Nat → Int32}
variable {pc : Nat} {ls : Array Slot} {rest : List Value} {D : va_G} {cI cZ : ClassId} {ax am : Nat → Nat} {A : Nat → Prop} {τx τm : St} {i : Int}
theorem l_arg (J : LJ p m c s b L xs D cI cZ ax am A) {k : Int} (hi : 0 ≤ i + k ∧ i + k < L) (hS : va_S A s.heap H locs) (hl : lv_has ls 4 [(3, .int (I i)), (2, .ref (am 0)), (1, .ref (ax 0)), (0, .ref b)]) (d0 : decode code pc = .ok (.aload_n 0, 1)) (d1 : decode code (pc + 1) = .ok (.iload_n 3, 1)) (d2 : decode code (pc + 2) = .ok (.iconst k, 1)) (d3 : decode code (pc + 3) = .ok (.iadd, 1)) (d4 : decode code (pc + 4) = .ok (.iaload, 1))
    (kk : W p l e room_1 s m #[Value.ref b] below meth c H locs cells slots Q (F0 m (pc + 5) ls (.int (I (sv xs (i + k))) :: rest))) : W p l e room_1 s m #[Value.ref b] below meth c H locs cells slots Q (F0 m pc ls rest) := by
  have hL := J.2.1.2.2.1
  refine j_aload_n J.1 d0 rfl (lv_at hl 3 rfl) ?_
  refine j_iload_n J.1 d1 rfl (lv_at hl 0 rfl) ?_
  refine j_iconst J.1 k d2 ?_
  refine j_iadd J.1 d3 ?_
  refine va_sld J.1.1.1 J.1.1.2.1 J.2.1.1 J.2.1.2.1 J.2.1.2.2.2 hS (I_in hi.1 hi.2 (by omega)) d4 ?_
  have e1 : (I (i + k)).toNatClampNeg = (i + k).toNat := by have := I_cl (a := i + k) hi.1 (by omega); omega
  have e2 : xs (I (i + k)).toNatClampNeg = I (sv xs (i + k)) := by rw [e1]; exact I_of _
  rw [e2]
  exact kk
theorem l_callX (J : LJ p m c s b L xs D cI cZ ax am A) (hw : lP D cI cZ ax am A s.heap τx τm H locs) {index n maxL : Nat} {y : MethodName} {bytes : ByteArray} {rmc : Room} {As stk : List Value} {Post : Int → St → Prop} (hM : JMi l y bytes maxL (some .int) rmc D [(cI, .int), (cZ, .boolean)] (AD ax 45) (wsX cI ax) (.ref (ax 0) :: As) τx Post) (hlk : Cond.methodLink RL index y ∈ TBw) (hin : Cond.instanceMethod y ∈ TBw) (hse : Cond.selects RX9 y y ∈ TBw) (hco : Cond.code y bytes maxL (some .int) ∈ TBw) (hd : y.cls = RX9 ∧ y.cls ≠ "java/lang/invoke/MethodHandle" ∧ y.cls ≠ "java/lang/invoke/VarHandle" ∧ (parseMethodDescriptor y.desc).map (fun d => d.parameters.length) = some n) (hR : rmc.cells = 0 ∧ rmc.slots = 0 ∧ rmc.frames + 1 ≤ 9 ∧ 8 + (maxL + 11) + rmc.locals ≤ 330) (hn : As.length = n) (hroom : (rest.map fun v => v.category).sum ≤ 8) (hsz : ls.size = 4) (hcs : cells ≤ 600000 ∧ slots ≤ 7302250) (hstk : stk = As.reverse ++ .ref (ax 0) :: rest) (hdg : decode code pc = .ok (.invokevirtual index, 3))
    (kk : ∀ (r : Int) (τ : St) (H1 : Heap) (locs1 : List Loc), Post r τ → lP D cI cZ ax am A s.heap τ τm H1 locs1 → W p l e room_1 s m #[Value.ref b] below meth c H1 locs1 cells slots Q (F0 m (pc + 3) ls (.int (I r) :: rest))) : W p l e room_1 s m #[Value.ref b] below meth c H locs cells slots Q (F0 m pc ls stk) := by
  subst hstk
  refine va_calli (va_runV (As := As) (rest := rest) J.1.1 hM (cwV n J.1.1.2.2.2.2 (gd_V hlk hin hse ini_X9 hco) rfl hR.1 hR.2.1 hd ⟨hR.2.2.1, hR.2.2.2⟩) ⟨jPre.blind, va_recv (q0 := 0) (ci := 9) J.1.2.1 hw.1 rfl rfl, fun U hU hW => ⟨rfl, by rw [hU]; exact hw.1, va_K.moved hW.alike J.1.2.1, NW.moved hW J.1.2.2.2⟩⟩ rfl hn hsz rfl (lv_room hroom) hdg ⟨hcs.1, hcs.2⟩) hw.2.2 (fun q _ h => J.2.2.2.1 q h) (fun q h => J.2.2.2.1 q h) (fun v u t H1 locs1 ht hvm hp hB hz hk hS => ?_)
  obtain ⟨r, rfl, hpost⟩ := hp
  exact kk r u H1 locs1 hpost ⟨by rw [← ht]; exact hB, va_kept hw.2.1 (J.2.2.2.2.1 τm) (fun q h2 h1 => J.2.2.2.2.2.2 q h1 h2) hk, hS⟩
theorem l_callM (J : LJ p m c s b L xs D cI cZ ax am A) (hw : lP D cI cZ ax am A s.heap τx τm H locs) {index n maxL : Nat} {y : MethodName} {bytes : ByteArray} {rmc : Room} {As stk : List Value} {Post : Int → St → Prop} (hM : JMi l y bytes maxL (some .int) rmc D [(cI, .int), (cZ, .boolean)] (AD am 45) (wsM cI cZ am) (.ref (am 0) :: As) τm Post) (hlk : Cond.methodLink RL index y ∈ TBw) (hin : Cond.instanceMethod y ∈ TBw) (hse : Cond.selects RX10 y y ∈ TBw) (hco : Cond.code y bytes maxL (some .int) ∈ TBw) (hd : y.cls = RX10 ∧ y.cls ≠ "java/lang/invoke/MethodHandle" ∧ y.cls ≠ "java/lang/invoke/VarHandle" ∧ (parseMethodDescriptor y.desc).map (fun d => d.parameters.length) = some n) (hR : rmc.cells = 0 ∧ rmc.slots = 0 ∧ rmc.frames + 1 ≤ 9 ∧ 8 + (maxL + 11) + rmc.locals ≤ 330) (hn : As.length = n) (hroom : (rest.map fun v => v.category).sum ≤ 8) (hsz : ls.size = 4) (hcs : cells ≤ 600000 ∧ slots ≤ 7302250) (hstk : stk = As.reverse ++ .ref (am 0) :: rest) (hdg : decode code pc = .ok (.invokevirtual index, 3))
    (kk : ∀ (r : Int) (τ : St) (H1 : Heap) (locs1 : List Loc), Post r τ → lP D cI cZ ax am A s.heap τx τ H1 locs1 → W p l e room_1 s m #[Value.ref b] below meth c H1 locs1 cells slots Q (F0 m (pc + 3) ls (.int (I r) :: rest))) : W p l e room_1 s m #[Value.ref b] below meth c H locs cells slots Q (F0 m pc ls stk) := by
  subst hstk
  refine va_calli (va_runV (As := As) (rest := rest) J.1.1 hM (cwV n J.1.1.2.2.2.2 (gd_V hlk hin hse ini_X10 hco) rfl hR.1 hR.2.1 hd ⟨hR.2.2.1, hR.2.2.2⟩) ⟨jPre.blind, va_recv (q0 := 0) (ci := 10) J.1.2.1 hw.2.1 rfl rfl, fun U hU hW => ⟨rfl, by rw [hU]; exact hw.2.1, va_K.moved hW.alike J.1.2.1, NW.moved hW J.1.2.2.2⟩⟩ rfl hn hsz rfl (lv_room hroom) hdg ⟨hcs.1, hcs.2⟩) hw.2.2 (fun q _ h => J.2.2.2.2.2.1 q h) (fun q h => J.2.2.2.2.2.1 q h) (fun v u t H1 locs1 ht hvm hp hB hz hk hS => ?_)
  obtain ⟨r, rfl, hpost⟩ := hp
  exact kk r u H1 locs1 hpost ⟨va_kept hw.1 (J.2.2.1 τx) J.2.2.2.2.2.2 hk, by rw [← ht]; exact hB, hS⟩
set_option maxHeartbeats 1000000 in
theorem law_board (J : LJ p m c s b L xs D cI cZ ax am A) (hi : 0 ≤ i ∧ i + 6 ≤ L) (hw : lP D cI cZ ax am A s.heap τx τm H locs) (hI : Inv τx) (hE : Eqp τm τx) (hl : lv_has ls 4 [(3, .int (I i)), (2, .ref (am 0)), (1, .ref (ax 0)), (0, .ref b)]) (hcs : cells ≤ 600000 ∧ slots ≤ 7302250)
    (kk : ∀ (τx τm : St) (H : Heap) (locs : List Loc), lP D cI cZ ax am A s.heap τx τm H locs → Inv τx → Eqp τm τx → W p l e room_1 s m #[Value.ref b] below meth c H locs cells slots Q (F0 m 761 ls [])) : W p l e room_1 s m #[Value.ref b] below meth c H locs cells slots Q (F0 m 124 ls []) := by
  refine j_aload_n J.1 dL_law_124 rfl (lv_at hl 2 rfl) ?_
  refine l_arg J (k := 1) (by omega) hw.2.2 hl dL_law_125 dL_law_126 dL_law_127 dL_law_128 dL_law_129 ?_
  refine l_arg J (k := 2) (by omega) hw.2.2 hl dL_law_130 dL_law_131 dL_law_132 dL_law_133 dL_law_134 ?_
  refine l_callX J hw (c_X9_board J.2.2.1 hI.1 sv_rg sv_rg) lk_L_13 in_X9_board se_X9_board co_X9_board (n := 2) (by decide +kernel) ⟨rfl, rfl, Nat.le_of_ble_eq_true rfl, Nat.le_of_ble_eq_true rfl⟩ rfl (Nat.le_of_ble_eq_true rfl) hl.1 hcs rfl dL_law_135 (fun rX τX H locs hpX hw => ?_)
  refine j_aload_n J.1 dL_law_138 rfl (lv_at hl 1 rfl) ?_
  refine l_arg J (k := 1) (by omega) hw.2.2 hl dL_law_139 dL_law_140 dL_law_141 dL_law_142 dL_law_143 ?_
  refine l_arg J (k := 2) (by omega) hw.2.2 hl dL_law_144 dL_law_145 dL_law_146 dL_law_147 dL_law_148 ?_
  refine l_callM J hw (c_X10_board J.2.2.2.2.1 (hI.eqp hE).1 sv_rg sv_rg) lk_L_17 in_X10_board se_X10_board co_X10_board (n := 2) (by decide +kernel) ⟨rfl, rfl, Nat.le_of_ble_eq_true rfl, Nat.le_of_ble_eq_true rfl⟩ rfl (Nat.le_of_ble_eq_true rfl) hl.1 hcs rfl dL_law_149 (fun rM τM H locs hpM hw => ?_)
  have ee := e_board hE (sv xs (i + 1)) (sv xs (i + 2))
  refine lv_icmp_eq (tgt := 761) J.1.1.1 J.1.1.2.1 dL_law_152 rfl (fun _ => ?_) (fun h => absurd (by rw [hpX.1, hpM.1, ee.1]) h)
  exact kk τX τM H locs hw ((i_board hI (sv xs (i + 1)) (sv xs (i + 2))).eqp hpX.2) (hpM.2.tr (ee.2.tr hpX.2.sym))
set_option maxHeartbeats 1000000 in
theorem law_lay (J : LJ p m c s b L xs D cI cZ ax am A) (hi : 0 ≤ i ∧ i + 6 ≤ L) (hw : lP D cI cZ ax am A s.heap τx τm H locs) (hI : Inv τx) (hE : Eqp τm τx) (hl : lv_has ls 4 [(3, .int (I i)), (2, .ref (am 0)), (1, .ref (ax 0)), (0, .ref b)]) (hcs : cells ≤ 600000 ∧ slots ≤ 7302250)
    (kk : ∀ (τx τm : St) (H : Heap) (locs : List Loc), lP D cI cZ ax am A s.heap τx τm H locs → Inv τx → Eqp τm τx → W p l e room_1 s m #[Value.ref b] below meth c H locs cells slots Q (F0 m 761 ls [])) : W p l e room_1 s m #[Value.ref b] below meth c H locs cells slots Q (F0 m 157 ls []) := by
  refine j_aload_n J.1 dL_law_157 rfl (lv_at hl 2 rfl) ?_
  refine l_arg J (k := 1) (by omega) hw.2.2 hl dL_law_158 dL_law_159 dL_law_160 dL_law_161 dL_law_162 ?_
  refine l_arg J (k := 2) (by omega) hw.2.2 hl dL_law_163 dL_law_164 dL_law_165 dL_law_166 dL_law_167 ?_
  refine l_arg J (k := 3) (by omega) hw.2.2 hl dL_law_168 dL_law_169 dL_law_170 dL_law_171 dL_law_172 ?_
  refine l_callX J hw (c_X9_lay J.2.2.1 hI.1 sv_rg sv_rg sv_rg) lk_L_18 in_X9_lay se_X9_lay co_X9_lay (n := 3) (by decide +kernel) ⟨rfl, rfl, Nat.le_of_ble_eq_true rfl, Nat.le_of_ble_eq_true rfl⟩ rfl (Nat.le_of_ble_eq_true rfl) hl.1 hcs rfl dL_law_173 (fun rX τX H locs hpX hw => ?_)
  refine j_aload_n J.1 dL_law_176 rfl (lv_at hl 1 rfl) ?_
  refine l_arg J (k := 1) (by omega) hw.2.2 hl dL_law_177 dL_law_178 dL_law_179 dL_law_180 dL_law_181 ?_
  refine l_arg J (k := 2) (by omega) hw.2.2 hl dL_law_182 dL_law_183 dL_law_184 dL_law_185 dL_law_186 ?_
  refine l_arg J (k := 3) (by omega) hw.2.2 hl dL_law_187 dL_law_188 dL_law_189 dL_law_190 dL_law_191 ?_
  refine l_callM J hw (c_X10_lay J.2.2.2.2.1 (hI.eqp hE).1 sv_rg sv_rg sv_rg) lk_L_22 in_X10_lay se_X10_lay co_X10_lay (n := 3) (by decide +kernel) ⟨rfl, rfl, Nat.le_of_ble_eq_true rfl, Nat.le_of_ble_eq_true rfl⟩ rfl (Nat.le_of_ble_eq_true rfl) hl.1 hcs rfl dL_law_192 (fun rM τM H locs hpM hw => ?_)
  have ee := e_lay hE (sv xs (i + 1)) (sv xs (i + 2)) (sv xs (i + 3))
  refine lv_icmp_eq (tgt := 761) J.1.1.1 J.1.1.2.1 dL_law_195 rfl (fun _ => ?_) (fun h => absurd (by rw [hpX.1, hpM.1, ee.1]) h)
  exact kk τX τM H locs hw ((i_lay hI (sv xs (i + 1)) (sv xs (i + 2)) (sv xs (i + 3))).eqp hpX.2) (hpM.2.tr (ee.2.tr hpX.2.sym))
set_option maxHeartbeats 1000000 in
theorem law_rule (J : LJ p m c s b L xs D cI cZ ax am A) (hi : 0 ≤ i ∧ i + 6 ≤ L) (hw : lP D cI cZ ax am A s.heap τx τm H locs) (hI : Inv τx) (hE : Eqp τm τx) (hl : lv_has ls 4 [(3, .int (I i)), (2, .ref (am 0)), (1, .ref (ax 0)), (0, .ref b)]) (hcs : cells ≤ 600000 ∧ slots ≤ 7302250)
    (kk : ∀ (τx τm : St) (H : Heap) (locs : List Loc), lP D cI cZ ax am A s.heap τx τm H locs → Inv τx → Eqp τm τx → W p l e room_1 s m #[Value.ref b] below meth c H locs cells slots Q (F0 m 761 ls [])) : W p l e room_1 s m #[Value.ref b] below meth c H locs cells slots Q (F0 m 200 ls []) := by
  refine j_aload_n J.1 dL_law_200 rfl (lv_at hl 2 rfl) ?_
  refine l_arg J (k := 1) (by omega) hw.2.2 hl dL_law_201 dL_law_202 dL_law_203 dL_law_204 dL_law_205 ?_
  refine l_arg J (k := 2) (by omega) hw.2.2 hl dL_law_206 dL_law_207 dL_law_208 dL_law_209 dL_law_210 ?_
  refine l_callX J hw (c_X9_rule J.2.2.1 hI.1 sv_rg sv_rg) lk_L_23 in_X9_rule se_X9_rule co_X9_rule (n := 2) (by decide +kernel) ⟨rfl, rfl, Nat.le_of_ble_eq_true rfl, Nat.le_of_ble_eq_true rfl⟩ rfl (Nat.le_of_ble_eq_true rfl) hl.1 hcs rfl dL_law_211 (fun rX τX H locs hpX hw => ?_)
  refine j_aload_n J.1 dL_law_214 rfl (lv_at hl 1 rfl) ?_
  refine l_arg J (k := 1) (by omega) hw.2.2 hl dL_law_215 dL_law_216 dL_law_217 dL_law_218 dL_law_219 ?_
  refine l_arg J (k := 2) (by omega) hw.2.2 hl dL_law_220 dL_law_221 dL_law_222 dL_law_223 dL_law_224 ?_
  refine l_callM J hw (c_X10_rule J.2.2.2.2.1 (hI.eqp hE).1 sv_rg sv_rg) lk_L_26 in_X10_rule se_X10_rule co_X10_rule (n := 2) (by decide +kernel) ⟨rfl, rfl, Nat.le_of_ble_eq_true rfl, Nat.le_of_ble_eq_true rfl⟩ rfl (Nat.le_of_ble_eq_true rfl) hl.1 hcs rfl dL_law_225 (fun rM τM H locs hpM hw => ?_)
  have ee := e_rule hE (sv xs (i + 1)) (sv xs (i + 2))
  refine lv_icmp_eq (tgt := 761) J.1.1.1 J.1.1.2.1 dL_law_228 rfl (fun _ => ?_) (fun h => absurd (by rw [hpX.1, hpM.1, ee.1]) h)
  exact kk τX τM H locs hw ((i_rule hI (sv xs (i + 1)) (sv xs (i + 2))).eqp hpX.2) (hpM.2.tr (ee.2.tr hpX.2.sym))
set_option maxHeartbeats 1000000 in
theorem law_tide (J : LJ p m c s b L xs D cI cZ ax am A) (hi : 0 ≤ i ∧ i + 6 ≤ L) (hw : lP D cI cZ ax am A s.heap τx τm H locs) (hI : Inv τx) (hE : Eqp τm τx) (hl : lv_has ls 4 [(3, .int (I i)), (2, .ref (am 0)), (1, .ref (ax 0)), (0, .ref b)]) (hcs : cells ≤ 600000 ∧ slots ≤ 7302250)
    (kk : ∀ (τx τm : St) (H : Heap) (locs : List Loc), lP D cI cZ ax am A s.heap τx τm H locs → Inv τx → Eqp τm τx → W p l e room_1 s m #[Value.ref b] below meth c H locs cells slots Q (F0 m 761 ls [])) : W p l e room_1 s m #[Value.ref b] below meth c H locs cells slots Q (F0 m 233 ls []) := by
  refine j_aload_n J.1 dL_law_233 rfl (lv_at hl 2 rfl) ?_
  refine l_arg J (k := 1) (by omega) hw.2.2 hl dL_law_234 dL_law_235 dL_law_236 dL_law_237 dL_law_238 ?_
  refine l_arg J (k := 2) (by omega) hw.2.2 hl dL_law_239 dL_law_240 dL_law_241 dL_law_242 dL_law_243 ?_
  refine l_callX J hw (c_X9_tide J.2.2.1 hI.1 sv_rg sv_rg) lk_L_27 in_X9_tide se_X9_tide co_X9_tide (n := 2) (by decide +kernel) ⟨rfl, rfl, Nat.le_of_ble_eq_true rfl, Nat.le_of_ble_eq_true rfl⟩ rfl (Nat.le_of_ble_eq_true rfl) hl.1 hcs rfl dL_law_244 (fun rX τX H locs hpX hw => ?_)
  refine j_aload_n J.1 dL_law_247 rfl (lv_at hl 1 rfl) ?_
  refine l_arg J (k := 1) (by omega) hw.2.2 hl dL_law_248 dL_law_249 dL_law_250 dL_law_251 dL_law_252 ?_
  refine l_arg J (k := 2) (by omega) hw.2.2 hl dL_law_253 dL_law_254 dL_law_255 dL_law_256 dL_law_257 ?_
  refine l_callM J hw (c_X10_tide J.2.2.2.2.1 (hI.eqp hE).1 sv_rg sv_rg) lk_L_30 in_X10_tide se_X10_tide co_X10_tide (n := 2) (by decide +kernel) ⟨rfl, rfl, Nat.le_of_ble_eq_true rfl, Nat.le_of_ble_eq_true rfl⟩ rfl (Nat.le_of_ble_eq_true rfl) hl.1 hcs rfl dL_law_258 (fun rM τM H locs hpM hw => ?_)
  have ee := e_tide hE (sv xs (i + 1)) (sv xs (i + 2))
  refine lv_icmp_eq (tgt := 761) J.1.1.1 J.1.1.2.1 dL_law_261 rfl (fun _ => ?_) (fun h => absurd (by rw [hpX.1, hpM.1, ee.1]) h)
  exact kk τX τM H locs hw ((i_tide hI (sv xs (i + 1)) (sv xs (i + 2))).eqp hpX.2) (hpM.2.tr (ee.2.tr hpX.2.sym))
set_option maxHeartbeats 1000000 in
theorem law_hold (J : LJ p m c s b L xs D cI cZ ax am A) (hi : 0 ≤ i ∧ i + 6 ≤ L) (hw : lP D cI cZ ax am A s.heap τx τm H locs) (hI : Inv τx) (hE : Eqp τm τx) (hl : lv_has ls 4 [(3, .int (I i)), (2, .ref (am 0)), (1, .ref (ax 0)), (0, .ref b)]) (hcs : cells ≤ 600000 ∧ slots ≤ 7302250)
    (kk : ∀ (τx τm : St) (H : Heap) (locs : List Loc), lP D cI cZ ax am A s.heap τx τm H locs → Inv τx → Eqp τm τx → W p l e room_1 s m #[Value.ref b] below meth c H locs cells slots Q (F0 m 761 ls [])) : W p l e room_1 s m #[Value.ref b] below meth c H locs cells slots Q (F0 m 266 ls []) := by
  refine j_aload_n J.1 dL_law_266 rfl (lv_at hl 2 rfl) ?_
  refine l_arg J (k := 1) (by omega) hw.2.2 hl dL_law_267 dL_law_268 dL_law_269 dL_law_270 dL_law_271 ?_
  refine l_arg J (k := 2) (by omega) hw.2.2 hl dL_law_272 dL_law_273 dL_law_274 dL_law_275 dL_law_276 ?_
  refine l_callX J hw (c_X9_hold J.2.2.1 hI.1 sv_rg sv_rg) lk_L_31 in_X9_hold se_X9_hold co_X9_hold (n := 2) (by decide +kernel) ⟨rfl, rfl, Nat.le_of_ble_eq_true rfl, Nat.le_of_ble_eq_true rfl⟩ rfl (Nat.le_of_ble_eq_true rfl) hl.1 hcs rfl dL_law_277 (fun rX τX H locs hpX hw => ?_)
  refine j_aload_n J.1 dL_law_280 rfl (lv_at hl 1 rfl) ?_
  refine l_arg J (k := 1) (by omega) hw.2.2 hl dL_law_281 dL_law_282 dL_law_283 dL_law_284 dL_law_285 ?_
  refine l_arg J (k := 2) (by omega) hw.2.2 hl dL_law_286 dL_law_287 dL_law_288 dL_law_289 dL_law_290 ?_
  refine l_callM J hw (c_X10_hold J.2.2.2.2.1 (hI.eqp hE).1 sv_rg sv_rg) lk_L_34 in_X10_hold se_X10_hold co_X10_hold (n := 2) (by decide +kernel) ⟨rfl, rfl, Nat.le_of_ble_eq_true rfl, Nat.le_of_ble_eq_true rfl⟩ rfl (Nat.le_of_ble_eq_true rfl) hl.1 hcs rfl dL_law_291 (fun rM τM H locs hpM hw => ?_)
  have ee := e_hold hE (sv xs (i + 1)) (sv xs (i + 2))
  refine lv_icmp_eq (tgt := 761) J.1.1.1 J.1.1.2.1 dL_law_294 rfl (fun _ => ?_) (fun h => absurd (by rw [hpX.1, hpM.1, ee.1]) h)
  exact kk τX τM H locs hw ((i_hold hI (sv xs (i + 1)) (sv xs (i + 2))).eqp hpX.2) (hpM.2.tr (ee.2.tr hpX.2.sym))
set_option maxHeartbeats 1000000 in
theorem law_spot (J : LJ p m c s b L xs D cI cZ ax am A) (hi : 0 ≤ i ∧ i + 6 ≤ L) (hw : lP D cI cZ ax am A s.heap τx τm H locs) (hI : Inv τx) (hE : Eqp τm τx) (hl : lv_has ls 4 [(3, .int (I i)), (2, .ref (am 0)), (1, .ref (ax 0)), (0, .ref b)]) (hcs : cells ≤ 600000 ∧ slots ≤ 7302250)
    (kk : ∀ (τx τm : St) (H : Heap) (locs : List Loc), lP D cI cZ ax am A s.heap τx τm H locs → Inv τx → Eqp τm τx → W p l e room_1 s m #[Value.ref b] below meth c H locs cells slots Q (F0 m 761 ls [])) : W p l e room_1 s m #[Value.ref b] below meth c H locs cells slots Q (F0 m 299 ls []) := by
  refine j_aload_n J.1 dL_law_299 rfl (lv_at hl 2 rfl) ?_
  refine l_arg J (k := 1) (by omega) hw.2.2 hl dL_law_300 dL_law_301 dL_law_302 dL_law_303 dL_law_304 ?_
  refine l_arg J (k := 2) (by omega) hw.2.2 hl dL_law_305 dL_law_306 dL_law_307 dL_law_308 dL_law_309 ?_
  refine l_arg J (k := 3) (by omega) hw.2.2 hl dL_law_310 dL_law_311 dL_law_312 dL_law_313 dL_law_314 ?_
  refine l_callX J hw (c_X9_spot J.2.2.1 hI.1 sv_rg sv_rg sv_rg) lk_L_35 in_X9_spot se_X9_spot co_X9_spot (n := 3) (by decide +kernel) ⟨rfl, rfl, Nat.le_of_ble_eq_true rfl, Nat.le_of_ble_eq_true rfl⟩ rfl (Nat.le_of_ble_eq_true rfl) hl.1 hcs rfl dL_law_315 (fun rX τX H locs hpX hw => ?_)
  refine j_aload_n J.1 dL_law_318 rfl (lv_at hl 1 rfl) ?_
  refine l_arg J (k := 1) (by omega) hw.2.2 hl dL_law_319 dL_law_320 dL_law_321 dL_law_322 dL_law_323 ?_
  refine l_arg J (k := 2) (by omega) hw.2.2 hl dL_law_324 dL_law_325 dL_law_326 dL_law_327 dL_law_328 ?_
  refine l_arg J (k := 3) (by omega) hw.2.2 hl dL_law_329 dL_law_330 dL_law_331 dL_law_332 dL_law_333 ?_
  refine l_callM J hw (c_X10_spot J.2.2.2.2.1 (hI.eqp hE).1 sv_rg sv_rg sv_rg) lk_L_38 in_X10_spot se_X10_spot co_X10_spot (n := 3) (by decide +kernel) ⟨rfl, rfl, Nat.le_of_ble_eq_true rfl, Nat.le_of_ble_eq_true rfl⟩ rfl (Nat.le_of_ble_eq_true rfl) hl.1 hcs rfl dL_law_334 (fun rM τM H locs hpM hw => ?_)
  have ee := e_spot hE (sv xs (i + 1)) (sv xs (i + 2)) (sv xs (i + 3))
  refine lv_icmp_eq (tgt := 761) J.1.1.1 J.1.1.2.1 dL_law_337 rfl (fun _ => ?_) (fun h => absurd (by rw [hpX.1, hpM.1, ee.1]) h)
  exact kk τX τM H locs hw ((i_spot hI (sv xs (i + 1)) (sv xs (i + 2)) (sv xs (i + 3))).eqp hpX.2) (hpM.2.tr (ee.2.tr hpX.2.sym))
set_option maxHeartbeats 1000000 in
theorem law_post (J : LJ p m c s b L xs D cI cZ ax am A) (hi : 0 ≤ i ∧ i + 6 ≤ L) (hw : lP D cI cZ ax am A s.heap τx τm H locs) (hI : Inv τx) (hE : Eqp τm τx) (hl : lv_has ls 4 [(3, .int (I i)), (2, .ref (am 0)), (1, .ref (ax 0)), (0, .ref b)]) (hcs : cells ≤ 600000 ∧ slots ≤ 7302250)
    (kk : ∀ (τx τm : St) (H : Heap) (locs : List Loc), lP D cI cZ ax am A s.heap τx τm H locs → Inv τx → Eqp τm τx → W p l e room_1 s m #[Value.ref b] below meth c H locs cells slots Q (F0 m 761 ls [])) : W p l e room_1 s m #[Value.ref b] below meth c H locs cells slots Q (F0 m 342 ls []) := by
  refine j_aload_n J.1 dL_law_342 rfl (lv_at hl 2 rfl) ?_
  refine l_arg J (k := 1) (by omega) hw.2.2 hl dL_law_343 dL_law_344 dL_law_345 dL_law_346 dL_law_347 ?_
  refine l_arg J (k := 2) (by omega) hw.2.2 hl dL_law_348 dL_law_349 dL_law_350 dL_law_351 dL_law_352 ?_
  refine l_callX J hw (c_X9_post J.2.2.1 hI.1 sv_rg sv_rg) lk_L_39 in_X9_post se_X9_post co_X9_post (n := 2) (by decide +kernel) ⟨rfl, rfl, Nat.le_of_ble_eq_true rfl, Nat.le_of_ble_eq_true rfl⟩ rfl (Nat.le_of_ble_eq_true rfl) hl.1 hcs rfl dL_law_353 (fun rX τX H locs hpX hw => ?_)
  refine j_aload_n J.1 dL_law_356 rfl (lv_at hl 1 rfl) ?_
  refine l_arg J (k := 1) (by omega) hw.2.2 hl dL_law_357 dL_law_358 dL_law_359 dL_law_360 dL_law_361 ?_
  refine l_arg J (k := 2) (by omega) hw.2.2 hl dL_law_362 dL_law_363 dL_law_364 dL_law_365 dL_law_366 ?_
  refine l_callM J hw (c_X10_post J.2.2.2.2.1 (hI.eqp hE).1 sv_rg sv_rg) lk_L_42 in_X10_post se_X10_post co_X10_post (n := 2) (by decide +kernel) ⟨rfl, rfl, Nat.le_of_ble_eq_true rfl, Nat.le_of_ble_eq_true rfl⟩ rfl (Nat.le_of_ble_eq_true rfl) hl.1 hcs rfl dL_law_367 (fun rM τM H locs hpM hw => ?_)
  have ee := e_post hE (sv xs (i + 1)) (sv xs (i + 2))
  refine lv_icmp_eq (tgt := 761) J.1.1.1 J.1.1.2.1 dL_law_370 rfl (fun _ => ?_) (fun h => absurd (by rw [hpX.1, hpM.1, ee.1]) h)
  exact kk τX τM H locs hw ((i_post hI (sv xs (i + 1)) (sv xs (i + 2))).eqp hpX.2) (hpM.2.tr (ee.2.tr hpX.2.sym))
set_option maxHeartbeats 1000000 in
theorem law_best (J : LJ p m c s b L xs D cI cZ ax am A) (hi : 0 ≤ i ∧ i + 6 ≤ L) (hw : lP D cI cZ ax am A s.heap τx τm H locs) (hI : Inv τx) (hE : Eqp τm τx) (hl : lv_has ls 4 [(3, .int (I i)), (2, .ref (am 0)), (1, .ref (ax 0)), (0, .ref b)]) (hcs : cells ≤ 600000 ∧ slots ≤ 7302250)
    (kk : ∀ (τx τm : St) (H : Heap) (locs : List Loc), lP D cI cZ ax am A s.heap τx τm H locs → Inv τx → Eqp τm τx → W p l e room_1 s m #[Value.ref b] below meth c H locs cells slots Q (F0 m 761 ls [])) : W p l e room_1 s m #[Value.ref b] below meth c H locs cells slots Q (F0 m 375 ls []) := by
  refine j_aload_n J.1 dL_law_375 rfl (lv_at hl 2 rfl) ?_
  refine l_arg J (k := 1) (by omega) hw.2.2 hl dL_law_376 dL_law_377 dL_law_378 dL_law_379 dL_law_380 ?_
  refine l_callX J hw (c_X9_best J.2.2.1 hI.1 sv_rg) lk_L_43 in_X9_best se_X9_best co_X9_best (n := 1) (by decide +kernel) ⟨rfl, rfl, Nat.le_of_ble_eq_true rfl, Nat.le_of_ble_eq_true rfl⟩ rfl (Nat.le_of_ble_eq_true rfl) hl.1 hcs rfl dL_law_381 (fun rX τX H locs hpX hw => ?_)
  refine j_aload_n J.1 dL_law_384 rfl (lv_at hl 1 rfl) ?_
  refine l_arg J (k := 1) (by omega) hw.2.2 hl dL_law_385 dL_law_386 dL_law_387 dL_law_388 dL_law_389 ?_
  refine l_callM J hw (c_X10_best J.2.2.2.2.1 (hI.eqp hE).1 sv_rg) lk_L_47 in_X10_best se_X10_best co_X10_best (n := 1) (by decide +kernel) ⟨rfl, rfl, Nat.le_of_ble_eq_true rfl, Nat.le_of_ble_eq_true rfl⟩ rfl (Nat.le_of_ble_eq_true rfl) hl.1 hcs rfl dL_law_390 (fun rM τM H locs hpM hw => ?_)
  have ee := e_best hE (sv xs (i + 1))
  refine lv_icmp_eq (tgt := 761) J.1.1.1 J.1.1.2.1 dL_law_393 rfl (fun _ => ?_) (fun h => absurd (by rw [hpX.1, hpM.1, ee.1]) h)
  exact kk τX τM H locs hw ((i_best hI (sv xs (i + 1))).eqp hpX.2) (hpM.2.tr (ee.2.tr hpX.2.sym))
set_option maxHeartbeats 1000000 in
theorem law_trip (J : LJ p m c s b L xs D cI cZ ax am A) (hi : 0 ≤ i ∧ i + 6 ≤ L) (hw : lP D cI cZ ax am A s.heap τx τm H locs) (hI : Inv τx) (hE : Eqp τm τx) (hl : lv_has ls 4 [(3, .int (I i)), (2, .ref (am 0)), (1, .ref (ax 0)), (0, .ref b)]) (hcs : cells ≤ 600000 ∧ slots ≤ 7302250)
    (kk : ∀ (τx τm : St) (H : Heap) (locs : List Loc), lP D cI cZ ax am A s.heap τx τm H locs → Inv τx → Eqp τm τx → W p l e room_1 s m #[Value.ref b] below meth c H locs cells slots Q (F0 m 761 ls [])) : W p l e room_1 s m #[Value.ref b] below meth c H locs cells slots Q (F0 m 398 ls []) := by
  refine j_aload_n J.1 dL_law_398 rfl (lv_at hl 2 rfl) ?_
  refine l_arg J (k := 1) (by omega) hw.2.2 hl dL_law_399 dL_law_400 dL_law_401 dL_law_402 dL_law_403 ?_
  refine l_arg J (k := 2) (by omega) hw.2.2 hl dL_law_404 dL_law_405 dL_law_406 dL_law_407 dL_law_408 ?_
  refine l_arg J (k := 3) (by omega) hw.2.2 hl dL_law_409 dL_law_410 dL_law_411 dL_law_412 dL_law_413 ?_
  refine l_arg J (k := 4) (by omega) hw.2.2 hl dL_law_414 dL_law_415 dL_law_416 dL_law_417 dL_law_418 ?_
  refine l_arg J (k := 5) (by omega) hw.2.2 hl dL_law_419 dL_law_420 dL_law_421 dL_law_422 dL_law_423 ?_
  refine l_callX J hw (c_X9_trip J.2.2.1 hI.1 sv_rg sv_rg sv_rg sv_rg sv_rg hI.2.1) lk_L_48 in_X9_trip se_X9_trip co_X9_trip (n := 5) (by decide +kernel) ⟨rfl, rfl, Nat.le_of_ble_eq_true rfl, Nat.le_of_ble_eq_true rfl⟩ rfl (Nat.le_of_ble_eq_true rfl) hl.1 hcs rfl dL_law_424 (fun rX τX H locs hpX hw => ?_)
  refine j_aload_n J.1 dL_law_427 rfl (lv_at hl 1 rfl) ?_
  refine l_arg J (k := 1) (by omega) hw.2.2 hl dL_law_428 dL_law_429 dL_law_430 dL_law_431 dL_law_432 ?_
  refine l_arg J (k := 2) (by omega) hw.2.2 hl dL_law_433 dL_law_434 dL_law_435 dL_law_436 dL_law_437 ?_
  refine l_arg J (k := 3) (by omega) hw.2.2 hl dL_law_438 dL_law_439 dL_law_440 dL_law_441 dL_law_442 ?_
  refine l_arg J (k := 4) (by omega) hw.2.2 hl dL_law_443 dL_law_444 dL_law_445 dL_law_446 dL_law_447 ?_
  refine l_arg J (k := 5) (by omega) hw.2.2 hl dL_law_448 dL_law_449 dL_law_450 dL_law_451 dL_law_452 ?_
  refine l_callM J hw (c_X10_trip J.2.2.2.2.1 (hI.eqp hE).1 sv_rg sv_rg sv_rg sv_rg sv_rg (hI.eqp hE).2.1) lk_L_52 in_X10_trip se_X10_trip co_X10_trip (n := 5) (by decide +kernel) ⟨rfl, rfl, Nat.le_of_ble_eq_true rfl, Nat.le_of_ble_eq_true rfl⟩ rfl (Nat.le_of_ble_eq_true rfl) hl.1 hcs rfl dL_law_453 (fun rM τM H locs hpM hw => ?_)
  have ee := e_trip hE hI.1 (sv xs (i + 1)) (sv xs (i + 2)) (sv xs (i + 3)) (sv xs (i + 4)) (sv xs (i + 5))
  refine lv_icmp_eq (tgt := 761) J.1.1.1 J.1.1.2.1 dL_law_456 rfl (fun _ => ?_) (fun h => absurd (by rw [hpX.1, hpM.1, ee.1]) h)
  exact kk τX τM H locs hw ((i_trip hI (sv xs (i + 1)) (sv xs (i + 2)) (sv xs (i + 3)) (sv xs (i + 4)) (sv xs (i + 5))).eqp hpX.2) (hpM.2.tr (ee.2.tr hpX.2.sym))
set_option maxHeartbeats 1000000 in
theorem law_hours (J : LJ p m c s b L xs D cI cZ ax am A) (hi : 0 ≤ i ∧ i + 6 ≤ L) (hw : lP D cI cZ ax am A s.heap τx τm H locs) (hI : Inv τx) (hE : Eqp τm τx) (hl : lv_has ls 4 [(3, .int (I i)), (2, .ref (am 0)), (1, .ref (ax 0)), (0, .ref b)]) (hcs : cells ≤ 600000 ∧ slots ≤ 7302250)
    (kk : ∀ (τx τm : St) (H : Heap) (locs : List Loc), lP D cI cZ ax am A s.heap τx τm H locs → Inv τx → Eqp τm τx → W p l e room_1 s m #[Value.ref b] below meth c H locs cells slots Q (F0 m 761 ls [])) : W p l e room_1 s m #[Value.ref b] below meth c H locs cells slots Q (F0 m 461 ls []) := by
  refine j_aload_n J.1 dL_law_461 rfl (lv_at hl 2 rfl) ?_
  refine l_arg J (k := 1) (by omega) hw.2.2 hl dL_law_462 dL_law_463 dL_law_464 dL_law_465 dL_law_466 ?_
  refine l_callX J hw (c_X9_hours J.2.2.1 hI.1 sv_rg) lk_L_53 in_X9_hours se_X9_hours co_X9_hours (n := 1) (by decide +kernel) ⟨rfl, rfl, Nat.le_of_ble_eq_true rfl, Nat.le_of_ble_eq_true rfl⟩ rfl (Nat.le_of_ble_eq_true rfl) hl.1 hcs rfl dL_law_467 (fun rX τX H locs hpX hw => ?_)
  refine j_aload_n J.1 dL_law_470 rfl (lv_at hl 1 rfl) ?_
  refine l_arg J (k := 1) (by omega) hw.2.2 hl dL_law_471 dL_law_472 dL_law_473 dL_law_474 dL_law_475 ?_
  refine l_callM J hw (c_X10_hours J.2.2.2.2.1 (hI.eqp hE).1 sv_rg) lk_L_56 in_X10_hours se_X10_hours co_X10_hours (n := 1) (by decide +kernel) ⟨rfl, rfl, Nat.le_of_ble_eq_true rfl, Nat.le_of_ble_eq_true rfl⟩ rfl (Nat.le_of_ble_eq_true rfl) hl.1 hcs rfl dL_law_476 (fun rM τM H locs hpM hw => ?_)
  have ee := e_hours hE (sv xs (i + 1))
  refine lv_icmp_eq (tgt := 761) J.1.1.1 J.1.1.2.1 dL_law_479 rfl (fun _ => ?_) (fun h => absurd (by rw [hpX.1, hpM.1, ee.1]) h)
  exact kk τX τM H locs hw ((i_hours hI (sv xs (i + 1))).eqp hpX.2) (hpM.2.tr (ee.2.tr hpX.2.sym))
set_option maxHeartbeats 1000000 in
theorem law_sound (J : LJ p m c s b L xs D cI cZ ax am A) (hi : 0 ≤ i ∧ i + 6 ≤ L) (hw : lP D cI cZ ax am A s.heap τx τm H locs) (hI : Inv τx) (hE : Eqp τm τx) (hl : lv_has ls 4 [(3, .int (I i)), (2, .ref (am 0)), (1, .ref (ax 0)), (0, .ref b)]) (hcs : cells ≤ 600000 ∧ slots ≤ 7302250)
    (kk : ∀ (τx τm : St) (H : Heap) (locs : List Loc), lP D cI cZ ax am A s.heap τx τm H locs → Inv τx → Eqp τm τx → W p l e room_1 s m #[Value.ref b] below meth c H locs cells slots Q (F0 m 761 ls [])) : W p l e room_1 s m #[Value.ref b] below meth c H locs cells slots Q (F0 m 484 ls []) := by
  refine j_aload_n J.1 dL_law_484 rfl (lv_at hl 2 rfl) ?_
  refine l_arg J (k := 1) (by omega) hw.2.2 hl dL_law_485 dL_law_486 dL_law_487 dL_law_488 dL_law_489 ?_
  refine l_callX J hw (c_X9_sound J.2.2.1 hI.1 sv_rg) lk_L_57 in_X9_sound se_X9_sound co_X9_sound (n := 1) (by decide +kernel) ⟨rfl, rfl, Nat.le_of_ble_eq_true rfl, Nat.le_of_ble_eq_true rfl⟩ rfl (Nat.le_of_ble_eq_true rfl) hl.1 hcs rfl dL_law_490 (fun rX τX H locs hpX hw => ?_)
  refine j_aload_n J.1 dL_law_493 rfl (lv_at hl 1 rfl) ?_
  refine l_arg J (k := 1) (by omega) hw.2.2 hl dL_law_494 dL_law_495 dL_law_496 dL_law_497 dL_law_498 ?_
  refine l_callM J hw (c_X10_sound J.2.2.2.2.1 (hI.eqp hE).1 sv_rg) lk_L_60 in_X10_sound se_X10_sound co_X10_sound (n := 1) (by decide +kernel) ⟨rfl, rfl, Nat.le_of_ble_eq_true rfl, Nat.le_of_ble_eq_true rfl⟩ rfl (Nat.le_of_ble_eq_true rfl) hl.1 hcs rfl dL_law_499 (fun rM τM H locs hpM hw => ?_)
  have ee := e_sound hE (sv xs (i + 1))
  refine lv_icmp_eq (tgt := 761) J.1.1.1 J.1.1.2.1 dL_law_502 rfl (fun _ => ?_) (fun h => absurd (by rw [hpX.1, hpM.1, ee.1]) h)
  exact kk τX τM H locs hw ((i_sound hI (sv xs (i + 1))).eqp hpX.2) (hpM.2.tr (ee.2.tr hpX.2.sym))
set_option maxHeartbeats 1000000 in
theorem law_lose (J : LJ p m c s b L xs D cI cZ ax am A) (hi : 0 ≤ i ∧ i + 6 ≤ L) (hw : lP D cI cZ ax am A s.heap τx τm H locs) (hI : Inv τx) (hE : Eqp τm τx) (hl : lv_has ls 4 [(3, .int (I i)), (2, .ref (am 0)), (1, .ref (ax 0)), (0, .ref b)]) (hcs : cells ≤ 600000 ∧ slots ≤ 7302250)
    (kk : ∀ (τx τm : St) (H : Heap) (locs : List Loc), lP D cI cZ ax am A s.heap τx τm H locs → Inv τx → Eqp τm τx → W p l e room_1 s m #[Value.ref b] below meth c H locs cells slots Q (F0 m 761 ls [])) : W p l e room_1 s m #[Value.ref b] below meth c H locs cells slots Q (F0 m 507 ls []) := by
  refine j_aload_n J.1 dL_law_507 rfl (lv_at hl 2 rfl) ?_
  refine l_arg J (k := 1) (by omega) hw.2.2 hl dL_law_508 dL_law_509 dL_law_510 dL_law_511 dL_law_512 ?_
  refine l_arg J (k := 2) (by omega) hw.2.2 hl dL_law_513 dL_law_514 dL_law_515 dL_law_516 dL_law_517 ?_
  refine l_callX J hw (c_X9_lose J.2.2.1 hI.1 sv_rg sv_rg) lk_L_61 in_X9_lose se_X9_lose co_X9_lose (n := 2) (by decide +kernel) ⟨rfl, rfl, Nat.le_of_ble_eq_true rfl, Nat.le_of_ble_eq_true rfl⟩ rfl (Nat.le_of_ble_eq_true rfl) hl.1 hcs rfl dL_law_518 (fun rX τX H locs hpX hw => ?_)
  refine j_aload_n J.1 dL_law_521 rfl (lv_at hl 1 rfl) ?_
  refine l_arg J (k := 1) (by omega) hw.2.2 hl dL_law_522 dL_law_523 dL_law_524 dL_law_525 dL_law_526 ?_
  refine l_arg J (k := 2) (by omega) hw.2.2 hl dL_law_527 dL_law_528 dL_law_529 dL_law_530 dL_law_531 ?_
  refine l_callM J hw (c_X10_lose J.2.2.2.2.1 (hI.eqp hE).1 sv_rg sv_rg) lk_L_64 in_X10_lose se_X10_lose co_X10_lose (n := 2) (by decide +kernel) ⟨rfl, rfl, Nat.le_of_ble_eq_true rfl, Nat.le_of_ble_eq_true rfl⟩ rfl (Nat.le_of_ble_eq_true rfl) hl.1 hcs rfl dL_law_532 (fun rM τM H locs hpM hw => ?_)
  have ee := e_lose hE (sv xs (i + 1)) (sv xs (i + 2))
  refine lv_icmp_eq (tgt := 761) J.1.1.1 J.1.1.2.1 dL_law_535 rfl (fun _ => ?_) (fun h => absurd (by rw [hpX.1, hpM.1, ee.1]) h)
  exact kk τX τM H locs hw ((i_lose hI (sv xs (i + 1)) (sv xs (i + 2))).eqp hpX.2) (hpM.2.tr (ee.2.tr hpX.2.sym))
set_option maxHeartbeats 1000000 in
theorem law_join (J : LJ p m c s b L xs D cI cZ ax am A) (hi : 0 ≤ i ∧ i + 6 ≤ L) (hw : lP D cI cZ ax am A s.heap τx τm H locs) (hI : Inv τx) (hE : Eqp τm τx) (hl : lv_has ls 4 [(3, .int (I i)), (2, .ref (am 0)), (1, .ref (ax 0)), (0, .ref b)]) (hcs : cells ≤ 600000 ∧ slots ≤ 7302250)
    (kk : ∀ (τx τm : St) (H : Heap) (locs : List Loc), lP D cI cZ ax am A s.heap τx τm H locs → Inv τx → Eqp τm τx → W p l e room_1 s m #[Value.ref b] below meth c H locs cells slots Q (F0 m 761 ls [])) : W p l e room_1 s m #[Value.ref b] below meth c H locs cells slots Q (F0 m 540 ls []) := by
  refine j_aload_n J.1 dL_law_540 rfl (lv_at hl 2 rfl) ?_
  refine l_arg J (k := 1) (by omega) hw.2.2 hl dL_law_541 dL_law_542 dL_law_543 dL_law_544 dL_law_545 ?_
  refine l_arg J (k := 2) (by omega) hw.2.2 hl dL_law_546 dL_law_547 dL_law_548 dL_law_549 dL_law_550 ?_
  refine l_callX J hw (c_X9_join J.2.2.1 hI.1 sv_rg sv_rg) lk_L_65 in_X9_join se_X9_join co_X9_join (n := 2) (by decide +kernel) ⟨rfl, rfl, Nat.le_of_ble_eq_true rfl, Nat.le_of_ble_eq_true rfl⟩ rfl (Nat.le_of_ble_eq_true rfl) hl.1 hcs rfl dL_law_551 (fun rX τX H locs hpX hw => ?_)
  refine j_aload_n J.1 dL_law_554 rfl (lv_at hl 1 rfl) ?_
  refine l_arg J (k := 1) (by omega) hw.2.2 hl dL_law_555 dL_law_556 dL_law_557 dL_law_558 dL_law_559 ?_
  refine l_arg J (k := 2) (by omega) hw.2.2 hl dL_law_560 dL_law_561 dL_law_562 dL_law_563 dL_law_564 ?_
  refine l_callM J hw (c_X10_join J.2.2.2.2.1 (hI.eqp hE).1 sv_rg sv_rg) lk_L_68 in_X10_join se_X10_join co_X10_join (n := 2) (by decide +kernel) ⟨rfl, rfl, Nat.le_of_ble_eq_true rfl, Nat.le_of_ble_eq_true rfl⟩ rfl (Nat.le_of_ble_eq_true rfl) hl.1 hcs rfl dL_law_565 (fun rM τM H locs hpM hw => ?_)
  have ee := e_join hE (sv xs (i + 1)) (sv xs (i + 2))
  refine lv_icmp_eq (tgt := 761) J.1.1.1 J.1.1.2.1 dL_law_568 rfl (fun _ => ?_) (fun h => absurd (by rw [hpX.1, hpM.1, ee.1]) h)
  exact kk τX τM H locs hw ((i_join hI (sv xs (i + 1)) (sv xs (i + 2))).eqp hpX.2) (hpM.2.tr (ee.2.tr hpX.2.sym))
set_option maxHeartbeats 1000000 in
theorem law_between (J : LJ p m c s b L xs D cI cZ ax am A) (hi : 0 ≤ i ∧ i + 6 ≤ L) (hw : lP D cI cZ ax am A s.heap τx τm H locs) (hI : Inv τx) (hE : Eqp τm τx) (hl : lv_has ls 4 [(3, .int (I i)), (2, .ref (am 0)), (1, .ref (ax 0)), (0, .ref b)]) (hcs : cells ≤ 600000 ∧ slots ≤ 7302250)
    (kk : ∀ (τx τm : St) (H : Heap) (locs : List Loc), lP D cI cZ ax am A s.heap τx τm H locs → Inv τx → Eqp τm τx → W p l e room_1 s m #[Value.ref b] below meth c H locs cells slots Q (F0 m 761 ls [])) : W p l e room_1 s m #[Value.ref b] below meth c H locs cells slots Q (F0 m 573 ls []) := by
  refine j_aload_n J.1 dL_law_573 rfl (lv_at hl 2 rfl) ?_
  refine l_arg J (k := 1) (by omega) hw.2.2 hl dL_law_574 dL_law_575 dL_law_576 dL_law_577 dL_law_578 ?_
  refine l_arg J (k := 2) (by omega) hw.2.2 hl dL_law_579 dL_law_580 dL_law_581 dL_law_582 dL_law_583 ?_
  refine l_arg J (k := 3) (by omega) hw.2.2 hl dL_law_584 dL_law_585 dL_law_586 dL_law_587 dL_law_588 ?_
  refine l_callX J hw (c_X9_between J.2.2.1 hI.1 sv_rg sv_rg sv_rg) lk_L_69 in_X9_between se_X9_between co_X9_between (n := 3) (by decide +kernel) ⟨rfl, rfl, Nat.le_of_ble_eq_true rfl, Nat.le_of_ble_eq_true rfl⟩ rfl (Nat.le_of_ble_eq_true rfl) hl.1 hcs rfl dL_law_589 (fun rX τX H locs hpX hw => ?_)
  refine j_aload_n J.1 dL_law_592 rfl (lv_at hl 1 rfl) ?_
  refine l_arg J (k := 1) (by omega) hw.2.2 hl dL_law_593 dL_law_594 dL_law_595 dL_law_596 dL_law_597 ?_
  refine l_arg J (k := 2) (by omega) hw.2.2 hl dL_law_598 dL_law_599 dL_law_600 dL_law_601 dL_law_602 ?_
  refine l_arg J (k := 3) (by omega) hw.2.2 hl dL_law_603 dL_law_604 dL_law_605 dL_law_606 dL_law_607 ?_
  refine l_callM J hw (c_X10_between J.2.2.2.2.1 (hI.eqp hE).1 sv_rg sv_rg sv_rg) lk_L_72 in_X10_between se_X10_between co_X10_between (n := 3) (by decide +kernel) ⟨rfl, rfl, Nat.le_of_ble_eq_true rfl, Nat.le_of_ble_eq_true rfl⟩ rfl (Nat.le_of_ble_eq_true rfl) hl.1 hcs rfl dL_law_608 (fun rM τM H locs hpM hw => ?_)
  have ee := e_between hE (sv xs (i + 1)) (sv xs (i + 2)) (sv xs (i + 3))
  refine lv_icmp_eq (tgt := 761) J.1.1.1 J.1.1.2.1 dL_law_611 rfl (fun _ => ?_) (fun h => absurd (by rw [hpX.1, hpM.1, ee.1]) h)
  exact kk τX τM H locs hw ((i_between hI (sv xs (i + 1)) (sv xs (i + 2)) (sv xs (i + 3))).eqp hpX.2) (hpM.2.tr (ee.2.tr hpX.2.sym))
set_option maxHeartbeats 1000000 in
theorem law_sounded (J : LJ p m c s b L xs D cI cZ ax am A) (hi : 0 ≤ i ∧ i + 6 ≤ L) (hw : lP D cI cZ ax am A s.heap τx τm H locs) (hI : Inv τx) (hE : Eqp τm τx) (hl : lv_has ls 4 [(3, .int (I i)), (2, .ref (am 0)), (1, .ref (ax 0)), (0, .ref b)]) (hcs : cells ≤ 600000 ∧ slots ≤ 7302250)
    (kk : ∀ (τx τm : St) (H : Heap) (locs : List Loc), lP D cI cZ ax am A s.heap τx τm H locs → Inv τx → Eqp τm τx → W p l e room_1 s m #[Value.ref b] below meth c H locs cells slots Q (F0 m 761 ls [])) : W p l e room_1 s m #[Value.ref b] below meth c H locs cells slots Q (F0 m 616 ls []) := by
  refine j_aload_n J.1 dL_law_616 rfl (lv_at hl 2 rfl) ?_
  refine l_arg J (k := 1) (by omega) hw.2.2 hl dL_law_617 dL_law_618 dL_law_619 dL_law_620 dL_law_621 ?_
  refine l_arg J (k := 2) (by omega) hw.2.2 hl dL_law_622 dL_law_623 dL_law_624 dL_law_625 dL_law_626 ?_
  refine l_callX J hw (c_X9_sounded J.2.2.1 hI.1 sv_rg sv_rg) lk_L_73 in_X9_sounded se_X9_sounded co_X9_sounded (n := 2) (by decide +kernel) ⟨rfl, rfl, Nat.le_of_ble_eq_true rfl, Nat.le_of_ble_eq_true rfl⟩ rfl (Nat.le_of_ble_eq_true rfl) hl.1 hcs rfl dL_law_627 (fun rX τX H locs hpX hw => ?_)
  refine j_aload_n J.1 dL_law_630 rfl (lv_at hl 1 rfl) ?_
  refine l_arg J (k := 1) (by omega) hw.2.2 hl dL_law_631 dL_law_632 dL_law_633 dL_law_634 dL_law_635 ?_
  refine l_arg J (k := 2) (by omega) hw.2.2 hl dL_law_636 dL_law_637 dL_law_638 dL_law_639 dL_law_640 ?_
  refine l_callM J hw (c_X10_sounded J.2.2.2.2.1 (hI.eqp hE).1 sv_rg sv_rg) lk_L_76 in_X10_sounded se_X10_sounded co_X10_sounded (n := 2) (by decide +kernel) ⟨rfl, rfl, Nat.le_of_ble_eq_true rfl, Nat.le_of_ble_eq_true rfl⟩ rfl (Nat.le_of_ble_eq_true rfl) hl.1 hcs rfl dL_law_641 (fun rM τM H locs hpM hw => ?_)
  have ee := e_sounded hE (sv xs (i + 1)) (sv xs (i + 2))
  refine lv_icmp_eq (tgt := 761) J.1.1.1 J.1.1.2.1 dL_law_644 rfl (fun _ => ?_) (fun h => absurd (by rw [hpX.1, hpM.1, ee.1]) h)
  exact kk τX τM H locs hw ((i_sounded hI (sv xs (i + 1)) (sv xs (i + 2))).eqp hpX.2) (hpM.2.tr (ee.2.tr hpX.2.sym))
set_option maxHeartbeats 1000000 in
theorem law_cell (J : LJ p m c s b L xs D cI cZ ax am A) (hi : 0 ≤ i ∧ i + 6 ≤ L) (hw : lP D cI cZ ax am A s.heap τx τm H locs) (hI : Inv τx) (hE : Eqp τm τx) (hl : lv_has ls 4 [(3, .int (I i)), (2, .ref (am 0)), (1, .ref (ax 0)), (0, .ref b)]) (hcs : cells ≤ 600000 ∧ slots ≤ 7302250)
    (kk : ∀ (τx τm : St) (H : Heap) (locs : List Loc), lP D cI cZ ax am A s.heap τx τm H locs → Inv τx → Eqp τm τx → W p l e room_1 s m #[Value.ref b] below meth c H locs cells slots Q (F0 m 761 ls [])) : W p l e room_1 s m #[Value.ref b] below meth c H locs cells slots Q (F0 m 649 ls []) := by
  refine j_aload_n J.1 dL_law_649 rfl (lv_at hl 2 rfl) ?_
  refine l_arg J (k := 1) (by omega) hw.2.2 hl dL_law_650 dL_law_651 dL_law_652 dL_law_653 dL_law_654 ?_
  refine l_arg J (k := 2) (by omega) hw.2.2 hl dL_law_655 dL_law_656 dL_law_657 dL_law_658 dL_law_659 ?_
  refine l_callX J hw (c_X9_cell J.2.2.1 hI.1 sv_rg sv_rg) lk_L_77 in_X9_cell se_X9_cell co_X9_cell (n := 2) (by decide +kernel) ⟨rfl, rfl, Nat.le_of_ble_eq_true rfl, Nat.le_of_ble_eq_true rfl⟩ rfl (Nat.le_of_ble_eq_true rfl) hl.1 hcs rfl dL_law_660 (fun rX τX H locs hpX hw => ?_)
  refine j_aload_n J.1 dL_law_663 rfl (lv_at hl 1 rfl) ?_
  refine l_arg J (k := 1) (by omega) hw.2.2 hl dL_law_664 dL_law_665 dL_law_666 dL_law_667 dL_law_668 ?_
  refine l_arg J (k := 2) (by omega) hw.2.2 hl dL_law_669 dL_law_670 dL_law_671 dL_law_672 dL_law_673 ?_
  refine l_callM J hw (c_X10_cell J.2.2.2.2.1 (hI.eqp hE).1 sv_rg sv_rg) lk_L_80 in_X10_cell se_X10_cell co_X10_cell (n := 2) (by decide +kernel) ⟨rfl, rfl, Nat.le_of_ble_eq_true rfl, Nat.le_of_ble_eq_true rfl⟩ rfl (Nat.le_of_ble_eq_true rfl) hl.1 hcs rfl dL_law_674 (fun rM τM H locs hpM hw => ?_)
  have ee := e_cell hE (sv xs (i + 1)) (sv xs (i + 2))
  refine lv_icmp_eq (tgt := 761) J.1.1.1 J.1.1.2.1 dL_law_677 rfl (fun _ => ?_) (fun h => absurd (by rw [hpX.1, hpM.1, ee.1]) h)
  exact kk τX τM H locs hw ((i_cell hI (sv xs (i + 1)) (sv xs (i + 2))).eqp hpX.2) (hpM.2.tr (ee.2.tr hpX.2.sym))
set_option maxHeartbeats 1000000 in
theorem law_about (J : LJ p m c s b L xs D cI cZ ax am A) (hi : 0 ≤ i ∧ i + 6 ≤ L) (hw : lP D cI cZ ax am A s.heap τx τm H locs) (hI : Inv τx) (hE : Eqp τm τx) (hl : lv_has ls 4 [(3, .int (I i)), (2, .ref (am 0)), (1, .ref (ax 0)), (0, .ref b)]) (hcs : cells ≤ 600000 ∧ slots ≤ 7302250)
    (kk : ∀ (τx τm : St) (H : Heap) (locs : List Loc), lP D cI cZ ax am A s.heap τx τm H locs → Inv τx → Eqp τm τx → W p l e room_1 s m #[Value.ref b] below meth c H locs cells slots Q (F0 m 761 ls [])) : W p l e room_1 s m #[Value.ref b] below meth c H locs cells slots Q (F0 m 682 ls []) := by
  refine j_aload_n J.1 dL_law_682 rfl (lv_at hl 2 rfl) ?_
  refine l_arg J (k := 1) (by omega) hw.2.2 hl dL_law_683 dL_law_684 dL_law_685 dL_law_686 dL_law_687 ?_
  refine l_arg J (k := 2) (by omega) hw.2.2 hl dL_law_688 dL_law_689 dL_law_690 dL_law_691 dL_law_692 ?_
  refine l_callX J hw (c_X9_about J.2.2.1 hI.1 sv_rg sv_rg) lk_L_81 in_X9_about se_X9_about co_X9_about (n := 2) (by decide +kernel) ⟨rfl, rfl, Nat.le_of_ble_eq_true rfl, Nat.le_of_ble_eq_true rfl⟩ rfl (Nat.le_of_ble_eq_true rfl) hl.1 hcs rfl dL_law_693 (fun rX τX H locs hpX hw => ?_)
  refine j_aload_n J.1 dL_law_696 rfl (lv_at hl 1 rfl) ?_
  refine l_arg J (k := 1) (by omega) hw.2.2 hl dL_law_697 dL_law_698 dL_law_699 dL_law_700 dL_law_701 ?_
  refine l_arg J (k := 2) (by omega) hw.2.2 hl dL_law_702 dL_law_703 dL_law_704 dL_law_705 dL_law_706 ?_
  refine l_callM J hw (c_X10_about J.2.2.2.2.1 (hI.eqp hE).1 sv_rg sv_rg) lk_L_84 in_X10_about se_X10_about co_X10_about (n := 2) (by decide +kernel) ⟨rfl, rfl, Nat.le_of_ble_eq_true rfl, Nat.le_of_ble_eq_true rfl⟩ rfl (Nat.le_of_ble_eq_true rfl) hl.1 hcs rfl dL_law_707 (fun rM τM H locs hpM hw => ?_)
  have ee := e_about hE (sv xs (i + 1)) (sv xs (i + 2))
  refine lv_icmp_eq (tgt := 761) J.1.1.1 J.1.1.2.1 dL_law_710 rfl (fun _ => ?_) (fun h => absurd (by rw [hpX.1, hpM.1, ee.1]) h)
  exact kk τX τM H locs hw ((i_about hI (sv xs (i + 1)) (sv xs (i + 2))).eqp hpX.2) (hpM.2.tr (ee.2.tr hpX.2.sym))
set_option maxHeartbeats 1000000 in
theorem law_broken (J : LJ p m c s b L xs D cI cZ ax am A) (hi : 0 ≤ i ∧ i + 6 ≤ L) (hw : lP D cI cZ ax am A s.heap τx τm H locs) (hI : Inv τx) (hE : Eqp τm τx) (hl : lv_has ls 4 [(3, .int (I i)), (2, .ref (am 0)), (1, .ref (ax 0)), (0, .ref b)]) (hcs : cells ≤ 600000 ∧ slots ≤ 7302250)
    (kk : ∀ (τx τm : St) (H : Heap) (locs : List Loc), lP D cI cZ ax am A s.heap τx τm H locs → Inv τx → Eqp τm τx → W p l e room_1 s m #[Value.ref b] below meth c H locs cells slots Q (F0 m 761 ls [])) : W p l e room_1 s m #[Value.ref b] below meth c H locs cells slots Q (F0 m 715 ls []) := by
  refine j_aload_n J.1 dL_law_715 rfl (lv_at hl 2 rfl) ?_
  refine l_arg J (k := 1) (by omega) hw.2.2 hl dL_law_716 dL_law_717 dL_law_718 dL_law_719 dL_law_720 ?_
  refine l_callX J hw (c_X9_broken J.2.2.1 hI.1 sv_rg) lk_L_85 in_X9_broken se_X9_broken co_X9_broken (n := 1) (by decide +kernel) ⟨rfl, rfl, Nat.le_of_ble_eq_true rfl, Nat.le_of_ble_eq_true rfl⟩ rfl (Nat.le_of_ble_eq_true rfl) hl.1 hcs rfl dL_law_721 (fun rX τX H locs hpX hw => ?_)
  refine j_aload_n J.1 dL_law_724 rfl (lv_at hl 1 rfl) ?_
  refine l_arg J (k := 1) (by omega) hw.2.2 hl dL_law_725 dL_law_726 dL_law_727 dL_law_728 dL_law_729 ?_
  refine l_callM J hw (c_X10_broken J.2.2.2.2.1 (hI.eqp hE).1 sv_rg) lk_L_88 in_X10_broken se_X10_broken co_X10_broken (n := 1) (by decide +kernel) ⟨rfl, rfl, Nat.le_of_ble_eq_true rfl, Nat.le_of_ble_eq_true rfl⟩ rfl (Nat.le_of_ble_eq_true rfl) hl.1 hcs rfl dL_law_730 (fun rM τM H locs hpM hw => ?_)
  have ee := e_broken hE (sv xs (i + 1))
  refine lv_icmp_eq (tgt := 761) J.1.1.1 J.1.1.2.1 dL_law_733 rfl (fun _ => ?_) (fun h => absurd (by rw [hpX.1, hpM.1, ee.1]) h)
  exact kk τX τM H locs hw ((i_broken hI (sv xs (i + 1))).eqp hpX.2) (hpM.2.tr (ee.2.tr hpX.2.sym))
set_option maxHeartbeats 1000000 in
theorem law_count (J : LJ p m c s b L xs D cI cZ ax am A) (hi : 0 ≤ i ∧ i + 6 ≤ L) (hw : lP D cI cZ ax am A s.heap τx τm H locs) (hI : Inv τx) (hE : Eqp τm τx) (hl : lv_has ls 4 [(3, .int (I i)), (2, .ref (am 0)), (1, .ref (ax 0)), (0, .ref b)]) (hcs : cells ≤ 600000 ∧ slots ≤ 7302250)
    (kk : ∀ (τx τm : St) (H : Heap) (locs : List Loc), lP D cI cZ ax am A s.heap τx τm H locs → Inv τx → Eqp τm τx → W p l e room_1 s m #[Value.ref b] below meth c H locs cells slots Q (F0 m 761 ls [])) : W p l e room_1 s m #[Value.ref b] below meth c H locs cells slots Q (F0 m 738 ls []) := by
  refine j_aload_n J.1 dL_law_738 rfl (lv_at hl 2 rfl) ?_
  refine l_arg J (k := 1) (by omega) hw.2.2 hl dL_law_739 dL_law_740 dL_law_741 dL_law_742 dL_law_743 ?_
  refine l_callX J hw (c_X9_count J.2.2.1 hI.1 sv_rg) lk_L_89 in_X9_count se_X9_count co_X9_count (n := 1) (by decide +kernel) ⟨rfl, rfl, Nat.le_of_ble_eq_true rfl, Nat.le_of_ble_eq_true rfl⟩ rfl (Nat.le_of_ble_eq_true rfl) hl.1 hcs rfl dL_law_744 (fun rX τX H locs hpX hw => ?_)
  refine j_aload_n J.1 dL_law_747 rfl (lv_at hl 1 rfl) ?_
  refine l_arg J (k := 1) (by omega) hw.2.2 hl dL_law_748 dL_law_749 dL_law_750 dL_law_751 dL_law_752 ?_
  refine l_callM J hw (c_X10_count J.2.2.2.2.1 (hI.eqp hE).1 sv_rg) lk_L_92 in_X10_count se_X10_count co_X10_count (n := 1) (by decide +kernel) ⟨rfl, rfl, Nat.le_of_ble_eq_true rfl, Nat.le_of_ble_eq_true rfl⟩ rfl (Nat.le_of_ble_eq_true rfl) hl.1 hcs rfl dL_law_753 (fun rM τM H locs hpM hw => ?_)
  have ee := e_count hE (sv xs (i + 1))
  refine lv_icmp_eq (tgt := 761) J.1.1.1 J.1.1.2.1 dL_law_756 rfl (fun _ => ?_) (fun h => absurd (by rw [hpX.1, hpM.1, ee.1]) h)
  exact kk τX τM H locs hw ((i_count hI (sv xs (i + 1))).eqp hpX.2) (hpM.2.tr (ee.2.tr hpX.2.sym))
end LW
