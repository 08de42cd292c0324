/-! CONSTRUCTORS: what they make is finished behind them -/
def v0 : tV := fun k j => if k = 1 ∨ k = 2 ∨ k = 3 then (if j = 6 then 30 else 0) else if 60 ≤ k ∧ k < 69 then (if j = 4 then 99 else 0) else if k = 0 then (if j = 11 then 20 else if j = 12 then 28 else 0) else if k = 400 then (if j = 26 then 30 else if j = 65 then 20 else if j = 66 then 28 else 0) else 0
def wd (kn : Nat × Nat) : Nat := match kn.1 with
  | 0 => 4
  | 1 => 7
  | 2 => 2
  | 3 => 7
  | 4 => 3
  | 5 => 3
  | 6 => 7
  | 7 => 13
  | 8 => 3
  | 9 => 5
  | 10 => 13
  | 11 => 67
  | _ => kn.2
def FN (sz a b : Nat) (u : tU) : Prop := ∀ k kn, KD k = some kn → a ≤ ordN k → ordN k < b → ∀ j, j < wd kn → u k j = tw_u (AD sz) v0 k j
theorem FN.app {sz a b c : Nat} {u : tU} (h1 : FN sz a b u) (h2 : FN sz b c u) : FN sz a c u := fun k kn hk q1 q2 j hj => by
  by_cases q : ordN k < b
  · exact h1 k kn hk q1 q j hj
  · exact h2 k kn hk (by omega) q2 j hj
theorem FN.keep {sz a b : Nat} {u u' : tU} (h : FN sz a b u) (hk : ∀ x, a ≤ ordN x → ordN x < b → u' x = u x) : FN sz a b u' := fun k kn q q1 q2 j hj => by
  rw [hk k q1 q2]
  exact h k kn q q1 q2 j hj
theorem cod_of {a : Nat} {kn : Nat × Nat} (h : KD a = some kn) : codL.getD (ordN a) 0 = a := cod_ok a (KD_lt h) (by rw [h]; rfl)
theorem t_up_o {u : tU} {k j a : Nat} {x : Value} (h : a ≠ k) : t_up u k j x a = u a := by
  funext b
  simp [t_up, h]
theorem t_row_o {u : tU} {k a : Nat} {f : Nat → Value} (h : a ≠ k) : t_row u k f a = u a := by simp [t_row, h]
theorem t_row_s (u : tU) (k : Nat) (f : Nat → Value) : t_row u k f k = f := by simp [t_row]
theorem t_up_s (u : tU) (k j : Nat) (x : Value) : t_up u k j x k j = x := by simp [t_up]
theorem t_up_j (u : tU) (k : Nat) {j i : Nat} (x : Value) (h : i ≠ j) : t_up u k j x k i = u k i := by simp [t_up, h]
def AO (U : State) : Prop := va_AO N_X7 U ∧ va_AO N_X0 U ∧ va_AO N_X9 U ∧ va_AO N_X3 U
theorem AO.moved {u U : State} (h : u.vm.Alike U.vm) (x : AO u) : AO U := ⟨va_AO.moved h x.1, va_AO.moved h x.2.1, va_AO.moved h x.2.2.1, va_AO.moved h x.2.2.2⟩
def cP (D : va_G) (dA : Nat → ClassId) (sz n : Nat) (u : tU) (av : List Value) : Array Value → State → Prop := va_Pc av (fun U => tw_W CLS D dA (KDn n) (AD sz) u U.heap ∧ U.heap.size = sz + n ∧ tK D dA U ∧ AO U)
def cQ (D : va_G) (dA : Nat → ClassId) (sz n' : Nat) (post : tU → Prop) : Array Value → State → Outcome → State → Prop := va_Qv post (fun u' t => tw_W CLS D dA (KDn n') (AD sz) u' t.heap ∧ t.heap.size = sz + n') (CA sz)
theorem cP.blind {D : va_G} {dA : Nat → ClassId} {sz n : Nat} {u : tU} {av : List Value} : FrameBlind (cP D dA sz n u av) := by
  intro a U g mk h
  obtain ⟨h1, h2, h3, h4, h5⟩ := h
  exact ⟨h1, h2, h3, ⟨va_K.moved (u := U) (U := U.calling g mk a) (Vm.Alike.refl U.vm) h4.1, tb_vm (u := U) (U := U.calling g mk a) rfl h4.2⟩, AO.moved (u := U) (U := U.calling g mk a) (Vm.Alike.refl U.vm) h5⟩
theorem cMet {l : Launch} {y : MethodName} {cc : ByteArray} {maxL : Nat} {rm : Room} {D : va_G} {dA : Nat → ClassId} {sz n n' : Nat} {u : tU} {av : List Value} {post : tU → Prop} {mc ms : Nat} (hy : plainName y.cls = true) (hlen : (lg_sl av).length ≤ maxL) (hyn : y.name = "<init>")
    (body : ∀ (p : Program) (e : Env) (s : State) (m : MethodId) (below : List Frame) (meth : Method) (c : Code) (ls : Array Slot), CX p s m av.toArray c cc y.cls maxL D dA → meth.sig.returnType = none → meth.locks = false → meth.name = "<init>" → tw_W CLS D dA (KDn n) (AD sz) u s.heap → s.heap.size = sz + n → AO s → lv_has ls maxL (lv_args 0 av) →
      W p l e rm s m av.toArray below meth c s.heap [] 0 0 (MQ below (cQ D dA sz n' post) av.toArray s mc ms (CA sz)) (F0 m 0 ls [])) : Met l y [.code y cc maxL none] rm (cP D dA sz n u av) (cQ D dA sz n' post) mc ms (CA sz) := by
  refine Met.ofW (cc := cc) (maxL := maxL) (ret := none) hy rfl ?_
  intro p e s m args below meth c s₁ B hml hv
  obtain ⟨rfl, hw, hz, hK, hO⟩ := hv
  have hl := lv_entry av (n := maxL) hlen
  rw [lg_entry_eq]
  exact body p e s m below meth c _ ⟨B.exec, B.bytes, hml, findClass_of_methodNamed B.named, tb_args hK.2, hK⟩ B.returns B.notSynchronized ((name_of_methodNamed B.named B.method).1.trans hyn) hw hz hO hl
theorem oi_inst : Cond.instanceMethod objectInit ∈ BIG := tb_in 62 (by decide +kernel) rfl
theorem oi_code : Cond.code objectInit ⟨#[0xb1]⟩ 1 none ∈ BIG := tb_in 63 (by decide +kernel) rfl
theorem ac_int : Cond.arrayClass .int ∈ BIG := tb_in 185 (by decide +kernel) rfl
theorem ac_bool : Cond.arrayClass .boolean ∈ BIG := tb_in 327 (by decide +kernel) rfl
theorem ac_byte : Cond.arrayClass .byte ∈ BIG := tb_in 577 (by decide +kernel) rfl
theorem ord_ward {k : Nat} (h1 : 300 ≤ k) (h2 : k < 318) : ordN (k + 20) = ordN k + 1 := by
  unfold ordN
  repeat (first | rw [if_pos (by omega)] | rw [if_neg (by omega)])
  omega
theorem ord_order {k : Nat} (h1 : 60 ≤ k) (h2 : k < 69) : ordN (k + 10) = ordN k + 1 ∧ ordN (k + 20) = ordN k + 2 ∧ ordN (k + 30) = ordN k + 3 := by
  by_cases q : k = 68
  · subst q
    exact ⟨rfl, rfl, rfl⟩
  · unfold ordN
    refine ⟨?_, ?_, ?_⟩ <;> (repeat (first | rw [if_pos (by omega)] | rw [if_neg (by omega)])) <;> omega
section R20
variable {p : Program} {l : Launch} {e : Env} {R : Room} {s : State} {m : MethodId} {args : Array Value} {below : List Frame} {meth : Method} {c : Code} {H : Heap} {locs : List Loc} {cells slots : Nat} {Q : State → Prop}
variable {cc : ByteArray} {pc : Nat} {ls : Array Slot} {rest st0 : List Value} {D : va_G} {dA : Nat → ClassId} {sz n : Nat} {u : tU} {own : String} {nL : Nat} {H0 : Heap}
theorem c_oi (X : CX p s m args c cc own nL D dA) (hsz : ls.size = nL) {idx : Nat} (hl : Cond.methodLink own idx objectInit ∈ BIG) {a : Nat} (hf : 1 ≤ R.frames) (hlo : 20 ≤ R.locals) (hroom : (rest.map fun v => v.category).sum ≤ 8) (hd : decode cc pc = .ok (.invokespecial idx, 3))
    (kk : W p l e R s m args below meth c H locs cells slots Q (F0 m (pc + 3) ls rest)) : W p l e R s m args below meth c H locs cells slots Q (F0 m pc ls (.ref a :: rest)) := by
  obtain ⟨hx, hb, hml, hown, hts, hK⟩ := X
  exact W.objInit hx hb hown (hts _ hl) (hts _ oi_inst) (hts _ oi_code) rfl (by rw [hml]; exact hsz) rfl hd hf (by show 2 * 0 + _ + 12 ≤ _; omega) kk
theorem c_runI (X : CX p s m args c cc own nL D dA) (hw : tw_W CLS D dA (KDn n) (AD sz) u H) (hz : H.size = sz + n) (hO : AO s) {y : MethodName} {bytes : ByteArray} {maxL index k mc ms : Nat} {rm : Room} {Qc : Array Value → State → Outcome → State → Prop}
    (hM : Met l y [.code y bytes maxL none] rm (cP D dA sz n u [.ref (AD sz k)]) Qc mc ms (CA sz)) (hG : GoodIn BIG [.methodLink own index y, .instanceMethod y, .initialized y.cls, .code y bytes maxL none]) (hyn : y.name = "<init>")
    (hy : y.cls ≠ "java/lang/invoke/MethodHandle" ∧ y.cls ≠ "java/lang/invoke/VarHandle" ∧ (parseMethodDescriptor y.desc).map (fun d => d.parameters.length) = some 0) (hrm : rm.cells = mc ∧ rm.slots = ms ∧ rm.frames + 1 ≤ R.frames ∧ 8 + (maxL + 11) + rm.locals ≤ R.locals) (hsz : ls.size = nL) (hst : st0 = .ref (AD sz k) :: rest) (hroom : (rest.map fun v => v.category).sum ≤ 8) (hcap : cells + mc ≤ R.cells ∧ slots + ms ≤ R.slots) (hd : decode cc pc = .ok (.invokespecial index, 3)) :
    va_Run p l e R s m args below meth c H locs cells slots mc ms (F0 m pc ls st0) rest (Qc ([.ref (AD sz k)] : List Value).toArray) (CA sz) := by
  obtain ⟨hx, hb, hml, hown, hts, hK⟩ := X
  have h1 : GoodIn BIG [.code y bytes maxL none] := fun w hw => hG w (by simp only [List.mem_singleton] at hw; subst hw; simp)
  exact va_runI (As := []) (rest := rest) ⟨hx, hb, hml, hown, hts⟩ hM (cwI 0 hts h1 rfl hrm.1 hrm.2.1 (hts _ (hG _ (by simp)).1) (hts _ (hG _ (by simp)).1) (hts _ (hG _ (by simp)).1) hyn hy ⟨hrm.2.2.1, hrm.2.2.2⟩) ⟨cP.blind, fun U hU hW => ⟨rfl, by rw [hU]; exact hw, by rw [hU]; exact hz, hK.warm hW, hO.moved hW.alike⟩⟩ rfl rfl hsz hst (lv_room hroom) hd hcap
theorem c_runIN (X : CX p s m args c cc own nL D dA) (hw : tw_W CLS D dA (KDn n) (AD sz) u H) (hz : H.size = sz + n) (hO : AO s) {y : MethodName} {bytes : ByteArray} {maxL index k mc ms : Nat} {rm : Room} {host : String} {Qc : Array Value → State → Outcome → State → Prop}
    (hM : Met l y [.code y bytes maxL none] rm (cP D dA sz n u [.ref (AD sz k)]) Qc mc ms (CA sz)) (hN : Cond.methodLinkNest own index y host ∈ BIG) (hG : GoodIn BIG [.instanceMethod y, .initialized y.cls, .code y bytes maxL none]) (hyn : y.name = "<init>")
    (hy : y.cls ≠ "java/lang/invoke/MethodHandle" ∧ y.cls ≠ "java/lang/invoke/VarHandle" ∧ (parseMethodDescriptor y.desc).map (fun d => d.parameters.length) = some 0) (hrm : rm.cells = mc ∧ rm.slots = ms ∧ rm.frames + 1 ≤ R.frames ∧ 8 + (maxL + 11) + rm.locals ≤ R.locals) (hsz : ls.size = nL) (hst : st0 = .ref (AD sz k) :: rest) (hroom : (rest.map fun v => v.category).sum ≤ 8) (hcap : cells + mc ≤ R.cells ∧ slots + ms ≤ R.slots) (hd : decode cc pc = .ok (.invokespecial index, 3)) :
    va_Run p l e R s m args below meth c H locs cells slots mc ms (F0 m pc ls st0) rest (Qc ([.ref (AD sz k)] : List Value).toArray) (CA sz) := by
  obtain ⟨hx, hb, hml, hown, hts, hK⟩ := X
  have h1 : GoodIn BIG [.code y bytes maxL none] := fun w hw => hG w (by simp only [List.mem_singleton] at hw; subst hw; simp)
  exact va_runIN (As := []) (rest := rest) ⟨hx, hb, hml, hown, hts⟩ hM ⟨va_cnB 0 hts h1 rfl hrm.1 hrm.2.1 (va_Nw.of rfl (hts _ hN)) (hts _ (hG _ (by simp)).1) hy ⟨hrm.2.2.1, hrm.2.2.2⟩, hyn, hts _ (hG _ (by simp)).1⟩ ⟨cP.blind, fun U hU hW => ⟨rfl, by rw [hU]; exact hw, by rw [hU]; exact hz, hK.warm hW, hO.moved hW.alike⟩⟩ rfl rfl hsz hst (lv_room hroom) hd hcap
theorem c_cv {a : Array Value} {n' mc ms : Nat} {post : tU → Prop} (hr : va_Run p l e R s m args below meth c H locs cells slots mc ms (F0 m pc ls st0) rest (cQ D dA sz n' post a) (CA sz)) (hS : va_S (CA sz) H0 H locs)
    (kk : ∀ (u' : tU) (H1 : Heap) (locs1 : List Loc), post u' → tw_W CLS D dA (KDn n') (AD sz) u' H1 → H1.size = sz + n' → va_S (CA sz) H0 H1 locs1 → W p l e R s m args below meth c H1 locs1 (cells + mc) (slots + ms) Q (F0 m (pc + 3) ls rest)) : W p l e R s m args below meth c H locs cells slots Q (F0 m pc ls st0) :=
  va_callv hr hS (fun _ _ h => h) (fun _ h => h) (fun u t H1 locs1 ht _ hp hB _ _ hS1 => kk u H1 locs1 hp (by rw [← ht]; exact hB.1) (by rw [← ht]; exact hB.2) hS1)
theorem c_vret {n' : Nat} {post : tU → Prop} (X : CX p s m args c cc own nL D dA) (hr : meth.sig.returnType = none) (hlocks : meth.locks = false) (hw : tw_W CLS D dA (KDn n') (AD sz) u H) (hz : H.size = sz + n') (hS : va_S (CA sz) s.heap H locs) (hp : post u) (hd : decode cc pc = .ok (.return_, 1)) : W p l e R s m args below meth c H locs cells slots (MQ below (cQ D dA sz n' post) args s cells slots (CA sz)) (F0 m pc ls []) :=
  W.vret X.1 X.2.1 hr (fun t ht hW => ⟨⟨u, rfl, hp, by show tw_W CLS D dA (KDn n') (AD sz) u t.heap; rw [ht]; exact hw, by rw [ht]; exact hz⟩, hS.F ht⟩) hS.2.2 hd hlocks
end R20
theorem ol_X0 : Cond.methodLink N_X0 1 objectInit ∈ BIG := tb_in 142 (by decide +kernel) rfl
theorem ol_X1 : Cond.methodLink N_X1 3 objectInit ∈ BIG := tb_in 244 (by decide +kernel) rfl
theorem FQ_X1_11 : FQ N_X1 11 1 0 (.array .int) := ⟨N_X1, T_X1, 7, y_X1, rfl, by decide, uw_X1, by decide, fl_X1_11, ty_X1, nm_X1, rfl, by decide +kernel, rfl⟩
theorem FQ_X1_15 : FQ N_X1 15 1 1 (.array .int) := ⟨N_X1, T_X1, 7, y_X1, rfl, by decide, uw_X1, by decide, fl_X1_15, ty_X1, nm_X1, rfl, by decide +kernel, rfl⟩
theorem FQ_X1_18 : FQ N_X1 18 1 2 (.array .int) := ⟨N_X1, T_X1, 7, y_X1, rfl, by decide, uw_X1, by decide, fl_X1_18, ty_X1, nm_X1, rfl, by decide +kernel, rfl⟩
theorem FQ_X1_21 : FQ N_X1 21 1 3 (.array .int) := ⟨N_X1, T_X1, 7, y_X1, rfl, by decide, uw_X1, by decide, fl_X1_21, ty_X1, nm_X1, rfl, by decide +kernel, rfl⟩
theorem ol_X2 : Cond.methodLink N_X2 3 objectInit ∈ BIG := tb_in 279 (by decide +kernel) rfl
theorem FQ_X2_9 : FQ N_X2 9 2 0 (.array .int) := ⟨N_X2, T_X2, 2, y_X2, rfl, by decide, uw_X2, by decide, fl_X2_9, ty_X2, nm_X2, rfl, by decide +kernel, rfl⟩
theorem FQ_X2_15 : FQ N_X2 15 2 1 (.array .int) := ⟨N_X2, T_X2, 2, y_X2, rfl, by decide, uw_X2, by decide, fl_X2_15, ty_X2, nm_X2, rfl, by decide +kernel, rfl⟩
theorem ol_X3 : Cond.methodLink N_X3 3 objectInit ∈ BIG := tb_in 299 (by decide +kernel) rfl
theorem FQ_X3_9 : FQ N_X3 9 3 0 (.array .int) := ⟨N_X3, T_X3, 7, y_X3, rfl, by decide, uw_X3, by decide, fl_X3_9, ty_X3, nm_X3, rfl, by decide +kernel, rfl⟩
theorem FQ_X3_15 : FQ N_X3 15 3 1 (.array .int) := ⟨N_X3, T_X3, 7, y_X3, rfl, by decide, uw_X3, by decide, fl_X3_15, ty_X3, nm_X3, rfl, by decide +kernel, rfl⟩
theorem FQ_X3_18 : FQ N_X3 18 3 2 (.array .boolean) := ⟨N_X3, T_X3, 7, y_X3, rfl, by decide, uw_X3, by decide, fl_X3_18, ty_X3, nm_X3, rfl, by decide +kernel, rfl⟩
theorem ol_X4 : Cond.methodLink N_X4 3 objectInit ∈ BIG := tb_in 292 (by decide +kernel) rfl
theorem FQ_X4_11 : FQ N_X4 11 4 0 (.array (.object "CoalTurns$Order")) := ⟨N_X4, T_X4, 3, y_X4, rfl, by decide, uw_X4, by decide, fl_X4_11, ty_X4, nm_X4, rfl, by decide +kernel, rfl⟩
theorem FQ_X4_18 : FQ N_X4 18 4 1 (.object "CoalTurns$Order") := ⟨N_X4, T_X4, 3, y_X4, rfl, by decide, uw_X4, by decide, fl_X4_18, ty_X4, nm_X4, rfl, by decide +kernel, rfl⟩
theorem ol_X5 : Cond.methodLink N_X5 3 objectInit ∈ BIG := tb_in 224 (by decide +kernel) rfl
theorem FQ_X5_9 : FQ N_X5 9 5 0 (.array .int) := ⟨N_X5, T_X5, 3, y_X5, rfl, by decide, uw_X5, by decide, fl_X5_9, ty_X5, nm_X5, rfl, by decide +kernel, rfl⟩
theorem FQ_X5_15 : FQ N_X5 15 5 1 (.array .int) := ⟨N_X5, T_X5, 3, y_X5, rfl, by decide, uw_X5, by decide, fl_X5_15, ty_X5, nm_X5, rfl, by decide +kernel, rfl⟩
theorem ol_X6 : Cond.methodLink N_X6 3 objectInit ∈ BIG := tb_in 69 (by decide +kernel) rfl
theorem FQ_X6_11 : FQ N_X6 11 6 0 (.array (.object "CoalTurns$Ship")) := ⟨N_X6, T_X6, 7, y_X6, rfl, by decide, uw_X6, by decide, fl_X6_11, ty_X6, nm_X6, rfl, by decide +kernel, rfl⟩
theorem FQ_X6_19 : FQ N_X6 19 6 1 (.array (.object "CoalTurns$Buyer")) := ⟨N_X6, T_X6, 7, y_X6, rfl, by decide, uw_X6, by decide, fl_X6_19, ty_X6, nm_X6, rfl, by decide +kernel, rfl⟩
theorem FQ_X6_25 : FQ N_X6 25 6 2 (.array (.object "CoalTurns$Ward")) := ⟨N_X6, T_X6, 7, y_X6, rfl, by decide, uw_X6, by decide, fl_X6_25, ty_X6, nm_X6, rfl, by decide +kernel, rfl⟩
theorem ol_X7 : Cond.methodLink N_X7 3 objectInit ∈ BIG := tb_in 80 (by decide +kernel) rfl
theorem ol_X8 : Cond.methodLink N_X8 3 objectInit ∈ BIG := tb_in 345 (by decide +kernel) rfl
theorem FQ_X8_9 : FQ N_X8 9 8 0 (.array .int) := ⟨N_X8, T_X8, 3, y_X8, rfl, by decide, uw_X8, by decide, fl_X8_9, ty_X8, nm_X8, rfl, by decide +kernel, rfl⟩
theorem ol_X9 : Cond.methodLink N_X9 3 objectInit ∈ BIG := tb_in 165 (by decide +kernel) rfl
theorem FQ_X9_9 : FQ N_X9 9 9 0 (.array .int) := ⟨N_X9, T_X9, 5, y_X9, rfl, by decide, uw_X9, by decide, fl_X9_9, ty_X9, nm_X9, rfl, by decide +kernel, rfl⟩
theorem ol_X10 : Cond.methodLink N_X10 1 objectInit ∈ BIG := tb_in 61 (by decide +kernel) rfl
theorem FQ_X10_10 : FQ N_X10 10 10 0 (.object "CoalTurns$River") := ⟨N_X10, T_X10, 13, y_X10, rfl, by decide, uw_X10, by decide, fl_X10_10, ty_X10, nm_X10, rfl, by decide +kernel, rfl⟩
theorem FQ_X10_16 : FQ N_X10 16 10 1 (.object "CoalTurns$River") := ⟨N_X10, T_X10, 13, y_X10, rfl, by decide, uw_X10, by decide, fl_X10_16, ty_X10, nm_X10, rfl, by decide +kernel, rfl⟩
theorem FQ_X10_19 : FQ N_X10 19 10 2 (.object "CoalTurns$River") := ⟨N_X10, T_X10, 13, y_X10, rfl, by decide, uw_X10, by decide, fl_X10_19, ty_X10, nm_X10, rfl, by decide +kernel, rfl⟩
theorem FQ_X10_25 : FQ N_X10 25 10 3 (.object "CoalTurns$Queue") := ⟨N_X10, T_X10, 13, y_X10, rfl, by decide, uw_X10, by decide, fl_X10_25, ty_X10, nm_X10, rfl, by decide +kernel, rfl⟩
theorem FQ_X10_29 : FQ N_X10 29 10 4 (.object "CoalTurns$Queue") := ⟨N_X10, T_X10, 13, y_X10, rfl, by decide, uw_X10, by decide, fl_X10_29, ty_X10, nm_X10, rfl, by decide +kernel, rfl⟩
theorem FQ_X10_35 : FQ N_X10 35 10 5 (.object "CoalTurns$DayBook") := ⟨N_X10, T_X10, 13, y_X10, rfl, by decide, uw_X10, by decide, fl_X10_35, ty_X10, nm_X10, rfl, by decide +kernel, rfl⟩
theorem FQ_X10_39 : FQ N_X10 39 10 6 (.object "CoalTurns$DayBook") := ⟨N_X10, T_X10, 13, y_X10, rfl, by decide, uw_X10, by decide, fl_X10_39, ty_X10, nm_X10, rfl, by decide +kernel, rfl⟩
theorem FQ_X10_45 : FQ N_X10 45 10 7 (.object "CoalTurns$Lighters") := ⟨N_X10, T_X10, 13, y_X10, rfl, by decide, uw_X10, by decide, fl_X10_45, ty_X10, nm_X10, rfl, by decide +kernel, rfl⟩
theorem FQ_X10_52 : FQ N_X10 52 10 8 (.object "CoalTurns$OrderBook") := ⟨N_X10, T_X10, 13, y_X10, rfl, by decide, uw_X10, by decide, fl_X10_52, ty_X10, nm_X10, rfl, by decide +kernel, rfl⟩
theorem FQ_X10_59 : FQ N_X10 59 10 9 (.object "CoalTurns$Tape") := ⟨N_X10, T_X10, 13, y_X10, rfl, by decide, uw_X10, by decide, fl_X10_59, ty_X10, nm_X10, rfl, by decide +kernel, rfl⟩
theorem ol_X11 : Cond.methodLink N_X11 1 objectInit ∈ BIG := tb_in 821 (by decide +kernel) rfl
theorem FQ_X11_7 : FQ N_X11 7 11 2 (.array .int) := ⟨N_X11, T_X11, 67, y_X11, rfl, by decide, uw_X11, by decide, fl_X11_7, ty_X11, nm_X11, rfl, by decide +kernel, rfl⟩
theorem FQ_X11_13 : FQ N_X11 13 11 3 (.array .int) := ⟨N_X11, T_X11, 67, y_X11, rfl, by decide, uw_X11, by decide, fl_X11_13, ty_X11, nm_X11, rfl, by decide +kernel, rfl⟩
theorem FQ_X11_16 : FQ N_X11 16 11 4 (.array .int) := ⟨N_X11, T_X11, 67, y_X11, rfl, by decide, uw_X11, by decide, fl_X11_16, ty_X11, nm_X11, rfl, by decide +kernel, rfl⟩
theorem FQ_X11_19 : FQ N_X11 19 11 5 (.array .int) := ⟨N_X11, T_X11, 67, y_X11, rfl, by decide, uw_X11, by decide, fl_X11_19, ty_X11, nm_X11, rfl, by decide +kernel, rfl⟩
theorem FQ_X11_22 : FQ N_X11 22 11 6 (.array .int) := ⟨N_X11, T_X11, 67, y_X11, rfl, by decide, uw_X11, by decide, fl_X11_22, ty_X11, nm_X11, rfl, by decide +kernel, rfl⟩
theorem FQ_X11_25 : FQ N_X11 25 11 7 (.array .int) := ⟨N_X11, T_X11, 67, y_X11, rfl, by decide, uw_X11, by decide, fl_X11_25, ty_X11, nm_X11, rfl, by decide +kernel, rfl⟩
theorem FQ_X11_28 : FQ N_X11 28 11 8 (.array .int) := ⟨N_X11, T_X11, 67, y_X11, rfl, by decide, uw_X11, by decide, fl_X11_28, ty_X11, nm_X11, rfl, by decide +kernel, rfl⟩
theorem FQ_X11_31 : FQ N_X11 31 11 9 (.array .int) := ⟨N_X11, T_X11, 67, y_X11, rfl, by decide, uw_X11, by decide, fl_X11_31, ty_X11, nm_X11, rfl, by decide +kernel, rfl⟩
theorem FQ_X11_34 : FQ N_X11 34 11 10 (.array .int) := ⟨N_X11, T_X11, 67, y_X11, rfl, by decide, uw_X11, by decide, fl_X11_34, ty_X11, nm_X11, rfl, by decide +kernel, rfl⟩
theorem FQ_X11_37 : FQ N_X11 37 11 11 (.array .int) := ⟨N_X11, T_X11, 67, y_X11, rfl, by decide, uw_X11, by decide, fl_X11_37, ty_X11, nm_X11, rfl, by decide +kernel, rfl⟩
theorem FQ_X11_40 : FQ N_X11 40 11 12 (.array .int) := ⟨N_X11, T_X11, 67, y_X11, rfl, by decide, uw_X11, by decide, fl_X11_40, ty_X11, nm_X11, rfl, by decide +kernel, rfl⟩
theorem FQ_X11_43 : FQ N_X11 43 11 13 (.array .int) := ⟨N_X11, T_X11, 67, y_X11, rfl, by decide, uw_X11, by decide, fl_X11_43, ty_X11, nm_X11, rfl, by decide +kernel, rfl⟩
theorem FQ_X11_46 : FQ N_X11 46 11 14 (.array .int) := ⟨N_X11, T_X11, 67, y_X11, rfl, by decide, uw_X11, by decide, fl_X11_46, ty_X11, nm_X11, rfl, by decide +kernel, rfl⟩
theorem FQ_X11_49 : FQ N_X11 49 11 16 (.array .int) := ⟨N_X11, T_X11, 67, y_X11, rfl, by decide, uw_X11, by decide, fl_X11_49, ty_X11, nm_X11, rfl, by decide +kernel, rfl⟩
theorem FQ_X11_52 : FQ N_X11 52 11 17 (.array .int) := ⟨N_X11, T_X11, 67, y_X11, rfl, by decide, uw_X11, by decide, fl_X11_52, ty_X11, nm_X11, rfl, by decide +kernel, rfl⟩
theorem FQ_X11_55 : FQ N_X11 55 11 18 (.array .int) := ⟨N_X11, T_X11, 67, y_X11, rfl, by decide, uw_X11, by decide, fl_X11_55, ty_X11, nm_X11, rfl, by decide +kernel, rfl⟩
theorem FQ_X11_58 : FQ N_X11 58 11 19 (.array .int) := ⟨N_X11, T_X11, 67, y_X11, rfl, by decide, uw_X11, by decide, fl_X11_58, ty_X11, nm_X11, rfl, by decide +kernel, rfl⟩
theorem FQ_X11_61 : FQ N_X11 61 11 20 (.array .int) := ⟨N_X11, T_X11, 67, y_X11, rfl, by decide, uw_X11, by decide, fl_X11_61, ty_X11, nm_X11, rfl, by decide +kernel, rfl⟩
theorem FQ_X11_64 : FQ N_X11 64 11 21 (.array .int) := ⟨N_X11, T_X11, 67, y_X11, rfl, by decide, uw_X11, by decide, fl_X11_64, ty_X11, nm_X11, rfl, by decide +kernel, rfl⟩
theorem FQ_X11_67 : FQ N_X11 67 11 22 (.array .int) := ⟨N_X11, T_X11, 67, y_X11, rfl, by decide, uw_X11, by decide, fl_X11_67, ty_X11, nm_X11, rfl, by decide +kernel, rfl⟩
theorem FQ_X11_70 : FQ N_X11 70 11 23 (.array .int) := ⟨N_X11, T_X11, 67, y_X11, rfl, by decide, uw_X11, by decide, fl_X11_70, ty_X11, nm_X11, rfl, by decide +kernel, rfl⟩
theorem FQ_X11_73 : FQ N_X11 73 11 24 (.array .int) := ⟨N_X11, T_X11, 67, y_X11, rfl, by decide, uw_X11, by decide, fl_X11_73, ty_X11, nm_X11, rfl, by decide +kernel, rfl⟩
theorem FQ_X11_80 : FQ N_X11 80 11 28 (.array .int) := ⟨N_X11, T_X11, 67, y_X11, rfl, by decide, uw_X11, by decide, fl_X11_80, ty_X11, nm_X11, rfl, by decide +kernel, rfl⟩
theorem FQ_X11_83 : FQ N_X11 83 11 29 (.array .int) := ⟨N_X11, T_X11, 67, y_X11, rfl, by decide, uw_X11, by decide, fl_X11_83, ty_X11, nm_X11, rfl, by decide +kernel, rfl⟩
theorem FQ_X11_86 : FQ N_X11 86 11 30 (.array .int) := ⟨N_X11, T_X11, 67, y_X11, rfl, by decide, uw_X11, by decide, fl_X11_86, ty_X11, nm_X11, rfl, by decide +kernel, rfl⟩
theorem FQ_X11_89 : FQ N_X11 89 11 31 (.array .int) := ⟨N_X11, T_X11, 67, y_X11, rfl, by decide, uw_X11, by decide, fl_X11_89, ty_X11, nm_X11, rfl, by decide +kernel, rfl⟩
theorem FQ_X11_92 : FQ N_X11 92 11 32 (.array .byte) := ⟨N_X11, T_X11, 67, y_X11, rfl, by decide, uw_X11, by decide, fl_X11_92, ty_X11, nm_X11, rfl, by decide +kernel, rfl⟩
theorem FQ_X11_96 : FQ N_X11 96 11 35 (.array .int) := ⟨N_X11, T_X11, 67, y_X11, rfl, by decide, uw_X11, by decide, fl_X11_96, ty_X11, nm_X11, rfl, by decide +kernel, rfl⟩
theorem FQ_X11_99 : FQ N_X11 99 11 36 (.array .int) := ⟨N_X11, T_X11, 67, y_X11, rfl, by decide, uw_X11, by decide, fl_X11_99, ty_X11, nm_X11, rfl, by decide +kernel, rfl⟩
theorem FQ_X11_102 : FQ N_X11 102 11 37 (.array .int) := ⟨N_X11, T_X11, 67, y_X11, rfl, by decide, uw_X11, by decide, fl_X11_102, ty_X11, nm_X11, rfl, by decide +kernel, rfl⟩
theorem FQ_X11_105 : FQ N_X11 105 11 38 (.array .int) := ⟨N_X11, T_X11, 67, y_X11, rfl, by decide, uw_X11, by decide, fl_X11_105, ty_X11, nm_X11, rfl, by decide +kernel, rfl⟩
theorem FQ_X11_108 : FQ N_X11 108 11 39 (.array .boolean) := ⟨N_X11, T_X11, 67, y_X11, rfl, by decide, uw_X11, by decide, fl_X11_108, ty_X11, nm_X11, rfl, by decide +kernel, rfl⟩
theorem FQ_X11_112 : FQ N_X11 112 11 40 (.array .int) := ⟨N_X11, T_X11, 67, y_X11, rfl, by decide, uw_X11, by decide, fl_X11_112, ty_X11, nm_X11, rfl, by decide +kernel, rfl⟩
theorem FQ_X11_115 : FQ N_X11 115 11 41 (.array .int) := ⟨N_X11, T_X11, 67, y_X11, rfl, by decide, uw_X11, by decide, fl_X11_115, ty_X11, nm_X11, rfl, by decide +kernel, rfl⟩
theorem FQ_X11_118 : FQ N_X11 118 11 45 (.array .int) := ⟨N_X11, T_X11, 67, y_X11, rfl, by decide, uw_X11, by decide, fl_X11_118, ty_X11, nm_X11, rfl, by decide +kernel, rfl⟩
theorem FQ_X11_121 : FQ N_X11 121 11 46 (.array .int) := ⟨N_X11, T_X11, 67, y_X11, rfl, by decide, uw_X11, by decide, fl_X11_121, ty_X11, nm_X11, rfl, by decide +kernel, rfl⟩
theorem FQ_X11_124 : FQ N_X11 124 11 47 (.array .int) := ⟨N_X11, T_X11, 67, y_X11, rfl, by decide, uw_X11, by decide, fl_X11_124, ty_X11, nm_X11, rfl, by decide +kernel, rfl⟩
theorem FQ_X11_127 : FQ N_X11 127 11 48 (.array .int) := ⟨N_X11, T_X11, 67, y_X11, rfl, by decide, uw_X11, by decide, fl_X11_127, ty_X11, nm_X11, rfl, by decide +kernel, rfl⟩
theorem FQ_X11_130 : FQ N_X11 130 11 49 (.array .int) := ⟨N_X11, T_X11, 67, y_X11, rfl, by decide, uw_X11, by decide, fl_X11_130, ty_X11, nm_X11, rfl, by decide +kernel, rfl⟩
theorem FQ_X11_133 : FQ N_X11 133 11 50 (.array .int) := ⟨N_X11, T_X11, 67, y_X11, rfl, by decide, uw_X11, by decide, fl_X11_133, ty_X11, nm_X11, rfl, by decide +kernel, rfl⟩
theorem FQ_X11_136 : FQ N_X11 136 11 51 (.array .int) := ⟨N_X11, T_X11, 67, y_X11, rfl, by decide, uw_X11, by decide, fl_X11_136, ty_X11, nm_X11, rfl, by decide +kernel, rfl⟩
theorem FQ_X11_139 : FQ N_X11 139 11 52 (.array .int) := ⟨N_X11, T_X11, 67, y_X11, rfl, by decide, uw_X11, by decide, fl_X11_139, ty_X11, nm_X11, rfl, by decide +kernel, rfl⟩
theorem FQ_X11_142 : FQ N_X11 142 11 60 (.array .int) := ⟨N_X11, T_X11, 67, y_X11, rfl, by decide, uw_X11, by decide, fl_X11_142, ty_X11, nm_X11, rfl, by decide +kernel, rfl⟩
theorem FQ_X11_145 : FQ N_X11 145 11 61 (.array .int) := ⟨N_X11, T_X11, 67, y_X11, rfl, by decide, uw_X11, by decide, fl_X11_145, ty_X11, nm_X11, rfl, by decide +kernel, rfl⟩
theorem FQ_X11_148 : FQ N_X11 148 11 62 (.array .boolean) := ⟨N_X11, T_X11, 67, y_X11, rfl, by decide, uw_X11, by decide, fl_X11_148, ty_X11, nm_X11, rfl, by decide +kernel, rfl⟩
theorem FQ_X11_151 : FQ N_X11 151 11 63 (.array .int) := ⟨N_X11, T_X11, 67, y_X11, rfl, by decide, uw_X11, by decide, fl_X11_151, ty_X11, nm_X11, rfl, by decide +kernel, rfl⟩
theorem FQ_X11_154 : FQ N_X11 154 11 64 (.array .int) := ⟨N_X11, T_X11, 67, y_X11, rfl, by decide, uw_X11, by decide, fl_X11_154, ty_X11, nm_X11, rfl, by decide +kernel, rfl⟩
theorem d_X7_init_0 : decode c_X7_init 0 = .ok (.aload_n 0, 1) := by decide +kernel
theorem d_X7_init_1 : decode c_X7_init 1 = .ok (.invokespecial 3, 3) := by decide +kernel
theorem d_X7_init_4 : decode c_X7_init 4 = .ok (.return_, 1) := by decide +kernel
theorem d_X0_init_0 : decode c_X0_init 0 = .ok (.aload_n 0, 1) := by decide +kernel
theorem d_X0_init_1 : decode c_X0_init 1 = .ok (.invokespecial 1, 3) := by decide +kernel
theorem d_X0_init_4 : decode c_X0_init 4 = .ok (.return_, 1) := by decide +kernel
theorem d_X9_init_0 : decode c_X9_init 0 = .ok (.aload_n 0, 1) := by decide +kernel
theorem d_X9_init_1 : decode c_X9_init 1 = .ok (.invokespecial 3, 3) := by decide +kernel
theorem d_X9_init_4 : decode c_X9_init 4 = .ok (.aload_n 0, 1) := by decide +kernel
theorem d_X9_init_5 : decode c_X9_init 5 = .ok (.iconst 5, 1) := by decide +kernel
theorem d_X9_init_6 : decode c_X9_init 6 = .ok (.newarray .int, 2) := by decide +kernel
theorem d_X9_init_8 : decode c_X9_init 8 = .ok (.putfield 9, 3) := by decide +kernel
theorem d_X9_init_11 : decode c_X9_init 11 = .ok (.return_, 1) := by decide +kernel
theorem d_X3_init_0 : decode c_X3_init 0 = .ok (.aload_n 0, 1) := by decide +kernel
theorem d_X3_init_1 : decode c_X3_init 1 = .ok (.invokespecial 3, 3) := by decide +kernel
theorem d_X3_init_4 : decode c_X3_init 4 = .ok (.aload_n 0, 1) := by decide +kernel
theorem d_X3_init_5 : decode c_X3_init 5 = .ok (.iconst 3, 1) := by decide +kernel
theorem d_X3_init_6 : decode c_X3_init 6 = .ok (.newarray .int, 2) := by decide +kernel
theorem d_X3_init_8 : decode c_X3_init 8 = .ok (.putfield 9, 3) := by decide +kernel
theorem d_X3_init_11 : decode c_X3_init 11 = .ok (.aload_n 0, 1) := by decide +kernel
theorem d_X3_init_12 : decode c_X3_init 12 = .ok (.iconst 3, 1) := by decide +kernel
theorem d_X3_init_13 : decode c_X3_init 13 = .ok (.newarray .int, 2) := by decide +kernel
theorem d_X3_init_15 : decode c_X3_init 15 = .ok (.putfield 15, 3) := by decide +kernel
theorem d_X3_init_18 : decode c_X3_init 18 = .ok (.aload_n 0, 1) := by decide +kernel
theorem d_X3_init_19 : decode c_X3_init 19 = .ok (.iconst 3, 1) := by decide +kernel
theorem d_X3_init_20 : decode c_X3_init 20 = .ok (.newarray .boolean, 2) := by decide +kernel
theorem d_X3_init_22 : decode c_X3_init 22 = .ok (.putfield 18, 3) := by decide +kernel
theorem d_X3_init_25 : decode c_X3_init 25 = .ok (.aload_n 0, 1) := by decide +kernel
theorem d_X3_init_26 : decode c_X3_init 26 = .ok (.iconst 0, 1) := by decide +kernel
theorem d_X3_init_27 : decode c_X3_init 27 = .ok (.putfield 22, 3) := by decide +kernel
theorem d_X3_init_30 : decode c_X3_init 30 = .ok (.aload_n 0, 1) := by decide +kernel
theorem d_X3_init_31 : decode c_X3_init 31 = .ok (.bipush 99, 2) := by decide +kernel
theorem d_X3_init_33 : decode c_X3_init 33 = .ok (.putfield 26, 3) := by decide +kernel
theorem d_X3_init_36 : decode c_X3_init 36 = .ok (.aload_n 0, 1) := by decide +kernel
theorem d_X3_init_37 : decode c_X3_init 37 = .ok (.iconst 0, 1) := by decide +kernel
theorem d_X3_init_38 : decode c_X3_init 38 = .ok (.putfield 29, 3) := by decide +kernel
theorem d_X3_init_41 : decode c_X3_init 41 = .ok (.aload_n 0, 1) := by decide +kernel
theorem d_X3_init_42 : decode c_X3_init 42 = .ok (.iconst 0, 1) := by decide +kernel
theorem d_X3_init_43 : decode c_X3_init 43 = .ok (.putfield 32, 3) := by decide +kernel
theorem d_X3_init_46 : decode c_X3_init 46 = .ok (.return_, 1) := by decide +kernel
theorem d_X5_init_0 : decode c_X5_init 0 = .ok (.aload_n 0, 1) := by decide +kernel
theorem d_X5_init_1 : decode c_X5_init 1 = .ok (.invokespecial 3, 3) := by decide +kernel
theorem d_X5_init_4 : decode c_X5_init 4 = .ok (.aload_n 0, 1) := by decide +kernel
theorem d_X5_init_5 : decode c_X5_init 5 = .ok (.bipush 20, 2) := by decide +kernel
theorem d_X5_init_7 : decode c_X5_init 7 = .ok (.newarray .int, 2) := by decide +kernel
theorem d_X5_init_9 : decode c_X5_init 9 = .ok (.putfield 9, 3) := by decide +kernel
theorem d_X5_init_12 : decode c_X5_init 12 = .ok (.aload_n 0, 1) := by decide +kernel
theorem d_X5_init_13 : decode c_X5_init 13 = .ok (.bipush 20, 2) := by decide +kernel
theorem d_X5_init_15 : decode c_X5_init 15 = .ok (.newarray .int, 2) := by decide +kernel
theorem d_X5_init_17 : decode c_X5_init 17 = .ok (.putfield 15, 3) := by decide +kernel
theorem d_X5_init_20 : decode c_X5_init 20 = .ok (.aload_n 0, 1) := by decide +kernel
theorem d_X5_init_21 : decode c_X5_init 21 = .ok (.iconst 0, 1) := by decide +kernel
theorem d_X5_init_22 : decode c_X5_init 22 = .ok (.putfield 18, 3) := by decide +kernel
theorem d_X5_init_25 : decode c_X5_init 25 = .ok (.return_, 1) := by decide +kernel
theorem d_X1_init_0 : decode c_X1_init 0 = .ok (.aload_n 0, 1) := by decide +kernel
theorem d_X1_init_1 : decode c_X1_init 1 = .ok (.invokespecial 3, 3) := by decide +kernel
theorem d_X1_init_4 : decode c_X1_init 4 = .ok (.aload_n 0, 1) := by decide +kernel
theorem d_X1_init_5 : decode c_X1_init 5 = .ok (.bipush 30, 2) := by decide +kernel
theorem d_X1_init_7 : decode c_X1_init 7 = .ok (.newarray .int, 2) := by decide +kernel
theorem d_X1_init_9 : decode c_X1_init 9 = .ok (.putfield 11, 3) := by decide +kernel
theorem d_X1_init_12 : decode c_X1_init 12 = .ok (.aload_n 0, 1) := by decide +kernel
theorem d_X1_init_13 : decode c_X1_init 13 = .ok (.bipush 30, 2) := by decide +kernel
theorem d_X1_init_15 : decode c_X1_init 15 = .ok (.newarray .int, 2) := by decide +kernel
theorem d_X1_init_17 : decode c_X1_init 17 = .ok (.putfield 15, 3) := by decide +kernel
theorem d_X1_init_20 : decode c_X1_init 20 = .ok (.aload_n 0, 1) := by decide +kernel
theorem d_X1_init_21 : decode c_X1_init 21 = .ok (.bipush 30, 2) := by decide +kernel
theorem d_X1_init_23 : decode c_X1_init 23 = .ok (.newarray .int, 2) := by decide +kernel
theorem d_X1_init_25 : decode c_X1_init 25 = .ok (.putfield 18, 3) := by decide +kernel
theorem d_X1_init_28 : decode c_X1_init 28 = .ok (.aload_n 0, 1) := by decide +kernel
theorem d_X1_init_29 : decode c_X1_init 29 = .ok (.bipush 30, 2) := by decide +kernel
theorem d_X1_init_31 : decode c_X1_init 31 = .ok (.newarray .int, 2) := by decide +kernel
theorem d_X1_init_33 : decode c_X1_init 33 = .ok (.putfield 21, 3) := by decide +kernel
theorem d_X1_init_36 : decode c_X1_init 36 = .ok (.aload_n 0, 1) := by decide +kernel
theorem d_X1_init_37 : decode c_X1_init 37 = .ok (.iconst 0, 1) := by decide +kernel
theorem d_X1_init_38 : decode c_X1_init 38 = .ok (.putfield 24, 3) := by decide +kernel
theorem d_X1_init_41 : decode c_X1_init 41 = .ok (.aload_n 0, 1) := by decide +kernel
theorem d_X1_init_42 : decode c_X1_init 42 = .ok (.iconst 0, 1) := by decide +kernel
theorem d_X1_init_43 : decode c_X1_init 43 = .ok (.putfield 28, 3) := by decide +kernel
theorem d_X1_init_46 : decode c_X1_init 46 = .ok (.aload_n 0, 1) := by decide +kernel
theorem d_X1_init_47 : decode c_X1_init 47 = .ok (.iconst 0, 1) := by decide +kernel
theorem d_X1_init_48 : decode c_X1_init 48 = .ok (.putfield 31, 3) := by decide +kernel
theorem d_X1_init_51 : decode c_X1_init 51 = .ok (.return_, 1) := by decide +kernel
theorem d_X2_init_0 : decode c_X2_init 0 = .ok (.aload_n 0, 1) := by decide +kernel
theorem d_X2_init_1 : decode c_X2_init 1 = .ok (.invokespecial 3, 3) := by decide +kernel
theorem d_X2_init_4 : decode c_X2_init 4 = .ok (.aload_n 0, 1) := by decide +kernel
theorem d_X2_init_5 : decode c_X2_init 5 = .ok (.bipush 7, 2) := by decide +kernel
theorem d_X2_init_7 : decode c_X2_init 7 = .ok (.newarray .int, 2) := by decide +kernel
theorem d_X2_init_9 : decode c_X2_init 9 = .ok (.putfield 9, 3) := by decide +kernel
theorem d_X2_init_12 : decode c_X2_init 12 = .ok (.aload_n 0, 1) := by decide +kernel
theorem d_X2_init_13 : decode c_X2_init 13 = .ok (.iconst 3, 1) := by decide +kernel
theorem d_X2_init_14 : decode c_X2_init 14 = .ok (.newarray .int, 2) := by decide +kernel
theorem d_X2_init_16 : decode c_X2_init 16 = .ok (.putfield 15, 3) := by decide +kernel
theorem d_X2_init_19 : decode c_X2_init 19 = .ok (.return_, 1) := by decide +kernel
theorem d_X8_init_0 : decode c_X8_init 0 = .ok (.aload_n 0, 1) := by decide +kernel
theorem d_X8_init_1 : decode c_X8_init 1 = .ok (.invokespecial 3, 3) := by decide +kernel
theorem d_X8_init_4 : decode c_X8_init 4 = .ok (.aload_n 0, 1) := by decide +kernel
theorem d_X8_init_5 : decode c_X8_init 5 = .ok (.bipush 120, 2) := by decide +kernel
theorem d_X8_init_7 : decode c_X8_init 7 = .ok (.newarray .int, 2) := by decide +kernel
theorem d_X8_init_9 : decode c_X8_init 9 = .ok (.putfield 9, 3) := by decide +kernel
theorem d_X8_init_12 : decode c_X8_init 12 = .ok (.aload_n 0, 1) := by decide +kernel
theorem d_X8_init_13 : decode c_X8_init 13 = .ok (.iconst 0, 1) := by decide +kernel
theorem d_X8_init_14 : decode c_X8_init 14 = .ok (.putfield 15, 3) := by decide +kernel
theorem d_X8_init_17 : decode c_X8_init 17 = .ok (.aload_n 0, 1) := by decide +kernel
theorem d_X8_init_18 : decode c_X8_init 18 = .ok (.iconst 0, 1) := by decide +kernel
theorem d_X8_init_19 : decode c_X8_init 19 = .ok (.putfield 19, 3) := by decide +kernel
theorem d_X8_init_22 : decode c_X8_init 22 = .ok (.return_, 1) := by decide +kernel
set_option maxHeartbeats 4000000 in
set_option maxRecDepth 100000 in
theorem ci_ship (l : Launch) (D : va_G) (dA : Nat → ClassId) (sz : Nat) (u : tU) (k : Nat) (ka : 100 ≤ k) (kb : k < 160) (hu : ∀ j, j < 13 → u k j = defaultValue (y_X7 j)) : Met l m_X7_init [.code m_X7_init c_X7_init 1 none] ({ frames := 1, cells := 0, slots := 0, locals := 40 } : Room) (cP D dA sz (ordN k + 1) u [.ref (AD sz k)]) (cQ D dA sz (ordN k + 1) (fun u' => (∀ a, a ≠ k → ordN a < ordN k + 1 → u' a = u a) ∧ FN sz (ordN k) (ordN k + 1) u')) 0 0 (CA sz) := by
  refine cMet (by decide) (Nat.le_of_ble_eq_true rfl) rfl ?_
  intro p e s m below meth c ls X hr hlocks hmn hw hz hO hl
  have X : CX p s m ([.ref (AD sz k)] : List Value).toArray c c_X7_init N_X7 1 D dA := X
  have hx := X.1
  have hb := X.2.1
  have hS : va_S (CA sz) s.heap s.heap [] := va_S.rf
  have hl : lv_has ls 1 [(0, .ref (AD sz k))] := hl
  refine lv_aload_n hx hb d_X7_init_0 rfl (lv_at hl 0 rfl) ?_
  refine c_oi X hl.1 ol_X7 (Nat.le_of_ble_eq_true rfl) (Nat.le_of_ble_eq_true rfl) (Nat.le_of_ble_eq_true rfl) d_X7_init_1 ?_
  have hk1 : ∀ a, a ≠ k → ordN a < ordN k + 1 → u a = u a := by
    intro a ha1 ha2
    rfl
  have hF : FN sz (ordN k) (ordN k + 1) u := by
    intro a kn ha q1 q2 j hj
    have hcase : ordN a = ordN k + 0 := by omega
    have hq := hcase
    · have ea : a = k := ord_inj ha (KD_ship (by omega) (by omega)) (by omega)
      subst ea
      have ek : kn = (7, 0) := Option.some.inj (ha.symm.trans (KD_ship (by omega) (by omega)))
      subst ek
      have hj2 : j = 0 ∨ j = 1 ∨ j = 2 ∨ j = 3 ∨ j = 4 ∨ j = 5 ∨ j = 6 ∨ j = 7 ∨ j = 8 ∨ j = 9 ∨ j = 10 ∨ j = 11 ∨ j = 12 := by have h9 : j < 13 := hj; omega
      rcases hj2 with rfl | rfl | rfl | rfl | rfl | rfl | rfl | rfl | rfl | rfl | rfl | rfl | rfl
      · rw [hu 0 (by decide), tw_u_int (SH_ship (by omega) (by omega))]; first | rfl | (unfold v0; (repeat (first | rw [if_pos (by omega)] | rw [if_neg (by omega)])); first | done | rfl)
      · rw [hu 1 (by decide), tw_u_int (SH_ship (by omega) (by omega))]; first | rfl | (unfold v0; (repeat (first | rw [if_pos (by omega)] | rw [if_neg (by omega)])); first | done | rfl)
      · rw [hu 2 (by decide), tw_u_int (SH_ship (by omega) (by omega))]; first | rfl | (unfold v0; (repeat (first | rw [if_pos (by omega)] | rw [if_neg (by omega)])); first | done | rfl)
      · rw [hu 3 (by decide), tw_u_int (SH_ship (by omega) (by omega))]; first | rfl | (unfold v0; (repeat (first | rw [if_pos (by omega)] | rw [if_neg (by omega)])); first | done | rfl)
      · rw [hu 4 (by decide), tw_u_int (SH_ship (by omega) (by omega))]; first | rfl | (unfold v0; (repeat (first | rw [if_pos (by omega)] | rw [if_neg (by omega)])); first | done | rfl)
      · rw [hu 5 (by decide), tw_u_int (SH_ship (by omega) (by omega))]; first | rfl | (unfold v0; (repeat (first | rw [if_pos (by omega)] | rw [if_neg (by omega)])); first | done | rfl)
      · rw [hu 6 (by decide), tw_u_int (SH_ship (by omega) (by omega))]; first | rfl | (unfold v0; (repeat (first | rw [if_pos (by omega)] | rw [if_neg (by omega)])); first | done | rfl)
      · rw [hu 7 (by decide), tw_u_int (SH_ship (by omega) (by omega))]; first | rfl | (unfold v0; (repeat (first | rw [if_pos (by omega)] | rw [if_neg (by omega)])); first | done | rfl)
      · rw [hu 8 (by decide), tw_u_int (SH_ship (by omega) (by omega))]; first | rfl | (unfold v0; (repeat (first | rw [if_pos (by omega)] | rw [if_neg (by omega)])); first | done | rfl)
      · rw [hu 9 (by decide), tw_u_int (SH_ship (by omega) (by omega))]; first | rfl | (unfold v0; (repeat (first | rw [if_pos (by omega)] | rw [if_neg (by omega)])); first | done | rfl)
      · rw [hu 10 (by decide), tw_u_int (SH_ship (by omega) (by omega))]; first | rfl | (unfold v0; (repeat (first | rw [if_pos (by omega)] | rw [if_neg (by omega)])); first | done | rfl)
      · rw [hu 11 (by decide), tw_u_int (SH_ship (by omega) (by omega))]; first | rfl | (unfold v0; (repeat (first | rw [if_pos (by omega)] | rw [if_neg (by omega)])); first | done | rfl)
      · rw [hu 12 (by decide), tw_u_int (SH_ship (by omega) (by omega))]; first | rfl | (unfold v0; (repeat (first | rw [if_pos (by omega)] | rw [if_neg (by omega)])); first | done | rfl)
  exact c_vret X hr hlocks hw hz hS ⟨hk1, hF⟩ d_X7_init_4
set_option maxHeartbeats 4000000 in
set_option maxRecDepth 100000 in
theorem ci_buyer (l : Launch) (D : va_G) (dA : Nat → ClassId) (sz : Nat) (u : tU) (k : Nat) (ka : 200 ≤ k) (kb : k < 230) (hu : ∀ j, j < 4 → u k j = defaultValue (y_X0 j)) : Met l m_X0_init [.code m_X0_init c_X0_init 1 none] ({ frames := 1, cells := 0, slots := 0, locals := 40 } : Room) (cP D dA sz (ordN k + 1) u [.ref (AD sz k)]) (cQ D dA sz (ordN k + 1) (fun u' => (∀ a, a ≠ k → ordN a < ordN k + 1 → u' a = u a) ∧ FN sz (ordN k) (ordN k + 1) u')) 0 0 (CA sz) := by
  refine cMet (by decide) (Nat.le_of_ble_eq_true rfl) rfl ?_
  intro p e s m below meth c ls X hr hlocks hmn hw hz hO hl
  have X : CX p s m ([.ref (AD sz k)] : List Value).toArray c c_X0_init N_X0 1 D dA := X
  have hx := X.1
  have hb := X.2.1
  have hS : va_S (CA sz) s.heap s.heap [] := va_S.rf
  have hl : lv_has ls 1 [(0, .ref (AD sz k))] := hl
  refine lv_aload_n hx hb d_X0_init_0 rfl (lv_at hl 0 rfl) ?_
  refine c_oi X hl.1 ol_X0 (Nat.le_of_ble_eq_true rfl) (Nat.le_of_ble_eq_true rfl) (Nat.le_of_ble_eq_true rfl) d_X0_init_1 ?_
  have hk1 : ∀ a, a ≠ k → ordN a < ordN k + 1 → u a = u a := by
    intro a ha1 ha2
    rfl
  have hF : FN sz (ordN k) (ordN k + 1) u := by
    intro a kn ha q1 q2 j hj
    have hcase : ordN a = ordN k + 0 := by omega
    have hq := hcase
    · have ea : a = k := ord_inj ha (KD_buyer (by omega) (by omega)) (by omega)
      subst ea
      have ek : kn = (0, 0) := Option.some.inj (ha.symm.trans (KD_buyer (by omega) (by omega)))
      subst ek
      have hj2 : j = 0 ∨ j = 1 ∨ j = 2 ∨ j = 3 := by have h9 : j < 4 := hj; omega
      rcases hj2 with rfl | rfl | rfl | rfl
      · rw [hu 0 (by decide), tw_u_int (SH_buyer (by omega) (by omega))]; first | rfl | (unfold v0; (repeat (first | rw [if_pos (by omega)] | rw [if_neg (by omega)])); first | done | rfl)
      · rw [hu 1 (by decide), tw_u_int (SH_buyer (by omega) (by omega))]; first | rfl | (unfold v0; (repeat (first | rw [if_pos (by omega)] | rw [if_neg (by omega)])); first | done | rfl)
      · rw [hu 2 (by decide), tw_u_int (SH_buyer (by omega) (by omega))]; first | rfl | (unfold v0; (repeat (first | rw [if_pos (by omega)] | rw [if_neg (by omega)])); first | done | rfl)
      · rw [hu 3 (by decide), tw_u_int (SH_buyer (by omega) (by omega))]; first | rfl | (unfold v0; (repeat (first | rw [if_pos (by omega)] | rw [if_neg (by omega)])); first | done | rfl)
  exact c_vret X hr hlocks hw hz hS ⟨hk1, hF⟩ d_X0_init_4
set_option maxHeartbeats 4000000 in
set_option maxRecDepth 100000 in
theorem ci_ward (l : Launch) (D : va_G) (dA : Nat → ClassId) (sz : Nat) (u : tU) (k : Nat) (ka : 300 ≤ k) (kb : k < 318) (hu : ∀ j, j < 5 → u k j = defaultValue (y_X9 j)) : Met l m_X9_init [.code m_X9_init c_X9_init 1 none] ({ frames := 1, cells := 1, slots := 5, locals := 40 } : Room) (cP D dA sz (ordN k + 1) u [.ref (AD sz k)]) (cQ D dA sz (ordN k + 2) (fun u' => (∀ a, a ≠ k → ordN a < ordN k + 1 → u' a = u a) ∧ FN sz (ordN k) (ordN k + 2) u')) 1 5 (CA sz) := by
  refine cMet (by decide) (Nat.le_of_ble_eq_true rfl) rfl ?_
  intro p e s m below meth c ls X hr hlocks hmn hw hz hO hl
  have X : CX p s m ([.ref (AD sz k)] : List Value).toArray c c_X9_init N_X9 1 D dA := X
  have hx := X.1
  have hb := X.2.1
  have hS : va_S (CA sz) s.heap s.heap [] := va_S.rf
  have hl : lv_has ls 1 [(0, .ref (AD sz k))] := hl
  have := ord_ward ka kb
  refine lv_aload_n hx hb d_X9_init_0 rfl (lv_at hl 0 rfl) ?_
  refine c_oi X hl.1 ol_X9 (Nat.le_of_ble_eq_true rfl) (Nat.le_of_ble_eq_true rfl) (Nat.le_of_ble_eq_true rfl) d_X9_init_1 ?_
  refine lv_aload_n hx hb d_X9_init_4 rfl (lv_at hl 0 rfl) ?_
  refine lv_iconst (v := 5) hx hb d_X9_init_5 (by decide) ?_
  refine cw_newa (atype := .int) (k := k + 20) (t := 12) (t0 := 0) (N := 5) X hw hz hS ac_int (by decide) rfl (by decide) (by decide) (by decide) (KD_burns (by omega) (by omega)) (ord_ward ka kb) (Nat.le_of_ble_eq_true rfl) (Nat.le_of_ble_eq_true rfl) d_X9_init_6 (fun H hw hz hS => ?_)
  obtain ⟨u1, eu1⟩ : ∃ z, z = t_row u (k + 20) (fun _ => .int 0) := ⟨_, rfl⟩
  have hw : tw_W CLS D dA (KDn (ordN k + 2)) (AD sz) u1 H := by rw [eu1]; exact hw
  refine cw_putF X hmn hw hz hS FQ_X9_9 (KD_ward (by omega) (by omega)) (by omega) ⟨rfl, rfl⟩ d_X9_init_8 (fun H locs hw hz hS => ?_)
  obtain ⟨u2, eu2⟩ : ∃ z, z = t_up u1 k 0 (.ref (AD sz (k + 20))) := ⟨_, rfl⟩
  rw [← eu2] at hw
  have hk1 : ∀ a, a ≠ k → ordN a < ordN k + 1 → u2 a = u a := by
    intro a ha1 ha2
    rw [eu2, t_up_o ha1, eu1, t_row_o (by intro q; rw [q] at ha2; have := ord_ward ka kb; omega)]
  have hF : FN sz (ordN k) (ordN k + 2) u2 := by
    intro a kn ha q1 q2 j hj
    have hcase : ordN a = ordN k + 0 ∨ ordN a = ordN k + 1 := by omega
    rcases hcase with hq | hq
    · have ea : a = k := ord_inj ha (KD_ward (by omega) (by omega)) (by omega)
      subst ea
      have ek : kn = (9, 0) := Option.some.inj (ha.symm.trans (KD_ward (by omega) (by omega)))
      subst ek
      have hj2 : j = 0 ∨ j = 1 ∨ j = 2 ∨ j = 3 ∨ j = 4 := by have h9 : j < 5 := hj; omega
      rcases hj2 with rfl | rfl | rfl | rfl | rfl
      · rw [eu2, t_up_s, tw_u_ref (SH_ward0 (by omega) (by omega))]
      · rw [eu2, t_up_j _ _ _ (by decide), eu1, t_row_o (by omega), hu 1 (by decide), tw_u_int (SH_ward (by omega) (by omega) (by decide))]; first | rfl | (unfold v0; (repeat (first | rw [if_pos (by omega)] | rw [if_neg (by omega)])); first | done | rfl)
      · rw [eu2, t_up_j _ _ _ (by decide), eu1, t_row_o (by omega), hu 2 (by decide), tw_u_int (SH_ward (by omega) (by omega) (by decide))]; first | rfl | (unfold v0; (repeat (first | rw [if_pos (by omega)] | rw [if_neg (by omega)])); first | done | rfl)
      · rw [eu2, t_up_j _ _ _ (by decide), eu1, t_row_o (by omega), hu 3 (by decide), tw_u_int (SH_ward (by omega) (by omega) (by decide))]; first | rfl | (unfold v0; (repeat (first | rw [if_pos (by omega)] | rw [if_neg (by omega)])); first | done | rfl)
      · rw [eu2, t_up_j _ _ _ (by decide), eu1, t_row_o (by omega), hu 4 (by decide), tw_u_int (SH_ward (by omega) (by omega) (by decide))]; first | rfl | (unfold v0; (repeat (first | rw [if_pos (by omega)] | rw [if_neg (by omega)])); first | done | rfl)
    · have ea : a = k + 20 := ord_inj ha (KD_burns (by omega) (by omega)) (by have := ord_ward ka kb; omega)
      rw [ea] at ha ⊢
      have ek : kn = (12, 5) := Option.some.inj (ha.symm.trans (KD_burns (by omega) (by omega)))
      subst ek
      rw [eu2, t_up_o (by omega), eu1, t_row_s, tw_u_int (SH_burns (by omega) (by omega))]; first | rfl | (unfold v0; (repeat (first | rw [if_pos (by omega)] | rw [if_neg (by omega)])); first | done | rfl)
  exact c_vret X hr hlocks hw hz hS ⟨hk1, hF⟩ d_X9_init_11
set_option maxHeartbeats 4000000 in
set_option maxRecDepth 100000 in
theorem ci_order (l : Launch) (D : va_G) (dA : Nat → ClassId) (sz : Nat) (u : tU) (k : Nat) (ka : 60 ≤ k) (kb : k < 69) (hu : ∀ j, j < 7 → u k j = defaultValue (y_X3 j)) : Met l m_X3_init [.code m_X3_init c_X3_init 1 none] ({ frames := 1, cells := 3, slots := 9, locals := 40 } : Room) (cP D dA sz (ordN k + 1) u [.ref (AD sz k)]) (cQ D dA sz (ordN k + 4) (fun u' => (∀ a, a ≠ k → ordN a < ordN k + 1 → u' a = u a) ∧ FN sz (ordN k) (ordN k + 4) u')) 3 9 (CA sz) := by
  refine cMet (by decide) (Nat.le_of_ble_eq_true rfl) rfl ?_
  intro p e s m below meth c ls X hr hlocks hmn hw hz hO hl
  have X : CX p s m ([.ref (AD sz k)] : List Value).toArray c c_X3_init N_X3 1 D dA := X
  have hx := X.1
  have hb := X.2.1
  have hS : va_S (CA sz) s.heap s.heap [] := va_S.rf
  have hl : lv_has ls 1 [(0, .ref (AD sz k))] := hl
  have := (ord_order ka kb).1
  have := (ord_order ka kb).2.1
  have := (ord_order ka kb).2.2
  refine lv_aload_n hx hb d_X3_init_0 rfl (lv_at hl 0 rfl) ?_
  refine c_oi X hl.1 ol_X3 (Nat.le_of_ble_eq_true rfl) (Nat.le_of_ble_eq_true rfl) (Nat.le_of_ble_eq_true rfl) d_X3_init_1 ?_
  refine lv_aload_n hx hb d_X3_init_4 rfl (lv_at hl 0 rfl) ?_
  refine lv_iconst (v := 3) hx hb d_X3_init_5 (by decide) ?_
  refine cw_newa (atype := .int) (k := k + 10) (t := 12) (t0 := 0) (N := 3) X hw hz hS ac_int (by decide) rfl (by decide) (by decide) (by decide) (KD_opart (by omega)) (ord_order ka kb).1 (Nat.le_of_ble_eq_true rfl) (Nat.le_of_ble_eq_true rfl) d_X3_init_6 (fun H hw hz hS => ?_)
  obtain ⟨u1, eu1⟩ : ∃ z, z = t_row u (k + 10) (fun _ => .int 0) := ⟨_, rfl⟩
  have hw : tw_W CLS D dA (KDn (ordN k + 2)) (AD sz) u1 H := by rw [eu1]; exact hw
  refine cw_putF X hmn hw hz hS FQ_X3_9 (KD_order (by omega) (by omega)) (by omega) ⟨rfl, rfl⟩ d_X3_init_8 (fun H locs hw hz hS => ?_)
  obtain ⟨u2, eu2⟩ : ∃ z, z = t_up u1 k 0 (.ref (AD sz (k + 10))) := ⟨_, rfl⟩
  rw [← eu2] at hw
  refine lv_aload_n hx hb d_X3_init_11 rfl (lv_at hl 0 rfl) ?_
  refine lv_iconst (v := 3) hx hb d_X3_init_12 (by decide) ?_
  refine cw_newa (atype := .int) (k := k + 20) (t := 12) (t0 := 0) (N := 3) X hw hz hS ac_int (by decide) rfl (by decide) (by decide) (by decide) (KD_opart (by omega)) (ord_order ka kb).2.1 (Nat.le_of_ble_eq_true rfl) (Nat.le_of_ble_eq_true rfl) d_X3_init_13 (fun H hw hz hS => ?_)
  obtain ⟨u3, eu3⟩ : ∃ z, z = t_row u2 (k + 20) (fun _ => .int 0) := ⟨_, rfl⟩
  have hw : tw_W CLS D dA (KDn (ordN k + 3)) (AD sz) u3 H := by rw [eu3]; exact hw
  refine cw_putF X hmn hw hz hS FQ_X3_15 (KD_order (by omega) (by omega)) (by omega) ⟨rfl, rfl⟩ d_X3_init_15 (fun H locs hw hz hS => ?_)
  obtain ⟨u4, eu4⟩ : ∃ z, z = t_up u3 k 1 (.ref (AD sz (k + 20))) := ⟨_, rfl⟩
  rw [← eu4] at hw
  refine lv_aload_n hx hb d_X3_init_18 rfl (lv_at hl 0 rfl) ?_
  refine lv_iconst (v := 3) hx hb d_X3_init_19 (by decide) ?_
  refine cw_newa (atype := .boolean) (k := k + 30) (t := 14) (t0 := 2) (N := 3) X hw hz hS ac_bool (by decide) rfl (by decide) (by decide) (by decide) (KD_obelow (by omega) (by omega)) (ord_order ka kb).2.2 (Nat.le_of_ble_eq_true rfl) (Nat.le_of_ble_eq_true rfl) d_X3_init_20 (fun H hw hz hS => ?_)
  obtain ⟨u5, eu5⟩ : ∃ z, z = t_row u4 (k + 30) (fun _ => .int 0) := ⟨_, rfl⟩
  have hw : tw_W CLS D dA (KDn (ordN k + 4)) (AD sz) u5 H := by rw [eu5]; exact hw
  refine cw_putF X hmn hw hz hS FQ_X3_18 (KD_order (by omega) (by omega)) (by omega) ⟨rfl, rfl⟩ d_X3_init_22 (fun H locs hw hz hS => ?_)
  obtain ⟨u6, eu6⟩ : ∃ z, z = t_up u5 k 2 (.ref (AD sz (k + 30))) := ⟨_, rfl⟩
  rw [← eu6] at hw
  refine lv_aload_n hx hb d_X3_init_25 rfl (lv_at hl 0 rfl) ?_
  refine lv_iconst (v := 0) hx hb d_X3_init_26 (by decide) ?_
  refine cw_put X hw hz hS FP_X3_22 (KD_order (by omega) (by omega)) (by omega) ⟨rfl, rfl⟩ d_X3_init_27 (fun H locs hw hz hS => ?_)
  obtain ⟨u7, eu7⟩ : ∃ z, z = t_up u6 k 3 (.int 0) := ⟨_, rfl⟩
  rw [← eu7] at hw
  refine lv_aload_n hx hb d_X3_init_30 rfl (lv_at hl 0 rfl) ?_
  refine lv_bipush (v := 99) hx hb d_X3_init_31 (by decide) ?_
  refine cw_put X hw hz hS FP_X3_26 (KD_order (by omega) (by omega)) (by omega) ⟨rfl, rfl⟩ d_X3_init_33 (fun H locs hw hz hS => ?_)
  obtain ⟨u8, eu8⟩ : ∃ z, z = t_up u7 k 4 (.int 99) := ⟨_, rfl⟩
  rw [← eu8] at hw
  refine lv_aload_n hx hb d_X3_init_36 rfl (lv_at hl 0 rfl) ?_
  refine lv_iconst (v := 0) hx hb d_X3_init_37 (by decide) ?_
  refine cw_put X hw hz hS FP_X3_29 (KD_order (by omega) (by omega)) (by omega) ⟨rfl, rfl⟩ d_X3_init_38 (fun H locs hw hz hS => ?_)
  obtain ⟨u9, eu9⟩ : ∃ z, z = t_up u8 k 5 (.int 0) := ⟨_, rfl⟩
  rw [← eu9] at hw
  refine lv_aload_n hx hb d_X3_init_41 rfl (lv_at hl 0 rfl) ?_
  refine lv_iconst (v := 0) hx hb d_X3_init_42 (by decide) ?_
  refine cw_put X hw hz hS FP_X3_32 (KD_order (by omega) (by omega)) (by omega) ⟨rfl, rfl⟩ d_X3_init_43 (fun H locs hw hz hS => ?_)
  obtain ⟨u10, eu10⟩ : ∃ z, z = t_up u9 k 6 (.int 0) := ⟨_, rfl⟩
  rw [← eu10] at hw
  have hk1 : ∀ a, a ≠ k → ordN a < ordN k + 1 → u10 a = u a := by
    intro a ha1 ha2
    rw [eu10, t_up_o ha1, eu9, t_up_o ha1, eu8, t_up_o ha1, eu7, t_up_o ha1, eu6, t_up_o ha1, eu5, t_row_o (by intro q; rw [q] at ha2; have := (ord_order ka kb).2.2; omega), eu4, t_up_o ha1, eu3, t_row_o (by intro q; rw [q] at ha2; have := (ord_order ka kb).2.1; omega), eu2, t_up_o ha1, eu1, t_row_o (by intro q; rw [q] at ha2; have := (ord_order ka kb).1; omega)]
  have hF : FN sz (ordN k) (ordN k + 4) u10 := by
    intro a kn ha q1 q2 j hj
    have hcase : ordN a = ordN k + 0 ∨ ordN a = ordN k + 1 ∨ ordN a = ordN k + 2 ∨ ordN a = ordN k + 3 := by omega
    rcases hcase with hq | hq | hq | hq
    · have ea : a = k := ord_inj ha (KD_order (by omega) (by omega)) (by omega)
      subst ea
      have ek : kn = (3, 0) := Option.some.inj (ha.symm.trans (KD_order (by omega) (by omega)))
      subst ek
      have hj2 : j = 0 ∨ j = 1 ∨ j = 2 ∨ j = 3 ∨ j = 4 ∨ j = 5 ∨ j = 6 := by have h9 : j < 7 := hj; omega
      rcases hj2 with rfl | rfl | rfl | rfl | rfl | rfl | rfl
      · rw [eu10, t_up_j _ _ _ (by decide), eu9, t_up_j _ _ _ (by decide), eu8, t_up_j _ _ _ (by decide), eu7, t_up_j _ _ _ (by decide), eu6, t_up_j _ _ _ (by decide), eu5, t_row_o (by omega), eu4, t_up_j _ _ _ (by decide), eu3, t_row_o (by omega), eu2, t_up_s, tw_u_ref (SH_order0 (by omega) (by omega))]
      · rw [eu10, t_up_j _ _ _ (by decide), eu9, t_up_j _ _ _ (by decide), eu8, t_up_j _ _ _ (by decide), eu7, t_up_j _ _ _ (by decide), eu6, t_up_j _ _ _ (by decide), eu5, t_row_o (by omega), eu4, t_up_s, tw_u_ref (SH_order1 (by omega) (by omega))]
      · rw [eu10, t_up_j _ _ _ (by decide), eu9, t_up_j _ _ _ (by decide), eu8, t_up_j _ _ _ (by decide), eu7, t_up_j _ _ _ (by decide), eu6, t_up_s, tw_u_ref (SH_order2 (by omega) (by omega))]
      · rw [eu10, t_up_j _ _ _ (by decide), eu9, t_up_j _ _ _ (by decide), eu8, t_up_j _ _ _ (by decide), eu7, t_up_s, tw_u_int (SH_order (by omega) (by omega) (by decide))]; first | rfl | (unfold v0; (repeat (first | rw [if_pos (by omega)] | rw [if_neg (by omega)])); first | done | rfl)
      · rw [eu10, t_up_j _ _ _ (by decide), eu9, t_up_j _ _ _ (by decide), eu8, t_up_s, tw_u_int (SH_order (by omega) (by omega) (by decide))]; first | rfl | (unfold v0; (repeat (first | rw [if_pos (by omega)] | rw [if_neg (by omega)])); first | done | rfl)
      · rw [eu10, t_up_j _ _ _ (by decide), eu9, t_up_s, tw_u_int (SH_order (by omega) (by omega) (by decide))]; first | rfl | (unfold v0; (repeat (first | rw [if_pos (by omega)] | rw [if_neg (by omega)])); first | done | rfl)
      · rw [eu10, t_up_s, tw_u_int (SH_order (by omega) (by omega) (by decide))]; first | rfl | (unfold v0; (repeat (first | rw [if_pos (by omega)] | rw [if_neg (by omega)])); first | done | rfl)
    · have ea : a = k + 10 := ord_inj ha (KD_opart (by omega)) (by have := (ord_order ka kb).1; omega)
      rw [ea] at ha ⊢
      have ek : kn = (12, 3) := Option.some.inj (ha.symm.trans (KD_opart (by omega)))
      subst ek
      rw [eu10, t_up_o (by omega), eu9, t_up_o (by omega), eu8, t_up_o (by omega), eu7, t_up_o (by omega), eu6, t_up_o (by omega), eu5, t_row_o (by omega), eu4, t_up_o (by omega), eu3, t_row_o (by omega), eu2, t_up_o (by omega), eu1, t_row_s, tw_u_int (SH_opart (by omega) (by omega))]; first | rfl | (unfold v0; (repeat (first | rw [if_pos (by omega)] | rw [if_neg (by omega)])); first | done | rfl)
    · have ea : a = k + 20 := ord_inj ha (KD_opart (by omega)) (by have := (ord_order ka kb).2.1; omega)
      rw [ea] at ha ⊢
      have ek : kn = (12, 3) := Option.some.inj (ha.symm.trans (KD_opart (by omega)))
      subst ek
      rw [eu10, t_up_o (by omega), eu9, t_up_o (by omega), eu8, t_up_o (by omega), eu7, t_up_o (by omega), eu6, t_up_o (by omega), eu5, t_row_o (by omega), eu4, t_up_o (by omega), eu3, t_row_s, tw_u_int (SH_opart (by omega) (by omega))]; first | rfl | (unfold v0; (repeat (first | rw [if_pos (by omega)] | rw [if_neg (by omega)])); first | done | rfl)
    · have ea : a = k + 30 := ord_inj ha (KD_obelow (by omega) (by omega)) (by have := (ord_order ka kb).2.2; omega)
      rw [ea] at ha ⊢
      have ek : kn = (14, 3) := Option.some.inj (ha.symm.trans (KD_obelow (by omega) (by omega)))
      subst ek
      rw [eu10, t_up_o (by omega), eu9, t_up_o (by omega), eu8, t_up_o (by omega), eu7, t_up_o (by omega), eu6, t_up_o (by omega), eu5, t_row_s, tw_u_int (SH_opart (by omega) (by omega))]; first | rfl | (unfold v0; (repeat (first | rw [if_pos (by omega)] | rw [if_neg (by omega)])); first | done | rfl)
  exact c_vret X hr hlocks hw hz hS ⟨hk1, hF⟩ d_X3_init_46
set_option maxHeartbeats 4000000 in
set_option maxRecDepth 100000 in
theorem ci_queue_20 (l : Launch) (D : va_G) (dA : Nat → ClassId) (sz : Nat) (u : tU) (hu : ∀ j, j < 3 → u 20 j = defaultValue (y_X5 j)) : Met l m_X5_init [.code m_X5_init c_X5_init 1 none] ({ frames := 1, cells := 2, slots := 40, locals := 40 } : Room) (cP D dA sz (140) u [.ref (AD sz 20)]) (cQ D dA sz (142) (fun u' => (∀ a, a ≠ 20 → ordN a < 140 → u' a = u a) ∧ FN sz (ordN 20) (142) u')) 2 40 (CA sz) := by
  refine cMet (by decide) (Nat.le_of_ble_eq_true rfl) rfl ?_
  intro p e s m below meth c ls X hr hlocks hmn hw hz hO hl
  have X : CX p s m ([.ref (AD sz 20)] : List Value).toArray c c_X5_init N_X5 1 D dA := X
  have hx := X.1
  have hb := X.2.1
  have hS : va_S (CA sz) s.heap s.heap [] := va_S.rf
  have hl : lv_has ls 1 [(0, .ref (AD sz 20))] := hl
  refine lv_aload_n hx hb d_X5_init_0 rfl (lv_at hl 0 rfl) ?_
  refine c_oi X hl.1 ol_X5 (Nat.le_of_ble_eq_true rfl) (Nat.le_of_ble_eq_true rfl) (Nat.le_of_ble_eq_true rfl) d_X5_init_1 ?_
  refine lv_aload_n hx hb d_X5_init_4 rfl (lv_at hl 0 rfl) ?_
  refine lv_bipush (v := 20) hx hb d_X5_init_5 (by decide) ?_
  refine cw_newa (atype := .int) (k := 22) (t := 12) (t0 := 0) (N := 20) X hw hz hS ac_int (by decide) rfl (by decide) (by decide) (by decide) (rfl : KD 22 = _) rfl (Nat.le_of_ble_eq_true rfl) (Nat.le_of_ble_eq_true rfl) d_X5_init_7 (fun H hw hz hS => ?_)
  obtain ⟨u1, eu1⟩ : ∃ z, z = t_row u (22) (fun _ => .int 0) := ⟨_, rfl⟩
  have hw : tw_W CLS D dA (KDn (141)) (AD sz) u1 H := by rw [eu1]; exact hw
  refine cw_putF X hmn hw hz hS FQ_X5_9 (rfl : KD 20 = _) (by have : ordN 20 = 139 := rfl; omega) ⟨rfl, rfl⟩ d_X5_init_9 (fun H locs hw hz hS => ?_)
  obtain ⟨u2, eu2⟩ : ∃ z, z = t_up u1 20 0 (.ref (AD sz (22))) := ⟨_, rfl⟩
  rw [← eu2] at hw
  refine lv_aload_n hx hb d_X5_init_12 rfl (lv_at hl 0 rfl) ?_
  refine lv_bipush (v := 20) hx hb d_X5_init_13 (by decide) ?_
  refine cw_newa (atype := .int) (k := 24) (t := 12) (t0 := 0) (N := 20) X hw hz hS ac_int (by decide) rfl (by decide) (by decide) (by decide) (rfl : KD 24 = _) rfl (Nat.le_of_ble_eq_true rfl) (Nat.le_of_ble_eq_true rfl) d_X5_init_15 (fun H hw hz hS => ?_)
  obtain ⟨u3, eu3⟩ : ∃ z, z = t_row u2 (24) (fun _ => .int 0) := ⟨_, rfl⟩
  have hw : tw_W CLS D dA (KDn (142)) (AD sz) u3 H := by rw [eu3]; exact hw
  refine cw_putF X hmn hw hz hS FQ_X5_15 (rfl : KD 20 = _) (by have : ordN 20 = 139 := rfl; omega) ⟨rfl, rfl⟩ d_X5_init_17 (fun H locs hw hz hS => ?_)
  obtain ⟨u4, eu4⟩ : ∃ z, z = t_up u3 20 1 (.ref (AD sz (24))) := ⟨_, rfl⟩
  rw [← eu4] at hw
  refine lv_aload_n hx hb d_X5_init_20 rfl (lv_at hl 0 rfl) ?_
  refine lv_iconst (v := 0) hx hb d_X5_init_21 (by decide) ?_
  refine cw_put X hw hz hS FP_X5_18 (rfl : KD 20 = _) (by have : ordN 20 = 139 := rfl; omega) ⟨rfl, rfl⟩ d_X5_init_22 (fun H locs hw hz hS => ?_)
  obtain ⟨u5, eu5⟩ : ∃ z, z = t_up u4 20 2 (.int 0) := ⟨_, rfl⟩
  rw [← eu5] at hw
  have hk1 : ∀ a, a ≠ 20 → ordN a < 140 → u5 a = u a := by
    intro a ha1 ha2
    rw [eu5, t_up_o ha1, eu4, t_up_o ha1, eu3, t_row_o (by intro q; rw [q] at ha2; have hh : ordN 24 = 141 := rfl; omega), eu2, t_up_o ha1, eu1, t_row_o (by intro q; rw [q] at ha2; have hh : ordN 22 = 140 := rfl; omega)]
  have hF : FN sz (ordN 20) (142) u5 := by
    intro a kn ha q1 q2 j hj
    have o0 : ordN 20 = 139 := rfl
    have hcase : ordN a = ordN 20 + 0 ∨ ordN a = ordN 20 + 1 ∨ ordN a = ordN 20 + 2 := by omega
    rcases hcase with hq | hq | hq
    · have ea : a = 20 := ord_inj ha (rfl : KD 20 = _) (by omega)
      rw [ea] at ha ⊢
      have ek : kn = (5, 0) := Option.some.inj (ha.symm.trans (rfl : KD 20 = _))
      subst ek
      have hj2 : j = 0 ∨ j = 1 ∨ j = 2 := by have h9 : j < 3 := hj; omega
      rcases hj2 with rfl | rfl | rfl
      · rw [eu5, t_up_j _ _ _ (by decide), eu4, t_up_j _ _ _ (by decide), eu3, t_row_o (by decide), eu2, t_up_s, tw_u_ref rfl]
      · rw [eu5, t_up_j _ _ _ (by decide), eu4, t_up_s, tw_u_ref rfl]
      · rw [eu5, t_up_s, tw_u_int rfl]; first | rfl | (unfold v0; (repeat (first | rw [if_pos (by omega)] | rw [if_neg (by omega)])); first | done | rfl)
    · have ea : a = 22 := ord_inj ha (rfl : KD 22 = _) (by have hh : ordN 22 = 140 := rfl; omega)
      rw [ea] at ha ⊢
      have ek : kn = (12, 20) := Option.some.inj (ha.symm.trans (rfl : KD 22 = _))
      subst ek
      rw [eu5, t_up_o (by decide), eu4, t_up_o (by decide), eu3, t_row_o (by decide), eu2, t_up_o (by decide), eu1, t_row_s, tw_u_int rfl]; first | rfl | (unfold v0; (repeat (first | rw [if_pos (by omega)] | rw [if_neg (by omega)])); first | done | rfl)
    · have ea : a = 24 := ord_inj ha (rfl : KD 24 = _) (by have hh : ordN 24 = 141 := rfl; omega)
      rw [ea] at ha ⊢
      have ek : kn = (12, 20) := Option.some.inj (ha.symm.trans (rfl : KD 24 = _))
      subst ek
      rw [eu5, t_up_o (by decide), eu4, t_up_o (by decide), eu3, t_row_s, tw_u_int rfl]; first | rfl | (unfold v0; (repeat (first | rw [if_pos (by omega)] | rw [if_neg (by omega)])); first | done | rfl)
  exact c_vret X hr hlocks hw hz hS ⟨hk1, hF⟩ d_X5_init_25
set_option maxHeartbeats 4000000 in
set_option maxRecDepth 100000 in
theorem ci_queue_21 (l : Launch) (D : va_G) (dA : Nat → ClassId) (sz : Nat) (u : tU) (hu : ∀ j, j < 3 → u 21 j = defaultValue (y_X5 j)) : Met l m_X5_init [.code m_X5_init c_X5_init 1 none] ({ frames := 1, cells := 2, slots := 40, locals := 40 } : Room) (cP D dA sz (143) u [.ref (AD sz 21)]) (cQ D dA sz (145) (fun u' => (∀ a, a ≠ 21 → ordN a < 143 → u' a = u a) ∧ FN sz (ordN 21) (145) u')) 2 40 (CA sz) := by
  refine cMet (by decide) (Nat.le_of_ble_eq_true rfl) rfl ?_
  intro p e s m below meth c ls X hr hlocks hmn hw hz hO hl
  have X : CX p s m ([.ref (AD sz 21)] : List Value).toArray c c_X5_init N_X5 1 D dA := X
  have hx := X.1
  have hb := X.2.1
  have hS : va_S (CA sz) s.heap s.heap [] := va_S.rf
  have hl : lv_has ls 1 [(0, .ref (AD sz 21))] := hl
  refine lv_aload_n hx hb d_X5_init_0 rfl (lv_at hl 0 rfl) ?_
  refine c_oi X hl.1 ol_X5 (Nat.le_of_ble_eq_true rfl) (Nat.le_of_ble_eq_true rfl) (Nat.le_of_ble_eq_true rfl) d_X5_init_1 ?_
  refine lv_aload_n hx hb d_X5_init_4 rfl (lv_at hl 0 rfl) ?_
  refine lv_bipush (v := 20) hx hb d_X5_init_5 (by decide) ?_
  refine cw_newa (atype := .int) (k := 23) (t := 12) (t0 := 0) (N := 20) X hw hz hS ac_int (by decide) rfl (by decide) (by decide) (by decide) (rfl : KD 23 = _) rfl (Nat.le_of_ble_eq_true rfl) (Nat.le_of_ble_eq_true rfl) d_X5_init_7 (fun H hw hz hS => ?_)
  obtain ⟨u1, eu1⟩ : ∃ z, z = t_row u (23) (fun _ => .int 0) := ⟨_, rfl⟩
  have hw : tw_W CLS D dA (KDn (144)) (AD sz) u1 H := by rw [eu1]; exact hw
  refine cw_putF X hmn hw hz hS FQ_X5_9 (rfl : KD 21 = _) (by have : ordN 21 = 142 := rfl; omega) ⟨rfl, rfl⟩ d_X5_init_9 (fun H locs hw hz hS => ?_)
  obtain ⟨u2, eu2⟩ : ∃ z, z = t_up u1 21 0 (.ref (AD sz (23))) := ⟨_, rfl⟩
  rw [← eu2] at hw
  refine lv_aload_n hx hb d_X5_init_12 rfl (lv_at hl 0 rfl) ?_
  refine lv_bipush (v := 20) hx hb d_X5_init_13 (by decide) ?_
  refine cw_newa (atype := .int) (k := 25) (t := 12) (t0 := 0) (N := 20) X hw hz hS ac_int (by decide) rfl (by decide) (by decide) (by decide) (rfl : KD 25 = _) rfl (Nat.le_of_ble_eq_true rfl) (Nat.le_of_ble_eq_true rfl) d_X5_init_15 (fun H hw hz hS => ?_)
  obtain ⟨u3, eu3⟩ : ∃ z, z = t_row u2 (25) (fun _ => .int 0) := ⟨_, rfl⟩
  have hw : tw_W CLS D dA (KDn (145)) (AD sz) u3 H := by rw [eu3]; exact hw
  refine cw_putF X hmn hw hz hS FQ_X5_15 (rfl : KD 21 = _) (by have : ordN 21 = 142 := rfl; omega) ⟨rfl, rfl⟩ d_X5_init_17 (fun H locs hw hz hS => ?_)
  obtain ⟨u4, eu4⟩ : ∃ z, z = t_up u3 21 1 (.ref (AD sz (25))) := ⟨_, rfl⟩
  rw [← eu4] at hw
  refine lv_aload_n hx hb d_X5_init_20 rfl (lv_at hl 0 rfl) ?_
  refine lv_iconst (v := 0) hx hb d_X5_init_21 (by decide) ?_
  refine cw_put X hw hz hS FP_X5_18 (rfl : KD 21 = _) (by have : ordN 21 = 142 := rfl; omega) ⟨rfl, rfl⟩ d_X5_init_22 (fun H locs hw hz hS => ?_)
  obtain ⟨u5, eu5⟩ : ∃ z, z = t_up u4 21 2 (.int 0) := ⟨_, rfl⟩
  rw [← eu5] at hw
  have hk1 : ∀ a, a ≠ 21 → ordN a < 143 → u5 a = u a := by
    intro a ha1 ha2
    rw [eu5, t_up_o ha1, eu4, t_up_o ha1, eu3, t_row_o (by intro q; rw [q] at ha2; have hh : ordN 25 = 144 := rfl; omega), eu2, t_up_o ha1, eu1, t_row_o (by intro q; rw [q] at ha2; have hh : ordN 23 = 143 := rfl; omega)]
  have hF : FN sz (ordN 21) (145) u5 := by
    intro a kn ha q1 q2 j hj
    have o0 : ordN 21 = 142 := rfl
    have hcase : ordN a = ordN 21 + 0 ∨ ordN a = ordN 21 + 1 ∨ ordN a = ordN 21 + 2 := by omega
    rcases hcase with hq | hq | hq
    · have ea : a = 21 := ord_inj ha (rfl : KD 21 = _) (by omega)
      rw [ea] at ha ⊢
      have ek : kn = (5, 0) := Option.some.inj (ha.symm.trans (rfl : KD 21 = _))
      subst ek
      have hj2 : j = 0 ∨ j = 1 ∨ j = 2 := by have h9 : j < 3 := hj; omega
      rcases hj2 with rfl | rfl | rfl
      · rw [eu5, t_up_j _ _ _ (by decide), eu4, t_up_j _ _ _ (by decide), eu3, t_row_o (by decide), eu2, t_up_s, tw_u_ref rfl]
      · rw [eu5, t_up_j _ _ _ (by decide), eu4, t_up_s, tw_u_ref rfl]
      · rw [eu5, t_up_s, tw_u_int rfl]; first | rfl | (unfold v0; (repeat (first | rw [if_pos (by omega)] | rw [if_neg (by omega)])); first | done | rfl)
    · have ea : a = 23 := ord_inj ha (rfl : KD 23 = _) (by have hh : ordN 23 = 143 := rfl; omega)
      rw [ea] at ha ⊢
      have ek : kn = (12, 20) := Option.some.inj (ha.symm.trans (rfl : KD 23 = _))
      subst ek
      rw [eu5, t_up_o (by decide), eu4, t_up_o (by decide), eu3, t_row_o (by decide), eu2, t_up_o (by decide), eu1, t_row_s, tw_u_int rfl]; first | rfl | (unfold v0; (repeat (first | rw [if_pos (by omega)] | rw [if_neg (by omega)])); first | done | rfl)
    · have ea : a = 25 := ord_inj ha (rfl : KD 25 = _) (by have hh : ordN 25 = 144 := rfl; omega)
      rw [ea] at ha ⊢
      have ek : kn = (12, 20) := Option.some.inj (ha.symm.trans (rfl : KD 25 = _))
      subst ek
      rw [eu5, t_up_o (by decide), eu4, t_up_o (by decide), eu3, t_row_s, tw_u_int rfl]; first | rfl | (unfold v0; (repeat (first | rw [if_pos (by omega)] | rw [if_neg (by omega)])); first | done | rfl)
  exact c_vret X hr hlocks hw hz hS ⟨hk1, hF⟩ d_X5_init_25
set_option maxHeartbeats 4000000 in
set_option maxRecDepth 100000 in
theorem ci_book_30 (l : Launch) (D : va_G) (dA : Nat → ClassId) (sz : Nat) (u : tU) (hu : ∀ j, j < 7 → u 30 j = defaultValue (y_X1 j)) : Met l m_X1_init [.code m_X1_init c_X1_init 1 none] ({ frames := 1, cells := 4, slots := 120, locals := 40 } : Room) (cP D dA sz (146) u [.ref (AD sz 30)]) (cQ D dA sz (150) (fun u' => (∀ a, a ≠ 30 → ordN a < 146 → u' a = u a) ∧ FN sz (ordN 30) (150) u')) 4 120 (CA sz) := by
  refine cMet (by decide) (Nat.le_of_ble_eq_true rfl) rfl ?_
  intro p e s m below meth c ls X hr hlocks hmn hw hz hO hl
  have X : CX p s m ([.ref (AD sz 30)] : List Value).toArray c c_X1_init N_X1 1 D dA := X
  have hx := X.1
  have hb := X.2.1
  have hS : va_S (CA sz) s.heap s.heap [] := va_S.rf
  have hl : lv_has ls 1 [(0, .ref (AD sz 30))] := hl
  refine lv_aload_n hx hb d_X1_init_0 rfl (lv_at hl 0 rfl) ?_
  refine c_oi X hl.1 ol_X1 (Nat.le_of_ble_eq_true rfl) (Nat.le_of_ble_eq_true rfl) (Nat.le_of_ble_eq_true rfl) d_X1_init_1 ?_
  refine lv_aload_n hx hb d_X1_init_4 rfl (lv_at hl 0 rfl) ?_
  refine lv_bipush (v := 30) hx hb d_X1_init_5 (by decide) ?_
  refine cw_newa (atype := .int) (k := 32) (t := 12) (t0 := 0) (N := 30) X hw hz hS ac_int (by decide) rfl (by decide) (by decide) (by decide) (rfl : KD 32 = _) rfl (Nat.le_of_ble_eq_true rfl) (Nat.le_of_ble_eq_true rfl) d_X1_init_7 (fun H hw hz hS => ?_)
  obtain ⟨u1, eu1⟩ : ∃ z, z = t_row u (32) (fun _ => .int 0) := ⟨_, rfl⟩
  have hw : tw_W CLS D dA (KDn (147)) (AD sz) u1 H := by rw [eu1]; exact hw
  refine cw_putF X hmn hw hz hS FQ_X1_11 (rfl : KD 30 = _) (by have : ordN 30 = 145 := rfl; omega) ⟨rfl, rfl⟩ d_X1_init_9 (fun H locs hw hz hS => ?_)
  obtain ⟨u2, eu2⟩ : ∃ z, z = t_up u1 30 0 (.ref (AD sz (32))) := ⟨_, rfl⟩
  rw [← eu2] at hw
  refine lv_aload_n hx hb d_X1_init_12 rfl (lv_at hl 0 rfl) ?_
  refine lv_bipush (v := 30) hx hb d_X1_init_13 (by decide) ?_
  refine cw_newa (atype := .int) (k := 34) (t := 12) (t0 := 0) (N := 30) X hw hz hS ac_int (by decide) rfl (by decide) (by decide) (by decide) (rfl : KD 34 = _) rfl (Nat.le_of_ble_eq_true rfl) (Nat.le_of_ble_eq_true rfl) d_X1_init_15 (fun H hw hz hS => ?_)
  obtain ⟨u3, eu3⟩ : ∃ z, z = t_row u2 (34) (fun _ => .int 0) := ⟨_, rfl⟩
  have hw : tw_W CLS D dA (KDn (148)) (AD sz) u3 H := by rw [eu3]; exact hw
  refine cw_putF X hmn hw hz hS FQ_X1_15 (rfl : KD 30 = _) (by have : ordN 30 = 145 := rfl; omega) ⟨rfl, rfl⟩ d_X1_init_17 (fun H locs hw hz hS => ?_)
  obtain ⟨u4, eu4⟩ : ∃ z, z = t_up u3 30 1 (.ref (AD sz (34))) := ⟨_, rfl⟩
  rw [← eu4] at hw
  refine lv_aload_n hx hb d_X1_init_20 rfl (lv_at hl 0 rfl) ?_
  refine lv_bipush (v := 30) hx hb d_X1_init_21 (by decide) ?_
  refine cw_newa (atype := .int) (k := 36) (t := 12) (t0 := 0) (N := 30) X hw hz hS ac_int (by decide) rfl (by decide) (by decide) (by decide) (rfl : KD 36 = _) rfl (Nat.le_of_ble_eq_true rfl) (Nat.le_of_ble_eq_true rfl) d_X1_init_23 (fun H hw hz hS => ?_)
  obtain ⟨u5, eu5⟩ : ∃ z, z = t_row u4 (36) (fun _ => .int 0) := ⟨_, rfl⟩
  have hw : tw_W CLS D dA (KDn (149)) (AD sz) u5 H := by rw [eu5]; exact hw
  refine cw_putF X hmn hw hz hS FQ_X1_18 (rfl : KD 30 = _) (by have : ordN 30 = 145 := rfl; omega) ⟨rfl, rfl⟩ d_X1_init_25 (fun H locs hw hz hS => ?_)
  obtain ⟨u6, eu6⟩ : ∃ z, z = t_up u5 30 2 (.ref (AD sz (36))) := ⟨_, rfl⟩
  rw [← eu6] at hw
  refine lv_aload_n hx hb d_X1_init_28 rfl (lv_at hl 0 rfl) ?_
  refine lv_bipush (v := 30) hx hb d_X1_init_29 (by decide) ?_
  refine cw_newa (atype := .int) (k := 38) (t := 12) (t0 := 0) (N := 30) X hw hz hS ac_int (by decide) rfl (by decide) (by decide) (by decide) (rfl : KD 38 = _) rfl (Nat.le_of_ble_eq_true rfl) (Nat.le_of_ble_eq_true rfl) d_X1_init_31 (fun H hw hz hS => ?_)
  obtain ⟨u7, eu7⟩ : ∃ z, z = t_row u6 (38) (fun _ => .int 0) := ⟨_, rfl⟩
  have hw : tw_W CLS D dA (KDn (150)) (AD sz) u7 H := by rw [eu7]; exact hw
  refine cw_putF X hmn hw hz hS FQ_X1_21 (rfl : KD 30 = _) (by have : ordN 30 = 145 := rfl; omega) ⟨rfl, rfl⟩ d_X1_init_33 (fun H locs hw hz hS => ?_)
  obtain ⟨u8, eu8⟩ : ∃ z, z = t_up u7 30 3 (.ref (AD sz (38))) := ⟨_, rfl⟩
  rw [← eu8] at hw
  refine lv_aload_n hx hb d_X1_init_36 rfl (lv_at hl 0 rfl) ?_
  refine lv_iconst (v := 0) hx hb d_X1_init_37 (by decide) ?_
  refine cw_put X hw hz hS FP_X1_24 (rfl : KD 30 = _) (by have : ordN 30 = 145 := rfl; omega) ⟨rfl, rfl⟩ d_X1_init_38 (fun H locs hw hz hS => ?_)
  obtain ⟨u9, eu9⟩ : ∃ z, z = t_up u8 30 4 (.int 0) := ⟨_, rfl⟩
  rw [← eu9] at hw
  refine lv_aload_n hx hb d_X1_init_41 rfl (lv_at hl 0 rfl) ?_
  refine lv_iconst (v := 0) hx hb d_X1_init_42 (by decide) ?_
  refine cw_put X hw hz hS FP_X1_28 (rfl : KD 30 = _) (by have : ordN 30 = 145 := rfl; omega) ⟨rfl, rfl⟩ d_X1_init_43 (fun H locs hw hz hS => ?_)
  obtain ⟨u10, eu10⟩ : ∃ z, z = t_up u9 30 5 (.int 0) := ⟨_, rfl⟩
  rw [← eu10] at hw
  refine lv_aload_n hx hb d_X1_init_46 rfl (lv_at hl 0 rfl) ?_
  refine lv_iconst (v := 0) hx hb d_X1_init_47 (by decide) ?_
  refine cw_put X hw hz hS FP_X1_31 (rfl : KD 30 = _) (by have : ordN 30 = 145 := rfl; omega) ⟨rfl, rfl⟩ d_X1_init_48 (fun H locs hw hz hS => ?_)
  obtain ⟨u11, eu11⟩ : ∃ z, z = t_up u10 30 6 (.int 0) := ⟨_, rfl⟩
  rw [← eu11] at hw
  have hk1 : ∀ a, a ≠ 30 → ordN a < 146 → u11 a = u a := by
    intro a ha1 ha2
    rw [eu11, t_up_o ha1, eu10, t_up_o ha1, eu9, t_up_o ha1, eu8, t_up_o ha1, eu7, t_row_o (by intro q; rw [q] at ha2; have hh : ordN 38 = 149 := rfl; omega), eu6, t_up_o ha1, eu5, t_row_o (by intro q; rw [q] at ha2; have hh : ordN 36 = 148 := rfl; omega), eu4, t_up_o ha1, eu3, t_row_o (by intro q; rw [q] at ha2; have hh : ordN 34 = 147 := rfl; omega), eu2, t_up_o ha1, eu1, t_row_o (by intro q; rw [q] at ha2; have hh : ordN 32 = 146 := rfl; omega)]
  have hF : FN sz (ordN 30) (150) u11 := by
    intro a kn ha q1 q2 j hj
    have o0 : ordN 30 = 145 := rfl
    have hcase : ordN a = ordN 30 + 0 ∨ ordN a = ordN 30 + 1 ∨ ordN a = ordN 30 + 2 ∨ ordN a = ordN 30 + 3 ∨ ordN a = ordN 30 + 4 := by omega
    rcases hcase with hq | hq | hq | hq | hq
    · have ea : a = 30 := ord_inj ha (rfl : KD 30 = _) (by omega)
      rw [ea] at ha ⊢
      have ek : kn = (1, 0) := Option.some.inj (ha.symm.trans (rfl : KD 30 = _))
      subst ek
      have hj2 : j = 0 ∨ j = 1 ∨ j = 2 ∨ j = 3 ∨ j = 4 ∨ j = 5 ∨ j = 6 := by have h9 : j < 7 := hj; omega
      rcases hj2 with rfl | rfl | rfl | rfl | rfl | rfl | rfl
      · rw [eu11, t_up_j _ _ _ (by decide), eu10, t_up_j _ _ _ (by decide), eu9, t_up_j _ _ _ (by decide), eu8, t_up_j _ _ _ (by decide), eu7, t_row_o (by decide), eu6, t_up_j _ _ _ (by decide), eu5, t_row_o (by decide), eu4, t_up_j _ _ _ (by decide), eu3, t_row_o (by decide), eu2, t_up_s, tw_u_ref rfl]
      · rw [eu11, t_up_j _ _ _ (by decide), eu10, t_up_j _ _ _ (by decide), eu9, t_up_j _ _ _ (by decide), eu8, t_up_j _ _ _ (by decide), eu7, t_row_o (by decide), eu6, t_up_j _ _ _ (by decide), eu5, t_row_o (by decide), eu4, t_up_s, tw_u_ref rfl]
      · rw [eu11, t_up_j _ _ _ (by decide), eu10, t_up_j _ _ _ (by decide), eu9, t_up_j _ _ _ (by decide), eu8, t_up_j _ _ _ (by decide), eu7, t_row_o (by decide), eu6, t_up_s, tw_u_ref rfl]
      · rw [eu11, t_up_j _ _ _ (by decide), eu10, t_up_j _ _ _ (by decide), eu9, t_up_j _ _ _ (by decide), eu8, t_up_s, tw_u_ref rfl]
      · rw [eu11, t_up_j _ _ _ (by decide), eu10, t_up_j _ _ _ (by decide), eu9, t_up_s, tw_u_int rfl]; first | rfl | (unfold v0; (repeat (first | rw [if_pos (by omega)] | rw [if_neg (by omega)])); first | done | rfl)
      · rw [eu11, t_up_j _ _ _ (by decide), eu10, t_up_s, tw_u_int rfl]; first | rfl | (unfold v0; (repeat (first | rw [if_pos (by omega)] | rw [if_neg (by omega)])); first | done | rfl)
      · rw [eu11, t_up_s, tw_u_int rfl]; first | rfl | (unfold v0; (repeat (first | rw [if_pos (by omega)] | rw [if_neg (by omega)])); first | done | rfl)
    · have ea : a = 32 := ord_inj ha (rfl : KD 32 = _) (by have hh : ordN 32 = 146 := rfl; omega)
      rw [ea] at ha ⊢
      have ek : kn = (12, 30) := Option.some.inj (ha.symm.trans (rfl : KD 32 = _))
      subst ek
      rw [eu11, t_up_o (by decide), eu10, t_up_o (by decide), eu9, t_up_o (by decide), eu8, t_up_o (by decide), eu7, t_row_o (by decide), eu6, t_up_o (by decide), eu5, t_row_o (by decide), eu4, t_up_o (by decide), eu3, t_row_o (by decide), eu2, t_up_o (by decide), eu1, t_row_s, tw_u_int rfl]; first | rfl | (unfold v0; (repeat (first | rw [if_pos (by omega)] | rw [if_neg (by omega)])); first | done | rfl)
    · have ea : a = 34 := ord_inj ha (rfl : KD 34 = _) (by have hh : ordN 34 = 147 := rfl; omega)
      rw [ea] at ha ⊢
      have ek : kn = (12, 30) := Option.some.inj (ha.symm.trans (rfl : KD 34 = _))
      subst ek
      rw [eu11, t_up_o (by decide), eu10, t_up_o (by decide), eu9, t_up_o (by decide), eu8, t_up_o (by decide), eu7, t_row_o (by decide), eu6, t_up_o (by decide), eu5, t_row_o (by decide), eu4, t_up_o (by decide), eu3, t_row_s, tw_u_int rfl]; first | rfl | (unfold v0; (repeat (first | rw [if_pos (by omega)] | rw [if_neg (by omega)])); first | done | rfl)
    · have ea : a = 36 := ord_inj ha (rfl : KD 36 = _) (by have hh : ordN 36 = 148 := rfl; omega)
      rw [ea] at ha ⊢
      have ek : kn = (12, 30) := Option.some.inj (ha.symm.trans (rfl : KD 36 = _))
      subst ek
      rw [eu11, t_up_o (by decide), eu10, t_up_o (by decide), eu9, t_up_o (by decide), eu8, t_up_o (by decide), eu7, t_row_o (by decide), eu6, t_up_o (by decide), eu5, t_row_s, tw_u_int rfl]; first | rfl | (unfold v0; (repeat (first | rw [if_pos (by omega)] | rw [if_neg (by omega)])); first | done | rfl)
    · have ea : a = 38 := ord_inj ha (rfl : KD 38 = _) (by have hh : ordN 38 = 149 := rfl; omega)
      rw [ea] at ha ⊢
      have ek : kn = (12, 30) := Option.some.inj (ha.symm.trans (rfl : KD 38 = _))
      subst ek
      rw [eu11, t_up_o (by decide), eu10, t_up_o (by decide), eu9, t_up_o (by decide), eu8, t_up_o (by decide), eu7, t_row_s, tw_u_int rfl]; first | rfl | (unfold v0; (repeat (first | rw [if_pos (by omega)] | rw [if_neg (by omega)])); first | done | rfl)
  exact c_vret X hr hlocks hw hz hS ⟨hk1, hF⟩ d_X1_init_51
set_option maxHeartbeats 4000000 in
set_option maxRecDepth 100000 in
theorem ci_book_31 (l : Launch) (D : va_G) (dA : Nat → ClassId) (sz : Nat) (u : tU) (hu : ∀ j, j < 7 → u 31 j = defaultValue (y_X1 j)) : Met l m_X1_init [.code m_X1_init c_X1_init 1 none] ({ frames := 1, cells := 4, slots := 120, locals := 40 } : Room) (cP D dA sz (151) u [.ref (AD sz 31)]) (cQ D dA sz (155) (fun u' => (∀ a, a ≠ 31 → ordN a < 151 → u' a = u a) ∧ FN sz (ordN 31) (155) u')) 4 120 (CA sz) := by
  refine cMet (by decide) (Nat.le_of_ble_eq_true rfl) rfl ?_
  intro p e s m below meth c ls X hr hlocks hmn hw hz hO hl
  have X : CX p s m ([.ref (AD sz 31)] : List Value).toArray c c_X1_init N_X1 1 D dA := X
  have hx := X.1
  have hb := X.2.1
  have hS : va_S (CA sz) s.heap s.heap [] := va_S.rf
  have hl : lv_has ls 1 [(0, .ref (AD sz 31))] := hl
  refine lv_aload_n hx hb d_X1_init_0 rfl (lv_at hl 0 rfl) ?_
  refine c_oi X hl.1 ol_X1 (Nat.le_of_ble_eq_true rfl) (Nat.le_of_ble_eq_true rfl) (Nat.le_of_ble_eq_true rfl) d_X1_init_1 ?_
  refine lv_aload_n hx hb d_X1_init_4 rfl (lv_at hl 0 rfl) ?_
  refine lv_bipush (v := 30) hx hb d_X1_init_5 (by decide) ?_
  refine cw_newa (atype := .int) (k := 33) (t := 12) (t0 := 0) (N := 30) X hw hz hS ac_int (by decide) rfl (by decide) (by decide) (by decide) (rfl : KD 33 = _) rfl (Nat.le_of_ble_eq_true rfl) (Nat.le_of_ble_eq_true rfl) d_X1_init_7 (fun H hw hz hS => ?_)
  obtain ⟨u1, eu1⟩ : ∃ z, z = t_row u (33) (fun _ => .int 0) := ⟨_, rfl⟩
  have hw : tw_W CLS D dA (KDn (152)) (AD sz) u1 H := by rw [eu1]; exact hw
  refine cw_putF X hmn hw hz hS FQ_X1_11 (rfl : KD 31 = _) (by have : ordN 31 = 150 := rfl; omega) ⟨rfl, rfl⟩ d_X1_init_9 (fun H locs hw hz hS => ?_)
  obtain ⟨u2, eu2⟩ : ∃ z, z = t_up u1 31 0 (.ref (AD sz (33))) := ⟨_, rfl⟩
  rw [← eu2] at hw
  refine lv_aload_n hx hb d_X1_init_12 rfl (lv_at hl 0 rfl) ?_
  refine lv_bipush (v := 30) hx hb d_X1_init_13 (by decide) ?_
  refine cw_newa (atype := .int) (k := 35) (t := 12) (t0 := 0) (N := 30) X hw hz hS ac_int (by decide) rfl (by decide) (by decide) (by decide) (rfl : KD 35 = _) rfl (Nat.le_of_ble_eq_true rfl) (Nat.le_of_ble_eq_true rfl) d_X1_init_15 (fun H hw hz hS => ?_)
  obtain ⟨u3, eu3⟩ : ∃ z, z = t_row u2 (35) (fun _ => .int 0) := ⟨_, rfl⟩
  have hw : tw_W CLS D dA (KDn (153)) (AD sz) u3 H := by rw [eu3]; exact hw
  refine cw_putF X hmn hw hz hS FQ_X1_15 (rfl : KD 31 = _) (by have : ordN 31 = 150 := rfl; omega) ⟨rfl, rfl⟩ d_X1_init_17 (fun H locs hw hz hS => ?_)
  obtain ⟨u4, eu4⟩ : ∃ z, z = t_up u3 31 1 (.ref (AD sz (35))) := ⟨_, rfl⟩
  rw [← eu4] at hw
  refine lv_aload_n hx hb d_X1_init_20 rfl (lv_at hl 0 rfl) ?_
  refine lv_bipush (v := 30) hx hb d_X1_init_21 (by decide) ?_
  refine cw_newa (atype := .int) (k := 37) (t := 12) (t0 := 0) (N := 30) X hw hz hS ac_int (by decide) rfl (by decide) (by decide) (by decide) (rfl : KD 37 = _) rfl (Nat.le_of_ble_eq_true rfl) (Nat.le_of_ble_eq_true rfl) d_X1_init_23 (fun H hw hz hS => ?_)
  obtain ⟨u5, eu5⟩ : ∃ z, z = t_row u4 (37) (fun _ => .int 0) := ⟨_, rfl⟩
  have hw : tw_W CLS D dA (KDn (154)) (AD sz) u5 H := by rw [eu5]; exact hw
  refine cw_putF X hmn hw hz hS FQ_X1_18 (rfl : KD 31 = _) (by have : ordN 31 = 150 := rfl; omega) ⟨rfl, rfl⟩ d_X1_init_25 (fun H locs hw hz hS => ?_)
  obtain ⟨u6, eu6⟩ : ∃ z, z = t_up u5 31 2 (.ref (AD sz (37))) := ⟨_, rfl⟩
  rw [← eu6] at hw
  refine lv_aload_n hx hb d_X1_init_28 rfl (lv_at hl 0 rfl) ?_
  refine lv_bipush (v := 30) hx hb d_X1_init_29 (by decide) ?_
  refine cw_newa (atype := .int) (k := 39) (t := 12) (t0 := 0) (N := 30) X hw hz hS ac_int (by decide) rfl (by decide) (by decide) (by decide) (rfl : KD 39 = _) rfl (Nat.le_of_ble_eq_true rfl) (Nat.le_of_ble_eq_true rfl) d_X1_init_31 (fun H hw hz hS => ?_)
  obtain ⟨u7, eu7⟩ : ∃ z, z = t_row u6 (39) (fun _ => .int 0) := ⟨_, rfl⟩
  have hw : tw_W CLS D dA (KDn (155)) (AD sz) u7 H := by rw [eu7]; exact hw
  refine cw_putF X hmn hw hz hS FQ_X1_21 (rfl : KD 31 = _) (by have : ordN 31 = 150 := rfl; omega) ⟨rfl, rfl⟩ d_X1_init_33 (fun H locs hw hz hS => ?_)
  obtain ⟨u8, eu8⟩ : ∃ z, z = t_up u7 31 3 (.ref (AD sz (39))) := ⟨_, rfl⟩
  rw [← eu8] at hw
  refine lv_aload_n hx hb d_X1_init_36 rfl (lv_at hl 0 rfl) ?_
  refine lv_iconst (v := 0) hx hb d_X1_init_37 (by decide) ?_
  refine cw_put X hw hz hS FP_X1_24 (rfl : KD 31 = _) (by have : ordN 31 = 150 := rfl; omega) ⟨rfl, rfl⟩ d_X1_init_38 (fun H locs hw hz hS => ?_)
  obtain ⟨u9, eu9⟩ : ∃ z, z = t_up u8 31 4 (.int 0) := ⟨_, rfl⟩
  rw [← eu9] at hw
  refine lv_aload_n hx hb d_X1_init_41 rfl (lv_at hl 0 rfl) ?_
  refine lv_iconst (v := 0) hx hb d_X1_init_42 (by decide) ?_
  refine cw_put X hw hz hS FP_X1_28 (rfl : KD 31 = _) (by have : ordN 31 = 150 := rfl; omega) ⟨rfl, rfl⟩ d_X1_init_43 (fun H locs hw hz hS => ?_)
  obtain ⟨u10, eu10⟩ : ∃ z, z = t_up u9 31 5 (.int 0) := ⟨_, rfl⟩
  rw [← eu10] at hw
  refine lv_aload_n hx hb d_X1_init_46 rfl (lv_at hl 0 rfl) ?_
  refine lv_iconst (v := 0) hx hb d_X1_init_47 (by decide) ?_
  refine cw_put X hw hz hS FP_X1_31 (rfl : KD 31 = _) (by have : ordN 31 = 150 := rfl; omega) ⟨rfl, rfl⟩ d_X1_init_48 (fun H locs hw hz hS => ?_)
  obtain ⟨u11, eu11⟩ : ∃ z, z = t_up u10 31 6 (.int 0) := ⟨_, rfl⟩
  rw [← eu11] at hw
  have hk1 : ∀ a, a ≠ 31 → ordN a < 151 → u11 a = u a := by
    intro a ha1 ha2
    rw [eu11, t_up_o ha1, eu10, t_up_o ha1, eu9, t_up_o ha1, eu8, t_up_o ha1, eu7, t_row_o (by intro q; rw [q] at ha2; have hh : ordN 39 = 154 := rfl; omega), eu6, t_up_o ha1, eu5, t_row_o (by intro q; rw [q] at ha2; have hh : ordN 37 = 153 := rfl; omega), eu4, t_up_o ha1, eu3, t_row_o (by intro q; rw [q] at ha2; have hh : ordN 35 = 152 := rfl; omega), eu2, t_up_o ha1, eu1, t_row_o (by intro q; rw [q] at ha2; have hh : ordN 33 = 151 := rfl; omega)]
  have hF : FN sz (ordN 31) (155) u11 := by
    intro a kn ha q1 q2 j hj
    have o0 : ordN 31 = 150 := rfl
    have hcase : ordN a = ordN 31 + 0 ∨ ordN a = ordN 31 + 1 ∨ ordN a = ordN 31 + 2 ∨ ordN a = ordN 31 + 3 ∨ ordN a = ordN 31 + 4 := by omega
    rcases hcase with hq | hq | hq | hq | hq
    · have ea : a = 31 := ord_inj ha (rfl : KD 31 = _) (by omega)
      rw [ea] at ha ⊢
      have ek : kn = (1, 0) := Option.some.inj (ha.symm.trans (rfl : KD 31 = _))
      subst ek
      have hj2 : j = 0 ∨ j = 1 ∨ j = 2 ∨ j = 3 ∨ j = 4 ∨ j = 5 ∨ j = 6 := by have h9 : j < 7 := hj; omega
      rcases hj2 with rfl | rfl | rfl | rfl | rfl | rfl | rfl
      · rw [eu11, t_up_j _ _ _ (by decide), eu10, t_up_j _ _ _ (by decide), eu9, t_up_j _ _ _ (by decide), eu8, t_up_j _ _ _ (by decide), eu7, t_row_o (by decide), eu6, t_up_j _ _ _ (by decide), eu5, t_row_o (by decide), eu4, t_up_j _ _ _ (by decide), eu3, t_row_o (by decide), eu2, t_up_s, tw_u_ref rfl]
      · rw [eu11, t_up_j _ _ _ (by decide), eu10, t_up_j _ _ _ (by decide), eu9, t_up_j _ _ _ (by decide), eu8, t_up_j _ _ _ (by decide), eu7, t_row_o (by decide), eu6, t_up_j _ _ _ (by decide), eu5, t_row_o (by decide), eu4, t_up_s, tw_u_ref rfl]
      · rw [eu11, t_up_j _ _ _ (by decide), eu10, t_up_j _ _ _ (by decide), eu9, t_up_j _ _ _ (by decide), eu8, t_up_j _ _ _ (by decide), eu7, t_row_o (by decide), eu6, t_up_s, tw_u_ref rfl]
      · rw [eu11, t_up_j _ _ _ (by decide), eu10, t_up_j _ _ _ (by decide), eu9, t_up_j _ _ _ (by decide), eu8, t_up_s, tw_u_ref rfl]
      · rw [eu11, t_up_j _ _ _ (by decide), eu10, t_up_j _ _ _ (by decide), eu9, t_up_s, tw_u_int rfl]; first | rfl | (unfold v0; (repeat (first | rw [if_pos (by omega)] | rw [if_neg (by omega)])); first | done | rfl)
      · rw [eu11, t_up_j _ _ _ (by decide), eu10, t_up_s, tw_u_int rfl]; first | rfl | (unfold v0; (repeat (first | rw [if_pos (by omega)] | rw [if_neg (by omega)])); first | done | rfl)
      · rw [eu11, t_up_s, tw_u_int rfl]; first | rfl | (unfold v0; (repeat (first | rw [if_pos (by omega)] | rw [if_neg (by omega)])); first | done | rfl)
    · have ea : a = 33 := ord_inj ha (rfl : KD 33 = _) (by have hh : ordN 33 = 151 := rfl; omega)
      rw [ea] at ha ⊢
      have ek : kn = (12, 30) := Option.some.inj (ha.symm.trans (rfl : KD 33 = _))
      subst ek
      rw [eu11, t_up_o (by decide), eu10, t_up_o (by decide), eu9, t_up_o (by decide), eu8, t_up_o (by decide), eu7, t_row_o (by decide), eu6, t_up_o (by decide), eu5, t_row_o (by decide), eu4, t_up_o (by decide), eu3, t_row_o (by decide), eu2, t_up_o (by decide), eu1, t_row_s, tw_u_int rfl]; first | rfl | (unfold v0; (repeat (first | rw [if_pos (by omega)] | rw [if_neg (by omega)])); first | done | rfl)
    · have ea : a = 35 := ord_inj ha (rfl : KD 35 = _) (by have hh : ordN 35 = 152 := rfl; omega)
      rw [ea] at ha ⊢
      have ek : kn = (12, 30) := Option.some.inj (ha.symm.trans (rfl : KD 35 = _))
      subst ek
      rw [eu11, t_up_o (by decide), eu10, t_up_o (by decide), eu9, t_up_o (by decide), eu8, t_up_o (by decide), eu7, t_row_o (by decide), eu6, t_up_o (by decide), eu5, t_row_o (by decide), eu4, t_up_o (by decide), eu3, t_row_s, tw_u_int rfl]; first | rfl | (unfold v0; (repeat (first | rw [if_pos (by omega)] | rw [if_neg (by omega)])); first | done | rfl)
    · have ea : a = 37 := ord_inj ha (rfl : KD 37 = _) (by have hh : ordN 37 = 153 := rfl; omega)
      rw [ea] at ha ⊢
      have ek : kn = (12, 30) := Option.some.inj (ha.symm.trans (rfl : KD 37 = _))
      subst ek
      rw [eu11, t_up_o (by decide), eu10, t_up_o (by decide), eu9, t_up_o (by decide), eu8, t_up_o (by decide), eu7, t_row_o (by decide), eu6, t_up_o (by decide), eu5, t_row_s, tw_u_int rfl]; first | rfl | (unfold v0; (repeat (first | rw [if_pos (by omega)] | rw [if_neg (by omega)])); first | done | rfl)
    · have ea : a = 39 := ord_inj ha (rfl : KD 39 = _) (by have hh : ordN 39 = 154 := rfl; omega)
      rw [ea] at ha ⊢
      have ek : kn = (12, 30) := Option.some.inj (ha.symm.trans (rfl : KD 39 = _))
      subst ek
      rw [eu11, t_up_o (by decide), eu10, t_up_o (by decide), eu9, t_up_o (by decide), eu8, t_up_o (by decide), eu7, t_row_s, tw_u_int rfl]; first | rfl | (unfold v0; (repeat (first | rw [if_pos (by omega)] | rw [if_neg (by omega)])); first | done | rfl)
  exact c_vret X hr hlocks hw hz hS ⟨hk1, hF⟩ d_X1_init_51
set_option maxHeartbeats 4000000 in
set_option maxRecDepth 100000 in
theorem ci_lighters (l : Launch) (D : va_G) (dA : Nat → ClassId) (sz : Nat) (u : tU) (hu : ∀ j, j < 2 → u 40 j = defaultValue (y_X2 j)) : Met l m_X2_init [.code m_X2_init c_X2_init 1 none] ({ frames := 1, cells := 2, slots := 10, locals := 40 } : Room) (cP D dA sz (156) u [.ref (AD sz 40)]) (cQ D dA sz (158) (fun u' => (∀ a, a ≠ 40 → ordN a < 156 → u' a = u a) ∧ FN sz (ordN 40) (158) u')) 2 10 (CA sz) := by
  refine cMet (by decide) (Nat.le_of_ble_eq_true rfl) rfl ?_
  intro p e s m below meth c ls X hr hlocks hmn hw hz hO hl
  have X : CX p s m ([.ref (AD sz 40)] : List Value).toArray c c_X2_init N_X2 1 D dA := X
  have hx := X.1
  have hb := X.2.1
  have hS : va_S (CA sz) s.heap s.heap [] := va_S.rf
  have hl : lv_has ls 1 [(0, .ref (AD sz 40))] := hl
  refine lv_aload_n hx hb d_X2_init_0 rfl (lv_at hl 0 rfl) ?_
  refine c_oi X hl.1 ol_X2 (Nat.le_of_ble_eq_true rfl) (Nat.le_of_ble_eq_true rfl) (Nat.le_of_ble_eq_true rfl) d_X2_init_1 ?_
  refine lv_aload_n hx hb d_X2_init_4 rfl (lv_at hl 0 rfl) ?_
  refine lv_bipush (v := 7) hx hb d_X2_init_5 (by decide) ?_
  refine cw_newa (atype := .int) (k := 41) (t := 12) (t0 := 0) (N := 7) X hw hz hS ac_int (by decide) rfl (by decide) (by decide) (by decide) (rfl : KD 41 = _) rfl (Nat.le_of_ble_eq_true rfl) (Nat.le_of_ble_eq_true rfl) d_X2_init_7 (fun H hw hz hS => ?_)
  obtain ⟨u1, eu1⟩ : ∃ z, z = t_row u (41) (fun _ => .int 0) := ⟨_, rfl⟩
  have hw : tw_W CLS D dA (KDn (157)) (AD sz) u1 H := by rw [eu1]; exact hw
  refine cw_putF X hmn hw hz hS FQ_X2_9 (rfl : KD 40 = _) (by have : ordN 40 = 155 := rfl; omega) ⟨rfl, rfl⟩ d_X2_init_9 (fun H locs hw hz hS => ?_)
  obtain ⟨u2, eu2⟩ : ∃ z, z = t_up u1 40 0 (.ref (AD sz (41))) := ⟨_, rfl⟩
  rw [← eu2] at hw
  refine lv_aload_n hx hb d_X2_init_12 rfl (lv_at hl 0 rfl) ?_
  refine lv_iconst (v := 3) hx hb d_X2_init_13 (by decide) ?_
  refine cw_newa (atype := .int) (k := 42) (t := 12) (t0 := 0) (N := 3) X hw hz hS ac_int (by decide) rfl (by decide) (by decide) (by decide) (rfl : KD 42 = _) rfl (Nat.le_of_ble_eq_true rfl) (Nat.le_of_ble_eq_true rfl) d_X2_init_14 (fun H hw hz hS => ?_)
  obtain ⟨u3, eu3⟩ : ∃ z, z = t_row u2 (42) (fun _ => .int 0) := ⟨_, rfl⟩
  have hw : tw_W CLS D dA (KDn (158)) (AD sz) u3 H := by rw [eu3]; exact hw
  refine cw_putF X hmn hw hz hS FQ_X2_15 (rfl : KD 40 = _) (by have : ordN 40 = 155 := rfl; omega) ⟨rfl, rfl⟩ d_X2_init_16 (fun H locs hw hz hS => ?_)
  obtain ⟨u4, eu4⟩ : ∃ z, z = t_up u3 40 1 (.ref (AD sz (42))) := ⟨_, rfl⟩
  rw [← eu4] at hw
  have hk1 : ∀ a, a ≠ 40 → ordN a < 156 → u4 a = u a := by
    intro a ha1 ha2
    rw [eu4, t_up_o ha1, eu3, t_row_o (by intro q; rw [q] at ha2; have hh : ordN 42 = 157 := rfl; omega), eu2, t_up_o ha1, eu1, t_row_o (by intro q; rw [q] at ha2; have hh : ordN 41 = 156 := rfl; omega)]
  have hF : FN sz (ordN 40) (158) u4 := by
    intro a kn ha q1 q2 j hj
    have o0 : ordN 40 = 155 := rfl
    have hcase : ordN a = ordN 40 + 0 ∨ ordN a = ordN 40 + 1 ∨ ordN a = ordN 40 + 2 := by omega
    rcases hcase with hq | hq | hq
    · have ea : a = 40 := ord_inj ha (rfl : KD 40 = _) (by omega)
      rw [ea] at ha ⊢
      have ek : kn = (2, 0) := Option.some.inj (ha.symm.trans (rfl : KD 40 = _))
      subst ek
      have hj2 : j = 0 ∨ j = 1 := by have h9 : j < 2 := hj; omega
      rcases hj2 with rfl | rfl
      · rw [eu4, t_up_j _ _ _ (by decide), eu3, t_row_o (by decide), eu2, t_up_s, tw_u_ref rfl]
      · rw [eu4, t_up_s, tw_u_ref rfl]
    · have ea : a = 41 := ord_inj ha (rfl : KD 41 = _) (by have hh : ordN 41 = 156 := rfl; omega)
      rw [ea] at ha ⊢
      have ek : kn = (12, 7) := Option.some.inj (ha.symm.trans (rfl : KD 41 = _))
      subst ek
      rw [eu4, t_up_o (by decide), eu3, t_row_o (by decide), eu2, t_up_o (by decide), eu1, t_row_s, tw_u_int rfl]; first | rfl | (unfold v0; (repeat (first | rw [if_pos (by omega)] | rw [if_neg (by omega)])); first | done | rfl)
    · have ea : a = 42 := ord_inj ha (rfl : KD 42 = _) (by have hh : ordN 42 = 157 := rfl; omega)
      rw [ea] at ha ⊢
      have ek : kn = (12, 3) := Option.some.inj (ha.symm.trans (rfl : KD 42 = _))
      subst ek
      rw [eu4, t_up_o (by decide), eu3, t_row_s, tw_u_int rfl]; first | rfl | (unfold v0; (repeat (first | rw [if_pos (by omega)] | rw [if_neg (by omega)])); first | done | rfl)
  exact c_vret X hr hlocks hw hz hS ⟨hk1, hF⟩ d_X2_init_19
set_option maxHeartbeats 4000000 in
set_option maxRecDepth 100000 in
theorem ci_tape (l : Launch) (D : va_G) (dA : Nat → ClassId) (sz : Nat) (u : tU) (hu : ∀ j, j < 3 → u 55 j = defaultValue (y_X8 j)) : Met l m_X8_init [.code m_X8_init c_X8_init 1 none] ({ frames := 1, cells := 1, slots := 120, locals := 40 } : Room) (cP D dA sz (197) u [.ref (AD sz 55)]) (cQ D dA sz (198) (fun u' => (∀ a, a ≠ 55 → ordN a < 197 → u' a = u a) ∧ FN sz (ordN 55) (198) u')) 1 120 (CA sz) := by
  refine cMet (by decide) (Nat.le_of_ble_eq_true rfl) rfl ?_
  intro p e s m below meth c ls X hr hlocks hmn hw hz hO hl
  have X : CX p s m ([.ref (AD sz 55)] : List Value).toArray c c_X8_init N_X8 1 D dA := X
  have hx := X.1
  have hb := X.2.1
  have hS : va_S (CA sz) s.heap s.heap [] := va_S.rf
  have hl : lv_has ls 1 [(0, .ref (AD sz 55))] := hl
  refine lv_aload_n hx hb d_X8_init_0 rfl (lv_at hl 0 rfl) ?_
  refine c_oi X hl.1 ol_X8 (Nat.le_of_ble_eq_true rfl) (Nat.le_of_ble_eq_true rfl) (Nat.le_of_ble_eq_true rfl) d_X8_init_1 ?_
  refine lv_aload_n hx hb d_X8_init_4 rfl (lv_at hl 0 rfl) ?_
  refine lv_bipush (v := 120) hx hb d_X8_init_5 (by decide) ?_
  refine cw_newa (atype := .int) (k := 56) (t := 12) (t0 := 0) (N := 120) X hw hz hS ac_int (by decide) rfl (by decide) (by decide) (by decide) (rfl : KD 56 = _) rfl (Nat.le_of_ble_eq_true rfl) (Nat.le_of_ble_eq_true rfl) d_X8_init_7 (fun H hw hz hS => ?_)
  obtain ⟨u1, eu1⟩ : ∃ z, z = t_row u (56) (fun _ => .int 0) := ⟨_, rfl⟩
  have hw : tw_W CLS D dA (KDn (198)) (AD sz) u1 H := by rw [eu1]; exact hw
  refine cw_putF X hmn hw hz hS FQ_X8_9 (rfl : KD 55 = _) (by have : ordN 55 = 196 := rfl; omega) ⟨rfl, rfl⟩ d_X8_init_9 (fun H locs hw hz hS => ?_)
  obtain ⟨u2, eu2⟩ : ∃ z, z = t_up u1 55 0 (.ref (AD sz (56))) := ⟨_, rfl⟩
  rw [← eu2] at hw
  refine lv_aload_n hx hb d_X8_init_12 rfl (lv_at hl 0 rfl) ?_
  refine lv_iconst (v := 0) hx hb d_X8_init_13 (by decide) ?_
  refine cw_put X hw hz hS FP_X8_15 (rfl : KD 55 = _) (by have : ordN 55 = 196 := rfl; omega) ⟨rfl, rfl⟩ d_X8_init_14 (fun H locs hw hz hS => ?_)
  obtain ⟨u3, eu3⟩ : ∃ z, z = t_up u2 55 1 (.int 0) := ⟨_, rfl⟩
  rw [← eu3] at hw
  refine lv_aload_n hx hb d_X8_init_17 rfl (lv_at hl 0 rfl) ?_
  refine lv_iconst (v := 0) hx hb d_X8_init_18 (by decide) ?_
  refine cw_put X hw hz hS FP_X8_19 (rfl : KD 55 = _) (by have : ordN 55 = 196 := rfl; omega) ⟨rfl, rfl⟩ d_X8_init_19 (fun H locs hw hz hS => ?_)
  obtain ⟨u4, eu4⟩ : ∃ z, z = t_up u3 55 2 (.int 0) := ⟨_, rfl⟩
  rw [← eu4] at hw
  have hk1 : ∀ a, a ≠ 55 → ordN a < 197 → u4 a = u a := by
    intro a ha1 ha2
    rw [eu4, t_up_o ha1, eu3, t_up_o ha1, eu2, t_up_o ha1, eu1, t_row_o (by intro q; rw [q] at ha2; have hh : ordN 56 = 197 := rfl; omega)]
  have hF : FN sz (ordN 55) (198) u4 := by
    intro a kn ha q1 q2 j hj
    have o0 : ordN 55 = 196 := rfl
    have hcase : ordN a = ordN 55 + 0 ∨ ordN a = ordN 55 + 1 := by omega
    rcases hcase with hq | hq
    · have ea : a = 55 := ord_inj ha (rfl : KD 55 = _) (by omega)
      rw [ea] at ha ⊢
      have ek : kn = (8, 0) := Option.some.inj (ha.symm.trans (rfl : KD 55 = _))
      subst ek
      have hj2 : j = 0 ∨ j = 1 ∨ j = 2 := by have h9 : j < 3 := hj; omega
      rcases hj2 with rfl | rfl | rfl
      · rw [eu4, t_up_j _ _ _ (by decide), eu3, t_up_j _ _ _ (by decide), eu2, t_up_s, tw_u_ref rfl]
      · rw [eu4, t_up_j _ _ _ (by decide), eu3, t_up_s, tw_u_int rfl]; first | rfl | (unfold v0; (repeat (first | rw [if_pos (by omega)] | rw [if_neg (by omega)])); first | done | rfl)
      · rw [eu4, t_up_s, tw_u_int rfl]; first | rfl | (unfold v0; (repeat (first | rw [if_pos (by omega)] | rw [if_neg (by omega)])); first | done | rfl)
    · have ea : a = 56 := ord_inj ha (rfl : KD 56 = _) (by have hh : ordN 56 = 197 := rfl; omega)
      rw [ea] at ha ⊢
      have ek : kn = (12, 120) := Option.some.inj (ha.symm.trans (rfl : KD 56 = _))
      subst ek
      rw [eu4, t_up_o (by decide), eu3, t_up_o (by decide), eu2, t_up_o (by decide), eu1, t_row_s, tw_u_int rfl]; first | rfl | (unfold v0; (repeat (first | rw [if_pos (by omega)] | rw [if_neg (by omega)])); first | done | rfl)
  exact c_vret X hr hlocks hw hz hS ⟨hk1, hF⟩ d_X8_init_22
