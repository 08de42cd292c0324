abbrev cj_J0_length : ByteArray := prog_15_method_54_code
def mj_J0_length : MethodName := ⟨"java/lang/String", "length", "()I"⟩
theorem dj_J0_length_0 : decode cj_J0_length 0 = .ok (.aload_n 0, 1) := by decide +kernel
theorem dj_J0_length_1 : decode cj_J0_length 1 = .ok (.getfield 9, 3) := by decide +kernel
theorem dj_J0_length_4 : decode cj_J0_length 4 = .ok (.arraylength, 1) := by decide +kernel
theorem dj_J0_length_5 : decode cj_J0_length 5 = .ok (.aload_n 0, 1) := by decide +kernel
theorem dj_J0_length_6 : decode cj_J0_length 6 = .ok (.invokevirtual 335, 3) := by decide +kernel
theorem dj_J0_length_9 : decode cj_J0_length 9 = .ok (.ishr, 1) := by decide +kernel
theorem dj_J0_length_10 : decode cj_J0_length 10 = .ok (.ireturn, 1) := by decide +kernel
abbrev cj_J0_charAt : ByteArray := prog_15_method_56_code
def mj_J0_charAt : MethodName := ⟨"java/lang/String", "charAt", "(I)C"⟩
theorem dj_J0_charAt_0 : decode cj_J0_charAt 0 = .ok (.aload_n 0, 1) := by decide +kernel
theorem dj_J0_charAt_1 : decode cj_J0_charAt 1 = .ok (.invokevirtual 492, 3) := by decide +kernel
theorem dj_J0_charAt_4 : decode cj_J0_charAt 4 = .ok (.ifCond .eq 12, 3) := by decide +kernel
theorem dj_J0_charAt_7 : decode cj_J0_charAt 7 = .ok (.aload_n 0, 1) := by decide +kernel
theorem dj_J0_charAt_8 : decode cj_J0_charAt 8 = .ok (.getfield 9, 3) := by decide +kernel
theorem dj_J0_charAt_11 : decode cj_J0_charAt 11 = .ok (.iload_n 1, 1) := by decide +kernel
theorem dj_J0_charAt_12 : decode cj_J0_charAt 12 = .ok (.invokestatic 495, 3) := by decide +kernel
theorem dj_J0_charAt_15 : decode cj_J0_charAt 15 = .ok (.ireturn, 1) := by decide +kernel
theorem dj_J0_charAt_16 : decode cj_J0_charAt 16 = .ok (.aload_n 0, 1) := by decide +kernel
theorem dj_J0_charAt_17 : decode cj_J0_charAt 17 = .ok (.getfield 9, 3) := by decide +kernel
theorem dj_J0_charAt_20 : decode cj_J0_charAt 20 = .ok (.iload_n 1, 1) := by decide +kernel
theorem dj_J0_charAt_21 : decode cj_J0_charAt 21 = .ok (.invokestatic 498, 3) := by decide +kernel
theorem dj_J0_charAt_24 : decode cj_J0_charAt 24 = .ok (.ireturn, 1) := by decide +kernel
abbrev cj_J0_coder : ByteArray := prog_15_method_152_code
def mj_J0_coder : MethodName := ⟨"java/lang/String", "coder", "()B"⟩
theorem dj_J0_coder_0 : decode cj_J0_coder 0 = .ok (.getstatic 38, 3) := by decide +kernel
theorem dj_J0_coder_3 : decode cj_J0_coder 3 = .ok (.ifCond .eq 10, 3) := by decide +kernel
theorem dj_J0_coder_6 : decode cj_J0_coder 6 = .ok (.aload_n 0, 1) := by decide +kernel
theorem dj_J0_coder_7 : decode cj_J0_coder 7 = .ok (.getfield 15, 3) := by decide +kernel
theorem dj_J0_coder_10 : decode cj_J0_coder 10 = .ok (.goto 4, 3) := by decide +kernel
theorem dj_J0_coder_13 : decode cj_J0_coder 13 = .ok (.iconst 1, 1) := by decide +kernel
theorem dj_J0_coder_14 : decode cj_J0_coder 14 = .ok (.ireturn, 1) := by decide +kernel
abbrev cj_J0_isLatin1 : ByteArray := prog_15_method_154_code
def mj_J0_isLatin1 : MethodName := ⟨"java/lang/String", "isLatin1", "()Z"⟩
theorem dj_J0_isLatin1_0 : decode cj_J0_isLatin1 0 = .ok (.getstatic 38, 3) := by decide +kernel
theorem dj_J0_isLatin1_3 : decode cj_J0_isLatin1 3 = .ok (.ifCond .eq 14, 3) := by decide +kernel
theorem dj_J0_isLatin1_6 : decode cj_J0_isLatin1 6 = .ok (.aload_n 0, 1) := by decide +kernel
theorem dj_J0_isLatin1_7 : decode cj_J0_isLatin1 7 = .ok (.getfield 15, 3) := by decide +kernel
theorem dj_J0_isLatin1_10 : decode cj_J0_isLatin1 10 = .ok (.ifCond .ne 7, 3) := by decide +kernel
theorem dj_J0_isLatin1_13 : decode cj_J0_isLatin1 13 = .ok (.iconst 1, 1) := by decide +kernel
theorem dj_J0_isLatin1_14 : decode cj_J0_isLatin1 14 = .ok (.goto 4, 3) := by decide +kernel
theorem dj_J0_isLatin1_17 : decode cj_J0_isLatin1 17 = .ok (.iconst 0, 1) := by decide +kernel
theorem dj_J0_isLatin1_18 : decode cj_J0_isLatin1 18 = .ok (.ireturn, 1) := by decide +kernel
abbrev cj_J0_checkIndex : ByteArray := prog_15_method_155_code
def mj_J0_checkIndex : MethodName := ⟨"java/lang/String", "checkIndex", "(II)V"⟩
theorem dj_J0_checkIndex_0 : decode cj_J0_checkIndex 0 = .ok (.iload_n 0, 1) := by decide +kernel
theorem dj_J0_checkIndex_1 : decode cj_J0_checkIndex 1 = .ok (.iload_n 1, 1) := by decide +kernel
theorem dj_J0_checkIndex_2 : decode cj_J0_checkIndex 2 = .ok (.getstatic 1053, 3) := by decide +kernel
theorem dj_J0_checkIndex_5 : decode cj_J0_checkIndex 5 = .ok (.invokestatic 1059, 3) := by decide +kernel
theorem dj_J0_checkIndex_8 : decode cj_J0_checkIndex 8 = .ok (.pop, 1) := by decide +kernel
theorem dj_J0_checkIndex_9 : decode cj_J0_checkIndex 9 = .ok (.return_, 1) := by decide +kernel
abbrev cj_J1_charAt : ByteArray := prog_16_method_2_code
def mj_J1_charAt : MethodName := ⟨"java/lang/StringLatin1", "charAt", "([BI)C"⟩
theorem dj_J1_charAt_0 : decode cj_J1_charAt 0 = .ok (.iload_n 1, 1) := by decide +kernel
theorem dj_J1_charAt_1 : decode cj_J1_charAt 1 = .ok (.aload_n 0, 1) := by decide +kernel
theorem dj_J1_charAt_2 : decode cj_J1_charAt 2 = .ok (.arraylength, 1) := by decide +kernel
theorem dj_J1_charAt_3 : decode cj_J1_charAt 3 = .ok (.invokestatic 9, 3) := by decide +kernel
theorem dj_J1_charAt_6 : decode cj_J1_charAt 6 = .ok (.aload_n 0, 1) := by decide +kernel
theorem dj_J1_charAt_7 : decode cj_J1_charAt 7 = .ok (.iload_n 1, 1) := by decide +kernel
theorem dj_J1_charAt_8 : decode cj_J1_charAt 8 = .ok (.baload, 1) := by decide +kernel
theorem dj_J1_charAt_9 : decode cj_J1_charAt 9 = .ok (.sipush 255, 3) := by decide +kernel
theorem dj_J1_charAt_12 : decode cj_J1_charAt 12 = .ok (.iand, 1) := by decide +kernel
theorem dj_J1_charAt_13 : decode cj_J1_charAt 13 = .ok (.i2c, 1) := by decide +kernel
theorem dj_J1_charAt_14 : decode cj_J1_charAt 14 = .ok (.ireturn, 1) := by decide +kernel
abbrev cj_J3_checkIndex : ByteArray := prog_20_method_11_code
def mj_J3_checkIndex : MethodName := ⟨"jdk/internal/util/Preconditions", "checkIndex", "(IILjava/util/function/BiFunction;)I"⟩
theorem dj_J3_checkIndex_0 : decode cj_J3_checkIndex 0 = .ok (.iload_n 0, 1) := by decide +kernel
theorem dj_J3_checkIndex_1 : decode cj_J3_checkIndex 1 = .ok (.ifCond .lt 8, 3) := by decide +kernel
theorem dj_J3_checkIndex_4 : decode cj_J3_checkIndex 4 = .ok (.iload_n 0, 1) := by decide +kernel
theorem dj_J3_checkIndex_5 : decode cj_J3_checkIndex 5 = .ok (.iload_n 1, 1) := by decide +kernel
theorem dj_J3_checkIndex_6 : decode cj_J3_checkIndex 6 = .ok (.if_icmp .lt 10, 3) := by decide +kernel
theorem dj_J3_checkIndex_16 : decode cj_J3_checkIndex 16 = .ok (.iload_n 0, 1) := by decide +kernel
theorem dj_J3_checkIndex_17 : decode cj_J3_checkIndex 17 = .ok (.ireturn, 1) := by decide +kernel
set_option maxRecDepth 1000000 in
theorem gj_J0_coder_335 : GoodIn BIG [.methodLink "java/lang/String" 335 mj_J0_coder, .instanceMethod mj_J0_coder, .selects "java/lang/String" mj_J0_coder mj_J0_coder, .initialized "java/lang/String", .code mj_J0_coder cj_J0_coder 1 (some .byte)] := tb_good5 [497, 498, 499, 49, 500] rfl (by decide +kernel) (by decide +kernel)
set_option maxRecDepth 1000000 in
theorem gj_J0_isLatin1_492 : GoodIn BIG [.methodLink "java/lang/String" 492 mj_J0_isLatin1, .instanceMethod mj_J0_isLatin1, .selects "java/lang/String" mj_J0_isLatin1 mj_J0_isLatin1, .initialized "java/lang/String", .code mj_J0_isLatin1 cj_J0_isLatin1 1 (some .boolean)] := tb_good5 [507, 508, 509, 49, 510] rfl (by decide +kernel) (by decide +kernel)
set_option maxRecDepth 1000000 in
theorem gj_J1_charAt_495 : GoodIn BIG [.methodLink "java/lang/String" 495 mj_J1_charAt, .static mj_J1_charAt, .initialized "java/lang/StringLatin1", .code mj_J1_charAt cj_J1_charAt 2 (some .char)] := tb_good5 [511, 512, 50, 513] rfl (by decide +kernel) (by decide +kernel)
set_option maxRecDepth 1000000 in
theorem gj_J0_checkIndex_9 : GoodIn BIG [.methodLink "java/lang/StringLatin1" 9 mj_J0_checkIndex, .static mj_J0_checkIndex, .initialized "java/lang/String", .code mj_J0_checkIndex cj_J0_checkIndex 2 none] := tb_good5 [514, 515, 49, 516] rfl (by decide +kernel) (by decide +kernel)
set_option maxRecDepth 1000000 in
theorem gj_J3_checkIndex_1059 : GoodIn BIG [.methodLink "java/lang/String" 1059 mj_J3_checkIndex, .static mj_J3_checkIndex, .initialized "jdk/internal/util/Preconditions", .code mj_J3_checkIndex cj_J3_checkIndex 3 (some .int)] := tb_good5 [519, 520, 51, 521] rfl (by decide +kernel) (by decide +kernel)
set_option maxRecDepth 1000000 in
theorem gj_J0_length_80 : GoodIn BIG [.methodLink "CoalTurns$Tape" 80 mj_J0_length, .instanceMethod mj_J0_length, .selects "java/lang/String" mj_J0_length mj_J0_length, .initialized "java/lang/String", .code mj_J0_length cj_J0_length 1 (some .int)] := tb_good5 [493, 494, 495, 49, 496] rfl (by decide +kernel) (by decide +kernel)
set_option maxRecDepth 1000000 in
theorem gj_J0_charAt_86 : GoodIn BIG [.methodLink "CoalTurns$Tape" 86 mj_J0_charAt, .instanceMethod mj_J0_charAt, .selects "java/lang/String" mj_J0_charAt mj_J0_charAt, .initialized "java/lang/String", .code mj_J0_charAt cj_J0_charAt 2 (some .char)] := tb_good5 [503, 504, 505, 49, 506] rfl (by decide +kernel) (by decide +kernel)
theorem fj_compact : Cond.fieldLink "java/lang/String" 38 "java/lang/String" "COMPACT_STRINGS" "Z" ∈ BIG := tb_in 501 (by decide +kernel) rfl
theorem fj_form : Cond.fieldLink "java/lang/String" 1053 "jdk/internal/util/Preconditions" "SIOOBE_FORMATTER" "Ljava/util/function/BiFunction;" ∈ BIG := tb_in 517 (by decide +kernel) rfl
theorem fj_value : Cond.fieldLink "java/lang/String" 9 "java/lang/String" "value" "[B" ∈ BIG := tb_in 1233 (by decide +kernel) rfl
theorem fj_coder : Cond.fieldLink "java/lang/String" 15 "java/lang/String" "coder" "B" ∈ BIG := tb_in 1234 (by decide +kernel) rfl
/-! STRINGS: constants that nobody writes -/
def FF : Nat → Prop := fun _ => False
def SZ (A : Nat → Prop) (U : State) (H : Heap) : Prop := va_Z "java/lang/String" "COMPACT_STRINGS" "Z" (.int 1) A U H ∧ ∃ w : Value, w.category = 1 ∧ va_Z "jdk/internal/util/Preconditions" "SIOOBE_FORMATTER" "Ljava/util/function/BiFunction;" w A U H
def SO (A : Nat → Prop) (q L : Nat) (g : Nat → Int32) (U : State) (H : Heap) : Prop := va_O "java/lang/String" q A U H ∧ va_OF "java/lang/String" "coder" "B" (.int 0) q A U H ∧ ∃ (t : Nat), va_OF "java/lang/String" "value" "[B" (.ref t) q A U H ∧ va_T .byte t L (fun j => .int (g j)) A U H
theorem SZ.moved {A : Nat → Prop} {u U : State} {H : Heap} (hvm : u.vm.Alike U.vm) (h : SZ A u H) : SZ A U H := ⟨va_Z.moved hvm h.1, h.2.choose, h.2.choose_spec.1, va_Z.moved hvm h.2.choose_spec.2⟩
theorem SZ.kept {A : Nat → Prop} {U : State} {H H1 : Heap} (h : SZ A U H) (hq : ∀ a : Nat, a < H.size → ¬ A a → H1[a]? = H[a]?) : SZ A U H1 := ⟨h.1.kept hq, h.2.choose, h.2.choose_spec.1, h.2.choose_spec.2.kept hq⟩
theorem SZ.ff {A : Nat → Prop} {U : State} {H : Heap} (h : SZ A U H) : SZ FF U H := ⟨h.1.narrow (fun _ z => z.elim), h.2.choose, h.2.choose_spec.1, h.2.choose_spec.2.narrow (fun _ z => z.elim)⟩
theorem SO.moved {A : Nat → Prop} {q L : Nat} {g : Nat → Int32} {u U : State} {H : Heap} (hvm : u.vm.Alike U.vm) (h : SO A q L g u H) : SO A q L g U H := by
  obtain ⟨h1, h2, t, h3, h4⟩ := h
  exact ⟨va_O.moved hvm h1, va_OF.moved hvm h2, t, va_OF.moved hvm h3, va_T.moved hvm h4⟩
theorem SO.kept {A : Nat → Prop} {q L : Nat} {g : Nat → Int32} {U : State} {H H1 : Heap} (h : SO A q L g U H) (hq : ∀ a : Nat, a < H.size → ¬ A a → H1[a]? = H[a]?) : SO A q L g U H1 := by
  obtain ⟨h1, h2, t, h3, h4⟩ := h
  exact ⟨h1.kept hq, h2.kept hq, t, h3.kept hq, h4.kept hq⟩
theorem SO.ff {A : Nat → Prop} {q L : Nat} {g : Nat → Int32} {U : State} {H : Heap} (h : SO A q L g U H) : SO FF q L g U H := by
  obtain ⟨h1, h2, t, h3, h4⟩ := h
  exact ⟨h1.narrow (fun _ z => z.elim), h2.narrow (fun _ z => z.elim), t, h3.narrow (fun _ z => z.elim), h4.narrow (fun _ z => z.elim)⟩
def jP (av : List Value) (P : State → Heap → Prop) : Array Value → State → Prop := va_Pc av (fun U => SZ FF U U.heap ∧ P U U.heap ∧ TB U)
def jQi (post : Int32 → Prop) : Array Value → State → Outcome → State → Prop := va_Qi (S := Unit) (fun r _ => post r) (fun _ _ => True) FF
def jQv : Array Value → State → Outcome → State → Prop := va_Qv (S := Unit) (fun _ => True) (fun _ _ => True) FF
/-- what does not look at the frame -/
def JB (P : State → Heap → Prop) : Prop := ∀ (u U : State) (H : Heap), u.vm.Alike U.vm → P u H → P U H
theorem jP.blind {av : List Value} {P : State → Heap → Prop} (hP : JB P) : FrameBlind (jP av P) := by
  intro a U g mk h
  obtain ⟨h1, h2, h3, h4⟩ := h
  exact ⟨h1, SZ.moved (u := U) (U := U.calling g mk a) (Vm.Alike.refl U.vm) h2, hP U (U.calling g mk a) _ (Vm.Alike.refl U.vm) h3, tb_vm (u := U) (U := U.calling g mk a) rfl h4⟩
theorem jMet {l : Launch} {y : MethodName} {cc : ByteArray} {maxL : Nat} {ret : Option FieldType} {rm : Room} {av : List Value} {P : State → Heap → Prop} {Qc : Array Value → State → Outcome → State → Prop} (hy : plainName y.cls = true) (hlen : (lg_sl av).length ≤ maxL)
    (body : ∀ (p : Program) (e : Env) (s : State) (m : MethodId) (below : List Frame) (meth : Method) (c : Code) (ls : Array Slot), p.tables.exec = Jvm.exec → c.code = cc → c.maxLocals = maxL → s.vm.findClass y.cls = some m.cls → (∀ w ∈ BIG, w.before av.toArray s = true) → TB s → SZ FF s s.heap → P s s.heap → meth.sig.returnType = ret → meth.locks = false → lv_has ls maxL (lv_args 0 av) →
      W p l e rm s m av.toArray below meth c s.heap [] 0 0 (MQ below Qc av.toArray s 0 0 FF) (F0 m 0 ls [])) : Met l y [.code y cc maxL ret] rm (jP av P) Qc 0 0 FF := by
  refine Met.ofW (cc := cc) (maxL := maxL) (ret := ret) hy rfl ?_
  intro p e s m args below meth c s₁ B hml hv
  obtain ⟨rfl, hZ, hE, hT⟩ := hv
  have hl := lv_entry av (n := maxL) hlen
  rw [lg_entry_eq]
  exact body p e s m below meth c _ B.exec B.bytes hml (findClass_of_methodNamed B.named) (tb_args hT) hT hZ hE B.returns B.notSynchronized hl
section RJ
variable {p : Program} {l : Launch} {e : Env} {R : Room} {s : State} {m : MethodId} {args : Array Value} {below : List Frame} {meth : Method} {c : Code} {H : Heap} {locs : List Loc} {cells slots : Nat} {Q : State → Prop}
variable {cc : ByteArray} {pc : Nat} {ls : Array Slot} {rest st0 : List Value} {own : String} {nL : Nat} {A : Nat → Prop}
theorem j_runV (hx : p.tables.exec = Jvm.exec) (hb : c.code = cc) (hml : c.maxLocals = nL) (hown : s.vm.findClass own = some m.cls) (hts : ∀ w ∈ BIG, w.before args s = true) (hB : TB s) (hZ : SZ FF s H) {y : MethodName} {bytes : ByteArray} {maxL index n q : Nat} {ret : Option FieldType} {rm : Room} {C : String} {As : List Value} {P : State → Heap → Prop} {Qc : Array Value → State → Outcome → State → Prop}
    (hM : Met l y [.code y bytes maxL ret] rm (jP (.ref q :: As) P) Qc 0 0 FF) (hJ : JB P) (hP : P s H) (hO : va_O C q FF s H) (hG : GoodIn BIG [.methodLink own index y, .instanceMethod y, .selects C y y, .initialized C, .code y bytes maxL ret])
    (hy : y.cls = C ∧ y.cls ≠ "java/lang/invoke/MethodHandle" ∧ y.cls ≠ "java/lang/invoke/VarHandle" ∧ (parseMethodDescriptor y.desc).map (fun d => d.parameters.length) = some n) (hrm : RmOk R rm maxL) (hn : As.length = n) (hsz : ls.size = nL) (hst : st0 = As.reverse ++ .ref q :: rest) (hroom : (rest.map fun v => v.category).sum ≤ 8) (hcap : cells ≤ R.cells ∧ slots ≤ R.slots) (hd : decode cc pc = .ok (.invokevirtual index, 3)) :
    va_Run p l e R s m args below meth c H locs cells slots 0 0 (F0 m pc ls st0) rest (Qc (Value.ref q :: As).toArray) FF := by
  obtain ⟨cell, o1, o2, o3, -⟩ := hO
  exact va_runV (As := As) (rest := rest) ⟨hx, hb, hml, hown, hts⟩ hM (cwV n hts hG rfl hrm.1 hrm.2.1 hy ⟨hrm.2.2.1, hrm.2.2.2⟩) ⟨jP.blind hJ, ⟨cell, o1, o2, o3⟩, fun U hU hW => ⟨rfl, by rw [hU]; exact hZ.moved hW.alike, by rw [hU]; exact hJ s U H hW.alike hP, tb_warm hW hB⟩⟩ rfl hn hsz hst (lv_room hroom) hd hcap
theorem j_runS (hx : p.tables.exec = Jvm.exec) (hb : c.code = cc) (hml : c.maxLocals = nL) (hown : s.vm.findClass own = some m.cls) (hts : ∀ w ∈ BIG, w.before args s = true) (hB : TB s) (hZ : SZ FF s H) {y : MethodName} {bytes : ByteArray} {maxL index n : Nat} {ret : Option FieldType} {rm : Room} {As : List Value} {P : State → Heap → Prop} {Qc : Array Value → State → Outcome → State → Prop}
    (hM : Met l y [.code y bytes maxL ret] rm (jP As P) Qc 0 0 FF) (hJ : JB P) (hP : P s H) (hG : GoodIn BIG [.methodLink own index y, .static y, .initialized y.cls, .code y bytes maxL ret])
    (hy : y.cls ≠ "java/lang/invoke/MethodHandle" ∧ y.cls ≠ "java/lang/invoke/VarHandle" ∧ (parseMethodDescriptor y.desc).map (fun d => d.parameters.length) = some n) (hrm : RmOk R rm maxL) (hn : As.length = n) (hsz : ls.size = nL) (hst : st0 = As.reverse ++ rest) (hroom : (rest.map fun v => v.category).sum ≤ 8) (hcap : cells ≤ R.cells ∧ slots ≤ R.slots) (hd : decode cc pc = .ok (.invokestatic index, 3)) :
    va_Run p l e R s m args below meth c H locs cells slots 0 0 (F0 m pc ls st0) rest (Qc As.toArray) FF :=
  va_runS (As := As) (rest := rest) ⟨hx, hb, hml, hown, hts⟩ hM (va_cwS n hts hG rfl hrm.1 hrm.2.1 hy ⟨hrm.2.2.1, hrm.2.2.2⟩) ⟨jP.blind hJ, fun U hU hW => ⟨rfl, by rw [hU]; exact hZ.moved hW.alike, by rw [hU]; exact hJ s U H hW.alike hP, tb_warm hW hB⟩⟩ rfl hn hsz hst (lv_room hroom) hd hcap
theorem j_ci {a : Array Value} {A0 : Nat → Prop} {H0 : Heap} {post : Int32 → Prop} (hr : va_Run p l e R s m args below meth c H locs cells slots 0 0 (F0 m pc ls st0) rest (jQi post a) FF) (hS : va_S A0 H0 H locs)
    (kk : ∀ (r : Int32) (H1 : Heap) (locs1 : List Loc), post r → (∀ q : Nat, q < H.size → H1[q]? = H[q]?) → va_S A0 H0 H1 locs1 → W p l e R s m args below meth c H1 locs1 cells slots Q (F0 m (pc + 3) ls (.int r :: rest))) : W p l e R s m args below meth c H locs cells slots Q (F0 m pc ls st0) :=
  va_calli hr hS (fun _ _ h => h.elim) (fun _ h => h.elim) (fun r u t H1 locs1 ht _ hp hB hz hk hS1 => kk r H1 locs1 hp (fun q hq => hk q hq id) hS1)
theorem j_cv {a : Array Value} {A0 : Nat → Prop} {H0 : Heap} (hr : va_Run p l e R s m args below meth c H locs cells slots 0 0 (F0 m pc ls st0) rest (jQv a) FF) (hS : va_S A0 H0 H locs)
    (kk : ∀ (H1 : Heap) (locs1 : List Loc), (∀ q : Nat, q < H.size → H1[q]? = H[q]?) → va_S A0 H0 H1 locs1 → W p l e R s m args below meth c H1 locs1 cells slots Q (F0 m (pc + 3) ls rest)) : W p l e R s m args below meth c H locs cells slots Q (F0 m pc ls st0) :=
  va_callv hr hS (fun _ _ h => h.elim) (fun _ h => h.elim) (fun u t H1 locs1 ht _ hp hB hz hk hS1 => kk H1 locs1 (fun q hq => hk q hq id) hS1)
end RJ
theorem JB_so (q L : Nat) (g : Nat → Int32) : JB (SO FF q L g) := fun _ _ _ h x => SO.moved h x
theorem JB_t (t L : Nat) (g : Nat → Int32) : JB (va_T .byte t L (fun j => .int (g j)) FF) := fun _ _ _ h x => va_T.moved h x
theorem JB_tt : JB (fun _ _ => True) := fun _ _ _ _ x => x
set_option maxRecDepth 100000 in
theorem ctj_J0_coder (l : Launch) (q L : Nat) (g : Nat → Int32) : Met l mj_J0_coder [.code mj_J0_coder cj_J0_coder 1 (some .byte)] ({ frames := 1, cells := 0, slots := 0, locals := 40 } : Room) (jP [.ref q] (SO FF q L g)) (jQi (fun r => r = 0)) 0 0 FF := by
  refine jMet (by decide) (Nat.le_of_ble_eq_true rfl) ?_
  intro p e s m below meth c ls hx hb hml hown hts hB hZ hE hr hlocks hl
  have hl : lv_has ls 1 [(0, .ref q)] := hl
  have hS : va_S FF s.heap s.heap [] := va_S.rf
  refine va_gets hx hb hZ.1 hS hown (hts _ fj_compact) (fun _ h => h) dj_J0_coder_0 ?_
  refine lv_if_eq (tgt := 13) hx hb dj_J0_coder_3 (by decide) (fun c1 => absurd c1 (by decide)) (fun c1 => ?_)
  refine lv_aload_n hx hb dj_J0_coder_6 rfl (lv_at hl 0 rfl) ?_
  refine vk_getf hx hb hE.2.1 hS hown (hts _ fj_coder) (fun _ h => h) dj_J0_coder_7 ?_
  refine lv_goto (tgt := 14) hx hb dj_J0_coder_10 (by decide) ?_
  exact W.zret hx hb hr rfl (fun t ht hW => ⟨⟨0, (), rfl, rfl, trivial⟩, hS.F ht⟩) hS.2.2 dj_J0_coder_14 hlocks
set_option maxRecDepth 100000 in
theorem ctj_J0_isLatin1 (l : Launch) (q L : Nat) (g : Nat → Int32) : Met l mj_J0_isLatin1 [.code mj_J0_isLatin1 cj_J0_isLatin1 1 (some .boolean)] ({ frames := 1, cells := 0, slots := 0, locals := 40 } : Room) (jP [.ref q] (SO FF q L g)) (jQi (fun r => r = 1)) 0 0 FF := by
  refine jMet (by decide) (Nat.le_of_ble_eq_true rfl) ?_
  intro p e s m below meth c ls hx hb hml hown hts hB hZ hE hr hlocks hl
  have hl : lv_has ls 1 [(0, .ref q)] := hl
  have hS : va_S FF s.heap s.heap [] := va_S.rf
  refine va_gets hx hb hZ.1 hS hown (hts _ fj_compact) (fun _ h => h) dj_J0_isLatin1_0 ?_
  refine lv_if_eq (tgt := 17) hx hb dj_J0_isLatin1_3 (by decide) (fun c1 => absurd c1 (by decide)) (fun c1 => ?_)
  refine lv_aload_n hx hb dj_J0_isLatin1_6 rfl (lv_at hl 0 rfl) ?_
  refine vk_getf hx hb hE.2.1 hS hown (hts _ fj_coder) (fun _ h => h) dj_J0_isLatin1_7 ?_
  refine lv_if_ne (tgt := 17) hx hb dj_J0_isLatin1_10 (by decide) (fun c2 => absurd rfl c2) (fun c2 => ?_)
  refine lv_iconst (v := 1) hx hb dj_J0_isLatin1_13 (by decide) ?_
  refine lv_goto (tgt := 18) hx hb dj_J0_isLatin1_14 (by decide) ?_
  exact W.zret hx hb hr rfl (fun t ht hW => ⟨⟨1, (), rfl, rfl, trivial⟩, hS.F ht⟩) hS.2.2 dj_J0_isLatin1_18 hlocks
set_option maxRecDepth 100000 in
theorem ctj_J0_length (l : Launch) (q L : Nat) (g : Nat → Int32) : Met l mj_J0_length [.code mj_J0_length cj_J0_length 1 (some .int)] ({ frames := 2, cells := 0, slots := 0, locals := 60 } : Room) (jP [.ref q] (SO FF q L g)) (jQi (fun r => r = Int32.ofNat L)) 0 0 FF := by
  refine jMet (by decide) (Nat.le_of_ble_eq_true rfl) ?_
  intro p e s m below meth c ls hx hb hml hown hts hB hZ hE hr hlocks hl
  have hl : lv_has ls 1 [(0, .ref q)] := hl
  have hS : va_S FF s.heap s.heap [] := va_S.rf
  obtain ⟨h1, h2, t, h3, h4⟩ := id hE
  refine lv_aload_n hx hb dj_J0_length_0 rfl (lv_at hl 0 rfl) ?_
  refine vk_getf hx hb h3 hS hown (hts _ fj_value) (fun _ h => h) dj_J0_length_1 ?_
  refine va_tlen (v := Int32.ofNat L) hx hb h4 hS rfl dj_J0_length_4 ?_
  refine lv_aload_n hx hb dj_J0_length_5 rfl (lv_at hl 0 rfl) ?_
  refine j_ci (j_runV (n := 0) (As := []) (rest := [.int (Int32.ofNat L)]) hx hb hml hown hts hB hZ (ctj_J0_coder l q L g) (JB_so q L g) hE h1 gj_J0_coder_335 (by decide +kernel) ⟨rfl, rfl, Nat.le_of_ble_eq_true rfl, Nat.le_of_ble_eq_true rfl⟩ rfl hl.1 rfl (Nat.le_of_ble_eq_true rfl) ⟨Nat.zero_le _, Nat.zero_le _⟩ dj_J0_length_6) hS (fun r H locs hp hk hS => ?_)
  refine lv_ishr hx hb dj_J0_length_9 ?_
  exact W.iret hx hb hr (fun t ht hW => ⟨⟨_, (), rfl, by rw [hp]; simp, trivial⟩, hS.F ht⟩) hS.2.2 dj_J0_length_10 hlocks
set_option maxRecDepth 100000 in
theorem ctj_J3_checkIndex (l : Launch) (i n : Int32) (w : Value) (hw1 : w.category = 1) (hi : ¬ i < 0) (hn : i < n) : Met l mj_J3_checkIndex [.code mj_J3_checkIndex cj_J3_checkIndex 3 (some .int)] ({ frames := 1, cells := 0, slots := 0, locals := 40 } : Room) (jP [.int i, .int n, w] (fun _ _ => True)) (jQi (fun r => r = i)) 0 0 FF := by
  refine jMet (by decide) (by cases w <;> first | exact Nat.le_of_ble_eq_true rfl | (simp [Value.category] at hw1)) ?_
  intro p e s m below meth c ls hx hb hml hown hts hB hZ hE hr hlocks hl
  have hl : lv_has ls 3 [(0, .int i), (1, .int n), (2, w)] := hl
  have hS : va_S FF s.heap s.heap [] := va_S.rf
  refine lv_iload_n hx hb dj_J3_checkIndex_0 rfl (lv_at hl 0 rfl) ?_
  refine lv_if_lt (tgt := 9) hx hb dj_J3_checkIndex_1 (by decide) (fun c1 => absurd c1 hi) (fun c1 => ?_)
  refine lv_iload_n hx hb dj_J3_checkIndex_4 rfl (lv_at hl 0 rfl) ?_
  refine lv_iload_n hx hb dj_J3_checkIndex_5 rfl (lv_at hl 1 rfl) ?_
  refine lv_icmp_lt (tgt := 16) hx hb dj_J3_checkIndex_6 (by decide) (fun c2 => ?_) (fun c2 => absurd hn c2)
  refine lv_iload_n hx hb dj_J3_checkIndex_16 rfl (lv_at hl 0 rfl) ?_
  exact W.iret hx hb hr (fun t ht hW => ⟨⟨i, (), rfl, rfl, trivial⟩, hS.F ht⟩) hS.2.2 dj_J3_checkIndex_17 hlocks
set_option maxRecDepth 100000 in
theorem ctj_J0_checkIndex (l : Launch) (i n : Int32) (hi : ¬ i < 0) (hn : i < n) : Met l mj_J0_checkIndex [.code mj_J0_checkIndex cj_J0_checkIndex 2 none] ({ frames := 2, cells := 0, slots := 0, locals := 62 } : Room) (jP [.int i, .int n] (fun _ _ => True)) jQv 0 0 FF := by
  refine jMet (by decide) (Nat.le_of_ble_eq_true rfl) ?_
  intro p e s m below meth c ls hx hb hml hown hts hB hZ hE hr hlocks hl
  have hl : lv_has ls 2 [(0, .int i), (1, .int n)] := hl
  have hS : va_S FF s.heap s.heap [] := va_S.rf
  obtain ⟨w, hw1, hw2⟩ := hZ.2
  refine lv_iload_n hx hb dj_J0_checkIndex_0 rfl (lv_at hl 0 rfl) ?_
  refine lv_iload_n hx hb dj_J0_checkIndex_1 rfl (lv_at hl 1 rfl) ?_
  refine va_gets hx hb hw2 hS hown (hts _ fj_form) (fun _ h => h) dj_J0_checkIndex_2 ?_
  refine j_ci (j_runS (n := 3) (As := [.int i, .int n, w]) (rest := []) hx hb hml hown hts hB hZ (ctj_J3_checkIndex l i n w hw1 hi hn) JB_tt trivial gj_J3_checkIndex_1059 (by decide +kernel) ⟨rfl, rfl, Nat.le_of_ble_eq_true rfl, Nat.le_of_ble_eq_true rfl⟩ rfl hl.1 rfl (Nat.le_of_ble_eq_true rfl) ⟨Nat.zero_le _, Nat.zero_le _⟩ dj_J0_checkIndex_5) hS (fun r H locs hp hk hS => ?_)
  refine lv_pop hx hb dj_J0_checkIndex_8 rfl ?_
  exact W.vret hx hb hr (fun t ht hW => ⟨⟨(), rfl, trivial, trivial⟩, hS.F ht⟩) hS.2.2 dj_J0_checkIndex_9 hlocks
set_option maxRecDepth 100000 in
theorem ctj_J1_charAt (l : Launch) (t L : Nat) (g : Nat → Int32) (i : Int32) (hi : vp_in i L) (hL : L < 2 ^ 31) : Met l mj_J1_charAt [.code mj_J1_charAt cj_J1_charAt 2 (some .char)] ({ frames := 3, cells := 0, slots := 0, locals := 85 } : Room) (jP [.ref t, .int i] (va_T .byte t L (fun j => .int (g j)) FF)) (jQi (fun r => narrow .char (.int r) = .int r ∧ r = ((g i.toNatClampNeg &&& 255).toUInt32 % 65536).toInt32)) 0 0 FF := by
  refine jMet (by decide) (Nat.le_of_ble_eq_true rfl) ?_
  intro p e s m below meth c ls hx hb hml hown hts hB hZ hE hr hlocks hl
  have hl : lv_has ls 2 [(0, .ref t), (1, .int i)] := hl
  have hS : va_S FF s.heap s.heap [] := va_S.rf
  have h0 : ¬ i < 0 := fun z => hi (Or.inl z)
  have h1 : i < Int32.ofNat L := by
    obtain ⟨j, hj, rfl⟩ := vp_in_of hi hL
    exact nI_lt hj hL
  refine lv_iload_n hx hb dj_J1_charAt_0 rfl (lv_at hl 1 rfl) ?_
  refine lv_aload_n hx hb dj_J1_charAt_1 rfl (lv_at hl 0 rfl) ?_
  refine va_tlen (v := Int32.ofNat L) hx hb hE hS rfl dj_J1_charAt_2 ?_
  refine j_cv (j_runS (n := 2) (As := [.int i, .int (Int32.ofNat L)]) (rest := []) hx hb hml hown hts hB hZ (ctj_J0_checkIndex l i (Int32.ofNat L) h0 h1) JB_tt trivial gj_J0_checkIndex_9 (by decide +kernel) ⟨rfl, rfl, Nat.le_of_ble_eq_true rfl, Nat.le_of_ble_eq_true rfl⟩ rfl hl.1 rfl (Nat.le_of_ble_eq_true rfl) ⟨Nat.zero_le _, Nat.zero_le _⟩ dj_J1_charAt_3) hS (fun H locs hk hS => ?_)
  refine lv_aload_n hx hb dj_J1_charAt_6 rfl (lv_at hl 0 rfl) ?_
  refine lv_iload_n hx hb dj_J1_charAt_7 rfl (lv_at hl 1 rfl) ?_
  refine va_tb hx hb hE hS hi rfl dj_J1_charAt_8 ?_
  refine lv_sipush (v := 255) hx hb dj_J1_charAt_9 (by decide) ?_
  refine lv_iand hx hb dj_J1_charAt_12 ?_
  refine lv_i2c hx hb dj_J1_charAt_13 rfl ?_
  exact W.zret hx hb hr (pk_nc _) (fun t ht hW => ⟨⟨_, (), rfl, ⟨pk_nc _, rfl⟩, trivial⟩, hS.F ht⟩) hS.2.2 dj_J1_charAt_14 hlocks
set_option maxRecDepth 100000 in
theorem ctj_J0_charAt (l : Launch) (q L : Nat) (g : Nat → Int32) (i : Int32) (hi : vp_in i L) (hL : L < 2 ^ 31) : Met l mj_J0_charAt [.code mj_J0_charAt cj_J0_charAt 2 (some .char)] ({ frames := 4, cells := 0, slots := 0, locals := 110 } : Room) (jP [.ref q, .int i] (SO FF q L g)) (jQi (fun r => narrow .char (.int r) = .int r ∧ r = ((g i.toNatClampNeg &&& 255).toUInt32 % 65536).toInt32)) 0 0 FF := by
  refine jMet (by decide) (Nat.le_of_ble_eq_true rfl) ?_
  intro p e s m below meth c ls hx hb hml hown hts hB hZ hE hr hlocks hl
  have hl : lv_has ls 2 [(0, .ref q), (1, .int i)] := hl
  have hS : va_S FF s.heap s.heap [] := va_S.rf
  obtain ⟨h1, h2, t, h3, h4⟩ := id hE
  refine lv_aload_n hx hb dj_J0_charAt_0 rfl (lv_at hl 0 rfl) ?_
  refine j_ci (j_runV (n := 0) (As := []) (rest := []) hx hb hml hown hts hB hZ (ctj_J0_isLatin1 l q L g) (JB_so q L g) hE h1 gj_J0_isLatin1_492 (by decide +kernel) ⟨rfl, rfl, Nat.le_of_ble_eq_true rfl, Nat.le_of_ble_eq_true rfl⟩ rfl hl.1 rfl (Nat.le_of_ble_eq_true rfl) ⟨Nat.zero_le _, Nat.zero_le _⟩ dj_J0_charAt_1) hS (fun r H locs hp hk hS => ?_)
  refine lv_if_eq (tgt := 16) hx hb dj_J0_charAt_4 (by decide) (fun c1 => absurd c1 (by rw [hp]; decide)) (fun c1 => ?_)
  refine lv_aload_n hx hb dj_J0_charAt_7 rfl (lv_at hl 0 rfl) ?_
  refine vk_getf hx hb h3 hS hown (hts _ fj_value) (fun _ h => h) dj_J0_charAt_8 ?_
  refine lv_iload_n hx hb dj_J0_charAt_11 rfl (lv_at hl 1 rfl) ?_
  refine j_ci (j_runS (n := 2) (As := [.ref t, .int i]) (rest := []) hx hb hml hown hts hB (hZ.kept hS.2.1) (ctj_J1_charAt l t L g i hi hL) (JB_t t L g) (h4.kept hS.2.1) gj_J1_charAt_495 (by decide +kernel) ⟨rfl, rfl, Nat.le_of_ble_eq_true rfl, Nat.le_of_ble_eq_true rfl⟩ rfl hl.1 rfl (Nat.le_of_ble_eq_true rfl) ⟨Nat.zero_le _, Nat.zero_le _⟩ dj_J0_charAt_12) hS (fun r2 H locs hp2 hk hS => ?_)
  exact W.zret hx hb hr hp2.1 (fun t ht hW => ⟨⟨_, (), rfl, hp2, trivial⟩, hS.F ht⟩) hS.2.2 dj_J0_charAt_15 hlocks
