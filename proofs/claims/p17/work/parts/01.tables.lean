-- ===== PART A: goes FIRST, ahead of the names: the tables' words, and 'selects' of the private methods out of them =====
/-- a private method of a class that the tables say can be made, by its rows of tables_1 -/
def lw_okq (q : MethodName × Nat) : Prop := (q.1.cls ≠ "java/lang/invoke/MethodHandle" ∧ q.1.cls ≠ "java/lang/invoke/VarHandle") ∧ Cond.instantiable q.1.cls q.2 ∈ tables_1 ∧ Cond.privateMethod q.1 ∈ tables_1 ∧ Cond.instanceMethod q.1 ∈ tables_1
theorem lw_p0 : lw_okq (⟨"CoalTurns$Tape", "word", "(Ljava/lang/String;)Z"⟩, 3) := ⟨⟨by decide +kernel, by decide +kernel⟩, List.mem_of_getElem? (i := 305) (by decide +kernel), List.mem_of_getElem? (i := 454) (by decide +kernel), List.mem_of_getElem? (i := 455) (by decide +kernel)⟩
theorem lw_p1 : lw_okq (⟨"CoalTurns$Tape", "key", "(LCoalTurns$Order;)Z"⟩, 3) := ⟨⟨by decide +kernel, by decide +kernel⟩, List.mem_of_getElem? (i := 305) (by decide +kernel), List.mem_of_getElem? (i := 506) (by decide +kernel), List.mem_of_getElem? (i := 507) (by decide +kernel)⟩
theorem lw_p2 : lw_okq (⟨"CoalTurns$Tape", "parts", "(LCoalTurns$Order;)Z"⟩, 3) := ⟨⟨by decide +kernel, by decide +kernel⟩, List.mem_of_getElem? (i := 305) (by decide +kernel), List.mem_of_getElem? (i := 518) (by decide +kernel), List.mem_of_getElem? (i := 519) (by decide +kernel)⟩
theorem lw_p3 : lw_okq (⟨"CoalTurns$Tape", "number", "(I)I"⟩, 3) := ⟨⟨by decide +kernel, by decide +kernel⟩, List.mem_of_getElem? (i := 305) (by decide +kernel), List.mem_of_getElem? (i := 522) (by decide +kernel), List.mem_of_getElem? (i := 523) (by decide +kernel)⟩
theorem lw_p4 : lw_okq (⟨"CoalTurns$Tape", "part", "(LCoalTurns$Order;I)Z"⟩, 3) := ⟨⟨by decide +kernel, by decide +kernel⟩, List.mem_of_getElem? (i := 305) (by decide +kernel), List.mem_of_getElem? (i := 530) (by decide +kernel), List.mem_of_getElem? (i := 531) (by decide +kernel)⟩
theorem lw_p5 : lw_okq (⟨"CoalTurns$Queue", "insert", "(II)V"⟩, 3) := ⟨⟨by decide +kernel, by decide +kernel⟩, List.mem_of_getElem? (i := 184) (by decide +kernel), List.mem_of_getElem? (i := 589) (by decide +kernel), List.mem_of_getElem? (i := 590) (by decide +kernel)⟩
theorem lw_p6 : lw_okq (⟨"CoalTurns$River", "sell", "(ILCoalTurns$DayBook;)Z"⟩, 7) := ⟨⟨by decide +kernel, by decide +kernel⟩, List.mem_of_getElem? (i := 29) (by decide +kernel), List.mem_of_getElem? (i := 642) (by decide +kernel), List.mem_of_getElem? (i := 643) (by decide +kernel)⟩
theorem lw_p7 : lw_okq (⟨"CoalTurns$River", "bestBuyer", "(LCoalTurns$Ship;)I"⟩, 7) := ⟨⟨by decide +kernel, by decide +kernel⟩, List.mem_of_getElem? (i := 29) (by decide +kernel), List.mem_of_getElem? (i := 646) (by decide +kernel), List.mem_of_getElem? (i := 647) (by decide +kernel)⟩
theorem lw_p8 : lw_okq (⟨"CoalTurns$River", "strike", "(IILCoalTurns$DayBook;)V"⟩, 7) := ⟨⟨by decide +kernel, by decide +kernel⟩, List.mem_of_getElem? (i := 29) (by decide +kernel), List.mem_of_getElem? (i := 654) (by decide +kernel), List.mem_of_getElem? (i := 655) (by decide +kernel)⟩
theorem lw_p9 : lw_okq (⟨"CoalTurns$Lighters", "gather", "(LCoalTurns$DayBook;)I"⟩, 2) := ⟨⟨by decide +kernel, by decide +kernel⟩, List.mem_of_getElem? (i := 239) (by decide +kernel), List.mem_of_getElem? (i := 709) (by decide +kernel), List.mem_of_getElem? (i := 710) (by decide +kernel)⟩
theorem lw_p10 : lw_okq (⟨"CoalTurns", "tryDay", "(LCoalTurns$Order;II)I"⟩, 13) := ⟨⟨by decide +kernel, by decide +kernel⟩, List.mem_of_getElem? (i := 21) (by decide +kernel), List.mem_of_getElem? (i := 757) (by decide +kernel), List.mem_of_getElem? (i := 758) (by decide +kernel)⟩
theorem lw_p11 : lw_okq (⟨"CoalTurnsModel", "isShip", "(I)Z"⟩, 67) := ⟨⟨by decide +kernel, by decide +kernel⟩, List.mem_of_getElem? (i := 781) (by decide +kernel), List.mem_of_getElem? (i := 999) (by decide +kernel), List.mem_of_getElem? (i := 1000) (by decide +kernel)⟩
theorem lw_p12 : lw_okq (⟨"CoalTurnsModel", "rate", "(I)I"⟩, 67) := ⟨⟨by decide +kernel, by decide +kernel⟩, List.mem_of_getElem? (i := 781) (by decide +kernel), List.mem_of_getElem? (i := 1007) (by decide +kernel), List.mem_of_getElem? (i := 1008) (by decide +kernel)⟩
theorem lw_p13 : lw_okq (⟨"CoalTurnsModel", "isBuyer", "(I)Z"⟩, 67) := ⟨⟨by decide +kernel, by decide +kernel⟩, List.mem_of_getElem? (i := 781) (by decide +kernel), List.mem_of_getElem? (i := 1026) (by decide +kernel), List.mem_of_getElem? (i := 1027) (by decide +kernel)⟩
theorem lw_p14 : lw_okq (⟨"CoalTurnsModel", "reads", "(I)Z"⟩, 67) := ⟨⟨by decide +kernel, by decide +kernel⟩, List.mem_of_getElem? (i := 781) (by decide +kernel), List.mem_of_getElem? (i := 1046) (by decide +kernel), List.mem_of_getElem? (i := 1047) (by decide +kernel)⟩
theorem lw_p15 : lw_okq (⟨"CoalTurnsModel", "takes", "(I)Z"⟩, 67) := ⟨⟨by decide +kernel, by decide +kernel⟩, List.mem_of_getElem? (i := 781) (by decide +kernel), List.mem_of_getElem? (i := 1050) (by decide +kernel), List.mem_of_getElem? (i := 1051) (by decide +kernel)⟩
def lw_privs_1 : List (MethodName × Nat) := [(⟨"CoalTurns$Tape", "word", "(Ljava/lang/String;)Z"⟩, 3), (⟨"CoalTurns$Tape", "key", "(LCoalTurns$Order;)Z"⟩, 3), (⟨"CoalTurns$Tape", "parts", "(LCoalTurns$Order;)Z"⟩, 3), (⟨"CoalTurns$Tape", "number", "(I)I"⟩, 3), (⟨"CoalTurns$Tape", "part", "(LCoalTurns$Order;I)Z"⟩, 3), (⟨"CoalTurns$Queue", "insert", "(II)V"⟩, 3), (⟨"CoalTurns$River", "sell", "(ILCoalTurns$DayBook;)Z"⟩, 7), (⟨"CoalTurns$River", "bestBuyer", "(LCoalTurns$Ship;)I"⟩, 7), (⟨"CoalTurns$River", "strike", "(IILCoalTurns$DayBook;)V"⟩, 7), (⟨"CoalTurns$Lighters", "gather", "(LCoalTurns$DayBook;)I"⟩, 2), (⟨"CoalTurns", "tryDay", "(LCoalTurns$Order;II)I"⟩, 13), (⟨"CoalTurnsModel", "isShip", "(I)Z"⟩, 67), (⟨"CoalTurnsModel", "rate", "(I)I"⟩, 67), (⟨"CoalTurnsModel", "isBuyer", "(I)Z"⟩, 67), (⟨"CoalTurnsModel", "reads", "(I)Z"⟩, 67), (⟨"CoalTurnsModel", "takes", "(I)Z"⟩, 67)]
theorem lw_r1 : ∀ q ∈ lw_privs_1, lw_okq q := List.forall_mem_cons.mpr ⟨lw_p0, List.forall_mem_cons.mpr ⟨lw_p1, List.forall_mem_cons.mpr ⟨lw_p2, List.forall_mem_cons.mpr ⟨lw_p3, List.forall_mem_cons.mpr ⟨lw_p4, List.forall_mem_cons.mpr ⟨lw_p5, List.forall_mem_cons.mpr ⟨lw_p6, List.forall_mem_cons.mpr ⟨lw_p7, List.forall_mem_cons.mpr ⟨lw_p8, List.forall_mem_cons.mpr ⟨lw_p9, List.forall_mem_cons.mpr ⟨lw_p10, List.forall_mem_cons.mpr ⟨lw_p11, List.forall_mem_cons.mpr ⟨lw_p12, List.forall_mem_cons.mpr ⟨lw_p13, List.forall_mem_cons.mpr ⟨lw_p14, List.forall_mem_cons.mpr ⟨lw_p15, fun _ h => absurd h List.not_mem_nil⟩⟩⟩⟩⟩⟩⟩⟩⟩⟩⟩⟩⟩⟩⟩⟩
theorem lw_p16 : lw_okq (⟨"CoalTurnsModel", "has", "(I)Z"⟩, 67) := ⟨⟨by decide +kernel, by decide +kernel⟩, List.mem_of_getElem? (i := 781) (by decide +kernel), List.mem_of_getElem? (i := 1054) (by decide +kernel), List.mem_of_getElem? (i := 1055) (by decide +kernel)⟩
theorem lw_p17 : lw_okq (⟨"CoalTurnsModel", "takesKey", "(I)Z"⟩, 67) := ⟨⟨by decide +kernel, by decide +kernel⟩, List.mem_of_getElem? (i := 781) (by decide +kernel), List.mem_of_getElem? (i := 1058) (by decide +kernel), List.mem_of_getElem? (i := 1059) (by decide +kernel)⟩
theorem lw_p18 : lw_okq (⟨"CoalTurnsModel", "takesNumber", "(I)Z"⟩, 67) := ⟨⟨by decide +kernel, by decide +kernel⟩, List.mem_of_getElem? (i := 781) (by decide +kernel), List.mem_of_getElem? (i := 1062) (by decide +kernel), List.mem_of_getElem? (i := 1063) (by decide +kernel)⟩
theorem lw_p19 : lw_okq (⟨"CoalTurnsModel", "forceOn", "(I)I"⟩, 67) := ⟨⟨by decide +kernel, by decide +kernel⟩, List.mem_of_getElem? (i := 781) (by decide +kernel), List.mem_of_getElem? (i := 1073) (by decide +kernel), List.mem_of_getElem? (i := 1074) (by decide +kernel)⟩
theorem lw_p20 : lw_okq (⟨"CoalTurnsModel", "manyBy", "(II)I"⟩, 67) := ⟨⟨by decide +kernel, by decide +kernel⟩, List.mem_of_getElem? (i := 781) (by decide +kernel), List.mem_of_getElem? (i := 1081) (by decide +kernel), List.mem_of_getElem? (i := 1082) (by decide +kernel)⟩
theorem lw_p21 : lw_okq (⟨"CoalTurnsModel", "findTurns", "(I)V"⟩, 67) := ⟨⟨by decide +kernel, by decide +kernel⟩, List.mem_of_getElem? (i := 781) (by decide +kernel), List.mem_of_getElem? (i := 1089) (by decide +kernel), List.mem_of_getElem? (i := 1090) (by decide +kernel)⟩
theorem lw_p22 : lw_okq (⟨"CoalTurnsModel", "isAhead", "(III)Z"⟩, 67) := ⟨⟨by decide +kernel, by decide +kernel⟩, List.mem_of_getElem? (i := 781) (by decide +kernel), List.mem_of_getElem? (i := 1093) (by decide +kernel), List.mem_of_getElem? (i := 1094) (by decide +kernel)⟩
theorem lw_p23 : lw_okq (⟨"CoalTurnsModel", "keyOf", "(II)I"⟩, 67) := ⟨⟨by decide +kernel, by decide +kernel⟩, List.mem_of_getElem? (i := 781) (by decide +kernel), List.mem_of_getElem? (i := 1097) (by decide +kernel), List.mem_of_getElem? (i := 1098) (by decide +kernel)⟩
theorem lw_p24 : lw_okq (⟨"CoalTurnsModel", "go", "(IIZIZ)V"⟩, 67) := ⟨⟨by decide +kernel, by decide +kernel⟩, List.mem_of_getElem? (i := 781) (by decide +kernel), List.mem_of_getElem? (i := 1105) (by decide +kernel), List.mem_of_getElem? (i := 1106) (by decide +kernel)⟩
theorem lw_p25 : lw_okq (⟨"CoalTurnsModel", "arrive", "(I)V"⟩, 67) := ⟨⟨by decide +kernel, by decide +kernel⟩, List.mem_of_getElem? (i := 781) (by decide +kernel), List.mem_of_getElem? (i := 1109) (by decide +kernel), List.mem_of_getElem? (i := 1110) (by decide +kernel)⟩
theorem lw_p26 : lw_okq (⟨"CoalTurnsModel", "market", "(IZ)V"⟩, 67) := ⟨⟨by decide +kernel, by decide +kernel⟩, List.mem_of_getElem? (i := 781) (by decide +kernel), List.mem_of_getElem? (i := 1113) (by decide +kernel), List.mem_of_getElem? (i := 1114) (by decide +kernel)⟩
theorem lw_p27 : lw_okq (⟨"CoalTurnsModel", "note", "()V"⟩, 67) := ⟨⟨by decide +kernel, by decide +kernel⟩, List.mem_of_getElem? (i := 781) (by decide +kernel), List.mem_of_getElem? (i := 1117) (by decide +kernel), List.mem_of_getElem? (i := 1118) (by decide +kernel)⟩
theorem lw_p28 : lw_okq (⟨"CoalTurnsModel", "sell", "(I)V"⟩, 67) := ⟨⟨by decide +kernel, by decide +kernel⟩, List.mem_of_getElem? (i := 781) (by decide +kernel), List.mem_of_getElem? (i := 1121) (by decide +kernel), List.mem_of_getElem? (i := 1122) (by decide +kernel)⟩
theorem lw_p29 : lw_okq (⟨"CoalTurnsModel", "next", "(I)I"⟩, 67) := ⟨⟨by decide +kernel, by decide +kernel⟩, List.mem_of_getElem? (i := 781) (by decide +kernel), List.mem_of_getElem? (i := 1125) (by decide +kernel), List.mem_of_getElem? (i := 1126) (by decide +kernel)⟩
theorem lw_p30 : lw_okq (⟨"CoalTurnsModel", "strike", "(II)V"⟩, 67) := ⟨⟨by decide +kernel, by decide +kernel⟩, List.mem_of_getElem? (i := 781) (by decide +kernel), List.mem_of_getElem? (i := 1129) (by decide +kernel), List.mem_of_getElem? (i := 1130) (by decide +kernel)⟩
theorem lw_p31 : lw_okq (⟨"CoalTurnsModel", "findHours", "()I"⟩, 67) := ⟨⟨by decide +kernel, by decide +kernel⟩, List.mem_of_getElem? (i := 781) (by decide +kernel), List.mem_of_getElem? (i := 1145) (by decide +kernel), List.mem_of_getElem? (i := 1146) (by decide +kernel)⟩
def lw_privs_2 : List (MethodName × Nat) := [(⟨"CoalTurnsModel", "has", "(I)Z"⟩, 67), (⟨"CoalTurnsModel", "takesKey", "(I)Z"⟩, 67), (⟨"CoalTurnsModel", "takesNumber", "(I)Z"⟩, 67), (⟨"CoalTurnsModel", "forceOn", "(I)I"⟩, 67), (⟨"CoalTurnsModel", "manyBy", "(II)I"⟩, 67), (⟨"CoalTurnsModel", "findTurns", "(I)V"⟩, 67), (⟨"CoalTurnsModel", "isAhead", "(III)Z"⟩, 67), (⟨"CoalTurnsModel", "keyOf", "(II)I"⟩, 67), (⟨"CoalTurnsModel", "go", "(IIZIZ)V"⟩, 67), (⟨"CoalTurnsModel", "arrive", "(I)V"⟩, 67), (⟨"CoalTurnsModel", "market", "(IZ)V"⟩, 67), (⟨"CoalTurnsModel", "note", "()V"⟩, 67), (⟨"CoalTurnsModel", "sell", "(I)V"⟩, 67), (⟨"CoalTurnsModel", "next", "(I)I"⟩, 67), (⟨"CoalTurnsModel", "strike", "(II)V"⟩, 67), (⟨"CoalTurnsModel", "findHours", "()I"⟩, 67)]
theorem lw_r2 : ∀ q ∈ lw_privs_2, lw_okq q := List.forall_mem_cons.mpr ⟨lw_p16, List.forall_mem_cons.mpr ⟨lw_p17, List.forall_mem_cons.mpr ⟨lw_p18, List.forall_mem_cons.mpr ⟨lw_p19, List.forall_mem_cons.mpr ⟨lw_p20, List.forall_mem_cons.mpr ⟨lw_p21, List.forall_mem_cons.mpr ⟨lw_p22, List.forall_mem_cons.mpr ⟨lw_p23, List.forall_mem_cons.mpr ⟨lw_p24, List.forall_mem_cons.mpr ⟨lw_p25, List.forall_mem_cons.mpr ⟨lw_p26, List.forall_mem_cons.mpr ⟨lw_p27, List.forall_mem_cons.mpr ⟨lw_p28, List.forall_mem_cons.mpr ⟨lw_p29, List.forall_mem_cons.mpr ⟨lw_p30, List.forall_mem_cons.mpr ⟨lw_p31, fun _ h => absurd h List.not_mem_nil⟩⟩⟩⟩⟩⟩⟩⟩⟩⟩⟩⟩⟩⟩⟩⟩
theorem lw_p32 : lw_okq (⟨"CoalTurnsModel", "sellThen", "(I)V"⟩, 67) := ⟨⟨by decide +kernel, by decide +kernel⟩, List.mem_of_getElem? (i := 781) (by decide +kernel), List.mem_of_getElem? (i := 1153) (by decide +kernel), List.mem_of_getElem? (i := 1154) (by decide +kernel)⟩
theorem lw_p33 : lw_okq (⟨"CoalTurnsModel", "keep", "()V"⟩, 67) := ⟨⟨by decide +kernel, by decide +kernel⟩, List.mem_of_getElem? (i := 781) (by decide +kernel), List.mem_of_getElem? (i := 1177) (by decide +kernel), List.mem_of_getElem? (i := 1178) (by decide +kernel)⟩
theorem lw_p34 : lw_okq (⟨"CoalTurnsModel", "allLacks", "()I"⟩, 67) := ⟨⟨by decide +kernel, by decide +kernel⟩, List.mem_of_getElem? (i := 781) (by decide +kernel), List.mem_of_getElem? (i := 1181) (by decide +kernel), List.mem_of_getElem? (i := 1182) (by decide +kernel)⟩
theorem lw_p35 : lw_okq (⟨"CoalTurnsModel", "putBack", "()V"⟩, 67) := ⟨⟨by decide +kernel, by decide +kernel⟩, List.mem_of_getElem? (i := 781) (by decide +kernel), List.mem_of_getElem? (i := 1185) (by decide +kernel), List.mem_of_getElem? (i := 1186) (by decide +kernel)⟩
def lw_privs_3 : List (MethodName × Nat) := [(⟨"CoalTurnsModel", "sellThen", "(I)V"⟩, 67), (⟨"CoalTurnsModel", "keep", "()V"⟩, 67), (⟨"CoalTurnsModel", "allLacks", "()I"⟩, 67), (⟨"CoalTurnsModel", "putBack", "()V"⟩, 67)]
theorem lw_r3 : ∀ q ∈ lw_privs_3, lw_okq q := List.forall_mem_cons.mpr ⟨lw_p32, List.forall_mem_cons.mpr ⟨lw_p33, List.forall_mem_cons.mpr ⟨lw_p34, List.forall_mem_cons.mpr ⟨lw_p35, fun _ h => absurd h List.not_mem_nil⟩⟩⟩⟩
def lw_privs : List (MethodName × Nat) := lw_privs_1 ++ (lw_privs_2 ++ (lw_privs_3))
def lw_tbl : List Cond := k2_sels lw_privs ++ tables_1
theorem lw_privs_ok : ∀ q ∈ lw_privs, lw_okq q := by
  show ∀ q ∈ lw_privs_1 ++ (lw_privs_2 ++ (lw_privs_3)), lw_okq q
  exact List.forall_mem_append.mpr ⟨lw_r1, List.forall_mem_append.mpr ⟨lw_r2, lw_r3⟩⟩
/-- words that stay under warming: the good ones, and links within a nest -/
def tb_good : Cond → Bool
  | .arrayClass _ => true
  | .methodLinkNest .. => true
  | w => w.onTables && w.keeps
/-- the words that every contract carries: all of the tables' that stay -/
def BIG : List Cond := lw_tbl.filter tb_good
def TB (U : State) : Prop := ∀ w ∈ BIG, w.before #[] U = true
theorem tb_is {w : Cond} (h : w ∈ BIG) : tb_good w = true := (List.mem_filter.mp h).2
theorem tb_in {w : Cond} (i : Nat) (h : lw_tbl[i]? = some w) (hg : tb_good w = true) : w ∈ BIG := List.mem_filter.mpr ⟨List.mem_of_getElem? h, hg⟩
theorem tb_warm {s U : State} (hW : s.WarmedH U.vm) (h : TB s) : TB U := by
  intro w hw
  have hg := tb_is hw
  have h1 := h w hw
  cases w <;> first
    | exact va_Nw.warmM hW h1
    | exact word_at hW (Or.inr ⟨_, rfl⟩) h1
    | exact word_at hW (Or.inl hg) h1
theorem tb_vm {u U : State} (h : u.vm = U.vm) (hb : TB u) : TB U := tb_warm (by rw [← h]; exact State.WarmedH.refl u) hb
theorem tb_args {U : State} (hb : TB U) {A : Array Value} : ∀ w ∈ BIG, w.before A U = true := by
  intro w hw
  have hg := tb_is hw
  have h1 := hb w hw
  cases w <;> first
    | exact va_tabs rfl rfl h1
    | exact word_at (State.WarmedH.refl U) (Or.inr ⟨_, rfl⟩) h1
    | exact word_at (State.WarmedH.refl U) (Or.inl hg) h1
theorem tb_of {U : State} {A : Array Value} (h : ∀ w ∈ lw_tbl, w.before A U = true) : TB U := by
  intro w hw
  have hg := tb_is hw
  have h1 := h w (List.mem_filter.mp hw).1
  cases w <;> first
    | exact va_tabs rfl rfl h1
    | exact word_at (State.WarmedH.refl U) (Or.inr ⟨_, rfl⟩) h1
    | exact word_at (State.WarmedH.refl U) (Or.inl hg) h1
/-- words of BIG among BIG, as calls want them -/
theorem tb_goodIn {ws : List Cond} (hm : ∀ w ∈ ws, w ∈ BIG) (h : ws.all goodWord = true) : GoodIn BIG ws := fun w hw => ⟨hm w hw, good_of_word (List.all_eq_true.mp h w hw)⟩
