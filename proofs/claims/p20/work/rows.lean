section
-- ===== PART A: goes FIRST, ahead of the names: the tables' words, and 'selects' of the private methods out of them =====
/-- a private method of a class that the tables say can be made, by its rows of tables_1 -/
def lw_okq (q : MethodName × Nat) : Prop := (q.1.cls ≠ "java/lang/invoke/MethodHandle" ∧ q.1.cls ≠ "java/lang/invoke/VarHandle") ∧ Cond.instantiable q.1.cls q.2 ∈ tables_1 ∧ Cond.privateMethod q.1 ∈ tables_1 ∧ Cond.instanceMethod q.1 ∈ tables_1
theorem lw_p0 : lw_okq (⟨"CoalTurns$Tape", "word", "(Ljava/lang/String;)Z"⟩, 3) := ⟨⟨by decide +kernel, by decide +kernel⟩, List.mem_of_getElem? (i := 305) (by decide +kernel), List.mem_of_getElem? (i := 454) (by decide +kernel), List.mem_of_getElem? (i := 455) (by decide +kernel)⟩
theorem lw_p1 : lw_okq (⟨"CoalTurns$Tape", "key", "(LCoalTurns$Order;)Z"⟩, 3) := ⟨⟨by decide +kernel, by decide +kernel⟩, List.mem_of_getElem? (i := 305) (by decide +kernel), List.mem_of_getElem? (i := 506) (by decide +kernel), List.mem_of_getElem? (i := 507) (by decide +kernel)⟩
theorem lw_p2 : lw_okq (⟨"CoalTurns$Tape", "parts", "(LCoalTurns$Order;)Z"⟩, 3) := ⟨⟨by decide +kernel, by decide +kernel⟩, List.mem_of_getElem? (i := 305) (by decide +kernel), List.mem_of_getElem? (i := 518) (by decide +kernel), List.mem_of_getElem? (i := 519) (by decide +kernel)⟩
theorem lw_p3 : lw_okq (⟨"CoalTurns$Tape", "number", "(I)I"⟩, 3) := ⟨⟨by decide +kernel, by decide +kernel⟩, List.mem_of_getElem? (i := 305) (by decide +kernel), List.mem_of_getElem? (i := 522) (by decide +kernel), List.mem_of_getElem? (i := 523) (by decide +kernel)⟩
theorem lw_p4 : lw_okq (⟨"CoalTurns$Tape", "part", "(LCoalTurns$Order;I)Z"⟩, 3) := ⟨⟨by decide +kernel, by decide +kernel⟩, List.mem_of_getElem? (i := 305) (by decide +kernel), List.mem_of_getElem? (i := 530) (by decide +kernel), List.mem_of_getElem? (i := 531) (by decide +kernel)⟩
theorem lw_p5 : lw_okq (⟨"CoalTurns$Queue", "insert", "(II)V"⟩, 3) := ⟨⟨by decide +kernel, by decide +kernel⟩, List.mem_of_getElem? (i := 184) (by decide +kernel), List.mem_of_getElem? (i := 589) (by decide +kernel), List.mem_of_getElem? (i := 590) (by decide +kernel)⟩
theorem lw_p6 : lw_okq (⟨"CoalTurns$River", "sell", "(ILCoalTurns$DayBook;)Z"⟩, 7) := ⟨⟨by decide +kernel, by decide +kernel⟩, List.mem_of_getElem? (i := 29) (by decide +kernel), List.mem_of_getElem? (i := 642) (by decide +kernel), List.mem_of_getElem? (i := 643) (by decide +kernel)⟩
theorem lw_p7 : lw_okq (⟨"CoalTurns$River", "bestBuyer", "(LCoalTurns$Ship;)I"⟩, 7) := ⟨⟨by decide +kernel, by decide +kernel⟩, List.mem_of_getElem? (i := 29) (by decide +kernel), List.mem_of_getElem? (i := 646) (by decide +kernel), List.mem_of_getElem? (i := 647) (by decide +kernel)⟩
theorem lw_p8 : lw_okq (⟨"CoalTurns$River", "strike", "(IILCoalTurns$DayBook;)V"⟩, 7) := ⟨⟨by decide +kernel, by decide +kernel⟩, List.mem_of_getElem? (i := 29) (by decide +kernel), List.mem_of_getElem? (i := 654) (by decide +kernel), List.mem_of_getElem? (i := 655) (by decide +kernel)⟩
theorem lw_p9 : lw_okq (⟨"CoalTurns$Lighters", "gather", "(LCoalTurns$DayBook;)I"⟩, 2) := ⟨⟨by decide +kernel, by decide +kernel⟩, List.mem_of_getElem? (i := 239) (by decide +kernel), List.mem_of_getElem? (i := 709) (by decide +kernel), List.mem_of_getElem? (i := 710) (by decide +kernel)⟩
theorem lw_p10 : lw_okq (⟨"CoalTurns", "tryDay", "(LCoalTurns$Order;II)I"⟩, 13) := ⟨⟨by decide +kernel, by decide +kernel⟩, List.mem_of_getElem? (i := 21) (by decide +kernel), List.mem_of_getElem? (i := 757) (by decide +kernel), List.mem_of_getElem? (i := 758) (by decide +kernel)⟩
theorem lw_p11 : lw_okq (⟨"CoalTurnsModel", "isShip", "(I)Z"⟩, 67) := ⟨⟨by decide +kernel, by decide +kernel⟩, List.mem_of_getElem? (i := 781) (by decide +kernel), List.mem_of_getElem? (i := 999) (by decide +kernel), List.mem_of_getElem? (i := 1000) (by decide +kernel)⟩
theorem lw_p12 : lw_okq (⟨"CoalTurnsModel", "rate", "(I)I"⟩, 67) := ⟨⟨by decide +kernel, by decide +kernel⟩, List.mem_of_getElem? (i := 781) (by decide +kernel), List.mem_of_getElem? (i := 1007) (by decide +kernel), List.mem_of_getElem? (i := 1008) (by decide +kernel)⟩
theorem lw_p13 : lw_okq (⟨"CoalTurnsModel", "isBuyer", "(I)Z"⟩, 67) := ⟨⟨by decide +kernel, by decide +kernel⟩, List.mem_of_getElem? (i := 781) (by decide +kernel), List.mem_of_getElem? (i := 1026) (by decide +kernel), List.mem_of_getElem? (i := 1027) (by decide +kernel)⟩
theorem lw_p14 : lw_okq (⟨"CoalTurnsModel", "reads", "(I)Z"⟩, 67) := ⟨⟨by decide +kernel, by decide +kernel⟩, List.mem_of_getElem? (i := 781) (by decide +kernel), List.mem_of_getElem? (i := 1046) (by decide +kernel), List.mem_of_getElem? (i := 1047) (by decide +kernel)⟩
theorem lw_p15 : lw_okq (⟨"CoalTurnsModel", "takes", "(I)Z"⟩, 67) := ⟨⟨by decide +kernel, by decide +kernel⟩, List.mem_of_getElem? (i := 781) (by decide +kernel), List.mem_of_getElem? (i := 1050) (by decide +kernel), List.mem_of_getElem? (i := 1051) (by decide +kernel)⟩
def lw_privs_1 : List (MethodName × Nat) := [(⟨"CoalTurns$Tape", "word", "(Ljava/lang/String;)Z"⟩, 3), (⟨"CoalTurns$Tape", "key", "(LCoalTurns$Order;)Z"⟩, 3), (⟨"CoalTurns$Tape", "parts", "(LCoalTurns$Order;)Z"⟩, 3), (⟨"CoalTurns$Tape", "number", "(I)I"⟩, 3), (⟨"CoalTurns$Tape", "part", "(LCoalTurns$Order;I)Z"⟩, 3), (⟨"CoalTurns$Queue", "insert", "(II)V"⟩, 3), (⟨"CoalTurns$River", "sell", "(ILCoalTurns$DayBook;)Z"⟩, 7), (⟨"CoalTurns$River", "bestBuyer", "(LCoalTurns$Ship;)I"⟩, 7), (⟨"CoalTurns$River", "strike", "(IILCoalTurns$DayBook;)V"⟩, 7), (⟨"CoalTurns$Lighters", "gather", "(LCoalTurns$DayBook;)I"⟩, 2), (⟨"CoalTurns", "tryDay", "(LCoalTurns$Order;II)I"⟩, 13), (⟨"CoalTurnsModel", "isShip", "(I)Z"⟩, 67), (⟨"CoalTurnsModel", "rate", "(I)I"⟩, 67), (⟨"CoalTurnsModel", "isBuyer", "(I)Z"⟩, 67), (⟨"CoalTurnsModel", "reads", "(I)Z"⟩, 67), (⟨"CoalTurnsModel", "takes", "(I)Z"⟩, 67)]
theorem lw_r1 : ∀ q ∈ lw_privs_1, lw_okq q := List.forall_mem_cons.mpr ⟨lw_p0, List.forall_mem_cons.mpr ⟨lw_p1, List.forall_mem_cons.mpr ⟨lw_p2, List.forall_mem_cons.mpr ⟨lw_p3, List.forall_mem_cons.mpr ⟨lw_p4, List.forall_mem_cons.mpr ⟨lw_p5, List.forall_mem_cons.mpr ⟨lw_p6, List.forall_mem_cons.mpr ⟨lw_p7, List.forall_mem_cons.mpr ⟨lw_p8, List.forall_mem_cons.mpr ⟨lw_p9, List.forall_mem_cons.mpr ⟨lw_p10, List.forall_mem_cons.mpr ⟨lw_p11, List.forall_mem_cons.mpr ⟨lw_p12, List.forall_mem_cons.mpr ⟨lw_p13, List.forall_mem_cons.mpr ⟨lw_p14, List.forall_mem_cons.mpr ⟨lw_p15, fun _ h => absurd h List.not_mem_nil⟩⟩⟩⟩⟩⟩⟩⟩⟩⟩⟩⟩⟩⟩⟩⟩
theorem lw_p16 : lw_okq (⟨"CoalTurnsModel", "has", "(I)Z"⟩, 67) := ⟨⟨by decide +kernel, by decide +kernel⟩, List.mem_of_getElem? (i := 781) (by decide +kernel), List.mem_of_getElem? (i := 1054) (by decide +kernel), List.mem_of_getElem? (i := 1055) (by decide +kernel)⟩
theorem lw_p17 : lw_okq (⟨"CoalTurnsModel", "takesKey", "(I)Z"⟩, 67) := ⟨⟨by decide +kernel, by decide +kernel⟩, List.mem_of_getElem? (i := 781) (by decide +kernel), List.mem_of_getElem? (i := 1058) (by decide +kernel), List.mem_of_getElem? (i := 1059) (by decide +kernel)⟩
theorem lw_p18 : lw_okq (⟨"CoalTurnsModel", "takesNumber", "(I)Z"⟩, 67) := ⟨⟨by decide +kernel, by decide +kernel⟩, List.mem_of_getElem? (i := 781) (by decide +kernel), List.mem_of_getElem? (i := 1062) (by decide +kernel), List.mem_of_getElem? (i := 1063) (by decide +kernel)⟩
theorem lw_p19 : lw_okq (⟨"CoalTurnsModel", "forceOn", "(I)I"⟩, 67) := ⟨⟨by decide +kernel, by decide +kernel⟩, List.mem_of_getElem? (i := 781) (by decide +kernel), List.mem_of_getElem? (i := 1073) (by decide +kernel), List.mem_of_getElem? (i := 1074) (by decide +kernel)⟩
theorem lw_p20 : lw_okq (⟨"CoalTurnsModel", "manyBy", "(II)I"⟩, 67) := ⟨⟨by decide +kernel, by decide +kernel⟩, List.mem_of_getElem? (i := 781) (by decide +kernel), List.mem_of_getElem? (i := 1081) (by decide +kernel), List.mem_of_getElem? (i := 1082) (by decide +kernel)⟩
theorem lw_p21 : lw_okq (⟨"CoalTurnsModel", "findTurns", "(I)V"⟩, 67) := ⟨⟨by decide +kernel, by decide +kernel⟩, List.mem_of_getElem? (i := 781) (by decide +kernel), List.mem_of_getElem? (i := 1089) (by decide +kernel), List.mem_of_getElem? (i := 1090) (by decide +kernel)⟩
theorem lw_p22 : lw_okq (⟨"CoalTurnsModel", "isAhead", "(III)Z"⟩, 67) := ⟨⟨by decide +kernel, by decide +kernel⟩, List.mem_of_getElem? (i := 781) (by decide +kernel), List.mem_of_getElem? (i := 1093) (by decide +kernel), List.mem_of_getElem? (i := 1094) (by decide +kernel)⟩
theorem lw_p23 : lw_okq (⟨"CoalTurnsModel", "keyOf", "(II)I"⟩, 67) := ⟨⟨by decide +kernel, by decide +kernel⟩, List.mem_of_getElem? (i := 781) (by decide +kernel), List.mem_of_getElem? (i := 1097) (by decide +kernel), List.mem_of_getElem? (i := 1098) (by decide +kernel)⟩
theorem lw_p24 : lw_okq (⟨"CoalTurnsModel", "go", "(IIZIZ)V"⟩, 67) := ⟨⟨by decide +kernel, by decide +kernel⟩, List.mem_of_getElem? (i := 781) (by decide +kernel), List.mem_of_getElem? (i := 1105) (by decide +kernel), List.mem_of_getElem? (i := 1106) (by decide +kernel)⟩
theorem lw_p25 : lw_okq (⟨"CoalTurnsModel", "arrive", "(I)V"⟩, 67) := ⟨⟨by decide +kernel, by decide +kernel⟩, List.mem_of_getElem? (i := 781) (by decide +kernel), List.mem_of_getElem? (i := 1109) (by decide +kernel), List.mem_of_getElem? (i := 1110) (by decide +kernel)⟩
theorem lw_p26 : lw_okq (⟨"CoalTurnsModel", "market", "(IZ)V"⟩, 67) := ⟨⟨by decide +kernel, by decide +kernel⟩, List.mem_of_getElem? (i := 781) (by decide +kernel), List.mem_of_getElem? (i := 1113) (by decide +kernel), List.mem_of_getElem? (i := 1114) (by decide +kernel)⟩
theorem lw_p27 : lw_okq (⟨"CoalTurnsModel", "note", "()V"⟩, 67) := ⟨⟨by decide +kernel, by decide +kernel⟩, List.mem_of_getElem? (i := 781) (by decide +kernel), List.mem_of_getElem? (i := 1117) (by decide +kernel), List.mem_of_getElem? (i := 1118) (by decide +kernel)⟩
theorem lw_p28 : lw_okq (⟨"CoalTurnsModel", "sell", "(I)V"⟩, 67) := ⟨⟨by decide +kernel, by decide +kernel⟩, List.mem_of_getElem? (i := 781) (by decide +kernel), List.mem_of_getElem? (i := 1121) (by decide +kernel), List.mem_of_getElem? (i := 1122) (by decide +kernel)⟩
theorem lw_p29 : lw_okq (⟨"CoalTurnsModel", "next", "(I)I"⟩, 67) := ⟨⟨by decide +kernel, by decide +kernel⟩, List.mem_of_getElem? (i := 781) (by decide +kernel), List.mem_of_getElem? (i := 1125) (by decide +kernel), List.mem_of_getElem? (i := 1126) (by decide +kernel)⟩
theorem lw_p30 : lw_okq (⟨"CoalTurnsModel", "strike", "(II)V"⟩, 67) := ⟨⟨by decide +kernel, by decide +kernel⟩, List.mem_of_getElem? (i := 781) (by decide +kernel), List.mem_of_getElem? (i := 1129) (by decide +kernel), List.mem_of_getElem? (i := 1130) (by decide +kernel)⟩
theorem lw_p31 : lw_okq (⟨"CoalTurnsModel", "findHours", "()I"⟩, 67) := ⟨⟨by decide +kernel, by decide +kernel⟩, List.mem_of_getElem? (i := 781) (by decide +kernel), List.mem_of_getElem? (i := 1145) (by decide +kernel), List.mem_of_getElem? (i := 1146) (by decide +kernel)⟩
def lw_privs_2 : List (MethodName × Nat) := [(⟨"CoalTurnsModel", "has", "(I)Z"⟩, 67), (⟨"CoalTurnsModel", "takesKey", "(I)Z"⟩, 67), (⟨"CoalTurnsModel", "takesNumber", "(I)Z"⟩, 67), (⟨"CoalTurnsModel", "forceOn", "(I)I"⟩, 67), (⟨"CoalTurnsModel", "manyBy", "(II)I"⟩, 67), (⟨"CoalTurnsModel", "findTurns", "(I)V"⟩, 67), (⟨"CoalTurnsModel", "isAhead", "(III)Z"⟩, 67), (⟨"CoalTurnsModel", "keyOf", "(II)I"⟩, 67), (⟨"CoalTurnsModel", "go", "(IIZIZ)V"⟩, 67), (⟨"CoalTurnsModel", "arrive", "(I)V"⟩, 67), (⟨"CoalTurnsModel", "market", "(IZ)V"⟩, 67), (⟨"CoalTurnsModel", "note", "()V"⟩, 67), (⟨"CoalTurnsModel", "sell", "(I)V"⟩, 67), (⟨"CoalTurnsModel", "next", "(I)I"⟩, 67), (⟨"CoalTurnsModel", "strike", "(II)V"⟩, 67), (⟨"CoalTurnsModel", "findHours", "()I"⟩, 67)]
theorem lw_r2 : ∀ q ∈ lw_privs_2, lw_okq q := List.forall_mem_cons.mpr ⟨lw_p16, List.forall_mem_cons.mpr ⟨lw_p17, List.forall_mem_cons.mpr ⟨lw_p18, List.forall_mem_cons.mpr ⟨lw_p19, List.forall_mem_cons.mpr ⟨lw_p20, List.forall_mem_cons.mpr ⟨lw_p21, List.forall_mem_cons.mpr ⟨lw_p22, List.forall_mem_cons.mpr ⟨lw_p23, List.forall_mem_cons.mpr ⟨lw_p24, List.forall_mem_cons.mpr ⟨lw_p25, List.forall_mem_cons.mpr ⟨lw_p26, List.forall_mem_cons.mpr ⟨lw_p27, List.forall_mem_cons.mpr ⟨lw_p28, List.forall_mem_cons.mpr ⟨lw_p29, List.forall_mem_cons.mpr ⟨lw_p30, List.forall_mem_cons.mpr ⟨lw_p31, fun _ h => absurd h List.not_mem_nil⟩⟩⟩⟩⟩⟩⟩⟩⟩⟩⟩⟩⟩⟩⟩⟩
theorem lw_p32 : lw_okq (⟨"CoalTurnsModel", "sellThen", "(I)V"⟩, 67) := ⟨⟨by decide +kernel, by decide +kernel⟩, List.mem_of_getElem? (i := 781) (by decide +kernel), List.mem_of_getElem? (i := 1153) (by decide +kernel), List.mem_of_getElem? (i := 1154) (by decide +kernel)⟩
theorem lw_p33 : lw_okq (⟨"CoalTurnsModel", "keep", "()V"⟩, 67) := ⟨⟨by decide +kernel, by decide +kernel⟩, List.mem_of_getElem? (i := 781) (by decide +kernel), List.mem_of_getElem? (i := 1177) (by decide +kernel), List.mem_of_getElem? (i := 1178) (by decide +kernel)⟩
theorem lw_p34 : lw_okq (⟨"CoalTurnsModel", "allLacks", "()I"⟩, 67) := ⟨⟨by decide +kernel, by decide +kernel⟩, List.mem_of_getElem? (i := 781) (by decide +kernel), List.mem_of_getElem? (i := 1181) (by decide +kernel), List.mem_of_getElem? (i := 1182) (by decide +kernel)⟩
theorem lw_p35 : lw_okq (⟨"CoalTurnsModel", "putBack", "()V"⟩, 67) := ⟨⟨by decide +kernel, by decide +kernel⟩, List.mem_of_getElem? (i := 781) (by decide +kernel), List.mem_of_getElem? (i := 1185) (by decide +kernel), List.mem_of_getElem? (i := 1186) (by decide +kernel)⟩
def lw_privs_3 : List (MethodName × Nat) := [(⟨"CoalTurnsModel", "sellThen", "(I)V"⟩, 67), (⟨"CoalTurnsModel", "keep", "()V"⟩, 67), (⟨"CoalTurnsModel", "allLacks", "()I"⟩, 67), (⟨"CoalTurnsModel", "putBack", "()V"⟩, 67)]
theorem lw_r3 : ∀ q ∈ lw_privs_3, lw_okq q := List.forall_mem_cons.mpr ⟨lw_p32, List.forall_mem_cons.mpr ⟨lw_p33, List.forall_mem_cons.mpr ⟨lw_p34, List.forall_mem_cons.mpr ⟨lw_p35, fun _ h => absurd h List.not_mem_nil⟩⟩⟩⟩
def lw_privs : List (MethodName × Nat) := lw_privs_1 ++ (lw_privs_2 ++ (lw_privs_3))
def lw_tbl : List Cond := k2_sels lw_privs ++ tables_1
theorem lw_privs_ok : ∀ q ∈ lw_privs, lw_okq q := by
  show ∀ q ∈ lw_privs_1 ++ (lw_privs_2 ++ (lw_privs_3)), lw_okq q
  exact List.forall_mem_append.mpr ⟨lw_r1, List.forall_mem_append.mpr ⟨lw_r2, lw_r3⟩⟩
/-- words that stay under warming: the good ones, and links within a nest -/
def tb_good : Cond → Bool
  | .arrayClass _ => true
  | .methodLinkNest .. => true
  | w => w.onTables && w.keeps
/-- the words that every contract carries: all of the tables' that stay -/
def BIG : List Cond := lw_tbl.filter tb_good
def TB (U : State) : Prop := ∀ w ∈ BIG, w.before #[] U = true
theorem tb_is {w : Cond} (h : w ∈ BIG) : tb_good w = true := (List.mem_filter.mp h).2
theorem tb_in {w : Cond} (i : Nat) (h : lw_tbl[i]? = some w) (hg : tb_good w = true) : w ∈ BIG := List.mem_filter.mpr ⟨List.mem_of_getElem? h, hg⟩
theorem tb_warm {s U : State} (hW : s.WarmedH U.vm) (h : TB s) : TB U := by
  intro w hw
  have hg := tb_is hw
  have h1 := h w hw
  cases w <;> first
    | exact va_Nw.warmM hW h1
    | exact word_at hW (Or.inr ⟨_, rfl⟩) h1
    | exact word_at hW (Or.inl hg) h1
theorem tb_vm {u U : State} (h : u.vm = U.vm) (hb : TB u) : TB U := tb_warm (by rw [← h]; exact State.WarmedH.refl u) hb
theorem tb_args {U : State} (hb : TB U) {A : Array Value} : ∀ w ∈ BIG, w.before A U = true := by
  intro w hw
  have hg := tb_is hw
  have h1 := hb w hw
  cases w <;> first
    | exact va_tabs rfl rfl h1
    | exact word_at (State.WarmedH.refl U) (Or.inr ⟨_, rfl⟩) h1
    | exact word_at (State.WarmedH.refl U) (Or.inl hg) h1
theorem tb_of {U : State} {A : Array Value} (h : ∀ w ∈ lw_tbl, w.before A U = true) : TB U := by
  intro w hw
  have hg := tb_is hw
  have h1 := h w (List.mem_filter.mp hw).1
  cases w <;> first
    | exact va_tabs rfl rfl h1
    | exact word_at (State.WarmedH.refl U) (Or.inr ⟨_, rfl⟩) h1
    | exact word_at (State.WarmedH.refl U) (Or.inl hg) h1
/-- words of BIG among BIG, as calls want them -/
theorem tb_goodIn {ws : List Cond} (hm : ∀ w ∈ ws, w ∈ BIG) (h : ws.all goodWord = true) : GoodIn BIG ws := fun w hw => ⟨hm w hw, good_of_word (List.all_eq_true.mp h w hw)⟩
end
section
/-! THE WORLD BY CODES: a cell is named by a code k; kd k: its kind (class number, places); ad k: its address; u k: what it holds -/
abbrev tKd : Type := Nat → Option (Nat × Nat)
abbrev tU : Type := Nat → Nat → Value
def t_up (u : tU) (k j : Nat) (x : Value) : tU := fun a b => if a = k ∧ b = j then x else u a b
def tw_at (cl : List vw_C) (D : va_G) (dA : Nat → ClassId) (a : Nat) (kn : Nat × Nat) (f : Nat → Value) (H : Heap) : Prop :=
  (kn.1 < 12 ∧ ∃ r : vw_C, cl[kn.1]? = some r ∧ t_OB a (D.1 kn.1) r.2.2 (D.2 kn.1) H f) ∨ (12 ≤ kn.1 ∧ H[a]? = some (arrV (dA kn.1) kn.2 f))
def tw_W (cl : List vw_C) (D : va_G) (dA : Nat → ClassId) (kd : tKd) (ad : Nat → Nat) (u : tU) (H : Heap) : Prop :=
  (∀ k kn, kd k = some kn → tw_at cl D dA (ad k) kn (u k) H) ∧ (∀ j k x y, kd j = some x → kd k = some y → ad j = ad k → j = k)
def tw_A (kd : tKd) (ad : Nat → Nat) : Nat → Prop := fun q => ∃ k kn, kd k = some kn ∧ q = ad k
theorem tw_at.kept {cl : List vw_C} {D : va_G} {dA : Nat → ClassId} {a : Nat} {kn : Nat × Nat} {f : Nat → Value} {H H1 : Heap} (h : tw_at cl D dA a kn f H) (hq : H1[a]? = H[a]?) : tw_at cl D dA a kn f H1 := by
  rcases h with ⟨h0, r, h1, h2⟩ | ⟨h0, h1⟩
  · exact Or.inl ⟨h0, r, h1, h2.kept hq⟩
  · exact Or.inr ⟨h0, hq.trans h1⟩
/-- one cell has changed -/
theorem tw_W.set {cl : List vw_C} {D : va_G} {dA : Nat → ClassId} {kd : tKd} {ad : Nat → Nat} {u : tU} {H H1 : Heap} (hw : tw_W cl D dA kd ad u H) {k : Nat} {kn : Nat × Nat} (hk : kd k = some kn) {j : Nat} {x : Value}
    (h1 : tw_at cl D dA (ad k) kn (updV (u k) j x) H1) (ho : ∀ q, q ≠ ad k → H1[q]? = H[q]?) : tw_W cl D dA kd ad (t_up u k j x) H1 := by
  refine ⟨fun a an ha => ?_, hw.2⟩
  by_cases hak : a = k
  · subst hak
    have e : an = kn := Option.some.inj (ha.symm.trans hk)
    subst e
    have e2 : t_up u a j x a = updV (u a) j x := by
      funext b
      simp [t_up, updV]
    rw [e2]
    exact h1
  · have e2 : t_up u k j x a = u a := by
      funext b
      simp [t_up, hak]
    rw [e2]
    exact (hw.1 a an ha).kept (ho _ (fun q => hak (hw.2 a k an kn ha hk q)))
section TR
variable {p : Program} {l : Launch} {e : Env} {R : Room} {s : State} {m : MethodId} {args : Array Value} {below : List Frame} {meth : Method} {c : Code} {H : Heap} {locs : List Loc} {cells slots : Nat} {Q : State → Prop}
variable {cc : ByteArray} {pc : Nat} {ls : Array Slot} {rest : List Value} {D : va_G} {cl : List vw_C} {dA : Nat → ClassId} {kd : tKd} {ad : Nat → Nat} {u : tU} {A : Nat → Prop} {tys : List (ClassId × FieldType)} {H0 : Heap}
theorem tw_get (hexec : p.tables.exec = Jvm.exec) (hb : c.code = cc) {own ref C : String} {T : u_T} {N ci n0 index : Nat} {Ts : List Cond} (hts : ∀ w ∈ Ts, w.before args s = true) (hin : ∀ w ∈ u_ws C T N, w ∈ Ts) (hown : s.vm.findClass own = some m.cls) (hK : va_K D cl tys s) (hw : tw_W cl D dA kd ad u H) {k : Nat} (hk : kd k = some (ci, n0)) (h12 : ci < 12) (hc : cl[ci]? = some (C, T, N)) (j : Nat) (hj : j < N)
    (hlink : (Cond.fieldLink own index ref (T j).2.1 (T j).2.2.1).before args s = true) (hsame : (T j).1 = ref) (hdg : decode cc pc = .ok (.getfield index, 3))
    (kk : W p l e R s m args below meth c H locs cells slots Q (F0 m (pc + 3) ls (u k j :: rest))) : W p l e R s m args below meth c H locs cells slots Q (F0 m pc ls (.ref (ad k) :: rest)) := by
  subst hsame
  rcases hw.1 k _ hk with ⟨_, r, h1, cell, q1, q2, q3, q4⟩ | ⟨h, -⟩
  · have hr : r = (C, T, N) := Option.some.inj (h1.symm.trans hc)
    subst hr
    obtain ⟨hS, hfc, kC, hkC, hkind⟩ := hK.1 ci _ hc
    obtain ⟨cf, kf, fi, f, hi, hsl⟩ := hS j hj
    refine W.getf hexec hb hown hlink hi (u_facts hfc hkC (u_lays hts hin hj) hi).1 q1 (by rw [q3]; exact fun h => by cases h) (v := u k j) ?_ rfl rfl hdg kk
    rw [hsl, q4 j hj]
  · exact absurd h12 (Nat.not_lt.mpr h)
theorem tw_put (hexec : p.tables.exec = Jvm.exec) (hb : c.code = cc) {own ref C : String} {T : u_T} {N ci n0 index : Nat} {Ts : List Cond} (hts : ∀ w ∈ Ts, w.before args s = true) (hin : ∀ w ∈ u_ws C T N, w ∈ Ts) (ty0 : Nat → FieldType) (hty : ∀ k, k < N → parseFieldDescriptor (T k).2.2.1 = some (ty0 k)) (hnm : ∀ a, a < N → ∀ b, b < N → a ≠ b → (T a).2.1 ≠ (T b).2.1) (hown : s.vm.findClass own = some m.cls) (hK : va_K D cl tys s) (hw : tw_W cl D dA kd ad u H) (hA : ∀ q, tw_A kd ad q → A q) (hS0 : va_S A H0 H locs) {k : Nat} (hk : kd k = some (ci, n0)) (h12 : ci < 12) (hc : cl[ci]? = some (C, T, N)) (j : Nat) (hj : j < N)
    (hlink : (Cond.fieldLink own index ref (T j).2.1 (T j).2.2.1).before args s = true) (hsame : (T j).1 = ref) (hfin : (T j).2.2.2 = false) {ty : FieldType} {v : Value} (hd : parseFieldDescriptor (T j).2.2.1 = some ty) (hn : narrow ty v = v) (hfit : fits ty v = true) (hdg : decode cc pc = .ok (.putfield index, 3))
    (kk : ∀ (H1 : Heap) (locs1 : List Loc), tw_W cl D dA kd ad (t_up u k j v) H1 → va_S A H0 H1 locs1 → W p l e R s m args below meth c H1 locs1 cells slots Q (F0 m (pc + 3) ls rest)) : W p l e R s m args below meth c H locs cells slots Q (F0 m pc ls (v :: .ref (ad k) :: rest)) := by
  subst hsame
  have hap := va_apart (own := own) hts hin ty0 hty hnm hK hc
  rcases hw.1 k _ hk with ⟨_, r, h1, cell, q1, q2, q3, q4⟩ | ⟨h, -⟩
  · have hr : r = (C, T, N) := Option.some.inj (h1.symm.trans hc)
    subst hr
    obtain ⟨hS, hfc, kC, hkC, hkind⟩ := hK.1 ci _ hc
    obtain ⟨cf, kf, fi, f, hi, hsl⟩ := hS j hj
    have hlay := hts _ (hin _ (u_in_lay hj))
    unfold u_lay at hlay
    rw [if_neg (by rw [hfin]; decide)] at hlay
    have hst := (u_facts hfc hkC (u_lays hts hin hj) hi).1
    have h6 := u_store hfc hkC hkind hlay hi hd hn hfit
    refine W.putK hexec hb (f := f) ⟨hown, hlink, ⟨_, _, _, hi⟩, hst⟩ (by rw [q2]; exact h6) q1 q3 (by rw [hsl]; exact k2_hasslot (q4 j hj)) rfl rfl hdg fun H' e1 e2 e3 => ?_
    rw [hsl] at e1 ⊢
    exact kk H' _ (hw.set hk (Or.inl ⟨h12, _, hc, _, e1, q2, q3, t_set q4 hap hj v⟩) e3) (hS0.put e2 e3 (hA _ ⟨k, _, hk, rfl⟩))
  · exact absurd h12 (Nat.not_lt.mpr h)
/-- an array's cell -/
theorem tw_arr (hw : tw_W cl D dA kd ad u H) {k t n : Nat} (hk : kd k = some (t, n)) (ht : 12 ≤ t) : H[ad k]? = some (arrV (dA t) n (u k)) := by
  rcases hw.1 k _ hk with ⟨h, -⟩ | ⟨-, h⟩
  · exact absurd h (Nat.not_lt.mpr ht)
  · exact h
theorem tw_iald (hexec : p.tables.exec = Jvm.exec) (hb : c.code = cc) (hK : va_K D cl tys s) (hw : tw_W cl D dA kd ad u H) {k t n : Nat} (hk : kd k = some (t, n)) (h12 : 12 ≤ t) (t0 : Nat) (ht : tys[t0]? = some (dA t, .int)) {i : Int32} (hin : vp_in i n) (hdg : decode cc pc = .ok (.iaload, 1))
    (kk : W p l e R s m args below meth c H locs cells slots Q (F0 m (pc + 1) ls (u k i.toNatClampNeg :: rest))) : W p l e R s m args below meth c H locs cells slots Q (F0 m pc ls (.int i :: .ref (ad k) :: rest)) := by
  have hlt : i.toNatClampNeg < n := Nat.not_le.mp fun q => hin (Or.inr q)
  exact W.iald (v := u k i.toNatClampNeg) hexec hb (tw_arr hw hk h12) ((hK.2 t0 _ ht).1 n (u k)) (fun q => by cases q) (by rw [arrV_size]; exact hin) (by rw [arrV_read _ _ hlt]) rfl rfl hdg kk
theorem tw_bald (hexec : p.tables.exec = Jvm.exec) (hb : c.code = cc) (hK : va_K D cl tys s) (hw : tw_W cl D dA kd ad u H) {k t n : Nat} (hk : kd k = some (t, n)) (h12 : 12 ≤ t) (t0 : Nat) (ht : tys[t0]? = some (dA t, .byte)) {i : Int32} (hin : vp_in i n) (hdg : decode cc pc = .ok (.baload, 1))
    (kk : W p l e R s m args below meth c H locs cells slots Q (F0 m (pc + 1) ls (u k i.toNatClampNeg :: rest))) : W p l e R s m args below meth c H locs cells slots Q (F0 m pc ls (.int i :: .ref (ad k) :: rest)) := by
  have hlt : i.toNatClampNeg < n := Nat.not_le.mp fun q => hin (Or.inr q)
  exact W.bald (v := u k i.toNatClampNeg) hexec hb (tw_arr hw hk h12) ((hK.2 t0 _ ht).1 n (u k)) (fun q => by cases q) (by rw [arrV_size]; exact hin) (by rw [arrV_read _ _ hlt]) rfl rfl hdg kk
theorem tw_zald (hexec : p.tables.exec = Jvm.exec) (hb : c.code = cc) (hK : va_K D cl tys s) (hw : tw_W cl D dA kd ad u H) {k t n : Nat} (hk : kd k = some (t, n)) (h12 : 12 ≤ t) (t0 : Nat) (ht : tys[t0]? = some (dA t, .boolean)) {i : Int32} (hin : vp_in i n) (hdg : decode cc pc = .ok (.baload, 1))
    (kk : W p l e R s m args below meth c H locs cells slots Q (F0 m (pc + 1) ls (u k i.toNatClampNeg :: rest))) : W p l e R s m args below meth c H locs cells slots Q (F0 m pc ls (.int i :: .ref (ad k) :: rest)) := by
  have hlt : i.toNatClampNeg < n := Nat.not_le.mp fun q => hin (Or.inr q)
  exact W.zald (v := u k i.toNatClampNeg) hexec hb (tw_arr hw hk h12) ((hK.2 t0 _ ht).1 n (u k)) (fun q => by cases q) (by rw [arrV_size]; exact hin) (by rw [arrV_read _ _ hlt]) rfl rfl hdg kk
theorem tw_aald (hexec : p.tables.exec = Jvm.exec) (hb : c.code = cc) (hK : va_K D cl tys s) (hw : tw_W cl D dA kd ad u H) {k t n : Nat} (hk : kd k = some (t, n)) (h12 : 12 ≤ t) (t0 : Nat) {C : String} (ht : tys[t0]? = some (dA t, .object C)) {i : Int32} (hin : vp_in i n) (hdg : decode cc pc = .ok (.aaload, 1))
    (kk : W p l e R s m args below meth c H locs cells slots Q (F0 m (pc + 1) ls (u k i.toNatClampNeg :: rest))) : W p l e R s m args below meth c H locs cells slots Q (F0 m pc ls (.int i :: .ref (ad k) :: rest)) := by
  have hlt : i.toNatClampNeg < n := Nat.not_le.mp fun q => hin (Or.inr q)
  exact W.aald (v := u k i.toNatClampNeg) (ty := .object C) hexec hb (tw_arr hw hk h12) ((hK.2 t0 _ ht).1 n (u k)) rfl (fun q => by cases q) (by rw [arrV_size]; exact hin) (by rw [arrV_read _ _ hlt]) rfl rfl hdg kk
theorem tw_iast (hexec : p.tables.exec = Jvm.exec) (hb : c.code = cc) (hK : va_K D cl tys s) (hw : tw_W cl D dA kd ad u H) (hA : ∀ q, tw_A kd ad q → A q) (hS : va_S A H0 H locs) {k t n : Nat} (hk : kd k = some (t, n)) (h12 : 12 ≤ t) (t0 : Nat) (ht : tys[t0]? = some (dA t, .int)) {i x : Int32} (hin : vp_in i n) (hdg : decode cc pc = .ok (.iastore, 1))
    (kk : ∀ (H1 : Heap) (locs1 : List Loc), tw_W cl D dA kd ad (t_up u k i.toNatClampNeg (.int x)) H1 → va_S A H0 H1 locs1 → W p l e R s m args below meth c H1 locs1 cells slots Q (F0 m (pc + 1) ls rest)) : W p l e R s m args below meth c H locs cells slots Q (F0 m pc ls (.int x :: .int i :: .ref (ad k) :: rest)) := by
  refine W.iast hexec hb (tw_arr hw hk h12) ((hK.2 t0 _ ht).1 n (u k)) (fun q => by cases q) (by rw [arrV_size]; exact hin) rfl rfl hdg fun H1 e z oq => ?_
  exact kk H1 _ (hw.set hk (Or.inr ⟨h12, by rw [e, arrV_store]⟩) oq) (hS.put z oq (hA _ ⟨k, _, hk, rfl⟩))
theorem tw_bast (hexec : p.tables.exec = Jvm.exec) (hb : c.code = cc) (hK : va_K D cl tys s) (hw : tw_W cl D dA kd ad u H) (hA : ∀ q, tw_A kd ad q → A q) (hS : va_S A H0 H locs) {k t n : Nat} (hk : kd k = some (t, n)) (h12 : 12 ≤ t) (t0 : Nat) (ht : tys[t0]? = some (dA t, .byte)) {i x : Int32} (hin : vp_in i n) (hdg : decode cc pc = .ok (.bastore, 1))
    (kk : ∀ (H1 : Heap) (locs1 : List Loc), tw_W cl D dA kd ad (t_up u k i.toNatClampNeg (narrow .byte (.int x))) H1 → va_S A H0 H1 locs1 → W p l e R s m args below meth c H1 locs1 cells slots Q (F0 m (pc + 1) ls rest)) : W p l e R s m args below meth c H locs cells slots Q (F0 m pc ls (.int x :: .int i :: .ref (ad k) :: rest)) := by
  refine W.bast hexec hb (tw_arr hw hk h12) ((hK.2 t0 _ ht).1 n (u k)) (fun q => by cases q) (by rw [arrV_size]; exact hin) rfl rfl hdg fun H1 e z oq => ?_
  exact kk H1 _ (hw.set hk (Or.inr ⟨h12, by rw [e, arrV_store]⟩) oq) (hS.put z oq (hA _ ⟨k, _, hk, rfl⟩))
theorem tw_zast (hexec : p.tables.exec = Jvm.exec) (hb : c.code = cc) (hK : va_K D cl tys s) (hw : tw_W cl D dA kd ad u H) (hA : ∀ q, tw_A kd ad q → A q) (hS : va_S A H0 H locs) {k t n : Nat} (hk : kd k = some (t, n)) (h12 : 12 ≤ t) (t0 : Nat) (ht : tys[t0]? = some (dA t, .boolean)) {i x : Int32} (hin : vp_in i n) (hdg : decode cc pc = .ok (.bastore, 1))
    (kk : ∀ (H1 : Heap) (locs1 : List Loc), tw_W cl D dA kd ad (t_up u k i.toNatClampNeg (narrow .boolean (.int x))) H1 → va_S A H0 H1 locs1 → W p l e R s m args below meth c H1 locs1 cells slots Q (F0 m (pc + 1) ls rest)) : W p l e R s m args below meth c H locs cells slots Q (F0 m pc ls (.int x :: .int i :: .ref (ad k) :: rest)) := by
  refine W.zast hexec hb (tw_arr hw hk h12) ((hK.2 t0 _ ht).1 n (u k)) (fun q => by cases q) (by rw [arrV_size]; exact hin) rfl rfl hdg fun H1 e z oq => ?_
  exact kk H1 _ (hw.set hk (Or.inr ⟨h12, by rw [e, arrV_store]⟩) oq) (hS.put z oq (hA _ ⟨k, _, hk, rfl⟩))
end TR
end
section
theorem tb_sub (ws : List Cond) (is : List Nat) (h : ws.map some = is.map (fun i => lw_tbl[i]?)) (hg : ws.all tb_good = true) : ∀ w ∈ ws, w ∈ BIG := by
  intro w hw
  have h1 : some w ∈ ws.map some := List.mem_map.mpr ⟨w, hw, rfl⟩
  rw [h] at h1
  obtain ⟨i, -, hi⟩ := List.mem_map.mp h1
  exact List.mem_filter.mpr ⟨List.mem_of_getElem? hi, List.all_eq_true.mp hg w hw⟩
def N_X0 : String := "CoalTurns$Buyer"
def T_X0 : u_T := fun k => match k with
  | 0 => ("CoalTurns$Buyer", "ward", "I", false)
  | 1 => ("CoalTurns$Buyer", "sort", "I", false)
  | 2 => ("CoalTurns$Buyer", "want", "I", false)
  | _ => ("CoalTurns$Buyer", "bid", "I", false)
def y_X0 : Nat → FieldType := fun k => match k with
  | 0 => .int
  | 1 => .int
  | 2 => .int
  | _ => .int
theorem nm_X0 : ∀ a, a < 4 → ∀ b, b < 4 → a ≠ b → (T_X0 a).2.1 ≠ (T_X0 b).2.1 := by decide +kernel
theorem ty_X0 : ∀ k, k < 4 → parseFieldDescriptor (T_X0 k).2.2.1 = some (y_X0 k) := by decide +kernel
def N_X1 : String := "CoalTurns$DayBook"
def T_X1 : u_T := fun k => match k with
  | 0 => ("CoalTurns$DayBook", "ships", "[I", true)
  | 1 => ("CoalTurns$DayBook", "buyers", "[I", true)
  | 2 => ("CoalTurns$DayBook", "amounts", "[I", true)
  | 3 => ("CoalTurns$DayBook", "prices", "[I", true)
  | 4 => ("CoalTurns$DayBook", "size", "I", false)
  | 5 => ("CoalTurns$DayBook", "measures", "I", false)
  | _ => ("CoalTurns$DayBook", "money", "I", false)
def y_X1 : Nat → FieldType := fun k => match k with
  | 0 => .array (.int)
  | 1 => .array (.int)
  | 2 => .array (.int)
  | 3 => .array (.int)
  | 4 => .int
  | 5 => .int
  | _ => .int
theorem nm_X1 : ∀ a, a < 7 → ∀ b, b < 7 → a ≠ b → (T_X1 a).2.1 ≠ (T_X1 b).2.1 := by decide +kernel
theorem ty_X1 : ∀ k, k < 7 → parseFieldDescriptor (T_X1 k).2.2.1 = some (y_X1 k) := by decide +kernel
def N_X2 : String := "CoalTurns$Lighters"
def T_X2 : u_T := fun k => match k with
  | 0 => ("CoalTurns$Lighters", "sold", "[I", true)
  | _ => ("CoalTurns$Lighters", "busy", "[I", true)
def y_X2 : Nat → FieldType := fun k => match k with
  | 0 => .array (.int)
  | _ => .array (.int)
theorem nm_X2 : ∀ a, a < 2 → ∀ b, b < 2 → a ≠ b → (T_X2 a).2.1 ≠ (T_X2 b).2.1 := by decide +kernel
theorem ty_X2 : ∀ k, k < 2 → parseFieldDescriptor (T_X2 k).2.2.1 = some (y_X2 k) := by decide +kernel
def N_X3 : String := "CoalTurns$Order"
def T_X3 : u_T := fun k => match k with
  | 0 => ("CoalTurns$Order", "partSellers", "[I", true)
  | 1 => ("CoalTurns$Order", "partPrices", "[I", true)
  | 2 => ("CoalTurns$Order", "partBelow", "[Z", true)
  | 3 => ("CoalTurns$Order", "parts", "I", false)
  | 4 => ("CoalTurns$Order", "otherwise", "I", false)
  | 5 => ("CoalTurns$Order", "key", "I", false)
  | _ => ("CoalTurns$Order", "from", "I", false)
def y_X3 : Nat → FieldType := fun k => match k with
  | 0 => .array (.int)
  | 1 => .array (.int)
  | 2 => .array (.boolean)
  | 3 => .int
  | 4 => .int
  | 5 => .int
  | _ => .int
theorem nm_X3 : ∀ a, a < 7 → ∀ b, b < 7 → a ≠ b → (T_X3 a).2.1 ≠ (T_X3 b).2.1 := by decide +kernel
theorem ty_X3 : ∀ k, k < 7 → parseFieldDescriptor (T_X3 k).2.2.1 = some (y_X3 k) := by decide +kernel
def N_X4 : String := "CoalTurns$OrderBook"
def T_X4 : u_T := fun k => match k with
  | 0 => ("CoalTurns$OrderBook", "rows", "[LCoalTurns$Order;", true)
  | 1 => ("CoalTurns$OrderBook", "custom", "LCoalTurns$Order;", true)
  | _ => ("CoalTurns$OrderBook", "size", "I", false)
def y_X4 : Nat → FieldType := fun k => match k with
  | 0 => .array (.object "CoalTurns$Order")
  | 1 => .object "CoalTurns$Order"
  | _ => .int
theorem nm_X4 : ∀ a, a < 3 → ∀ b, b < 3 → a ≠ b → (T_X4 a).2.1 ≠ (T_X4 b).2.1 := by decide +kernel
theorem ty_X4 : ∀ k, k < 3 → parseFieldDescriptor (T_X4 k).2.2.1 = some (y_X4 k) := by decide +kernel
def N_X5 : String := "CoalTurns$Queue"
def T_X5 : u_T := fun k => match k with
  | 0 => ("CoalTurns$Queue", "ships", "[I", true)
  | 1 => ("CoalTurns$Queue", "ranks", "[I", true)
  | _ => ("CoalTurns$Queue", "size", "I", false)
def y_X5 : Nat → FieldType := fun k => match k with
  | 0 => .array (.int)
  | 1 => .array (.int)
  | _ => .int
theorem nm_X5 : ∀ a, a < 3 → ∀ b, b < 3 → a ≠ b → (T_X5 a).2.1 ≠ (T_X5 b).2.1 := by decide +kernel
theorem ty_X5 : ∀ k, k < 3 → parseFieldDescriptor (T_X5 k).2.2.1 = some (y_X5 k) := by decide +kernel
def N_X6 : String := "CoalTurns$River"
def T_X6 : u_T := fun k => match k with
  | 0 => ("CoalTurns$River", "ships", "[LCoalTurns$Ship;", true)
  | 1 => ("CoalTurns$River", "buyers", "[LCoalTurns$Buyer;", true)
  | 2 => ("CoalTurns$River", "wards", "[LCoalTurns$Ward;", true)
  | 3 => ("CoalTurns$River", "shipCount", "I", false)
  | 4 => ("CoalTurns$River", "buyerCount", "I", false)
  | 5 => ("CoalTurns$River", "today", "I", false)
  | _ => ("CoalTurns$River", "price", "I", false)
def y_X6 : Nat → FieldType := fun k => match k with
  | 0 => .array (.object "CoalTurns$Ship")
  | 1 => .array (.object "CoalTurns$Buyer")
  | 2 => .array (.object "CoalTurns$Ward")
  | 3 => .int
  | 4 => .int
  | 5 => .int
  | _ => .int
theorem nm_X6 : ∀ a, a < 7 → ∀ b, b < 7 → a ≠ b → (T_X6 a).2.1 ≠ (T_X6 b).2.1 := by decide +kernel
theorem ty_X6 : ∀ k, k < 7 → parseFieldDescriptor (T_X6 k).2.2.1 = some (y_X6 k) := by decide +kernel
def N_X7 : String := "CoalTurns$Ship"
def T_X7 : u_T := fun k => match k with
  | 0 => ("CoalTurns$Ship", "kind", "I", false)
  | 1 => ("CoalTurns$Ship", "sort", "I", false)
  | 2 => ("CoalTurns$Ship", "load", "I", false)
  | 3 => ("CoalTurns$Ship", "ask", "I", false)
  | 4 => ("CoalTurns$Ship", "factor", "I", false)
  | 5 => ("CoalTurns$Ship", "way", "I", false)
  | 6 => ("CoalTurns$Ship", "left", "I", false)
  | 7 => ("CoalTurns$Ship", "state", "I", false)
  | 8 => ("CoalTurns$Ship", "entered", "I", false)
  | 9 => ("CoalTurns$Ship", "missed", "I", false)
  | 10 => ("CoalTurns$Ship", "sold", "I", false)
  | 11 => ("CoalTurns$Ship", "taken", "I", false)
  | _ => ("CoalTurns$Ship", "dues", "I", false)
def y_X7 : Nat → FieldType := fun k => match k with
  | 0 => .int
  | 1 => .int
  | 2 => .int
  | 3 => .int
  | 4 => .int
  | 5 => .int
  | 6 => .int
  | 7 => .int
  | 8 => .int
  | 9 => .int
  | 10 => .int
  | 11 => .int
  | _ => .int
theorem nm_X7 : ∀ a, a < 13 → ∀ b, b < 13 → a ≠ b → (T_X7 a).2.1 ≠ (T_X7 b).2.1 := by decide +kernel
theorem ty_X7 : ∀ k, k < 13 → parseFieldDescriptor (T_X7 k).2.2.1 = some (y_X7 k) := by decide +kernel
def N_X8 : String := "CoalTurns$Tape"
def T_X8 : u_T := fun k => match k with
  | 0 => ("CoalTurns$Tape", "bytes", "[I", true)
  | 1 => ("CoalTurns$Tape", "size", "I", false)
  | _ => ("CoalTurns$Tape", "at", "I", false)
def y_X8 : Nat → FieldType := fun k => match k with
  | 0 => .array (.int)
  | 1 => .int
  | _ => .int
theorem nm_X8 : ∀ a, a < 3 → ∀ b, b < 3 → a ≠ b → (T_X8 a).2.1 ≠ (T_X8 b).2.1 := by decide +kernel
theorem ty_X8 : ∀ k, k < 3 → parseFieldDescriptor (T_X8 k).2.2.1 = some (y_X8 k) := by decide +kernel
def N_X9 : String := "CoalTurns$Ward"
def T_X9 : u_T := fun k => match k with
  | 0 => ("CoalTurns$Ward", "burns", "[I", true)
  | 1 => ("CoalTurns$Ward", "store", "I", false)
  | 2 => ("CoalTurns$Ward", "lacked", "I", false)
  | 3 => ("CoalTurns$Ward", "burnt", "I", false)
  | _ => ("CoalTurns$Ward", "came", "I", false)
def y_X9 : Nat → FieldType := fun k => match k with
  | 0 => .array (.int)
  | 1 => .int
  | 2 => .int
  | 3 => .int
  | _ => .int
theorem nm_X9 : ∀ a, a < 5 → ∀ b, b < 5 → a ≠ b → (T_X9 a).2.1 ≠ (T_X9 b).2.1 := by decide +kernel
theorem ty_X9 : ∀ k, k < 5 → parseFieldDescriptor (T_X9 k).2.2.1 = some (y_X9 k) := by decide +kernel
def N_X10 : String := "CoalTurns"
def T_X10 : u_T := fun k => match k with
  | 0 => ("CoalTurns", "now", "LCoalTurns$River;", true)
  | 1 => ("CoalTurns", "then", "LCoalTurns$River;", true)
  | 2 => ("CoalTurns", "trial", "LCoalTurns$River;", true)
  | 3 => ("CoalTurns", "queue", "LCoalTurns$Queue;", true)
  | 4 => ("CoalTurns", "queueThen", "LCoalTurns$Queue;", true)
  | 5 => ("CoalTurns", "book", "LCoalTurns$DayBook;", true)
  | 6 => ("CoalTurns", "trialBook", "LCoalTurns$DayBook;", true)
  | 7 => ("CoalTurns", "lighters", "LCoalTurns$Lighters;", true)
  | 8 => ("CoalTurns", "orders", "LCoalTurns$OrderBook;", true)
  | 9 => ("CoalTurns", "tape", "LCoalTurns$Tape;", true)
  | 10 => ("CoalTurns", "marketWasHeld", "Z", false)
  | 11 => ("CoalTurns", "least", "I", false)
  | _ => ("CoalTurns", "most", "I", false)
def y_X10 : Nat → FieldType := fun k => match k with
  | 0 => .object "CoalTurns$River"
  | 1 => .object "CoalTurns$River"
  | 2 => .object "CoalTurns$River"
  | 3 => .object "CoalTurns$Queue"
  | 4 => .object "CoalTurns$Queue"
  | 5 => .object "CoalTurns$DayBook"
  | 6 => .object "CoalTurns$DayBook"
  | 7 => .object "CoalTurns$Lighters"
  | 8 => .object "CoalTurns$OrderBook"
  | 9 => .object "CoalTurns$Tape"
  | 10 => .boolean
  | 11 => .int
  | _ => .int
theorem nm_X10 : ∀ a, a < 13 → ∀ b, b < 13 → a ≠ b → (T_X10 a).2.1 ≠ (T_X10 b).2.1 := by decide +kernel
theorem ty_X10 : ∀ k, k < 13 → parseFieldDescriptor (T_X10 k).2.2.1 = some (y_X10 k) := by decide +kernel
def N_X11 : String := "CoalTurnsModel"
def T_X11 : u_T := fun k => match k with
  | 0 => ("CoalTurnsModel", "code", "I", false)
  | 1 => ("CoalTurnsModel", "ships", "I", false)
  | 2 => ("CoalTurnsModel", "kind", "[I", true)
  | 3 => ("CoalTurnsModel", "sort", "[I", true)
  | 4 => ("CoalTurnsModel", "load", "[I", true)
  | 5 => ("CoalTurnsModel", "ask", "[I", true)
  | 6 => ("CoalTurnsModel", "factor", "[I", true)
  | 7 => ("CoalTurnsModel", "way", "[I", true)
  | 8 => ("CoalTurnsModel", "left", "[I", true)
  | 9 => ("CoalTurnsModel", "state", "[I", true)
  | 10 => ("CoalTurnsModel", "entered", "[I", true)
  | 11 => ("CoalTurnsModel", "missed", "[I", true)
  | 12 => ("CoalTurnsModel", "sold", "[I", true)
  | 13 => ("CoalTurnsModel", "took", "[I", true)
  | 14 => ("CoalTurnsModel", "dues", "[I", true)
  | 15 => ("CoalTurnsModel", "buyers", "I", false)
  | 16 => ("CoalTurnsModel", "buyerWard", "[I", true)
  | 17 => ("CoalTurnsModel", "buyerSort", "[I", true)
  | 18 => ("CoalTurnsModel", "wants", "[I", true)
  | 19 => ("CoalTurnsModel", "bid", "[I", true)
  | 20 => ("CoalTurnsModel", "stores", "[I", true)
  | 21 => ("CoalTurnsModel", "lacks", "[I", true)
  | 22 => ("CoalTurnsModel", "burnt", "[I", true)
  | 23 => ("CoalTurnsModel", "came", "[I", true)
  | 24 => ("CoalTurnsModel", "burns", "[I", true)
  | 25 => ("CoalTurnsModel", "today", "I", false)
  | 26 => ("CoalTurnsModel", "price", "I", false)
  | 27 => ("CoalTurnsModel", "bargains", "I", false)
  | 28 => ("CoalTurnsModel", "bargainShip", "[I", true)
  | 29 => ("CoalTurnsModel", "bargainBuyer", "[I", true)
  | 30 => ("CoalTurnsModel", "bargainMany", "[I", true)
  | 31 => ("CoalTurnsModel", "bargainPrice", "[I", true)
  | 32 => ("CoalTurnsModel", "tape", "[B", true)
  | 33 => ("CoalTurnsModel", "taped", "I", false)
  | 34 => ("CoalTurnsModel", "orders", "I", false)
  | 35 => ("CoalTurnsModel", "orderDay", "[I", true)
  | 36 => ("CoalTurnsModel", "key", "[I", true)
  | 37 => ("CoalTurnsModel", "parts", "[I", true)
  | 38 => ("CoalTurnsModel", "partMany", "[I", true)
  | 39 => ("CoalTurnsModel", "partLess", "[Z", true)
  | 40 => ("CoalTurnsModel", "partPrice", "[I", true)
  | 41 => ("CoalTurnsModel", "lastMany", "[I", true)
  | 42 => ("CoalTurnsModel", "at", "I", false)
  | 43 => ("CoalTurnsModel", "number", "I", false)
  | 44 => ("CoalTurnsModel", "turns", "I", false)
  | 45 => ("CoalTurnsModel", "turn", "[I", true)
  | 46 => ("CoalTurnsModel", "keptShips", "[I", true)
  | 47 => ("CoalTurnsModel", "keptRest", "[I", true)
  | 48 => ("CoalTurnsModel", "keptBargains", "[I", true)
  | 49 => ("CoalTurnsModel", "marketShips", "[I", true)
  | 50 => ("CoalTurnsModel", "marketWants", "[I", true)
  | 51 => ("CoalTurnsModel", "marketBids", "[I", true)
  | 52 => ("CoalTurnsModel", "marketTurn", "[I", true)
  | 53 => ("CoalTurnsModel", "marketMany", "I", false)
  | 54 => ("CoalTurnsModel", "marketTurns", "I", false)
  | 55 => ("CoalTurnsModel", "marketBuyers", "I", false)
  | 56 => ("CoalTurnsModel", "marketPrice", "I", false)
  | 57 => ("CoalTurnsModel", "hasMarket", "Z", false)
  | 58 => ("CoalTurnsModel", "measures", "I", false)
  | 59 => ("CoalTurnsModel", "coins", "I", false)
  | 60 => ("CoalTurnsModel", "hours", "[I", true)
  | 61 => ("CoalTurnsModel", "gang", "[I", true)
  | 62 => ("CoalTurnsModel", "seen", "[Z", true)
  | 63 => ("CoalTurnsModel", "tryLeft", "[I", true)
  | 64 => ("CoalTurnsModel", "tryWants", "[I", true)
  | 65 => ("CoalTurnsModel", "least", "I", false)
  | _ => ("CoalTurnsModel", "most", "I", false)
def y_X11 : Nat → FieldType := fun k => match k with
  | 0 => .int
  | 1 => .int
  | 2 => .array (.int)
  | 3 => .array (.int)
  | 4 => .array (.int)
  | 5 => .array (.int)
  | 6 => .array (.int)
  | 7 => .array (.int)
  | 8 => .array (.int)
  | 9 => .array (.int)
  | 10 => .array (.int)
  | 11 => .array (.int)
  | 12 => .array (.int)
  | 13 => .array (.int)
  | 14 => .array (.int)
  | 15 => .int
  | 16 => .array (.int)
  | 17 => .array (.int)
  | 18 => .array (.int)
  | 19 => .array (.int)
  | 20 => .array (.int)
  | 21 => .array (.int)
  | 22 => .array (.int)
  | 23 => .array (.int)
  | 24 => .array (.int)
  | 25 => .int
  | 26 => .int
  | 27 => .int
  | 28 => .array (.int)
  | 29 => .array (.int)
  | 30 => .array (.int)
  | 31 => .array (.int)
  | 32 => .array (.byte)
  | 33 => .int
  | 34 => .int
  | 35 => .array (.int)
  | 36 => .array (.int)
  | 37 => .array (.int)
  | 38 => .array (.int)
  | 39 => .array (.boolean)
  | 40 => .array (.int)
  | 41 => .array (.int)
  | 42 => .int
  | 43 => .int
  | 44 => .int
  | 45 => .array (.int)
  | 46 => .array (.int)
  | 47 => .array (.int)
  | 48 => .array (.int)
  | 49 => .array (.int)
  | 50 => .array (.int)
  | 51 => .array (.int)
  | 52 => .array (.int)
  | 53 => .int
  | 54 => .int
  | 55 => .int
  | 56 => .int
  | 57 => .boolean
  | 58 => .int
  | 59 => .int
  | 60 => .array (.int)
  | 61 => .array (.int)
  | 62 => .array (.boolean)
  | 63 => .array (.int)
  | 64 => .array (.int)
  | 65 => .int
  | _ => .int
theorem nm_X11 : ∀ a, a < 67 → ∀ b, b < 67 → a ≠ b → (T_X11 a).2.1 ≠ (T_X11 b).2.1 := by decide +kernel
theorem ty_X11 : ∀ k, k < 67 → parseFieldDescriptor (T_X11 k).2.2.1 = some (y_X11 k) := by decide +kernel
abbrev CLS : List vw_C := [(N_X0, T_X0, 4), (N_X1, T_X1, 7), (N_X2, T_X2, 2), (N_X3, T_X3, 7), (N_X4, T_X4, 3), (N_X5, T_X5, 3), (N_X6, T_X6, 7), (N_X7, T_X7, 13), (N_X8, T_X8, 3), (N_X9, T_X9, 5), (N_X10, T_X10, 13), (N_X11, T_X11, 67)]
theorem uw_X0 : ∀ w ∈ u_ws N_X0 T_X0 4, w ∈ BIG := by
  have h : (u_ws N_X0 T_X0 4).map some = [152, 154, 156, 158].map (fun i => lw_tbl[i]?) := by decide +kernel
  exact tb_sub _ _ h (by decide +kernel)
theorem uw_X1 : ∀ w ∈ u_ws N_X1 T_X1 7, w ∈ BIG := by
  have h : (u_ws N_X1 T_X1 7).map some = [259, 261, 263, 265, 267, 269, 271].map (fun i => lw_tbl[i]?) := by decide +kernel
  exact tb_sub _ _ h (by decide +kernel)
theorem uw_X2 : ∀ w ∈ u_ws N_X2 T_X2 2, w ∈ BIG := by
  have h : (u_ws N_X2 T_X2 2).map some = [282, 284].map (fun i => lw_tbl[i]?) := by decide +kernel
  exact tb_sub _ _ h (by decide +kernel)
theorem uw_X3 : ∀ w ∈ u_ws N_X3 T_X3 7, w ∈ BIG := by
  have h : (u_ws N_X3 T_X3 7).map some = [312, 314, 316, 318, 320, 322, 324].map (fun i => lw_tbl[i]?) := by decide +kernel
  exact tb_sub _ _ h (by decide +kernel)
theorem uw_X4 : ∀ w ∈ u_ws N_X4 T_X4 3, w ∈ BIG := by
  have h : (u_ws N_X4 T_X4 3).map some = [333, 335, 337].map (fun i => lw_tbl[i]?) := by decide +kernel
  exact tb_sub _ _ h (by decide +kernel)
theorem uw_X5 : ∀ w ∈ u_ws N_X5 T_X5 3, w ∈ BIG := by
  have h : (u_ws N_X5 T_X5 3).map some = [232, 234, 236].map (fun i => lw_tbl[i]?) := by decide +kernel
  exact tb_sub _ _ h (by decide +kernel)
theorem uw_X6 : ∀ w ∈ u_ws N_X6 T_X6 7, w ∈ BIG := by
  have h : (u_ws N_X6 T_X6 7).map some = [204, 206, 208, 210, 212, 214, 216].map (fun i => lw_tbl[i]?) := by decide +kernel
  exact tb_sub _ _ h (by decide +kernel)
theorem uw_X7 : ∀ w ∈ u_ws N_X7 T_X7 13, w ∈ BIG := by
  have h : (u_ws N_X7 T_X7 13).map some = [111, 113, 115, 117, 119, 121, 123, 125, 127, 129, 131, 133, 135].map (fun i => lw_tbl[i]?) := by decide +kernel
  exact tb_sub _ _ h (by decide +kernel)
theorem uw_X8 : ∀ w ∈ u_ws N_X8 T_X8 3, w ∈ BIG := by
  have h : (u_ws N_X8 T_X8 3).map some = [350, 352, 354].map (fun i => lw_tbl[i]?) := by decide +kernel
  exact tb_sub _ _ h (by decide +kernel)
theorem uw_X9 : ∀ w ∈ u_ws N_X9 T_X9 5, w ∈ BIG := by
  have h : (u_ws N_X9 T_X9 5).map some = [174, 176, 178, 180, 182].map (fun i => lw_tbl[i]?) := by decide +kernel
  exact tb_sub _ _ h (by decide +kernel)
theorem uw_X10 : ∀ w ∈ u_ws N_X10 T_X10 13, w ∈ BIG := by
  have h : (u_ws N_X10 T_X10 13).map some = [370, 372, 374, 376, 378, 380, 382, 384, 386, 388, 390, 392, 394].map (fun i => lw_tbl[i]?) := by decide +kernel
  exact tb_sub _ _ h (by decide +kernel)
theorem uw_X11 : ∀ w ∈ u_ws N_X11 T_X11 67, w ∈ BIG := by
  have h : (u_ws N_X11 T_X11 67).map some = [888, 890, 892, 894, 896, 898, 900, 902, 904, 906, 908, 910, 912, 914, 916, 918, 920, 922, 924, 926, 928, 930, 932, 934, 936, 938, 940, 942, 944, 946, 948, 950, 952, 954, 956, 958, 960, 962, 964, 966, 968, 970, 972, 974, 976, 978, 980, 982, 984, 986, 988, 990, 992, 994, 996, 998, 1000, 1002, 1004, 1006, 1008, 1010, 1012, 1014, 1016, 1018, 1020].map (fun i => lw_tbl[i]?) := by decide +kernel
  exact tb_sub _ _ h (by decide +kernel)
def KD0 : Nat → Option (Nat × Nat) := fun k => match k with
  | 0 => some (10, 0)
  | 1 => some (6, 0)
  | 2 => some (6, 0)
  | 3 => some (6, 0)
  | 10 => some (15, 20)
  | 11 => some (15, 20)
  | 12 => some (15, 20)
  | 13 => some (16, 10)
  | 14 => some (16, 10)
  | 15 => some (16, 10)
  | 16 => some (17, 6)
  | 17 => some (17, 6)
  | 18 => some (17, 6)
  | 20 => some (5, 0)
  | 21 => some (5, 0)
  | 22 => some (12, 20)
  | 23 => some (12, 20)
  | 24 => some (12, 20)
  | 25 => some (12, 20)
  | 30 => some (1, 0)
  | 31 => some (1, 0)
  | 32 => some (12, 30)
  | 33 => some (12, 30)
  | 34 => some (12, 30)
  | 35 => some (12, 30)
  | 36 => some (12, 30)
  | 37 => some (12, 30)
  | 38 => some (12, 30)
  | 39 => some (12, 30)
  | 40 => some (2, 0)
  | 41 => some (12, 7)
  | 42 => some (12, 3)
  | 50 => some (4, 0)
  | 51 => some (18, 8)
  | 55 => some (8, 0)
  | 56 => some (12, 120)
  | _ => none
def KDM : Nat → Option (Nat × Nat) := fun k => match k with
  | 400 => some (11, 0)
  | 403 => some (12, 20)
  | 404 => some (12, 20)
  | 405 => some (12, 20)
  | 406 => some (12, 20)
  | 407 => some (12, 20)
  | 408 => some (12, 20)
  | 409 => some (12, 20)
  | 410 => some (12, 20)
  | 411 => some (12, 20)
  | 412 => some (12, 20)
  | 413 => some (12, 20)
  | 414 => some (12, 20)
  | 415 => some (12, 20)
  | 417 => some (12, 10)
  | 418 => some (12, 10)
  | 419 => some (12, 10)
  | 420 => some (12, 10)
  | 421 => some (12, 6)
  | 422 => some (12, 6)
  | 423 => some (12, 6)
  | 424 => some (12, 6)
  | 425 => some (12, 30)
  | 429 => some (12, 200)
  | 430 => some (12, 200)
  | 431 => some (12, 200)
  | 432 => some (12, 200)
  | 433 => some (13, 120)
  | 436 => some (12, 8)
  | 437 => some (12, 8)
  | 438 => some (12, 8)
  | 439 => some (12, 24)
  | 440 => some (14, 24)
  | 441 => some (12, 24)
  | 442 => some (12, 8)
  | 446 => some (12, 20)
  | 447 => some (12, 180)
  | 448 => some (12, 43)
  | 449 => some (12, 800)
  | 450 => some (12, 80)
  | 451 => some (12, 10)
  | 452 => some (12, 10)
  | 453 => some (12, 20)
  | 461 => some (12, 7)
  | 462 => some (12, 3)
  | 463 => some (14, 20)
  | 464 => some (12, 20)
  | 465 => some (12, 10)
  | _ => none
def KD : tKd := fun k =>
  if k < 60 then KD0 k else if k < 69 then some (3, 0) else if k < 70 then none else if k < 79 then some (12, 3) else if k < 80 then none else if k < 89 then some (12, 3) else if k < 90 then none else if k < 99 then some (14, 3)
  else if k < 100 then none else if k < 160 then some (7, 0) else if k < 200 then none else if k < 230 then some (0, 0) else if k < 300 then none else if k < 318 then some (9, 0) else if k < 320 then none else if k < 338 then some (12, 5) else if k < 400 then none else KDM k
def SH0 : Nat → Nat → Option Nat := fun k j => match k with
  | 0 => (match j with | 0 => some 1 | 1 => some 2 | 2 => some 3 | 3 => some 20 | 4 => some 21 | 5 => some 30 | 6 => some 31 | 7 => some 40 | 8 => some 50 | 9 => some 55 | _ => none)
  | 1 => (match j with | 0 => some 10 | 1 => some 13 | 2 => some 16 | _ => none)
  | 2 => (match j with | 0 => some 11 | 1 => some 14 | 2 => some 17 | _ => none)
  | 3 => (match j with | 0 => some 12 | 1 => some 15 | 2 => some 18 | _ => none)
  | 10 => some (100 + j)
  | 13 => some (200 + j)
  | 16 => some (300 + j)
  | 11 => some (120 + j)
  | 14 => some (210 + j)
  | 17 => some (306 + j)
  | 12 => some (140 + j)
  | 15 => some (220 + j)
  | 18 => some (312 + j)
  | 20 => (match j with | 0 => some 22 | 1 => some 24 | _ => none)
  | 30 => (match j with | 0 => some 32 | 1 => some 34 | 2 => some 36 | 3 => some 38 | _ => none)
  | 21 => (match j with | 0 => some 23 | 1 => some 25 | _ => none)
  | 31 => (match j with | 0 => some 33 | 1 => some 35 | 2 => some 37 | 3 => some 39 | _ => none)
  | 40 => (match j with | 0 => some 41 | 1 => some 42 | _ => none)
  | 50 => (match j with | 0 => some 51 | 1 => some 68 | _ => none)
  | 51 => some (60 + j)
  | 55 => (match j with | 0 => some 56 | _ => none)
  | _ => none
def SHM : Nat → Option Nat := fun j => match j with
  | 2 => some 403
  | 3 => some 404
  | 4 => some 405
  | 5 => some 406
  | 6 => some 407
  | 7 => some 408
  | 8 => some 409
  | 9 => some 410
  | 10 => some 411
  | 11 => some 412
  | 12 => some 413
  | 13 => some 414
  | 14 => some 415
  | 16 => some 417
  | 17 => some 418
  | 18 => some 419
  | 19 => some 420
  | 20 => some 421
  | 21 => some 422
  | 22 => some 423
  | 23 => some 424
  | 24 => some 425
  | 28 => some 429
  | 29 => some 430
  | 30 => some 431
  | 31 => some 432
  | 32 => some 433
  | 35 => some 436
  | 36 => some 437
  | 37 => some 438
  | 38 => some 439
  | 39 => some 440
  | 40 => some 441
  | 41 => some 442
  | 45 => some 446
  | 46 => some 447
  | 47 => some 448
  | 48 => some 449
  | 49 => some 450
  | 50 => some 451
  | 51 => some 452
  | 52 => some 453
  | 60 => some 461
  | 61 => some 462
  | 62 => some 463
  | 63 => some 464
  | 64 => some 465
  | _ => none
/-- the places that hold a reference, and to which cell -/
def SH : Nat → Nat → Option Nat := fun k j =>
  if k < 60 then SH0 k j else if k < 69 then (match j with | 0 => some (k + 10) | 1 => some (k + 20) | 2 => some (k + 30) | _ => none)
  else if k < 300 then none else if k < 318 then (match j with | 0 => some (k + 20) | _ => none) else if k = 400 then SHM j else none
/-- ranges that hold always -/
def RG0 : Nat → Nat → Option (Int × Int) := fun k j => match k with
  | 1 => (match j with | 3 => some (0, 20) | 4 => some (0, 10) | _ => none)
  | 2 => (match j with | 3 => some (0, 20) | 4 => some (0, 10) | _ => none)
  | 3 => (match j with | 3 => some (0, 20) | 4 => some (0, 10) | _ => none)
  | 20 => (match j with | 2 => some (0, 20) | _ => none)
  | 21 => (match j with | 2 => some (0, 20) | _ => none)
  | 22 => some (0, 19)
  | 23 => some (0, 19)
  | 30 => (match j with | 4 => some (0, 30) | _ => none)
  | 31 => (match j with | 4 => some (0, 30) | _ => none)
  | 50 => (match j with | 2 => some (0, 8) | _ => none)
  | 55 => (match j with | 1 => some (0, 120) | 2 => some (0, 120) | _ => none)
  | _ => none
def RGM : Nat → Nat → Option (Int × Int) := fun k j => match k with
  | 400 => (match j with | 1 => some (0, 20) | 15 => some (0, 10) | 27 => some (0, 200) | 33 => some (0, 120) | 34 => some (0, 8) | 42 => some (0, 120) | 43 => some (0, 999) | 44 => some (0, 20) | 53 => some (0, 20) | 54 => some (0, 20) | 55 => some (0, 10) | _ => none)
  | 417 => some (0, 5)
  | 438 => some (0, 3)
  | 439 => some (0, 99)
  | 442 => some (0, 99)
  | 446 => some (0, 19)
  | 429 => some (0, 19)
  | 453 => some (0, 19)
  | 448 => (match j with | 36 => some (0, 200) | _ => none)
  | _ => none
def RG : Nat → Nat → Option (Int × Int) := fun k j =>
  if k < 60 then RG0 k j else if k < 69 then (match j with | 3 => some (0, 3) | 4 => some (0, 99) | _ => none) else if k < 70 then none else if k < 79 then some (0, 99)
  else if k < 200 then none else if k < 230 then (match j with | 0 => some (0, 5) | _ => none) else if k < 400 then none else RGM k j
/-- places that only the calls which are made for it change -/
def PSM : Nat → Nat → Bool := fun k j => match k with
  | 400 => (match j with | 1 => true | 15 => true | 33 => true | 65 => true | 66 => true | _ => false)
  | 403 => true
  | 405 => true
  | 406 => true
  | 425 => true
  | _ => false
def PS : Nat → Nat → Bool := fun k j =>
  if k = 0 then (match j with | 11 => true | 12 => true | _ => false) else if k = 1 then (match j with | 3 => true | 4 => true | _ => false) else if k = 55 then (match j with | 1 => true | _ => false)
  else if k < 100 then false else if k < 120 then (match j with | 2 => true | 3 => true | _ => false) else if k < 320 then false else if k < 326 then true else if k < 400 then false else PSM k j
-- methods
abbrev c_X0_init : ByteArray := prog_2_method_1_code
def m_X0_init : MethodName := ⟨"CoalTurns$Buyer", "<init>", "()V"⟩
abbrev c_X0_begin : ByteArray := prog_2_method_2_code
def m_X0_begin : MethodName := ⟨"CoalTurns$Buyer", "begin", "(IIII)V"⟩
abbrev c_X0_copy : ByteArray := prog_2_method_3_code
def m_X0_copy : MethodName := ⟨"CoalTurns$Buyer", "copy", "(LCoalTurns$Buyer;)V"⟩
abbrev c_X0_takes : ByteArray := prog_2_method_4_code
def m_X0_takes : MethodName := ⟨"CoalTurns$Buyer", "takes", "(LCoalTurns$Ship;)Z"⟩
abbrev c_X1_init : ByteArray := prog_3_method_1_code
def m_X1_init : MethodName := ⟨"CoalTurns$DayBook", "<init>", "()V"⟩
abbrev c_X1_open : ByteArray := prog_3_method_2_code
def m_X1_open : MethodName := ⟨"CoalTurns$DayBook", "open", "()V"⟩
abbrev c_X1_enter : ByteArray := prog_3_method_3_code
def m_X1_enter : MethodName := ⟨"CoalTurns$DayBook", "enter", "(IIII)V"⟩
abbrev c_X1_fact : ByteArray := prog_3_method_4_code
def m_X1_fact : MethodName := ⟨"CoalTurns$DayBook", "fact", "(II)I"⟩
abbrev c_X2_init : ByteArray := prog_4_method_1_code
def m_X2_init : MethodName := ⟨"CoalTurns$Lighters", "<init>", "()V"⟩
abbrev c_X2_hours : ByteArray := prog_4_method_2_code
def m_X2_hours : MethodName := ⟨"CoalTurns$Lighters", "hours", "(LCoalTurns$DayBook;I)I"⟩
abbrev c_X2_gather : ByteArray := prog_4_method_3_code
def m_X2_gather : MethodName := ⟨"CoalTurns$Lighters", "gather", "(LCoalTurns$DayBook;)I"⟩
abbrev c_X2_leastHours : ByteArray := prog_4_method_4_code
def m_X2_leastHours : MethodName := ⟨"CoalTurns$Lighters", "leastHours", "([II[III)I"⟩
abbrev c_X2_longest : ByteArray := prog_4_method_5_code
def m_X2_longest : MethodName := ⟨"CoalTurns$Lighters", "longest", "([II)I"⟩
abbrev c_X3_init : ByteArray := prog_5_method_1_code
def m_X3_init : MethodName := ⟨"CoalTurns$Order", "<init>", "()V"⟩
abbrev c_X3_addPart : ByteArray := prog_5_method_2_code
def m_X3_addPart : MethodName := ⟨"CoalTurns$Order", "addPart", "(IZI)V"⟩
abbrev c_X3_sellers : ByteArray := prog_5_method_3_code
def m_X3_sellers : MethodName := ⟨"CoalTurns$Order", "sellers", "(I)I"⟩
abbrev c_X3_keyOf : ByteArray := prog_5_method_4_code
def m_X3_keyOf : MethodName := ⟨"CoalTurns$Order", "keyOf", "(ILCoalTurns$Ship;I)I"⟩
abbrev c_X4_init : ByteArray := prog_6_method_1_code
def m_X4_init : MethodName := ⟨"CoalTurns$OrderBook", "<init>", "()V"⟩
abbrev c_X4_has : ByteArray := prog_6_method_2_code
def m_X4_has : MethodName := ⟨"CoalTurns$OrderBook", "has", "(I)Z"⟩
abbrev c_X4_inForce : ByteArray := prog_6_method_3_code
def m_X4_inForce : MethodName := ⟨"CoalTurns$OrderBook", "inForce", "(I)I"⟩
abbrev c_X4_ruleOn : ByteArray := prog_6_method_4_code
def m_X4_ruleOn : MethodName := ⟨"CoalTurns$OrderBook", "ruleOn", "(I)LCoalTurns$Order;"⟩
abbrev c_X5_init : ByteArray := prog_7_method_1_code
def m_X5_init : MethodName := ⟨"CoalTurns$Queue", "<init>", "()V"⟩
abbrev c_X5_line : ByteArray := prog_7_method_2_code
def m_X5_line : MethodName := ⟨"CoalTurns$Queue", "line", "(LCoalTurns$River;LCoalTurns$Order;)V"⟩
abbrev c_X5_rank : ByteArray := prog_7_method_3_code
def m_X5_rank : MethodName := ⟨"CoalTurns$Queue", "rank", "(ILCoalTurns$Ship;LCoalTurns$Order;I)I"⟩
abbrev c_X5_insert : ByteArray := prog_7_method_4_code
def m_X5_insert : MethodName := ⟨"CoalTurns$Queue", "insert", "(II)V"⟩
abbrev c_X5_putFirst : ByteArray := prog_7_method_5_code
def m_X5_putFirst : MethodName := ⟨"CoalTurns$Queue", "putFirst", "(ILCoalTurns$Queue;)V"⟩
abbrev c_X6_init : ByteArray := prog_8_method_1_code
def m_X6_init : MethodName := ⟨"CoalTurns$River", "<init>", "()V"⟩
abbrev c_X6_copy : ByteArray := prog_8_method_2_code
def m_X6_copy : MethodName := ⟨"CoalTurns$River", "copy", "(LCoalTurns$River;)V"⟩
abbrev c_X6_hasShip : ByteArray := prog_8_method_3_code
def m_X6_hasShip : MethodName := ⟨"CoalTurns$River", "hasShip", "(I)Z"⟩
abbrev c_X6_sail : ByteArray := prog_8_method_4_code
def m_X6_sail : MethodName := ⟨"CoalTurns$River", "sail", "(I)V"⟩
abbrev c_X6_trade : ByteArray := prog_8_method_5_code
def m_X6_trade : MethodName := ⟨"CoalTurns$River", "trade", "(LCoalTurns$Queue;LCoalTurns$DayBook;)V"⟩
abbrev c_X6_sell : ByteArray := prog_8_method_6_code
def m_X6_sell : MethodName := ⟨"CoalTurns$River", "sell", "(ILCoalTurns$DayBook;)Z"⟩
abbrev c_X6_bestBuyer : ByteArray := prog_8_method_7_code
def m_X6_bestBuyer : MethodName := ⟨"CoalTurns$River", "bestBuyer", "(LCoalTurns$Ship;)I"⟩
abbrev c_X6_strike : ByteArray := prog_8_method_8_code
def m_X6_strike : MethodName := ⟨"CoalTurns$River", "strike", "(IILCoalTurns$DayBook;)V"⟩
abbrev c_X6_endDay : ByteArray := prog_8_method_9_code
def m_X6_endDay : MethodName := ⟨"CoalTurns$River", "endDay", "(I)V"⟩
abbrev c_X6_lackedDays : ByteArray := prog_8_method_10_code
def m_X6_lackedDays : MethodName := ⟨"CoalTurns$River", "lackedDays", "()I"⟩
abbrev c_X6_duesOfAll : ByteArray := prog_8_method_11_code
def m_X6_duesOfAll : MethodName := ⟨"CoalTurns$River", "duesOfAll", "()I"⟩
abbrev c_X6_takenFor : ByteArray := prog_8_method_12_code
def m_X6_takenFor : MethodName := ⟨"CoalTurns$River", "takenFor", "(I)I"⟩
abbrev c_X7_init : ByteArray := prog_9_method_1_code
def m_X7_init : MethodName := ⟨"CoalTurns$Ship", "<init>", "()V"⟩
abbrev c_X7_begin : ByteArray := prog_9_method_2_code
def m_X7_begin : MethodName := ⟨"CoalTurns$Ship", "begin", "(IIIIII)V"⟩
abbrev c_X7_copy : ByteArray := prog_9_method_3_code
def m_X7_copy : MethodName := ⟨"CoalTurns$Ship", "copy", "(LCoalTurns$Ship;)V"⟩
abbrev c_X7_fact : ByteArray := prog_9_method_4_code
def m_X7_fact : MethodName := ⟨"CoalTurns$Ship", "fact", "(I)I"⟩
abbrev c_X7_sail : ByteArray := prog_9_method_5_code
def m_X7_sail : MethodName := ⟨"CoalTurns$Ship", "sail", "(II)V"⟩
abbrev c_X7_duesFor : ByteArray := prog_9_method_6_code
def m_X7_duesFor : MethodName := ⟨"CoalTurns$Ship", "duesFor", "(I)I"⟩
abbrev c_X7_founder : ByteArray := prog_9_method_7_code
def m_X7_founder : MethodName := ⟨"CoalTurns$Ship", "founder", "(I)I"⟩
abbrev c_X7_leave : ByteArray := prog_9_method_8_code
def m_X7_leave : MethodName := ⟨"CoalTurns$Ship", "leave", "()I"⟩
abbrev c_X7_deliver : ByteArray := prog_9_method_9_code
def m_X7_deliver : MethodName := ⟨"CoalTurns$Ship", "deliver", "(II)V"⟩
abbrev c_X7_miss : ByteArray := prog_9_method_10_code
def m_X7_miss : MethodName := ⟨"CoalTurns$Ship", "miss", "()V"⟩
abbrev c_X7_isInPort : ByteArray := prog_9_method_11_code
def m_X7_isInPort : MethodName := ⟨"CoalTurns$Ship", "isInPort", "()Z"⟩
abbrev c_X8_init : ByteArray := prog_10_method_1_code
def m_X8_init : MethodName := ⟨"CoalTurns$Tape", "<init>", "()V"⟩
abbrev c_X8_append : ByteArray := prog_10_method_2_code
def m_X8_append : MethodName := ⟨"CoalTurns$Tape", "append", "(I)V"⟩
abbrev c_X8_read : ByteArray := prog_10_method_3_code
def m_X8_read : MethodName := ⟨"CoalTurns$Tape", "read", "(LCoalTurns$Order;)I"⟩
abbrev c_X8_key : ByteArray := prog_10_method_4_code
def m_X8_key : MethodName := ⟨"CoalTurns$Tape", "key", "(LCoalTurns$Order;)Z"⟩
abbrev c_X8_parts : ByteArray := prog_10_method_5_code
def m_X8_parts : MethodName := ⟨"CoalTurns$Tape", "parts", "(LCoalTurns$Order;)Z"⟩
abbrev c_X8_part : ByteArray := prog_10_method_6_code
def m_X8_part : MethodName := ⟨"CoalTurns$Tape", "part", "(LCoalTurns$Order;I)Z"⟩
abbrev c_X8_word : ByteArray := prog_10_method_7_code
def m_X8_word : MethodName := ⟨"CoalTurns$Tape", "word", "(Ljava/lang/String;)Z"⟩
abbrev c_X8_number : ByteArray := prog_10_method_8_code
def m_X8_number : MethodName := ⟨"CoalTurns$Tape", "number", "(I)I"⟩
abbrev c_X9_init : ByteArray := prog_11_method_1_code
def m_X9_init : MethodName := ⟨"CoalTurns$Ward", "<init>", "()V"⟩
abbrev c_X9_copy : ByteArray := prog_11_method_2_code
def m_X9_copy : MethodName := ⟨"CoalTurns$Ward", "copy", "(LCoalTurns$Ward;)V"⟩
abbrev c_X9_fact : ByteArray := prog_11_method_3_code
def m_X9_fact : MethodName := ⟨"CoalTurns$Ward", "fact", "(I)I"⟩
abbrev c_X9_receive : ByteArray := prog_11_method_4_code
def m_X9_receive : MethodName := ⟨"CoalTurns$Ward", "receive", "(I)V"⟩
abbrev c_X9_heat : ByteArray := prog_11_method_5_code
def m_X9_heat : MethodName := ⟨"CoalTurns$Ward", "heat", "(I)V"⟩
abbrev c_X10_init : ByteArray := prog_1_method_1_code
def m_X10_init : MethodName := ⟨"CoalTurns", "<init>", "()V"⟩
abbrev c_X10_ship : ByteArray := prog_1_method_2_code
def m_X10_ship : MethodName := ⟨"CoalTurns", "ship", "(IIIIII)I"⟩
abbrev c_X10_ask : ByteArray := prog_1_method_3_code
def m_X10_ask : MethodName := ⟨"CoalTurns", "ask", "(II)I"⟩
abbrev c_X10_wreck : ByteArray := prog_1_method_4_code
def m_X10_wreck : MethodName := ⟨"CoalTurns", "wreck", "(II)I"⟩
abbrev c_X10_goOn : ByteArray := prog_1_method_5_code
def m_X10_goOn : MethodName := ⟨"CoalTurns", "goOn", "(I)I"⟩
abbrev c_X10_buyer : ByteArray := prog_1_method_6_code
def m_X10_buyer : MethodName := ⟨"CoalTurns", "buyer", "(IIII)I"⟩
abbrev c_X10_want : ByteArray := prog_1_method_7_code
def m_X10_want : MethodName := ⟨"CoalTurns", "want", "(III)I"⟩
abbrev c_X10_burn : ByteArray := prog_1_method_8_code
def m_X10_burn : MethodName := ⟨"CoalTurns", "burn", "(III)I"⟩
abbrev c_X10_store : ByteArray := prog_1_method_9_code
def m_X10_store : MethodName := ⟨"CoalTurns", "store", "(II)I"⟩
abbrev c_X10_feed : ByteArray := prog_1_method_10_code
def m_X10_feed : MethodName := ⟨"CoalTurns", "feed", "(JI)I"⟩
abbrev c_X10_order : ByteArray := prog_1_method_11_code
def m_X10_order : MethodName := ⟨"CoalTurns", "order", "(I)I"⟩
abbrev c_X10_force : ByteArray := prog_1_method_12_code
def m_X10_force : MethodName := ⟨"CoalTurns", "force", "(I)I"⟩
abbrev c_X10_many : ByteArray := prog_1_method_13_code
def m_X10_many : MethodName := ⟨"CoalTurns", "many", "(II)I"⟩
abbrev c_X10_turn : ByteArray := prog_1_method_14_code
def m_X10_turn : MethodName := ⟨"CoalTurns", "turn", "(I)I"⟩
abbrev c_X10_day : ByteArray := prog_1_method_15_code
def m_X10_day : MethodName := ⟨"CoalTurns", "day", "(III)I"⟩
abbrev c_X10_about : ByteArray := prog_1_method_16_code
def m_X10_about : MethodName := ⟨"CoalTurns", "about", "(II)I"⟩
abbrev c_X10_bargain : ByteArray := prog_1_method_17_code
def m_X10_bargain : MethodName := ⟨"CoalTurns", "bargain", "(II)I"⟩
abbrev c_X10_clear : ByteArray := prog_1_method_18_code
def m_X10_clear : MethodName := ⟨"CoalTurns", "clear", "(I)I"⟩
abbrev c_X10_held : ByteArray := prog_1_method_19_code
def m_X10_held : MethodName := ⟨"CoalTurns", "held", "(I)I"⟩
abbrev c_X10_measure : ByteArray := prog_1_method_20_code
def m_X10_measure : MethodName := ⟨"CoalTurns", "measure", "(II)I"⟩
abbrev c_X10_weighed : ByteArray := prog_1_method_21_code
def m_X10_weighed : MethodName := ⟨"CoalTurns", "weighed", "(IIII)I"⟩
abbrev c_X10_ward : ByteArray := prog_1_method_22_code
def m_X10_ward : MethodName := ⟨"CoalTurns", "ward", "(II)I"⟩
abbrev c_X10_lasts : ByteArray := prog_1_method_23_code
def m_X10_lasts : MethodName := ⟨"CoalTurns", "lasts", "(II)I"⟩
abbrev c_X10_tried : ByteArray := prog_1_method_24_code
def m_X10_tried : MethodName := ⟨"CoalTurns", "tried", "(IIIII)I"⟩
abbrev c_X10_count : ByteArray := prog_1_method_25_code
def m_X10_count : MethodName := ⟨"CoalTurns", "count", "(I)I"⟩
abbrev c_X10_factor : ByteArray := prog_1_method_26_code
def m_X10_factor : MethodName := ⟨"CoalTurns", "factor", "(I)I"⟩
abbrev c_X10_tryDay : ByteArray := prog_1_method_27_code
def m_X10_tryDay : MethodName := ⟨"CoalTurns", "tryDay", "(LCoalTurns$Order;II)I"⟩
abbrev c_X10_within : ByteArray := prog_1_method_28_code
def m_X10_within : MethodName := ⟨"CoalTurns", "within", "(III)Z"⟩
abbrev c_X10_isAsk : ByteArray := prog_1_method_29_code
def m_X10_isAsk : MethodName := ⟨"CoalTurns", "isAsk", "(I)Z"⟩
abbrev c_X10_isBid : ByteArray := prog_1_method_30_code
def m_X10_isBid : MethodName := ⟨"CoalTurns", "isBid", "(I)Z"⟩
abbrev c_X10_isWant : ByteArray := prog_1_method_31_code
def m_X10_isWant : MethodName := ⟨"CoalTurns", "isWant", "(I)Z"⟩
abbrev c_X10_isWard : ByteArray := prog_1_method_32_code
def m_X10_isWard : MethodName := ⟨"CoalTurns", "isWard", "(I)Z"⟩
abbrev c_X10_isCold : ByteArray := prog_1_method_33_code
def m_X10_isCold : MethodName := ⟨"CoalTurns", "isCold", "(I)Z"⟩
abbrev c_X10_isWind : ByteArray := prog_1_method_34_code
def m_X10_isWind : MethodName := ⟨"CoalTurns", "isWind", "(I)Z"⟩
abbrev c_X11_init : ByteArray := prog_13_method_1_code
def m_X11_init : MethodName := ⟨"CoalTurnsModel", "<init>", "()V"⟩
abbrev c_X11_in : ByteArray := prog_13_method_3_code
def m_X11_in : MethodName := ⟨"CoalTurnsModel", "in", "(III)Z"⟩
abbrev c_X11_isShip : ByteArray := prog_13_method_4_code
def m_X11_isShip : MethodName := ⟨"CoalTurnsModel", "isShip", "(I)Z"⟩
abbrev c_X11_isBuyer : ByteArray := prog_13_method_5_code
def m_X11_isBuyer : MethodName := ⟨"CoalTurnsModel", "isBuyer", "(I)Z"⟩
abbrev c_X11_isWard : ByteArray := prog_13_method_6_code
def m_X11_isWard : MethodName := ⟨"CoalTurnsModel", "isWard", "(I)Z"⟩
abbrev c_X11_ship : ByteArray := prog_13_method_7_code
def m_X11_ship : MethodName := ⟨"CoalTurnsModel", "ship", "(IIIIII)I"⟩
abbrev c_X11_ask : ByteArray := prog_13_method_8_code
def m_X11_ask : MethodName := ⟨"CoalTurnsModel", "ask", "(II)I"⟩
abbrev c_X11_rate : ByteArray := prog_13_method_9_code
def m_X11_rate : MethodName := ⟨"CoalTurnsModel", "rate", "(I)I"⟩
abbrev c_X11_wreck : ByteArray := prog_13_method_10_code
def m_X11_wreck : MethodName := ⟨"CoalTurnsModel", "wreck", "(II)I"⟩
abbrev c_X11_goOn : ByteArray := prog_13_method_11_code
def m_X11_goOn : MethodName := ⟨"CoalTurnsModel", "goOn", "(I)I"⟩
abbrev c_X11_buyer : ByteArray := prog_13_method_12_code
def m_X11_buyer : MethodName := ⟨"CoalTurnsModel", "buyer", "(IIII)I"⟩
abbrev c_X11_want : ByteArray := prog_13_method_13_code
def m_X11_want : MethodName := ⟨"CoalTurnsModel", "want", "(III)I"⟩
abbrev c_X11_burn : ByteArray := prog_13_method_14_code
def m_X11_burn : MethodName := ⟨"CoalTurnsModel", "burn", "(III)I"⟩
abbrev c_X11_store : ByteArray := prog_13_method_15_code
def m_X11_store : MethodName := ⟨"CoalTurnsModel", "store", "(II)I"⟩
abbrev c_X11_feed : ByteArray := prog_13_method_16_code
def m_X11_feed : MethodName := ⟨"CoalTurnsModel", "feed", "(JI)I"⟩
abbrev c_X11_has : ByteArray := prog_13_method_17_code
def m_X11_has : MethodName := ⟨"CoalTurnsModel", "has", "(I)Z"⟩
abbrev c_X11_takes : ByteArray := prog_13_method_18_code
def m_X11_takes : MethodName := ⟨"CoalTurnsModel", "takes", "(I)Z"⟩
abbrev c_X11_isDigit : ByteArray := prog_13_method_19_code
def m_X11_isDigit : MethodName := ⟨"CoalTurnsModel", "isDigit", "(I)Z"⟩
abbrev c_X11_takesNumber : ByteArray := prog_13_method_20_code
def m_X11_takesNumber : MethodName := ⟨"CoalTurnsModel", "takesNumber", "(I)Z"⟩
abbrev c_X11_takesKey : ByteArray := prog_13_method_21_code
def m_X11_takesKey : MethodName := ⟨"CoalTurnsModel", "takesKey", "(I)Z"⟩
abbrev c_X11_reads : ByteArray := prog_13_method_22_code
def m_X11_reads : MethodName := ⟨"CoalTurnsModel", "reads", "(I)Z"⟩
abbrev c_X11_order : ByteArray := prog_13_method_23_code
def m_X11_order : MethodName := ⟨"CoalTurnsModel", "order", "(I)I"⟩
abbrev c_X11_forceOn : ByteArray := prog_13_method_24_code
def m_X11_forceOn : MethodName := ⟨"CoalTurnsModel", "forceOn", "(I)I"⟩
abbrev c_X11_force : ByteArray := prog_13_method_25_code
def m_X11_force : MethodName := ⟨"CoalTurnsModel", "force", "(I)I"⟩
abbrev c_X11_manyBy : ByteArray := prog_13_method_26_code
def m_X11_manyBy : MethodName := ⟨"CoalTurnsModel", "manyBy", "(II)I"⟩
abbrev c_X11_many : ByteArray := prog_13_method_27_code
def m_X11_many : MethodName := ⟨"CoalTurnsModel", "many", "(II)I"⟩
abbrev c_X11_keyOf : ByteArray := prog_13_method_28_code
def m_X11_keyOf : MethodName := ⟨"CoalTurnsModel", "keyOf", "(II)I"⟩
abbrev c_X11_isAhead : ByteArray := prog_13_method_29_code
def m_X11_isAhead : MethodName := ⟨"CoalTurnsModel", "isAhead", "(III)Z"⟩
abbrev c_X11_findTurns : ByteArray := prog_13_method_30_code
def m_X11_findTurns : MethodName := ⟨"CoalTurnsModel", "findTurns", "(I)V"⟩
abbrev c_X11_turn : ByteArray := prog_13_method_31_code
def m_X11_turn : MethodName := ⟨"CoalTurnsModel", "turn", "(I)I"⟩
abbrev c_X11_arrive : ByteArray := prog_13_method_32_code
def m_X11_arrive : MethodName := ⟨"CoalTurnsModel", "arrive", "(I)V"⟩
abbrev c_X11_next : ByteArray := prog_13_method_33_code
def m_X11_next : MethodName := ⟨"CoalTurnsModel", "next", "(I)I"⟩
abbrev c_X11_strike : ByteArray := prog_13_method_34_code
def m_X11_strike : MethodName := ⟨"CoalTurnsModel", "strike", "(II)V"⟩
abbrev c_X11_sell : ByteArray := prog_13_method_35_code
def m_X11_sell : MethodName := ⟨"CoalTurnsModel", "sell", "(I)V"⟩
abbrev c_X11_market : ByteArray := prog_13_method_36_code
def m_X11_market : MethodName := ⟨"CoalTurnsModel", "market", "(IZ)V"⟩
abbrev c_X11_note : ByteArray := prog_13_method_37_code
def m_X11_note : MethodName := ⟨"CoalTurnsModel", "note", "()V"⟩
abbrev c_X11_go : ByteArray := prog_13_method_38_code
def m_X11_go : MethodName := ⟨"CoalTurnsModel", "go", "(IIZIZ)V"⟩
abbrev c_X11_day : ByteArray := prog_13_method_39_code
def m_X11_day : MethodName := ⟨"CoalTurnsModel", "day", "(III)I"⟩
abbrev c_X11_about : ByteArray := prog_13_method_40_code
def m_X11_about : MethodName := ⟨"CoalTurnsModel", "about", "(II)I"⟩
abbrev c_X11_bargain : ByteArray := prog_13_method_41_code
def m_X11_bargain : MethodName := ⟨"CoalTurnsModel", "bargain", "(II)I"⟩
abbrev c_X11_findHours : ByteArray := prog_13_method_42_code
def m_X11_findHours : MethodName := ⟨"CoalTurnsModel", "findHours", "()I"⟩
abbrev c_X11_clear : ByteArray := prog_13_method_43_code
def m_X11_clear : MethodName := ⟨"CoalTurnsModel", "clear", "(I)I"⟩
abbrev c_X11_sellThen : ByteArray := prog_13_method_44_code
def m_X11_sellThen : MethodName := ⟨"CoalTurnsModel", "sellThen", "(I)V"⟩
abbrev c_X11_held : ByteArray := prog_13_method_45_code
def m_X11_held : MethodName := ⟨"CoalTurnsModel", "held", "(I)I"⟩
abbrev c_X11_measure : ByteArray := prog_13_method_46_code
def m_X11_measure : MethodName := ⟨"CoalTurnsModel", "measure", "(II)I"⟩
abbrev c_X11_weighed : ByteArray := prog_13_method_47_code
def m_X11_weighed : MethodName := ⟨"CoalTurnsModel", "weighed", "(IIII)I"⟩
abbrev c_X11_ward : ByteArray := prog_13_method_48_code
def m_X11_ward : MethodName := ⟨"CoalTurnsModel", "ward", "(II)I"⟩
abbrev c_X11_lasts : ByteArray := prog_13_method_49_code
def m_X11_lasts : MethodName := ⟨"CoalTurnsModel", "lasts", "(II)I"⟩
abbrev c_X11_keep : ByteArray := prog_13_method_50_code
def m_X11_keep : MethodName := ⟨"CoalTurnsModel", "keep", "()V"⟩
abbrev c_X11_putBack : ByteArray := prog_13_method_51_code
def m_X11_putBack : MethodName := ⟨"CoalTurnsModel", "putBack", "()V"⟩
abbrev c_X11_allLacks : ByteArray := prog_13_method_52_code
def m_X11_allLacks : MethodName := ⟨"CoalTurnsModel", "allLacks", "()I"⟩
abbrev c_X11_tried : ByteArray := prog_13_method_53_code
def m_X11_tried : MethodName := ⟨"CoalTurnsModel", "tried", "(IIIII)I"⟩
abbrev c_X11_count : ByteArray := prog_13_method_54_code
def m_X11_count : MethodName := ⟨"CoalTurnsModel", "count", "(I)I"⟩
abbrev c_X11_factor : ByteArray := prog_13_method_55_code
def m_X11_factor : MethodName := ⟨"CoalTurnsModel", "factor", "(I)I"⟩
end
section
theorem tb_good5 {ws : List Cond} (is : List Nat) (h : ws.map some = is.map (fun i => lw_tbl[i]?)) (hg : ws.all tb_good = true) (hg2 : ws.all goodWord = true) : GoodIn BIG ws := tb_goodIn (tb_sub ws is h hg) hg2
theorem fl_X10_10 : Cond.fieldLink N_X10 10 "CoalTurns" (T_X10 0).2.1 (T_X10 0).2.2.1 ∈ BIG := tb_in 357 (by decide +kernel) rfl
theorem fl_X10_16 : Cond.fieldLink N_X10 16 "CoalTurns" (T_X10 1).2.1 (T_X10 1).2.2.1 ∈ BIG := tb_in 358 (by decide +kernel) rfl
theorem fl_X10_19 : Cond.fieldLink N_X10 19 "CoalTurns" (T_X10 2).2.1 (T_X10 2).2.2.1 ∈ BIG := tb_in 359 (by decide +kernel) rfl
theorem fl_X10_25 : Cond.fieldLink N_X10 25 "CoalTurns" (T_X10 3).2.1 (T_X10 3).2.2.1 ∈ BIG := tb_in 360 (by decide +kernel) rfl
theorem fl_X10_29 : Cond.fieldLink N_X10 29 "CoalTurns" (T_X10 4).2.1 (T_X10 4).2.2.1 ∈ BIG := tb_in 361 (by decide +kernel) rfl
theorem fl_X10_35 : Cond.fieldLink N_X10 35 "CoalTurns" (T_X10 5).2.1 (T_X10 5).2.2.1 ∈ BIG := tb_in 362 (by decide +kernel) rfl
theorem fl_X10_39 : Cond.fieldLink N_X10 39 "CoalTurns" (T_X10 6).2.1 (T_X10 6).2.2.1 ∈ BIG := tb_in 363 (by decide +kernel) rfl
theorem fl_X10_45 : Cond.fieldLink N_X10 45 "CoalTurns" (T_X10 7).2.1 (T_X10 7).2.2.1 ∈ BIG := tb_in 364 (by decide +kernel) rfl
theorem fl_X10_52 : Cond.fieldLink N_X10 52 "CoalTurns" (T_X10 8).2.1 (T_X10 8).2.2.1 ∈ BIG := tb_in 365 (by decide +kernel) rfl
theorem fl_X10_59 : Cond.fieldLink N_X10 59 "CoalTurns" (T_X10 9).2.1 (T_X10 9).2.2.1 ∈ BIG := tb_in 366 (by decide +kernel) rfl
theorem fl_X10_63 : Cond.fieldLink N_X10 63 "CoalTurns" (T_X10 10).2.1 (T_X10 10).2.2.1 ∈ BIG := tb_in 367 (by decide +kernel) rfl
theorem fl_X10_67 : Cond.fieldLink N_X10 67 "CoalTurns" (T_X10 11).2.1 (T_X10 11).2.2.1 ∈ BIG := tb_in 368 (by decide +kernel) rfl
theorem fl_X10_71 : Cond.fieldLink N_X10 71 "CoalTurns" (T_X10 12).2.1 (T_X10 12).2.2.1 ∈ BIG := tb_in 369 (by decide +kernel) rfl
theorem fl_X10_82 : Cond.fieldLink N_X10 82 "CoalTurns$River" (T_X6 3).2.1 (T_X6 3).2.2.1 ∈ BIG := tb_in 195 (by decide +kernel) rfl
theorem fl_X10_85 : Cond.fieldLink N_X10 85 "CoalTurns$River" (T_X6 0).2.1 (T_X6 0).2.2.1 ∈ BIG := tb_in 188 (by decide +kernel) rfl
theorem fl_X10_98 : Cond.fieldLink N_X10 98 "CoalTurns$Ship" (T_X7 3).2.1 (T_X7 3).2.2.1 ∈ BIG := tb_in 89 (by decide +kernel) rfl
theorem fl_X10_101 : Cond.fieldLink N_X10 101 "CoalTurns$Ship" (T_X7 6).2.1 (T_X7 6).2.2.1 ∈ BIG := tb_in 97 (by decide +kernel) rfl
theorem fl_X10_104 : Cond.fieldLink N_X10 104 "CoalTurns$Ship" (T_X7 7).2.1 (T_X7 7).2.2.1 ∈ BIG := tb_in 102 (by decide +kernel) rfl
theorem fl_X10_111 : Cond.fieldLink N_X10 111 "CoalTurns$Ship" (T_X7 0).2.1 (T_X7 0).2.2.1 ∈ BIG := tb_in 83 (by decide +kernel) rfl
theorem fl_X10_127 : Cond.fieldLink N_X10 127 "CoalTurns$River" (T_X6 4).2.1 (T_X6 4).2.2.1 ∈ BIG := tb_in 197 (by decide +kernel) rfl
theorem fl_X10_130 : Cond.fieldLink N_X10 130 "CoalTurns$River" (T_X6 1).2.1 (T_X6 1).2.2.1 ∈ BIG := tb_in 190 (by decide +kernel) rfl
theorem fl_X10_139 : Cond.fieldLink N_X10 139 "CoalTurns$Buyer" (T_X0 2).2.1 (T_X0 2).2.2.1 ∈ BIG := tb_in 147 (by decide +kernel) rfl
theorem fl_X10_142 : Cond.fieldLink N_X10 142 "CoalTurns$Buyer" (T_X0 3).2.1 (T_X0 3).2.2.1 ∈ BIG := tb_in 151 (by decide +kernel) rfl
theorem fl_X10_148 : Cond.fieldLink N_X10 148 "CoalTurns$River" (T_X6 2).2.1 (T_X6 2).2.2.1 ∈ BIG := tb_in 192 (by decide +kernel) rfl
theorem fl_X10_152 : Cond.fieldLink N_X10 152 "CoalTurns$Ward" (T_X9 0).2.1 (T_X9 0).2.2.1 ∈ BIG := tb_in 167 (by decide +kernel) rfl
theorem fl_X10_158 : Cond.fieldLink N_X10 158 "CoalTurns$Ward" (T_X9 1).2.1 (T_X9 1).2.2.1 ∈ BIG := tb_in 169 (by decide +kernel) rfl
theorem fl_X10_161 : Cond.fieldLink N_X10 161 "CoalTurns$Tape" (T_X8 1).2.1 (T_X8 1).2.2.1 ∈ BIG := tb_in 348 (by decide +kernel) rfl
theorem fl_X10_168 : Cond.fieldLink N_X10 168 "CoalTurns$OrderBook" (T_X4 2).2.1 (T_X4 2).2.2.1 ∈ BIG := tb_in 332 (by decide +kernel) rfl
theorem fl_X10_169 : Cond.fieldLink N_X10 169 "CoalTurns$OrderBook" (T_X4 0).2.1 (T_X4 0).2.2.1 ∈ BIG := tb_in 329 (by decide +kernel) rfl
theorem fl_X10_177 : Cond.fieldLink N_X10 177 "CoalTurns$Order" (T_X3 6).2.1 (T_X3 6).2.2.1 ∈ BIG := tb_in 311 (by decide +kernel) rfl
theorem fl_X10_191 : Cond.fieldLink N_X10 191 "CoalTurns$River" (T_X6 5).2.1 (T_X6 5).2.2.1 ∈ BIG := tb_in 200 (by decide +kernel) rfl
theorem fl_X10_202 : Cond.fieldLink N_X10 202 "CoalTurns$Queue" (T_X5 2).2.1 (T_X5 2).2.2.1 ∈ BIG := tb_in 231 (by decide +kernel) rfl
theorem fl_X10_203 : Cond.fieldLink N_X10 203 "CoalTurns$Queue" (T_X5 0).2.1 (T_X5 0).2.2.1 ∈ BIG := tb_in 227 (by decide +kernel) rfl
theorem fl_X10_225 : Cond.fieldLink N_X10 225 "CoalTurns$DayBook" (T_X1 5).2.1 (T_X1 5).2.2.1 ∈ BIG := tb_in 256 (by decide +kernel) rfl
theorem fl_X10_242 : Cond.fieldLink N_X10 242 "CoalTurns$River" (T_X6 6).2.1 (T_X6 6).2.2.1 ∈ BIG := tb_in 203 (by decide +kernel) rfl
theorem fl_X10_245 : Cond.fieldLink N_X10 245 "CoalTurns$Ship" (T_X7 2).2.1 (T_X7 2).2.2.1 ∈ BIG := tb_in 87 (by decide +kernel) rfl
theorem fl_X10_261 : Cond.fieldLink N_X10 261 "CoalTurns$DayBook" (T_X1 4).2.1 (T_X1 4).2.2.1 ∈ BIG := tb_in 253 (by decide +kernel) rfl
theorem fl_X0_7 : Cond.fieldLink N_X0 7 "CoalTurns$Buyer" (T_X0 0).2.1 (T_X0 0).2.2.1 ∈ BIG := tb_in 143 (by decide +kernel) rfl
theorem fl_X0_13 : Cond.fieldLink N_X0 13 "CoalTurns$Buyer" (T_X0 1).2.1 (T_X0 1).2.2.1 ∈ BIG := tb_in 145 (by decide +kernel) rfl
theorem fl_X0_16 : Cond.fieldLink N_X0 16 "CoalTurns$Buyer" (T_X0 2).2.1 (T_X0 2).2.2.1 ∈ BIG := tb_in 146 (by decide +kernel) rfl
theorem fl_X0_19 : Cond.fieldLink N_X0 19 "CoalTurns$Buyer" (T_X0 3).2.1 (T_X0 3).2.2.1 ∈ BIG := tb_in 149 (by decide +kernel) rfl
theorem fl_X0_26 : Cond.fieldLink N_X0 26 "CoalTurns$Ship" (T_X7 1).2.1 (T_X7 1).2.2.1 ∈ BIG := tb_in 85 (by decide +kernel) rfl
theorem fl_X0_29 : Cond.fieldLink N_X0 29 "CoalTurns$Ship" (T_X7 3).2.1 (T_X7 3).2.2.1 ∈ BIG := tb_in 90 (by decide +kernel) rfl
theorem fl_X1_11 : Cond.fieldLink N_X1 11 "CoalTurns$DayBook" (T_X1 0).2.1 (T_X1 0).2.2.1 ∈ BIG := tb_in 245 (by decide +kernel) rfl
theorem fl_X1_15 : Cond.fieldLink N_X1 15 "CoalTurns$DayBook" (T_X1 1).2.1 (T_X1 1).2.2.1 ∈ BIG := tb_in 247 (by decide +kernel) rfl
theorem fl_X1_18 : Cond.fieldLink N_X1 18 "CoalTurns$DayBook" (T_X1 2).2.1 (T_X1 2).2.2.1 ∈ BIG := tb_in 248 (by decide +kernel) rfl
theorem fl_X1_21 : Cond.fieldLink N_X1 21 "CoalTurns$DayBook" (T_X1 3).2.1 (T_X1 3).2.2.1 ∈ BIG := tb_in 250 (by decide +kernel) rfl
theorem fl_X1_24 : Cond.fieldLink N_X1 24 "CoalTurns$DayBook" (T_X1 4).2.1 (T_X1 4).2.2.1 ∈ BIG := tb_in 251 (by decide +kernel) rfl
theorem fl_X1_28 : Cond.fieldLink N_X1 28 "CoalTurns$DayBook" (T_X1 5).2.1 (T_X1 5).2.2.1 ∈ BIG := tb_in 254 (by decide +kernel) rfl
theorem fl_X1_31 : Cond.fieldLink N_X1 31 "CoalTurns$DayBook" (T_X1 6).2.1 (T_X1 6).2.2.1 ∈ BIG := tb_in 257 (by decide +kernel) rfl
theorem fl_X2_9 : Cond.fieldLink N_X2 9 "CoalTurns$Lighters" (T_X2 0).2.1 (T_X2 0).2.2.1 ∈ BIG := tb_in 280 (by decide +kernel) rfl
theorem fl_X2_15 : Cond.fieldLink N_X2 15 "CoalTurns$Lighters" (T_X2 1).2.1 (T_X2 1).2.2.1 ∈ BIG := tb_in 281 (by decide +kernel) rfl
theorem fl_X2_32 : Cond.fieldLink N_X2 32 "CoalTurns$DayBook" (T_X1 4).2.1 (T_X1 4).2.2.1 ∈ BIG := tb_in 252 (by decide +kernel) rfl
theorem fl_X2_38 : Cond.fieldLink N_X2 38 "CoalTurns$DayBook" (T_X1 0).2.1 (T_X1 0).2.2.1 ∈ BIG := tb_in 246 (by decide +kernel) rfl
theorem fl_X2_41 : Cond.fieldLink N_X2 41 "CoalTurns$DayBook" (T_X1 2).2.1 (T_X1 2).2.2.1 ∈ BIG := tb_in 249 (by decide +kernel) rfl
theorem fl_X3_9 : Cond.fieldLink N_X3 9 "CoalTurns$Order" (T_X3 0).2.1 (T_X3 0).2.2.1 ∈ BIG := tb_in 300 (by decide +kernel) rfl
theorem fl_X3_15 : Cond.fieldLink N_X3 15 "CoalTurns$Order" (T_X3 1).2.1 (T_X3 1).2.2.1 ∈ BIG := tb_in 301 (by decide +kernel) rfl
theorem fl_X3_18 : Cond.fieldLink N_X3 18 "CoalTurns$Order" (T_X3 2).2.1 (T_X3 2).2.2.1 ∈ BIG := tb_in 302 (by decide +kernel) rfl
theorem fl_X3_22 : Cond.fieldLink N_X3 22 "CoalTurns$Order" (T_X3 3).2.1 (T_X3 3).2.2.1 ∈ BIG := tb_in 303 (by decide +kernel) rfl
theorem fl_X3_26 : Cond.fieldLink N_X3 26 "CoalTurns$Order" (T_X3 4).2.1 (T_X3 4).2.2.1 ∈ BIG := tb_in 305 (by decide +kernel) rfl
theorem fl_X3_29 : Cond.fieldLink N_X3 29 "CoalTurns$Order" (T_X3 5).2.1 (T_X3 5).2.2.1 ∈ BIG := tb_in 307 (by decide +kernel) rfl
theorem fl_X3_32 : Cond.fieldLink N_X3 32 "CoalTurns$Order" (T_X3 6).2.1 (T_X3 6).2.2.1 ∈ BIG := tb_in 309 (by decide +kernel) rfl
theorem fl_X3_35 : Cond.fieldLink N_X3 35 "CoalTurns$Ship" (T_X7 3).2.1 (T_X7 3).2.2.1 ∈ BIG := tb_in 91 (by decide +kernel) rfl
theorem fl_X3_40 : Cond.fieldLink N_X3 40 "CoalTurns$Ship" (T_X7 6).2.1 (T_X7 6).2.2.1 ∈ BIG := tb_in 98 (by decide +kernel) rfl
theorem fl_X3_43 : Cond.fieldLink N_X3 43 "CoalTurns$Ship" (T_X7 8).2.1 (T_X7 8).2.2.1 ∈ BIG := tb_in 104 (by decide +kernel) rfl
theorem fl_X4_11 : Cond.fieldLink N_X4 11 "CoalTurns$OrderBook" (T_X4 0).2.1 (T_X4 0).2.2.1 ∈ BIG := tb_in 328 (by decide +kernel) rfl
theorem fl_X4_18 : Cond.fieldLink N_X4 18 "CoalTurns$OrderBook" (T_X4 1).2.1 (T_X4 1).2.2.1 ∈ BIG := tb_in 330 (by decide +kernel) rfl
theorem fl_X4_22 : Cond.fieldLink N_X4 22 "CoalTurns$OrderBook" (T_X4 2).2.1 (T_X4 2).2.2.1 ∈ BIG := tb_in 331 (by decide +kernel) rfl
theorem fl_X4_30 : Cond.fieldLink N_X4 30 "CoalTurns$Order" (T_X3 6).2.1 (T_X3 6).2.2.1 ∈ BIG := tb_in 310 (by decide +kernel) rfl
theorem fl_X5_9 : Cond.fieldLink N_X5 9 "CoalTurns$Queue" (T_X5 0).2.1 (T_X5 0).2.2.1 ∈ BIG := tb_in 225 (by decide +kernel) rfl
theorem fl_X5_15 : Cond.fieldLink N_X5 15 "CoalTurns$Queue" (T_X5 1).2.1 (T_X5 1).2.2.1 ∈ BIG := tb_in 228 (by decide +kernel) rfl
theorem fl_X5_18 : Cond.fieldLink N_X5 18 "CoalTurns$Queue" (T_X5 2).2.1 (T_X5 2).2.2.1 ∈ BIG := tb_in 229 (by decide +kernel) rfl
theorem fl_X5_22 : Cond.fieldLink N_X5 22 "CoalTurns$River" (T_X6 3).2.1 (T_X6 3).2.2.1 ∈ BIG := tb_in 194 (by decide +kernel) rfl
theorem fl_X5_27 : Cond.fieldLink N_X5 27 "CoalTurns$River" (T_X6 0).2.1 (T_X6 0).2.2.1 ∈ BIG := tb_in 187 (by decide +kernel) rfl
theorem fl_X5_30 : Cond.fieldLink N_X5 30 "CoalTurns$Ship" (T_X7 0).2.1 (T_X7 0).2.2.1 ∈ BIG := tb_in 82 (by decide +kernel) rfl
theorem fl_X5_39 : Cond.fieldLink N_X5 39 "CoalTurns$River" (T_X6 5).2.1 (T_X6 5).2.2.1 ∈ BIG := tb_in 199 (by decide +kernel) rfl
theorem fl_X5_50 : Cond.fieldLink N_X5 50 "CoalTurns$River" (T_X6 6).2.1 (T_X6 6).2.2.1 ∈ BIG := tb_in 202 (by decide +kernel) rfl
theorem fl_X5_72 : Cond.fieldLink N_X5 72 "CoalTurns$Ship" (T_X7 7).2.1 (T_X7 7).2.2.1 ∈ BIG := tb_in 101 (by decide +kernel) rfl
theorem fl_X6_11 : Cond.fieldLink N_X6 11 "CoalTurns$River" (T_X6 0).2.1 (T_X6 0).2.2.1 ∈ BIG := tb_in 186 (by decide +kernel) rfl
theorem fl_X6_19 : Cond.fieldLink N_X6 19 "CoalTurns$River" (T_X6 1).2.1 (T_X6 1).2.2.1 ∈ BIG := tb_in 189 (by decide +kernel) rfl
theorem fl_X6_25 : Cond.fieldLink N_X6 25 "CoalTurns$River" (T_X6 2).2.1 (T_X6 2).2.2.1 ∈ BIG := tb_in 191 (by decide +kernel) rfl
theorem fl_X6_29 : Cond.fieldLink N_X6 29 "CoalTurns$River" (T_X6 3).2.1 (T_X6 3).2.2.1 ∈ BIG := tb_in 193 (by decide +kernel) rfl
theorem fl_X6_33 : Cond.fieldLink N_X6 33 "CoalTurns$River" (T_X6 4).2.1 (T_X6 4).2.2.1 ∈ BIG := tb_in 196 (by decide +kernel) rfl
theorem fl_X6_36 : Cond.fieldLink N_X6 36 "CoalTurns$River" (T_X6 5).2.1 (T_X6 5).2.2.1 ∈ BIG := tb_in 198 (by decide +kernel) rfl
theorem fl_X6_39 : Cond.fieldLink N_X6 39 "CoalTurns$River" (T_X6 6).2.1 (T_X6 6).2.2.1 ∈ BIG := tb_in 201 (by decide +kernel) rfl
theorem fl_X6_63 : Cond.fieldLink N_X6 63 "CoalTurns$Queue" (T_X5 2).2.1 (T_X5 2).2.2.1 ∈ BIG := tb_in 230 (by decide +kernel) rfl
theorem fl_X6_68 : Cond.fieldLink N_X6 68 "CoalTurns$Queue" (T_X5 0).2.1 (T_X5 0).2.2.1 ∈ BIG := tb_in 226 (by decide +kernel) rfl
theorem fl_X6_78 : Cond.fieldLink N_X6 78 "CoalTurns$DayBook" (T_X1 5).2.1 (T_X1 5).2.2.1 ∈ BIG := tb_in 255 (by decide +kernel) rfl
theorem fl_X6_83 : Cond.fieldLink N_X6 83 "CoalTurns$DayBook" (T_X1 6).2.1 (T_X1 6).2.2.1 ∈ BIG := tb_in 258 (by decide +kernel) rfl
theorem fl_X6_86 : Cond.fieldLink N_X6 86 "CoalTurns$Ship" (T_X7 6).2.1 (T_X7 6).2.2.1 ∈ BIG := tb_in 99 (by decide +kernel) rfl
theorem fl_X6_97 : Cond.fieldLink N_X6 97 "CoalTurns$Buyer" (T_X0 3).2.1 (T_X0 3).2.2.1 ∈ BIG := tb_in 150 (by decide +kernel) rfl
theorem fl_X6_104 : Cond.fieldLink N_X6 104 "CoalTurns$Buyer" (T_X0 2).2.1 (T_X0 2).2.2.1 ∈ BIG := tb_in 148 (by decide +kernel) rfl
theorem fl_X6_113 : Cond.fieldLink N_X6 113 "CoalTurns$Ship" (T_X7 3).2.1 (T_X7 3).2.2.1 ∈ BIG := tb_in 92 (by decide +kernel) rfl
theorem fl_X6_119 : Cond.fieldLink N_X6 119 "CoalTurns$Buyer" (T_X0 0).2.1 (T_X0 0).2.2.1 ∈ BIG := tb_in 144 (by decide +kernel) rfl
theorem fl_X6_133 : Cond.fieldLink N_X6 133 "CoalTurns$Ward" (T_X9 2).2.1 (T_X9 2).2.2.1 ∈ BIG := tb_in 171 (by decide +kernel) rfl
theorem fl_X6_136 : Cond.fieldLink N_X6 136 "CoalTurns$Ship" (T_X7 12).2.1 (T_X7 12).2.2.1 ∈ BIG := tb_in 110 (by decide +kernel) rfl
theorem fl_X6_139 : Cond.fieldLink N_X6 139 "CoalTurns$Ship" (T_X7 4).2.1 (T_X7 4).2.2.1 ∈ BIG := tb_in 94 (by decide +kernel) rfl
theorem fl_X6_142 : Cond.fieldLink N_X6 142 "CoalTurns$Ship" (T_X7 11).2.1 (T_X7 11).2.2.1 ∈ BIG := tb_in 108 (by decide +kernel) rfl
theorem fl_X7_9 : Cond.fieldLink N_X7 9 "CoalTurns$Ship" (T_X7 0).2.1 (T_X7 0).2.2.1 ∈ BIG := tb_in 81 (by decide +kernel) rfl
theorem fl_X7_15 : Cond.fieldLink N_X7 15 "CoalTurns$Ship" (T_X7 1).2.1 (T_X7 1).2.2.1 ∈ BIG := tb_in 84 (by decide +kernel) rfl
theorem fl_X7_18 : Cond.fieldLink N_X7 18 "CoalTurns$Ship" (T_X7 2).2.1 (T_X7 2).2.2.1 ∈ BIG := tb_in 86 (by decide +kernel) rfl
theorem fl_X7_21 : Cond.fieldLink N_X7 21 "CoalTurns$Ship" (T_X7 3).2.1 (T_X7 3).2.2.1 ∈ BIG := tb_in 88 (by decide +kernel) rfl
theorem fl_X7_24 : Cond.fieldLink N_X7 24 "CoalTurns$Ship" (T_X7 4).2.1 (T_X7 4).2.2.1 ∈ BIG := tb_in 93 (by decide +kernel) rfl
theorem fl_X7_27 : Cond.fieldLink N_X7 27 "CoalTurns$Ship" (T_X7 5).2.1 (T_X7 5).2.2.1 ∈ BIG := tb_in 95 (by decide +kernel) rfl
theorem fl_X7_30 : Cond.fieldLink N_X7 30 "CoalTurns$Ship" (T_X7 6).2.1 (T_X7 6).2.2.1 ∈ BIG := tb_in 96 (by decide +kernel) rfl
theorem fl_X7_33 : Cond.fieldLink N_X7 33 "CoalTurns$Ship" (T_X7 7).2.1 (T_X7 7).2.2.1 ∈ BIG := tb_in 100 (by decide +kernel) rfl
theorem fl_X7_36 : Cond.fieldLink N_X7 36 "CoalTurns$Ship" (T_X7 8).2.1 (T_X7 8).2.2.1 ∈ BIG := tb_in 103 (by decide +kernel) rfl
theorem fl_X7_39 : Cond.fieldLink N_X7 39 "CoalTurns$Ship" (T_X7 9).2.1 (T_X7 9).2.2.1 ∈ BIG := tb_in 105 (by decide +kernel) rfl
theorem fl_X7_42 : Cond.fieldLink N_X7 42 "CoalTurns$Ship" (T_X7 10).2.1 (T_X7 10).2.2.1 ∈ BIG := tb_in 106 (by decide +kernel) rfl
theorem fl_X7_45 : Cond.fieldLink N_X7 45 "CoalTurns$Ship" (T_X7 11).2.1 (T_X7 11).2.2.1 ∈ BIG := tb_in 107 (by decide +kernel) rfl
theorem fl_X7_48 : Cond.fieldLink N_X7 48 "CoalTurns$Ship" (T_X7 12).2.1 (T_X7 12).2.2.1 ∈ BIG := tb_in 109 (by decide +kernel) rfl
theorem fl_X8_9 : Cond.fieldLink N_X8 9 "CoalTurns$Tape" (T_X8 0).2.1 (T_X8 0).2.2.1 ∈ BIG := tb_in 346 (by decide +kernel) rfl
theorem fl_X8_15 : Cond.fieldLink N_X8 15 "CoalTurns$Tape" (T_X8 1).2.1 (T_X8 1).2.2.1 ∈ BIG := tb_in 347 (by decide +kernel) rfl
theorem fl_X8_19 : Cond.fieldLink N_X8 19 "CoalTurns$Tape" (T_X8 2).2.1 (T_X8 2).2.2.1 ∈ BIG := tb_in 349 (by decide +kernel) rfl
theorem fl_X8_22 : Cond.fieldLink N_X8 22 "CoalTurns$Order" (T_X3 3).2.1 (T_X3 3).2.2.1 ∈ BIG := tb_in 304 (by decide +kernel) rfl
theorem fl_X8_43 : Cond.fieldLink N_X8 43 "CoalTurns$Order" (T_X3 5).2.1 (T_X3 5).2.2.1 ∈ BIG := tb_in 308 (by decide +kernel) rfl
theorem fl_X8_61 : Cond.fieldLink N_X8 61 "CoalTurns$Order" (T_X3 4).2.1 (T_X3 4).2.2.1 ∈ BIG := tb_in 306 (by decide +kernel) rfl
theorem fl_X9_9 : Cond.fieldLink N_X9 9 "CoalTurns$Ward" (T_X9 0).2.1 (T_X9 0).2.2.1 ∈ BIG := tb_in 166 (by decide +kernel) rfl
theorem fl_X9_21 : Cond.fieldLink N_X9 21 "CoalTurns$Ward" (T_X9 1).2.1 (T_X9 1).2.2.1 ∈ BIG := tb_in 168 (by decide +kernel) rfl
theorem fl_X9_25 : Cond.fieldLink N_X9 25 "CoalTurns$Ward" (T_X9 2).2.1 (T_X9 2).2.2.1 ∈ BIG := tb_in 170 (by decide +kernel) rfl
theorem fl_X9_28 : Cond.fieldLink N_X9 28 "CoalTurns$Ward" (T_X9 3).2.1 (T_X9 3).2.2.1 ∈ BIG := tb_in 172 (by decide +kernel) rfl
theorem fl_X9_31 : Cond.fieldLink N_X9 31 "CoalTurns$Ward" (T_X9 4).2.1 (T_X9 4).2.2.1 ∈ BIG := tb_in 173 (by decide +kernel) rfl
theorem fl_X11_7 : Cond.fieldLink N_X11 7 "CoalTurnsModel" (T_X11 2).2.1 (T_X11 2).2.2.1 ∈ BIG := tb_in 823 (by decide +kernel) rfl
theorem fl_X11_13 : Cond.fieldLink N_X11 13 "CoalTurnsModel" (T_X11 3).2.1 (T_X11 3).2.2.1 ∈ BIG := tb_in 824 (by decide +kernel) rfl
theorem fl_X11_16 : Cond.fieldLink N_X11 16 "CoalTurnsModel" (T_X11 4).2.1 (T_X11 4).2.2.1 ∈ BIG := tb_in 825 (by decide +kernel) rfl
theorem fl_X11_19 : Cond.fieldLink N_X11 19 "CoalTurnsModel" (T_X11 5).2.1 (T_X11 5).2.2.1 ∈ BIG := tb_in 826 (by decide +kernel) rfl
theorem fl_X11_22 : Cond.fieldLink N_X11 22 "CoalTurnsModel" (T_X11 6).2.1 (T_X11 6).2.2.1 ∈ BIG := tb_in 827 (by decide +kernel) rfl
theorem fl_X11_25 : Cond.fieldLink N_X11 25 "CoalTurnsModel" (T_X11 7).2.1 (T_X11 7).2.2.1 ∈ BIG := tb_in 828 (by decide +kernel) rfl
theorem fl_X11_28 : Cond.fieldLink N_X11 28 "CoalTurnsModel" (T_X11 8).2.1 (T_X11 8).2.2.1 ∈ BIG := tb_in 829 (by decide +kernel) rfl
theorem fl_X11_31 : Cond.fieldLink N_X11 31 "CoalTurnsModel" (T_X11 9).2.1 (T_X11 9).2.2.1 ∈ BIG := tb_in 830 (by decide +kernel) rfl
theorem fl_X11_34 : Cond.fieldLink N_X11 34 "CoalTurnsModel" (T_X11 10).2.1 (T_X11 10).2.2.1 ∈ BIG := tb_in 831 (by decide +kernel) rfl
theorem fl_X11_37 : Cond.fieldLink N_X11 37 "CoalTurnsModel" (T_X11 11).2.1 (T_X11 11).2.2.1 ∈ BIG := tb_in 832 (by decide +kernel) rfl
theorem fl_X11_40 : Cond.fieldLink N_X11 40 "CoalTurnsModel" (T_X11 12).2.1 (T_X11 12).2.2.1 ∈ BIG := tb_in 833 (by decide +kernel) rfl
theorem fl_X11_43 : Cond.fieldLink N_X11 43 "CoalTurnsModel" (T_X11 13).2.1 (T_X11 13).2.2.1 ∈ BIG := tb_in 834 (by decide +kernel) rfl
theorem fl_X11_46 : Cond.fieldLink N_X11 46 "CoalTurnsModel" (T_X11 14).2.1 (T_X11 14).2.2.1 ∈ BIG := tb_in 835 (by decide +kernel) rfl
theorem fl_X11_49 : Cond.fieldLink N_X11 49 "CoalTurnsModel" (T_X11 16).2.1 (T_X11 16).2.2.1 ∈ BIG := tb_in 837 (by decide +kernel) rfl
theorem fl_X11_52 : Cond.fieldLink N_X11 52 "CoalTurnsModel" (T_X11 17).2.1 (T_X11 17).2.2.1 ∈ BIG := tb_in 838 (by decide +kernel) rfl
theorem fl_X11_55 : Cond.fieldLink N_X11 55 "CoalTurnsModel" (T_X11 18).2.1 (T_X11 18).2.2.1 ∈ BIG := tb_in 839 (by decide +kernel) rfl
theorem fl_X11_58 : Cond.fieldLink N_X11 58 "CoalTurnsModel" (T_X11 19).2.1 (T_X11 19).2.2.1 ∈ BIG := tb_in 840 (by decide +kernel) rfl
theorem fl_X11_61 : Cond.fieldLink N_X11 61 "CoalTurnsModel" (T_X11 20).2.1 (T_X11 20).2.2.1 ∈ BIG := tb_in 841 (by decide +kernel) rfl
theorem fl_X11_64 : Cond.fieldLink N_X11 64 "CoalTurnsModel" (T_X11 21).2.1 (T_X11 21).2.2.1 ∈ BIG := tb_in 842 (by decide +kernel) rfl
theorem fl_X11_67 : Cond.fieldLink N_X11 67 "CoalTurnsModel" (T_X11 22).2.1 (T_X11 22).2.2.1 ∈ BIG := tb_in 843 (by decide +kernel) rfl
theorem fl_X11_70 : Cond.fieldLink N_X11 70 "CoalTurnsModel" (T_X11 23).2.1 (T_X11 23).2.2.1 ∈ BIG := tb_in 844 (by decide +kernel) rfl
theorem fl_X11_73 : Cond.fieldLink N_X11 73 "CoalTurnsModel" (T_X11 24).2.1 (T_X11 24).2.2.1 ∈ BIG := tb_in 845 (by decide +kernel) rfl
theorem fl_X11_76 : Cond.fieldLink N_X11 76 "CoalTurnsModel" (T_X11 26).2.1 (T_X11 26).2.2.1 ∈ BIG := tb_in 847 (by decide +kernel) rfl
theorem fl_X11_80 : Cond.fieldLink N_X11 80 "CoalTurnsModel" (T_X11 28).2.1 (T_X11 28).2.2.1 ∈ BIG := tb_in 849 (by decide +kernel) rfl
theorem fl_X11_83 : Cond.fieldLink N_X11 83 "CoalTurnsModel" (T_X11 29).2.1 (T_X11 29).2.2.1 ∈ BIG := tb_in 850 (by decide +kernel) rfl
theorem fl_X11_86 : Cond.fieldLink N_X11 86 "CoalTurnsModel" (T_X11 30).2.1 (T_X11 30).2.2.1 ∈ BIG := tb_in 851 (by decide +kernel) rfl
theorem fl_X11_89 : Cond.fieldLink N_X11 89 "CoalTurnsModel" (T_X11 31).2.1 (T_X11 31).2.2.1 ∈ BIG := tb_in 852 (by decide +kernel) rfl
theorem fl_X11_92 : Cond.fieldLink N_X11 92 "CoalTurnsModel" (T_X11 32).2.1 (T_X11 32).2.2.1 ∈ BIG := tb_in 853 (by decide +kernel) rfl
theorem fl_X11_96 : Cond.fieldLink N_X11 96 "CoalTurnsModel" (T_X11 35).2.1 (T_X11 35).2.2.1 ∈ BIG := tb_in 856 (by decide +kernel) rfl
theorem fl_X11_99 : Cond.fieldLink N_X11 99 "CoalTurnsModel" (T_X11 36).2.1 (T_X11 36).2.2.1 ∈ BIG := tb_in 857 (by decide +kernel) rfl
theorem fl_X11_102 : Cond.fieldLink N_X11 102 "CoalTurnsModel" (T_X11 37).2.1 (T_X11 37).2.2.1 ∈ BIG := tb_in 858 (by decide +kernel) rfl
theorem fl_X11_105 : Cond.fieldLink N_X11 105 "CoalTurnsModel" (T_X11 38).2.1 (T_X11 38).2.2.1 ∈ BIG := tb_in 859 (by decide +kernel) rfl
theorem fl_X11_108 : Cond.fieldLink N_X11 108 "CoalTurnsModel" (T_X11 39).2.1 (T_X11 39).2.2.1 ∈ BIG := tb_in 860 (by decide +kernel) rfl
theorem fl_X11_112 : Cond.fieldLink N_X11 112 "CoalTurnsModel" (T_X11 40).2.1 (T_X11 40).2.2.1 ∈ BIG := tb_in 861 (by decide +kernel) rfl
theorem fl_X11_115 : Cond.fieldLink N_X11 115 "CoalTurnsModel" (T_X11 41).2.1 (T_X11 41).2.2.1 ∈ BIG := tb_in 862 (by decide +kernel) rfl
theorem fl_X11_118 : Cond.fieldLink N_X11 118 "CoalTurnsModel" (T_X11 45).2.1 (T_X11 45).2.2.1 ∈ BIG := tb_in 866 (by decide +kernel) rfl
theorem fl_X11_121 : Cond.fieldLink N_X11 121 "CoalTurnsModel" (T_X11 46).2.1 (T_X11 46).2.2.1 ∈ BIG := tb_in 867 (by decide +kernel) rfl
theorem fl_X11_124 : Cond.fieldLink N_X11 124 "CoalTurnsModel" (T_X11 47).2.1 (T_X11 47).2.2.1 ∈ BIG := tb_in 868 (by decide +kernel) rfl
theorem fl_X11_127 : Cond.fieldLink N_X11 127 "CoalTurnsModel" (T_X11 48).2.1 (T_X11 48).2.2.1 ∈ BIG := tb_in 869 (by decide +kernel) rfl
theorem fl_X11_130 : Cond.fieldLink N_X11 130 "CoalTurnsModel" (T_X11 49).2.1 (T_X11 49).2.2.1 ∈ BIG := tb_in 870 (by decide +kernel) rfl
theorem fl_X11_133 : Cond.fieldLink N_X11 133 "CoalTurnsModel" (T_X11 50).2.1 (T_X11 50).2.2.1 ∈ BIG := tb_in 871 (by decide +kernel) rfl
theorem fl_X11_136 : Cond.fieldLink N_X11 136 "CoalTurnsModel" (T_X11 51).2.1 (T_X11 51).2.2.1 ∈ BIG := tb_in 872 (by decide +kernel) rfl
theorem fl_X11_139 : Cond.fieldLink N_X11 139 "CoalTurnsModel" (T_X11 52).2.1 (T_X11 52).2.2.1 ∈ BIG := tb_in 873 (by decide +kernel) rfl
theorem fl_X11_142 : Cond.fieldLink N_X11 142 "CoalTurnsModel" (T_X11 60).2.1 (T_X11 60).2.2.1 ∈ BIG := tb_in 881 (by decide +kernel) rfl
theorem fl_X11_145 : Cond.fieldLink N_X11 145 "CoalTurnsModel" (T_X11 61).2.1 (T_X11 61).2.2.1 ∈ BIG := tb_in 882 (by decide +kernel) rfl
theorem fl_X11_148 : Cond.fieldLink N_X11 148 "CoalTurnsModel" (T_X11 62).2.1 (T_X11 62).2.2.1 ∈ BIG := tb_in 883 (by decide +kernel) rfl
theorem fl_X11_151 : Cond.fieldLink N_X11 151 "CoalTurnsModel" (T_X11 63).2.1 (T_X11 63).2.2.1 ∈ BIG := tb_in 884 (by decide +kernel) rfl
theorem fl_X11_154 : Cond.fieldLink N_X11 154 "CoalTurnsModel" (T_X11 64).2.1 (T_X11 64).2.2.1 ∈ BIG := tb_in 885 (by decide +kernel) rfl
theorem fl_X11_157 : Cond.fieldLink N_X11 157 "CoalTurnsModel" (T_X11 65).2.1 (T_X11 65).2.2.1 ∈ BIG := tb_in 886 (by decide +kernel) rfl
theorem fl_X11_160 : Cond.fieldLink N_X11 160 "CoalTurnsModel" (T_X11 66).2.1 (T_X11 66).2.2.1 ∈ BIG := tb_in 887 (by decide +kernel) rfl
theorem fl_X11_166 : Cond.fieldLink N_X11 166 "CoalTurnsModel" (T_X11 1).2.1 (T_X11 1).2.2.1 ∈ BIG := tb_in 822 (by decide +kernel) rfl
theorem fl_X11_173 : Cond.fieldLink N_X11 173 "CoalTurnsModel" (T_X11 15).2.1 (T_X11 15).2.2.1 ∈ BIG := tb_in 836 (by decide +kernel) rfl
theorem fl_X11_190 : Cond.fieldLink N_X11 190 "CoalTurnsModel" (T_X11 33).2.1 (T_X11 33).2.2.1 ∈ BIG := tb_in 854 (by decide +kernel) rfl
theorem fl_X11_193 : Cond.fieldLink N_X11 193 "CoalTurnsModel" (T_X11 42).2.1 (T_X11 42).2.2.1 ∈ BIG := tb_in 863 (by decide +kernel) rfl
theorem fl_X11_199 : Cond.fieldLink N_X11 199 "CoalTurnsModel" (T_X11 43).2.1 (T_X11 43).2.2.1 ∈ BIG := tb_in 864 (by decide +kernel) rfl
theorem fl_X11_214 : Cond.fieldLink N_X11 214 "CoalTurnsModel" (T_X11 34).2.1 (T_X11 34).2.2.1 ∈ BIG := tb_in 855 (by decide +kernel) rfl
theorem fl_X11_227 : Cond.fieldLink N_X11 227 "CoalTurnsModel" (T_X11 25).2.1 (T_X11 25).2.2.1 ∈ BIG := tb_in 846 (by decide +kernel) rfl
theorem fl_X11_233 : Cond.fieldLink N_X11 233 "CoalTurnsModel" (T_X11 44).2.1 (T_X11 44).2.2.1 ∈ BIG := tb_in 865 (by decide +kernel) rfl
theorem fl_X11_243 : Cond.fieldLink N_X11 243 "CoalTurnsModel" (T_X11 27).2.1 (T_X11 27).2.2.1 ∈ BIG := tb_in 848 (by decide +kernel) rfl
theorem fl_X11_246 : Cond.fieldLink N_X11 246 "CoalTurnsModel" (T_X11 58).2.1 (T_X11 58).2.2.1 ∈ BIG := tb_in 879 (by decide +kernel) rfl
theorem fl_X11_249 : Cond.fieldLink N_X11 249 "CoalTurnsModel" (T_X11 59).2.1 (T_X11 59).2.2.1 ∈ BIG := tb_in 880 (by decide +kernel) rfl
theorem fl_X11_265 : Cond.fieldLink N_X11 265 "CoalTurnsModel" (T_X11 57).2.1 (T_X11 57).2.2.1 ∈ BIG := tb_in 878 (by decide +kernel) rfl
theorem fl_X11_269 : Cond.fieldLink N_X11 269 "CoalTurnsModel" (T_X11 53).2.1 (T_X11 53).2.2.1 ∈ BIG := tb_in 874 (by decide +kernel) rfl
theorem fl_X11_272 : Cond.fieldLink N_X11 272 "CoalTurnsModel" (T_X11 54).2.1 (T_X11 54).2.2.1 ∈ BIG := tb_in 875 (by decide +kernel) rfl
theorem fl_X11_275 : Cond.fieldLink N_X11 275 "CoalTurnsModel" (T_X11 55).2.1 (T_X11 55).2.2.1 ∈ BIG := tb_in 876 (by decide +kernel) rfl
theorem fl_X11_278 : Cond.fieldLink N_X11 278 "CoalTurnsModel" (T_X11 56).2.1 (T_X11 56).2.2.1 ∈ BIG := tb_in 877 (by decide +kernel) rfl
theorem gc_X10_74 : GoodIn BIG [.methodLink N_X10 74 m_X10_within, .static m_X10_within, .initialized N_X10, .code m_X10_within c_X10_within 3 (some .boolean)] := tb_good5 [401, 402, 37, 403] (by decide +kernel) (by decide +kernel) (by decide +kernel)
theorem gc_X10_78 : GoodIn BIG [.methodLink N_X10 78 m_X10_isAsk, .static m_X10_isAsk, .initialized N_X10, .code m_X10_isAsk c_X10_isAsk 1 (some .boolean)] := tb_good5 [404, 405, 37, 406] (by decide +kernel) (by decide +kernel) (by decide +kernel)
theorem gc_X10_89 : GoodIn BIG [.methodLink N_X10 89 m_X7_begin, .instanceMethod m_X7_begin, .selects N_X7 m_X7_begin m_X7_begin, .initialized N_X7, .code m_X7_begin c_X7_begin 7 none] := tb_good5 [407, 408, 409, 39, 410] (by decide +kernel) (by decide +kernel) (by decide +kernel)
theorem gc_X10_95 : GoodIn BIG [.methodLink N_X10 95 m_X6_hasShip, .instanceMethod m_X6_hasShip, .selects N_X6 m_X6_hasShip m_X6_hasShip, .initialized N_X6, .code m_X6_hasShip c_X6_hasShip 2 (some .boolean)] := tb_good5 [415, 416, 417, 38, 418] (by decide +kernel) (by decide +kernel) (by decide +kernel)
theorem gc_X10_107 : GoodIn BIG [.methodLink N_X10 107 m_X7_founder, .instanceMethod m_X7_founder, .selects N_X7 m_X7_founder m_X7_founder, .initialized N_X7, .code m_X7_founder c_X7_founder 3 (some .int)] := tb_good5 [424, 425, 426, 39, 427] (by decide +kernel) (by decide +kernel) (by decide +kernel)
theorem gc_X10_114 : GoodIn BIG [.methodLink N_X10 114 m_X7_leave, .instanceMethod m_X7_leave, .selects N_X7 m_X7_leave m_X7_leave, .initialized N_X7, .code m_X7_leave c_X7_leave 2 (some .int)] := tb_good5 [436, 437, 438, 39, 439] (by decide +kernel) (by decide +kernel) (by decide +kernel)
theorem gc_X10_118 : GoodIn BIG [.methodLink N_X10 118 m_X10_isWard, .static m_X10_isWard, .initialized N_X10, .code m_X10_isWard c_X10_isWard 1 (some .boolean)] := tb_good5 [444, 445, 37, 446] (by decide +kernel) (by decide +kernel) (by decide +kernel)
theorem gc_X10_121 : GoodIn BIG [.methodLink N_X10 121 m_X10_isWant, .static m_X10_isWant, .initialized N_X10, .code m_X10_isWant c_X10_isWant 1 (some .boolean)] := tb_good5 [447, 448, 37, 449] (by decide +kernel) (by decide +kernel) (by decide +kernel)
theorem gc_X10_124 : GoodIn BIG [.methodLink N_X10 124 m_X10_isBid, .static m_X10_isBid, .initialized N_X10, .code m_X10_isBid c_X10_isBid 1 (some .boolean)] := tb_good5 [450, 451, 37, 452] (by decide +kernel) (by decide +kernel) (by decide +kernel)
theorem gc_X10_134 : GoodIn BIG [.methodLink N_X10 134 m_X0_begin, .instanceMethod m_X0_begin, .selects N_X0 m_X0_begin m_X0_begin, .initialized N_X0, .code m_X0_begin c_X0_begin 5 none] := tb_good5 [453, 454, 455, 40, 456] (by decide +kernel) (by decide +kernel) (by decide +kernel)
theorem gc_X10_145 : GoodIn BIG [.methodLink N_X10 145 m_X10_isCold, .static m_X10_isCold, .initialized N_X10, .code m_X10_isCold c_X10_isCold 1 (some .boolean)] := tb_good5 [465, 466, 37, 467] (by decide +kernel) (by decide +kernel) (by decide +kernel)
theorem gc_X10_164 : GoodIn BIG [.methodLink N_X10 164 m_X8_append, .instanceMethod m_X8_append, .selects N_X8 m_X8_append m_X8_append, .initialized N_X8, .code m_X8_append c_X8_append 2 none] := tb_good5 [476, 477, 478, 47, 479] (by decide +kernel) (by decide +kernel) (by decide +kernel)
theorem gc_X10_173 : GoodIn BIG [.methodLink N_X10 173 m_X8_read, .instanceMethod m_X8_read, .selects N_X8 m_X8_read m_X8_read, .initialized N_X8, .code m_X8_read c_X8_read 3 (some .int)] := tb_good5 [484, 485, 486, 47, 487] (by decide +kernel) (by decide +kernel) (by decide +kernel)
theorem gc_X10_182 : GoodIn BIG [.methodLink N_X10 182 m_X4_inForce, .instanceMethod m_X4_inForce, .selects N_X4 m_X4_inForce m_X4_inForce, .initialized N_X4, .code m_X4_inForce c_X4_inForce 5 (some .int)] := tb_good5 [582, 583, 584, 45, 585] (by decide +kernel) (by decide +kernel) (by decide +kernel)
theorem gc_X10_185 : GoodIn BIG [.methodLink N_X10 185 m_X4_has, .instanceMethod m_X4_has, .selects N_X4 m_X4_has m_X4_has, .initialized N_X4, .code m_X4_has c_X4_has 2 (some .boolean)] := tb_good5 [590, 591, 592, 45, 593] (by decide +kernel) (by decide +kernel) (by decide +kernel)
theorem gc_X10_188 : GoodIn BIG [.methodLink N_X10 188 m_X3_sellers, .instanceMethod m_X3_sellers, .selects N_X3 m_X3_sellers m_X3_sellers, .initialized N_X3, .code m_X3_sellers c_X3_sellers 4 (some .int)] := tb_good5 [595, 596, 597, 46, 598] (by decide +kernel) (by decide +kernel) (by decide +kernel)
theorem gc_X10_194 : GoodIn BIG [.methodLink N_X10 194 m_X4_ruleOn, .instanceMethod m_X4_ruleOn, .selects N_X4 m_X4_ruleOn m_X4_ruleOn, .initialized N_X4, .code m_X4_ruleOn c_X4_ruleOn 3 (some (.object "CoalTurns$Order"))] := tb_good5 [603, 604, 605, 45, 606] (by decide +kernel) (by decide +kernel) (by decide +kernel)
theorem gc_X10_198 : GoodIn BIG [.methodLink N_X10 198 m_X5_line, .instanceMethod m_X5_line, .selects N_X5 m_X5_line m_X5_line, .initialized N_X5, .code m_X5_line c_X5_line 5 none] := tb_good5 [608, 609, 610, 42, 611] (by decide +kernel) (by decide +kernel) (by decide +kernel)
theorem gc_X10_205 : GoodIn BIG [.methodLink N_X10 205 m_X10_isWind, .static m_X10_isWind, .initialized N_X10, .code m_X10_isWind c_X10_isWind 1 (some .boolean)] := tb_good5 [637, 638, 37, 639] (by decide +kernel) (by decide +kernel) (by decide +kernel)
theorem gc_X10_208 : GoodIn BIG [.methodLink N_X10 208 m_X1_open, .instanceMethod m_X1_open, .selects N_X1 m_X1_open m_X1_open, .initialized N_X1, .code m_X1_open c_X1_open 1 none] := tb_good5 [640, 641, 642, 43, 643] (by decide +kernel) (by decide +kernel) (by decide +kernel)
theorem gc_X10_211 : GoodIn BIG [.methodLink N_X10 211 m_X6_sail, .instanceMethod m_X6_sail, .selects N_X6 m_X6_sail m_X6_sail, .initialized N_X6, .code m_X6_sail c_X6_sail 3 none] := tb_good5 [644, 645, 646, 38, 647] (by decide +kernel) (by decide +kernel) (by decide +kernel)
theorem gc_X10_214 : GoodIn BIG [.methodLink N_X10 214 m_X6_copy, .instanceMethod m_X6_copy, .selects N_X6 m_X6_copy m_X6_copy, .initialized N_X6, .code m_X6_copy c_X6_copy 3 none] := tb_good5 [653, 654, 655, 38, 656] (by decide +kernel) (by decide +kernel) (by decide +kernel)
theorem gc_X10_218 : GoodIn BIG [.methodLink N_X10 218 m_X6_trade, .instanceMethod m_X6_trade, .selects N_X6 m_X6_trade m_X6_trade, .initialized N_X6, .code m_X6_trade c_X6_trade 5 none] := tb_good5 [673, 674, 675, 38, 676] (by decide +kernel) (by decide +kernel) (by decide +kernel)
theorem gc_X10_222 : GoodIn BIG [.methodLink N_X10 222 m_X6_endDay, .instanceMethod m_X6_endDay, .selects N_X6 m_X6_endDay m_X6_endDay, .initialized N_X6, .code m_X6_endDay c_X6_endDay 3 none] := tb_good5 [710, 711, 712, 38, 713] (by decide +kernel) (by decide +kernel) (by decide +kernel)
theorem gc_X10_228 : GoodIn BIG [.methodLink N_X10 228 m_X7_fact, .instanceMethod m_X7_fact, .selects N_X7 m_X7_fact m_X7_fact, .initialized N_X7, .code m_X7_fact c_X7_fact 2 (some .int)] := tb_good5 [723, 724, 725, 39, 726] (by decide +kernel) (by decide +kernel) (by decide +kernel)
theorem gc_X10_231 : GoodIn BIG [.methodLink N_X10 231 m_X1_fact, .instanceMethod m_X1_fact, .selects N_X1 m_X1_fact m_X1_fact, .initialized N_X1, .code m_X1_fact c_X1_fact 3 (some .int)] := tb_good5 [731, 732, 733, 43, 734] (by decide +kernel) (by decide +kernel) (by decide +kernel)
theorem gc_X10_234 : GoodIn BIG [.methodLink N_X10 234 m_X2_hours, .instanceMethod m_X2_hours, .selects N_X2 m_X2_hours m_X2_hours, .initialized N_X2, .code m_X2_hours c_X2_hours 6 (some .int)] := tb_good5 [740, 741, 742, 44, 743] (by decide +kernel) (by decide +kernel) (by decide +kernel)
theorem gc_X10_238 : GoodIn BIG [.methodLink N_X10 238 m_X5_putFirst, .instanceMethod m_X5_putFirst, .selects N_X5 m_X5_putFirst m_X5_putFirst, .initialized N_X5, .code m_X5_putFirst c_X5_putFirst 4 none] := tb_good5 [763, 764, 765, 42, 766] (by decide +kernel) (by decide +kernel) (by decide +kernel)
theorem gc_X10_248 : GoodIn BIG [.methodLink N_X10 248 m_X9_fact, .instanceMethod m_X9_fact, .selects N_X9 m_X9_fact m_X9_fact, .initialized N_X9, .code m_X9_fact c_X9_fact 2 (some .int)] := tb_good5 [779, 780, 781, 41, 782] (by decide +kernel) (by decide +kernel) (by decide +kernel)
theorem gc_X10_254 : GoodIn BIG [.methodLink N_X10 254 m_X10_tryDay, .instanceMethod m_X10_tryDay, .selects N_X10 m_X10_tryDay m_X10_tryDay, .initialized N_X10, .code m_X10_tryDay c_X10_tryDay 4 (some .int)] := tb_good5 [792, 794, 10, 37, 795] (by decide +kernel) (by decide +kernel) (by decide +kernel)
theorem gc_X10_258 : GoodIn BIG [.methodLink N_X10 258 m_X6_lackedDays, .instanceMethod m_X6_lackedDays, .selects N_X6 m_X6_lackedDays m_X6_lackedDays, .initialized N_X6, .code m_X6_lackedDays c_X6_lackedDays 3 (some .int)] := tb_good5 [796, 797, 798, 38, 799] (by decide +kernel) (by decide +kernel) (by decide +kernel)
theorem gc_X10_262 : GoodIn BIG [.methodLink N_X10 262 m_X6_duesOfAll, .instanceMethod m_X6_duesOfAll, .selects N_X6 m_X6_duesOfAll m_X6_duesOfAll, .initialized N_X6, .code m_X6_duesOfAll c_X6_duesOfAll 3 (some .int)] := tb_good5 [804, 805, 806, 38, 807] (by decide +kernel) (by decide +kernel) (by decide +kernel)
theorem gc_X10_265 : GoodIn BIG [.methodLink N_X10 265 m_X6_takenFor, .instanceMethod m_X6_takenFor, .selects N_X6 m_X6_takenFor m_X6_takenFor, .initialized N_X6, .code m_X6_takenFor c_X6_takenFor 4 (some .int)] := tb_good5 [812, 813, 814, 38, 815] (by decide +kernel) (by decide +kernel) (by decide +kernel)
theorem gc_X0_22 : GoodIn BIG [.methodLink N_X0 22 m_X0_begin, .instanceMethod m_X0_begin, .selects N_X0 m_X0_begin m_X0_begin, .initialized N_X0, .code m_X0_begin c_X0_begin 5 none] := tb_good5 [665, 454, 455, 40, 456] (by decide +kernel) (by decide +kernel) (by decide +kernel)
theorem gn_X1_34 : Cond.methodLinkNest N_X1 34 m_X10_within "CoalTurns" ∈ BIG := tb_in 735 (by decide +kernel) rfl
theorem gc_X1_34 : GoodIn BIG [.static m_X10_within, .initialized N_X10, .code m_X10_within c_X10_within 3 (some .boolean)] := tb_good5 [402, 37, 403] (by decide +kernel) (by decide +kernel) (by decide +kernel)
theorem gc_X2_18 : GoodIn BIG [.methodLink N_X2 18 m_X2_gather, .instanceMethod m_X2_gather, .selects N_X2 m_X2_gather m_X2_gather, .initialized N_X2, .code m_X2_gather c_X2_gather 5 (some .int)] := tb_good5 [744, 746, 9, 44, 747] (by decide +kernel) (by decide +kernel) (by decide +kernel)
theorem gc_X2_28 : GoodIn BIG [.methodLink N_X2 28 m_X2_leastHours, .static m_X2_leastHours, .initialized N_X2, .code m_X2_leastHours c_X2_leastHours 8 (some .int)] := tb_good5 [751, 752, 44, 753] (by decide +kernel) (by decide +kernel) (by decide +kernel)
theorem gc_X2_44 : GoodIn BIG [.methodLink N_X2 44 m_X2_longest, .static m_X2_longest, .initialized N_X2, .code m_X2_longest c_X2_longest 4 (some .int)] := tb_good5 [754, 755, 44, 756] (by decide +kernel) (by decide +kernel) (by decide +kernel)
theorem gn_X4_26 : Cond.methodLinkNest N_X4 26 m_X10_within "CoalTurns" ∈ BIG := tb_in 594 (by decide +kernel) rfl
theorem gc_X4_26 : GoodIn BIG [.static m_X10_within, .initialized N_X10, .code m_X10_within c_X10_within 3 (some .boolean)] := tb_good5 [402, 37, 403] (by decide +kernel) (by decide +kernel) (by decide +kernel)
theorem gc_X4_33 : GoodIn BIG [.methodLink N_X4 33 m_X4_inForce, .instanceMethod m_X4_inForce, .selects N_X4 m_X4_inForce m_X4_inForce, .initialized N_X4, .code m_X4_inForce c_X4_inForce 5 (some .int)] := tb_good5 [607, 583, 584, 45, 585] (by decide +kernel) (by decide +kernel) (by decide +kernel)
theorem gc_X5_35 : GoodIn BIG [.methodLink N_X5 35 m_X7_isInPort, .instanceMethod m_X7_isInPort, .selects N_X7 m_X7_isInPort m_X7_isInPort, .initialized N_X7, .code m_X7_isInPort c_X7_isInPort 1 (some .boolean)] := tb_good5 [612, 613, 614, 39, 615] (by decide +kernel) (by decide +kernel) (by decide +kernel)
theorem gc_X5_42 : GoodIn BIG [.methodLink N_X5 42 m_X5_rank, .static m_X5_rank, .initialized N_X5, .code m_X5_rank c_X5_rank 4 (some .int)] := tb_good5 [616, 617, 42, 618] (by decide +kernel) (by decide +kernel) (by decide +kernel)
theorem gc_X5_46 : GoodIn BIG [.methodLink N_X5 46 m_X5_insert, .instanceMethod m_X5_insert, .selects N_X5 m_X5_insert m_X5_insert, .initialized N_X5, .code m_X5_insert c_X5_insert 4 none] := tb_good5 [624, 626, 5, 42, 627] (by decide +kernel) (by decide +kernel) (by decide +kernel)
theorem gc_X5_53 : GoodIn BIG [.methodLink N_X5 53 m_X3_sellers, .instanceMethod m_X3_sellers, .selects N_X3 m_X3_sellers m_X3_sellers, .initialized N_X3, .code m_X3_sellers c_X3_sellers 4 (some .int)] := tb_good5 [628, 596, 597, 46, 598] (by decide +kernel) (by decide +kernel) (by decide +kernel)
theorem gc_X5_68 : GoodIn BIG [.methodLink N_X5 68 m_X3_keyOf, .instanceMethod m_X3_keyOf, .selects N_X3 m_X3_keyOf m_X3_keyOf, .initialized N_X3, .code m_X3_keyOf c_X3_keyOf 4 (some .int)] := tb_good5 [619, 620, 621, 46, 622] (by decide +kernel) (by decide +kernel) (by decide +kernel)
theorem gc_X6_45 : GoodIn BIG [.methodLink N_X6 45 m_X7_copy, .instanceMethod m_X7_copy, .selects N_X7 m_X7_copy m_X7_copy, .initialized N_X7, .code m_X7_copy c_X7_copy 2 none] := tb_good5 [657, 658, 659, 39, 660] (by decide +kernel) (by decide +kernel) (by decide +kernel)
theorem gc_X6_49 : GoodIn BIG [.methodLink N_X6 49 m_X0_copy, .instanceMethod m_X0_copy, .selects N_X0 m_X0_copy m_X0_copy, .initialized N_X0, .code m_X0_copy c_X0_copy 2 none] := tb_good5 [661, 662, 663, 40, 664] (by decide +kernel) (by decide +kernel) (by decide +kernel)
theorem gc_X6_52 : GoodIn BIG [.methodLink N_X6 52 m_X9_copy, .instanceMethod m_X9_copy, .selects N_X9 m_X9_copy m_X9_copy, .initialized N_X9, .code m_X9_copy c_X9_copy 2 none] := tb_good5 [666, 667, 668, 41, 669] (by decide +kernel) (by decide +kernel) (by decide +kernel)
theorem gn_X6_55 : Cond.methodLinkNest N_X6 55 m_X10_within "CoalTurns" ∈ BIG := tb_in 419 (by decide +kernel) rfl
theorem gc_X6_55 : GoodIn BIG [.static m_X10_within, .initialized N_X10, .code m_X10_within c_X10_within 3 (some .boolean)] := tb_good5 [402, 37, 403] (by decide +kernel) (by decide +kernel) (by decide +kernel)
theorem gc_X6_59 : GoodIn BIG [.methodLink N_X6 59 m_X7_sail, .instanceMethod m_X7_sail, .selects N_X7 m_X7_sail m_X7_sail, .initialized N_X7, .code m_X7_sail c_X7_sail 3 none] := tb_good5 [648, 649, 650, 39, 651] (by decide +kernel) (by decide +kernel) (by decide +kernel)
theorem gc_X6_71 : GoodIn BIG [.methodLink N_X6 71 m_X6_sell, .instanceMethod m_X6_sell, .selects N_X6 m_X6_sell m_X6_sell, .initialized N_X6, .code m_X6_sell c_X6_sell 7 (some .boolean)] := tb_good5 [677, 679, 6, 38, 680] (by decide +kernel) (by decide +kernel) (by decide +kernel)
theorem gc_X6_75 : GoodIn BIG [.methodLink N_X6 75 m_X7_miss, .instanceMethod m_X7_miss, .selects N_X7 m_X7_miss m_X7_miss, .initialized N_X7, .code m_X7_miss c_X7_miss 1 none] := tb_good5 [706, 707, 708, 39, 709] (by decide +kernel) (by decide +kernel) (by decide +kernel)
theorem gc_X6_89 : GoodIn BIG [.methodLink N_X6 89 m_X6_bestBuyer, .instanceMethod m_X6_bestBuyer, .selects N_X6 m_X6_bestBuyer m_X6_bestBuyer, .initialized N_X6, .code m_X6_bestBuyer c_X6_bestBuyer 5 (some .int)] := tb_good5 [681, 683, 7, 38, 684] (by decide +kernel) (by decide +kernel) (by decide +kernel)
theorem gc_X6_93 : GoodIn BIG [.methodLink N_X6 93 m_X6_strike, .instanceMethod m_X6_strike, .selects N_X6 m_X6_strike m_X6_strike, .initialized N_X6, .code m_X6_strike c_X6_strike 8 none] := tb_good5 [689, 691, 8, 38, 692] (by decide +kernel) (by decide +kernel) (by decide +kernel)
theorem gc_X6_100 : GoodIn BIG [.methodLink N_X6 100 m_X0_takes, .instanceMethod m_X0_takes, .selects N_X0 m_X0_takes m_X0_takes, .initialized N_X0, .code m_X0_takes c_X0_takes 2 (some .boolean)] := tb_good5 [685, 686, 687, 40, 688] (by decide +kernel) (by decide +kernel) (by decide +kernel)
theorem gc_X6_116 : GoodIn BIG [.methodLink N_X6 116 m_X7_deliver, .instanceMethod m_X7_deliver, .selects N_X7 m_X7_deliver m_X7_deliver, .initialized N_X7, .code m_X7_deliver c_X7_deliver 3 none] := tb_good5 [694, 695, 696, 39, 697] (by decide +kernel) (by decide +kernel) (by decide +kernel)
theorem gc_X6_122 : GoodIn BIG [.methodLink N_X6 122 m_X9_receive, .instanceMethod m_X9_receive, .selects N_X9 m_X9_receive m_X9_receive, .initialized N_X9, .code m_X9_receive c_X9_receive 2 none] := tb_good5 [698, 699, 700, 41, 701] (by decide +kernel) (by decide +kernel) (by decide +kernel)
theorem gc_X6_126 : GoodIn BIG [.methodLink N_X6 126 m_X1_enter, .instanceMethod m_X1_enter, .selects N_X1 m_X1_enter m_X1_enter, .initialized N_X1, .code m_X1_enter c_X1_enter 5 none] := tb_good5 [702, 703, 704, 43, 705] (by decide +kernel) (by decide +kernel) (by decide +kernel)
theorem gc_X6_130 : GoodIn BIG [.methodLink N_X6 130 m_X9_heat, .instanceMethod m_X9_heat, .selects N_X9 m_X9_heat m_X9_heat, .initialized N_X9, .code m_X9_heat c_X9_heat 4 none] := tb_good5 [714, 715, 716, 41, 717] (by decide +kernel) (by decide +kernel) (by decide +kernel)
theorem gc_X7_57 : GoodIn BIG [.methodLink N_X7 57 m_X7_duesFor, .instanceMethod m_X7_duesFor, .selects N_X7 m_X7_duesFor m_X7_duesFor, .initialized N_X7, .code m_X7_duesFor c_X7_duesFor 2 (some .int)] := tb_good5 [428, 429, 430, 39, 431] (by decide +kernel) (by decide +kernel) (by decide +kernel)
theorem gc_X8_29 : GoodIn BIG [.methodLink N_X8 29 m_X8_word, .instanceMethod m_X8_word, .selects N_X8 m_X8_word m_X8_word, .initialized N_X8, .code m_X8_word c_X8_word 3 (some .boolean)] := tb_good5 [489, 491, 0, 47, 492] (by decide +kernel) (by decide +kernel) (by decide +kernel)
theorem gc_X8_33 : GoodIn BIG [.methodLink N_X8 33 m_X8_key, .instanceMethod m_X8_key, .selects N_X8 m_X8_key m_X8_key, .initialized N_X8, .code m_X8_key c_X8_key 2 (some .boolean)] := tb_good5 [541, 543, 1, 47, 544] (by decide +kernel) (by decide +kernel) (by decide +kernel)
theorem gc_X8_39 : GoodIn BIG [.methodLink N_X8 39 m_X8_parts, .instanceMethod m_X8_parts, .selects N_X8 m_X8_parts m_X8_parts, .initialized N_X8, .code m_X8_parts c_X8_parts 4 (some .boolean)] := tb_good5 [553, 555, 2, 47, 556] (by decide +kernel) (by decide +kernel) (by decide +kernel)
theorem gc_X8_57 : GoodIn BIG [.methodLink N_X8 57 m_X8_number, .instanceMethod m_X8_number, .selects N_X8 m_X8_number m_X8_number, .initialized N_X8, .code m_X8_number c_X8_number 4 (some .int)] := tb_good5 [557, 559, 3, 47, 560] (by decide +kernel) (by decide +kernel) (by decide +kernel)
theorem gc_X8_64 : GoodIn BIG [.methodLink N_X8 64 m_X8_part, .instanceMethod m_X8_part, .selects N_X8 m_X8_part m_X8_part, .initialized N_X8, .code m_X8_part c_X8_part 5 (some .boolean)] := tb_good5 [565, 567, 4, 47, 568] (by decide +kernel) (by decide +kernel) (by decide +kernel)
theorem gc_X8_74 : GoodIn BIG [.methodLink N_X8 74 m_X3_addPart, .instanceMethod m_X3_addPart, .selects N_X3 m_X3_addPart m_X3_addPart, .initialized N_X3, .code m_X3_addPart c_X3_addPart 4 none] := tb_good5 [572, 573, 574, 46, 575] (by decide +kernel) (by decide +kernel) (by decide +kernel)
theorem gn_X8_90 : Cond.methodLinkNest N_X8 90 m_X10_within "CoalTurns" ∈ BIG := tb_in 561 (by decide +kernel) rfl
theorem gc_X8_90 : GoodIn BIG [.static m_X10_within, .initialized N_X10, .code m_X10_within c_X10_within 3 (some .boolean)] := tb_good5 [402, 37, 403] (by decide +kernel) (by decide +kernel) (by decide +kernel)
theorem gc_X11_169 : GoodIn BIG [.methodLink N_X11 169 m_X11_in, .static m_X11_in, .initialized N_X11, .code m_X11_in c_X11_in 3 (some .boolean)] := tb_good5 [1027, 1028, 48, 1029] (by decide +kernel) (by decide +kernel) (by decide +kernel)
theorem gc_X11_176 : GoodIn BIG [.methodLink N_X11 176 m_X11_isShip, .instanceMethod m_X11_isShip, .selects N_X11 m_X11_isShip m_X11_isShip, .initialized N_X11, .code m_X11_isShip c_X11_isShip 2 (some .boolean)] := tb_good5 [1034, 1036, 11, 48, 1037] (by decide +kernel) (by decide +kernel) (by decide +kernel)
theorem gc_X11_180 : GoodIn BIG [.methodLink N_X11 180 m_X11_rate, .instanceMethod m_X11_rate, .selects N_X11 m_X11_rate m_X11_rate, .initialized N_X11, .code m_X11_rate c_X11_rate 2 (some .int)] := tb_good5 [1042, 1044, 12, 48, 1045] (by decide +kernel) (by decide +kernel) (by decide +kernel)
theorem gc_X11_184 : GoodIn BIG [.methodLink N_X11 184 m_X11_isWard, .static m_X11_isWard, .initialized N_X11, .code m_X11_isWard c_X11_isWard 1 (some .boolean)] := tb_good5 [1054, 1055, 48, 1056] (by decide +kernel) (by decide +kernel) (by decide +kernel)
theorem gc_X11_187 : GoodIn BIG [.methodLink N_X11 187 m_X11_isBuyer, .instanceMethod m_X11_isBuyer, .selects N_X11 m_X11_isBuyer m_X11_isBuyer, .initialized N_X11, .code m_X11_isBuyer c_X11_isBuyer 2 (some .boolean)] := tb_good5 [1061, 1063, 13, 48, 1064] (by decide +kernel) (by decide +kernel) (by decide +kernel)
theorem gc_X11_196 : GoodIn BIG [.methodLink N_X11 196 m_X11_has, .instanceMethod m_X11_has, .selects N_X11 m_X11_has m_X11_has, .initialized N_X11, .code m_X11_has c_X11_has 2 (some .boolean)] := tb_good5 [1089, 1091, 16, 48, 1092] (by decide +kernel) (by decide +kernel) (by decide +kernel)
theorem gc_X11_202 : GoodIn BIG [.methodLink N_X11 202 m_X11_isDigit, .static m_X11_isDigit, .initialized N_X11, .code m_X11_isDigit c_X11_isDigit 1 (some .boolean)] := tb_good5 [1101, 1102, 48, 1103] (by decide +kernel) (by decide +kernel) (by decide +kernel)
theorem gc_X11_205 : GoodIn BIG [.methodLink N_X11 205 m_X11_takes, .instanceMethod m_X11_takes, .selects N_X11 m_X11_takes m_X11_takes, .initialized N_X11, .code m_X11_takes c_X11_takes 2 (some .boolean)] := tb_good5 [1085, 1087, 15, 48, 1088] (by decide +kernel) (by decide +kernel) (by decide +kernel)
theorem gc_X11_208 : GoodIn BIG [.methodLink N_X11 208 m_X11_takesKey, .instanceMethod m_X11_takesKey, .selects N_X11 m_X11_takesKey m_X11_takesKey, .initialized N_X11, .code m_X11_takesKey c_X11_takesKey 2 (some .boolean)] := tb_good5 [1093, 1095, 17, 48, 1096] (by decide +kernel) (by decide +kernel) (by decide +kernel)
theorem gc_X11_211 : GoodIn BIG [.methodLink N_X11 211 m_X11_takesNumber, .instanceMethod m_X11_takesNumber, .selects N_X11 m_X11_takesNumber m_X11_takesNumber, .initialized N_X11, .code m_X11_takesNumber c_X11_takesNumber 3 (some .boolean)] := tb_good5 [1097, 1099, 18, 48, 1100] (by decide +kernel) (by decide +kernel) (by decide +kernel)
theorem gc_X11_217 : GoodIn BIG [.methodLink N_X11 217 m_X11_reads, .instanceMethod m_X11_reads, .selects N_X11 m_X11_reads m_X11_reads, .initialized N_X11, .code m_X11_reads c_X11_reads 4 (some .boolean)] := tb_good5 [1081, 1083, 14, 48, 1084] (by decide +kernel) (by decide +kernel) (by decide +kernel)
theorem gc_X11_220 : GoodIn BIG [.methodLink N_X11 220 m_X11_forceOn, .instanceMethod m_X11_forceOn, .selects N_X11 m_X11_forceOn m_X11_forceOn, .initialized N_X11, .code m_X11_forceOn c_X11_forceOn 4 (some .int)] := tb_good5 [1108, 1110, 19, 48, 1111] (by decide +kernel) (by decide +kernel) (by decide +kernel)
theorem gc_X11_223 : GoodIn BIG [.methodLink N_X11 223 m_X11_manyBy, .instanceMethod m_X11_manyBy, .selects N_X11 m_X11_manyBy m_X11_manyBy, .initialized N_X11, .code m_X11_manyBy c_X11_manyBy 5 (some .int)] := tb_good5 [1116, 1118, 20, 48, 1119] (by decide +kernel) (by decide +kernel) (by decide +kernel)
theorem gc_X11_230 : GoodIn BIG [.methodLink N_X11 230 m_X11_keyOf, .instanceMethod m_X11_keyOf, .selects N_X11 m_X11_keyOf m_X11_keyOf, .initialized N_X11, .code m_X11_keyOf c_X11_keyOf 3 (some .int)] := tb_good5 [1132, 1134, 23, 48, 1135] (by decide +kernel) (by decide +kernel) (by decide +kernel)
theorem gc_X11_236 : GoodIn BIG [.methodLink N_X11 236 m_X11_isAhead, .instanceMethod m_X11_isAhead, .selects N_X11 m_X11_isAhead m_X11_isAhead, .initialized N_X11, .code m_X11_isAhead c_X11_isAhead 6 (some .boolean)] := tb_good5 [1128, 1130, 22, 48, 1131] (by decide +kernel) (by decide +kernel) (by decide +kernel)
theorem gc_X11_239 : GoodIn BIG [.methodLink N_X11 239 m_X11_findTurns, .instanceMethod m_X11_findTurns, .selects N_X11 m_X11_findTurns m_X11_findTurns, .initialized N_X11, .code m_X11_findTurns c_X11_findTurns 4 none] := tb_good5 [1124, 1126, 21, 48, 1127] (by decide +kernel) (by decide +kernel) (by decide +kernel)
theorem gc_X11_252 : GoodIn BIG [.methodLink N_X11 252 m_X11_next, .instanceMethod m_X11_next, .selects N_X11 m_X11_next m_X11_next, .initialized N_X11, .code m_X11_next c_X11_next 4 (some .int)] := tb_good5 [1160, 1162, 29, 48, 1163] (by decide +kernel) (by decide +kernel) (by decide +kernel)
theorem gc_X11_255 : GoodIn BIG [.methodLink N_X11 255 m_X11_strike, .instanceMethod m_X11_strike, .selects N_X11 m_X11_strike m_X11_strike, .initialized N_X11, .code m_X11_strike c_X11_strike 5 none] := tb_good5 [1164, 1166, 30, 48, 1167] (by decide +kernel) (by decide +kernel) (by decide +kernel)
theorem gc_X11_259 : GoodIn BIG [.methodLink N_X11 259 m_X11_note, .instanceMethod m_X11_note, .selects N_X11 m_X11_note m_X11_note, .initialized N_X11, .code m_X11_note c_X11_note 2 none] := tb_good5 [1152, 1154, 27, 48, 1155] (by decide +kernel) (by decide +kernel) (by decide +kernel)
theorem gc_X11_262 : GoodIn BIG [.methodLink N_X11 262 m_X11_sell, .instanceMethod m_X11_sell, .selects N_X11 m_X11_sell m_X11_sell, .initialized N_X11, .code m_X11_sell c_X11_sell 4 none] := tb_good5 [1156, 1158, 28, 48, 1159] (by decide +kernel) (by decide +kernel) (by decide +kernel)
theorem gc_X11_281 : GoodIn BIG [.methodLink N_X11 281 m_X11_arrive, .instanceMethod m_X11_arrive, .selects N_X11 m_X11_arrive m_X11_arrive, .initialized N_X11, .code m_X11_arrive c_X11_arrive 3 none] := tb_good5 [1144, 1146, 25, 48, 1147] (by decide +kernel) (by decide +kernel) (by decide +kernel)
theorem gc_X11_284 : GoodIn BIG [.methodLink N_X11 284 m_X11_market, .instanceMethod m_X11_market, .selects N_X11 m_X11_market m_X11_market, .initialized N_X11, .code m_X11_market c_X11_market 4 none] := tb_good5 [1148, 1150, 26, 48, 1151] (by decide +kernel) (by decide +kernel) (by decide +kernel)
theorem gc_X11_288 : GoodIn BIG [.methodLink N_X11 288 m_X11_go, .instanceMethod m_X11_go, .selects N_X11 m_X11_go m_X11_go, .initialized N_X11, .code m_X11_go c_X11_go 8 none] := tb_good5 [1140, 1142, 24, 48, 1143] (by decide +kernel) (by decide +kernel) (by decide +kernel)
theorem gc_X11_292 : GoodIn BIG [.methodLink N_X11 292 m_X11_findHours, .instanceMethod m_X11_findHours, .selects N_X11 m_X11_findHours m_X11_findHours, .initialized N_X11, .code m_X11_findHours c_X11_findHours 6 (some .int)] := tb_good5 [1180, 1182, 31, 48, 1183] (by decide +kernel) (by decide +kernel) (by decide +kernel)
theorem gc_X11_296 : GoodIn BIG [.methodLink N_X11 296 m_X11_sellThen, .instanceMethod m_X11_sellThen, .selects N_X11 m_X11_sellThen m_X11_sellThen, .initialized N_X11, .code m_X11_sellThen c_X11_sellThen 4 none] := tb_good5 [1188, 1190, 32, 48, 1191] (by decide +kernel) (by decide +kernel) (by decide +kernel)
theorem gc_X11_299 : GoodIn BIG [.methodLink N_X11 299 m_X11_keep, .instanceMethod m_X11_keep, .selects N_X11 m_X11_keep m_X11_keep, .initialized N_X11, .code m_X11_keep c_X11_keep 2 none] := tb_good5 [1212, 1214, 33, 48, 1215] (by decide +kernel) (by decide +kernel) (by decide +kernel)
theorem gc_X11_302 : GoodIn BIG [.methodLink N_X11 302 m_X11_allLacks, .instanceMethod m_X11_allLacks, .selects N_X11 m_X11_allLacks m_X11_allLacks, .initialized N_X11, .code m_X11_allLacks c_X11_allLacks 3 (some .int)] := tb_good5 [1216, 1218, 34, 48, 1219] (by decide +kernel) (by decide +kernel) (by decide +kernel)
theorem gc_X11_305 : GoodIn BIG [.methodLink N_X11 305 m_X11_putBack, .instanceMethod m_X11_putBack, .selects N_X11 m_X11_putBack m_X11_putBack, .initialized N_X11, .code m_X11_putBack c_X11_putBack 2 none] := tb_good5 [1220, 1222, 35, 48, 1223] (by decide +kernel) (by decide +kernel) (by decide +kernel)
end
section
abbrev tV : Type := Nat → Nat → Int32
abbrev tysA (dA : Nat → ClassId) : List (ClassId × FieldType) := [(dA 12, .int), (dA 13, .byte), (dA 14, .boolean), (dA 15, .object N_X7), (dA 16, .object N_X0), (dA 17, .object N_X9), (dA 18, .object N_X3)]
def tw_u (ad : Nat → Nat) (v : tV) : tU := fun k j => match SH k j with
  | some r => .ref (ad r)
  | none => .int (v k j)
def up2 (v : tV) (k j : Nat) (x : Int32) : tV := fun a b => if a = k ∧ b = j then x else v a b
def tI (D : va_G) (dA : Nat → ClassId) (ad : Nat → Nat) (v : tV) (H : Heap) : Prop := tw_W CLS D dA KD ad (tw_u ad v) H
abbrev tA (ad : Nat → Nat) : Nat → Prop := tw_A KD ad
def tK (D : va_G) (dA : Nat → ClassId) (U : State) : Prop := va_K D CLS (tysA dA) U ∧ TB U
theorem tK.warm {D : va_G} {dA : Nat → ClassId} {s U : State} (hW : s.WarmedH U.vm) (h : tK D dA s) : tK D dA U := ⟨va_K.moved hW.alike h.1, tb_warm hW h.2⟩
theorem tw_u_int {ad : Nat → Nat} {v : tV} {k j : Nat} (h : SH k j = none) : tw_u ad v k j = .int (v k j) := by
  unfold tw_u
  rw [h]
theorem tw_u_ref {ad : Nat → Nat} {v : tV} {k j r : Nat} (h : SH k j = some r) : tw_u ad v k j = .ref (ad r) := by
  unfold tw_u
  rw [h]
theorem tw_u_up {ad : Nat → Nat} {v : tV} {k j : Nat} {x : Int32} (h : SH k j = none) : t_up (tw_u ad v) k j (.int x) = tw_u ad (up2 v k j x) := by
  funext a b
  unfold t_up tw_u up2
  by_cases hab : a = k ∧ b = j
  · obtain ⟨rfl, rfl⟩ := hab
    simp [h]
  · simp [hab]
theorem up2_s (v : tV) (k j : Nat) (x : Int32) : up2 v k j x k j = x := by simp [up2]
theorem up2_n (v : tV) {k j a b : Nat} (x : Int32) (h : ¬ (a = k ∧ b = j)) : up2 v k j x a b = v a b := by simp [up2, h]
/-- what is known in a method's body -/
def CX (p : Program) (s : State) (m : MethodId) (args : Array Value) (c : Code) (cc : ByteArray) (own : String) (nL : Nat) (D : va_G) (dA : Nat → ClassId) : Prop :=
  p.tables.exec = Jvm.exec ∧ c.code = cc ∧ c.maxLocals = nL ∧ s.vm.findClass own = some m.cls ∧ (∀ w ∈ BIG, w.before args s = true) ∧ tK D dA s
/-- a field by its link -/
def FL (own : String) (index ci j : Nat) : Prop := ∃ (C : String) (T : u_T) (N : Nat), CLS[ci]? = some (C, T, N) ∧ ci < 12 ∧ (∀ w ∈ u_ws C T N, w ∈ BIG) ∧ j < N ∧ Cond.fieldLink own index (T j).1 (T j).2.1 (T j).2.2.1 ∈ BIG
def FP (own : String) (index ci j : Nat) (ty : FieldType) : Prop := ∃ (C : String) (T : u_T) (N : Nat) (ty0 : Nat → FieldType), CLS[ci]? = some (C, T, N) ∧ ci < 12 ∧ (∀ w ∈ u_ws C T N, w ∈ BIG) ∧ j < N ∧ Cond.fieldLink own index (T j).1 (T j).2.1 (T j).2.2.1 ∈ BIG ∧ (∀ k, k < N → parseFieldDescriptor (T k).2.2.1 = some (ty0 k)) ∧ (∀ a, a < N → ∀ b, b < N → a ≠ b → (T a).2.1 ≠ (T b).2.1) ∧ (T j).2.2.2 = false ∧ parseFieldDescriptor (T j).2.2.1 = some ty
def tP (D : va_G) (dA : Nat → ClassId) (ad : Nat → Nat) (v : tV) (av : List Value) : Array Value → State → Prop := va_Pc av (fun U => tI D dA ad v U.heap ∧ tK D dA U)
def tQi (D : va_G) (dA : Nat → ClassId) (ad : Nat → Nat) (post : Int32 → tV → Prop) : Array Value → State → Outcome → State → Prop := va_Qi post (fun v t => tI D dA ad v t.heap) (tA ad)
def tQv (D : va_G) (dA : Nat → ClassId) (ad : Nat → Nat) (post : tV → Prop) : Array Value → State → Outcome → State → Prop := va_Qv post (fun v t => tI D dA ad v t.heap) (tA ad)
/-- an answer that is a cell: its code -/
def tQr (D : va_G) (dA : Nat → ClassId) (ad : Nat → Nat) (post : Nat → tV → Prop) : Array Value → State → Outcome → State → Prop := va_Qr (S := Nat × tV) (fun u => post u.1 u.2) (fun u a t => a = ad u.1 ∧ tI D dA ad u.2 t.heap) (tA ad)
theorem tP.blind {D : va_G} {dA : Nat → ClassId} {ad : Nat → Nat} {v : tV} {av : List Value} : FrameBlind (tP D dA ad v av) := by
  intro a U g mk h
  obtain ⟨h1, h2, h3⟩ := h
  exact ⟨h1, h2, va_K.moved (u := U) (U := U.calling g mk a) (Vm.Alike.refl U.vm) h3.1, tb_vm (u := U) (U := U.calling g mk a) rfl h3.2⟩
section R5
variable {p : Program} {l : Launch} {e : Env} {R : Room} {s : State} {m : MethodId} {args : Array Value} {below : List Frame} {meth : Method} {c : Code} {H : Heap} {locs : List Loc} {cells slots : Nat} {Q : State → Prop}
variable {cc : ByteArray} {pc : Nat} {ls : Array Slot} {rest st0 : List Value} {D : va_G} {dA : Nat → ClassId} {ad : Nat → Nat} {v : tV} {own : String} {nL : Nat}
theorem r_geti (X : CX p s m args c cc own nL D dA) (hw : tI D dA ad v H) {k ci n0 index j : Nat} (F : FL own index ci j) (hk : KD k = some (ci, n0)) (hs : SH k j = none) (hd : decode cc pc = .ok (.getfield index, 3))
    (kk : W p l e R s m args below meth c H locs cells slots Q (F0 m (pc + 3) ls (.int (v k j) :: rest))) : W p l e R s m args below meth c H locs cells slots Q (F0 m pc ls (.ref (ad k) :: rest)) := by
  obtain ⟨hx, hb, hml, hown, hts, hK, hB⟩ := X
  obtain ⟨C, T, N, f1, f2, f3, f4, f5⟩ := F
  refine tw_get hx hb hts f3 hown hK hw hk f2 f1 j f4 (hts _ f5) rfl hd ?_
  rw [tw_u_int hs]
  exact kk
theorem r_getr (X : CX p s m args c cc own nL D dA) (hw : tI D dA ad v H) {k ci n0 index j r : Nat} (F : FL own index ci j) (hk : KD k = some (ci, n0)) (hs : SH k j = some r) (hd : decode cc pc = .ok (.getfield index, 3))
    (kk : W p l e R s m args below meth c H locs cells slots Q (F0 m (pc + 3) ls (.ref (ad r) :: rest))) : W p l e R s m args below meth c H locs cells slots Q (F0 m pc ls (.ref (ad k) :: rest)) := by
  obtain ⟨hx, hb, hml, hown, hts, hK, hB⟩ := X
  obtain ⟨C, T, N, f1, f2, f3, f4, f5⟩ := F
  refine tw_get hx hb hts f3 hown hK hw hk f2 f1 j f4 (hts _ f5) rfl hd ?_
  rw [tw_u_ref hs]
  exact kk
theorem r_put (X : CX p s m args c cc own nL D dA) (hw : tI D dA ad v H) (hS : va_S (tA ad) s.heap H locs) {k ci n0 index j : Nat} {ty : FieldType} {x : Int32} (F : FP own index ci j ty) (hk : KD k = some (ci, n0)) (hs : SH k j = none) (hn : narrow ty (.int x) = .int x ∧ fits ty (.int x) = true) (hd : decode cc pc = .ok (.putfield index, 3))
    (kk : ∀ (H1 : Heap) (locs1 : List Loc), tI D dA ad (up2 v k j x) H1 → va_S (tA ad) s.heap H1 locs1 → W p l e R s m args below meth c H1 locs1 cells slots Q (F0 m (pc + 3) ls rest)) : W p l e R s m args below meth c H locs cells slots Q (F0 m pc ls (.int x :: .ref (ad k) :: rest)) := by
  obtain ⟨hx, hb, hml, hown, hts, hK, hB⟩ := X
  obtain ⟨C, T, N, ty0, f1, f2, f3, f4, f5, f6, f7, f8, f9⟩ := F
  refine tw_put hx hb hts f3 ty0 f6 f7 hown hK hw (fun _ h => h) hS hk f2 f1 j f4 (hts _ f5) rfl f8 f9 hn.1 hn.2 hd (fun H1 locs1 h1 h2 => ?_)
  rw [tw_u_up hs] at h1
  exact kk H1 locs1 h1 h2
theorem r_iald (X : CX p s m args c cc own nL D dA) (hw : tI D dA ad v H) {k n : Nat} (hk : KD k = some (12, n)) {i : Int32} (hin : vp_in i n) (hs : SH k i.toNatClampNeg = none) (hd : decode cc pc = .ok (.iaload, 1))
    (kk : W p l e R s m args below meth c H locs cells slots Q (F0 m (pc + 1) ls (.int (v k i.toNatClampNeg) :: rest))) : W p l e R s m args below meth c H locs cells slots Q (F0 m pc ls (.int i :: .ref (ad k) :: rest)) := by
  obtain ⟨hx, hb, hml, hown, hts, hK, hB⟩ := X
  refine tw_iald hx hb hK hw hk (by decide) 0 rfl hin hd ?_
  rw [tw_u_int hs]
  exact kk
theorem r_bald (X : CX p s m args c cc own nL D dA) (hw : tI D dA ad v H) {k n : Nat} (hk : KD k = some (13, n)) {i : Int32} (hin : vp_in i n) (hs : SH k i.toNatClampNeg = none) (hd : decode cc pc = .ok (.baload, 1))
    (kk : W p l e R s m args below meth c H locs cells slots Q (F0 m (pc + 1) ls (.int (v k i.toNatClampNeg) :: rest))) : W p l e R s m args below meth c H locs cells slots Q (F0 m pc ls (.int i :: .ref (ad k) :: rest)) := by
  obtain ⟨hx, hb, hml, hown, hts, hK, hB⟩ := X
  refine tw_bald hx hb hK hw hk (by decide) 1 rfl hin hd ?_
  rw [tw_u_int hs]
  exact kk
theorem r_zald (X : CX p s m args c cc own nL D dA) (hw : tI D dA ad v H) {k n : Nat} (hk : KD k = some (14, n)) {i : Int32} (hin : vp_in i n) (hs : SH k i.toNatClampNeg = none) (hd : decode cc pc = .ok (.baload, 1))
    (kk : W p l e R s m args below meth c H locs cells slots Q (F0 m (pc + 1) ls (.int (v k i.toNatClampNeg) :: rest))) : W p l e R s m args below meth c H locs cells slots Q (F0 m pc ls (.int i :: .ref (ad k) :: rest)) := by
  obtain ⟨hx, hb, hml, hown, hts, hK, hB⟩ := X
  refine tw_zald hx hb hK hw hk (by decide) 2 rfl hin hd ?_
  rw [tw_u_int hs]
  exact kk
theorem r_aald (X : CX p s m args c cc own nL D dA) (hw : tI D dA ad v H) {k t n r : Nat} (hk : KD k = some (t, n)) (ht : t = 15 ∨ t = 16 ∨ t = 17 ∨ t = 18) {i : Int32} (hin : vp_in i n) (hs : SH k i.toNatClampNeg = some r) (hd : decode cc pc = .ok (.aaload, 1))
    (kk : W p l e R s m args below meth c H locs cells slots Q (F0 m (pc + 1) ls (.ref (ad r) :: rest))) : W p l e R s m args below meth c H locs cells slots Q (F0 m pc ls (.int i :: .ref (ad k) :: rest)) := by
  obtain ⟨hx, hb, hml, hown, hts, hK, hB⟩ := X
  have kk' : W p l e R s m args below meth c H locs cells slots Q (F0 m (pc + 1) ls (tw_u ad v k i.toNatClampNeg :: rest)) := by
    rw [tw_u_ref hs]
    exact kk
  rcases ht with rfl | rfl | rfl | rfl
  · exact tw_aald hx hb hK hw hk (by decide) 3 rfl hin hd kk'
  · exact tw_aald hx hb hK hw hk (by decide) 4 rfl hin hd kk'
  · exact tw_aald hx hb hK hw hk (by decide) 5 rfl hin hd kk'
  · exact tw_aald hx hb hK hw hk (by decide) 6 rfl hin hd kk'
theorem r_iast (X : CX p s m args c cc own nL D dA) (hw : tI D dA ad v H) (hS : va_S (tA ad) s.heap H locs) {k n : Nat} (hk : KD k = some (12, n)) {i x : Int32} (hin : vp_in i n) (hs : SH k i.toNatClampNeg = none) (hd : decode cc pc = .ok (.iastore, 1))
    (kk : ∀ (H1 : Heap) (locs1 : List Loc), tI D dA ad (up2 v k i.toNatClampNeg x) H1 → va_S (tA ad) s.heap H1 locs1 → W p l e R s m args below meth c H1 locs1 cells slots Q (F0 m (pc + 1) ls rest)) : W p l e R s m args below meth c H locs cells slots Q (F0 m pc ls (.int x :: .int i :: .ref (ad k) :: rest)) := by
  obtain ⟨hx, hb, hml, hown, hts, hK, hB⟩ := X
  refine tw_iast hx hb hK hw (fun _ h => h) hS hk (by decide) 0 rfl hin hd (fun H1 locs1 h1 h2 => ?_)
  rw [tw_u_up hs] at h1
  exact kk H1 locs1 h1 h2
theorem r_bast (X : CX p s m args c cc own nL D dA) (hw : tI D dA ad v H) (hS : va_S (tA ad) s.heap H locs) {k n : Nat} (hk : KD k = some (13, n)) {i x y : Int32} (hin : vp_in i n) (hs : SH k i.toNatClampNeg = none) (hy : narrow .byte (.int x) = .int y) (hd : decode cc pc = .ok (.bastore, 1))
    (kk : ∀ (H1 : Heap) (locs1 : List Loc), tI D dA ad (up2 v k i.toNatClampNeg y) H1 → va_S (tA ad) s.heap H1 locs1 → W p l e R s m args below meth c H1 locs1 cells slots Q (F0 m (pc + 1) ls rest)) : W p l e R s m args below meth c H locs cells slots Q (F0 m pc ls (.int x :: .int i :: .ref (ad k) :: rest)) := by
  obtain ⟨hx, hb, hml, hown, hts, hK, hB⟩ := X
  refine tw_bast hx hb hK hw (fun _ h => h) hS hk (by decide) 1 rfl hin hd (fun H1 locs1 h1 h2 => ?_)
  rw [hy, tw_u_up hs] at h1
  exact kk H1 locs1 h1 h2
theorem r_zast (X : CX p s m args c cc own nL D dA) (hw : tI D dA ad v H) (hS : va_S (tA ad) s.heap H locs) {k n : Nat} (hk : KD k = some (14, n)) {i x y : Int32} (hin : vp_in i n) (hs : SH k i.toNatClampNeg = none) (hy : narrow .boolean (.int x) = .int y) (hd : decode cc pc = .ok (.bastore, 1))
    (kk : ∀ (H1 : Heap) (locs1 : List Loc), tI D dA ad (up2 v k i.toNatClampNeg y) H1 → va_S (tA ad) s.heap H1 locs1 → W p l e R s m args below meth c H1 locs1 cells slots Q (F0 m (pc + 1) ls rest)) : W p l e R s m args below meth c H locs cells slots Q (F0 m pc ls (.int x :: .int i :: .ref (ad k) :: rest)) := by
  obtain ⟨hx, hb, hml, hown, hts, hK, hB⟩ := X
  refine tw_zast hx hb hK hw (fun _ h => h) hS hk (by decide) 2 rfl hin hd (fun H1 locs1 h1 h2 => ?_)
  rw [hy, tw_u_up hs] at h1
  exact kk H1 locs1 h1 h2
/-- the receiver of a call -/
theorem r_recv (X : CX p s m args c cc own nL D dA) (hw : tI D dA ad v H) {k ci n0 : Nat} (hk : KD k = some (ci, n0)) (h12 : ci < 12) {C : String} {T : u_T} {N : Nat} (hc : CLS[ci]? = some (C, T, N)) : ∃ cellB : Cell, H[ad k]? = some cellB ∧ cellB.vm.isStatics = false ∧ s.vm.findClass C = some cellB.cls := by
  obtain ⟨hx, hb, hml, hown, hts, hK, hB⟩ := X
  rcases hw.1 k _ hk with ⟨_, r, h1, cell, q1, q2, q3, q4⟩ | ⟨h, -⟩
  · exact ⟨cell, q1, by rw [q3]; rfl, by rw [q2]; exact (hK.1 ci _ hc).2.1⟩
  · exact absurd h12 (Nat.not_lt.mpr h)
/-- words of a call of an instance method, of a static one -/
def CV (own : String) (index : Nat) (C : String) (y : MethodName) (bytes : ByteArray) (maxL : Nat) (ret : Option FieldType) : Prop := GoodIn BIG [.methodLink own index y, .instanceMethod y, .selects C y y, .initialized C, .code y bytes maxL ret]
def CS (own : String) (index : Nat) (y : MethodName) (bytes : ByteArray) (maxL : Nat) (ret : Option FieldType) : Prop := GoodIn BIG [.methodLink own index y, .static y, .initialized own, .code y bytes maxL ret]
def RmOk (R rm : Room) (maxL : Nat) : Prop := rm.cells = 0 ∧ rm.slots = 0 ∧ rm.frames + 1 ≤ R.frames ∧ 8 + (maxL + 11) + rm.locals ≤ R.locals
theorem r_runV (X : CX p s m args c cc own nL D dA) (hw : tI D dA ad v H) {y : MethodName} {bytes : ByteArray} {maxL index k ci n0 n N : Nat} {ret : Option FieldType} {rm : Room} {C : String} {T : u_T} {As : List Value} {Qc : Array Value → State → Outcome → State → Prop}
    (hM : Met l y [.code y bytes maxL ret] rm (tP D dA ad v (.ref (ad k) :: As)) Qc 0 0 (tA ad)) (hG : CV own index C y bytes maxL ret) (hk : KD k = some (ci, n0)) (h12 : ci < 12) (hc : CLS[ci]? = some (C, T, N))
    (hy : y.cls = C ∧ y.cls ≠ "java/lang/invoke/MethodHandle" ∧ y.cls ≠ "java/lang/invoke/VarHandle" ∧ (parseMethodDescriptor y.desc).map (fun d => d.parameters.length) = some n) (hrm : RmOk R rm maxL) (hn : As.length = n) (hsz : ls.size = nL) (hst : st0 = As.reverse ++ .ref (ad k) :: rest) (hroom : (rest.map fun v => v.category).sum ≤ 8) (hcap : cells ≤ R.cells ∧ slots ≤ R.slots) (hd : decode cc pc = .ok (.invokevirtual index, 3)) :
    va_Run p l e R s m args below meth c H locs cells slots 0 0 (F0 m pc ls st0) rest (Qc (Value.ref (ad k) :: As).toArray) (tA ad) := by
  have hrc := r_recv X hw hk h12 hc
  obtain ⟨hx, hb, hml, hown, hts, hK⟩ := X
  exact va_runV (As := As) (rest := rest) ⟨hx, hb, hml, hown, hts⟩ hM (cwV n hts hG rfl hrm.1 hrm.2.1 hy ⟨hrm.2.2.1, hrm.2.2.2⟩) ⟨tP.blind, hrc, fun U hU hW => ⟨rfl, by rw [hU]; exact hw, hK.warm hW⟩⟩ rfl hn hsz hst (lv_room hroom) hd hcap
theorem r_runS (X : CX p s m args c cc own nL D dA) (hw : tI D dA ad v H) {y : MethodName} {bytes : ByteArray} {maxL index n : Nat} {ret : Option FieldType} {rm : Room} {As : List Value} {Qc : Array Value → State → Outcome → State → Prop}
    (hM : Met l y [.code y bytes maxL ret] rm (tP D dA ad v As) Qc 0 0 (tA ad)) (hG : CS own index y bytes maxL ret)
    (hy : y.cls = own ∧ y.cls ≠ "java/lang/invoke/MethodHandle" ∧ y.cls ≠ "java/lang/invoke/VarHandle" ∧ (parseMethodDescriptor y.desc).map (fun d => d.parameters.length) = some n) (hrm : RmOk R rm maxL) (hn : As.length = n) (hsz : ls.size = nL) (hst : st0 = As.reverse ++ rest) (hroom : (rest.map fun v => v.category).sum ≤ 8) (hcap : cells ≤ R.cells ∧ slots ≤ R.slots) (hd : decode cc pc = .ok (.invokestatic index, 3)) :
    va_Run p l e R s m args below meth c H locs cells slots 0 0 (F0 m pc ls st0) rest (Qc As.toArray) (tA ad) := by
  obtain ⟨hx, hb, hml, hown, hts, hK⟩ := X
  exact va_runS (As := As) (rest := rest) ⟨hx, hb, hml, hown, hts⟩ hM (cwS n hts hG rfl hrm.1 hrm.2.1 hy ⟨hrm.2.2.1, hrm.2.2.2⟩) ⟨tP.blind, fun U hU hW => ⟨rfl, by rw [hU]; exact hw, hK.warm hW⟩⟩ rfl hn hsz hst (lv_room hroom) hd hcap
theorem r_runSN (X : CX p s m args c cc own nL D dA) (hw : tI D dA ad v H) {y : MethodName} {bytes : ByteArray} {maxL index n : Nat} {ret : Option FieldType} {rm : Room} {host : String} {As : List Value} {Qc : Array Value → State → Outcome → State → Prop}
    (hM : Met l y [.code y bytes maxL ret] rm (tP D dA ad v As) Qc 0 0 (tA ad)) (hN : Cond.methodLinkNest own index y host ∈ BIG) (hG : GoodIn BIG [.static y, .initialized y.cls, .code y bytes maxL ret])
    (hy : y.cls ≠ "java/lang/invoke/MethodHandle" ∧ y.cls ≠ "java/lang/invoke/VarHandle" ∧ (parseMethodDescriptor y.desc).map (fun d => d.parameters.length) = some n) (hrm : RmOk R rm maxL) (hn : As.length = n) (hsz : ls.size = nL) (hst : st0 = As.reverse ++ rest) (hroom : (rest.map fun v => v.category).sum ≤ 8) (hcap : cells ≤ R.cells ∧ slots ≤ R.slots) (hd : decode cc pc = .ok (.invokestatic index, 3)) :
    va_Run p l e R s m args below meth c H locs cells slots 0 0 (F0 m pc ls st0) rest (Qc As.toArray) (tA ad) := by
  obtain ⟨hx, hb, hml, hown, hts, hK⟩ := X
  have h1 : GoodIn BIG [.code y bytes maxL ret] := fun w hw => hG w (by simp only [List.mem_singleton] at hw; subst hw; simp)
  exact va_runSN (As := As) (rest := rest) ⟨hx, hb, hml, hown, hts⟩ hM ⟨va_cnB n hts h1 rfl hrm.1 hrm.2.1 (va_Nw.of rfl (hts _ hN)) (hts _ (hG _ (by simp)).1) hy ⟨hrm.2.2.1, hrm.2.2.2⟩, hts _ (hG _ (by simp)).1, trivial⟩ ⟨tP.blind, fun U hU hW => ⟨rfl, by rw [hU]; exact hw, hK.warm hW⟩⟩ rfl hn hsz hst (lv_room hroom) hd hcap
theorem r_ci {a : Array Value} {post : Int32 → tV → Prop} (hr : va_Run p l e R s m args below meth c H locs cells slots 0 0 (F0 m pc ls st0) rest (tQi D dA ad post a) (tA ad)) (hS : va_S (tA ad) s.heap H locs)
    (kk : ∀ (r : Int32) (v' : tV) (H1 : Heap) (locs1 : List Loc), post r v' → tI D dA ad v' H1 → va_S (tA ad) s.heap H1 locs1 → W p l e R s m args below meth c H1 locs1 cells slots Q (F0 m (pc + 3) ls (.int r :: rest))) : W p l e R s m args below meth c H locs cells slots Q (F0 m pc ls st0) :=
  va_calli hr hS (fun _ _ h => h) (fun _ h => h) (fun r u t H1 locs1 ht _ hp hB _ _ hS1 => kk r u H1 locs1 hp (by rw [← ht]; exact hB) hS1)
theorem r_cv {a : Array Value} {post : tV → Prop} (hr : va_Run p l e R s m args below meth c H locs cells slots 0 0 (F0 m pc ls st0) rest (tQv D dA ad post a) (tA ad)) (hS : va_S (tA ad) s.heap H locs)
    (kk : ∀ (v' : tV) (H1 : Heap) (locs1 : List Loc), post v' → tI D dA ad v' H1 → va_S (tA ad) s.heap H1 locs1 → W p l e R s m args below meth c H1 locs1 cells slots Q (F0 m (pc + 3) ls rest)) : W p l e R s m args below meth c H locs cells slots Q (F0 m pc ls st0) :=
  va_callv hr hS (fun _ _ h => h) (fun _ h => h) (fun u t H1 locs1 ht _ hp hB _ _ hS1 => kk u H1 locs1 hp (by rw [← ht]; exact hB) hS1)
theorem r_cr {a : Array Value} {post : Nat → tV → Prop} (hr : va_Run p l e R s m args below meth c H locs cells slots 0 0 (F0 m pc ls st0) rest (tQr D dA ad post a) (tA ad)) (hS : va_S (tA ad) s.heap H locs)
    (kk : ∀ (r : Nat) (v' : tV) (H1 : Heap) (locs1 : List Loc), post r v' → tI D dA ad v' H1 → va_S (tA ad) s.heap H1 locs1 → W p l e R s m args below meth c H1 locs1 cells slots Q (F0 m (pc + 3) ls (.ref (ad r) :: rest))) : W p l e R s m args below meth c H locs cells slots Q (F0 m pc ls st0) :=
  va_callr hr hS (fun _ _ h => h) (fun _ h => h) (fun u ra t H1 locs1 ht _ hp hB _ _ hS1 => by
    obtain ⟨e1, e2⟩ := hB
    subst e1
    exact kk u.1 u.2 H1 locs1 hp (by rw [← ht]; exact e2) hS1)
theorem r_iret {post : Int32 → tV → Prop} (X : CX p s m args c cc own nL D dA) (hr : meth.sig.returnType = some .int) (hlocks : meth.locks = false) (hw : tI D dA ad v H) (hS : va_S (tA ad) s.heap H locs) {x : Int32} (hp : post x v) (hd : decode cc pc = .ok (.ireturn, 1)) : W p l e R s m args below meth c H locs cells slots (MQ below (tQi D dA ad post) args s cells slots (tA ad)) (F0 m pc ls [.int x]) :=
  W.iret X.1 X.2.1 hr (fun t ht hW => ⟨⟨x, v, rfl, hp, by show tI D dA ad v t.heap; rw [ht]; exact hw⟩, hS.F ht⟩) hS.2.2 hd hlocks
theorem r_zret {post : Int32 → tV → Prop} (X : CX p s m args c cc own nL D dA) (hr : meth.sig.returnType = some .boolean) (hlocks : meth.locks = false) (hw : tI D dA ad v H) (hS : va_S (tA ad) s.heap H locs) {x : Int32} (hn : narrow .boolean (.int x) = .int x) (hp : post x v) (hd : decode cc pc = .ok (.ireturn, 1)) : W p l e R s m args below meth c H locs cells slots (MQ below (tQi D dA ad post) args s cells slots (tA ad)) (F0 m pc ls [.int x]) :=
  W.zret X.1 X.2.1 hr hn (fun t ht hW => ⟨⟨x, v, rfl, hp, by show tI D dA ad v t.heap; rw [ht]; exact hw⟩, hS.F ht⟩) hS.2.2 hd hlocks
theorem r_vret {post : tV → Prop} (X : CX p s m args c cc own nL D dA) (hr : meth.sig.returnType = none) (hlocks : meth.locks = false) (hw : tI D dA ad v H) (hS : va_S (tA ad) s.heap H locs) (hp : post v) (hd : decode cc pc = .ok (.return_, 1)) : W p l e R s m args below meth c H locs cells slots (MQ below (tQv D dA ad post) args s cells slots (tA ad)) (F0 m pc ls []) :=
  W.vret X.1 X.2.1 hr (fun t ht hW => ⟨⟨v, rfl, hp, by show tI D dA ad v t.heap; rw [ht]; exact hw⟩, hS.F ht⟩) hS.2.2 hd hlocks
theorem r_aret {post : Nat → tV → Prop} (X : CX p s m args c cc own nL D dA) {C : String} (hr : meth.sig.returnType = some (.object C)) (hlocks : meth.locks = false) (hw : tI D dA ad v H) (hS : va_S (tA ad) s.heap H locs) {k : Nat} (hp : post k v) (hd : decode cc pc = .ok (.areturn, 1)) : W p l e R s m args below meth c H locs cells slots (MQ below (tQr D dA ad post) args s cells slots (tA ad)) (F0 m pc ls [.ref (ad k)]) :=
  W.aret X.1 X.2.1 hr (Or.inl ⟨_, rfl⟩) (Or.inr ⟨_, rfl⟩) (fun t ht hW => ⟨⟨(k, v), ad k, rfl, hp, rfl, by show tI D dA ad v t.heap; rw [ht]; exact hw⟩, hS.F ht⟩) hS.2.2 hd hlocks
end R5
/-- a method's body, from its entry -/
theorem tMet {l : Launch} {y : MethodName} {cc : ByteArray} {maxL : Nat} {ret : Option FieldType} {rm : Room} {D : va_G} {dA : Nat → ClassId} {ad : Nat → Nat} {v : tV} {av : List Value} {Qc : Array Value → State → Outcome → State → Prop} (hy : plainName y.cls = true) (hlen : (lg_sl av).length ≤ maxL)
    (body : ∀ (p : Program) (e : Env) (s : State) (m : MethodId) (below : List Frame) (meth : Method) (c : Code) (ls : Array Slot), CX p s m av.toArray c cc y.cls maxL D dA → meth.sig.returnType = ret → meth.locks = false → tI D dA ad v s.heap → lv_has ls maxL (lv_args 0 av) →
      W p l e rm s m av.toArray below meth c s.heap [] 0 0 (MQ below Qc av.toArray s 0 0 (tA ad)) (F0 m 0 ls [])) : Met l y [.code y cc maxL ret] rm (tP D dA ad v av) Qc 0 0 (tA ad) := by
  refine Met.ofW (cc := cc) (maxL := maxL) (ret := ret) hy rfl ?_
  intro p e s m args below meth c s₁ B hml hv
  obtain ⟨rfl, hw, hK⟩ := hv
  have hl := lv_entry av (n := maxL) hlen
  rw [lg_entry_eq]
  exact body p e s m below meth c _ ⟨B.exec, B.bytes, hml, findClass_of_methodNamed B.named, tb_args hK.2, hK⟩ B.returns B.notSynchronized hw hl
end
section
theorem FL_X10_10 : FL N_X10 10 10 0 := ⟨N_X10, T_X10, 13, rfl, by decide, uw_X10, by decide, fl_X10_10⟩
theorem FL_X10_16 : FL N_X10 16 10 1 := ⟨N_X10, T_X10, 13, rfl, by decide, uw_X10, by decide, fl_X10_16⟩
theorem FL_X10_19 : FL N_X10 19 10 2 := ⟨N_X10, T_X10, 13, rfl, by decide, uw_X10, by decide, fl_X10_19⟩
theorem FL_X10_25 : FL N_X10 25 10 3 := ⟨N_X10, T_X10, 13, rfl, by decide, uw_X10, by decide, fl_X10_25⟩
theorem FL_X10_29 : FL N_X10 29 10 4 := ⟨N_X10, T_X10, 13, rfl, by decide, uw_X10, by decide, fl_X10_29⟩
theorem FL_X10_35 : FL N_X10 35 10 5 := ⟨N_X10, T_X10, 13, rfl, by decide, uw_X10, by decide, fl_X10_35⟩
theorem FL_X10_39 : FL N_X10 39 10 6 := ⟨N_X10, T_X10, 13, rfl, by decide, uw_X10, by decide, fl_X10_39⟩
theorem FL_X10_45 : FL N_X10 45 10 7 := ⟨N_X10, T_X10, 13, rfl, by decide, uw_X10, by decide, fl_X10_45⟩
theorem FL_X10_52 : FL N_X10 52 10 8 := ⟨N_X10, T_X10, 13, rfl, by decide, uw_X10, by decide, fl_X10_52⟩
theorem FL_X10_59 : FL N_X10 59 10 9 := ⟨N_X10, T_X10, 13, rfl, by decide, uw_X10, by decide, fl_X10_59⟩
theorem FL_X10_63 : FL N_X10 63 10 10 := ⟨N_X10, T_X10, 13, rfl, by decide, uw_X10, by decide, fl_X10_63⟩
theorem FP_X10_63 : FP N_X10 63 10 10 .boolean := ⟨N_X10, T_X10, 13, y_X10, rfl, by decide, uw_X10, by decide, fl_X10_63, ty_X10, nm_X10, rfl, by decide +kernel⟩
theorem FL_X10_67 : FL N_X10 67 10 11 := ⟨N_X10, T_X10, 13, rfl, by decide, uw_X10, by decide, fl_X10_67⟩
theorem FP_X10_67 : FP N_X10 67 10 11 .int := ⟨N_X10, T_X10, 13, y_X10, rfl, by decide, uw_X10, by decide, fl_X10_67, ty_X10, nm_X10, rfl, by decide +kernel⟩
theorem FL_X10_71 : FL N_X10 71 10 12 := ⟨N_X10, T_X10, 13, rfl, by decide, uw_X10, by decide, fl_X10_71⟩
theorem FP_X10_71 : FP N_X10 71 10 12 .int := ⟨N_X10, T_X10, 13, y_X10, rfl, by decide, uw_X10, by decide, fl_X10_71, ty_X10, nm_X10, rfl, by decide +kernel⟩
theorem FL_X10_82 : FL N_X10 82 6 3 := ⟨N_X6, T_X6, 7, rfl, by decide, uw_X6, by decide, fl_X10_82⟩
theorem FP_X10_82 : FP N_X10 82 6 3 .int := ⟨N_X6, T_X6, 7, y_X6, rfl, by decide, uw_X6, by decide, fl_X10_82, ty_X6, nm_X6, rfl, by decide +kernel⟩
theorem FL_X10_85 : FL N_X10 85 6 0 := ⟨N_X6, T_X6, 7, rfl, by decide, uw_X6, by decide, fl_X10_85⟩
theorem FL_X10_98 : FL N_X10 98 7 3 := ⟨N_X7, T_X7, 13, rfl, by decide, uw_X7, by decide, fl_X10_98⟩
theorem FP_X10_98 : FP N_X10 98 7 3 .int := ⟨N_X7, T_X7, 13, y_X7, rfl, by decide, uw_X7, by decide, fl_X10_98, ty_X7, nm_X7, rfl, by decide +kernel⟩
theorem FL_X10_101 : FL N_X10 101 7 6 := ⟨N_X7, T_X7, 13, rfl, by decide, uw_X7, by decide, fl_X10_101⟩
theorem FP_X10_101 : FP N_X10 101 7 6 .int := ⟨N_X7, T_X7, 13, y_X7, rfl, by decide, uw_X7, by decide, fl_X10_101, ty_X7, nm_X7, rfl, by decide +kernel⟩
theorem FL_X10_104 : FL N_X10 104 7 7 := ⟨N_X7, T_X7, 13, rfl, by decide, uw_X7, by decide, fl_X10_104⟩
theorem FP_X10_104 : FP N_X10 104 7 7 .int := ⟨N_X7, T_X7, 13, y_X7, rfl, by decide, uw_X7, by decide, fl_X10_104, ty_X7, nm_X7, rfl, by decide +kernel⟩
theorem FL_X10_111 : FL N_X10 111 7 0 := ⟨N_X7, T_X7, 13, rfl, by decide, uw_X7, by decide, fl_X10_111⟩
theorem FP_X10_111 : FP N_X10 111 7 0 .int := ⟨N_X7, T_X7, 13, y_X7, rfl, by decide, uw_X7, by decide, fl_X10_111, ty_X7, nm_X7, rfl, by decide +kernel⟩
theorem FL_X10_127 : FL N_X10 127 6 4 := ⟨N_X6, T_X6, 7, rfl, by decide, uw_X6, by decide, fl_X10_127⟩
theorem FP_X10_127 : FP N_X10 127 6 4 .int := ⟨N_X6, T_X6, 7, y_X6, rfl, by decide, uw_X6, by decide, fl_X10_127, ty_X6, nm_X6, rfl, by decide +kernel⟩
theorem FL_X10_130 : FL N_X10 130 6 1 := ⟨N_X6, T_X6, 7, rfl, by decide, uw_X6, by decide, fl_X10_130⟩
theorem FL_X10_139 : FL N_X10 139 0 2 := ⟨N_X0, T_X0, 4, rfl, by decide, uw_X0, by decide, fl_X10_139⟩
theorem FP_X10_139 : FP N_X10 139 0 2 .int := ⟨N_X0, T_X0, 4, y_X0, rfl, by decide, uw_X0, by decide, fl_X10_139, ty_X0, nm_X0, rfl, by decide +kernel⟩
theorem FL_X10_142 : FL N_X10 142 0 3 := ⟨N_X0, T_X0, 4, rfl, by decide, uw_X0, by decide, fl_X10_142⟩
theorem FP_X10_142 : FP N_X10 142 0 3 .int := ⟨N_X0, T_X0, 4, y_X0, rfl, by decide, uw_X0, by decide, fl_X10_142, ty_X0, nm_X0, rfl, by decide +kernel⟩
theorem FL_X10_148 : FL N_X10 148 6 2 := ⟨N_X6, T_X6, 7, rfl, by decide, uw_X6, by decide, fl_X10_148⟩
theorem FL_X10_152 : FL N_X10 152 9 0 := ⟨N_X9, T_X9, 5, rfl, by decide, uw_X9, by decide, fl_X10_152⟩
theorem FL_X10_158 : FL N_X10 158 9 1 := ⟨N_X9, T_X9, 5, rfl, by decide, uw_X9, by decide, fl_X10_158⟩
theorem FP_X10_158 : FP N_X10 158 9 1 .int := ⟨N_X9, T_X9, 5, y_X9, rfl, by decide, uw_X9, by decide, fl_X10_158, ty_X9, nm_X9, rfl, by decide +kernel⟩
theorem FL_X10_161 : FL N_X10 161 8 1 := ⟨N_X8, T_X8, 3, rfl, by decide, uw_X8, by decide, fl_X10_161⟩
theorem FP_X10_161 : FP N_X10 161 8 1 .int := ⟨N_X8, T_X8, 3, y_X8, rfl, by decide, uw_X8, by decide, fl_X10_161, ty_X8, nm_X8, rfl, by decide +kernel⟩
theorem FL_X10_168 : FL N_X10 168 4 2 := ⟨N_X4, T_X4, 3, rfl, by decide, uw_X4, by decide, fl_X10_168⟩
theorem FP_X10_168 : FP N_X10 168 4 2 .int := ⟨N_X4, T_X4, 3, y_X4, rfl, by decide, uw_X4, by decide, fl_X10_168, ty_X4, nm_X4, rfl, by decide +kernel⟩
theorem FL_X10_169 : FL N_X10 169 4 0 := ⟨N_X4, T_X4, 3, rfl, by decide, uw_X4, by decide, fl_X10_169⟩
theorem FL_X10_177 : FL N_X10 177 3 6 := ⟨N_X3, T_X3, 7, rfl, by decide, uw_X3, by decide, fl_X10_177⟩
theorem FP_X10_177 : FP N_X10 177 3 6 .int := ⟨N_X3, T_X3, 7, y_X3, rfl, by decide, uw_X3, by decide, fl_X10_177, ty_X3, nm_X3, rfl, by decide +kernel⟩
theorem FL_X10_191 : FL N_X10 191 6 5 := ⟨N_X6, T_X6, 7, rfl, by decide, uw_X6, by decide, fl_X10_191⟩
theorem FP_X10_191 : FP N_X10 191 6 5 .int := ⟨N_X6, T_X6, 7, y_X6, rfl, by decide, uw_X6, by decide, fl_X10_191, ty_X6, nm_X6, rfl, by decide +kernel⟩
theorem FL_X10_202 : FL N_X10 202 5 2 := ⟨N_X5, T_X5, 3, rfl, by decide, uw_X5, by decide, fl_X10_202⟩
theorem FP_X10_202 : FP N_X10 202 5 2 .int := ⟨N_X5, T_X5, 3, y_X5, rfl, by decide, uw_X5, by decide, fl_X10_202, ty_X5, nm_X5, rfl, by decide +kernel⟩
theorem FL_X10_203 : FL N_X10 203 5 0 := ⟨N_X5, T_X5, 3, rfl, by decide, uw_X5, by decide, fl_X10_203⟩
theorem FL_X10_225 : FL N_X10 225 1 5 := ⟨N_X1, T_X1, 7, rfl, by decide, uw_X1, by decide, fl_X10_225⟩
theorem FP_X10_225 : FP N_X10 225 1 5 .int := ⟨N_X1, T_X1, 7, y_X1, rfl, by decide, uw_X1, by decide, fl_X10_225, ty_X1, nm_X1, rfl, by decide +kernel⟩
theorem FL_X10_242 : FL N_X10 242 6 6 := ⟨N_X6, T_X6, 7, rfl, by decide, uw_X6, by decide, fl_X10_242⟩
theorem FP_X10_242 : FP N_X10 242 6 6 .int := ⟨N_X6, T_X6, 7, y_X6, rfl, by decide, uw_X6, by decide, fl_X10_242, ty_X6, nm_X6, rfl, by decide +kernel⟩
theorem FL_X10_245 : FL N_X10 245 7 2 := ⟨N_X7, T_X7, 13, rfl, by decide, uw_X7, by decide, fl_X10_245⟩
theorem FP_X10_245 : FP N_X10 245 7 2 .int := ⟨N_X7, T_X7, 13, y_X7, rfl, by decide, uw_X7, by decide, fl_X10_245, ty_X7, nm_X7, rfl, by decide +kernel⟩
theorem FL_X10_261 : FL N_X10 261 1 4 := ⟨N_X1, T_X1, 7, rfl, by decide, uw_X1, by decide, fl_X10_261⟩
theorem FP_X10_261 : FP N_X10 261 1 4 .int := ⟨N_X1, T_X1, 7, y_X1, rfl, by decide, uw_X1, by decide, fl_X10_261, ty_X1, nm_X1, rfl, by decide +kernel⟩
theorem FL_X0_7 : FL N_X0 7 0 0 := ⟨N_X0, T_X0, 4, rfl, by decide, uw_X0, by decide, fl_X0_7⟩
theorem FP_X0_7 : FP N_X0 7 0 0 .int := ⟨N_X0, T_X0, 4, y_X0, rfl, by decide, uw_X0, by decide, fl_X0_7, ty_X0, nm_X0, rfl, by decide +kernel⟩
theorem FL_X0_13 : FL N_X0 13 0 1 := ⟨N_X0, T_X0, 4, rfl, by decide, uw_X0, by decide, fl_X0_13⟩
theorem FP_X0_13 : FP N_X0 13 0 1 .int := ⟨N_X0, T_X0, 4, y_X0, rfl, by decide, uw_X0, by decide, fl_X0_13, ty_X0, nm_X0, rfl, by decide +kernel⟩
theorem FL_X0_16 : FL N_X0 16 0 2 := ⟨N_X0, T_X0, 4, rfl, by decide, uw_X0, by decide, fl_X0_16⟩
theorem FP_X0_16 : FP N_X0 16 0 2 .int := ⟨N_X0, T_X0, 4, y_X0, rfl, by decide, uw_X0, by decide, fl_X0_16, ty_X0, nm_X0, rfl, by decide +kernel⟩
theorem FL_X0_19 : FL N_X0 19 0 3 := ⟨N_X0, T_X0, 4, rfl, by decide, uw_X0, by decide, fl_X0_19⟩
theorem FP_X0_19 : FP N_X0 19 0 3 .int := ⟨N_X0, T_X0, 4, y_X0, rfl, by decide, uw_X0, by decide, fl_X0_19, ty_X0, nm_X0, rfl, by decide +kernel⟩
theorem FL_X0_26 : FL N_X0 26 7 1 := ⟨N_X7, T_X7, 13, rfl, by decide, uw_X7, by decide, fl_X0_26⟩
theorem FP_X0_26 : FP N_X0 26 7 1 .int := ⟨N_X7, T_X7, 13, y_X7, rfl, by decide, uw_X7, by decide, fl_X0_26, ty_X7, nm_X7, rfl, by decide +kernel⟩
theorem FL_X0_29 : FL N_X0 29 7 3 := ⟨N_X7, T_X7, 13, rfl, by decide, uw_X7, by decide, fl_X0_29⟩
theorem FP_X0_29 : FP N_X0 29 7 3 .int := ⟨N_X7, T_X7, 13, y_X7, rfl, by decide, uw_X7, by decide, fl_X0_29, ty_X7, nm_X7, rfl, by decide +kernel⟩
theorem FL_X1_11 : FL N_X1 11 1 0 := ⟨N_X1, T_X1, 7, rfl, by decide, uw_X1, by decide, fl_X1_11⟩
theorem FL_X1_15 : FL N_X1 15 1 1 := ⟨N_X1, T_X1, 7, rfl, by decide, uw_X1, by decide, fl_X1_15⟩
theorem FL_X1_18 : FL N_X1 18 1 2 := ⟨N_X1, T_X1, 7, rfl, by decide, uw_X1, by decide, fl_X1_18⟩
theorem FL_X1_21 : FL N_X1 21 1 3 := ⟨N_X1, T_X1, 7, rfl, by decide, uw_X1, by decide, fl_X1_21⟩
theorem FL_X1_24 : FL N_X1 24 1 4 := ⟨N_X1, T_X1, 7, rfl, by decide, uw_X1, by decide, fl_X1_24⟩
theorem FP_X1_24 : FP N_X1 24 1 4 .int := ⟨N_X1, T_X1, 7, y_X1, rfl, by decide, uw_X1, by decide, fl_X1_24, ty_X1, nm_X1, rfl, by decide +kernel⟩
theorem FL_X1_28 : FL N_X1 28 1 5 := ⟨N_X1, T_X1, 7, rfl, by decide, uw_X1, by decide, fl_X1_28⟩
theorem FP_X1_28 : FP N_X1 28 1 5 .int := ⟨N_X1, T_X1, 7, y_X1, rfl, by decide, uw_X1, by decide, fl_X1_28, ty_X1, nm_X1, rfl, by decide +kernel⟩
theorem FL_X1_31 : FL N_X1 31 1 6 := ⟨N_X1, T_X1, 7, rfl, by decide, uw_X1, by decide, fl_X1_31⟩
theorem FP_X1_31 : FP N_X1 31 1 6 .int := ⟨N_X1, T_X1, 7, y_X1, rfl, by decide, uw_X1, by decide, fl_X1_31, ty_X1, nm_X1, rfl, by decide +kernel⟩
theorem FL_X2_9 : FL N_X2 9 2 0 := ⟨N_X2, T_X2, 2, rfl, by decide, uw_X2, by decide, fl_X2_9⟩
theorem FL_X2_15 : FL N_X2 15 2 1 := ⟨N_X2, T_X2, 2, rfl, by decide, uw_X2, by decide, fl_X2_15⟩
theorem FL_X2_32 : FL N_X2 32 1 4 := ⟨N_X1, T_X1, 7, rfl, by decide, uw_X1, by decide, fl_X2_32⟩
theorem FP_X2_32 : FP N_X2 32 1 4 .int := ⟨N_X1, T_X1, 7, y_X1, rfl, by decide, uw_X1, by decide, fl_X2_32, ty_X1, nm_X1, rfl, by decide +kernel⟩
theorem FL_X2_38 : FL N_X2 38 1 0 := ⟨N_X1, T_X1, 7, rfl, by decide, uw_X1, by decide, fl_X2_38⟩
theorem FL_X2_41 : FL N_X2 41 1 2 := ⟨N_X1, T_X1, 7, rfl, by decide, uw_X1, by decide, fl_X2_41⟩
theorem FL_X3_9 : FL N_X3 9 3 0 := ⟨N_X3, T_X3, 7, rfl, by decide, uw_X3, by decide, fl_X3_9⟩
theorem FL_X3_15 : FL N_X3 15 3 1 := ⟨N_X3, T_X3, 7, rfl, by decide, uw_X3, by decide, fl_X3_15⟩
theorem FL_X3_18 : FL N_X3 18 3 2 := ⟨N_X3, T_X3, 7, rfl, by decide, uw_X3, by decide, fl_X3_18⟩
theorem FL_X3_22 : FL N_X3 22 3 3 := ⟨N_X3, T_X3, 7, rfl, by decide, uw_X3, by decide, fl_X3_22⟩
theorem FP_X3_22 : FP N_X3 22 3 3 .int := ⟨N_X3, T_X3, 7, y_X3, rfl, by decide, uw_X3, by decide, fl_X3_22, ty_X3, nm_X3, rfl, by decide +kernel⟩
theorem FL_X3_26 : FL N_X3 26 3 4 := ⟨N_X3, T_X3, 7, rfl, by decide, uw_X3, by decide, fl_X3_26⟩
theorem FP_X3_26 : FP N_X3 26 3 4 .int := ⟨N_X3, T_X3, 7, y_X3, rfl, by decide, uw_X3, by decide, fl_X3_26, ty_X3, nm_X3, rfl, by decide +kernel⟩
theorem FL_X3_29 : FL N_X3 29 3 5 := ⟨N_X3, T_X3, 7, rfl, by decide, uw_X3, by decide, fl_X3_29⟩
theorem FP_X3_29 : FP N_X3 29 3 5 .int := ⟨N_X3, T_X3, 7, y_X3, rfl, by decide, uw_X3, by decide, fl_X3_29, ty_X3, nm_X3, rfl, by decide +kernel⟩
theorem FL_X3_32 : FL N_X3 32 3 6 := ⟨N_X3, T_X3, 7, rfl, by decide, uw_X3, by decide, fl_X3_32⟩
theorem FP_X3_32 : FP N_X3 32 3 6 .int := ⟨N_X3, T_X3, 7, y_X3, rfl, by decide, uw_X3, by decide, fl_X3_32, ty_X3, nm_X3, rfl, by decide +kernel⟩
theorem FL_X3_35 : FL N_X3 35 7 3 := ⟨N_X7, T_X7, 13, rfl, by decide, uw_X7, by decide, fl_X3_35⟩
theorem FP_X3_35 : FP N_X3 35 7 3 .int := ⟨N_X7, T_X7, 13, y_X7, rfl, by decide, uw_X7, by decide, fl_X3_35, ty_X7, nm_X7, rfl, by decide +kernel⟩
theorem FL_X3_40 : FL N_X3 40 7 6 := ⟨N_X7, T_X7, 13, rfl, by decide, uw_X7, by decide, fl_X3_40⟩
theorem FP_X3_40 : FP N_X3 40 7 6 .int := ⟨N_X7, T_X7, 13, y_X7, rfl, by decide, uw_X7, by decide, fl_X3_40, ty_X7, nm_X7, rfl, by decide +kernel⟩
theorem FL_X3_43 : FL N_X3 43 7 8 := ⟨N_X7, T_X7, 13, rfl, by decide, uw_X7, by decide, fl_X3_43⟩
theorem FP_X3_43 : FP N_X3 43 7 8 .int := ⟨N_X7, T_X7, 13, y_X7, rfl, by decide, uw_X7, by decide, fl_X3_43, ty_X7, nm_X7, rfl, by decide +kernel⟩
theorem FL_X4_11 : FL N_X4 11 4 0 := ⟨N_X4, T_X4, 3, rfl, by decide, uw_X4, by decide, fl_X4_11⟩
theorem FL_X4_18 : FL N_X4 18 4 1 := ⟨N_X4, T_X4, 3, rfl, by decide, uw_X4, by decide, fl_X4_18⟩
theorem FL_X4_22 : FL N_X4 22 4 2 := ⟨N_X4, T_X4, 3, rfl, by decide, uw_X4, by decide, fl_X4_22⟩
theorem FP_X4_22 : FP N_X4 22 4 2 .int := ⟨N_X4, T_X4, 3, y_X4, rfl, by decide, uw_X4, by decide, fl_X4_22, ty_X4, nm_X4, rfl, by decide +kernel⟩
theorem FL_X4_30 : FL N_X4 30 3 6 := ⟨N_X3, T_X3, 7, rfl, by decide, uw_X3, by decide, fl_X4_30⟩
theorem FP_X4_30 : FP N_X4 30 3 6 .int := ⟨N_X3, T_X3, 7, y_X3, rfl, by decide, uw_X3, by decide, fl_X4_30, ty_X3, nm_X3, rfl, by decide +kernel⟩
theorem FL_X5_9 : FL N_X5 9 5 0 := ⟨N_X5, T_X5, 3, rfl, by decide, uw_X5, by decide, fl_X5_9⟩
theorem FL_X5_15 : FL N_X5 15 5 1 := ⟨N_X5, T_X5, 3, rfl, by decide, uw_X5, by decide, fl_X5_15⟩
theorem FL_X5_18 : FL N_X5 18 5 2 := ⟨N_X5, T_X5, 3, rfl, by decide, uw_X5, by decide, fl_X5_18⟩
theorem FP_X5_18 : FP N_X5 18 5 2 .int := ⟨N_X5, T_X5, 3, y_X5, rfl, by decide, uw_X5, by decide, fl_X5_18, ty_X5, nm_X5, rfl, by decide +kernel⟩
theorem FL_X5_22 : FL N_X5 22 6 3 := ⟨N_X6, T_X6, 7, rfl, by decide, uw_X6, by decide, fl_X5_22⟩
theorem FP_X5_22 : FP N_X5 22 6 3 .int := ⟨N_X6, T_X6, 7, y_X6, rfl, by decide, uw_X6, by decide, fl_X5_22, ty_X6, nm_X6, rfl, by decide +kernel⟩
theorem FL_X5_27 : FL N_X5 27 6 0 := ⟨N_X6, T_X6, 7, rfl, by decide, uw_X6, by decide, fl_X5_27⟩
theorem FL_X5_30 : FL N_X5 30 7 0 := ⟨N_X7, T_X7, 13, rfl, by decide, uw_X7, by decide, fl_X5_30⟩
theorem FP_X5_30 : FP N_X5 30 7 0 .int := ⟨N_X7, T_X7, 13, y_X7, rfl, by decide, uw_X7, by decide, fl_X5_30, ty_X7, nm_X7, rfl, by decide +kernel⟩
theorem FL_X5_39 : FL N_X5 39 6 5 := ⟨N_X6, T_X6, 7, rfl, by decide, uw_X6, by decide, fl_X5_39⟩
theorem FP_X5_39 : FP N_X5 39 6 5 .int := ⟨N_X6, T_X6, 7, y_X6, rfl, by decide, uw_X6, by decide, fl_X5_39, ty_X6, nm_X6, rfl, by decide +kernel⟩
theorem FL_X5_50 : FL N_X5 50 6 6 := ⟨N_X6, T_X6, 7, rfl, by decide, uw_X6, by decide, fl_X5_50⟩
theorem FP_X5_50 : FP N_X5 50 6 6 .int := ⟨N_X6, T_X6, 7, y_X6, rfl, by decide, uw_X6, by decide, fl_X5_50, ty_X6, nm_X6, rfl, by decide +kernel⟩
theorem FL_X5_72 : FL N_X5 72 7 7 := ⟨N_X7, T_X7, 13, rfl, by decide, uw_X7, by decide, fl_X5_72⟩
theorem FP_X5_72 : FP N_X5 72 7 7 .int := ⟨N_X7, T_X7, 13, y_X7, rfl, by decide, uw_X7, by decide, fl_X5_72, ty_X7, nm_X7, rfl, by decide +kernel⟩
theorem FL_X6_11 : FL N_X6 11 6 0 := ⟨N_X6, T_X6, 7, rfl, by decide, uw_X6, by decide, fl_X6_11⟩
theorem FL_X6_19 : FL N_X6 19 6 1 := ⟨N_X6, T_X6, 7, rfl, by decide, uw_X6, by decide, fl_X6_19⟩
theorem FL_X6_25 : FL N_X6 25 6 2 := ⟨N_X6, T_X6, 7, rfl, by decide, uw_X6, by decide, fl_X6_25⟩
theorem FL_X6_29 : FL N_X6 29 6 3 := ⟨N_X6, T_X6, 7, rfl, by decide, uw_X6, by decide, fl_X6_29⟩
theorem FP_X6_29 : FP N_X6 29 6 3 .int := ⟨N_X6, T_X6, 7, y_X6, rfl, by decide, uw_X6, by decide, fl_X6_29, ty_X6, nm_X6, rfl, by decide +kernel⟩
theorem FL_X6_33 : FL N_X6 33 6 4 := ⟨N_X6, T_X6, 7, rfl, by decide, uw_X6, by decide, fl_X6_33⟩
theorem FP_X6_33 : FP N_X6 33 6 4 .int := ⟨N_X6, T_X6, 7, y_X6, rfl, by decide, uw_X6, by decide, fl_X6_33, ty_X6, nm_X6, rfl, by decide +kernel⟩
theorem FL_X6_36 : FL N_X6 36 6 5 := ⟨N_X6, T_X6, 7, rfl, by decide, uw_X6, by decide, fl_X6_36⟩
theorem FP_X6_36 : FP N_X6 36 6 5 .int := ⟨N_X6, T_X6, 7, y_X6, rfl, by decide, uw_X6, by decide, fl_X6_36, ty_X6, nm_X6, rfl, by decide +kernel⟩
theorem FL_X6_39 : FL N_X6 39 6 6 := ⟨N_X6, T_X6, 7, rfl, by decide, uw_X6, by decide, fl_X6_39⟩
theorem FP_X6_39 : FP N_X6 39 6 6 .int := ⟨N_X6, T_X6, 7, y_X6, rfl, by decide, uw_X6, by decide, fl_X6_39, ty_X6, nm_X6, rfl, by decide +kernel⟩
theorem FL_X6_63 : FL N_X6 63 5 2 := ⟨N_X5, T_X5, 3, rfl, by decide, uw_X5, by decide, fl_X6_63⟩
theorem FP_X6_63 : FP N_X6 63 5 2 .int := ⟨N_X5, T_X5, 3, y_X5, rfl, by decide, uw_X5, by decide, fl_X6_63, ty_X5, nm_X5, rfl, by decide +kernel⟩
theorem FL_X6_68 : FL N_X6 68 5 0 := ⟨N_X5, T_X5, 3, rfl, by decide, uw_X5, by decide, fl_X6_68⟩
theorem FL_X6_78 : FL N_X6 78 1 5 := ⟨N_X1, T_X1, 7, rfl, by decide, uw_X1, by decide, fl_X6_78⟩
theorem FP_X6_78 : FP N_X6 78 1 5 .int := ⟨N_X1, T_X1, 7, y_X1, rfl, by decide, uw_X1, by decide, fl_X6_78, ty_X1, nm_X1, rfl, by decide +kernel⟩
theorem FL_X6_83 : FL N_X6 83 1 6 := ⟨N_X1, T_X1, 7, rfl, by decide, uw_X1, by decide, fl_X6_83⟩
theorem FP_X6_83 : FP N_X6 83 1 6 .int := ⟨N_X1, T_X1, 7, y_X1, rfl, by decide, uw_X1, by decide, fl_X6_83, ty_X1, nm_X1, rfl, by decide +kernel⟩
theorem FL_X6_86 : FL N_X6 86 7 6 := ⟨N_X7, T_X7, 13, rfl, by decide, uw_X7, by decide, fl_X6_86⟩
theorem FP_X6_86 : FP N_X6 86 7 6 .int := ⟨N_X7, T_X7, 13, y_X7, rfl, by decide, uw_X7, by decide, fl_X6_86, ty_X7, nm_X7, rfl, by decide +kernel⟩
theorem FL_X6_97 : FL N_X6 97 0 3 := ⟨N_X0, T_X0, 4, rfl, by decide, uw_X0, by decide, fl_X6_97⟩
theorem FP_X6_97 : FP N_X6 97 0 3 .int := ⟨N_X0, T_X0, 4, y_X0, rfl, by decide, uw_X0, by decide, fl_X6_97, ty_X0, nm_X0, rfl, by decide +kernel⟩
theorem FL_X6_104 : FL N_X6 104 0 2 := ⟨N_X0, T_X0, 4, rfl, by decide, uw_X0, by decide, fl_X6_104⟩
theorem FP_X6_104 : FP N_X6 104 0 2 .int := ⟨N_X0, T_X0, 4, y_X0, rfl, by decide, uw_X0, by decide, fl_X6_104, ty_X0, nm_X0, rfl, by decide +kernel⟩
theorem FL_X6_113 : FL N_X6 113 7 3 := ⟨N_X7, T_X7, 13, rfl, by decide, uw_X7, by decide, fl_X6_113⟩
theorem FP_X6_113 : FP N_X6 113 7 3 .int := ⟨N_X7, T_X7, 13, y_X7, rfl, by decide, uw_X7, by decide, fl_X6_113, ty_X7, nm_X7, rfl, by decide +kernel⟩
theorem FL_X6_119 : FL N_X6 119 0 0 := ⟨N_X0, T_X0, 4, rfl, by decide, uw_X0, by decide, fl_X6_119⟩
theorem FP_X6_119 : FP N_X6 119 0 0 .int := ⟨N_X0, T_X0, 4, y_X0, rfl, by decide, uw_X0, by decide, fl_X6_119, ty_X0, nm_X0, rfl, by decide +kernel⟩
theorem FL_X6_133 : FL N_X6 133 9 2 := ⟨N_X9, T_X9, 5, rfl, by decide, uw_X9, by decide, fl_X6_133⟩
theorem FP_X6_133 : FP N_X6 133 9 2 .int := ⟨N_X9, T_X9, 5, y_X9, rfl, by decide, uw_X9, by decide, fl_X6_133, ty_X9, nm_X9, rfl, by decide +kernel⟩
theorem FL_X6_136 : FL N_X6 136 7 12 := ⟨N_X7, T_X7, 13, rfl, by decide, uw_X7, by decide, fl_X6_136⟩
theorem FP_X6_136 : FP N_X6 136 7 12 .int := ⟨N_X7, T_X7, 13, y_X7, rfl, by decide, uw_X7, by decide, fl_X6_136, ty_X7, nm_X7, rfl, by decide +kernel⟩
theorem FL_X6_139 : FL N_X6 139 7 4 := ⟨N_X7, T_X7, 13, rfl, by decide, uw_X7, by decide, fl_X6_139⟩
theorem FP_X6_139 : FP N_X6 139 7 4 .int := ⟨N_X7, T_X7, 13, y_X7, rfl, by decide, uw_X7, by decide, fl_X6_139, ty_X7, nm_X7, rfl, by decide +kernel⟩
theorem FL_X6_142 : FL N_X6 142 7 11 := ⟨N_X7, T_X7, 13, rfl, by decide, uw_X7, by decide, fl_X6_142⟩
theorem FP_X6_142 : FP N_X6 142 7 11 .int := ⟨N_X7, T_X7, 13, y_X7, rfl, by decide, uw_X7, by decide, fl_X6_142, ty_X7, nm_X7, rfl, by decide +kernel⟩
theorem FL_X7_9 : FL N_X7 9 7 0 := ⟨N_X7, T_X7, 13, rfl, by decide, uw_X7, by decide, fl_X7_9⟩
theorem FP_X7_9 : FP N_X7 9 7 0 .int := ⟨N_X7, T_X7, 13, y_X7, rfl, by decide, uw_X7, by decide, fl_X7_9, ty_X7, nm_X7, rfl, by decide +kernel⟩
theorem FL_X7_15 : FL N_X7 15 7 1 := ⟨N_X7, T_X7, 13, rfl, by decide, uw_X7, by decide, fl_X7_15⟩
theorem FP_X7_15 : FP N_X7 15 7 1 .int := ⟨N_X7, T_X7, 13, y_X7, rfl, by decide, uw_X7, by decide, fl_X7_15, ty_X7, nm_X7, rfl, by decide +kernel⟩
theorem FL_X7_18 : FL N_X7 18 7 2 := ⟨N_X7, T_X7, 13, rfl, by decide, uw_X7, by decide, fl_X7_18⟩
theorem FP_X7_18 : FP N_X7 18 7 2 .int := ⟨N_X7, T_X7, 13, y_X7, rfl, by decide, uw_X7, by decide, fl_X7_18, ty_X7, nm_X7, rfl, by decide +kernel⟩
theorem FL_X7_21 : FL N_X7 21 7 3 := ⟨N_X7, T_X7, 13, rfl, by decide, uw_X7, by decide, fl_X7_21⟩
theorem FP_X7_21 : FP N_X7 21 7 3 .int := ⟨N_X7, T_X7, 13, y_X7, rfl, by decide, uw_X7, by decide, fl_X7_21, ty_X7, nm_X7, rfl, by decide +kernel⟩
theorem FL_X7_24 : FL N_X7 24 7 4 := ⟨N_X7, T_X7, 13, rfl, by decide, uw_X7, by decide, fl_X7_24⟩
theorem FP_X7_24 : FP N_X7 24 7 4 .int := ⟨N_X7, T_X7, 13, y_X7, rfl, by decide, uw_X7, by decide, fl_X7_24, ty_X7, nm_X7, rfl, by decide +kernel⟩
theorem FL_X7_27 : FL N_X7 27 7 5 := ⟨N_X7, T_X7, 13, rfl, by decide, uw_X7, by decide, fl_X7_27⟩
theorem FP_X7_27 : FP N_X7 27 7 5 .int := ⟨N_X7, T_X7, 13, y_X7, rfl, by decide, uw_X7, by decide, fl_X7_27, ty_X7, nm_X7, rfl, by decide +kernel⟩
theorem FL_X7_30 : FL N_X7 30 7 6 := ⟨N_X7, T_X7, 13, rfl, by decide, uw_X7, by decide, fl_X7_30⟩
theorem FP_X7_30 : FP N_X7 30 7 6 .int := ⟨N_X7, T_X7, 13, y_X7, rfl, by decide, uw_X7, by decide, fl_X7_30, ty_X7, nm_X7, rfl, by decide +kernel⟩
theorem FL_X7_33 : FL N_X7 33 7 7 := ⟨N_X7, T_X7, 13, rfl, by decide, uw_X7, by decide, fl_X7_33⟩
theorem FP_X7_33 : FP N_X7 33 7 7 .int := ⟨N_X7, T_X7, 13, y_X7, rfl, by decide, uw_X7, by decide, fl_X7_33, ty_X7, nm_X7, rfl, by decide +kernel⟩
theorem FL_X7_36 : FL N_X7 36 7 8 := ⟨N_X7, T_X7, 13, rfl, by decide, uw_X7, by decide, fl_X7_36⟩
theorem FP_X7_36 : FP N_X7 36 7 8 .int := ⟨N_X7, T_X7, 13, y_X7, rfl, by decide, uw_X7, by decide, fl_X7_36, ty_X7, nm_X7, rfl, by decide +kernel⟩
theorem FL_X7_39 : FL N_X7 39 7 9 := ⟨N_X7, T_X7, 13, rfl, by decide, uw_X7, by decide, fl_X7_39⟩
theorem FP_X7_39 : FP N_X7 39 7 9 .int := ⟨N_X7, T_X7, 13, y_X7, rfl, by decide, uw_X7, by decide, fl_X7_39, ty_X7, nm_X7, rfl, by decide +kernel⟩
theorem FL_X7_42 : FL N_X7 42 7 10 := ⟨N_X7, T_X7, 13, rfl, by decide, uw_X7, by decide, fl_X7_42⟩
theorem FP_X7_42 : FP N_X7 42 7 10 .int := ⟨N_X7, T_X7, 13, y_X7, rfl, by decide, uw_X7, by decide, fl_X7_42, ty_X7, nm_X7, rfl, by decide +kernel⟩
theorem FL_X7_45 : FL N_X7 45 7 11 := ⟨N_X7, T_X7, 13, rfl, by decide, uw_X7, by decide, fl_X7_45⟩
theorem FP_X7_45 : FP N_X7 45 7 11 .int := ⟨N_X7, T_X7, 13, y_X7, rfl, by decide, uw_X7, by decide, fl_X7_45, ty_X7, nm_X7, rfl, by decide +kernel⟩
theorem FL_X7_48 : FL N_X7 48 7 12 := ⟨N_X7, T_X7, 13, rfl, by decide, uw_X7, by decide, fl_X7_48⟩
theorem FP_X7_48 : FP N_X7 48 7 12 .int := ⟨N_X7, T_X7, 13, y_X7, rfl, by decide, uw_X7, by decide, fl_X7_48, ty_X7, nm_X7, rfl, by decide +kernel⟩
theorem FL_X8_9 : FL N_X8 9 8 0 := ⟨N_X8, T_X8, 3, rfl, by decide, uw_X8, by decide, fl_X8_9⟩
theorem FL_X8_15 : FL N_X8 15 8 1 := ⟨N_X8, T_X8, 3, rfl, by decide, uw_X8, by decide, fl_X8_15⟩
theorem FP_X8_15 : FP N_X8 15 8 1 .int := ⟨N_X8, T_X8, 3, y_X8, rfl, by decide, uw_X8, by decide, fl_X8_15, ty_X8, nm_X8, rfl, by decide +kernel⟩
theorem FL_X8_19 : FL N_X8 19 8 2 := ⟨N_X8, T_X8, 3, rfl, by decide, uw_X8, by decide, fl_X8_19⟩
theorem FP_X8_19 : FP N_X8 19 8 2 .int := ⟨N_X8, T_X8, 3, y_X8, rfl, by decide, uw_X8, by decide, fl_X8_19, ty_X8, nm_X8, rfl, by decide +kernel⟩
theorem FL_X8_22 : FL N_X8 22 3 3 := ⟨N_X3, T_X3, 7, rfl, by decide, uw_X3, by decide, fl_X8_22⟩
theorem FP_X8_22 : FP N_X8 22 3 3 .int := ⟨N_X3, T_X3, 7, y_X3, rfl, by decide, uw_X3, by decide, fl_X8_22, ty_X3, nm_X3, rfl, by decide +kernel⟩
theorem FL_X8_43 : FL N_X8 43 3 5 := ⟨N_X3, T_X3, 7, rfl, by decide, uw_X3, by decide, fl_X8_43⟩
theorem FP_X8_43 : FP N_X8 43 3 5 .int := ⟨N_X3, T_X3, 7, y_X3, rfl, by decide, uw_X3, by decide, fl_X8_43, ty_X3, nm_X3, rfl, by decide +kernel⟩
theorem FL_X8_61 : FL N_X8 61 3 4 := ⟨N_X3, T_X3, 7, rfl, by decide, uw_X3, by decide, fl_X8_61⟩
theorem FP_X8_61 : FP N_X8 61 3 4 .int := ⟨N_X3, T_X3, 7, y_X3, rfl, by decide, uw_X3, by decide, fl_X8_61, ty_X3, nm_X3, rfl, by decide +kernel⟩
theorem FL_X9_9 : FL N_X9 9 9 0 := ⟨N_X9, T_X9, 5, rfl, by decide, uw_X9, by decide, fl_X9_9⟩
theorem FL_X9_21 : FL N_X9 21 9 1 := ⟨N_X9, T_X9, 5, rfl, by decide, uw_X9, by decide, fl_X9_21⟩
theorem FP_X9_21 : FP N_X9 21 9 1 .int := ⟨N_X9, T_X9, 5, y_X9, rfl, by decide, uw_X9, by decide, fl_X9_21, ty_X9, nm_X9, rfl, by decide +kernel⟩
theorem FL_X9_25 : FL N_X9 25 9 2 := ⟨N_X9, T_X9, 5, rfl, by decide, uw_X9, by decide, fl_X9_25⟩
theorem FP_X9_25 : FP N_X9 25 9 2 .int := ⟨N_X9, T_X9, 5, y_X9, rfl, by decide, uw_X9, by decide, fl_X9_25, ty_X9, nm_X9, rfl, by decide +kernel⟩
theorem FL_X9_28 : FL N_X9 28 9 3 := ⟨N_X9, T_X9, 5, rfl, by decide, uw_X9, by decide, fl_X9_28⟩
theorem FP_X9_28 : FP N_X9 28 9 3 .int := ⟨N_X9, T_X9, 5, y_X9, rfl, by decide, uw_X9, by decide, fl_X9_28, ty_X9, nm_X9, rfl, by decide +kernel⟩
theorem FL_X9_31 : FL N_X9 31 9 4 := ⟨N_X9, T_X9, 5, rfl, by decide, uw_X9, by decide, fl_X9_31⟩
theorem FP_X9_31 : FP N_X9 31 9 4 .int := ⟨N_X9, T_X9, 5, y_X9, rfl, by decide, uw_X9, by decide, fl_X9_31, ty_X9, nm_X9, rfl, by decide +kernel⟩
theorem FL_X11_7 : FL N_X11 7 11 2 := ⟨N_X11, T_X11, 67, rfl, by decide, uw_X11, by decide, fl_X11_7⟩
theorem FL_X11_13 : FL N_X11 13 11 3 := ⟨N_X11, T_X11, 67, rfl, by decide, uw_X11, by decide, fl_X11_13⟩
theorem FL_X11_16 : FL N_X11 16 11 4 := ⟨N_X11, T_X11, 67, rfl, by decide, uw_X11, by decide, fl_X11_16⟩
theorem FL_X11_19 : FL N_X11 19 11 5 := ⟨N_X11, T_X11, 67, rfl, by decide, uw_X11, by decide, fl_X11_19⟩
theorem FL_X11_22 : FL N_X11 22 11 6 := ⟨N_X11, T_X11, 67, rfl, by decide, uw_X11, by decide, fl_X11_22⟩
theorem FL_X11_25 : FL N_X11 25 11 7 := ⟨N_X11, T_X11, 67, rfl, by decide, uw_X11, by decide, fl_X11_25⟩
theorem FL_X11_28 : FL N_X11 28 11 8 := ⟨N_X11, T_X11, 67, rfl, by decide, uw_X11, by decide, fl_X11_28⟩
theorem FL_X11_31 : FL N_X11 31 11 9 := ⟨N_X11, T_X11, 67, rfl, by decide, uw_X11, by decide, fl_X11_31⟩
theorem FL_X11_34 : FL N_X11 34 11 10 := ⟨N_X11, T_X11, 67, rfl, by decide, uw_X11, by decide, fl_X11_34⟩
theorem FL_X11_37 : FL N_X11 37 11 11 := ⟨N_X11, T_X11, 67, rfl, by decide, uw_X11, by decide, fl_X11_37⟩
theorem FL_X11_40 : FL N_X11 40 11 12 := ⟨N_X11, T_X11, 67, rfl, by decide, uw_X11, by decide, fl_X11_40⟩
theorem FL_X11_43 : FL N_X11 43 11 13 := ⟨N_X11, T_X11, 67, rfl, by decide, uw_X11, by decide, fl_X11_43⟩
theorem FL_X11_46 : FL N_X11 46 11 14 := ⟨N_X11, T_X11, 67, rfl, by decide, uw_X11, by decide, fl_X11_46⟩
theorem FL_X11_49 : FL N_X11 49 11 16 := ⟨N_X11, T_X11, 67, rfl, by decide, uw_X11, by decide, fl_X11_49⟩
theorem FL_X11_52 : FL N_X11 52 11 17 := ⟨N_X11, T_X11, 67, rfl, by decide, uw_X11, by decide, fl_X11_52⟩
theorem FL_X11_55 : FL N_X11 55 11 18 := ⟨N_X11, T_X11, 67, rfl, by decide, uw_X11, by decide, fl_X11_55⟩
theorem FL_X11_58 : FL N_X11 58 11 19 := ⟨N_X11, T_X11, 67, rfl, by decide, uw_X11, by decide, fl_X11_58⟩
theorem FL_X11_61 : FL N_X11 61 11 20 := ⟨N_X11, T_X11, 67, rfl, by decide, uw_X11, by decide, fl_X11_61⟩
theorem FL_X11_64 : FL N_X11 64 11 21 := ⟨N_X11, T_X11, 67, rfl, by decide, uw_X11, by decide, fl_X11_64⟩
theorem FL_X11_67 : FL N_X11 67 11 22 := ⟨N_X11, T_X11, 67, rfl, by decide, uw_X11, by decide, fl_X11_67⟩
theorem FL_X11_70 : FL N_X11 70 11 23 := ⟨N_X11, T_X11, 67, rfl, by decide, uw_X11, by decide, fl_X11_70⟩
theorem FL_X11_73 : FL N_X11 73 11 24 := ⟨N_X11, T_X11, 67, rfl, by decide, uw_X11, by decide, fl_X11_73⟩
theorem FL_X11_76 : FL N_X11 76 11 26 := ⟨N_X11, T_X11, 67, rfl, by decide, uw_X11, by decide, fl_X11_76⟩
theorem FP_X11_76 : FP N_X11 76 11 26 .int := ⟨N_X11, T_X11, 67, y_X11, rfl, by decide, uw_X11, by decide, fl_X11_76, ty_X11, nm_X11, rfl, by decide +kernel⟩
theorem FL_X11_80 : FL N_X11 80 11 28 := ⟨N_X11, T_X11, 67, rfl, by decide, uw_X11, by decide, fl_X11_80⟩
theorem FL_X11_83 : FL N_X11 83 11 29 := ⟨N_X11, T_X11, 67, rfl, by decide, uw_X11, by decide, fl_X11_83⟩
theorem FL_X11_86 : FL N_X11 86 11 30 := ⟨N_X11, T_X11, 67, rfl, by decide, uw_X11, by decide, fl_X11_86⟩
theorem FL_X11_89 : FL N_X11 89 11 31 := ⟨N_X11, T_X11, 67, rfl, by decide, uw_X11, by decide, fl_X11_89⟩
theorem FL_X11_92 : FL N_X11 92 11 32 := ⟨N_X11, T_X11, 67, rfl, by decide, uw_X11, by decide, fl_X11_92⟩
theorem FL_X11_96 : FL N_X11 96 11 35 := ⟨N_X11, T_X11, 67, rfl, by decide, uw_X11, by decide, fl_X11_96⟩
theorem FL_X11_99 : FL N_X11 99 11 36 := ⟨N_X11, T_X11, 67, rfl, by decide, uw_X11, by decide, fl_X11_99⟩
theorem FL_X11_102 : FL N_X11 102 11 37 := ⟨N_X11, T_X11, 67, rfl, by decide, uw_X11, by decide, fl_X11_102⟩
theorem FL_X11_105 : FL N_X11 105 11 38 := ⟨N_X11, T_X11, 67, rfl, by decide, uw_X11, by decide, fl_X11_105⟩
theorem FL_X11_108 : FL N_X11 108 11 39 := ⟨N_X11, T_X11, 67, rfl, by decide, uw_X11, by decide, fl_X11_108⟩
theorem FL_X11_112 : FL N_X11 112 11 40 := ⟨N_X11, T_X11, 67, rfl, by decide, uw_X11, by decide, fl_X11_112⟩
theorem FL_X11_115 : FL N_X11 115 11 41 := ⟨N_X11, T_X11, 67, rfl, by decide, uw_X11, by decide, fl_X11_115⟩
theorem FL_X11_118 : FL N_X11 118 11 45 := ⟨N_X11, T_X11, 67, rfl, by decide, uw_X11, by decide, fl_X11_118⟩
theorem FL_X11_121 : FL N_X11 121 11 46 := ⟨N_X11, T_X11, 67, rfl, by decide, uw_X11, by decide, fl_X11_121⟩
theorem FL_X11_124 : FL N_X11 124 11 47 := ⟨N_X11, T_X11, 67, rfl, by decide, uw_X11, by decide, fl_X11_124⟩
theorem FL_X11_127 : FL N_X11 127 11 48 := ⟨N_X11, T_X11, 67, rfl, by decide, uw_X11, by decide, fl_X11_127⟩
theorem FL_X11_130 : FL N_X11 130 11 49 := ⟨N_X11, T_X11, 67, rfl, by decide, uw_X11, by decide, fl_X11_130⟩
theorem FL_X11_133 : FL N_X11 133 11 50 := ⟨N_X11, T_X11, 67, rfl, by decide, uw_X11, by decide, fl_X11_133⟩
theorem FL_X11_136 : FL N_X11 136 11 51 := ⟨N_X11, T_X11, 67, rfl, by decide, uw_X11, by decide, fl_X11_136⟩
theorem FL_X11_139 : FL N_X11 139 11 52 := ⟨N_X11, T_X11, 67, rfl, by decide, uw_X11, by decide, fl_X11_139⟩
theorem FL_X11_142 : FL N_X11 142 11 60 := ⟨N_X11, T_X11, 67, rfl, by decide, uw_X11, by decide, fl_X11_142⟩
theorem FL_X11_145 : FL N_X11 145 11 61 := ⟨N_X11, T_X11, 67, rfl, by decide, uw_X11, by decide, fl_X11_145⟩
theorem FL_X11_148 : FL N_X11 148 11 62 := ⟨N_X11, T_X11, 67, rfl, by decide, uw_X11, by decide, fl_X11_148⟩
theorem FL_X11_151 : FL N_X11 151 11 63 := ⟨N_X11, T_X11, 67, rfl, by decide, uw_X11, by decide, fl_X11_151⟩
theorem FL_X11_154 : FL N_X11 154 11 64 := ⟨N_X11, T_X11, 67, rfl, by decide, uw_X11, by decide, fl_X11_154⟩
theorem FL_X11_157 : FL N_X11 157 11 65 := ⟨N_X11, T_X11, 67, rfl, by decide, uw_X11, by decide, fl_X11_157⟩
theorem FP_X11_157 : FP N_X11 157 11 65 .int := ⟨N_X11, T_X11, 67, y_X11, rfl, by decide, uw_X11, by decide, fl_X11_157, ty_X11, nm_X11, rfl, by decide +kernel⟩
theorem FL_X11_160 : FL N_X11 160 11 66 := ⟨N_X11, T_X11, 67, rfl, by decide, uw_X11, by decide, fl_X11_160⟩
theorem FP_X11_160 : FP N_X11 160 11 66 .int := ⟨N_X11, T_X11, 67, y_X11, rfl, by decide, uw_X11, by decide, fl_X11_160, ty_X11, nm_X11, rfl, by decide +kernel⟩
theorem FL_X11_166 : FL N_X11 166 11 1 := ⟨N_X11, T_X11, 67, rfl, by decide, uw_X11, by decide, fl_X11_166⟩
theorem FP_X11_166 : FP N_X11 166 11 1 .int := ⟨N_X11, T_X11, 67, y_X11, rfl, by decide, uw_X11, by decide, fl_X11_166, ty_X11, nm_X11, rfl, by decide +kernel⟩
theorem FL_X11_173 : FL N_X11 173 11 15 := ⟨N_X11, T_X11, 67, rfl, by decide, uw_X11, by decide, fl_X11_173⟩
theorem FP_X11_173 : FP N_X11 173 11 15 .int := ⟨N_X11, T_X11, 67, y_X11, rfl, by decide, uw_X11, by decide, fl_X11_173, ty_X11, nm_X11, rfl, by decide +kernel⟩
theorem FL_X11_190 : FL N_X11 190 11 33 := ⟨N_X11, T_X11, 67, rfl, by decide, uw_X11, by decide, fl_X11_190⟩
theorem FP_X11_190 : FP N_X11 190 11 33 .int := ⟨N_X11, T_X11, 67, y_X11, rfl, by decide, uw_X11, by decide, fl_X11_190, ty_X11, nm_X11, rfl, by decide +kernel⟩
theorem FL_X11_193 : FL N_X11 193 11 42 := ⟨N_X11, T_X11, 67, rfl, by decide, uw_X11, by decide, fl_X11_193⟩
theorem FP_X11_193 : FP N_X11 193 11 42 .int := ⟨N_X11, T_X11, 67, y_X11, rfl, by decide, uw_X11, by decide, fl_X11_193, ty_X11, nm_X11, rfl, by decide +kernel⟩
theorem FL_X11_199 : FL N_X11 199 11 43 := ⟨N_X11, T_X11, 67, rfl, by decide, uw_X11, by decide, fl_X11_199⟩
theorem FP_X11_199 : FP N_X11 199 11 43 .int := ⟨N_X11, T_X11, 67, y_X11, rfl, by decide, uw_X11, by decide, fl_X11_199, ty_X11, nm_X11, rfl, by decide +kernel⟩
theorem FL_X11_214 : FL N_X11 214 11 34 := ⟨N_X11, T_X11, 67, rfl, by decide, uw_X11, by decide, fl_X11_214⟩
theorem FP_X11_214 : FP N_X11 214 11 34 .int := ⟨N_X11, T_X11, 67, y_X11, rfl, by decide, uw_X11, by decide, fl_X11_214, ty_X11, nm_X11, rfl, by decide +kernel⟩
theorem FL_X11_227 : FL N_X11 227 11 25 := ⟨N_X11, T_X11, 67, rfl, by decide, uw_X11, by decide, fl_X11_227⟩
theorem FP_X11_227 : FP N_X11 227 11 25 .int := ⟨N_X11, T_X11, 67, y_X11, rfl, by decide, uw_X11, by decide, fl_X11_227, ty_X11, nm_X11, rfl, by decide +kernel⟩
theorem FL_X11_233 : FL N_X11 233 11 44 := ⟨N_X11, T_X11, 67, rfl, by decide, uw_X11, by decide, fl_X11_233⟩
theorem FP_X11_233 : FP N_X11 233 11 44 .int := ⟨N_X11, T_X11, 67, y_X11, rfl, by decide, uw_X11, by decide, fl_X11_233, ty_X11, nm_X11, rfl, by decide +kernel⟩
theorem FL_X11_243 : FL N_X11 243 11 27 := ⟨N_X11, T_X11, 67, rfl, by decide, uw_X11, by decide, fl_X11_243⟩
theorem FP_X11_243 : FP N_X11 243 11 27 .int := ⟨N_X11, T_X11, 67, y_X11, rfl, by decide, uw_X11, by decide, fl_X11_243, ty_X11, nm_X11, rfl, by decide +kernel⟩
theorem FL_X11_246 : FL N_X11 246 11 58 := ⟨N_X11, T_X11, 67, rfl, by decide, uw_X11, by decide, fl_X11_246⟩
theorem FP_X11_246 : FP N_X11 246 11 58 .int := ⟨N_X11, T_X11, 67, y_X11, rfl, by decide, uw_X11, by decide, fl_X11_246, ty_X11, nm_X11, rfl, by decide +kernel⟩
theorem FL_X11_249 : FL N_X11 249 11 59 := ⟨N_X11, T_X11, 67, rfl, by decide, uw_X11, by decide, fl_X11_249⟩
theorem FP_X11_249 : FP N_X11 249 11 59 .int := ⟨N_X11, T_X11, 67, y_X11, rfl, by decide, uw_X11, by decide, fl_X11_249, ty_X11, nm_X11, rfl, by decide +kernel⟩
theorem FL_X11_265 : FL N_X11 265 11 57 := ⟨N_X11, T_X11, 67, rfl, by decide, uw_X11, by decide, fl_X11_265⟩
theorem FP_X11_265 : FP N_X11 265 11 57 .boolean := ⟨N_X11, T_X11, 67, y_X11, rfl, by decide, uw_X11, by decide, fl_X11_265, ty_X11, nm_X11, rfl, by decide +kernel⟩
theorem FL_X11_269 : FL N_X11 269 11 53 := ⟨N_X11, T_X11, 67, rfl, by decide, uw_X11, by decide, fl_X11_269⟩
theorem FP_X11_269 : FP N_X11 269 11 53 .int := ⟨N_X11, T_X11, 67, y_X11, rfl, by decide, uw_X11, by decide, fl_X11_269, ty_X11, nm_X11, rfl, by decide +kernel⟩
theorem FL_X11_272 : FL N_X11 272 11 54 := ⟨N_X11, T_X11, 67, rfl, by decide, uw_X11, by decide, fl_X11_272⟩
theorem FP_X11_272 : FP N_X11 272 11 54 .int := ⟨N_X11, T_X11, 67, y_X11, rfl, by decide, uw_X11, by decide, fl_X11_272, ty_X11, nm_X11, rfl, by decide +kernel⟩
theorem FL_X11_275 : FL N_X11 275 11 55 := ⟨N_X11, T_X11, 67, rfl, by decide, uw_X11, by decide, fl_X11_275⟩
theorem FP_X11_275 : FP N_X11 275 11 55 .int := ⟨N_X11, T_X11, 67, y_X11, rfl, by decide, uw_X11, by decide, fl_X11_275, ty_X11, nm_X11, rfl, by decide +kernel⟩
theorem FL_X11_278 : FL N_X11 278 11 56 := ⟨N_X11, T_X11, 67, rfl, by decide, uw_X11, by decide, fl_X11_278⟩
theorem FP_X11_278 : FP N_X11 278 11 56 .int := ⟨N_X11, T_X11, 67, y_X11, rfl, by decide, uw_X11, by decide, fl_X11_278, ty_X11, nm_X11, rfl, by decide +kernel⟩
def Rg (x : Int32) (a b : Int) : Prop := a ≤ x.toInt ∧ x.toInt ≤ b
theorem Rg.vp {x : Int32} {b : Int} {n : Nat} (h : Rg x 0 b) (hb : b < n) : vp_in x n := vp_in_iff.mpr ⟨h.1, by have := h.2; omega⟩
theorem Rg.nat {x : Int32} {b : Int} (h : Rg x 0 b) : (x.toNatClampNeg : Int) ≤ b := by
  have h1 := h.1
  have h2 := h.2
  have e : (x.toNatClampNeg : Int) = x.toInt := by
    show ((x.toInt.toNat : Nat) : Int) = x.toInt
    omega
  rw [e]
  exact h2
theorem Rg.clamp {x : Int32} {b : Int} (h : Rg x 0 b) : (x.toNatClampNeg : Int) = x.toInt := by
  have h1 := h.1
  show ((x.toInt.toNat : Nat) : Int) = x.toInt
  omega
theorem rg_any (x : Int32) : Rg x (-2147483648) 2147483647 := ⟨by have := Int32.le_toInt x; omega, by have := Int32.toInt_lt x; omega⟩
theorem rg_w {x : Int32} {a b c d : Int} (h : Rg x a b) (h1 : c ≤ a) (h2 : b ≤ d) : Rg x c d := ⟨Int.le_trans h1 h.1, Int.le_trans h.2 h2⟩
theorem i_bm {z : Int} (h1 : -2147483648 ≤ z) (h2 : z ≤ 2147483647) : z.bmod (2 ^ 32) = z := by
  rw [Int.bmod_def]
  have e : ((2 ^ 32 : Nat) : Int) = 4294967296 := by decide
  rw [e]
  split <;> omega
theorem i_add {a b : Int32} (h1 : -2147483648 ≤ a.toInt + b.toInt) (h2 : a.toInt + b.toInt ≤ 2147483647) : (a + b).toInt = a.toInt + b.toInt := by rw [Int32.toInt_add]; exact i_bm h1 h2
theorem i_sub {a b : Int32} (h1 : -2147483648 ≤ a.toInt - b.toInt) (h2 : a.toInt - b.toInt ≤ 2147483647) : (a - b).toInt = a.toInt - b.toInt := by rw [Int32.toInt_sub]; exact i_bm h1 h2
theorem i_mul {a b : Int32} (h1 : -2147483648 ≤ a.toInt * b.toInt) (h2 : a.toInt * b.toInt ≤ 2147483647) : (a * b).toInt = a.toInt * b.toInt := by rw [Int32.toInt_mul]; exact i_bm h1 h2
theorem i_lt {a b : Int32} (h : a < b) : a.toInt < b.toInt := Int32.lt_iff_toInt_lt.mp h
theorem i_le {a b : Int32} (h : a ≤ b) : a.toInt ≤ b.toInt := Int32.le_iff_toInt_le.mp h
theorem i_nlt {a b : Int32} (h : ¬ a < b) : b.toInt ≤ a.toInt := Int.not_lt.mp (fun q => h (Int32.lt_iff_toInt_lt.mpr q))
theorem i_nle {a b : Int32} (h : ¬ a ≤ b) : b.toInt < a.toInt := Int.not_le.mp (fun q => h (Int32.le_iff_toInt_le.mpr q))
theorem i_eq {a b : Int32} (h : a = b) : a.toInt = b.toInt := by rw [h]
theorem i_ne {a b : Int32} (h : ¬ a = b) : a.toInt ≠ b.toInt := fun q => h (Int32.toInt_inj.mp q)
theorem rg_add {x a b : Int32} {l1 h1 l2 h2 : Int} (e : x = a + b) (ra : Rg a l1 h1) (rb : Rg b l2 h2) (q1 : -2147483648 ≤ l1 + l2) (q2 : h1 + h2 ≤ 2147483647) : Rg x (l1 + l2) (h1 + h2) := by
  obtain ⟨a1, a2⟩ := ra
  obtain ⟨b1, b2⟩ := rb
  have := i_add (a := a) (b := b) (by omega) (by omega)
  subst e
  exact ⟨by omega, by omega⟩
theorem rg_sub {x a b : Int32} {l1 h1 l2 h2 : Int} (e : x = a - b) (ra : Rg a l1 h1) (rb : Rg b l2 h2) (q1 : -2147483648 ≤ l1 - h2) (q2 : h1 - l2 ≤ 2147483647) : Rg x (l1 - h2) (h1 - l2) := by
  obtain ⟨a1, a2⟩ := ra
  obtain ⟨b1, b2⟩ := rb
  have := i_sub (a := a) (b := b) (by omega) (by omega)
  subst e
  exact ⟨by omega, by omega⟩
theorem rg_mulc {x a b : Int32} {l h c : Int} (e : x = a * b) (ra : Rg a c c) (rb : Rg b l h) (hc : 0 ≤ c) (q1 : -2147483648 ≤ c * l) (q2 : c * h ≤ 2147483647) : Rg x (c * l) (c * h) := by
  obtain ⟨a1, a2⟩ := ra
  obtain ⟨b1, b2⟩ := rb
  have ea : a.toInt = c := by omega
  have m1 : c * l ≤ c * b.toInt := Int.mul_le_mul_of_nonneg_left b1 hc
  have m2 : c * b.toInt ≤ c * h := Int.mul_le_mul_of_nonneg_left b2 hc
  have := i_mul (a := a) (b := b) (by rw [ea]; omega) (by rw [ea]; omega)
  subst e
  rw [ea] at this
  exact ⟨by rw [this]; exact m1, by rw [this]; exact m2⟩
theorem rg_min {x a b : Int32} {l1 h1 l2 h2 : Int} (e : x = if b < a then b else a) (ra : Rg a l1 h1) (rb : Rg b l2 h2) : (l1 ≤ x.toInt ∨ l2 ≤ x.toInt) ∧ x.toInt ≤ h1 ∧ x.toInt ≤ h2 := by
  obtain ⟨a1, a2⟩ := ra
  obtain ⟨b1, b2⟩ := rb
  by_cases c : b < a
  · rw [if_pos c] at e
    have := i_lt c
    subst e
    exact ⟨Or.inr b1, by omega, by omega⟩
  · rw [if_neg c] at e
    have := i_nlt c
    subst e
    exact ⟨Or.inl a1, by omega, by omega⟩
def Inv (v : tV) : Prop := ∀ k j lo hi, RG k j = some (lo, hi) → Rg (v k j) lo hi
def Kp (v w : tV) : Prop := ∀ k j, PS k j = true → w k j = v k j
theorem Kp.rf (v : tV) : Kp v v := fun _ _ _ => rfl
theorem Kp.tr {u v w : tV} (h1 : Kp u v) (h2 : Kp v w) : Kp u w := fun k j h => (h2 k j h).trans (h1 k j h)
theorem Inv.put0 {v : tV} (h : Inv v) {k j : Nat} (x : Int32) (hr : RG k j = none) : Inv (up2 v k j x) := by
  intro a b lo hi hab
  by_cases q : a = k ∧ b = j
  · obtain ⟨rfl, rfl⟩ := q
    rw [hr] at hab
    cases hab
  · rw [up2_n v x q]
    exact h a b lo hi hab
theorem Inv.putr {v : tV} (h : Inv v) {k j : Nat} {x : Int32} {a b : Int} (hr : RG k j = some (a, b)) (hx : Rg x a b) : Inv (up2 v k j x) := by
  intro a' b' lo hi hab
  by_cases q : a' = k ∧ b' = j
  · obtain ⟨rfl, rfl⟩ := q
    rw [hr] at hab
    cases hab
    rw [up2_s]
    exact hx
  · rw [up2_n v x q]
    exact h a' b' lo hi hab
theorem Kp.put {u v : tV} (h : Kp u v) {k j : Nat} (x : Int32) (hp : PS k j = false) : Kp u (up2 v k j x) := by
  intro a b hab
  by_cases q : a = k ∧ b = j
  · obtain ⟨rfl, rfl⟩ := q
    rw [hp] at hab
    cases hab
  · rw [up2_n v x q]
    exact h a b hab
-- the families
theorem KD_ship {k : Nat} (h1 : 100 ≤ k) (h2 : k < 160) : KD k = some (7, 0) := by
  unfold KD
  repeat (first | rw [if_pos (by omega)] | rw [if_neg (by omega)])
theorem SH_ship {k j : Nat} (h1 : 100 ≤ k) (h2 : k < 160) : SH k j = none := by
  unfold SH
  repeat (first | rw [if_pos (by omega)] | rw [if_neg (by omega)])
theorem RG_ship {k j : Nat} (h1 : 100 ≤ k) (h2 : k < 160) : RG k j = none := by
  unfold RG
  repeat (first | rw [if_pos (by omega)] | rw [if_neg (by omega)])
theorem PS_ship2 {k j : Nat} (h1 : 120 ≤ k) (h2 : k < 160) : PS k j = false := by
  unfold PS
  repeat (first | rw [if_pos (by omega)] | rw [if_neg (by omega)])
theorem PS_ship {k j : Nat} (h1 : 100 ≤ k) (h2 : k < 160) (h : j ≠ 2 ∧ j ≠ 3) : PS k j = false := by
  by_cases q : k < 120
  · unfold PS
    rw [if_neg (by omega), if_neg (by omega), if_neg (by omega), if_neg (by omega), if_pos q]
    split <;> first | rfl | (exfalso; omega)
  · exact PS_ship2 (by omega) h2
theorem KD_buyer {k : Nat} (h1 : 200 ≤ k) (h2 : k < 230) : KD k = some (0, 0) := by
  unfold KD
  repeat (first | rw [if_pos (by omega)] | rw [if_neg (by omega)])
theorem SH_buyer {k j : Nat} (h1 : 200 ≤ k) (h2 : k < 230) : SH k j = none := by
  unfold SH
  repeat (first | rw [if_pos (by omega)] | rw [if_neg (by omega)])
theorem RG_buyer0 {k : Nat} (h1 : 200 ≤ k) (h2 : k < 230) : RG k 0 = some (0, 5) := by
  unfold RG
  repeat (first | rw [if_pos (by omega)] | rw [if_neg (by omega)])
  rfl
theorem RG_buyer {k j : Nat} (h1 : 200 ≤ k) (h2 : k < 230) (h : j ≠ 0) : RG k j = none := by
  unfold RG
  repeat (first | rw [if_pos (by omega)] | rw [if_neg (by omega)])
  split <;> first | rfl | (exfalso; omega)
theorem PS_buyer {k j : Nat} (h1 : 200 ≤ k) (h2 : k < 230) : PS k j = false := by
  unfold PS
  repeat (first | rw [if_pos (by omega)] | rw [if_neg (by omega)])
theorem KD_ward {k : Nat} (h1 : 300 ≤ k) (h2 : k < 318) : KD k = some (9, 0) := by
  unfold KD
  repeat (first | rw [if_pos (by omega)] | rw [if_neg (by omega)])
theorem SH_ward0 {k : Nat} (h1 : 300 ≤ k) (h2 : k < 318) : SH k 0 = some (k + 20) := by
  unfold SH
  repeat (first | rw [if_pos (by omega)] | rw [if_neg (by omega)])
  rfl
theorem SH_ward {k j : Nat} (h1 : 300 ≤ k) (h2 : k < 318) (h : j ≠ 0) : SH k j = none := by
  unfold SH
  repeat (first | rw [if_pos (by omega)] | rw [if_neg (by omega)])
  split <;> first | rfl | (exfalso; omega)
theorem RG_ward {k j : Nat} (h1 : 300 ≤ k) (h2 : k < 338) : RG k j = none := by
  unfold RG
  repeat (first | rw [if_pos (by omega)] | rw [if_neg (by omega)])
theorem PS_ward {k j : Nat} (h1 : 300 ≤ k) (h2 : k < 318) : PS k j = false := by
  unfold PS
  repeat (first | rw [if_pos (by omega)] | rw [if_neg (by omega)])
theorem KD_burns {k : Nat} (h1 : 320 ≤ k) (h2 : k < 338) : KD k = some (12, 5) := by
  unfold KD
  repeat (first | rw [if_pos (by omega)] | rw [if_neg (by omega)])
theorem SH_burns {k j : Nat} (h1 : 320 ≤ k) (h2 : k < 338) : SH k j = none := by
  unfold SH
  repeat (first | rw [if_pos (by omega)] | rw [if_neg (by omega)])
theorem PS_burns {k j : Nat} (h1 : 326 ≤ k) (h2 : k < 338) : PS k j = false := by
  unfold PS
  repeat (first | rw [if_pos (by omega)] | rw [if_neg (by omega)])
theorem KD_order {k : Nat} (h1 : 60 ≤ k) (h2 : k < 69) : KD k = some (3, 0) := by
  unfold KD
  repeat (first | rw [if_pos (by omega)] | rw [if_neg (by omega)])
theorem SH_order0 {k : Nat} (h1 : 60 ≤ k) (h2 : k < 69) : SH k 0 = some (k + 10) := by
  unfold SH
  repeat (first | rw [if_pos (by omega)] | rw [if_neg (by omega)])
  rfl
theorem SH_order1 {k : Nat} (h1 : 60 ≤ k) (h2 : k < 69) : SH k 1 = some (k + 20) := by
  unfold SH
  repeat (first | rw [if_pos (by omega)] | rw [if_neg (by omega)])
  rfl
theorem SH_order2 {k : Nat} (h1 : 60 ≤ k) (h2 : k < 69) : SH k 2 = some (k + 30) := by
  unfold SH
  repeat (first | rw [if_pos (by omega)] | rw [if_neg (by omega)])
  rfl
theorem SH_order {k j : Nat} (h1 : 60 ≤ k) (h2 : k < 69) (h : 3 ≤ j) : SH k j = none := by
  unfold SH
  repeat (first | rw [if_pos (by omega)] | rw [if_neg (by omega)])
  split <;> first | rfl | (exfalso; omega)
theorem RG_order3 {k : Nat} (h1 : 60 ≤ k) (h2 : k < 69) : RG k 3 = some (0, 3) := by
  unfold RG
  repeat (first | rw [if_pos (by omega)] | rw [if_neg (by omega)])
  rfl
theorem RG_order4 {k : Nat} (h1 : 60 ≤ k) (h2 : k < 69) : RG k 4 = some (0, 99) := by
  unfold RG
  repeat (first | rw [if_pos (by omega)] | rw [if_neg (by omega)])
  rfl
theorem RG_order {k j : Nat} (h1 : 60 ≤ k) (h2 : k < 69) (h : 5 ≤ j) : RG k j = none := by
  unfold RG
  repeat (first | rw [if_pos (by omega)] | rw [if_neg (by omega)])
  split <;> first | rfl | (exfalso; omega)
theorem PS_order {k j : Nat} (h1 : 60 ≤ k) (h2 : k < 99) : PS k j = false := by
  unfold PS
  repeat (first | rw [if_pos (by omega)] | rw [if_neg (by omega)])
theorem KD_opart {k : Nat} (h : (70 ≤ k ∧ k < 79) ∨ (80 ≤ k ∧ k < 89)) : KD k = some (12, 3) := by
  unfold KD
  rcases h with ⟨h1, h2⟩ | ⟨h1, h2⟩ <;> repeat (first | rw [if_pos (by omega)] | rw [if_neg (by omega)])
theorem KD_obelow {k : Nat} (h1 : 90 ≤ k) (h2 : k < 99) : KD k = some (14, 3) := by
  unfold KD
  repeat (first | rw [if_pos (by omega)] | rw [if_neg (by omega)])
theorem SH_opart {k j : Nat} (h1 : 70 ≤ k) (h2 : k < 99) : SH k j = none := by
  unfold SH
  repeat (first | rw [if_pos (by omega)] | rw [if_neg (by omega)])
theorem RG_osell {k j : Nat} (h1 : 70 ≤ k) (h2 : k < 79) : RG k j = some (0, 99) := by
  unfold RG
  repeat (first | rw [if_pos (by omega)] | rw [if_neg (by omega)])
theorem RG_oprice {k j : Nat} (h1 : 80 ≤ k) (h2 : k < 99) : RG k j = none := by
  unfold RG
  repeat (first | rw [if_pos (by omega)] | rw [if_neg (by omega)])
section R6
variable {p : Program} {l : Launch} {e : Env} {R : Room} {s : State} {m : MethodId} {args : Array Value} {below : List Frame} {meth : Method} {c : Code} {H : Heap} {locs : List Loc} {cells slots : Nat} {Q : State → Prop}
variable {pc : Nat} {ls : Array Slot} {rest : List Value} {ad : Nat → Nat}
theorem r_nm {r : Nat} (kk : ∀ k, k = r → W p l e R s m args below meth c H locs cells slots Q (F0 m pc ls (.ref (ad k) :: rest))) : W p l e R s m args below meth c H locs cells slots Q (F0 m pc ls (.ref (ad r) :: rest)) := kk r rfl
end R6
end
section
theorem narz {x : Int32} (h : Rg x 0 1) : narrow .boolean (.int x) = .int x := by
  obtain ⟨h1, h2⟩ := h
  have e : x = 0 ∨ x = 1 := by
    by_cases q : x.toInt = 0
    · exact Or.inl (Int32.toInt_inj.mp q)
    · exact Or.inr (Int32.toInt_inj.mp (show x.toInt = 1 by omega))
  rcases e with rfl | rfl <;> rfl
theorem ml_X10_249 : Cond.methodLink N_X10 249 Lib.Math.min.name ∈ BIG := tb_in 787 (by decide +kernel) rfl
theorem ml_X2_48 : Cond.methodLink N_X2 48 Lib.Math.min.name ∈ BIG := tb_in 758 (by decide +kernel) rfl
theorem ml_X2_54 : Cond.methodLink N_X2 54 Lib.Math.max.name ∈ BIG := tb_in 757 (by decide +kernel) rfl
theorem ml_X5_59 : Cond.methodLink N_X5 59 Lib.Math.min.name ∈ BIG := tb_in 629 (by decide +kernel) rfl
theorem ml_X6_107 : Cond.methodLink N_X6 107 Lib.Math.min.name ∈ BIG := tb_in 693 (by decide +kernel) rfl
theorem ml_X7_51 : Cond.methodLink N_X7 51 Lib.Math.max.name ∈ BIG := tb_in 652 (by decide +kernel) rfl
theorem ml_X8_94 : Cond.methodLink N_X8 94 Lib.Math.max.name ∈ BIG := tb_in 562 (by decide +kernel) rfl
theorem ml_X9_34 : Cond.methodLink N_X9 34 Lib.Math.min.name ∈ BIG := tb_in 718 (by decide +kernel) rfl
theorem ml_mins : Cond.static Lib.Math.min.name ∈ BIG := tb_in 630 (by decide +kernel) rfl
theorem ml_minc : Cond.code Lib.Math.min.name Lib.Math.min.code 2 (some .int) ∈ BIG := tb_in 631 (by decide +kernel) rfl
theorem ml_maxs : Cond.static Lib.Math.max.name ∈ BIG := tb_in 563 (by decide +kernel) rfl
theorem ml_maxc : Cond.code Lib.Math.max.name Lib.Math.max.code 2 (some .int) ∈ BIG := tb_in 564 (by decide +kernel) rfl
theorem ml_mi : Cond.initialized "java/lang/Math" ∈ BIG := tb_in 53 (by decide +kernel) rfl
theorem d_X10_within_0 : decode c_X10_within 0 = .ok (.iload_n 0, 1) := by decide +kernel
theorem d_X10_within_1 : decode c_X10_within 1 = .ok (.iload_n 1, 1) := by decide +kernel
theorem d_X10_within_2 : decode c_X10_within 2 = .ok (.if_icmp .lt 12, 3) := by decide +kernel
theorem d_X10_within_5 : decode c_X10_within 5 = .ok (.iload_n 0, 1) := by decide +kernel
theorem d_X10_within_6 : decode c_X10_within 6 = .ok (.iload_n 2, 1) := by decide +kernel
theorem d_X10_within_7 : decode c_X10_within 7 = .ok (.if_icmp .gt 7, 3) := by decide +kernel
theorem d_X10_within_10 : decode c_X10_within 10 = .ok (.iconst 1, 1) := by decide +kernel
theorem d_X10_within_11 : decode c_X10_within 11 = .ok (.goto 4, 3) := by decide +kernel
theorem d_X10_within_14 : decode c_X10_within 14 = .ok (.iconst 0, 1) := by decide +kernel
theorem d_X10_within_15 : decode c_X10_within 15 = .ok (.ireturn, 1) := by decide +kernel
set_option maxHeartbeats 4000000 in
set_option maxRecDepth 100000 in
theorem ct_X10_within (l : Launch) (D : va_G) (dA : Nat → ClassId) (ad : Nat → Nat) (v : tV) (hI : Inv v) (x : Int32) (lo : Int32) (hi : Int32) : Met l m_X10_within [.code m_X10_within c_X10_within 3 (some .boolean)] ({ frames := 1, cells := 0, slots := 0, locals := 40 } : Room) (tP D dA ad v [.int x, .int lo, .int hi]) (tQi D dA ad (fun r v' => v' = v ∧ ((r = 1 ∧ lo.toInt ≤ x.toInt ∧ x.toInt ≤ hi.toInt) ∨ (r = 0 ∧ ¬ (lo.toInt ≤ x.toInt ∧ x.toInt ≤ hi.toInt))))) 0 0 (tA ad) := by
  refine tMet (by decide) (Nat.le_of_ble_eq_true rfl) ?_
  intro p e s m below meth c ls X hr hlocks hw hl
  have X : CX p s m ([.int x, .int lo, .int hi] : List Value).toArray c c_X10_within N_X10 3 D dA := X
  have hx := X.1
  have hb := X.2.1
  have hS : va_S (tA ad) s.heap s.heap [] := va_S.rf
  have hl : lv_has ls 3 [(0, .int x), (1, .int lo), (2, .int hi)] := hl
  refine lv_iload_n hx hb d_X10_within_0 rfl (lv_at hl 0 rfl) ?_
  refine lv_iload_n hx hb d_X10_within_1 rfl (lv_at hl 1 rfl) ?_
  refine lv_icmp_lt (tgt := 14) hx hb d_X10_within_2 (by decide) (fun c1 => ?_) (fun c1 => ?_)
  · have f2 := i_lt c1
    refine lv_iconst (v := 0) hx hb d_X10_within_14 (by decide) ?_
    exact r_zret X hr hlocks hw hS rfl ⟨rfl, Or.inr ⟨rfl, by omega⟩⟩ d_X10_within_15
  · have f3 := i_nlt c1
    refine lv_iload_n hx hb d_X10_within_5 rfl (lv_at hl 0 rfl) ?_
    refine lv_iload_n hx hb d_X10_within_6 rfl (lv_at hl 2 rfl) ?_
    refine lv_icmp_gt (tgt := 14) hx hb d_X10_within_7 (by decide) (fun c4 => ?_) (fun c4 => ?_)
    · have f5 := i_lt c4
      refine lv_iconst (v := 0) hx hb d_X10_within_14 (by decide) ?_
      exact r_zret X hr hlocks hw hS rfl ⟨rfl, Or.inr ⟨rfl, by omega⟩⟩ d_X10_within_15
    · have f6 := i_nlt c4
      refine lv_iconst (v := 1) hx hb d_X10_within_10 (by decide) ?_
      refine lv_goto (tgt := 15) hx hb d_X10_within_11 (by decide) ?_
      exact r_zret X hr hlocks hw hS rfl ⟨rfl, Or.inl ⟨rfl, by omega, by omega⟩⟩ d_X10_within_15
theorem d_X10_isAsk_0 : decode c_X10_isAsk 0 = .ok (.iload_n 0, 1) := by decide +kernel
theorem d_X10_isAsk_1 : decode c_X10_isAsk 1 = .ok (.iconst 1, 1) := by decide +kernel
theorem d_X10_isAsk_2 : decode c_X10_isAsk 2 = .ok (.bipush 99, 2) := by decide +kernel
theorem d_X10_isAsk_4 : decode c_X10_isAsk 4 = .ok (.invokestatic 74, 3) := by decide +kernel
theorem d_X10_isAsk_7 : decode c_X10_isAsk 7 = .ok (.ireturn, 1) := by decide +kernel
set_option maxHeartbeats 4000000 in
set_option maxRecDepth 100000 in
theorem ct_X10_isAsk (l : Launch) (D : va_G) (dA : Nat → ClassId) (ad : Nat → Nat) (v : tV) (hI : Inv v) (x : Int32) : Met l m_X10_isAsk [.code m_X10_isAsk c_X10_isAsk 1 (some .boolean)] ({ frames := 2, cells := 0, slots := 0, locals := 62 } : Room) (tP D dA ad v [.int x]) (tQi D dA ad (fun r v' => v' = v ∧ ((r = 1 ∧ 1 ≤ x.toInt ∧ x.toInt ≤ 99) ∨ (r = 0 ∧ ¬ (1 ≤ x.toInt ∧ x.toInt ≤ 99))))) 0 0 (tA ad) := by
  refine tMet (by decide) (Nat.le_of_ble_eq_true rfl) ?_
  intro p e s m below meth c ls X hr hlocks hw hl
  have X : CX p s m ([.int x] : List Value).toArray c c_X10_isAsk N_X10 1 D dA := X
  have hx := X.1
  have hb := X.2.1
  have hS : va_S (tA ad) s.heap s.heap [] := va_S.rf
  have hl : lv_has ls 1 [(0, .int x)] := hl
  refine lv_iload_n hx hb d_X10_isAsk_0 rfl (lv_at hl 0 rfl) ?_
  refine lv_iconst (v := 1) hx hb d_X10_isAsk_1 (by decide) ?_
  refine lv_bipush (v := 99) hx hb d_X10_isAsk_2 (by decide) ?_
  refine r_ci (r_runS (n := 3) (As := [.int x, .int 1, .int 99]) (rest := []) X hw (ct_X10_within l D dA ad v hI x 1 99) gc_X10_74 (by decide +kernel) ⟨rfl, rfl, Nat.le_of_ble_eq_true rfl, Nat.le_of_ble_eq_true rfl⟩ rfl hl.1 rfl (Nat.le_of_ble_eq_true rfl) ⟨Nat.zero_le _, Nat.zero_le _⟩ d_X10_isAsk_4) hS (fun x2 v3 H locs hp1 hw hS => ?_)
  obtain ⟨ev3, hp1⟩ := hp1
  rw [ev3] at hw
  rcases hp1 with ⟨rfl, w4a, w4b⟩ | ⟨rfl, w4n⟩
  · skip
    have r5 : Rg x 1 99 := by obtain ⟨_, _⟩ := (rg_any x); have : (1 : Int32).toInt = 1 := rfl; have : (99 : Int32).toInt = 99 := rfl; exact ⟨by omega, by omega⟩
    exact r_zret X hr hlocks hw hS rfl ⟨rfl, Or.inl ⟨rfl, by have : (1 : Int32).toInt = 1 := rfl; have : (99 : Int32).toInt = 99 := rfl; omega, by have : (1 : Int32).toInt = 1 := rfl; have : (99 : Int32).toInt = 99 := rfl; omega⟩⟩ d_X10_isAsk_7
  · skip
    exact r_zret X hr hlocks hw hS rfl ⟨rfl, Or.inr ⟨rfl, by have : (1 : Int32).toInt = 1 := rfl; have : (99 : Int32).toInt = 99 := rfl; omega⟩⟩ d_X10_isAsk_7
theorem d_X10_isBid_0 : decode c_X10_isBid 0 = .ok (.iload_n 0, 1) := by decide +kernel
theorem d_X10_isBid_1 : decode c_X10_isBid 1 = .ok (.iconst 1, 1) := by decide +kernel
theorem d_X10_isBid_2 : decode c_X10_isBid 2 = .ok (.bipush 120, 2) := by decide +kernel
theorem d_X10_isBid_4 : decode c_X10_isBid 4 = .ok (.invokestatic 74, 3) := by decide +kernel
theorem d_X10_isBid_7 : decode c_X10_isBid 7 = .ok (.ireturn, 1) := by decide +kernel
set_option maxHeartbeats 4000000 in
set_option maxRecDepth 100000 in
theorem ct_X10_isBid (l : Launch) (D : va_G) (dA : Nat → ClassId) (ad : Nat → Nat) (v : tV) (hI : Inv v) (x : Int32) : Met l m_X10_isBid [.code m_X10_isBid c_X10_isBid 1 (some .boolean)] ({ frames := 2, cells := 0, slots := 0, locals := 62 } : Room) (tP D dA ad v [.int x]) (tQi D dA ad (fun r v' => v' = v ∧ ((r = 1 ∧ 1 ≤ x.toInt ∧ x.toInt ≤ 120) ∨ (r = 0 ∧ ¬ (1 ≤ x.toInt ∧ x.toInt ≤ 120))))) 0 0 (tA ad) := by
  refine tMet (by decide) (Nat.le_of_ble_eq_true rfl) ?_
  intro p e s m below meth c ls X hr hlocks hw hl
  have X : CX p s m ([.int x] : List Value).toArray c c_X10_isBid N_X10 1 D dA := X
  have hx := X.1
  have hb := X.2.1
  have hS : va_S (tA ad) s.heap s.heap [] := va_S.rf
  have hl : lv_has ls 1 [(0, .int x)] := hl
  refine lv_iload_n hx hb d_X10_isBid_0 rfl (lv_at hl 0 rfl) ?_
  refine lv_iconst (v := 1) hx hb d_X10_isBid_1 (by decide) ?_
  refine lv_bipush (v := 120) hx hb d_X10_isBid_2 (by decide) ?_
  refine r_ci (r_runS (n := 3) (As := [.int x, .int 1, .int 120]) (rest := []) X hw (ct_X10_within l D dA ad v hI x 1 120) gc_X10_74 (by decide +kernel) ⟨rfl, rfl, Nat.le_of_ble_eq_true rfl, Nat.le_of_ble_eq_true rfl⟩ rfl hl.1 rfl (Nat.le_of_ble_eq_true rfl) ⟨Nat.zero_le _, Nat.zero_le _⟩ d_X10_isBid_4) hS (fun x2 v3 H locs hp1 hw hS => ?_)
  obtain ⟨ev3, hp1⟩ := hp1
  rw [ev3] at hw
  rcases hp1 with ⟨rfl, w4a, w4b⟩ | ⟨rfl, w4n⟩
  · skip
    have r5 : Rg x 1 120 := by obtain ⟨_, _⟩ := (rg_any x); have : (1 : Int32).toInt = 1 := rfl; have : (120 : Int32).toInt = 120 := rfl; exact ⟨by omega, by omega⟩
    exact r_zret X hr hlocks hw hS rfl ⟨rfl, Or.inl ⟨rfl, by have : (1 : Int32).toInt = 1 := rfl; have : (120 : Int32).toInt = 120 := rfl; omega, by have : (1 : Int32).toInt = 1 := rfl; have : (120 : Int32).toInt = 120 := rfl; omega⟩⟩ d_X10_isBid_7
  · skip
    exact r_zret X hr hlocks hw hS rfl ⟨rfl, Or.inr ⟨rfl, by have : (1 : Int32).toInt = 1 := rfl; have : (120 : Int32).toInt = 120 := rfl; omega⟩⟩ d_X10_isBid_7
theorem d_X10_isWant_0 : decode c_X10_isWant 0 = .ok (.iload_n 0, 1) := by decide +kernel
theorem d_X10_isWant_1 : decode c_X10_isWant 1 = .ok (.iconst 0, 1) := by decide +kernel
theorem d_X10_isWant_2 : decode c_X10_isWant 2 = .ok (.sipush 2000, 3) := by decide +kernel
theorem d_X10_isWant_5 : decode c_X10_isWant 5 = .ok (.invokestatic 74, 3) := by decide +kernel
theorem d_X10_isWant_8 : decode c_X10_isWant 8 = .ok (.ireturn, 1) := by decide +kernel
set_option maxHeartbeats 4000000 in
set_option maxRecDepth 100000 in
theorem ct_X10_isWant (l : Launch) (D : va_G) (dA : Nat → ClassId) (ad : Nat → Nat) (v : tV) (hI : Inv v) (x : Int32) : Met l m_X10_isWant [.code m_X10_isWant c_X10_isWant 1 (some .boolean)] ({ frames := 2, cells := 0, slots := 0, locals := 62 } : Room) (tP D dA ad v [.int x]) (tQi D dA ad (fun r v' => v' = v ∧ ((r = 1 ∧ 0 ≤ x.toInt ∧ x.toInt ≤ 2000) ∨ (r = 0 ∧ ¬ (0 ≤ x.toInt ∧ x.toInt ≤ 2000))))) 0 0 (tA ad) := by
  refine tMet (by decide) (Nat.le_of_ble_eq_true rfl) ?_
  intro p e s m below meth c ls X hr hlocks hw hl
  have X : CX p s m ([.int x] : List Value).toArray c c_X10_isWant N_X10 1 D dA := X
  have hx := X.1
  have hb := X.2.1
  have hS : va_S (tA ad) s.heap s.heap [] := va_S.rf
  have hl : lv_has ls 1 [(0, .int x)] := hl
  refine lv_iload_n hx hb d_X10_isWant_0 rfl (lv_at hl 0 rfl) ?_
  refine lv_iconst (v := 0) hx hb d_X10_isWant_1 (by decide) ?_
  refine lv_sipush (v := 2000) hx hb d_X10_isWant_2 (by decide) ?_
  refine r_ci (r_runS (n := 3) (As := [.int x, .int 0, .int 2000]) (rest := []) X hw (ct_X10_within l D dA ad v hI x 0 2000) gc_X10_74 (by decide +kernel) ⟨rfl, rfl, Nat.le_of_ble_eq_true rfl, Nat.le_of_ble_eq_true rfl⟩ rfl hl.1 rfl (Nat.le_of_ble_eq_true rfl) ⟨Nat.zero_le _, Nat.zero_le _⟩ d_X10_isWant_5) hS (fun x2 v3 H locs hp1 hw hS => ?_)
  obtain ⟨ev3, hp1⟩ := hp1
  rw [ev3] at hw
  rcases hp1 with ⟨rfl, w4a, w4b⟩ | ⟨rfl, w4n⟩
  · skip
    have r5 : Rg x 0 2000 := by obtain ⟨_, _⟩ := (rg_any x); have : (0 : Int32).toInt = 0 := rfl; have : (2000 : Int32).toInt = 2000 := rfl; exact ⟨by omega, by omega⟩
    exact r_zret X hr hlocks hw hS rfl ⟨rfl, Or.inl ⟨rfl, by have : (0 : Int32).toInt = 0 := rfl; have : (2000 : Int32).toInt = 2000 := rfl; omega, by have : (0 : Int32).toInt = 0 := rfl; have : (2000 : Int32).toInt = 2000 := rfl; omega⟩⟩ d_X10_isWant_8
  · skip
    exact r_zret X hr hlocks hw hS rfl ⟨rfl, Or.inr ⟨rfl, by have : (0 : Int32).toInt = 0 := rfl; have : (2000 : Int32).toInt = 2000 := rfl; omega⟩⟩ d_X10_isWant_8
theorem d_X10_isWard_0 : decode c_X10_isWard 0 = .ok (.iload_n 0, 1) := by decide +kernel
theorem d_X10_isWard_1 : decode c_X10_isWard 1 = .ok (.iconst 0, 1) := by decide +kernel
theorem d_X10_isWard_2 : decode c_X10_isWard 2 = .ok (.iconst 5, 1) := by decide +kernel
theorem d_X10_isWard_3 : decode c_X10_isWard 3 = .ok (.invokestatic 74, 3) := by decide +kernel
theorem d_X10_isWard_6 : decode c_X10_isWard 6 = .ok (.ireturn, 1) := by decide +kernel
set_option maxHeartbeats 4000000 in
set_option maxRecDepth 100000 in
theorem ct_X10_isWard (l : Launch) (D : va_G) (dA : Nat → ClassId) (ad : Nat → Nat) (v : tV) (hI : Inv v) (x : Int32) : Met l m_X10_isWard [.code m_X10_isWard c_X10_isWard 1 (some .boolean)] ({ frames := 2, cells := 0, slots := 0, locals := 62 } : Room) (tP D dA ad v [.int x]) (tQi D dA ad (fun r v' => v' = v ∧ ((r = 1 ∧ 0 ≤ x.toInt ∧ x.toInt ≤ 5) ∨ (r = 0 ∧ ¬ (0 ≤ x.toInt ∧ x.toInt ≤ 5))))) 0 0 (tA ad) := by
  refine tMet (by decide) (Nat.le_of_ble_eq_true rfl) ?_
  intro p e s m below meth c ls X hr hlocks hw hl
  have X : CX p s m ([.int x] : List Value).toArray c c_X10_isWard N_X10 1 D dA := X
  have hx := X.1
  have hb := X.2.1
  have hS : va_S (tA ad) s.heap s.heap [] := va_S.rf
  have hl : lv_has ls 1 [(0, .int x)] := hl
  refine lv_iload_n hx hb d_X10_isWard_0 rfl (lv_at hl 0 rfl) ?_
  refine lv_iconst (v := 0) hx hb d_X10_isWard_1 (by decide) ?_
  refine lv_iconst (v := 5) hx hb d_X10_isWard_2 (by decide) ?_
  refine r_ci (r_runS (n := 3) (As := [.int x, .int 0, .int 5]) (rest := []) X hw (ct_X10_within l D dA ad v hI x 0 5) gc_X10_74 (by decide +kernel) ⟨rfl, rfl, Nat.le_of_ble_eq_true rfl, Nat.le_of_ble_eq_true rfl⟩ rfl hl.1 rfl (Nat.le_of_ble_eq_true rfl) ⟨Nat.zero_le _, Nat.zero_le _⟩ d_X10_isWard_3) hS (fun x2 v3 H locs hp1 hw hS => ?_)
  obtain ⟨ev3, hp1⟩ := hp1
  rw [ev3] at hw
  rcases hp1 with ⟨rfl, w4a, w4b⟩ | ⟨rfl, w4n⟩
  · skip
    have r5 : Rg x 0 5 := by obtain ⟨_, _⟩ := (rg_any x); have : (0 : Int32).toInt = 0 := rfl; have : (5 : Int32).toInt = 5 := rfl; exact ⟨by omega, by omega⟩
    exact r_zret X hr hlocks hw hS rfl ⟨rfl, Or.inl ⟨rfl, by have : (0 : Int32).toInt = 0 := rfl; have : (5 : Int32).toInt = 5 := rfl; omega, by have : (0 : Int32).toInt = 0 := rfl; have : (5 : Int32).toInt = 5 := rfl; omega⟩⟩ d_X10_isWard_6
  · skip
    exact r_zret X hr hlocks hw hS rfl ⟨rfl, Or.inr ⟨rfl, by have : (0 : Int32).toInt = 0 := rfl; have : (5 : Int32).toInt = 5 := rfl; omega⟩⟩ d_X10_isWard_6
theorem d_X10_isCold_0 : decode c_X10_isCold 0 = .ok (.iload_n 0, 1) := by decide +kernel
theorem d_X10_isCold_1 : decode c_X10_isCold 1 = .ok (.iconst 0, 1) := by decide +kernel
theorem d_X10_isCold_2 : decode c_X10_isCold 2 = .ok (.iconst 4, 1) := by decide +kernel
theorem d_X10_isCold_3 : decode c_X10_isCold 3 = .ok (.invokestatic 74, 3) := by decide +kernel
theorem d_X10_isCold_6 : decode c_X10_isCold 6 = .ok (.ireturn, 1) := by decide +kernel
set_option maxHeartbeats 4000000 in
set_option maxRecDepth 100000 in
theorem ct_X10_isCold (l : Launch) (D : va_G) (dA : Nat → ClassId) (ad : Nat → Nat) (v : tV) (hI : Inv v) (x : Int32) : Met l m_X10_isCold [.code m_X10_isCold c_X10_isCold 1 (some .boolean)] ({ frames := 2, cells := 0, slots := 0, locals := 62 } : Room) (tP D dA ad v [.int x]) (tQi D dA ad (fun r v' => v' = v ∧ ((r = 1 ∧ 0 ≤ x.toInt ∧ x.toInt ≤ 4) ∨ (r = 0 ∧ ¬ (0 ≤ x.toInt ∧ x.toInt ≤ 4))))) 0 0 (tA ad) := by
  refine tMet (by decide) (Nat.le_of_ble_eq_true rfl) ?_
  intro p e s m below meth c ls X hr hlocks hw hl
  have X : CX p s m ([.int x] : List Value).toArray c c_X10_isCold N_X10 1 D dA := X
  have hx := X.1
  have hb := X.2.1
  have hS : va_S (tA ad) s.heap s.heap [] := va_S.rf
  have hl : lv_has ls 1 [(0, .int x)] := hl
  refine lv_iload_n hx hb d_X10_isCold_0 rfl (lv_at hl 0 rfl) ?_
  refine lv_iconst (v := 0) hx hb d_X10_isCold_1 (by decide) ?_
  refine lv_iconst (v := 4) hx hb d_X10_isCold_2 (by decide) ?_
  refine r_ci (r_runS (n := 3) (As := [.int x, .int 0, .int 4]) (rest := []) X hw (ct_X10_within l D dA ad v hI x 0 4) gc_X10_74 (by decide +kernel) ⟨rfl, rfl, Nat.le_of_ble_eq_true rfl, Nat.le_of_ble_eq_true rfl⟩ rfl hl.1 rfl (Nat.le_of_ble_eq_true rfl) ⟨Nat.zero_le _, Nat.zero_le _⟩ d_X10_isCold_3) hS (fun x2 v3 H locs hp1 hw hS => ?_)
  obtain ⟨ev3, hp1⟩ := hp1
  rw [ev3] at hw
  rcases hp1 with ⟨rfl, w4a, w4b⟩ | ⟨rfl, w4n⟩
  · skip
    have r5 : Rg x 0 4 := by obtain ⟨_, _⟩ := (rg_any x); have : (0 : Int32).toInt = 0 := rfl; have : (4 : Int32).toInt = 4 := rfl; exact ⟨by omega, by omega⟩
    exact r_zret X hr hlocks hw hS rfl ⟨rfl, Or.inl ⟨rfl, by have : (0 : Int32).toInt = 0 := rfl; have : (4 : Int32).toInt = 4 := rfl; omega, by have : (0 : Int32).toInt = 0 := rfl; have : (4 : Int32).toInt = 4 := rfl; omega⟩⟩ d_X10_isCold_6
  · skip
    exact r_zret X hr hlocks hw hS rfl ⟨rfl, Or.inr ⟨rfl, by have : (0 : Int32).toInt = 0 := rfl; have : (4 : Int32).toInt = 4 := rfl; omega⟩⟩ d_X10_isCold_6
theorem d_X10_isWind_0 : decode c_X10_isWind 0 = .ok (.iload_n 0, 1) := by decide +kernel
theorem d_X10_isWind_1 : decode c_X10_isWind 1 = .ok (.iconst 0, 1) := by decide +kernel
theorem d_X10_isWind_2 : decode c_X10_isWind 2 = .ok (.bipush 9, 2) := by decide +kernel
theorem d_X10_isWind_4 : decode c_X10_isWind 4 = .ok (.invokestatic 74, 3) := by decide +kernel
theorem d_X10_isWind_7 : decode c_X10_isWind 7 = .ok (.ireturn, 1) := by decide +kernel
set_option maxHeartbeats 4000000 in
set_option maxRecDepth 100000 in
theorem ct_X10_isWind (l : Launch) (D : va_G) (dA : Nat → ClassId) (ad : Nat → Nat) (v : tV) (hI : Inv v) (x : Int32) : Met l m_X10_isWind [.code m_X10_isWind c_X10_isWind 1 (some .boolean)] ({ frames := 2, cells := 0, slots := 0, locals := 62 } : Room) (tP D dA ad v [.int x]) (tQi D dA ad (fun r v' => v' = v ∧ ((r = 1 ∧ 0 ≤ x.toInt ∧ x.toInt ≤ 9) ∨ (r = 0 ∧ ¬ (0 ≤ x.toInt ∧ x.toInt ≤ 9))))) 0 0 (tA ad) := by
  refine tMet (by decide) (Nat.le_of_ble_eq_true rfl) ?_
  intro p e s m below meth c ls X hr hlocks hw hl
  have X : CX p s m ([.int x] : List Value).toArray c c_X10_isWind N_X10 1 D dA := X
  have hx := X.1
  have hb := X.2.1
  have hS : va_S (tA ad) s.heap s.heap [] := va_S.rf
  have hl : lv_has ls 1 [(0, .int x)] := hl
  refine lv_iload_n hx hb d_X10_isWind_0 rfl (lv_at hl 0 rfl) ?_
  refine lv_iconst (v := 0) hx hb d_X10_isWind_1 (by decide) ?_
  refine lv_bipush (v := 9) hx hb d_X10_isWind_2 (by decide) ?_
  refine r_ci (r_runS (n := 3) (As := [.int x, .int 0, .int 9]) (rest := []) X hw (ct_X10_within l D dA ad v hI x 0 9) gc_X10_74 (by decide +kernel) ⟨rfl, rfl, Nat.le_of_ble_eq_true rfl, Nat.le_of_ble_eq_true rfl⟩ rfl hl.1 rfl (Nat.le_of_ble_eq_true rfl) ⟨Nat.zero_le _, Nat.zero_le _⟩ d_X10_isWind_4) hS (fun x2 v3 H locs hp1 hw hS => ?_)
  obtain ⟨ev3, hp1⟩ := hp1
  rw [ev3] at hw
  rcases hp1 with ⟨rfl, w4a, w4b⟩ | ⟨rfl, w4n⟩
  · skip
    have r5 : Rg x 0 9 := by obtain ⟨_, _⟩ := (rg_any x); have : (0 : Int32).toInt = 0 := rfl; have : (9 : Int32).toInt = 9 := rfl; exact ⟨by omega, by omega⟩
    exact r_zret X hr hlocks hw hS rfl ⟨rfl, Or.inl ⟨rfl, by have : (0 : Int32).toInt = 0 := rfl; have : (9 : Int32).toInt = 9 := rfl; omega, by have : (0 : Int32).toInt = 0 := rfl; have : (9 : Int32).toInt = 9 := rfl; omega⟩⟩ d_X10_isWind_7
  · skip
    exact r_zret X hr hlocks hw hS rfl ⟨rfl, Or.inr ⟨rfl, by have : (0 : Int32).toInt = 0 := rfl; have : (9 : Int32).toInt = 9 := rfl; omega⟩⟩ d_X10_isWind_7
theorem d_X7_fact_0 : decode c_X7_fact 0 = .ok (.iload_n 1, 1) := by decide +kernel
theorem d_X7_fact_1 : decode c_X7_fact 1 = .ok (.tableswitch 132 0 12 #[67, 72, 77, 82, 87, 92, 97, 102, 107, 112, 117, 122, 127], 67) := by decide +kernel
theorem d_X7_fact_68 : decode c_X7_fact 68 = .ok (.aload_n 0, 1) := by decide +kernel
theorem d_X7_fact_69 : decode c_X7_fact 69 = .ok (.getfield 9, 3) := by decide +kernel
theorem d_X7_fact_72 : decode c_X7_fact 72 = .ok (.ireturn, 1) := by decide +kernel
theorem d_X7_fact_73 : decode c_X7_fact 73 = .ok (.aload_n 0, 1) := by decide +kernel
theorem d_X7_fact_74 : decode c_X7_fact 74 = .ok (.getfield 15, 3) := by decide +kernel
theorem d_X7_fact_77 : decode c_X7_fact 77 = .ok (.ireturn, 1) := by decide +kernel
theorem d_X7_fact_78 : decode c_X7_fact 78 = .ok (.aload_n 0, 1) := by decide +kernel
theorem d_X7_fact_79 : decode c_X7_fact 79 = .ok (.getfield 18, 3) := by decide +kernel
theorem d_X7_fact_82 : decode c_X7_fact 82 = .ok (.ireturn, 1) := by decide +kernel
theorem d_X7_fact_83 : decode c_X7_fact 83 = .ok (.aload_n 0, 1) := by decide +kernel
theorem d_X7_fact_84 : decode c_X7_fact 84 = .ok (.getfield 21, 3) := by decide +kernel
theorem d_X7_fact_87 : decode c_X7_fact 87 = .ok (.ireturn, 1) := by decide +kernel
theorem d_X7_fact_88 : decode c_X7_fact 88 = .ok (.aload_n 0, 1) := by decide +kernel
theorem d_X7_fact_89 : decode c_X7_fact 89 = .ok (.getfield 24, 3) := by decide +kernel
theorem d_X7_fact_92 : decode c_X7_fact 92 = .ok (.ireturn, 1) := by decide +kernel
theorem d_X7_fact_93 : decode c_X7_fact 93 = .ok (.aload_n 0, 1) := by decide +kernel
theorem d_X7_fact_94 : decode c_X7_fact 94 = .ok (.getfield 27, 3) := by decide +kernel
theorem d_X7_fact_97 : decode c_X7_fact 97 = .ok (.ireturn, 1) := by decide +kernel
theorem d_X7_fact_98 : decode c_X7_fact 98 = .ok (.aload_n 0, 1) := by decide +kernel
theorem d_X7_fact_99 : decode c_X7_fact 99 = .ok (.getfield 30, 3) := by decide +kernel
theorem d_X7_fact_102 : decode c_X7_fact 102 = .ok (.ireturn, 1) := by decide +kernel
theorem d_X7_fact_103 : decode c_X7_fact 103 = .ok (.aload_n 0, 1) := by decide +kernel
theorem d_X7_fact_104 : decode c_X7_fact 104 = .ok (.getfield 33, 3) := by decide +kernel
theorem d_X7_fact_107 : decode c_X7_fact 107 = .ok (.ireturn, 1) := by decide +kernel
theorem d_X7_fact_108 : decode c_X7_fact 108 = .ok (.aload_n 0, 1) := by decide +kernel
theorem d_X7_fact_109 : decode c_X7_fact 109 = .ok (.getfield 36, 3) := by decide +kernel
theorem d_X7_fact_112 : decode c_X7_fact 112 = .ok (.ireturn, 1) := by decide +kernel
theorem d_X7_fact_113 : decode c_X7_fact 113 = .ok (.aload_n 0, 1) := by decide +kernel
theorem d_X7_fact_114 : decode c_X7_fact 114 = .ok (.getfield 39, 3) := by decide +kernel
theorem d_X7_fact_117 : decode c_X7_fact 117 = .ok (.ireturn, 1) := by decide +kernel
theorem d_X7_fact_118 : decode c_X7_fact 118 = .ok (.aload_n 0, 1) := by decide +kernel
theorem d_X7_fact_119 : decode c_X7_fact 119 = .ok (.getfield 42, 3) := by decide +kernel
theorem d_X7_fact_122 : decode c_X7_fact 122 = .ok (.ireturn, 1) := by decide +kernel
theorem d_X7_fact_123 : decode c_X7_fact 123 = .ok (.aload_n 0, 1) := by decide +kernel
theorem d_X7_fact_124 : decode c_X7_fact 124 = .ok (.getfield 45, 3) := by decide +kernel
theorem d_X7_fact_127 : decode c_X7_fact 127 = .ok (.ireturn, 1) := by decide +kernel
theorem d_X7_fact_128 : decode c_X7_fact 128 = .ok (.aload_n 0, 1) := by decide +kernel
theorem d_X7_fact_129 : decode c_X7_fact 129 = .ok (.getfield 48, 3) := by decide +kernel
theorem d_X7_fact_132 : decode c_X7_fact 132 = .ok (.ireturn, 1) := by decide +kernel
theorem d_X7_fact_133 : decode c_X7_fact 133 = .ok (.iconst (-1), 1) := by decide +kernel
theorem d_X7_fact_134 : decode c_X7_fact 134 = .ok (.ireturn, 1) := by decide +kernel
set_option maxHeartbeats 4000000 in
set_option maxRecDepth 100000 in
theorem ct_X7_fact (l : Launch) (D : va_G) (dA : Nat → ClassId) (ad : Nat → Nat) (v : tV) (hI : Inv v) (k : Nat) (what : Int32) (ka : 100 ≤ k) (kb : k < 160) : Met l m_X7_fact [.code m_X7_fact c_X7_fact 2 (some .int)] ({ frames := 1, cells := 0, slots := 0, locals := 40 } : Room) (tP D dA ad v [.ref (ad k), .int what]) (tQi D dA ad (fun r v' => v' = v)) 0 0 (tA ad) := by
  refine tMet (by decide) (Nat.le_of_ble_eq_true rfl) ?_
  intro p e s m below meth c ls X hr hlocks hw hl
  have X : CX p s m ([.ref (ad k), .int what] : List Value).toArray c c_X7_fact N_X7 2 D dA := X
  have hx := X.1
  have hb := X.2.1
  have hS : va_S (tA ad) s.heap s.heap [] := va_S.rf
  have hl : lv_has ls 2 [(0, .ref (ad k)), (1, .int what)] := hl
  refine lv_iload_n hx hb d_X7_fact_0 rfl (lv_at hl 1 rfl) ?_
  by_cases c1 : what.toInt < 0 ∨ 12 < what.toInt
  · refine lv_tableOut (tgt := 133) hx hb d_X7_fact_1 c1 (by decide) ?_
    refine lv_iconst (v := -1) hx hb d_X7_fact_133 (by decide) ?_
    exact r_iret X hr hlocks hw hS rfl d_X7_fact_134
  · have c1b : what.toInt = 0 ∨ what.toInt = 1 ∨ what.toInt = 2 ∨ what.toInt = 3 ∨ what.toInt = 4 ∨ what.toInt = 5 ∨ what.toInt = 6 ∨ what.toInt = 7 ∨ what.toInt = 8 ∨ what.toInt = 9 ∨ what.toInt = 10 ∨ what.toInt = 11 ∨ what.toInt = 12 := by omega
    rcases c1b with c1e | c1e | c1e | c1e | c1e | c1e | c1e | c1e | c1e | c1e | c1e | c1e | c1e
    · refine lv_tableIn (off := 67) (tgt := 68) hx hb d_X7_fact_1 (by omega) (by omega) (by rw [c1e]; rfl) (by decide) ?_
      refine lv_aload_n hx hb d_X7_fact_68 rfl (lv_at hl 0 rfl) ?_
      refine r_geti X hw FL_X7_9 (KD_ship (by omega) (by omega)) (SH_ship (by omega) (by omega)) d_X7_fact_69 ?_
      refine lv_topi (fun x2 ex2 => ?_)
      exact r_iret X hr hlocks hw hS rfl d_X7_fact_72
    · refine lv_tableIn (off := 72) (tgt := 73) hx hb d_X7_fact_1 (by omega) (by omega) (by rw [c1e]; rfl) (by decide) ?_
      refine lv_aload_n hx hb d_X7_fact_73 rfl (lv_at hl 0 rfl) ?_
      refine r_geti X hw FL_X7_15 (KD_ship (by omega) (by omega)) (SH_ship (by omega) (by omega)) d_X7_fact_74 ?_
      refine lv_topi (fun x3 ex3 => ?_)
      exact r_iret X hr hlocks hw hS rfl d_X7_fact_77
    · refine lv_tableIn (off := 77) (tgt := 78) hx hb d_X7_fact_1 (by omega) (by omega) (by rw [c1e]; rfl) (by decide) ?_
      refine lv_aload_n hx hb d_X7_fact_78 rfl (lv_at hl 0 rfl) ?_
      refine r_geti X hw FL_X7_18 (KD_ship (by omega) (by omega)) (SH_ship (by omega) (by omega)) d_X7_fact_79 ?_
      refine lv_topi (fun x4 ex4 => ?_)
      exact r_iret X hr hlocks hw hS rfl d_X7_fact_82
    · refine lv_tableIn (off := 82) (tgt := 83) hx hb d_X7_fact_1 (by omega) (by omega) (by rw [c1e]; rfl) (by decide) ?_
      refine lv_aload_n hx hb d_X7_fact_83 rfl (lv_at hl 0 rfl) ?_
      refine r_geti X hw FL_X7_21 (KD_ship (by omega) (by omega)) (SH_ship (by omega) (by omega)) d_X7_fact_84 ?_
      refine lv_topi (fun x5 ex5 => ?_)
      exact r_iret X hr hlocks hw hS rfl d_X7_fact_87
    · refine lv_tableIn (off := 87) (tgt := 88) hx hb d_X7_fact_1 (by omega) (by omega) (by rw [c1e]; rfl) (by decide) ?_
      refine lv_aload_n hx hb d_X7_fact_88 rfl (lv_at hl 0 rfl) ?_
      refine r_geti X hw FL_X7_24 (KD_ship (by omega) (by omega)) (SH_ship (by omega) (by omega)) d_X7_fact_89 ?_
      refine lv_topi (fun x6 ex6 => ?_)
      exact r_iret X hr hlocks hw hS rfl d_X7_fact_92
    · refine lv_tableIn (off := 92) (tgt := 93) hx hb d_X7_fact_1 (by omega) (by omega) (by rw [c1e]; rfl) (by decide) ?_
      refine lv_aload_n hx hb d_X7_fact_93 rfl (lv_at hl 0 rfl) ?_
      refine r_geti X hw FL_X7_27 (KD_ship (by omega) (by omega)) (SH_ship (by omega) (by omega)) d_X7_fact_94 ?_
      refine lv_topi (fun x7 ex7 => ?_)
      exact r_iret X hr hlocks hw hS rfl d_X7_fact_97
    · refine lv_tableIn (off := 97) (tgt := 98) hx hb d_X7_fact_1 (by omega) (by omega) (by rw [c1e]; rfl) (by decide) ?_
      refine lv_aload_n hx hb d_X7_fact_98 rfl (lv_at hl 0 rfl) ?_
      refine r_geti X hw FL_X7_30 (KD_ship (by omega) (by omega)) (SH_ship (by omega) (by omega)) d_X7_fact_99 ?_
      refine lv_topi (fun x8 ex8 => ?_)
      exact r_iret X hr hlocks hw hS rfl d_X7_fact_102
    · refine lv_tableIn (off := 102) (tgt := 103) hx hb d_X7_fact_1 (by omega) (by omega) (by rw [c1e]; rfl) (by decide) ?_
      refine lv_aload_n hx hb d_X7_fact_103 rfl (lv_at hl 0 rfl) ?_
      refine r_geti X hw FL_X7_33 (KD_ship (by omega) (by omega)) (SH_ship (by omega) (by omega)) d_X7_fact_104 ?_
      refine lv_topi (fun x9 ex9 => ?_)
      exact r_iret X hr hlocks hw hS rfl d_X7_fact_107
    · refine lv_tableIn (off := 107) (tgt := 108) hx hb d_X7_fact_1 (by omega) (by omega) (by rw [c1e]; rfl) (by decide) ?_
      refine lv_aload_n hx hb d_X7_fact_108 rfl (lv_at hl 0 rfl) ?_
      refine r_geti X hw FL_X7_36 (KD_ship (by omega) (by omega)) (SH_ship (by omega) (by omega)) d_X7_fact_109 ?_
      refine lv_topi (fun x10 ex10 => ?_)
      exact r_iret X hr hlocks hw hS rfl d_X7_fact_112
    · refine lv_tableIn (off := 112) (tgt := 113) hx hb d_X7_fact_1 (by omega) (by omega) (by rw [c1e]; rfl) (by decide) ?_
      refine lv_aload_n hx hb d_X7_fact_113 rfl (lv_at hl 0 rfl) ?_
      refine r_geti X hw FL_X7_39 (KD_ship (by omega) (by omega)) (SH_ship (by omega) (by omega)) d_X7_fact_114 ?_
      refine lv_topi (fun x11 ex11 => ?_)
      exact r_iret X hr hlocks hw hS rfl d_X7_fact_117
    · refine lv_tableIn (off := 117) (tgt := 118) hx hb d_X7_fact_1 (by omega) (by omega) (by rw [c1e]; rfl) (by decide) ?_
      refine lv_aload_n hx hb d_X7_fact_118 rfl (lv_at hl 0 rfl) ?_
      refine r_geti X hw FL_X7_42 (KD_ship (by omega) (by omega)) (SH_ship (by omega) (by omega)) d_X7_fact_119 ?_
      refine lv_topi (fun x12 ex12 => ?_)
      exact r_iret X hr hlocks hw hS rfl d_X7_fact_122
    · refine lv_tableIn (off := 122) (tgt := 123) hx hb d_X7_fact_1 (by omega) (by omega) (by rw [c1e]; rfl) (by decide) ?_
      refine lv_aload_n hx hb d_X7_fact_123 rfl (lv_at hl 0 rfl) ?_
      refine r_geti X hw FL_X7_45 (KD_ship (by omega) (by omega)) (SH_ship (by omega) (by omega)) d_X7_fact_124 ?_
      refine lv_topi (fun x13 ex13 => ?_)
      exact r_iret X hr hlocks hw hS rfl d_X7_fact_127
    · refine lv_tableIn (off := 127) (tgt := 128) hx hb d_X7_fact_1 (by omega) (by omega) (by rw [c1e]; rfl) (by decide) ?_
      refine lv_aload_n hx hb d_X7_fact_128 rfl (lv_at hl 0 rfl) ?_
      refine r_geti X hw FL_X7_48 (KD_ship (by omega) (by omega)) (SH_ship (by omega) (by omega)) d_X7_fact_129 ?_
      refine lv_topi (fun x14 ex14 => ?_)
      exact r_iret X hr hlocks hw hS rfl d_X7_fact_132
theorem d_X7_sail_0 : decode c_X7_sail 0 = .ok (.aload_n 0, 1) := by decide +kernel
theorem d_X7_sail_1 : decode c_X7_sail 1 = .ok (.getfield 33, 3) := by decide +kernel
theorem d_X7_sail_4 : decode c_X7_sail 4 = .ok (.ifCond .eq 4, 3) := by decide +kernel
theorem d_X7_sail_7 : decode c_X7_sail 7 = .ok (.return_, 1) := by decide +kernel
theorem d_X7_sail_8 : decode c_X7_sail 8 = .ok (.aload_n 0, 1) := by decide +kernel
theorem d_X7_sail_9 : decode c_X7_sail 9 = .ok (.iconst 0, 1) := by decide +kernel
theorem d_X7_sail_10 : decode c_X7_sail 10 = .ok (.aload_n 0, 1) := by decide +kernel
theorem d_X7_sail_11 : decode c_X7_sail 11 = .ok (.getfield 27, 3) := by decide +kernel
theorem d_X7_sail_14 : decode c_X7_sail 14 = .ok (.aload_n 0, 1) := by decide +kernel
theorem d_X7_sail_15 : decode c_X7_sail 15 = .ok (.getfield 9, 3) := by decide +kernel
theorem d_X7_sail_18 : decode c_X7_sail 18 = .ok (.iconst 1, 1) := by decide +kernel
theorem d_X7_sail_19 : decode c_X7_sail 19 = .ok (.if_icmp .ne 9, 3) := by decide +kernel
theorem d_X7_sail_22 : decode c_X7_sail 22 = .ok (.iconst 2, 1) := by decide +kernel
theorem d_X7_sail_23 : decode c_X7_sail 23 = .ok (.iload_n 1, 1) := by decide +kernel
theorem d_X7_sail_24 : decode c_X7_sail 24 = .ok (.imul, 1) := by decide +kernel
theorem d_X7_sail_25 : decode c_X7_sail 25 = .ok (.goto 4, 3) := by decide +kernel
theorem d_X7_sail_28 : decode c_X7_sail 28 = .ok (.iload_n 1, 1) := by decide +kernel
theorem d_X7_sail_29 : decode c_X7_sail 29 = .ok (.isub, 1) := by decide +kernel
theorem d_X7_sail_30 : decode c_X7_sail 30 = .ok (.invokestatic 51, 3) := by decide +kernel
theorem d_X7_sail_33 : decode c_X7_sail 33 = .ok (.putfield 27, 3) := by decide +kernel
theorem d_X7_sail_36 : decode c_X7_sail 36 = .ok (.aload_n 0, 1) := by decide +kernel
theorem d_X7_sail_37 : decode c_X7_sail 37 = .ok (.getfield 27, 3) := by decide +kernel
theorem d_X7_sail_40 : decode c_X7_sail 40 = .ok (.ifCond .le 4, 3) := by decide +kernel
theorem d_X7_sail_43 : decode c_X7_sail 43 = .ok (.return_, 1) := by decide +kernel
theorem d_X7_sail_44 : decode c_X7_sail 44 = .ok (.aload_n 0, 1) := by decide +kernel
theorem d_X7_sail_45 : decode c_X7_sail 45 = .ok (.iconst 1, 1) := by decide +kernel
theorem d_X7_sail_46 : decode c_X7_sail 46 = .ok (.putfield 33, 3) := by decide +kernel
theorem d_X7_sail_49 : decode c_X7_sail 49 = .ok (.aload_n 0, 1) := by decide +kernel
theorem d_X7_sail_50 : decode c_X7_sail 50 = .ok (.iload_n 2, 1) := by decide +kernel
theorem d_X7_sail_51 : decode c_X7_sail 51 = .ok (.putfield 36, 3) := by decide +kernel
theorem d_X7_sail_54 : decode c_X7_sail 54 = .ok (.aload_n 0, 1) := by decide +kernel
theorem d_X7_sail_55 : decode c_X7_sail 55 = .ok (.getfield 9, 3) := by decide +kernel
theorem d_X7_sail_58 : decode c_X7_sail 58 = .ok (.iconst 3, 1) := by decide +kernel
theorem d_X7_sail_59 : decode c_X7_sail 59 = .ok (.if_icmp .ne 18, 3) := by decide +kernel
theorem d_X7_sail_62 : decode c_X7_sail 62 = .ok (.aload_n 0, 1) := by decide +kernel
theorem d_X7_sail_63 : decode c_X7_sail 63 = .ok (.dup, 1) := by decide +kernel
theorem d_X7_sail_64 : decode c_X7_sail 64 = .ok (.getfield 48, 3) := by decide +kernel
theorem d_X7_sail_67 : decode c_X7_sail 67 = .ok (.iconst 3, 1) := by decide +kernel
theorem d_X7_sail_68 : decode c_X7_sail 68 = .ok (.aload_n 0, 1) := by decide +kernel
theorem d_X7_sail_69 : decode c_X7_sail 69 = .ok (.getfield 18, 3) := by decide +kernel
theorem d_X7_sail_72 : decode c_X7_sail 72 = .ok (.imul, 1) := by decide +kernel
theorem d_X7_sail_73 : decode c_X7_sail 73 = .ok (.iadd, 1) := by decide +kernel
theorem d_X7_sail_74 : decode c_X7_sail 74 = .ok (.putfield 48, 3) := by decide +kernel
theorem d_X7_sail_77 : decode c_X7_sail 77 = .ok (.return_, 1) := by decide +kernel
set_option maxHeartbeats 4000000 in
set_option maxRecDepth 100000 in
theorem ct_X7_sail (l : Launch) (D : va_G) (dA : Nat → ClassId) (ad : Nat → Nat) (v : tV) (hI : Inv v) (k : Nat) (wind : Int32) (today : Int32) (ka : 100 ≤ k) (kb : k < 160) : Met l m_X7_sail [.code m_X7_sail c_X7_sail 3 none] ({ frames := 1, cells := 0, slots := 0, locals := 40 } : Room) (tP D dA ad v [.ref (ad k), .int wind, .int today]) (tQv D dA ad (fun v' => Inv v' ∧ Kp v v')) 0 0 (tA ad) := by
  refine tMet (by decide) (Nat.le_of_ble_eq_true rfl) ?_
  intro p e s m below meth c ls X hr hlocks hw hl
  have X : CX p s m ([.ref (ad k), .int wind, .int today] : List Value).toArray c c_X7_sail N_X7 3 D dA := X
  have hx := X.1
  have hb := X.2.1
  have hS : va_S (tA ad) s.heap s.heap [] := va_S.rf
  have hl : lv_has ls 3 [(0, .ref (ad k)), (1, .int wind), (2, .int today)] := hl
  have hK0 : Kp v v := Kp.rf v
  refine lv_aload_n hx hb d_X7_sail_0 rfl (lv_at hl 0 rfl) ?_
  refine r_geti X hw FL_X7_33 (KD_ship (by omega) (by omega)) (SH_ship (by omega) (by omega)) d_X7_sail_1 ?_
  refine lv_topi (fun x1 ex1 => ?_)
  refine lv_if_eq (tgt := 8) hx hb d_X7_sail_4 (by decide) (fun c2 => ?_) (fun c2 => ?_)
  · have f3 := i_eq c2
    have r4 : Rg x1 0 0 := by obtain ⟨a1, a2⟩ := (rg_any x1); obtain ⟨b1, b2⟩ := (⟨by decide, by decide⟩ : Rg 0 0 0); have f := i_eq c2; exact ⟨by omega, by omega⟩
    refine lv_aload_n hx hb d_X7_sail_8 rfl (lv_at hl 0 rfl) ?_
    refine lv_iconst (v := 0) hx hb d_X7_sail_9 (by decide) ?_
    refine lv_aload_n hx hb d_X7_sail_10 rfl (lv_at hl 0 rfl) ?_
    refine r_geti X hw FL_X7_27 (KD_ship (by omega) (by omega)) (SH_ship (by omega) (by omega)) d_X7_sail_11 ?_
    refine lv_topi (fun x5 ex5 => ?_)
    refine lv_aload_n hx hb d_X7_sail_14 rfl (lv_at hl 0 rfl) ?_
    refine r_geti X hw FL_X7_9 (KD_ship (by omega) (by omega)) (SH_ship (by omega) (by omega)) d_X7_sail_15 ?_
    refine lv_topi (fun x6 ex6 => ?_)
    refine lv_iconst (v := 1) hx hb d_X7_sail_18 (by decide) ?_
    refine lv_icmp_ne (tgt := 28) hx hb d_X7_sail_19 (by decide) (fun c7 => ?_) (fun c7 => ?_)
    · have f8 := i_ne c7
      refine lv_iload_n hx hb d_X7_sail_28 rfl (lv_at hl 1 rfl) ?_
      refine lv_isub hx hb d_X7_sail_29 ?_
      refine lv_topi (fun x9 ex9 => ?_)
      refine va_mmax hx hb (X.2.2.1.trans hl.1.symm) X.2.2.2.1 (X.2.2.2.2.1 _ ml_X7_51) (X.2.2.2.2.1 _ ml_maxs) (X.2.2.2.2.1 _ ml_mi) (X.2.2.2.2.1 _ ml_maxc) (Nat.le_of_ble_eq_true rfl) (Nat.le_of_ble_eq_true rfl) (Nat.zero_le _) (Nat.zero_le _) d_X7_sail_30 ?_
      refine lv_topi (fun x10 ex10 => ?_)
      have r11 : Rg x10 0 2147483647 := by obtain ⟨a1, a2⟩ := (⟨by decide, by decide⟩ : Rg 0 0 0); obtain ⟨b1, b2⟩ := (rg_any x9); rw [ex10]; split <;> rename_i q <;> first | (have := i_lt q; exact ⟨by omega, by omega⟩) | (have := i_nlt q; exact ⟨by omega, by omega⟩)
      refine r_put X hw hS FP_X7_27 (KD_ship (by omega) (by omega)) (SH_ship (by omega) (by omega)) ⟨rfl, rfl⟩ d_X7_sail_33 (fun H locs hw hS => ?_)
      obtain ⟨v12, ev12⟩ : ∃ z, z = up2 v k 5 x10 := ⟨_, rfl⟩
      rw [← ev12] at hw
      have hI13 : Inv v12 := by rw [ev12]; exact Inv.put0 hI _ (RG_ship (by omega) (by omega))
      have hK14 : Kp v v12 := by rw [ev12]; exact Kp.put hK0 _ (PS_ship (by omega) (by omega) (by decide))
      refine lv_aload_n hx hb d_X7_sail_36 rfl (lv_at hl 0 rfl) ?_
      refine r_geti X hw FL_X7_27 (KD_ship (by omega) (by omega)) (SH_ship (by omega) (by omega)) d_X7_sail_37 ?_
      refine lv_topi (fun x15 ex15 => ?_)
      refine lv_if_le (tgt := 44) hx hb d_X7_sail_40 (by decide) (fun c16 => ?_) (fun c16 => ?_)
      · have f17 := i_le c16
        have r18 : Rg x15 (-2147483648) 0 := by obtain ⟨a1, a2⟩ := (rg_any x15); obtain ⟨b1, b2⟩ := (⟨by decide, by decide⟩ : Rg 0 0 0); have f := i_le c16; exact ⟨by omega, by omega⟩
        refine lv_aload_n hx hb d_X7_sail_44 rfl (lv_at hl 0 rfl) ?_
        refine lv_iconst (v := 1) hx hb d_X7_sail_45 (by decide) ?_
        refine r_put X hw hS FP_X7_33 (KD_ship (by omega) (by omega)) (SH_ship (by omega) (by omega)) ⟨rfl, rfl⟩ d_X7_sail_46 (fun H locs hw hS => ?_)
        obtain ⟨v19, ev19⟩ : ∃ z, z = up2 v12 k 7 1 := ⟨_, rfl⟩
        rw [← ev19] at hw
        have hI20 : Inv v19 := by rw [ev19]; exact Inv.put0 hI13 _ (RG_ship (by omega) (by omega))
        have hK21 : Kp v v19 := by rw [ev19]; exact Kp.put hK14 _ (PS_ship (by omega) (by omega) (by decide))
        refine lv_aload_n hx hb d_X7_sail_49 rfl (lv_at hl 0 rfl) ?_
        refine lv_iload_n hx hb d_X7_sail_50 rfl (lv_at hl 2 rfl) ?_
        refine r_put X hw hS FP_X7_36 (KD_ship (by omega) (by omega)) (SH_ship (by omega) (by omega)) ⟨rfl, rfl⟩ d_X7_sail_51 (fun H locs hw hS => ?_)
        obtain ⟨v22, ev22⟩ : ∃ z, z = up2 v19 k 8 today := ⟨_, rfl⟩
        rw [← ev22] at hw
        have hI23 : Inv v22 := by rw [ev22]; exact Inv.put0 hI20 _ (RG_ship (by omega) (by omega))
        have hK24 : Kp v v22 := by rw [ev22]; exact Kp.put hK21 _ (PS_ship (by omega) (by omega) (by decide))
        refine lv_aload_n hx hb d_X7_sail_54 rfl (lv_at hl 0 rfl) ?_
        refine r_geti X hw FL_X7_9 (KD_ship (by omega) (by omega)) (SH_ship (by omega) (by omega)) d_X7_sail_55 ?_
        refine lv_topi (fun x25 ex25 => ?_)
        refine lv_iconst (v := 3) hx hb d_X7_sail_58 (by decide) ?_
        refine lv_icmp_ne (tgt := 77) hx hb d_X7_sail_59 (by decide) (fun c26 => ?_) (fun c26 => ?_)
        · have f27 := i_ne c26
          exact r_vret X hr hlocks hw hS ⟨hI23, hK24⟩ d_X7_sail_77
        · have f28 := i_eq c26
          have r29 : Rg x25 3 3 := by obtain ⟨a1, a2⟩ := (rg_any x25); obtain ⟨b1, b2⟩ := (⟨by decide, by decide⟩ : Rg 3 3 3); have f := i_eq c26; exact ⟨by omega, by omega⟩
          refine lv_aload_n hx hb d_X7_sail_62 rfl (lv_at hl 0 rfl) ?_
          refine lv_dup hx hb d_X7_sail_63 rfl ?_
          refine r_geti X hw FL_X7_48 (KD_ship (by omega) (by omega)) (SH_ship (by omega) (by omega)) d_X7_sail_64 ?_
          refine lv_topi (fun x30 ex30 => ?_)
          refine lv_iconst (v := 3) hx hb d_X7_sail_67 (by decide) ?_
          refine lv_aload_n hx hb d_X7_sail_68 rfl (lv_at hl 0 rfl) ?_
          refine r_geti X hw FL_X7_18 (KD_ship (by omega) (by omega)) (SH_ship (by omega) (by omega)) d_X7_sail_69 ?_
          refine lv_topi (fun x31 ex31 => ?_)
          refine lv_imul hx hb d_X7_sail_72 ?_
          refine lv_topi (fun x32 ex32 => ?_)
          refine lv_iadd hx hb d_X7_sail_73 ?_
          refine lv_topi (fun x33 ex33 => ?_)
          refine r_put X hw hS FP_X7_48 (KD_ship (by omega) (by omega)) (SH_ship (by omega) (by omega)) ⟨rfl, rfl⟩ d_X7_sail_74 (fun H locs hw hS => ?_)
          obtain ⟨v34, ev34⟩ : ∃ z, z = up2 v22 k 12 x33 := ⟨_, rfl⟩
          rw [← ev34] at hw
          have hI35 : Inv v34 := by rw [ev34]; exact Inv.put0 hI23 _ (RG_ship (by omega) (by omega))
          have hK36 : Kp v v34 := by rw [ev34]; exact Kp.put hK24 _ (PS_ship (by omega) (by omega) (by decide))
          exact r_vret X hr hlocks hw hS ⟨hI35, hK36⟩ d_X7_sail_77
      · have f37 := i_nle c16
        have r38 : Rg x15 1 2147483647 := by obtain ⟨a1, a2⟩ := (rg_any x15); obtain ⟨b1, b2⟩ := (⟨by decide, by decide⟩ : Rg 0 0 0); have f := i_nle c16; exact ⟨by omega, by omega⟩
        exact r_vret X hr hlocks hw hS ⟨hI13, hK14⟩ d_X7_sail_43
    · have f39 := i_eq c7
      have r40 : Rg x6 1 1 := by obtain ⟨a1, a2⟩ := (rg_any x6); obtain ⟨b1, b2⟩ := (⟨by decide, by decide⟩ : Rg 1 1 1); have f := i_eq c7; exact ⟨by omega, by omega⟩
      refine lv_iconst (v := 2) hx hb d_X7_sail_22 (by decide) ?_
      refine lv_iload_n hx hb d_X7_sail_23 rfl (lv_at hl 1 rfl) ?_
      refine lv_imul hx hb d_X7_sail_24 ?_
      refine lv_topi (fun x41 ex41 => ?_)
      refine lv_goto (tgt := 29) hx hb d_X7_sail_25 (by decide) ?_
      refine lv_isub hx hb d_X7_sail_29 ?_
      refine lv_topi (fun x42 ex42 => ?_)
      refine va_mmax hx hb (X.2.2.1.trans hl.1.symm) X.2.2.2.1 (X.2.2.2.2.1 _ ml_X7_51) (X.2.2.2.2.1 _ ml_maxs) (X.2.2.2.2.1 _ ml_mi) (X.2.2.2.2.1 _ ml_maxc) (Nat.le_of_ble_eq_true rfl) (Nat.le_of_ble_eq_true rfl) (Nat.zero_le _) (Nat.zero_le _) d_X7_sail_30 ?_
      refine lv_topi (fun x43 ex43 => ?_)
      have r44 : Rg x43 0 2147483647 := by obtain ⟨a1, a2⟩ := (⟨by decide, by decide⟩ : Rg 0 0 0); obtain ⟨b1, b2⟩ := (rg_any x42); rw [ex43]; split <;> rename_i q <;> first | (have := i_lt q; exact ⟨by omega, by omega⟩) | (have := i_nlt q; exact ⟨by omega, by omega⟩)
      refine r_put X hw hS FP_X7_27 (KD_ship (by omega) (by omega)) (SH_ship (by omega) (by omega)) ⟨rfl, rfl⟩ d_X7_sail_33 (fun H locs hw hS => ?_)
      obtain ⟨v45, ev45⟩ : ∃ z, z = up2 v k 5 x43 := ⟨_, rfl⟩
      rw [← ev45] at hw
      have hI46 : Inv v45 := by rw [ev45]; exact Inv.put0 hI _ (RG_ship (by omega) (by omega))
      have hK47 : Kp v v45 := by rw [ev45]; exact Kp.put hK0 _ (PS_ship (by omega) (by omega) (by decide))
      refine lv_aload_n hx hb d_X7_sail_36 rfl (lv_at hl 0 rfl) ?_
      refine r_geti X hw FL_X7_27 (KD_ship (by omega) (by omega)) (SH_ship (by omega) (by omega)) d_X7_sail_37 ?_
      refine lv_topi (fun x48 ex48 => ?_)
      refine lv_if_le (tgt := 44) hx hb d_X7_sail_40 (by decide) (fun c49 => ?_) (fun c49 => ?_)
      · have f50 := i_le c49
        have r51 : Rg x48 (-2147483648) 0 := by obtain ⟨a1, a2⟩ := (rg_any x48); obtain ⟨b1, b2⟩ := (⟨by decide, by decide⟩ : Rg 0 0 0); have f := i_le c49; exact ⟨by omega, by omega⟩
        refine lv_aload_n hx hb d_X7_sail_44 rfl (lv_at hl 0 rfl) ?_
        refine lv_iconst (v := 1) hx hb d_X7_sail_45 (by decide) ?_
        refine r_put X hw hS FP_X7_33 (KD_ship (by omega) (by omega)) (SH_ship (by omega) (by omega)) ⟨rfl, rfl⟩ d_X7_sail_46 (fun H locs hw hS => ?_)
        obtain ⟨v52, ev52⟩ : ∃ z, z = up2 v45 k 7 1 := ⟨_, rfl⟩
        rw [← ev52] at hw
        have hI53 : Inv v52 := by rw [ev52]; exact Inv.put0 hI46 _ (RG_ship (by omega) (by omega))
        have hK54 : Kp v v52 := by rw [ev52]; exact Kp.put hK47 _ (PS_ship (by omega) (by omega) (by decide))
        refine lv_aload_n hx hb d_X7_sail_49 rfl (lv_at hl 0 rfl) ?_
        refine lv_iload_n hx hb d_X7_sail_50 rfl (lv_at hl 2 rfl) ?_
        refine r_put X hw hS FP_X7_36 (KD_ship (by omega) (by omega)) (SH_ship (by omega) (by omega)) ⟨rfl, rfl⟩ d_X7_sail_51 (fun H locs hw hS => ?_)
        obtain ⟨v55, ev55⟩ : ∃ z, z = up2 v52 k 8 today := ⟨_, rfl⟩
        rw [← ev55] at hw
        have hI56 : Inv v55 := by rw [ev55]; exact Inv.put0 hI53 _ (RG_ship (by omega) (by omega))
        have hK57 : Kp v v55 := by rw [ev55]; exact Kp.put hK54 _ (PS_ship (by omega) (by omega) (by decide))
        refine lv_aload_n hx hb d_X7_sail_54 rfl (lv_at hl 0 rfl) ?_
        refine r_geti X hw FL_X7_9 (KD_ship (by omega) (by omega)) (SH_ship (by omega) (by omega)) d_X7_sail_55 ?_
        refine lv_topi (fun x58 ex58 => ?_)
        refine lv_iconst (v := 3) hx hb d_X7_sail_58 (by decide) ?_
        refine lv_icmp_ne (tgt := 77) hx hb d_X7_sail_59 (by decide) (fun c59 => ?_) (fun c59 => ?_)
        · have f60 := i_ne c59
          exact r_vret X hr hlocks hw hS ⟨hI56, hK57⟩ d_X7_sail_77
        · have f61 := i_eq c59
          have r62 : Rg x58 3 3 := by obtain ⟨a1, a2⟩ := (rg_any x58); obtain ⟨b1, b2⟩ := (⟨by decide, by decide⟩ : Rg 3 3 3); have f := i_eq c59; exact ⟨by omega, by omega⟩
          refine lv_aload_n hx hb d_X7_sail_62 rfl (lv_at hl 0 rfl) ?_
          refine lv_dup hx hb d_X7_sail_63 rfl ?_
          refine r_geti X hw FL_X7_48 (KD_ship (by omega) (by omega)) (SH_ship (by omega) (by omega)) d_X7_sail_64 ?_
          refine lv_topi (fun x63 ex63 => ?_)
          refine lv_iconst (v := 3) hx hb d_X7_sail_67 (by decide) ?_
          refine lv_aload_n hx hb d_X7_sail_68 rfl (lv_at hl 0 rfl) ?_
          refine r_geti X hw FL_X7_18 (KD_ship (by omega) (by omega)) (SH_ship (by omega) (by omega)) d_X7_sail_69 ?_
          refine lv_topi (fun x64 ex64 => ?_)
          refine lv_imul hx hb d_X7_sail_72 ?_
          refine lv_topi (fun x65 ex65 => ?_)
          refine lv_iadd hx hb d_X7_sail_73 ?_
          refine lv_topi (fun x66 ex66 => ?_)
          refine r_put X hw hS FP_X7_48 (KD_ship (by omega) (by omega)) (SH_ship (by omega) (by omega)) ⟨rfl, rfl⟩ d_X7_sail_74 (fun H locs hw hS => ?_)
          obtain ⟨v67, ev67⟩ : ∃ z, z = up2 v55 k 12 x66 := ⟨_, rfl⟩
          rw [← ev67] at hw
          have hI68 : Inv v67 := by rw [ev67]; exact Inv.put0 hI56 _ (RG_ship (by omega) (by omega))
          have hK69 : Kp v v67 := by rw [ev67]; exact Kp.put hK57 _ (PS_ship (by omega) (by omega) (by decide))
          exact r_vret X hr hlocks hw hS ⟨hI68, hK69⟩ d_X7_sail_77
      · have f70 := i_nle c49
        have r71 : Rg x48 1 2147483647 := by obtain ⟨a1, a2⟩ := (rg_any x48); obtain ⟨b1, b2⟩ := (⟨by decide, by decide⟩ : Rg 0 0 0); have f := i_nle c49; exact ⟨by omega, by omega⟩
        exact r_vret X hr hlocks hw hS ⟨hI46, hK47⟩ d_X7_sail_43
  · have f72 := i_ne c2
    exact r_vret X hr hlocks hw hS ⟨hI, hK0⟩ d_X7_sail_7
theorem d_X7_duesFor_0 : decode c_X7_duesFor 0 = .ok (.aload_n 0, 1) := by decide +kernel
theorem d_X7_duesFor_1 : decode c_X7_duesFor 1 = .ok (.getfield 9, 3) := by decide +kernel
theorem d_X7_duesFor_4 : decode c_X7_duesFor 4 = .ok (.iconst 2, 1) := by decide +kernel
theorem d_X7_duesFor_5 : decode c_X7_duesFor 5 = .ok (.if_icmp .ne 7, 3) := by decide +kernel
theorem d_X7_duesFor_8 : decode c_X7_duesFor 8 = .ok (.iload_n 1, 1) := by decide +kernel
theorem d_X7_duesFor_9 : decode c_X7_duesFor 9 = .ok (.goto 6, 3) := by decide +kernel
theorem d_X7_duesFor_12 : decode c_X7_duesFor 12 = .ok (.iconst 2, 1) := by decide +kernel
theorem d_X7_duesFor_13 : decode c_X7_duesFor 13 = .ok (.iload_n 1, 1) := by decide +kernel
theorem d_X7_duesFor_14 : decode c_X7_duesFor 14 = .ok (.imul, 1) := by decide +kernel
theorem d_X7_duesFor_15 : decode c_X7_duesFor 15 = .ok (.ireturn, 1) := by decide +kernel
set_option maxHeartbeats 4000000 in
set_option maxRecDepth 100000 in
theorem ct_X7_duesFor (l : Launch) (D : va_G) (dA : Nat → ClassId) (ad : Nat → Nat) (v : tV) (hI : Inv v) (k : Nat) (ms : Int32) (ka : 100 ≤ k) (kb : k < 160) : Met l m_X7_duesFor [.code m_X7_duesFor c_X7_duesFor 2 (some .int)] ({ frames := 1, cells := 0, slots := 0, locals := 40 } : Room) (tP D dA ad v [.ref (ad k), .int ms]) (tQi D dA ad (fun r v' => v' = v)) 0 0 (tA ad) := by
  refine tMet (by decide) (Nat.le_of_ble_eq_true rfl) ?_
  intro p e s m below meth c ls X hr hlocks hw hl
  have X : CX p s m ([.ref (ad k), .int ms] : List Value).toArray c c_X7_duesFor N_X7 2 D dA := X
  have hx := X.1
  have hb := X.2.1
  have hS : va_S (tA ad) s.heap s.heap [] := va_S.rf
  have hl : lv_has ls 2 [(0, .ref (ad k)), (1, .int ms)] := hl
  refine lv_aload_n hx hb d_X7_duesFor_0 rfl (lv_at hl 0 rfl) ?_
  refine r_geti X hw FL_X7_9 (KD_ship (by omega) (by omega)) (SH_ship (by omega) (by omega)) d_X7_duesFor_1 ?_
  refine lv_topi (fun x1 ex1 => ?_)
  refine lv_iconst (v := 2) hx hb d_X7_duesFor_4 (by decide) ?_
  refine lv_icmp_ne (tgt := 12) hx hb d_X7_duesFor_5 (by decide) (fun c2 => ?_) (fun c2 => ?_)
  · have f3 := i_ne c2
    refine lv_iconst (v := 2) hx hb d_X7_duesFor_12 (by decide) ?_
    refine lv_iload_n hx hb d_X7_duesFor_13 rfl (lv_at hl 1 rfl) ?_
    refine lv_imul hx hb d_X7_duesFor_14 ?_
    refine lv_topi (fun x4 ex4 => ?_)
    exact r_iret X hr hlocks hw hS rfl d_X7_duesFor_15
  · have f5 := i_eq c2
    have r6 : Rg x1 2 2 := by obtain ⟨a1, a2⟩ := (rg_any x1); obtain ⟨b1, b2⟩ := (⟨by decide, by decide⟩ : Rg 2 2 2); have f := i_eq c2; exact ⟨by omega, by omega⟩
    refine lv_iload_n hx hb d_X7_duesFor_8 rfl (lv_at hl 1 rfl) ?_
    refine lv_goto (tgt := 15) hx hb d_X7_duesFor_9 (by decide) ?_
    exact r_iret X hr hlocks hw hS rfl d_X7_duesFor_15
theorem d_X7_founder_0 : decode c_X7_founder 0 = .ok (.aload_n 0, 1) := by decide +kernel
theorem d_X7_founder_1 : decode c_X7_founder 1 = .ok (.iload_n 1, 1) := by decide +kernel
theorem d_X7_founder_2 : decode c_X7_founder 2 = .ok (.invokevirtual 57, 3) := by decide +kernel
theorem d_X7_founder_5 : decode c_X7_founder 5 = .ok (.istore_n 2, 1) := by decide +kernel
theorem d_X7_founder_6 : decode c_X7_founder 6 = .ok (.aload_n 0, 1) := by decide +kernel
theorem d_X7_founder_7 : decode c_X7_founder 7 = .ok (.dup, 1) := by decide +kernel
theorem d_X7_founder_8 : decode c_X7_founder 8 = .ok (.getfield 30, 3) := by decide +kernel
theorem d_X7_founder_11 : decode c_X7_founder 11 = .ok (.iload_n 1, 1) := by decide +kernel
theorem d_X7_founder_12 : decode c_X7_founder 12 = .ok (.isub, 1) := by decide +kernel
theorem d_X7_founder_13 : decode c_X7_founder 13 = .ok (.putfield 30, 3) := by decide +kernel
theorem d_X7_founder_16 : decode c_X7_founder 16 = .ok (.aload_n 0, 1) := by decide +kernel
theorem d_X7_founder_17 : decode c_X7_founder 17 = .ok (.dup, 1) := by decide +kernel
theorem d_X7_founder_18 : decode c_X7_founder 18 = .ok (.getfield 48, 3) := by decide +kernel
theorem d_X7_founder_21 : decode c_X7_founder 21 = .ok (.iload_n 2, 1) := by decide +kernel
theorem d_X7_founder_22 : decode c_X7_founder 22 = .ok (.iadd, 1) := by decide +kernel
theorem d_X7_founder_23 : decode c_X7_founder 23 = .ok (.putfield 48, 3) := by decide +kernel
theorem d_X7_founder_26 : decode c_X7_founder 26 = .ok (.aload_n 0, 1) := by decide +kernel
theorem d_X7_founder_27 : decode c_X7_founder 27 = .ok (.iconst 5, 1) := by decide +kernel
theorem d_X7_founder_28 : decode c_X7_founder 28 = .ok (.putfield 33, 3) := by decide +kernel
theorem d_X7_founder_31 : decode c_X7_founder 31 = .ok (.iload_n 2, 1) := by decide +kernel
theorem d_X7_founder_32 : decode c_X7_founder 32 = .ok (.ireturn, 1) := by decide +kernel
set_option maxHeartbeats 4000000 in
set_option maxRecDepth 100000 in
theorem ct_X7_founder (l : Launch) (D : va_G) (dA : Nat → ClassId) (ad : Nat → Nat) (v : tV) (hI : Inv v) (k : Nat) (saved : Int32) (ka : 100 ≤ k) (kb : k < 160) : Met l m_X7_founder [.code m_X7_founder c_X7_founder 3 (some .int)] ({ frames := 2, cells := 0, slots := 0, locals := 61 } : Room) (tP D dA ad v [.ref (ad k), .int saved]) (tQi D dA ad (fun r v' => Inv v' ∧ Kp v v')) 0 0 (tA ad) := by
  refine tMet (by decide) (Nat.le_of_ble_eq_true rfl) ?_
  intro p e s m below meth c ls X hr hlocks hw hl
  have X : CX p s m ([.ref (ad k), .int saved] : List Value).toArray c c_X7_founder N_X7 3 D dA := X
  have hx := X.1
  have hb := X.2.1
  have hS : va_S (tA ad) s.heap s.heap [] := va_S.rf
  have hl : lv_has ls 3 [(0, .ref (ad k)), (1, .int saved)] := hl
  have hK0 : Kp v v := Kp.rf v
  refine lv_aload_n hx hb d_X7_founder_0 rfl (lv_at hl 0 rfl) ?_
  refine lv_iload_n hx hb d_X7_founder_1 rfl (lv_at hl 1 rfl) ?_
  refine r_ci (r_runV (n := 1) (As := [.int saved]) (rest := []) X hw (ct_X7_duesFor l D dA ad v hI k saved (by omega) (by omega)) gc_X7_57 (KD_ship (by omega) (by omega)) (by decide) rfl (by decide +kernel) ⟨rfl, rfl, Nat.le_of_ble_eq_true rfl, Nat.le_of_ble_eq_true rfl⟩ rfl hl.1 rfl (Nat.le_of_ble_eq_true rfl) ⟨Nat.zero_le _, Nat.zero_le _⟩ d_X7_founder_2) hS (fun x2 v3 H locs hp1 hw hS => ?_)
  rw [hp1] at hw
  refine lv_istore_n (lv' := [(2, .int x2), (0, .ref (ad k)), (1, .int saved)]) hx hb d_X7_founder_5 rfl hl (by decide) rfl (fun ls hl => ?_)
  refine lv_aload_n hx hb d_X7_founder_6 rfl (lv_at hl 1 rfl) ?_
  refine lv_dup hx hb d_X7_founder_7 rfl ?_
  refine r_geti X hw FL_X7_30 (KD_ship (by omega) (by omega)) (SH_ship (by omega) (by omega)) d_X7_founder_8 ?_
  refine lv_topi (fun x4 ex4 => ?_)
  refine lv_iload_n hx hb d_X7_founder_11 rfl (lv_at hl 2 rfl) ?_
  refine lv_isub hx hb d_X7_founder_12 ?_
  refine lv_topi (fun x5 ex5 => ?_)
  refine r_put X hw hS FP_X7_30 (KD_ship (by omega) (by omega)) (SH_ship (by omega) (by omega)) ⟨rfl, rfl⟩ d_X7_founder_13 (fun H locs hw hS => ?_)
  obtain ⟨v6, ev6⟩ : ∃ z, z = up2 v k 6 x5 := ⟨_, rfl⟩
  rw [← ev6] at hw
  have hI7 : Inv v6 := by rw [ev6]; exact Inv.put0 hI _ (RG_ship (by omega) (by omega))
  have hK8 : Kp v v6 := by rw [ev6]; exact Kp.put hK0 _ (PS_ship (by omega) (by omega) (by decide))
  refine lv_aload_n hx hb d_X7_founder_16 rfl (lv_at hl 1 rfl) ?_
  refine lv_dup hx hb d_X7_founder_17 rfl ?_
  refine r_geti X hw FL_X7_48 (KD_ship (by omega) (by omega)) (SH_ship (by omega) (by omega)) d_X7_founder_18 ?_
  refine lv_topi (fun x9 ex9 => ?_)
  refine lv_iload_n hx hb d_X7_founder_21 rfl (lv_at hl 0 rfl) ?_
  refine lv_iadd hx hb d_X7_founder_22 ?_
  refine lv_topi (fun x10 ex10 => ?_)
  refine r_put X hw hS FP_X7_48 (KD_ship (by omega) (by omega)) (SH_ship (by omega) (by omega)) ⟨rfl, rfl⟩ d_X7_founder_23 (fun H locs hw hS => ?_)
  obtain ⟨v11, ev11⟩ : ∃ z, z = up2 v6 k 12 x10 := ⟨_, rfl⟩
  rw [← ev11] at hw
  have hI12 : Inv v11 := by rw [ev11]; exact Inv.put0 hI7 _ (RG_ship (by omega) (by omega))
  have hK13 : Kp v v11 := by rw [ev11]; exact Kp.put hK8 _ (PS_ship (by omega) (by omega) (by decide))
  refine lv_aload_n hx hb d_X7_founder_26 rfl (lv_at hl 1 rfl) ?_
  refine lv_iconst (v := 5) hx hb d_X7_founder_27 (by decide) ?_
  refine r_put X hw hS FP_X7_33 (KD_ship (by omega) (by omega)) (SH_ship (by omega) (by omega)) ⟨rfl, rfl⟩ d_X7_founder_28 (fun H locs hw hS => ?_)
  obtain ⟨v14, ev14⟩ : ∃ z, z = up2 v11 k 7 5 := ⟨_, rfl⟩
  rw [← ev14] at hw
  have hI15 : Inv v14 := by rw [ev14]; exact Inv.put0 hI12 _ (RG_ship (by omega) (by omega))
  have hK16 : Kp v v14 := by rw [ev14]; exact Kp.put hK13 _ (PS_ship (by omega) (by omega) (by decide))
  refine lv_iload_n hx hb d_X7_founder_31 rfl (lv_at hl 0 rfl) ?_
  exact r_iret X hr hlocks hw hS ⟨hI15, hK16⟩ d_X7_founder_32
theorem d_X7_leave_0 : decode c_X7_leave 0 = .ok (.iconst 2, 1) := by decide +kernel
theorem d_X7_leave_1 : decode c_X7_leave 1 = .ok (.aload_n 0, 1) := by decide +kernel
theorem d_X7_leave_2 : decode c_X7_leave 2 = .ok (.getfield 18, 3) := by decide +kernel
theorem d_X7_leave_5 : decode c_X7_leave 5 = .ok (.imul, 1) := by decide +kernel
theorem d_X7_leave_6 : decode c_X7_leave 6 = .ok (.istore_n 1, 1) := by decide +kernel
theorem d_X7_leave_7 : decode c_X7_leave 7 = .ok (.aload_n 0, 1) := by decide +kernel
theorem d_X7_leave_8 : decode c_X7_leave 8 = .ok (.dup, 1) := by decide +kernel
theorem d_X7_leave_9 : decode c_X7_leave 9 = .ok (.getfield 48, 3) := by decide +kernel
theorem d_X7_leave_12 : decode c_X7_leave 12 = .ok (.iload_n 1, 1) := by decide +kernel
theorem d_X7_leave_13 : decode c_X7_leave 13 = .ok (.isub, 1) := by decide +kernel
theorem d_X7_leave_14 : decode c_X7_leave 14 = .ok (.putfield 48, 3) := by decide +kernel
theorem d_X7_leave_17 : decode c_X7_leave 17 = .ok (.aload_n 0, 1) := by decide +kernel
theorem d_X7_leave_18 : decode c_X7_leave 18 = .ok (.iconst 4, 1) := by decide +kernel
theorem d_X7_leave_19 : decode c_X7_leave 19 = .ok (.putfield 33, 3) := by decide +kernel
theorem d_X7_leave_22 : decode c_X7_leave 22 = .ok (.iload_n 1, 1) := by decide +kernel
theorem d_X7_leave_23 : decode c_X7_leave 23 = .ok (.ireturn, 1) := by decide +kernel
set_option maxHeartbeats 4000000 in
set_option maxRecDepth 100000 in
theorem ct_X7_leave (l : Launch) (D : va_G) (dA : Nat → ClassId) (ad : Nat → Nat) (v : tV) (hI : Inv v) (k : Nat) (ka : 100 ≤ k) (kb : k < 160) : Met l m_X7_leave [.code m_X7_leave c_X7_leave 2 (some .int)] ({ frames := 1, cells := 0, slots := 0, locals := 40 } : Room) (tP D dA ad v [.ref (ad k)]) (tQi D dA ad (fun r v' => Inv v' ∧ Kp v v')) 0 0 (tA ad) := by
  refine tMet (by decide) (Nat.le_of_ble_eq_true rfl) ?_
  intro p e s m below meth c ls X hr hlocks hw hl
  have X : CX p s m ([.ref (ad k)] : List Value).toArray c c_X7_leave N_X7 2 D dA := X
  have hx := X.1
  have hb := X.2.1
  have hS : va_S (tA ad) s.heap s.heap [] := va_S.rf
  have hl : lv_has ls 2 [(0, .ref (ad k))] := hl
  have hK0 : Kp v v := Kp.rf v
  refine lv_iconst (v := 2) hx hb d_X7_leave_0 (by decide) ?_
  refine lv_aload_n hx hb d_X7_leave_1 rfl (lv_at hl 0 rfl) ?_
  refine r_geti X hw FL_X7_18 (KD_ship (by omega) (by omega)) (SH_ship (by omega) (by omega)) d_X7_leave_2 ?_
  refine lv_topi (fun x1 ex1 => ?_)
  refine lv_imul hx hb d_X7_leave_5 ?_
  refine lv_topi (fun x2 ex2 => ?_)
  refine lv_istore_n (lv' := [(1, .int x2), (0, .ref (ad k))]) hx hb d_X7_leave_6 rfl hl (by decide) rfl (fun ls hl => ?_)
  refine lv_aload_n hx hb d_X7_leave_7 rfl (lv_at hl 1 rfl) ?_
  refine lv_dup hx hb d_X7_leave_8 rfl ?_
  refine r_geti X hw FL_X7_48 (KD_ship (by omega) (by omega)) (SH_ship (by omega) (by omega)) d_X7_leave_9 ?_
  refine lv_topi (fun x3 ex3 => ?_)
  refine lv_iload_n hx hb d_X7_leave_12 rfl (lv_at hl 0 rfl) ?_
  refine lv_isub hx hb d_X7_leave_13 ?_
  refine lv_topi (fun x4 ex4 => ?_)
  refine r_put X hw hS FP_X7_48 (KD_ship (by omega) (by omega)) (SH_ship (by omega) (by omega)) ⟨rfl, rfl⟩ d_X7_leave_14 (fun H locs hw hS => ?_)
  obtain ⟨v5, ev5⟩ : ∃ z, z = up2 v k 12 x4 := ⟨_, rfl⟩
  rw [← ev5] at hw
  have hI6 : Inv v5 := by rw [ev5]; exact Inv.put0 hI _ (RG_ship (by omega) (by omega))
  have hK7 : Kp v v5 := by rw [ev5]; exact Kp.put hK0 _ (PS_ship (by omega) (by omega) (by decide))
  refine lv_aload_n hx hb d_X7_leave_17 rfl (lv_at hl 1 rfl) ?_
  refine lv_iconst (v := 4) hx hb d_X7_leave_18 (by decide) ?_
  refine r_put X hw hS FP_X7_33 (KD_ship (by omega) (by omega)) (SH_ship (by omega) (by omega)) ⟨rfl, rfl⟩ d_X7_leave_19 (fun H locs hw hS => ?_)
  obtain ⟨v8, ev8⟩ : ∃ z, z = up2 v5 k 7 4 := ⟨_, rfl⟩
  rw [← ev8] at hw
  have hI9 : Inv v8 := by rw [ev8]; exact Inv.put0 hI6 _ (RG_ship (by omega) (by omega))
  have hK10 : Kp v v8 := by rw [ev8]; exact Kp.put hK7 _ (PS_ship (by omega) (by omega) (by decide))
  refine lv_iload_n hx hb d_X7_leave_22 rfl (lv_at hl 0 rfl) ?_
  exact r_iret X hr hlocks hw hS ⟨hI9, hK10⟩ d_X7_leave_23
theorem d_X7_deliver_0 : decode c_X7_deliver 0 = .ok (.aload_n 0, 1) := by decide +kernel
theorem d_X7_deliver_1 : decode c_X7_deliver 1 = .ok (.dup, 1) := by decide +kernel
theorem d_X7_deliver_2 : decode c_X7_deliver 2 = .ok (.getfield 30, 3) := by decide +kernel
theorem d_X7_deliver_5 : decode c_X7_deliver 5 = .ok (.iload_n 1, 1) := by decide +kernel
theorem d_X7_deliver_6 : decode c_X7_deliver 6 = .ok (.isub, 1) := by decide +kernel
theorem d_X7_deliver_7 : decode c_X7_deliver 7 = .ok (.putfield 30, 3) := by decide +kernel
theorem d_X7_deliver_10 : decode c_X7_deliver 10 = .ok (.aload_n 0, 1) := by decide +kernel
theorem d_X7_deliver_11 : decode c_X7_deliver 11 = .ok (.dup, 1) := by decide +kernel
theorem d_X7_deliver_12 : decode c_X7_deliver 12 = .ok (.getfield 42, 3) := by decide +kernel
theorem d_X7_deliver_15 : decode c_X7_deliver 15 = .ok (.iload_n 1, 1) := by decide +kernel
theorem d_X7_deliver_16 : decode c_X7_deliver 16 = .ok (.iadd, 1) := by decide +kernel
theorem d_X7_deliver_17 : decode c_X7_deliver 17 = .ok (.putfield 42, 3) := by decide +kernel
theorem d_X7_deliver_20 : decode c_X7_deliver 20 = .ok (.aload_n 0, 1) := by decide +kernel
theorem d_X7_deliver_21 : decode c_X7_deliver 21 = .ok (.dup, 1) := by decide +kernel
theorem d_X7_deliver_22 : decode c_X7_deliver 22 = .ok (.getfield 45, 3) := by decide +kernel
theorem d_X7_deliver_25 : decode c_X7_deliver 25 = .ok (.iload_n 1, 1) := by decide +kernel
theorem d_X7_deliver_26 : decode c_X7_deliver 26 = .ok (.iload_n 2, 1) := by decide +kernel
theorem d_X7_deliver_27 : decode c_X7_deliver 27 = .ok (.imul, 1) := by decide +kernel
theorem d_X7_deliver_28 : decode c_X7_deliver 28 = .ok (.iadd, 1) := by decide +kernel
theorem d_X7_deliver_29 : decode c_X7_deliver 29 = .ok (.putfield 45, 3) := by decide +kernel
theorem d_X7_deliver_32 : decode c_X7_deliver 32 = .ok (.aload_n 0, 1) := by decide +kernel
theorem d_X7_deliver_33 : decode c_X7_deliver 33 = .ok (.dup, 1) := by decide +kernel
theorem d_X7_deliver_34 : decode c_X7_deliver 34 = .ok (.getfield 48, 3) := by decide +kernel
theorem d_X7_deliver_37 : decode c_X7_deliver 37 = .ok (.aload_n 0, 1) := by decide +kernel
theorem d_X7_deliver_38 : decode c_X7_deliver 38 = .ok (.iload_n 1, 1) := by decide +kernel
theorem d_X7_deliver_39 : decode c_X7_deliver 39 = .ok (.invokevirtual 57, 3) := by decide +kernel
theorem d_X7_deliver_42 : decode c_X7_deliver 42 = .ok (.iadd, 1) := by decide +kernel
theorem d_X7_deliver_43 : decode c_X7_deliver 43 = .ok (.putfield 48, 3) := by decide +kernel
theorem d_X7_deliver_46 : decode c_X7_deliver 46 = .ok (.aload_n 0, 1) := by decide +kernel
theorem d_X7_deliver_47 : decode c_X7_deliver 47 = .ok (.getfield 30, 3) := by decide +kernel
theorem d_X7_deliver_50 : decode c_X7_deliver 50 = .ok (.ifCond .ne 8, 3) := by decide +kernel
theorem d_X7_deliver_53 : decode c_X7_deliver 53 = .ok (.aload_n 0, 1) := by decide +kernel
theorem d_X7_deliver_54 : decode c_X7_deliver 54 = .ok (.iconst 3, 1) := by decide +kernel
theorem d_X7_deliver_55 : decode c_X7_deliver 55 = .ok (.putfield 33, 3) := by decide +kernel
theorem d_X7_deliver_58 : decode c_X7_deliver 58 = .ok (.return_, 1) := by decide +kernel
set_option maxHeartbeats 4000000 in
set_option maxRecDepth 100000 in
theorem ct_X7_deliver (l : Launch) (D : va_G) (dA : Nat → ClassId) (ad : Nat → Nat) (v : tV) (hI : Inv v) (k : Nat) (ms : Int32) (price : Int32) (ka : 100 ≤ k) (kb : k < 160) : Met l m_X7_deliver [.code m_X7_deliver c_X7_deliver 3 none] ({ frames := 2, cells := 0, slots := 0, locals := 61 } : Room) (tP D dA ad v [.ref (ad k), .int ms, .int price]) (tQv D dA ad (fun v' => Inv v' ∧ Kp v v')) 0 0 (tA ad) := by
  refine tMet (by decide) (Nat.le_of_ble_eq_true rfl) ?_
  intro p e s m below meth c ls X hr hlocks hw hl
  have X : CX p s m ([.ref (ad k), .int ms, .int price] : List Value).toArray c c_X7_deliver N_X7 3 D dA := X
  have hx := X.1
  have hb := X.2.1
  have hS : va_S (tA ad) s.heap s.heap [] := va_S.rf
  have hl : lv_has ls 3 [(0, .ref (ad k)), (1, .int ms), (2, .int price)] := hl
  have hK0 : Kp v v := Kp.rf v
  refine lv_aload_n hx hb d_X7_deliver_0 rfl (lv_at hl 0 rfl) ?_
  refine lv_dup hx hb d_X7_deliver_1 rfl ?_
  refine r_geti X hw FL_X7_30 (KD_ship (by omega) (by omega)) (SH_ship (by omega) (by omega)) d_X7_deliver_2 ?_
  refine lv_topi (fun x1 ex1 => ?_)
  refine lv_iload_n hx hb d_X7_deliver_5 rfl (lv_at hl 1 rfl) ?_
  refine lv_isub hx hb d_X7_deliver_6 ?_
  refine lv_topi (fun x2 ex2 => ?_)
  refine r_put X hw hS FP_X7_30 (KD_ship (by omega) (by omega)) (SH_ship (by omega) (by omega)) ⟨rfl, rfl⟩ d_X7_deliver_7 (fun H locs hw hS => ?_)
  obtain ⟨v3, ev3⟩ : ∃ z, z = up2 v k 6 x2 := ⟨_, rfl⟩
  rw [← ev3] at hw
  have hI4 : Inv v3 := by rw [ev3]; exact Inv.put0 hI _ (RG_ship (by omega) (by omega))
  have hK5 : Kp v v3 := by rw [ev3]; exact Kp.put hK0 _ (PS_ship (by omega) (by omega) (by decide))
  refine lv_aload_n hx hb d_X7_deliver_10 rfl (lv_at hl 0 rfl) ?_
  refine lv_dup hx hb d_X7_deliver_11 rfl ?_
  refine r_geti X hw FL_X7_42 (KD_ship (by omega) (by omega)) (SH_ship (by omega) (by omega)) d_X7_deliver_12 ?_
  refine lv_topi (fun x6 ex6 => ?_)
  refine lv_iload_n hx hb d_X7_deliver_15 rfl (lv_at hl 1 rfl) ?_
  refine lv_iadd hx hb d_X7_deliver_16 ?_
  refine lv_topi (fun x7 ex7 => ?_)
  refine r_put X hw hS FP_X7_42 (KD_ship (by omega) (by omega)) (SH_ship (by omega) (by omega)) ⟨rfl, rfl⟩ d_X7_deliver_17 (fun H locs hw hS => ?_)
  obtain ⟨v8, ev8⟩ : ∃ z, z = up2 v3 k 10 x7 := ⟨_, rfl⟩
  rw [← ev8] at hw
  have hI9 : Inv v8 := by rw [ev8]; exact Inv.put0 hI4 _ (RG_ship (by omega) (by omega))
  have hK10 : Kp v v8 := by rw [ev8]; exact Kp.put hK5 _ (PS_ship (by omega) (by omega) (by decide))
  refine lv_aload_n hx hb d_X7_deliver_20 rfl (lv_at hl 0 rfl) ?_
  refine lv_dup hx hb d_X7_deliver_21 rfl ?_
  refine r_geti X hw FL_X7_45 (KD_ship (by omega) (by omega)) (SH_ship (by omega) (by omega)) d_X7_deliver_22 ?_
  refine lv_topi (fun x11 ex11 => ?_)
  refine lv_iload_n hx hb d_X7_deliver_25 rfl (lv_at hl 1 rfl) ?_
  refine lv_iload_n hx hb d_X7_deliver_26 rfl (lv_at hl 2 rfl) ?_
  refine lv_imul hx hb d_X7_deliver_27 ?_
  refine lv_topi (fun x12 ex12 => ?_)
  refine lv_iadd hx hb d_X7_deliver_28 ?_
  refine lv_topi (fun x13 ex13 => ?_)
  refine r_put X hw hS FP_X7_45 (KD_ship (by omega) (by omega)) (SH_ship (by omega) (by omega)) ⟨rfl, rfl⟩ d_X7_deliver_29 (fun H locs hw hS => ?_)
  obtain ⟨v14, ev14⟩ : ∃ z, z = up2 v8 k 11 x13 := ⟨_, rfl⟩
  rw [← ev14] at hw
  have hI15 : Inv v14 := by rw [ev14]; exact Inv.put0 hI9 _ (RG_ship (by omega) (by omega))
  have hK16 : Kp v v14 := by rw [ev14]; exact Kp.put hK10 _ (PS_ship (by omega) (by omega) (by decide))
  refine lv_aload_n hx hb d_X7_deliver_32 rfl (lv_at hl 0 rfl) ?_
  refine lv_dup hx hb d_X7_deliver_33 rfl ?_
  refine r_geti X hw FL_X7_48 (KD_ship (by omega) (by omega)) (SH_ship (by omega) (by omega)) d_X7_deliver_34 ?_
  refine lv_topi (fun x17 ex17 => ?_)
  refine lv_aload_n hx hb d_X7_deliver_37 rfl (lv_at hl 0 rfl) ?_
  refine lv_iload_n hx hb d_X7_deliver_38 rfl (lv_at hl 1 rfl) ?_
  refine r_ci (r_runV (n := 1) (As := [.int ms]) (rest := [.int x17, .ref (ad k)]) X hw (ct_X7_duesFor l D dA ad v14 hI15 k ms (by omega) (by omega)) gc_X7_57 (KD_ship (by omega) (by omega)) (by decide) rfl (by decide +kernel) ⟨rfl, rfl, Nat.le_of_ble_eq_true rfl, Nat.le_of_ble_eq_true rfl⟩ rfl hl.1 rfl (Nat.le_of_ble_eq_true rfl) ⟨Nat.zero_le _, Nat.zero_le _⟩ d_X7_deliver_39) hS (fun x19 v20 H locs hp18 hw hS => ?_)
  rw [hp18] at hw
  refine lv_iadd hx hb d_X7_deliver_42 ?_
  refine lv_topi (fun x21 ex21 => ?_)
  refine r_put X hw hS FP_X7_48 (KD_ship (by omega) (by omega)) (SH_ship (by omega) (by omega)) ⟨rfl, rfl⟩ d_X7_deliver_43 (fun H locs hw hS => ?_)
  obtain ⟨v22, ev22⟩ : ∃ z, z = up2 v14 k 12 x21 := ⟨_, rfl⟩
  rw [← ev22] at hw
  have hI23 : Inv v22 := by rw [ev22]; exact Inv.put0 hI15 _ (RG_ship (by omega) (by omega))
  have hK24 : Kp v v22 := by rw [ev22]; exact Kp.put hK16 _ (PS_ship (by omega) (by omega) (by decide))
  refine lv_aload_n hx hb d_X7_deliver_46 rfl (lv_at hl 0 rfl) ?_
  refine r_geti X hw FL_X7_30 (KD_ship (by omega) (by omega)) (SH_ship (by omega) (by omega)) d_X7_deliver_47 ?_
  refine lv_topi (fun x25 ex25 => ?_)
  refine lv_if_ne (tgt := 58) hx hb d_X7_deliver_50 (by decide) (fun c26 => ?_) (fun c26 => ?_)
  · have f27 := i_ne c26
    exact r_vret X hr hlocks hw hS ⟨hI23, hK24⟩ d_X7_deliver_58
  · have f28 := i_eq c26
    have r29 : Rg x25 0 0 := by obtain ⟨a1, a2⟩ := (rg_any x25); obtain ⟨b1, b2⟩ := (⟨by decide, by decide⟩ : Rg 0 0 0); have f := i_eq c26; exact ⟨by omega, by omega⟩
    refine lv_aload_n hx hb d_X7_deliver_53 rfl (lv_at hl 0 rfl) ?_
    refine lv_iconst (v := 3) hx hb d_X7_deliver_54 (by decide) ?_
    refine r_put X hw hS FP_X7_33 (KD_ship (by omega) (by omega)) (SH_ship (by omega) (by omega)) ⟨rfl, rfl⟩ d_X7_deliver_55 (fun H locs hw hS => ?_)
    obtain ⟨v30, ev30⟩ : ∃ z, z = up2 v22 k 7 3 := ⟨_, rfl⟩
    rw [← ev30] at hw
    have hI31 : Inv v30 := by rw [ev30]; exact Inv.put0 hI23 _ (RG_ship (by omega) (by omega))
    have hK32 : Kp v v30 := by rw [ev30]; exact Kp.put hK24 _ (PS_ship (by omega) (by omega) (by decide))
    exact r_vret X hr hlocks hw hS ⟨hI31, hK32⟩ d_X7_deliver_58
theorem d_X7_miss_0 : decode c_X7_miss 0 = .ok (.aload_n 0, 1) := by decide +kernel
theorem d_X7_miss_1 : decode c_X7_miss 1 = .ok (.dup, 1) := by decide +kernel
theorem d_X7_miss_2 : decode c_X7_miss 2 = .ok (.getfield 39, 3) := by decide +kernel
theorem d_X7_miss_5 : decode c_X7_miss 5 = .ok (.iconst 1, 1) := by decide +kernel
theorem d_X7_miss_6 : decode c_X7_miss 6 = .ok (.iadd, 1) := by decide +kernel
theorem d_X7_miss_7 : decode c_X7_miss 7 = .ok (.putfield 39, 3) := by decide +kernel
theorem d_X7_miss_10 : decode c_X7_miss 10 = .ok (.aload_n 0, 1) := by decide +kernel
theorem d_X7_miss_11 : decode c_X7_miss 11 = .ok (.getfield 39, 3) := by decide +kernel
theorem d_X7_miss_14 : decode c_X7_miss 14 = .ok (.iconst 2, 1) := by decide +kernel
theorem d_X7_miss_15 : decode c_X7_miss 15 = .ok (.if_icmp .lt 16, 3) := by decide +kernel
theorem d_X7_miss_18 : decode c_X7_miss 18 = .ok (.aload_n 0, 1) := by decide +kernel
theorem d_X7_miss_19 : decode c_X7_miss 19 = .ok (.getfield 9, 3) := by decide +kernel
theorem d_X7_miss_22 : decode c_X7_miss 22 = .ok (.iconst 2, 1) := by decide +kernel
theorem d_X7_miss_23 : decode c_X7_miss 23 = .ok (.if_icmp .eq 8, 3) := by decide +kernel
theorem d_X7_miss_26 : decode c_X7_miss 26 = .ok (.aload_n 0, 1) := by decide +kernel
theorem d_X7_miss_27 : decode c_X7_miss 27 = .ok (.iconst 2, 1) := by decide +kernel
theorem d_X7_miss_28 : decode c_X7_miss 28 = .ok (.putfield 33, 3) := by decide +kernel
theorem d_X7_miss_31 : decode c_X7_miss 31 = .ok (.return_, 1) := by decide +kernel
set_option maxHeartbeats 4000000 in
set_option maxRecDepth 100000 in
theorem ct_X7_miss (l : Launch) (D : va_G) (dA : Nat → ClassId) (ad : Nat → Nat) (v : tV) (hI : Inv v) (k : Nat) (ka : 100 ≤ k) (kb : k < 160) : Met l m_X7_miss [.code m_X7_miss c_X7_miss 1 none] ({ frames := 1, cells := 0, slots := 0, locals := 40 } : Room) (tP D dA ad v [.ref (ad k)]) (tQv D dA ad (fun v' => Inv v' ∧ Kp v v')) 0 0 (tA ad) := by
  refine tMet (by decide) (Nat.le_of_ble_eq_true rfl) ?_
  intro p e s m below meth c ls X hr hlocks hw hl
  have X : CX p s m ([.ref (ad k)] : List Value).toArray c c_X7_miss N_X7 1 D dA := X
  have hx := X.1
  have hb := X.2.1
  have hS : va_S (tA ad) s.heap s.heap [] := va_S.rf
  have hl : lv_has ls 1 [(0, .ref (ad k))] := hl
  have hK0 : Kp v v := Kp.rf v
  refine lv_aload_n hx hb d_X7_miss_0 rfl (lv_at hl 0 rfl) ?_
  refine lv_dup hx hb d_X7_miss_1 rfl ?_
  refine r_geti X hw FL_X7_39 (KD_ship (by omega) (by omega)) (SH_ship (by omega) (by omega)) d_X7_miss_2 ?_
  refine lv_topi (fun x1 ex1 => ?_)
  refine lv_iconst (v := 1) hx hb d_X7_miss_5 (by decide) ?_
  refine lv_iadd hx hb d_X7_miss_6 ?_
  refine lv_topi (fun x2 ex2 => ?_)
  refine r_put X hw hS FP_X7_39 (KD_ship (by omega) (by omega)) (SH_ship (by omega) (by omega)) ⟨rfl, rfl⟩ d_X7_miss_7 (fun H locs hw hS => ?_)
  obtain ⟨v3, ev3⟩ : ∃ z, z = up2 v k 9 x2 := ⟨_, rfl⟩
  rw [← ev3] at hw
  have hI4 : Inv v3 := by rw [ev3]; exact Inv.put0 hI _ (RG_ship (by omega) (by omega))
  have hK5 : Kp v v3 := by rw [ev3]; exact Kp.put hK0 _ (PS_ship (by omega) (by omega) (by decide))
  refine lv_aload_n hx hb d_X7_miss_10 rfl (lv_at hl 0 rfl) ?_
  refine r_geti X hw FL_X7_39 (KD_ship (by omega) (by omega)) (SH_ship (by omega) (by omega)) d_X7_miss_11 ?_
  refine lv_topi (fun x6 ex6 => ?_)
  refine lv_iconst (v := 2) hx hb d_X7_miss_14 (by decide) ?_
  refine lv_icmp_lt (tgt := 31) hx hb d_X7_miss_15 (by decide) (fun c7 => ?_) (fun c7 => ?_)
  · have f8 := i_lt c7
    have r9 : Rg x6 (-2147483648) 1 := by obtain ⟨a1, a2⟩ := (rg_any x6); obtain ⟨b1, b2⟩ := (⟨by decide, by decide⟩ : Rg 2 2 2); have f := i_lt c7; exact ⟨by omega, by omega⟩
    exact r_vret X hr hlocks hw hS ⟨hI4, hK5⟩ d_X7_miss_31
  · have f10 := i_nlt c7
    have r11 : Rg x6 2 2147483647 := by obtain ⟨a1, a2⟩ := (rg_any x6); obtain ⟨b1, b2⟩ := (⟨by decide, by decide⟩ : Rg 2 2 2); have f := i_nlt c7; exact ⟨by omega, by omega⟩
    refine lv_aload_n hx hb d_X7_miss_18 rfl (lv_at hl 0 rfl) ?_
    refine r_geti X hw FL_X7_9 (KD_ship (by omega) (by omega)) (SH_ship (by omega) (by omega)) d_X7_miss_19 ?_
    refine lv_topi (fun x12 ex12 => ?_)
    refine lv_iconst (v := 2) hx hb d_X7_miss_22 (by decide) ?_
    refine lv_icmp_eq (tgt := 31) hx hb d_X7_miss_23 (by decide) (fun c13 => ?_) (fun c13 => ?_)
    · have f14 := i_eq c13
      have r15 : Rg x12 2 2 := by obtain ⟨a1, a2⟩ := (rg_any x12); obtain ⟨b1, b2⟩ := (⟨by decide, by decide⟩ : Rg 2 2 2); have f := i_eq c13; exact ⟨by omega, by omega⟩
      exact r_vret X hr hlocks hw hS ⟨hI4, hK5⟩ d_X7_miss_31
    · have f16 := i_ne c13
      refine lv_aload_n hx hb d_X7_miss_26 rfl (lv_at hl 0 rfl) ?_
      refine lv_iconst (v := 2) hx hb d_X7_miss_27 (by decide) ?_
      refine r_put X hw hS FP_X7_33 (KD_ship (by omega) (by omega)) (SH_ship (by omega) (by omega)) ⟨rfl, rfl⟩ d_X7_miss_28 (fun H locs hw hS => ?_)
      obtain ⟨v17, ev17⟩ : ∃ z, z = up2 v3 k 7 2 := ⟨_, rfl⟩
      rw [← ev17] at hw
      have hI18 : Inv v17 := by rw [ev17]; exact Inv.put0 hI4 _ (RG_ship (by omega) (by omega))
      have hK19 : Kp v v17 := by rw [ev17]; exact Kp.put hK5 _ (PS_ship (by omega) (by omega) (by decide))
      exact r_vret X hr hlocks hw hS ⟨hI18, hK19⟩ d_X7_miss_31
theorem d_X7_isInPort_0 : decode c_X7_isInPort 0 = .ok (.aload_n 0, 1) := by decide +kernel
theorem d_X7_isInPort_1 : decode c_X7_isInPort 1 = .ok (.getfield 33, 3) := by decide +kernel
theorem d_X7_isInPort_4 : decode c_X7_isInPort 4 = .ok (.iconst 1, 1) := by decide +kernel
theorem d_X7_isInPort_5 : decode c_X7_isInPort 5 = .ok (.if_icmp .eq 11, 3) := by decide +kernel
theorem d_X7_isInPort_8 : decode c_X7_isInPort 8 = .ok (.aload_n 0, 1) := by decide +kernel
theorem d_X7_isInPort_9 : decode c_X7_isInPort 9 = .ok (.getfield 33, 3) := by decide +kernel
theorem d_X7_isInPort_12 : decode c_X7_isInPort 12 = .ok (.iconst 2, 1) := by decide +kernel
theorem d_X7_isInPort_13 : decode c_X7_isInPort 13 = .ok (.if_icmp .ne 7, 3) := by decide +kernel
theorem d_X7_isInPort_16 : decode c_X7_isInPort 16 = .ok (.iconst 1, 1) := by decide +kernel
theorem d_X7_isInPort_17 : decode c_X7_isInPort 17 = .ok (.goto 4, 3) := by decide +kernel
theorem d_X7_isInPort_20 : decode c_X7_isInPort 20 = .ok (.iconst 0, 1) := by decide +kernel
theorem d_X7_isInPort_21 : decode c_X7_isInPort 21 = .ok (.ireturn, 1) := by decide +kernel
set_option maxHeartbeats 4000000 in
set_option maxRecDepth 100000 in
theorem ct_X7_isInPort (l : Launch) (D : va_G) (dA : Nat → ClassId) (ad : Nat → Nat) (v : tV) (hI : Inv v) (k : Nat) (ka : 100 ≤ k) (kb : k < 160) : Met l m_X7_isInPort [.code m_X7_isInPort c_X7_isInPort 1 (some .boolean)] ({ frames := 1, cells := 0, slots := 0, locals := 40 } : Room) (tP D dA ad v [.ref (ad k)]) (tQi D dA ad (fun r v' => v' = v ∧ Rg r 0 1)) 0 0 (tA ad) := by
  refine tMet (by decide) (Nat.le_of_ble_eq_true rfl) ?_
  intro p e s m below meth c ls X hr hlocks hw hl
  have X : CX p s m ([.ref (ad k)] : List Value).toArray c c_X7_isInPort N_X7 1 D dA := X
  have hx := X.1
  have hb := X.2.1
  have hS : va_S (tA ad) s.heap s.heap [] := va_S.rf
  have hl : lv_has ls 1 [(0, .ref (ad k))] := hl
  refine lv_aload_n hx hb d_X7_isInPort_0 rfl (lv_at hl 0 rfl) ?_
  refine r_geti X hw FL_X7_33 (KD_ship (by omega) (by omega)) (SH_ship (by omega) (by omega)) d_X7_isInPort_1 ?_
  refine lv_topi (fun x1 ex1 => ?_)
  refine lv_iconst (v := 1) hx hb d_X7_isInPort_4 (by decide) ?_
  refine lv_icmp_eq (tgt := 16) hx hb d_X7_isInPort_5 (by decide) (fun c2 => ?_) (fun c2 => ?_)
  · have f3 := i_eq c2
    have r4 : Rg x1 1 1 := by obtain ⟨a1, a2⟩ := (rg_any x1); obtain ⟨b1, b2⟩ := (⟨by decide, by decide⟩ : Rg 1 1 1); have f := i_eq c2; exact ⟨by omega, by omega⟩
    refine lv_iconst (v := 1) hx hb d_X7_isInPort_16 (by decide) ?_
    refine lv_goto (tgt := 21) hx hb d_X7_isInPort_17 (by decide) ?_
    exact r_zret X hr hlocks hw hS rfl ⟨rfl, (rg_w (⟨by decide, by decide⟩ : Rg 1 1 1) (by decide) (by decide))⟩ d_X7_isInPort_21
  · have f5 := i_ne c2
    refine lv_aload_n hx hb d_X7_isInPort_8 rfl (lv_at hl 0 rfl) ?_
    refine r_geti X hw FL_X7_33 (KD_ship (by omega) (by omega)) (SH_ship (by omega) (by omega)) d_X7_isInPort_9 ?_
    refine lv_topi (fun x6 ex6 => ?_)
    refine lv_iconst (v := 2) hx hb d_X7_isInPort_12 (by decide) ?_
    refine lv_icmp_ne (tgt := 20) hx hb d_X7_isInPort_13 (by decide) (fun c7 => ?_) (fun c7 => ?_)
    · have f8 := i_ne c7
      refine lv_iconst (v := 0) hx hb d_X7_isInPort_20 (by decide) ?_
      exact r_zret X hr hlocks hw hS rfl ⟨rfl, (rg_w (⟨by decide, by decide⟩ : Rg 0 0 0) (by decide) (by decide))⟩ d_X7_isInPort_21
    · have f9 := i_eq c7
      have r10 : Rg x6 2 2 := by obtain ⟨a1, a2⟩ := (rg_any x6); obtain ⟨b1, b2⟩ := (⟨by decide, by decide⟩ : Rg 2 2 2); have f := i_eq c7; exact ⟨by omega, by omega⟩
      refine lv_iconst (v := 1) hx hb d_X7_isInPort_16 (by decide) ?_
      refine lv_goto (tgt := 21) hx hb d_X7_isInPort_17 (by decide) ?_
      exact r_zret X hr hlocks hw hS rfl ⟨rfl, (rg_w (⟨by decide, by decide⟩ : Rg 1 1 1) (by decide) (by decide))⟩ d_X7_isInPort_21
theorem d_X0_begin_0 : decode c_X0_begin 0 = .ok (.aload_n 0, 1) := by decide +kernel
theorem d_X0_begin_1 : decode c_X0_begin 1 = .ok (.iload_n 1, 1) := by decide +kernel
theorem d_X0_begin_2 : decode c_X0_begin 2 = .ok (.putfield 7, 3) := by decide +kernel
theorem d_X0_begin_5 : decode c_X0_begin 5 = .ok (.aload_n 0, 1) := by decide +kernel
theorem d_X0_begin_6 : decode c_X0_begin 6 = .ok (.iload_n 2, 1) := by decide +kernel
theorem d_X0_begin_7 : decode c_X0_begin 7 = .ok (.putfield 13, 3) := by decide +kernel
theorem d_X0_begin_10 : decode c_X0_begin 10 = .ok (.aload_n 0, 1) := by decide +kernel
theorem d_X0_begin_11 : decode c_X0_begin 11 = .ok (.iload_n 3, 1) := by decide +kernel
theorem d_X0_begin_12 : decode c_X0_begin 12 = .ok (.putfield 16, 3) := by decide +kernel
theorem d_X0_begin_15 : decode c_X0_begin 15 = .ok (.aload_n 0, 1) := by decide +kernel
theorem d_X0_begin_16 : decode c_X0_begin 16 = .ok (.iload 4, 2) := by decide +kernel
theorem d_X0_begin_18 : decode c_X0_begin 18 = .ok (.putfield 19, 3) := by decide +kernel
theorem d_X0_begin_21 : decode c_X0_begin 21 = .ok (.return_, 1) := by decide +kernel
set_option maxHeartbeats 4000000 in
set_option maxRecDepth 100000 in
theorem ct_X0_begin (l : Launch) (D : va_G) (dA : Nat → ClassId) (ad : Nat → Nat) (v : tV) (hI : Inv v) (k : Nat) (ward : Int32) (sort : Int32) (want : Int32) (bid : Int32) (ka : 200 ≤ k) (kb : k < 230) (r_ward : Rg ward 0 5) : Met l m_X0_begin [.code m_X0_begin c_X0_begin 5 none] ({ frames := 1, cells := 0, slots := 0, locals := 40 } : Room) (tP D dA ad v [.ref (ad k), .int ward, .int sort, .int want, .int bid]) (tQv D dA ad (fun v' => Inv v' ∧ Kp v v')) 0 0 (tA ad) := by
  refine tMet (by decide) (Nat.le_of_ble_eq_true rfl) ?_
  intro p e s m below meth c ls X hr hlocks hw hl
  have X : CX p s m ([.ref (ad k), .int ward, .int sort, .int want, .int bid] : List Value).toArray c c_X0_begin N_X0 5 D dA := X
  have hx := X.1
  have hb := X.2.1
  have hS : va_S (tA ad) s.heap s.heap [] := va_S.rf
  have hl : lv_has ls 5 [(0, .ref (ad k)), (1, .int ward), (2, .int sort), (3, .int want), (4, .int bid)] := hl
  have hK0 : Kp v v := Kp.rf v
  refine lv_aload_n hx hb d_X0_begin_0 rfl (lv_at hl 0 rfl) ?_
  refine lv_iload_n hx hb d_X0_begin_1 rfl (lv_at hl 1 rfl) ?_
  refine r_put X hw hS FP_X0_7 (KD_buyer (by omega) (by omega)) (SH_buyer (by omega) (by omega)) ⟨rfl, rfl⟩ d_X0_begin_2 (fun H locs hw hS => ?_)
  obtain ⟨v1, ev1⟩ : ∃ z, z = up2 v k 0 ward := ⟨_, rfl⟩
  rw [← ev1] at hw
  have hI2 : Inv v1 := by rw [ev1]; exact Inv.putr hI (RG_buyer0 (by omega) (by omega)) r_ward
  have hK3 : Kp v v1 := by rw [ev1]; exact Kp.put hK0 _ (PS_buyer (by omega) (by omega))
  have hm4 : v1 k 0 = ward := by rw [ev1, up2_s]
  refine lv_aload_n hx hb d_X0_begin_5 rfl (lv_at hl 0 rfl) ?_
  refine lv_iload_n hx hb d_X0_begin_6 rfl (lv_at hl 2 rfl) ?_
  refine r_put X hw hS FP_X0_13 (KD_buyer (by omega) (by omega)) (SH_buyer (by omega) (by omega)) ⟨rfl, rfl⟩ d_X0_begin_7 (fun H locs hw hS => ?_)
  obtain ⟨v5, ev5⟩ : ∃ z, z = up2 v1 k 1 sort := ⟨_, rfl⟩
  rw [← ev5] at hw
  have hI6 : Inv v5 := by rw [ev5]; exact Inv.put0 hI2 _ (RG_buyer (by omega) (by omega) (by decide))
  have hK7 : Kp v v5 := by rw [ev5]; exact Kp.put hK3 _ (PS_buyer (by omega) (by omega))
  have hm8 : v5 k 0 = ward := by rw [ev5, up2_n _ _ (by omega)]; exact hm4
  refine lv_aload_n hx hb d_X0_begin_10 rfl (lv_at hl 0 rfl) ?_
  refine lv_iload_n hx hb d_X0_begin_11 rfl (lv_at hl 3 rfl) ?_
  refine r_put X hw hS FP_X0_16 (KD_buyer (by omega) (by omega)) (SH_buyer (by omega) (by omega)) ⟨rfl, rfl⟩ d_X0_begin_12 (fun H locs hw hS => ?_)
  obtain ⟨v9, ev9⟩ : ∃ z, z = up2 v5 k 2 want := ⟨_, rfl⟩
  rw [← ev9] at hw
  have hI10 : Inv v9 := by rw [ev9]; exact Inv.put0 hI6 _ (RG_buyer (by omega) (by omega) (by decide))
  have hK11 : Kp v v9 := by rw [ev9]; exact Kp.put hK7 _ (PS_buyer (by omega) (by omega))
  have hm12 : v9 k 0 = ward := by rw [ev9, up2_n _ _ (by omega)]; exact hm8
  refine lv_aload_n hx hb d_X0_begin_15 rfl (lv_at hl 0 rfl) ?_
  refine lv_iload hx hb d_X0_begin_16 (lv_at hl 4 rfl) ?_
  refine r_put X hw hS FP_X0_19 (KD_buyer (by omega) (by omega)) (SH_buyer (by omega) (by omega)) ⟨rfl, rfl⟩ d_X0_begin_18 (fun H locs hw hS => ?_)
  obtain ⟨v13, ev13⟩ : ∃ z, z = up2 v9 k 3 bid := ⟨_, rfl⟩
  rw [← ev13] at hw
  have hI14 : Inv v13 := by rw [ev13]; exact Inv.put0 hI10 _ (RG_buyer (by omega) (by omega) (by decide))
  have hK15 : Kp v v13 := by rw [ev13]; exact Kp.put hK11 _ (PS_buyer (by omega) (by omega))
  have hm16 : v13 k 0 = ward := by rw [ev13, up2_n _ _ (by omega)]; exact hm12
  exact r_vret X hr hlocks hw hS ⟨hI14, hK15⟩ d_X0_begin_21
theorem d_X0_copy_0 : decode c_X0_copy 0 = .ok (.aload_n 0, 1) := by decide +kernel
theorem d_X0_copy_1 : decode c_X0_copy 1 = .ok (.aload_n 1, 1) := by decide +kernel
theorem d_X0_copy_2 : decode c_X0_copy 2 = .ok (.getfield 7, 3) := by decide +kernel
theorem d_X0_copy_5 : decode c_X0_copy 5 = .ok (.aload_n 1, 1) := by decide +kernel
theorem d_X0_copy_6 : decode c_X0_copy 6 = .ok (.getfield 13, 3) := by decide +kernel
theorem d_X0_copy_9 : decode c_X0_copy 9 = .ok (.aload_n 1, 1) := by decide +kernel
theorem d_X0_copy_10 : decode c_X0_copy 10 = .ok (.getfield 16, 3) := by decide +kernel
theorem d_X0_copy_13 : decode c_X0_copy 13 = .ok (.aload_n 1, 1) := by decide +kernel
theorem d_X0_copy_14 : decode c_X0_copy 14 = .ok (.getfield 19, 3) := by decide +kernel
theorem d_X0_copy_17 : decode c_X0_copy 17 = .ok (.invokevirtual 22, 3) := by decide +kernel
theorem d_X0_copy_20 : decode c_X0_copy 20 = .ok (.return_, 1) := by decide +kernel
set_option maxHeartbeats 4000000 in
set_option maxRecDepth 100000 in
theorem ct_X0_copy (l : Launch) (D : va_G) (dA : Nat → ClassId) (ad : Nat → Nat) (v : tV) (hI : Inv v) (k : Nat) (k2 : Nat) (ka : 200 ≤ k) (kb : k < 230) (k2a : 200 ≤ k2) (k2b : k2 < 230) : Met l m_X0_copy [.code m_X0_copy c_X0_copy 2 none] ({ frames := 2, cells := 0, slots := 0, locals := 64 } : Room) (tP D dA ad v [.ref (ad k), .ref (ad k2)]) (tQv D dA ad (fun v' => Inv v' ∧ Kp v v')) 0 0 (tA ad) := by
  refine tMet (by decide) (Nat.le_of_ble_eq_true rfl) ?_
  intro p e s m below meth c ls X hr hlocks hw hl
  have X : CX p s m ([.ref (ad k), .ref (ad k2)] : List Value).toArray c c_X0_copy N_X0 2 D dA := X
  have hx := X.1
  have hb := X.2.1
  have hS : va_S (tA ad) s.heap s.heap [] := va_S.rf
  have hl : lv_has ls 2 [(0, .ref (ad k)), (1, .ref (ad k2))] := hl
  have hK0 : Kp v v := Kp.rf v
  refine lv_aload_n hx hb d_X0_copy_0 rfl (lv_at hl 0 rfl) ?_
  refine lv_aload_n hx hb d_X0_copy_1 rfl (lv_at hl 1 rfl) ?_
  refine r_geti X hw FL_X0_7 (KD_buyer (by omega) (by omega)) (SH_buyer (by omega) (by omega)) d_X0_copy_2 ?_
  refine lv_topi (fun x1 ex1 => ?_)
  have r2 : Rg x1 0 5 := by rw [ex1]; exact hI _ _ _ _ (RG_buyer0 (by omega) (by omega))
  have hm3 : v k2 0 = x1 := ex1.symm
  refine lv_aload_n hx hb d_X0_copy_5 rfl (lv_at hl 1 rfl) ?_
  refine r_geti X hw FL_X0_13 (KD_buyer (by omega) (by omega)) (SH_buyer (by omega) (by omega)) d_X0_copy_6 ?_
  refine lv_topi (fun x4 ex4 => ?_)
  refine lv_aload_n hx hb d_X0_copy_9 rfl (lv_at hl 1 rfl) ?_
  refine r_geti X hw FL_X0_16 (KD_buyer (by omega) (by omega)) (SH_buyer (by omega) (by omega)) d_X0_copy_10 ?_
  refine lv_topi (fun x5 ex5 => ?_)
  refine lv_aload_n hx hb d_X0_copy_13 rfl (lv_at hl 1 rfl) ?_
  refine r_geti X hw FL_X0_19 (KD_buyer (by omega) (by omega)) (SH_buyer (by omega) (by omega)) d_X0_copy_14 ?_
  refine lv_topi (fun x6 ex6 => ?_)
  refine r_cv (r_runV (n := 4) (As := [.int x1, .int x4, .int x5, .int x6]) (rest := []) X hw (ct_X0_begin l D dA ad v hI k x1 x4 x5 x6 (by omega) (by omega) r2) gc_X0_22 (KD_buyer (by omega) (by omega)) (by decide) rfl (by decide +kernel) ⟨rfl, rfl, Nat.le_of_ble_eq_true rfl, Nat.le_of_ble_eq_true rfl⟩ rfl hl.1 rfl (Nat.le_of_ble_eq_true rfl) ⟨Nat.zero_le _, Nat.zero_le _⟩ d_X0_copy_17) hS (fun v8 H locs hp7 hw hS => ?_)
  obtain ⟨hI9, hK10⟩ := hp7
  have hK11 : Kp v v8 := Kp.tr hK0 hK10
  exact r_vret X hr hlocks hw hS ⟨hI9, hK11⟩ d_X0_copy_20
theorem d_X0_takes_0 : decode c_X0_takes 0 = .ok (.aload_n 0, 1) := by decide +kernel
theorem d_X0_takes_1 : decode c_X0_takes 1 = .ok (.getfield 16, 3) := by decide +kernel
theorem d_X0_takes_4 : decode c_X0_takes 4 = .ok (.ifCond .le 29, 3) := by decide +kernel
theorem d_X0_takes_7 : decode c_X0_takes 7 = .ok (.aload_n 0, 1) := by decide +kernel
theorem d_X0_takes_8 : decode c_X0_takes 8 = .ok (.getfield 13, 3) := by decide +kernel
theorem d_X0_takes_11 : decode c_X0_takes 11 = .ok (.aload_n 1, 1) := by decide +kernel
theorem d_X0_takes_12 : decode c_X0_takes 12 = .ok (.getfield 26, 3) := by decide +kernel
theorem d_X0_takes_15 : decode c_X0_takes 15 = .ok (.if_icmp .ne 18, 3) := by decide +kernel
theorem d_X0_takes_18 : decode c_X0_takes 18 = .ok (.aload_n 0, 1) := by decide +kernel
theorem d_X0_takes_19 : decode c_X0_takes 19 = .ok (.getfield 19, 3) := by decide +kernel
theorem d_X0_takes_22 : decode c_X0_takes 22 = .ok (.aload_n 1, 1) := by decide +kernel
theorem d_X0_takes_23 : decode c_X0_takes 23 = .ok (.getfield 29, 3) := by decide +kernel
theorem d_X0_takes_26 : decode c_X0_takes 26 = .ok (.if_icmp .lt 7, 3) := by decide +kernel
theorem d_X0_takes_29 : decode c_X0_takes 29 = .ok (.iconst 1, 1) := by decide +kernel
theorem d_X0_takes_30 : decode c_X0_takes 30 = .ok (.goto 4, 3) := by decide +kernel
theorem d_X0_takes_33 : decode c_X0_takes 33 = .ok (.iconst 0, 1) := by decide +kernel
theorem d_X0_takes_34 : decode c_X0_takes 34 = .ok (.ireturn, 1) := by decide +kernel
set_option maxHeartbeats 4000000 in
set_option maxRecDepth 100000 in
theorem ct_X0_takes (l : Launch) (D : va_G) (dA : Nat → ClassId) (ad : Nat → Nat) (v : tV) (hI : Inv v) (k : Nat) (k2 : Nat) (ka : 200 ≤ k) (kb : k < 230) (k2a : 100 ≤ k2) (k2b : k2 < 160) : Met l m_X0_takes [.code m_X0_takes c_X0_takes 2 (some .boolean)] ({ frames := 1, cells := 0, slots := 0, locals := 40 } : Room) (tP D dA ad v [.ref (ad k), .ref (ad k2)]) (tQi D dA ad (fun r v' => v' = v ∧ Rg r 0 1)) 0 0 (tA ad) := by
  refine tMet (by decide) (Nat.le_of_ble_eq_true rfl) ?_
  intro p e s m below meth c ls X hr hlocks hw hl
  have X : CX p s m ([.ref (ad k), .ref (ad k2)] : List Value).toArray c c_X0_takes N_X0 2 D dA := X
  have hx := X.1
  have hb := X.2.1
  have hS : va_S (tA ad) s.heap s.heap [] := va_S.rf
  have hl : lv_has ls 2 [(0, .ref (ad k)), (1, .ref (ad k2))] := hl
  refine lv_aload_n hx hb d_X0_takes_0 rfl (lv_at hl 0 rfl) ?_
  refine r_geti X hw FL_X0_16 (KD_buyer (by omega) (by omega)) (SH_buyer (by omega) (by omega)) d_X0_takes_1 ?_
  refine lv_topi (fun x1 ex1 => ?_)
  refine lv_if_le (tgt := 33) hx hb d_X0_takes_4 (by decide) (fun c2 => ?_) (fun c2 => ?_)
  · have f3 := i_le c2
    have r4 : Rg x1 (-2147483648) 0 := by obtain ⟨a1, a2⟩ := (rg_any x1); obtain ⟨b1, b2⟩ := (⟨by decide, by decide⟩ : Rg 0 0 0); have f := i_le c2; exact ⟨by omega, by omega⟩
    refine lv_iconst (v := 0) hx hb d_X0_takes_33 (by decide) ?_
    exact r_zret X hr hlocks hw hS rfl ⟨rfl, (rg_w (⟨by decide, by decide⟩ : Rg 0 0 0) (by decide) (by decide))⟩ d_X0_takes_34
  · have f5 := i_nle c2
    have r6 : Rg x1 1 2147483647 := by obtain ⟨a1, a2⟩ := (rg_any x1); obtain ⟨b1, b2⟩ := (⟨by decide, by decide⟩ : Rg 0 0 0); have f := i_nle c2; exact ⟨by omega, by omega⟩
    refine lv_aload_n hx hb d_X0_takes_7 rfl (lv_at hl 0 rfl) ?_
    refine r_geti X hw FL_X0_13 (KD_buyer (by omega) (by omega)) (SH_buyer (by omega) (by omega)) d_X0_takes_8 ?_
    refine lv_topi (fun x7 ex7 => ?_)
    refine lv_aload_n hx hb d_X0_takes_11 rfl (lv_at hl 1 rfl) ?_
    refine r_geti X hw FL_X0_26 (KD_ship (by omega) (by omega)) (SH_ship (by omega) (by omega)) d_X0_takes_12 ?_
    refine lv_topi (fun x8 ex8 => ?_)
    refine lv_icmp_ne (tgt := 33) hx hb d_X0_takes_15 (by decide) (fun c9 => ?_) (fun c9 => ?_)
    · have f10 := i_ne c9
      refine lv_iconst (v := 0) hx hb d_X0_takes_33 (by decide) ?_
      exact r_zret X hr hlocks hw hS rfl ⟨rfl, (rg_w (⟨by decide, by decide⟩ : Rg 0 0 0) (by decide) (by decide))⟩ d_X0_takes_34
    · have f11 := i_eq c9
      refine lv_aload_n hx hb d_X0_takes_18 rfl (lv_at hl 0 rfl) ?_
      refine r_geti X hw FL_X0_19 (KD_buyer (by omega) (by omega)) (SH_buyer (by omega) (by omega)) d_X0_takes_19 ?_
      refine lv_topi (fun x12 ex12 => ?_)
      refine lv_aload_n hx hb d_X0_takes_22 rfl (lv_at hl 1 rfl) ?_
      refine r_geti X hw FL_X0_29 (KD_ship (by omega) (by omega)) (SH_ship (by omega) (by omega)) d_X0_takes_23 ?_
      refine lv_topi (fun x13 ex13 => ?_)
      refine lv_icmp_lt (tgt := 33) hx hb d_X0_takes_26 (by decide) (fun c14 => ?_) (fun c14 => ?_)
      · have f15 := i_lt c14
        refine lv_iconst (v := 0) hx hb d_X0_takes_33 (by decide) ?_
        exact r_zret X hr hlocks hw hS rfl ⟨rfl, (rg_w (⟨by decide, by decide⟩ : Rg 0 0 0) (by decide) (by decide))⟩ d_X0_takes_34
      · have f16 := i_nlt c14
        refine lv_iconst (v := 1) hx hb d_X0_takes_29 (by decide) ?_
        refine lv_goto (tgt := 34) hx hb d_X0_takes_30 (by decide) ?_
        exact r_zret X hr hlocks hw hS rfl ⟨rfl, (rg_w (⟨by decide, by decide⟩ : Rg 1 1 1) (by decide) (by decide))⟩ d_X0_takes_34
theorem d_X9_fact_0 : decode c_X9_fact 0 = .ok (.iload_n 1, 1) := by decide +kernel
theorem d_X9_fact_1 : decode c_X9_fact 1 = .ok (.tableswitch 51 0 3 #[31, 36, 41, 46], 31) := by decide +kernel
theorem d_X9_fact_32 : decode c_X9_fact 32 = .ok (.aload_n 0, 1) := by decide +kernel
theorem d_X9_fact_33 : decode c_X9_fact 33 = .ok (.getfield 21, 3) := by decide +kernel
theorem d_X9_fact_36 : decode c_X9_fact 36 = .ok (.ireturn, 1) := by decide +kernel
theorem d_X9_fact_37 : decode c_X9_fact 37 = .ok (.aload_n 0, 1) := by decide +kernel
theorem d_X9_fact_38 : decode c_X9_fact 38 = .ok (.getfield 25, 3) := by decide +kernel
theorem d_X9_fact_41 : decode c_X9_fact 41 = .ok (.ireturn, 1) := by decide +kernel
theorem d_X9_fact_42 : decode c_X9_fact 42 = .ok (.aload_n 0, 1) := by decide +kernel
theorem d_X9_fact_43 : decode c_X9_fact 43 = .ok (.getfield 28, 3) := by decide +kernel
theorem d_X9_fact_46 : decode c_X9_fact 46 = .ok (.ireturn, 1) := by decide +kernel
theorem d_X9_fact_47 : decode c_X9_fact 47 = .ok (.aload_n 0, 1) := by decide +kernel
theorem d_X9_fact_48 : decode c_X9_fact 48 = .ok (.getfield 31, 3) := by decide +kernel
theorem d_X9_fact_51 : decode c_X9_fact 51 = .ok (.ireturn, 1) := by decide +kernel
theorem d_X9_fact_52 : decode c_X9_fact 52 = .ok (.iconst (-1), 1) := by decide +kernel
theorem d_X9_fact_53 : decode c_X9_fact 53 = .ok (.ireturn, 1) := by decide +kernel
set_option maxHeartbeats 4000000 in
set_option maxRecDepth 100000 in
theorem ct_X9_fact (l : Launch) (D : va_G) (dA : Nat → ClassId) (ad : Nat → Nat) (v : tV) (hI : Inv v) (k : Nat) (what : Int32) (ka : 300 ≤ k) (kb : k < 318) : Met l m_X9_fact [.code m_X9_fact c_X9_fact 2 (some .int)] ({ frames := 1, cells := 0, slots := 0, locals := 40 } : Room) (tP D dA ad v [.ref (ad k), .int what]) (tQi D dA ad (fun r v' => v' = v)) 0 0 (tA ad) := by
  refine tMet (by decide) (Nat.le_of_ble_eq_true rfl) ?_
  intro p e s m below meth c ls X hr hlocks hw hl
  have X : CX p s m ([.ref (ad k), .int what] : List Value).toArray c c_X9_fact N_X9 2 D dA := X
  have hx := X.1
  have hb := X.2.1
  have hS : va_S (tA ad) s.heap s.heap [] := va_S.rf
  have hl : lv_has ls 2 [(0, .ref (ad k)), (1, .int what)] := hl
  refine lv_iload_n hx hb d_X9_fact_0 rfl (lv_at hl 1 rfl) ?_
  by_cases c1 : what.toInt < 0 ∨ 3 < what.toInt
  · refine lv_tableOut (tgt := 52) hx hb d_X9_fact_1 c1 (by decide) ?_
    refine lv_iconst (v := -1) hx hb d_X9_fact_52 (by decide) ?_
    exact r_iret X hr hlocks hw hS rfl d_X9_fact_53
  · have c1b : what.toInt = 0 ∨ what.toInt = 1 ∨ what.toInt = 2 ∨ what.toInt = 3 := by omega
    rcases c1b with c1e | c1e | c1e | c1e
    · refine lv_tableIn (off := 31) (tgt := 32) hx hb d_X9_fact_1 (by omega) (by omega) (by rw [c1e]; rfl) (by decide) ?_
      refine lv_aload_n hx hb d_X9_fact_32 rfl (lv_at hl 0 rfl) ?_
      refine r_geti X hw FL_X9_21 (KD_ward (by omega) (by omega)) (SH_ward (by omega) (by omega) (by decide)) d_X9_fact_33 ?_
      refine lv_topi (fun x2 ex2 => ?_)
      exact r_iret X hr hlocks hw hS rfl d_X9_fact_36
    · refine lv_tableIn (off := 36) (tgt := 37) hx hb d_X9_fact_1 (by omega) (by omega) (by rw [c1e]; rfl) (by decide) ?_
      refine lv_aload_n hx hb d_X9_fact_37 rfl (lv_at hl 0 rfl) ?_
      refine r_geti X hw FL_X9_25 (KD_ward (by omega) (by omega)) (SH_ward (by omega) (by omega) (by decide)) d_X9_fact_38 ?_
      refine lv_topi (fun x3 ex3 => ?_)
      exact r_iret X hr hlocks hw hS rfl d_X9_fact_41
    · refine lv_tableIn (off := 41) (tgt := 42) hx hb d_X9_fact_1 (by omega) (by omega) (by rw [c1e]; rfl) (by decide) ?_
      refine lv_aload_n hx hb d_X9_fact_42 rfl (lv_at hl 0 rfl) ?_
      refine r_geti X hw FL_X9_28 (KD_ward (by omega) (by omega)) (SH_ward (by omega) (by omega) (by decide)) d_X9_fact_43 ?_
      refine lv_topi (fun x4 ex4 => ?_)
      exact r_iret X hr hlocks hw hS rfl d_X9_fact_46
    · refine lv_tableIn (off := 46) (tgt := 47) hx hb d_X9_fact_1 (by omega) (by omega) (by rw [c1e]; rfl) (by decide) ?_
      refine lv_aload_n hx hb d_X9_fact_47 rfl (lv_at hl 0 rfl) ?_
      refine r_geti X hw FL_X9_31 (KD_ward (by omega) (by omega)) (SH_ward (by omega) (by omega) (by decide)) d_X9_fact_48 ?_
      refine lv_topi (fun x5 ex5 => ?_)
      exact r_iret X hr hlocks hw hS rfl d_X9_fact_51
theorem d_X9_receive_0 : decode c_X9_receive 0 = .ok (.aload_n 0, 1) := by decide +kernel
theorem d_X9_receive_1 : decode c_X9_receive 1 = .ok (.dup, 1) := by decide +kernel
theorem d_X9_receive_2 : decode c_X9_receive 2 = .ok (.getfield 21, 3) := by decide +kernel
theorem d_X9_receive_5 : decode c_X9_receive 5 = .ok (.iload_n 1, 1) := by decide +kernel
theorem d_X9_receive_6 : decode c_X9_receive 6 = .ok (.iadd, 1) := by decide +kernel
theorem d_X9_receive_7 : decode c_X9_receive 7 = .ok (.putfield 21, 3) := by decide +kernel
theorem d_X9_receive_10 : decode c_X9_receive 10 = .ok (.aload_n 0, 1) := by decide +kernel
theorem d_X9_receive_11 : decode c_X9_receive 11 = .ok (.dup, 1) := by decide +kernel
theorem d_X9_receive_12 : decode c_X9_receive 12 = .ok (.getfield 31, 3) := by decide +kernel
theorem d_X9_receive_15 : decode c_X9_receive 15 = .ok (.iload_n 1, 1) := by decide +kernel
theorem d_X9_receive_16 : decode c_X9_receive 16 = .ok (.iadd, 1) := by decide +kernel
theorem d_X9_receive_17 : decode c_X9_receive 17 = .ok (.putfield 31, 3) := by decide +kernel
theorem d_X9_receive_20 : decode c_X9_receive 20 = .ok (.return_, 1) := by decide +kernel
set_option maxHeartbeats 4000000 in
set_option maxRecDepth 100000 in
theorem ct_X9_receive (l : Launch) (D : va_G) (dA : Nat → ClassId) (ad : Nat → Nat) (v : tV) (hI : Inv v) (k : Nat) (ms : Int32) (ka : 300 ≤ k) (kb : k < 318) : Met l m_X9_receive [.code m_X9_receive c_X9_receive 2 none] ({ frames := 1, cells := 0, slots := 0, locals := 40 } : Room) (tP D dA ad v [.ref (ad k), .int ms]) (tQv D dA ad (fun v' => Inv v' ∧ Kp v v')) 0 0 (tA ad) := by
  refine tMet (by decide) (Nat.le_of_ble_eq_true rfl) ?_
  intro p e s m below meth c ls X hr hlocks hw hl
  have X : CX p s m ([.ref (ad k), .int ms] : List Value).toArray c c_X9_receive N_X9 2 D dA := X
  have hx := X.1
  have hb := X.2.1
  have hS : va_S (tA ad) s.heap s.heap [] := va_S.rf
  have hl : lv_has ls 2 [(0, .ref (ad k)), (1, .int ms)] := hl
  have hK0 : Kp v v := Kp.rf v
  refine lv_aload_n hx hb d_X9_receive_0 rfl (lv_at hl 0 rfl) ?_
  refine lv_dup hx hb d_X9_receive_1 rfl ?_
  refine r_geti X hw FL_X9_21 (KD_ward (by omega) (by omega)) (SH_ward (by omega) (by omega) (by decide)) d_X9_receive_2 ?_
  refine lv_topi (fun x1 ex1 => ?_)
  refine lv_iload_n hx hb d_X9_receive_5 rfl (lv_at hl 1 rfl) ?_
  refine lv_iadd hx hb d_X9_receive_6 ?_
  refine lv_topi (fun x2 ex2 => ?_)
  refine r_put X hw hS FP_X9_21 (KD_ward (by omega) (by omega)) (SH_ward (by omega) (by omega) (by decide)) ⟨rfl, rfl⟩ d_X9_receive_7 (fun H locs hw hS => ?_)
  obtain ⟨v3, ev3⟩ : ∃ z, z = up2 v k 1 x2 := ⟨_, rfl⟩
  rw [← ev3] at hw
  have hI4 : Inv v3 := by rw [ev3]; exact Inv.put0 hI _ (RG_ward (by omega) (by omega))
  have hK5 : Kp v v3 := by rw [ev3]; exact Kp.put hK0 _ (PS_ward (by omega) (by omega))
  refine lv_aload_n hx hb d_X9_receive_10 rfl (lv_at hl 0 rfl) ?_
  refine lv_dup hx hb d_X9_receive_11 rfl ?_
  refine r_geti X hw FL_X9_31 (KD_ward (by omega) (by omega)) (SH_ward (by omega) (by omega) (by decide)) d_X9_receive_12 ?_
  refine lv_topi (fun x6 ex6 => ?_)
  refine lv_iload_n hx hb d_X9_receive_15 rfl (lv_at hl 1 rfl) ?_
  refine lv_iadd hx hb d_X9_receive_16 ?_
  refine lv_topi (fun x7 ex7 => ?_)
  refine r_put X hw hS FP_X9_31 (KD_ward (by omega) (by omega)) (SH_ward (by omega) (by omega) (by decide)) ⟨rfl, rfl⟩ d_X9_receive_17 (fun H locs hw hS => ?_)
  obtain ⟨v8, ev8⟩ : ∃ z, z = up2 v3 k 4 x7 := ⟨_, rfl⟩
  rw [← ev8] at hw
  have hI9 : Inv v8 := by rw [ev8]; exact Inv.put0 hI4 _ (RG_ward (by omega) (by omega))
  have hK10 : Kp v v8 := by rw [ev8]; exact Kp.put hK5 _ (PS_ward (by omega) (by omega))
  exact r_vret X hr hlocks hw hS ⟨hI9, hK10⟩ d_X9_receive_20
theorem d_X9_heat_0 : decode c_X9_heat 0 = .ok (.aload_n 0, 1) := by decide +kernel
theorem d_X9_heat_1 : decode c_X9_heat 1 = .ok (.getfield 9, 3) := by decide +kernel
theorem d_X9_heat_4 : decode c_X9_heat 4 = .ok (.iload_n 1, 1) := by decide +kernel
theorem d_X9_heat_5 : decode c_X9_heat 5 = .ok (.iaload, 1) := by decide +kernel
theorem d_X9_heat_6 : decode c_X9_heat 6 = .ok (.istore_n 2, 1) := by decide +kernel
theorem d_X9_heat_7 : decode c_X9_heat 7 = .ok (.aload_n 0, 1) := by decide +kernel
theorem d_X9_heat_8 : decode c_X9_heat 8 = .ok (.getfield 21, 3) := by decide +kernel
theorem d_X9_heat_11 : decode c_X9_heat 11 = .ok (.iload_n 2, 1) := by decide +kernel
theorem d_X9_heat_12 : decode c_X9_heat 12 = .ok (.if_icmp .ge 13, 3) := by decide +kernel
theorem d_X9_heat_15 : decode c_X9_heat 15 = .ok (.aload_n 0, 1) := by decide +kernel
theorem d_X9_heat_16 : decode c_X9_heat 16 = .ok (.dup, 1) := by decide +kernel
theorem d_X9_heat_17 : decode c_X9_heat 17 = .ok (.getfield 25, 3) := by decide +kernel
theorem d_X9_heat_20 : decode c_X9_heat 20 = .ok (.iconst 1, 1) := by decide +kernel
theorem d_X9_heat_21 : decode c_X9_heat 21 = .ok (.iadd, 1) := by decide +kernel
theorem d_X9_heat_22 : decode c_X9_heat 22 = .ok (.putfield 25, 3) := by decide +kernel
theorem d_X9_heat_25 : decode c_X9_heat 25 = .ok (.aload_n 0, 1) := by decide +kernel
theorem d_X9_heat_26 : decode c_X9_heat 26 = .ok (.getfield 21, 3) := by decide +kernel
theorem d_X9_heat_29 : decode c_X9_heat 29 = .ok (.iload_n 2, 1) := by decide +kernel
theorem d_X9_heat_30 : decode c_X9_heat 30 = .ok (.invokestatic 34, 3) := by decide +kernel
theorem d_X9_heat_33 : decode c_X9_heat 33 = .ok (.istore_n 3, 1) := by decide +kernel
theorem d_X9_heat_34 : decode c_X9_heat 34 = .ok (.aload_n 0, 1) := by decide +kernel
theorem d_X9_heat_35 : decode c_X9_heat 35 = .ok (.dup, 1) := by decide +kernel
theorem d_X9_heat_36 : decode c_X9_heat 36 = .ok (.getfield 21, 3) := by decide +kernel
theorem d_X9_heat_39 : decode c_X9_heat 39 = .ok (.iload_n 3, 1) := by decide +kernel
theorem d_X9_heat_40 : decode c_X9_heat 40 = .ok (.isub, 1) := by decide +kernel
theorem d_X9_heat_41 : decode c_X9_heat 41 = .ok (.putfield 21, 3) := by decide +kernel
theorem d_X9_heat_44 : decode c_X9_heat 44 = .ok (.aload_n 0, 1) := by decide +kernel
theorem d_X9_heat_45 : decode c_X9_heat 45 = .ok (.dup, 1) := by decide +kernel
theorem d_X9_heat_46 : decode c_X9_heat 46 = .ok (.getfield 28, 3) := by decide +kernel
theorem d_X9_heat_49 : decode c_X9_heat 49 = .ok (.iload_n 3, 1) := by decide +kernel
theorem d_X9_heat_50 : decode c_X9_heat 50 = .ok (.iadd, 1) := by decide +kernel
theorem d_X9_heat_51 : decode c_X9_heat 51 = .ok (.putfield 28, 3) := by decide +kernel
theorem d_X9_heat_54 : decode c_X9_heat 54 = .ok (.return_, 1) := by decide +kernel
set_option maxHeartbeats 4000000 in
set_option maxRecDepth 100000 in
theorem ct_X9_heat (l : Launch) (D : va_G) (dA : Nat → ClassId) (ad : Nat → Nat) (v : tV) (hI : Inv v) (k : Nat) (cold : Int32) (ka : 300 ≤ k) (kb : k < 318) (r_cold : Rg cold 0 4) : Met l m_X9_heat [.code m_X9_heat c_X9_heat 4 none] ({ frames := 1, cells := 0, slots := 0, locals := 40 } : Room) (tP D dA ad v [.ref (ad k), .int cold]) (tQv D dA ad (fun v' => Inv v' ∧ Kp v v')) 0 0 (tA ad) := by
  refine tMet (by decide) (Nat.le_of_ble_eq_true rfl) ?_
  intro p e s m below meth c ls X hr hlocks hw hl
  have X : CX p s m ([.ref (ad k), .int cold] : List Value).toArray c c_X9_heat N_X9 4 D dA := X
  have hx := X.1
  have hb := X.2.1
  have hS : va_S (tA ad) s.heap s.heap [] := va_S.rf
  have hl : lv_has ls 4 [(0, .ref (ad k)), (1, .int cold)] := hl
  have hK0 : Kp v v := Kp.rf v
  refine lv_aload_n hx hb d_X9_heat_0 rfl (lv_at hl 0 rfl) ?_
  refine r_getr (r := k + 20) X hw FL_X9_9 (KD_ward (by omega) (by omega)) (SH_ward0 (by omega) (by omega)) d_X9_heat_1 ?_
  refine r_nm (fun kc1 ekc1 => ?_)
  refine lv_iload_n hx hb d_X9_heat_4 rfl (lv_at hl 1 rfl) ?_
  refine r_iald X hw (KD_burns (by omega) (by omega)) (Rg.vp (b := 4) r_cold (by decide)) (SH_burns (by omega) (by omega)) d_X9_heat_5 ?_
  refine lv_topi (fun x2 ex2 => ?_)
  refine lv_istore_n (lv' := [(2, .int x2), (0, .ref (ad k)), (1, .int cold)]) hx hb d_X9_heat_6 rfl hl (by decide) rfl (fun ls hl => ?_)
  refine lv_aload_n hx hb d_X9_heat_7 rfl (lv_at hl 1 rfl) ?_
  refine r_geti X hw FL_X9_21 (KD_ward (by omega) (by omega)) (SH_ward (by omega) (by omega) (by decide)) d_X9_heat_8 ?_
  refine lv_topi (fun x3 ex3 => ?_)
  refine lv_iload_n hx hb d_X9_heat_11 rfl (lv_at hl 0 rfl) ?_
  refine lv_icmp_ge (tgt := 25) hx hb d_X9_heat_12 (by decide) (fun c4 => ?_) (fun c4 => ?_)
  · have f5 := i_le c4
    refine lv_aload_n hx hb d_X9_heat_25 rfl (lv_at hl 1 rfl) ?_
    refine r_geti X hw FL_X9_21 (KD_ward (by omega) (by omega)) (SH_ward (by omega) (by omega) (by decide)) d_X9_heat_26 ?_
    refine lv_topi (fun x6 ex6 => ?_)
    refine lv_iload_n hx hb d_X9_heat_29 rfl (lv_at hl 0 rfl) ?_
    refine va_mmin hx hb (X.2.2.1.trans hl.1.symm) X.2.2.2.1 (X.2.2.2.2.1 _ ml_X9_34) (X.2.2.2.2.1 _ ml_mins) (X.2.2.2.2.1 _ ml_mi) (X.2.2.2.2.1 _ ml_minc) (Nat.le_of_ble_eq_true rfl) (Nat.le_of_ble_eq_true rfl) (Nat.zero_le _) (Nat.zero_le _) d_X9_heat_30 ?_
    refine lv_topi (fun x7 ex7 => ?_)
    refine lv_istore_n (lv' := [(3, .int x7), (2, .int x2), (0, .ref (ad k)), (1, .int cold)]) hx hb d_X9_heat_33 rfl hl (by decide) rfl (fun ls hl => ?_)
    refine lv_aload_n hx hb d_X9_heat_34 rfl (lv_at hl 2 rfl) ?_
    refine lv_dup hx hb d_X9_heat_35 rfl ?_
    refine r_geti X hw FL_X9_21 (KD_ward (by omega) (by omega)) (SH_ward (by omega) (by omega) (by decide)) d_X9_heat_36 ?_
    refine lv_topi (fun x8 ex8 => ?_)
    refine lv_iload_n hx hb d_X9_heat_39 rfl (lv_at hl 0 rfl) ?_
    refine lv_isub hx hb d_X9_heat_40 ?_
    refine lv_topi (fun x9 ex9 => ?_)
    refine r_put X hw hS FP_X9_21 (KD_ward (by omega) (by omega)) (SH_ward (by omega) (by omega) (by decide)) ⟨rfl, rfl⟩ d_X9_heat_41 (fun H locs hw hS => ?_)
    obtain ⟨v10, ev10⟩ : ∃ z, z = up2 v k 1 x9 := ⟨_, rfl⟩
    rw [← ev10] at hw
    have hI11 : Inv v10 := by rw [ev10]; exact Inv.put0 hI _ (RG_ward (by omega) (by omega))
    have hK12 : Kp v v10 := by rw [ev10]; exact Kp.put hK0 _ (PS_ward (by omega) (by omega))
    refine lv_aload_n hx hb d_X9_heat_44 rfl (lv_at hl 2 rfl) ?_
    refine lv_dup hx hb d_X9_heat_45 rfl ?_
    refine r_geti X hw FL_X9_28 (KD_ward (by omega) (by omega)) (SH_ward (by omega) (by omega) (by decide)) d_X9_heat_46 ?_
    refine lv_topi (fun x13 ex13 => ?_)
    refine lv_iload_n hx hb d_X9_heat_49 rfl (lv_at hl 0 rfl) ?_
    refine lv_iadd hx hb d_X9_heat_50 ?_
    refine lv_topi (fun x14 ex14 => ?_)
    refine r_put X hw hS FP_X9_28 (KD_ward (by omega) (by omega)) (SH_ward (by omega) (by omega) (by decide)) ⟨rfl, rfl⟩ d_X9_heat_51 (fun H locs hw hS => ?_)
    obtain ⟨v15, ev15⟩ : ∃ z, z = up2 v10 k 3 x14 := ⟨_, rfl⟩
    rw [← ev15] at hw
    have hI16 : Inv v15 := by rw [ev15]; exact Inv.put0 hI11 _ (RG_ward (by omega) (by omega))
    have hK17 : Kp v v15 := by rw [ev15]; exact Kp.put hK12 _ (PS_ward (by omega) (by omega))
    exact r_vret X hr hlocks hw hS ⟨hI16, hK17⟩ d_X9_heat_54
  · have f18 := i_nle c4
    refine lv_aload_n hx hb d_X9_heat_15 rfl (lv_at hl 1 rfl) ?_
    refine lv_dup hx hb d_X9_heat_16 rfl ?_
    refine r_geti X hw FL_X9_25 (KD_ward (by omega) (by omega)) (SH_ward (by omega) (by omega) (by decide)) d_X9_heat_17 ?_
    refine lv_topi (fun x19 ex19 => ?_)
    refine lv_iconst (v := 1) hx hb d_X9_heat_20 (by decide) ?_
    refine lv_iadd hx hb d_X9_heat_21 ?_
    refine lv_topi (fun x20 ex20 => ?_)
    refine r_put X hw hS FP_X9_25 (KD_ward (by omega) (by omega)) (SH_ward (by omega) (by omega) (by decide)) ⟨rfl, rfl⟩ d_X9_heat_22 (fun H locs hw hS => ?_)
    obtain ⟨v21, ev21⟩ : ∃ z, z = up2 v k 2 x20 := ⟨_, rfl⟩
    rw [← ev21] at hw
    have hI22 : Inv v21 := by rw [ev21]; exact Inv.put0 hI _ (RG_ward (by omega) (by omega))
    have hK23 : Kp v v21 := by rw [ev21]; exact Kp.put hK0 _ (PS_ward (by omega) (by omega))
    refine lv_aload_n hx hb d_X9_heat_25 rfl (lv_at hl 1 rfl) ?_
    refine r_geti X hw FL_X9_21 (KD_ward (by omega) (by omega)) (SH_ward (by omega) (by omega) (by decide)) d_X9_heat_26 ?_
    refine lv_topi (fun x24 ex24 => ?_)
    refine lv_iload_n hx hb d_X9_heat_29 rfl (lv_at hl 0 rfl) ?_
    refine va_mmin hx hb (X.2.2.1.trans hl.1.symm) X.2.2.2.1 (X.2.2.2.2.1 _ ml_X9_34) (X.2.2.2.2.1 _ ml_mins) (X.2.2.2.2.1 _ ml_mi) (X.2.2.2.2.1 _ ml_minc) (Nat.le_of_ble_eq_true rfl) (Nat.le_of_ble_eq_true rfl) (Nat.zero_le _) (Nat.zero_le _) d_X9_heat_30 ?_
    refine lv_topi (fun x25 ex25 => ?_)
    refine lv_istore_n (lv' := [(3, .int x25), (2, .int x2), (0, .ref (ad k)), (1, .int cold)]) hx hb d_X9_heat_33 rfl hl (by decide) rfl (fun ls hl => ?_)
    refine lv_aload_n hx hb d_X9_heat_34 rfl (lv_at hl 2 rfl) ?_
    refine lv_dup hx hb d_X9_heat_35 rfl ?_
    refine r_geti X hw FL_X9_21 (KD_ward (by omega) (by omega)) (SH_ward (by omega) (by omega) (by decide)) d_X9_heat_36 ?_
    refine lv_topi (fun x26 ex26 => ?_)
    refine lv_iload_n hx hb d_X9_heat_39 rfl (lv_at hl 0 rfl) ?_
    refine lv_isub hx hb d_X9_heat_40 ?_
    refine lv_topi (fun x27 ex27 => ?_)
    refine r_put X hw hS FP_X9_21 (KD_ward (by omega) (by omega)) (SH_ward (by omega) (by omega) (by decide)) ⟨rfl, rfl⟩ d_X9_heat_41 (fun H locs hw hS => ?_)
    obtain ⟨v28, ev28⟩ : ∃ z, z = up2 v21 k 1 x27 := ⟨_, rfl⟩
    rw [← ev28] at hw
    have hI29 : Inv v28 := by rw [ev28]; exact Inv.put0 hI22 _ (RG_ward (by omega) (by omega))
    have hK30 : Kp v v28 := by rw [ev28]; exact Kp.put hK23 _ (PS_ward (by omega) (by omega))
    refine lv_aload_n hx hb d_X9_heat_44 rfl (lv_at hl 2 rfl) ?_
    refine lv_dup hx hb d_X9_heat_45 rfl ?_
    refine r_geti X hw FL_X9_28 (KD_ward (by omega) (by omega)) (SH_ward (by omega) (by omega) (by decide)) d_X9_heat_46 ?_
    refine lv_topi (fun x31 ex31 => ?_)
    refine lv_iload_n hx hb d_X9_heat_49 rfl (lv_at hl 0 rfl) ?_
    refine lv_iadd hx hb d_X9_heat_50 ?_
    refine lv_topi (fun x32 ex32 => ?_)
    refine r_put X hw hS FP_X9_28 (KD_ward (by omega) (by omega)) (SH_ward (by omega) (by omega) (by decide)) ⟨rfl, rfl⟩ d_X9_heat_51 (fun H locs hw hS => ?_)
    obtain ⟨v33, ev33⟩ : ∃ z, z = up2 v28 k 3 x32 := ⟨_, rfl⟩
    rw [← ev33] at hw
    have hI34 : Inv v33 := by rw [ev33]; exact Inv.put0 hI29 _ (RG_ward (by omega) (by omega))
    have hK35 : Kp v v33 := by rw [ev33]; exact Kp.put hK30 _ (PS_ward (by omega) (by omega))
    exact r_vret X hr hlocks hw hS ⟨hI34, hK35⟩ d_X9_heat_54
end
section
theorem d_X1_open_0 : decode c_X1_open 0 = .ok (.aload_n 0, 1) := by decide +kernel
theorem d_X1_open_1 : decode c_X1_open 1 = .ok (.iconst 0, 1) := by decide +kernel
theorem d_X1_open_2 : decode c_X1_open 2 = .ok (.putfield 24, 3) := by decide +kernel
theorem d_X1_open_5 : decode c_X1_open 5 = .ok (.aload_n 0, 1) := by decide +kernel
theorem d_X1_open_6 : decode c_X1_open 6 = .ok (.iconst 0, 1) := by decide +kernel
theorem d_X1_open_7 : decode c_X1_open 7 = .ok (.putfield 28, 3) := by decide +kernel
theorem d_X1_open_10 : decode c_X1_open 10 = .ok (.aload_n 0, 1) := by decide +kernel
theorem d_X1_open_11 : decode c_X1_open 11 = .ok (.iconst 0, 1) := by decide +kernel
theorem d_X1_open_12 : decode c_X1_open 12 = .ok (.putfield 31, 3) := by decide +kernel
theorem d_X1_open_15 : decode c_X1_open 15 = .ok (.return_, 1) := by decide +kernel
set_option maxHeartbeats 4000000 in
set_option maxRecDepth 100000 in
theorem ct_X1_open_30 (l : Launch) (D : va_G) (dA : Nat → ClassId) (ad : Nat → Nat) (v : tV) (hI : Inv v)  : Met l m_X1_open [.code m_X1_open c_X1_open 1 none] ({ frames := 1, cells := 0, slots := 0, locals := 40 } : Room) (tP D dA ad v [.ref (ad 30)]) (tQv D dA ad (fun v' => Inv v' ∧ Kp v v')) 0 0 (tA ad) := by
  refine tMet (by decide) (Nat.le_of_ble_eq_true rfl) ?_
  intro p e s m below meth c ls X hr hlocks hw hl
  have X : CX p s m ([.ref (ad 30)] : List Value).toArray c c_X1_open N_X1 1 D dA := X
  have hx := X.1
  have hb := X.2.1
  have hS : va_S (tA ad) s.heap s.heap [] := va_S.rf
  have hl : lv_has ls 1 [(0, .ref (ad 30))] := hl
  have hK0 : Kp v v := Kp.rf v
  refine lv_aload_n hx hb d_X1_open_0 rfl (lv_at hl 0 rfl) ?_
  refine lv_iconst (v := 0) hx hb d_X1_open_1 (by decide) ?_
  refine r_put X hw hS FP_X1_24 (rfl : KD 30 = _) rfl ⟨rfl, rfl⟩ d_X1_open_2 (fun H locs hw hS => ?_)
  obtain ⟨v1, ev1⟩ : ∃ z, z = up2 v 30 4 0 := ⟨_, rfl⟩
  rw [← ev1] at hw
  have hI2 : Inv v1 := by rw [ev1]; exact Inv.putr hI rfl (rg_w (⟨by decide, by decide⟩ : Rg 0 0 0) (by decide) (by decide))
  have hK3 : Kp v v1 := by rw [ev1]; exact Kp.put hK0 _ rfl
  have hm4 : v1 30 4 = 0 := by rw [ev1, up2_s]
  refine lv_aload_n hx hb d_X1_open_5 rfl (lv_at hl 0 rfl) ?_
  refine lv_iconst (v := 0) hx hb d_X1_open_6 (by decide) ?_
  refine r_put X hw hS FP_X1_28 (rfl : KD 30 = _) rfl ⟨rfl, rfl⟩ d_X1_open_7 (fun H locs hw hS => ?_)
  obtain ⟨v5, ev5⟩ : ∃ z, z = up2 v1 30 5 0 := ⟨_, rfl⟩
  rw [← ev5] at hw
  have hI6 : Inv v5 := by rw [ev5]; exact Inv.put0 hI2 _ rfl
  have hK7 : Kp v v5 := by rw [ev5]; exact Kp.put hK3 _ rfl
  have hm8 : v5 30 4 = 0 := by rw [ev5, up2_n _ _ (by omega)]; exact hm4
  refine lv_aload_n hx hb d_X1_open_10 rfl (lv_at hl 0 rfl) ?_
  refine lv_iconst (v := 0) hx hb d_X1_open_11 (by decide) ?_
  refine r_put X hw hS FP_X1_31 (rfl : KD 30 = _) rfl ⟨rfl, rfl⟩ d_X1_open_12 (fun H locs hw hS => ?_)
  obtain ⟨v9, ev9⟩ : ∃ z, z = up2 v5 30 6 0 := ⟨_, rfl⟩
  rw [← ev9] at hw
  have hI10 : Inv v9 := by rw [ev9]; exact Inv.put0 hI6 _ rfl
  have hK11 : Kp v v9 := by rw [ev9]; exact Kp.put hK7 _ rfl
  have hm12 : v9 30 4 = 0 := by rw [ev9, up2_n _ _ (by omega)]; exact hm8
  exact r_vret X hr hlocks hw hS ⟨hI10, hK11⟩ d_X1_open_15
theorem d_X1_enter_0 : decode c_X1_enter 0 = .ok (.aload_n 0, 1) := by decide +kernel
theorem d_X1_enter_1 : decode c_X1_enter 1 = .ok (.getfield 24, 3) := by decide +kernel
theorem d_X1_enter_4 : decode c_X1_enter 4 = .ok (.bipush 30, 2) := by decide +kernel
theorem d_X1_enter_6 : decode c_X1_enter 6 = .ok (.if_icmp .lt 4, 3) := by decide +kernel
theorem d_X1_enter_9 : decode c_X1_enter 9 = .ok (.return_, 1) := by decide +kernel
theorem d_X1_enter_10 : decode c_X1_enter 10 = .ok (.aload_n 0, 1) := by decide +kernel
theorem d_X1_enter_11 : decode c_X1_enter 11 = .ok (.getfield 11, 3) := by decide +kernel
theorem d_X1_enter_14 : decode c_X1_enter 14 = .ok (.aload_n 0, 1) := by decide +kernel
theorem d_X1_enter_15 : decode c_X1_enter 15 = .ok (.getfield 24, 3) := by decide +kernel
theorem d_X1_enter_18 : decode c_X1_enter 18 = .ok (.iload_n 1, 1) := by decide +kernel
theorem d_X1_enter_19 : decode c_X1_enter 19 = .ok (.iastore, 1) := by decide +kernel
theorem d_X1_enter_20 : decode c_X1_enter 20 = .ok (.aload_n 0, 1) := by decide +kernel
theorem d_X1_enter_21 : decode c_X1_enter 21 = .ok (.getfield 15, 3) := by decide +kernel
theorem d_X1_enter_24 : decode c_X1_enter 24 = .ok (.aload_n 0, 1) := by decide +kernel
theorem d_X1_enter_25 : decode c_X1_enter 25 = .ok (.getfield 24, 3) := by decide +kernel
theorem d_X1_enter_28 : decode c_X1_enter 28 = .ok (.iload_n 2, 1) := by decide +kernel
theorem d_X1_enter_29 : decode c_X1_enter 29 = .ok (.iastore, 1) := by decide +kernel
theorem d_X1_enter_30 : decode c_X1_enter 30 = .ok (.aload_n 0, 1) := by decide +kernel
theorem d_X1_enter_31 : decode c_X1_enter 31 = .ok (.getfield 18, 3) := by decide +kernel
theorem d_X1_enter_34 : decode c_X1_enter 34 = .ok (.aload_n 0, 1) := by decide +kernel
theorem d_X1_enter_35 : decode c_X1_enter 35 = .ok (.getfield 24, 3) := by decide +kernel
theorem d_X1_enter_38 : decode c_X1_enter 38 = .ok (.iload_n 3, 1) := by decide +kernel
theorem d_X1_enter_39 : decode c_X1_enter 39 = .ok (.iastore, 1) := by decide +kernel
theorem d_X1_enter_40 : decode c_X1_enter 40 = .ok (.aload_n 0, 1) := by decide +kernel
theorem d_X1_enter_41 : decode c_X1_enter 41 = .ok (.getfield 21, 3) := by decide +kernel
theorem d_X1_enter_44 : decode c_X1_enter 44 = .ok (.aload_n 0, 1) := by decide +kernel
theorem d_X1_enter_45 : decode c_X1_enter 45 = .ok (.getfield 24, 3) := by decide +kernel
theorem d_X1_enter_48 : decode c_X1_enter 48 = .ok (.iload 4, 2) := by decide +kernel
theorem d_X1_enter_50 : decode c_X1_enter 50 = .ok (.iastore, 1) := by decide +kernel
theorem d_X1_enter_51 : decode c_X1_enter 51 = .ok (.aload_n 0, 1) := by decide +kernel
theorem d_X1_enter_52 : decode c_X1_enter 52 = .ok (.dup, 1) := by decide +kernel
theorem d_X1_enter_53 : decode c_X1_enter 53 = .ok (.getfield 24, 3) := by decide +kernel
theorem d_X1_enter_56 : decode c_X1_enter 56 = .ok (.iconst 1, 1) := by decide +kernel
theorem d_X1_enter_57 : decode c_X1_enter 57 = .ok (.iadd, 1) := by decide +kernel
theorem d_X1_enter_58 : decode c_X1_enter 58 = .ok (.putfield 24, 3) := by decide +kernel
theorem d_X1_enter_61 : decode c_X1_enter 61 = .ok (.aload_n 0, 1) := by decide +kernel
theorem d_X1_enter_62 : decode c_X1_enter 62 = .ok (.dup, 1) := by decide +kernel
theorem d_X1_enter_63 : decode c_X1_enter 63 = .ok (.getfield 28, 3) := by decide +kernel
theorem d_X1_enter_66 : decode c_X1_enter 66 = .ok (.iload_n 3, 1) := by decide +kernel
theorem d_X1_enter_67 : decode c_X1_enter 67 = .ok (.iadd, 1) := by decide +kernel
theorem d_X1_enter_68 : decode c_X1_enter 68 = .ok (.putfield 28, 3) := by decide +kernel
theorem d_X1_enter_71 : decode c_X1_enter 71 = .ok (.aload_n 0, 1) := by decide +kernel
theorem d_X1_enter_72 : decode c_X1_enter 72 = .ok (.dup, 1) := by decide +kernel
theorem d_X1_enter_73 : decode c_X1_enter 73 = .ok (.getfield 31, 3) := by decide +kernel
theorem d_X1_enter_76 : decode c_X1_enter 76 = .ok (.iload_n 3, 1) := by decide +kernel
theorem d_X1_enter_77 : decode c_X1_enter 77 = .ok (.iload 4, 2) := by decide +kernel
theorem d_X1_enter_79 : decode c_X1_enter 79 = .ok (.imul, 1) := by decide +kernel
theorem d_X1_enter_80 : decode c_X1_enter 80 = .ok (.iadd, 1) := by decide +kernel
theorem d_X1_enter_81 : decode c_X1_enter 81 = .ok (.putfield 31, 3) := by decide +kernel
theorem d_X1_enter_84 : decode c_X1_enter 84 = .ok (.return_, 1) := by decide +kernel
set_option maxHeartbeats 4000000 in
set_option maxRecDepth 100000 in
theorem ct_X1_enter_30 (l : Launch) (D : va_G) (dA : Nat → ClassId) (ad : Nat → Nat) (v : tV) (hI : Inv v) (si : Int32) (bi : Int32) (am : Int32) (pr : Int32) : Met l m_X1_enter [.code m_X1_enter c_X1_enter 5 none] ({ frames := 1, cells := 0, slots := 0, locals := 40 } : Room) (tP D dA ad v [.ref (ad 30), .int si, .int bi, .int am, .int pr]) (tQv D dA ad (fun v' => Inv v' ∧ Kp v v')) 0 0 (tA ad) := by
  refine tMet (by decide) (Nat.le_of_ble_eq_true rfl) ?_
  intro p e s m below meth c ls X hr hlocks hw hl
  have X : CX p s m ([.ref (ad 30), .int si, .int bi, .int am, .int pr] : List Value).toArray c c_X1_enter N_X1 5 D dA := X
  have hx := X.1
  have hb := X.2.1
  have hS : va_S (tA ad) s.heap s.heap [] := va_S.rf
  have hl : lv_has ls 5 [(0, .ref (ad 30)), (1, .int si), (2, .int bi), (3, .int am), (4, .int pr)] := hl
  have hK0 : Kp v v := Kp.rf v
  refine lv_aload_n hx hb d_X1_enter_0 rfl (lv_at hl 0 rfl) ?_
  refine r_geti X hw FL_X1_24 (rfl : KD 30 = _) rfl d_X1_enter_1 ?_
  refine lv_topi (fun x1 ex1 => ?_)
  have r2 : Rg x1 0 30 := by rw [ex1]; exact hI _ _ _ _ rfl
  have hm3 : v 30 4 = x1 := ex1.symm
  refine lv_bipush (v := 30) hx hb d_X1_enter_4 (by decide) ?_
  refine lv_icmp_lt (tgt := 10) hx hb d_X1_enter_6 (by decide) (fun c4 => ?_) (fun c4 => ?_)
  · have f5 := i_lt c4
    have r6 : Rg x1 0 29 := by obtain ⟨a1, a2⟩ := r2; obtain ⟨b1, b2⟩ := (⟨by decide, by decide⟩ : Rg 30 30 30); have f := i_lt c4; exact ⟨by omega, by omega⟩
    refine lv_aload_n hx hb d_X1_enter_10 rfl (lv_at hl 0 rfl) ?_
    refine r_getr (r := 32) X hw FL_X1_11 (rfl : KD 30 = _) rfl d_X1_enter_11 ?_
    refine lv_aload_n hx hb d_X1_enter_14 rfl (lv_at hl 0 rfl) ?_
    refine r_geti X hw FL_X1_24 (rfl : KD 30 = _) rfl d_X1_enter_15 ?_
    rw [hm3]
    refine lv_iload_n hx hb d_X1_enter_18 rfl (lv_at hl 1 rfl) ?_
    refine r_iast X hw hS (rfl : KD 32 = _) (Rg.vp (b := 29) r6 (by decide)) rfl d_X1_enter_19 (fun H locs hw hS => ?_)
    obtain ⟨v7, ev7⟩ : ∃ z, z = up2 v 32 x1.toNatClampNeg si := ⟨_, rfl⟩
    rw [← ev7] at hw
    have hI8 : Inv v7 := by rw [ev7]; exact Inv.put0 hI _ rfl
    have hK9 : Kp v v7 := by rw [ev7]; exact Kp.put hK0 _ rfl
    have hm10 : v7 30 4 = x1 := by rw [ev7, up2_n _ _ (by omega)]; exact hm3
    refine lv_aload_n hx hb d_X1_enter_20 rfl (lv_at hl 0 rfl) ?_
    refine r_getr (r := 34) X hw FL_X1_15 (rfl : KD 30 = _) rfl d_X1_enter_21 ?_
    refine lv_aload_n hx hb d_X1_enter_24 rfl (lv_at hl 0 rfl) ?_
    refine r_geti X hw FL_X1_24 (rfl : KD 30 = _) rfl d_X1_enter_25 ?_
    rw [hm10]
    refine lv_iload_n hx hb d_X1_enter_28 rfl (lv_at hl 2 rfl) ?_
    refine r_iast X hw hS (rfl : KD 34 = _) (Rg.vp (b := 29) r6 (by decide)) rfl d_X1_enter_29 (fun H locs hw hS => ?_)
    obtain ⟨v11, ev11⟩ : ∃ z, z = up2 v7 34 x1.toNatClampNeg bi := ⟨_, rfl⟩
    rw [← ev11] at hw
    have hI12 : Inv v11 := by rw [ev11]; exact Inv.put0 hI8 _ rfl
    have hK13 : Kp v v11 := by rw [ev11]; exact Kp.put hK9 _ rfl
    have hm14 : v11 30 4 = x1 := by rw [ev11, up2_n _ _ (by omega)]; exact hm10
    refine lv_aload_n hx hb d_X1_enter_30 rfl (lv_at hl 0 rfl) ?_
    refine r_getr (r := 36) X hw FL_X1_18 (rfl : KD 30 = _) rfl d_X1_enter_31 ?_
    refine lv_aload_n hx hb d_X1_enter_34 rfl (lv_at hl 0 rfl) ?_
    refine r_geti X hw FL_X1_24 (rfl : KD 30 = _) rfl d_X1_enter_35 ?_
    rw [hm14]
    refine lv_iload_n hx hb d_X1_enter_38 rfl (lv_at hl 3 rfl) ?_
    refine r_iast X hw hS (rfl : KD 36 = _) (Rg.vp (b := 29) r6 (by decide)) rfl d_X1_enter_39 (fun H locs hw hS => ?_)
    obtain ⟨v15, ev15⟩ : ∃ z, z = up2 v11 36 x1.toNatClampNeg am := ⟨_, rfl⟩
    rw [← ev15] at hw
    have hI16 : Inv v15 := by rw [ev15]; exact Inv.put0 hI12 _ rfl
    have hK17 : Kp v v15 := by rw [ev15]; exact Kp.put hK13 _ rfl
    have hm18 : v15 30 4 = x1 := by rw [ev15, up2_n _ _ (by omega)]; exact hm14
    refine lv_aload_n hx hb d_X1_enter_40 rfl (lv_at hl 0 rfl) ?_
    refine r_getr (r := 38) X hw FL_X1_21 (rfl : KD 30 = _) rfl d_X1_enter_41 ?_
    refine lv_aload_n hx hb d_X1_enter_44 rfl (lv_at hl 0 rfl) ?_
    refine r_geti X hw FL_X1_24 (rfl : KD 30 = _) rfl d_X1_enter_45 ?_
    rw [hm18]
    refine lv_iload hx hb d_X1_enter_48 (lv_at hl 4 rfl) ?_
    refine r_iast X hw hS (rfl : KD 38 = _) (Rg.vp (b := 29) r6 (by decide)) rfl d_X1_enter_50 (fun H locs hw hS => ?_)
    obtain ⟨v19, ev19⟩ : ∃ z, z = up2 v15 38 x1.toNatClampNeg pr := ⟨_, rfl⟩
    rw [← ev19] at hw
    have hI20 : Inv v19 := by rw [ev19]; exact Inv.put0 hI16 _ rfl
    have hK21 : Kp v v19 := by rw [ev19]; exact Kp.put hK17 _ rfl
    have hm22 : v19 30 4 = x1 := by rw [ev19, up2_n _ _ (by omega)]; exact hm18
    refine lv_aload_n hx hb d_X1_enter_51 rfl (lv_at hl 0 rfl) ?_
    refine lv_dup hx hb d_X1_enter_52 rfl ?_
    refine r_geti X hw FL_X1_24 (rfl : KD 30 = _) rfl d_X1_enter_53 ?_
    rw [hm22]
    refine lv_iconst (v := 1) hx hb d_X1_enter_56 (by decide) ?_
    refine lv_iadd hx hb d_X1_enter_57 ?_
    refine lv_topi (fun x23 ex23 => ?_)
    have r24 : Rg x23 1 30 := rg_add ex23 r6 (⟨by decide, by decide⟩ : Rg 1 1 1) (by decide) (by decide)
    have s25 : x23.toInt = x1.toInt + (1 : Int32).toInt := by rw [ex23]; exact i_add (by obtain ⟨_, _⟩ := r6; obtain ⟨_, _⟩ := (⟨by decide, by decide⟩ : Rg 1 1 1); omega) (by obtain ⟨_, _⟩ := r6; obtain ⟨_, _⟩ := (⟨by decide, by decide⟩ : Rg 1 1 1); omega)
    have s25l : (1 : Int32).toInt = 1 := rfl
    refine r_put X hw hS FP_X1_24 (rfl : KD 30 = _) rfl ⟨rfl, rfl⟩ d_X1_enter_58 (fun H locs hw hS => ?_)
    obtain ⟨v26, ev26⟩ : ∃ z, z = up2 v19 30 4 x23 := ⟨_, rfl⟩
    rw [← ev26] at hw
    have hI27 : Inv v26 := by rw [ev26]; exact Inv.putr hI20 rfl (rg_w r24 (by decide) (by decide))
    have hK28 : Kp v v26 := by rw [ev26]; exact Kp.put hK21 _ rfl
    have hm29 : v26 30 4 = x23 := by rw [ev26, up2_s]
    refine lv_aload_n hx hb d_X1_enter_61 rfl (lv_at hl 0 rfl) ?_
    refine lv_dup hx hb d_X1_enter_62 rfl ?_
    refine r_geti X hw FL_X1_28 (rfl : KD 30 = _) rfl d_X1_enter_63 ?_
    refine lv_topi (fun x30 ex30 => ?_)
    refine lv_iload_n hx hb d_X1_enter_66 rfl (lv_at hl 3 rfl) ?_
    refine lv_iadd hx hb d_X1_enter_67 ?_
    refine lv_topi (fun x31 ex31 => ?_)
    refine r_put X hw hS FP_X1_28 (rfl : KD 30 = _) rfl ⟨rfl, rfl⟩ d_X1_enter_68 (fun H locs hw hS => ?_)
    obtain ⟨v32, ev32⟩ : ∃ z, z = up2 v26 30 5 x31 := ⟨_, rfl⟩
    rw [← ev32] at hw
    have hI33 : Inv v32 := by rw [ev32]; exact Inv.put0 hI27 _ rfl
    have hK34 : Kp v v32 := by rw [ev32]; exact Kp.put hK28 _ rfl
    have hm35 : v32 30 4 = x23 := by rw [ev32, up2_n _ _ (by omega)]; exact hm29
    refine lv_aload_n hx hb d_X1_enter_71 rfl (lv_at hl 0 rfl) ?_
    refine lv_dup hx hb d_X1_enter_72 rfl ?_
    refine r_geti X hw FL_X1_31 (rfl : KD 30 = _) rfl d_X1_enter_73 ?_
    refine lv_topi (fun x36 ex36 => ?_)
    refine lv_iload_n hx hb d_X1_enter_76 rfl (lv_at hl 3 rfl) ?_
    refine lv_iload hx hb d_X1_enter_77 (lv_at hl 4 rfl) ?_
    refine lv_imul hx hb d_X1_enter_79 ?_
    refine lv_topi (fun x37 ex37 => ?_)
    refine lv_iadd hx hb d_X1_enter_80 ?_
    refine lv_topi (fun x38 ex38 => ?_)
    refine r_put X hw hS FP_X1_31 (rfl : KD 30 = _) rfl ⟨rfl, rfl⟩ d_X1_enter_81 (fun H locs hw hS => ?_)
    obtain ⟨v39, ev39⟩ : ∃ z, z = up2 v32 30 6 x38 := ⟨_, rfl⟩
    rw [← ev39] at hw
    have hI40 : Inv v39 := by rw [ev39]; exact Inv.put0 hI33 _ rfl
    have hK41 : Kp v v39 := by rw [ev39]; exact Kp.put hK34 _ rfl
    have hm42 : v39 30 4 = x23 := by rw [ev39, up2_n _ _ (by omega)]; exact hm35
    exact r_vret X hr hlocks hw hS ⟨hI40, hK41⟩ d_X1_enter_84
  · have f43 := i_nlt c4
    have r44 : Rg x1 30 30 := by obtain ⟨a1, a2⟩ := r2; obtain ⟨b1, b2⟩ := (⟨by decide, by decide⟩ : Rg 30 30 30); have f := i_nlt c4; exact ⟨by omega, by omega⟩
    exact r_vret X hr hlocks hw hS ⟨hI, hK0⟩ d_X1_enter_9
theorem d_X1_fact_0 : decode c_X1_fact 0 = .ok (.iload_n 1, 1) := by decide +kernel
theorem d_X1_fact_1 : decode c_X1_fact 1 = .ok (.iconst 0, 1) := by decide +kernel
theorem d_X1_fact_2 : decode c_X1_fact 2 = .ok (.aload_n 0, 1) := by decide +kernel
theorem d_X1_fact_3 : decode c_X1_fact 3 = .ok (.getfield 24, 3) := by decide +kernel
theorem d_X1_fact_6 : decode c_X1_fact 6 = .ok (.iconst 1, 1) := by decide +kernel
theorem d_X1_fact_7 : decode c_X1_fact 7 = .ok (.isub, 1) := by decide +kernel
theorem d_X1_fact_8 : decode c_X1_fact 8 = .ok (.invokestatic 34, 3) := by decide +kernel
theorem d_X1_fact_11 : decode c_X1_fact 11 = .ok (.ifCond .ne 5, 3) := by decide +kernel
theorem d_X1_fact_14 : decode c_X1_fact 14 = .ok (.iconst (-1), 1) := by decide +kernel
theorem d_X1_fact_15 : decode c_X1_fact 15 = .ok (.ireturn, 1) := by decide +kernel
theorem d_X1_fact_16 : decode c_X1_fact 16 = .ok (.iload_n 2, 1) := by decide +kernel
theorem d_X1_fact_17 : decode c_X1_fact 17 = .ok (.tableswitch 59 0 3 #[31, 38, 45, 52], 31) := by decide +kernel
theorem d_X1_fact_48 : decode c_X1_fact 48 = .ok (.aload_n 0, 1) := by decide +kernel
theorem d_X1_fact_49 : decode c_X1_fact 49 = .ok (.getfield 11, 3) := by decide +kernel
theorem d_X1_fact_52 : decode c_X1_fact 52 = .ok (.iload_n 1, 1) := by decide +kernel
theorem d_X1_fact_53 : decode c_X1_fact 53 = .ok (.iaload, 1) := by decide +kernel
theorem d_X1_fact_54 : decode c_X1_fact 54 = .ok (.ireturn, 1) := by decide +kernel
theorem d_X1_fact_55 : decode c_X1_fact 55 = .ok (.aload_n 0, 1) := by decide +kernel
theorem d_X1_fact_56 : decode c_X1_fact 56 = .ok (.getfield 15, 3) := by decide +kernel
theorem d_X1_fact_59 : decode c_X1_fact 59 = .ok (.iload_n 1, 1) := by decide +kernel
theorem d_X1_fact_60 : decode c_X1_fact 60 = .ok (.iaload, 1) := by decide +kernel
theorem d_X1_fact_61 : decode c_X1_fact 61 = .ok (.ireturn, 1) := by decide +kernel
theorem d_X1_fact_62 : decode c_X1_fact 62 = .ok (.aload_n 0, 1) := by decide +kernel
theorem d_X1_fact_63 : decode c_X1_fact 63 = .ok (.getfield 18, 3) := by decide +kernel
theorem d_X1_fact_66 : decode c_X1_fact 66 = .ok (.iload_n 1, 1) := by decide +kernel
theorem d_X1_fact_67 : decode c_X1_fact 67 = .ok (.iaload, 1) := by decide +kernel
theorem d_X1_fact_68 : decode c_X1_fact 68 = .ok (.ireturn, 1) := by decide +kernel
theorem d_X1_fact_69 : decode c_X1_fact 69 = .ok (.aload_n 0, 1) := by decide +kernel
theorem d_X1_fact_70 : decode c_X1_fact 70 = .ok (.getfield 21, 3) := by decide +kernel
theorem d_X1_fact_73 : decode c_X1_fact 73 = .ok (.iload_n 1, 1) := by decide +kernel
theorem d_X1_fact_74 : decode c_X1_fact 74 = .ok (.iaload, 1) := by decide +kernel
theorem d_X1_fact_75 : decode c_X1_fact 75 = .ok (.ireturn, 1) := by decide +kernel
theorem d_X1_fact_76 : decode c_X1_fact 76 = .ok (.iconst (-1), 1) := by decide +kernel
theorem d_X1_fact_77 : decode c_X1_fact 77 = .ok (.ireturn, 1) := by decide +kernel
set_option maxHeartbeats 4000000 in
set_option maxRecDepth 100000 in
theorem ct_X1_fact_30 (l : Launch) (D : va_G) (dA : Nat → ClassId) (ad : Nat → Nat) (v : tV) (hI : Inv v) (i : Int32) (what : Int32) : Met l m_X1_fact [.code m_X1_fact c_X1_fact 3 (some .int)] ({ frames := 2, cells := 0, slots := 0, locals := 62 } : Room) (tP D dA ad v [.ref (ad 30), .int i, .int what]) (tQi D dA ad (fun r v' => v' = v)) 0 0 (tA ad) := by
  refine tMet (by decide) (Nat.le_of_ble_eq_true rfl) ?_
  intro p e s m below meth c ls X hr hlocks hw hl
  have X : CX p s m ([.ref (ad 30), .int i, .int what] : List Value).toArray c c_X1_fact N_X1 3 D dA := X
  have hx := X.1
  have hb := X.2.1
  have hS : va_S (tA ad) s.heap s.heap [] := va_S.rf
  have hl : lv_has ls 3 [(0, .ref (ad 30)), (1, .int i), (2, .int what)] := hl
  refine lv_iload_n hx hb d_X1_fact_0 rfl (lv_at hl 1 rfl) ?_
  refine lv_iconst (v := 0) hx hb d_X1_fact_1 (by decide) ?_
  refine lv_aload_n hx hb d_X1_fact_2 rfl (lv_at hl 0 rfl) ?_
  refine r_geti X hw FL_X1_24 (rfl : KD 30 = _) rfl d_X1_fact_3 ?_
  refine lv_topi (fun x1 ex1 => ?_)
  have r2 : Rg x1 0 30 := by rw [ex1]; exact hI _ _ _ _ rfl
  have hm3 : v 30 4 = x1 := ex1.symm
  refine lv_iconst (v := 1) hx hb d_X1_fact_6 (by decide) ?_
  refine lv_isub hx hb d_X1_fact_7 ?_
  refine lv_topi (fun x4 ex4 => ?_)
  have r5 : Rg x4 (-1) 29 := rg_sub ex4 r2 (⟨by decide, by decide⟩ : Rg 1 1 1) (by decide) (by decide)
  have s6 : x4.toInt = x1.toInt - (1 : Int32).toInt := by rw [ex4]; exact i_sub (by obtain ⟨_, _⟩ := r2; obtain ⟨_, _⟩ := (⟨by decide, by decide⟩ : Rg 1 1 1); omega) (by obtain ⟨_, _⟩ := r2; obtain ⟨_, _⟩ := (⟨by decide, by decide⟩ : Rg 1 1 1); omega)
  have s6l : (1 : Int32).toInt = 1 := rfl
  refine r_ci (r_runSN (n := 3) (As := [.int i, .int 0, .int x4]) (rest := []) X hw (ct_X10_within l D dA ad v hI i 0 x4) gn_X1_34 gc_X1_34 (by decide +kernel) ⟨rfl, rfl, Nat.le_of_ble_eq_true rfl, Nat.le_of_ble_eq_true rfl⟩ rfl hl.1 rfl (Nat.le_of_ble_eq_true rfl) ⟨Nat.zero_le _, Nat.zero_le _⟩ d_X1_fact_8) hS (fun x8 v9 H locs hp7 hw hS => ?_)
  obtain ⟨ev9, hp7⟩ := hp7
  rw [ev9] at hw
  rcases hp7 with ⟨rfl, w10a, w10b⟩ | ⟨rfl, w10n⟩
  · skip
    have r11 : Rg i 0 29 := by obtain ⟨_, _⟩ := (rg_any i); have : (0 : Int32).toInt = 0 := rfl; obtain ⟨_, _⟩ := r5; exact ⟨by omega, by omega⟩
    refine lv_if_ne (tgt := 16) hx hb d_X1_fact_11 (by decide) (fun c12 => ?_) (fun c12 => ?_)
    · refine lv_iload_n hx hb d_X1_fact_16 rfl (lv_at hl 2 rfl) ?_
      by_cases c13 : what.toInt < 0 ∨ 3 < what.toInt
      · refine lv_tableOut (tgt := 76) hx hb d_X1_fact_17 c13 (by decide) ?_
        refine lv_iconst (v := -1) hx hb d_X1_fact_76 (by decide) ?_
        exact r_iret X hr hlocks hw hS rfl d_X1_fact_77
      · have c13b : what.toInt = 0 ∨ what.toInt = 1 ∨ what.toInt = 2 ∨ what.toInt = 3 := by omega
        rcases c13b with c13e | c13e | c13e | c13e
        · refine lv_tableIn (off := 31) (tgt := 48) hx hb d_X1_fact_17 (by omega) (by omega) (by rw [c13e]; rfl) (by decide) ?_
          refine lv_aload_n hx hb d_X1_fact_48 rfl (lv_at hl 0 rfl) ?_
          refine r_getr (r := 32) X hw FL_X1_11 (rfl : KD 30 = _) rfl d_X1_fact_49 ?_
          refine lv_iload_n hx hb d_X1_fact_52 rfl (lv_at hl 1 rfl) ?_
          refine r_iald X hw (rfl : KD 32 = _) (Rg.vp (b := 29) r11 (by decide)) rfl d_X1_fact_53 ?_
          refine lv_topi (fun x14 ex14 => ?_)
          exact r_iret X hr hlocks hw hS rfl d_X1_fact_54
        · refine lv_tableIn (off := 38) (tgt := 55) hx hb d_X1_fact_17 (by omega) (by omega) (by rw [c13e]; rfl) (by decide) ?_
          refine lv_aload_n hx hb d_X1_fact_55 rfl (lv_at hl 0 rfl) ?_
          refine r_getr (r := 34) X hw FL_X1_15 (rfl : KD 30 = _) rfl d_X1_fact_56 ?_
          refine lv_iload_n hx hb d_X1_fact_59 rfl (lv_at hl 1 rfl) ?_
          refine r_iald X hw (rfl : KD 34 = _) (Rg.vp (b := 29) r11 (by decide)) rfl d_X1_fact_60 ?_
          refine lv_topi (fun x15 ex15 => ?_)
          exact r_iret X hr hlocks hw hS rfl d_X1_fact_61
        · refine lv_tableIn (off := 45) (tgt := 62) hx hb d_X1_fact_17 (by omega) (by omega) (by rw [c13e]; rfl) (by decide) ?_
          refine lv_aload_n hx hb d_X1_fact_62 rfl (lv_at hl 0 rfl) ?_
          refine r_getr (r := 36) X hw FL_X1_18 (rfl : KD 30 = _) rfl d_X1_fact_63 ?_
          refine lv_iload_n hx hb d_X1_fact_66 rfl (lv_at hl 1 rfl) ?_
          refine r_iald X hw (rfl : KD 36 = _) (Rg.vp (b := 29) r11 (by decide)) rfl d_X1_fact_67 ?_
          refine lv_topi (fun x16 ex16 => ?_)
          exact r_iret X hr hlocks hw hS rfl d_X1_fact_68
        · refine lv_tableIn (off := 52) (tgt := 69) hx hb d_X1_fact_17 (by omega) (by omega) (by rw [c13e]; rfl) (by decide) ?_
          refine lv_aload_n hx hb d_X1_fact_69 rfl (lv_at hl 0 rfl) ?_
          refine r_getr (r := 38) X hw FL_X1_21 (rfl : KD 30 = _) rfl d_X1_fact_70 ?_
          refine lv_iload_n hx hb d_X1_fact_73 rfl (lv_at hl 1 rfl) ?_
          refine r_iald X hw (rfl : KD 38 = _) (Rg.vp (b := 29) r11 (by decide)) rfl d_X1_fact_74 ?_
          refine lv_topi (fun x17 ex17 => ?_)
          exact r_iret X hr hlocks hw hS rfl d_X1_fact_75
    · exact absurd c12 (by decide)
  · skip
    refine lv_if_ne (tgt := 16) hx hb d_X1_fact_11 (by decide) (fun c18 => ?_) (fun c18 => ?_)
    · exact absurd c18 (by decide)
    · refine lv_iconst (v := -1) hx hb d_X1_fact_14 (by decide) ?_
      exact r_iret X hr hlocks hw hS rfl d_X1_fact_15
set_option maxHeartbeats 4000000 in
set_option maxRecDepth 100000 in
theorem ct_X1_open_31 (l : Launch) (D : va_G) (dA : Nat → ClassId) (ad : Nat → Nat) (v : tV) (hI : Inv v)  : Met l m_X1_open [.code m_X1_open c_X1_open 1 none] ({ frames := 1, cells := 0, slots := 0, locals := 40 } : Room) (tP D dA ad v [.ref (ad 31)]) (tQv D dA ad (fun v' => Inv v' ∧ Kp v v')) 0 0 (tA ad) := by
  refine tMet (by decide) (Nat.le_of_ble_eq_true rfl) ?_
  intro p e s m below meth c ls X hr hlocks hw hl
  have X : CX p s m ([.ref (ad 31)] : List Value).toArray c c_X1_open N_X1 1 D dA := X
  have hx := X.1
  have hb := X.2.1
  have hS : va_S (tA ad) s.heap s.heap [] := va_S.rf
  have hl : lv_has ls 1 [(0, .ref (ad 31))] := hl
  have hK0 : Kp v v := Kp.rf v
  refine lv_aload_n hx hb d_X1_open_0 rfl (lv_at hl 0 rfl) ?_
  refine lv_iconst (v := 0) hx hb d_X1_open_1 (by decide) ?_
  refine r_put X hw hS FP_X1_24 (rfl : KD 31 = _) rfl ⟨rfl, rfl⟩ d_X1_open_2 (fun H locs hw hS => ?_)
  obtain ⟨v1, ev1⟩ : ∃ z, z = up2 v 31 4 0 := ⟨_, rfl⟩
  rw [← ev1] at hw
  have hI2 : Inv v1 := by rw [ev1]; exact Inv.putr hI rfl (rg_w (⟨by decide, by decide⟩ : Rg 0 0 0) (by decide) (by decide))
  have hK3 : Kp v v1 := by rw [ev1]; exact Kp.put hK0 _ rfl
  have hm4 : v1 31 4 = 0 := by rw [ev1, up2_s]
  refine lv_aload_n hx hb d_X1_open_5 rfl (lv_at hl 0 rfl) ?_
  refine lv_iconst (v := 0) hx hb d_X1_open_6 (by decide) ?_
  refine r_put X hw hS FP_X1_28 (rfl : KD 31 = _) rfl ⟨rfl, rfl⟩ d_X1_open_7 (fun H locs hw hS => ?_)
  obtain ⟨v5, ev5⟩ : ∃ z, z = up2 v1 31 5 0 := ⟨_, rfl⟩
  rw [← ev5] at hw
  have hI6 : Inv v5 := by rw [ev5]; exact Inv.put0 hI2 _ rfl
  have hK7 : Kp v v5 := by rw [ev5]; exact Kp.put hK3 _ rfl
  have hm8 : v5 31 4 = 0 := by rw [ev5, up2_n _ _ (by omega)]; exact hm4
  refine lv_aload_n hx hb d_X1_open_10 rfl (lv_at hl 0 rfl) ?_
  refine lv_iconst (v := 0) hx hb d_X1_open_11 (by decide) ?_
  refine r_put X hw hS FP_X1_31 (rfl : KD 31 = _) rfl ⟨rfl, rfl⟩ d_X1_open_12 (fun H locs hw hS => ?_)
  obtain ⟨v9, ev9⟩ : ∃ z, z = up2 v5 31 6 0 := ⟨_, rfl⟩
  rw [← ev9] at hw
  have hI10 : Inv v9 := by rw [ev9]; exact Inv.put0 hI6 _ rfl
  have hK11 : Kp v v9 := by rw [ev9]; exact Kp.put hK7 _ rfl
  have hm12 : v9 31 4 = 0 := by rw [ev9, up2_n _ _ (by omega)]; exact hm8
  exact r_vret X hr hlocks hw hS ⟨hI10, hK11⟩ d_X1_open_15
set_option maxHeartbeats 4000000 in
set_option maxRecDepth 100000 in
theorem ct_X1_enter_31 (l : Launch) (D : va_G) (dA : Nat → ClassId) (ad : Nat → Nat) (v : tV) (hI : Inv v) (si : Int32) (bi : Int32) (am : Int32) (pr : Int32) : Met l m_X1_enter [.code m_X1_enter c_X1_enter 5 none] ({ frames := 1, cells := 0, slots := 0, locals := 40 } : Room) (tP D dA ad v [.ref (ad 31), .int si, .int bi, .int am, .int pr]) (tQv D dA ad (fun v' => Inv v' ∧ Kp v v')) 0 0 (tA ad) := by
  refine tMet (by decide) (Nat.le_of_ble_eq_true rfl) ?_
  intro p e s m below meth c ls X hr hlocks hw hl
  have X : CX p s m ([.ref (ad 31), .int si, .int bi, .int am, .int pr] : List Value).toArray c c_X1_enter N_X1 5 D dA := X
  have hx := X.1
  have hb := X.2.1
  have hS : va_S (tA ad) s.heap s.heap [] := va_S.rf
  have hl : lv_has ls 5 [(0, .ref (ad 31)), (1, .int si), (2, .int bi), (3, .int am), (4, .int pr)] := hl
  have hK0 : Kp v v := Kp.rf v
  refine lv_aload_n hx hb d_X1_enter_0 rfl (lv_at hl 0 rfl) ?_
  refine r_geti X hw FL_X1_24 (rfl : KD 31 = _) rfl d_X1_enter_1 ?_
  refine lv_topi (fun x1 ex1 => ?_)
  have r2 : Rg x1 0 30 := by rw [ex1]; exact hI _ _ _ _ rfl
  have hm3 : v 31 4 = x1 := ex1.symm
  refine lv_bipush (v := 30) hx hb d_X1_enter_4 (by decide) ?_
  refine lv_icmp_lt (tgt := 10) hx hb d_X1_enter_6 (by decide) (fun c4 => ?_) (fun c4 => ?_)
  · have f5 := i_lt c4
    have r6 : Rg x1 0 29 := by obtain ⟨a1, a2⟩ := r2; obtain ⟨b1, b2⟩ := (⟨by decide, by decide⟩ : Rg 30 30 30); have f := i_lt c4; exact ⟨by omega, by omega⟩
    refine lv_aload_n hx hb d_X1_enter_10 rfl (lv_at hl 0 rfl) ?_
    refine r_getr (r := 33) X hw FL_X1_11 (rfl : KD 31 = _) rfl d_X1_enter_11 ?_
    refine lv_aload_n hx hb d_X1_enter_14 rfl (lv_at hl 0 rfl) ?_
    refine r_geti X hw FL_X1_24 (rfl : KD 31 = _) rfl d_X1_enter_15 ?_
    rw [hm3]
    refine lv_iload_n hx hb d_X1_enter_18 rfl (lv_at hl 1 rfl) ?_
    refine r_iast X hw hS (rfl : KD 33 = _) (Rg.vp (b := 29) r6 (by decide)) rfl d_X1_enter_19 (fun H locs hw hS => ?_)
    obtain ⟨v7, ev7⟩ : ∃ z, z = up2 v 33 x1.toNatClampNeg si := ⟨_, rfl⟩
    rw [← ev7] at hw
    have hI8 : Inv v7 := by rw [ev7]; exact Inv.put0 hI _ rfl
    have hK9 : Kp v v7 := by rw [ev7]; exact Kp.put hK0 _ rfl
    have hm10 : v7 31 4 = x1 := by rw [ev7, up2_n _ _ (by omega)]; exact hm3
    refine lv_aload_n hx hb d_X1_enter_20 rfl (lv_at hl 0 rfl) ?_
    refine r_getr (r := 35) X hw FL_X1_15 (rfl : KD 31 = _) rfl d_X1_enter_21 ?_
    refine lv_aload_n hx hb d_X1_enter_24 rfl (lv_at hl 0 rfl) ?_
    refine r_geti X hw FL_X1_24 (rfl : KD 31 = _) rfl d_X1_enter_25 ?_
    rw [hm10]
    refine lv_iload_n hx hb d_X1_enter_28 rfl (lv_at hl 2 rfl) ?_
    refine r_iast X hw hS (rfl : KD 35 = _) (Rg.vp (b := 29) r6 (by decide)) rfl d_X1_enter_29 (fun H locs hw hS => ?_)
    obtain ⟨v11, ev11⟩ : ∃ z, z = up2 v7 35 x1.toNatClampNeg bi := ⟨_, rfl⟩
    rw [← ev11] at hw
    have hI12 : Inv v11 := by rw [ev11]; exact Inv.put0 hI8 _ rfl
    have hK13 : Kp v v11 := by rw [ev11]; exact Kp.put hK9 _ rfl
    have hm14 : v11 31 4 = x1 := by rw [ev11, up2_n _ _ (by omega)]; exact hm10
    refine lv_aload_n hx hb d_X1_enter_30 rfl (lv_at hl 0 rfl) ?_
    refine r_getr (r := 37) X hw FL_X1_18 (rfl : KD 31 = _) rfl d_X1_enter_31 ?_
    refine lv_aload_n hx hb d_X1_enter_34 rfl (lv_at hl 0 rfl) ?_
    refine r_geti X hw FL_X1_24 (rfl : KD 31 = _) rfl d_X1_enter_35 ?_
    rw [hm14]
    refine lv_iload_n hx hb d_X1_enter_38 rfl (lv_at hl 3 rfl) ?_
    refine r_iast X hw hS (rfl : KD 37 = _) (Rg.vp (b := 29) r6 (by decide)) rfl d_X1_enter_39 (fun H locs hw hS => ?_)
    obtain ⟨v15, ev15⟩ : ∃ z, z = up2 v11 37 x1.toNatClampNeg am := ⟨_, rfl⟩
    rw [← ev15] at hw
    have hI16 : Inv v15 := by rw [ev15]; exact Inv.put0 hI12 _ rfl
    have hK17 : Kp v v15 := by rw [ev15]; exact Kp.put hK13 _ rfl
    have hm18 : v15 31 4 = x1 := by rw [ev15, up2_n _ _ (by omega)]; exact hm14
    refine lv_aload_n hx hb d_X1_enter_40 rfl (lv_at hl 0 rfl) ?_
    refine r_getr (r := 39) X hw FL_X1_21 (rfl : KD 31 = _) rfl d_X1_enter_41 ?_
    refine lv_aload_n hx hb d_X1_enter_44 rfl (lv_at hl 0 rfl) ?_
    refine r_geti X hw FL_X1_24 (rfl : KD 31 = _) rfl d_X1_enter_45 ?_
    rw [hm18]
    refine lv_iload hx hb d_X1_enter_48 (lv_at hl 4 rfl) ?_
    refine r_iast X hw hS (rfl : KD 39 = _) (Rg.vp (b := 29) r6 (by decide)) rfl d_X1_enter_50 (fun H locs hw hS => ?_)
    obtain ⟨v19, ev19⟩ : ∃ z, z = up2 v15 39 x1.toNatClampNeg pr := ⟨_, rfl⟩
    rw [← ev19] at hw
    have hI20 : Inv v19 := by rw [ev19]; exact Inv.put0 hI16 _ rfl
    have hK21 : Kp v v19 := by rw [ev19]; exact Kp.put hK17 _ rfl
    have hm22 : v19 31 4 = x1 := by rw [ev19, up2_n _ _ (by omega)]; exact hm18
    refine lv_aload_n hx hb d_X1_enter_51 rfl (lv_at hl 0 rfl) ?_
    refine lv_dup hx hb d_X1_enter_52 rfl ?_
    refine r_geti X hw FL_X1_24 (rfl : KD 31 = _) rfl d_X1_enter_53 ?_
    rw [hm22]
    refine lv_iconst (v := 1) hx hb d_X1_enter_56 (by decide) ?_
    refine lv_iadd hx hb d_X1_enter_57 ?_
    refine lv_topi (fun x23 ex23 => ?_)
    have r24 : Rg x23 1 30 := rg_add ex23 r6 (⟨by decide, by decide⟩ : Rg 1 1 1) (by decide) (by decide)
    have s25 : x23.toInt = x1.toInt + (1 : Int32).toInt := by rw [ex23]; exact i_add (by obtain ⟨_, _⟩ := r6; obtain ⟨_, _⟩ := (⟨by decide, by decide⟩ : Rg 1 1 1); omega) (by obtain ⟨_, _⟩ := r6; obtain ⟨_, _⟩ := (⟨by decide, by decide⟩ : Rg 1 1 1); omega)
    have s25l : (1 : Int32).toInt = 1 := rfl
    refine r_put X hw hS FP_X1_24 (rfl : KD 31 = _) rfl ⟨rfl, rfl⟩ d_X1_enter_58 (fun H locs hw hS => ?_)
    obtain ⟨v26, ev26⟩ : ∃ z, z = up2 v19 31 4 x23 := ⟨_, rfl⟩
    rw [← ev26] at hw
    have hI27 : Inv v26 := by rw [ev26]; exact Inv.putr hI20 rfl (rg_w r24 (by decide) (by decide))
    have hK28 : Kp v v26 := by rw [ev26]; exact Kp.put hK21 _ rfl
    have hm29 : v26 31 4 = x23 := by rw [ev26, up2_s]
    refine lv_aload_n hx hb d_X1_enter_61 rfl (lv_at hl 0 rfl) ?_
    refine lv_dup hx hb d_X1_enter_62 rfl ?_
    refine r_geti X hw FL_X1_28 (rfl : KD 31 = _) rfl d_X1_enter_63 ?_
    refine lv_topi (fun x30 ex30 => ?_)
    refine lv_iload_n hx hb d_X1_enter_66 rfl (lv_at hl 3 rfl) ?_
    refine lv_iadd hx hb d_X1_enter_67 ?_
    refine lv_topi (fun x31 ex31 => ?_)
    refine r_put X hw hS FP_X1_28 (rfl : KD 31 = _) rfl ⟨rfl, rfl⟩ d_X1_enter_68 (fun H locs hw hS => ?_)
    obtain ⟨v32, ev32⟩ : ∃ z, z = up2 v26 31 5 x31 := ⟨_, rfl⟩
    rw [← ev32] at hw
    have hI33 : Inv v32 := by rw [ev32]; exact Inv.put0 hI27 _ rfl
    have hK34 : Kp v v32 := by rw [ev32]; exact Kp.put hK28 _ rfl
    have hm35 : v32 31 4 = x23 := by rw [ev32, up2_n _ _ (by omega)]; exact hm29
    refine lv_aload_n hx hb d_X1_enter_71 rfl (lv_at hl 0 rfl) ?_
    refine lv_dup hx hb d_X1_enter_72 rfl ?_
    refine r_geti X hw FL_X1_31 (rfl : KD 31 = _) rfl d_X1_enter_73 ?_
    refine lv_topi (fun x36 ex36 => ?_)
    refine lv_iload_n hx hb d_X1_enter_76 rfl (lv_at hl 3 rfl) ?_
    refine lv_iload hx hb d_X1_enter_77 (lv_at hl 4 rfl) ?_
    refine lv_imul hx hb d_X1_enter_79 ?_
    refine lv_topi (fun x37 ex37 => ?_)
    refine lv_iadd hx hb d_X1_enter_80 ?_
    refine lv_topi (fun x38 ex38 => ?_)
    refine r_put X hw hS FP_X1_31 (rfl : KD 31 = _) rfl ⟨rfl, rfl⟩ d_X1_enter_81 (fun H locs hw hS => ?_)
    obtain ⟨v39, ev39⟩ : ∃ z, z = up2 v32 31 6 x38 := ⟨_, rfl⟩
    rw [← ev39] at hw
    have hI40 : Inv v39 := by rw [ev39]; exact Inv.put0 hI33 _ rfl
    have hK41 : Kp v v39 := by rw [ev39]; exact Kp.put hK34 _ rfl
    have hm42 : v39 31 4 = x23 := by rw [ev39, up2_n _ _ (by omega)]; exact hm35
    exact r_vret X hr hlocks hw hS ⟨hI40, hK41⟩ d_X1_enter_84
  · have f43 := i_nlt c4
    have r44 : Rg x1 30 30 := by obtain ⟨a1, a2⟩ := r2; obtain ⟨b1, b2⟩ := (⟨by decide, by decide⟩ : Rg 30 30 30); have f := i_nlt c4; exact ⟨by omega, by omega⟩
    exact r_vret X hr hlocks hw hS ⟨hI, hK0⟩ d_X1_enter_9
set_option maxHeartbeats 4000000 in
set_option maxRecDepth 100000 in
theorem ct_X1_fact_31 (l : Launch) (D : va_G) (dA : Nat → ClassId) (ad : Nat → Nat) (v : tV) (hI : Inv v) (i : Int32) (what : Int32) : Met l m_X1_fact [.code m_X1_fact c_X1_fact 3 (some .int)] ({ frames := 2, cells := 0, slots := 0, locals := 62 } : Room) (tP D dA ad v [.ref (ad 31), .int i, .int what]) (tQi D dA ad (fun r v' => v' = v)) 0 0 (tA ad) := by
  refine tMet (by decide) (Nat.le_of_ble_eq_true rfl) ?_
  intro p e s m below meth c ls X hr hlocks hw hl
  have X : CX p s m ([.ref (ad 31), .int i, .int what] : List Value).toArray c c_X1_fact N_X1 3 D dA := X
  have hx := X.1
  have hb := X.2.1
  have hS : va_S (tA ad) s.heap s.heap [] := va_S.rf
  have hl : lv_has ls 3 [(0, .ref (ad 31)), (1, .int i), (2, .int what)] := hl
  refine lv_iload_n hx hb d_X1_fact_0 rfl (lv_at hl 1 rfl) ?_
  refine lv_iconst (v := 0) hx hb d_X1_fact_1 (by decide) ?_
  refine lv_aload_n hx hb d_X1_fact_2 rfl (lv_at hl 0 rfl) ?_
  refine r_geti X hw FL_X1_24 (rfl : KD 31 = _) rfl d_X1_fact_3 ?_
  refine lv_topi (fun x1 ex1 => ?_)
  have r2 : Rg x1 0 30 := by rw [ex1]; exact hI _ _ _ _ rfl
  have hm3 : v 31 4 = x1 := ex1.symm
  refine lv_iconst (v := 1) hx hb d_X1_fact_6 (by decide) ?_
  refine lv_isub hx hb d_X1_fact_7 ?_
  refine lv_topi (fun x4 ex4 => ?_)
  have r5 : Rg x4 (-1) 29 := rg_sub ex4 r2 (⟨by decide, by decide⟩ : Rg 1 1 1) (by decide) (by decide)
  have s6 : x4.toInt = x1.toInt - (1 : Int32).toInt := by rw [ex4]; exact i_sub (by obtain ⟨_, _⟩ := r2; obtain ⟨_, _⟩ := (⟨by decide, by decide⟩ : Rg 1 1 1); omega) (by obtain ⟨_, _⟩ := r2; obtain ⟨_, _⟩ := (⟨by decide, by decide⟩ : Rg 1 1 1); omega)
  have s6l : (1 : Int32).toInt = 1 := rfl
  refine r_ci (r_runSN (n := 3) (As := [.int i, .int 0, .int x4]) (rest := []) X hw (ct_X10_within l D dA ad v hI i 0 x4) gn_X1_34 gc_X1_34 (by decide +kernel) ⟨rfl, rfl, Nat.le_of_ble_eq_true rfl, Nat.le_of_ble_eq_true rfl⟩ rfl hl.1 rfl (Nat.le_of_ble_eq_true rfl) ⟨Nat.zero_le _, Nat.zero_le _⟩ d_X1_fact_8) hS (fun x8 v9 H locs hp7 hw hS => ?_)
  obtain ⟨ev9, hp7⟩ := hp7
  rw [ev9] at hw
  rcases hp7 with ⟨rfl, w10a, w10b⟩ | ⟨rfl, w10n⟩
  · skip
    have r11 : Rg i 0 29 := by obtain ⟨_, _⟩ := (rg_any i); have : (0 : Int32).toInt = 0 := rfl; obtain ⟨_, _⟩ := r5; exact ⟨by omega, by omega⟩
    refine lv_if_ne (tgt := 16) hx hb d_X1_fact_11 (by decide) (fun c12 => ?_) (fun c12 => ?_)
    · refine lv_iload_n hx hb d_X1_fact_16 rfl (lv_at hl 2 rfl) ?_
      by_cases c13 : what.toInt < 0 ∨ 3 < what.toInt
      · refine lv_tableOut (tgt := 76) hx hb d_X1_fact_17 c13 (by decide) ?_
        refine lv_iconst (v := -1) hx hb d_X1_fact_76 (by decide) ?_
        exact r_iret X hr hlocks hw hS rfl d_X1_fact_77
      · have c13b : what.toInt = 0 ∨ what.toInt = 1 ∨ what.toInt = 2 ∨ what.toInt = 3 := by omega
        rcases c13b with c13e | c13e | c13e | c13e
        · refine lv_tableIn (off := 31) (tgt := 48) hx hb d_X1_fact_17 (by omega) (by omega) (by rw [c13e]; rfl) (by decide) ?_
          refine lv_aload_n hx hb d_X1_fact_48 rfl (lv_at hl 0 rfl) ?_
          refine r_getr (r := 33) X hw FL_X1_11 (rfl : KD 31 = _) rfl d_X1_fact_49 ?_
          refine lv_iload_n hx hb d_X1_fact_52 rfl (lv_at hl 1 rfl) ?_
          refine r_iald X hw (rfl : KD 33 = _) (Rg.vp (b := 29) r11 (by decide)) rfl d_X1_fact_53 ?_
          refine lv_topi (fun x14 ex14 => ?_)
          exact r_iret X hr hlocks hw hS rfl d_X1_fact_54
        · refine lv_tableIn (off := 38) (tgt := 55) hx hb d_X1_fact_17 (by omega) (by omega) (by rw [c13e]; rfl) (by decide) ?_
          refine lv_aload_n hx hb d_X1_fact_55 rfl (lv_at hl 0 rfl) ?_
          refine r_getr (r := 35) X hw FL_X1_15 (rfl : KD 31 = _) rfl d_X1_fact_56 ?_
          refine lv_iload_n hx hb d_X1_fact_59 rfl (lv_at hl 1 rfl) ?_
          refine r_iald X hw (rfl : KD 35 = _) (Rg.vp (b := 29) r11 (by decide)) rfl d_X1_fact_60 ?_
          refine lv_topi (fun x15 ex15 => ?_)
          exact r_iret X hr hlocks hw hS rfl d_X1_fact_61
        · refine lv_tableIn (off := 45) (tgt := 62) hx hb d_X1_fact_17 (by omega) (by omega) (by rw [c13e]; rfl) (by decide) ?_
          refine lv_aload_n hx hb d_X1_fact_62 rfl (lv_at hl 0 rfl) ?_
          refine r_getr (r := 37) X hw FL_X1_18 (rfl : KD 31 = _) rfl d_X1_fact_63 ?_
          refine lv_iload_n hx hb d_X1_fact_66 rfl (lv_at hl 1 rfl) ?_
          refine r_iald X hw (rfl : KD 37 = _) (Rg.vp (b := 29) r11 (by decide)) rfl d_X1_fact_67 ?_
          refine lv_topi (fun x16 ex16 => ?_)
          exact r_iret X hr hlocks hw hS rfl d_X1_fact_68
        · refine lv_tableIn (off := 52) (tgt := 69) hx hb d_X1_fact_17 (by omega) (by omega) (by rw [c13e]; rfl) (by decide) ?_
          refine lv_aload_n hx hb d_X1_fact_69 rfl (lv_at hl 0 rfl) ?_
          refine r_getr (r := 39) X hw FL_X1_21 (rfl : KD 31 = _) rfl d_X1_fact_70 ?_
          refine lv_iload_n hx hb d_X1_fact_73 rfl (lv_at hl 1 rfl) ?_
          refine r_iald X hw (rfl : KD 39 = _) (Rg.vp (b := 29) r11 (by decide)) rfl d_X1_fact_74 ?_
          refine lv_topi (fun x17 ex17 => ?_)
          exact r_iret X hr hlocks hw hS rfl d_X1_fact_75
    · exact absurd c12 (by decide)
  · skip
    refine lv_if_ne (tgt := 16) hx hb d_X1_fact_11 (by decide) (fun c18 => ?_) (fun c18 => ?_)
    · exact absurd c18 (by decide)
    · refine lv_iconst (v := -1) hx hb d_X1_fact_14 (by decide) ?_
      exact r_iret X hr hlocks hw hS rfl d_X1_fact_15
theorem d_X3_addPart_0 : decode c_X3_addPart 0 = .ok (.aload_n 0, 1) := by decide +kernel
theorem d_X3_addPart_1 : decode c_X3_addPart 1 = .ok (.getfield 22, 3) := by decide +kernel
theorem d_X3_addPart_4 : decode c_X3_addPart 4 = .ok (.iconst 3, 1) := by decide +kernel
theorem d_X3_addPart_5 : decode c_X3_addPart 5 = .ok (.if_icmp .lt 4, 3) := by decide +kernel
theorem d_X3_addPart_8 : decode c_X3_addPart 8 = .ok (.return_, 1) := by decide +kernel
theorem d_X3_addPart_9 : decode c_X3_addPart 9 = .ok (.aload_n 0, 1) := by decide +kernel
theorem d_X3_addPart_10 : decode c_X3_addPart 10 = .ok (.getfield 9, 3) := by decide +kernel
theorem d_X3_addPart_13 : decode c_X3_addPart 13 = .ok (.aload_n 0, 1) := by decide +kernel
theorem d_X3_addPart_14 : decode c_X3_addPart 14 = .ok (.getfield 22, 3) := by decide +kernel
theorem d_X3_addPart_17 : decode c_X3_addPart 17 = .ok (.iload_n 1, 1) := by decide +kernel
theorem d_X3_addPart_18 : decode c_X3_addPart 18 = .ok (.iastore, 1) := by decide +kernel
theorem d_X3_addPart_19 : decode c_X3_addPart 19 = .ok (.aload_n 0, 1) := by decide +kernel
theorem d_X3_addPart_20 : decode c_X3_addPart 20 = .ok (.getfield 18, 3) := by decide +kernel
theorem d_X3_addPart_23 : decode c_X3_addPart 23 = .ok (.aload_n 0, 1) := by decide +kernel
theorem d_X3_addPart_24 : decode c_X3_addPart 24 = .ok (.getfield 22, 3) := by decide +kernel
theorem d_X3_addPart_27 : decode c_X3_addPart 27 = .ok (.iload_n 2, 1) := by decide +kernel
theorem d_X3_addPart_28 : decode c_X3_addPart 28 = .ok (.bastore, 1) := by decide +kernel
theorem d_X3_addPart_29 : decode c_X3_addPart 29 = .ok (.aload_n 0, 1) := by decide +kernel
theorem d_X3_addPart_30 : decode c_X3_addPart 30 = .ok (.getfield 15, 3) := by decide +kernel
theorem d_X3_addPart_33 : decode c_X3_addPart 33 = .ok (.aload_n 0, 1) := by decide +kernel
theorem d_X3_addPart_34 : decode c_X3_addPart 34 = .ok (.getfield 22, 3) := by decide +kernel
theorem d_X3_addPart_37 : decode c_X3_addPart 37 = .ok (.iload_n 3, 1) := by decide +kernel
theorem d_X3_addPart_38 : decode c_X3_addPart 38 = .ok (.iastore, 1) := by decide +kernel
theorem d_X3_addPart_39 : decode c_X3_addPart 39 = .ok (.aload_n 0, 1) := by decide +kernel
theorem d_X3_addPart_40 : decode c_X3_addPart 40 = .ok (.dup, 1) := by decide +kernel
theorem d_X3_addPart_41 : decode c_X3_addPart 41 = .ok (.getfield 22, 3) := by decide +kernel
theorem d_X3_addPart_44 : decode c_X3_addPart 44 = .ok (.iconst 1, 1) := by decide +kernel
theorem d_X3_addPart_45 : decode c_X3_addPart 45 = .ok (.iadd, 1) := by decide +kernel
theorem d_X3_addPart_46 : decode c_X3_addPart 46 = .ok (.putfield 22, 3) := by decide +kernel
theorem d_X3_addPart_49 : decode c_X3_addPart 49 = .ok (.return_, 1) := by decide +kernel
set_option maxHeartbeats 4000000 in
set_option maxRecDepth 100000 in
theorem ct_X3_addPart (l : Launch) (D : va_G) (dA : Nat → ClassId) (ad : Nat → Nat) (v : tV) (hI : Inv v) (k : Nat) (sel : Int32) (bel : Int32) (price : Int32) (ka : 60 ≤ k) (kb : k < 69) (r_sel : Rg sel 0 99) (r_bel : Rg bel 0 1) : Met l m_X3_addPart [.code m_X3_addPart c_X3_addPart 4 none] ({ frames := 1, cells := 0, slots := 0, locals := 40 } : Room) (tP D dA ad v [.ref (ad k), .int sel, .int bel, .int price]) (tQv D dA ad (fun v' => Inv v' ∧ Kp v v')) 0 0 (tA ad) := by
  refine tMet (by decide) (Nat.le_of_ble_eq_true rfl) ?_
  intro p e s m below meth c ls X hr hlocks hw hl
  have X : CX p s m ([.ref (ad k), .int sel, .int bel, .int price] : List Value).toArray c c_X3_addPart N_X3 4 D dA := X
  have hx := X.1
  have hb := X.2.1
  have hS : va_S (tA ad) s.heap s.heap [] := va_S.rf
  have hl : lv_has ls 4 [(0, .ref (ad k)), (1, .int sel), (2, .int bel), (3, .int price)] := hl
  have hK0 : Kp v v := Kp.rf v
  refine lv_aload_n hx hb d_X3_addPart_0 rfl (lv_at hl 0 rfl) ?_
  refine r_geti X hw FL_X3_22 (KD_order (by omega) (by omega)) (SH_order (by omega) (by omega) (by decide)) d_X3_addPart_1 ?_
  refine lv_topi (fun x1 ex1 => ?_)
  have r2 : Rg x1 0 3 := by rw [ex1]; exact hI _ _ _ _ (RG_order3 (by omega) (by omega))
  have hm3 : v k 3 = x1 := ex1.symm
  refine lv_iconst (v := 3) hx hb d_X3_addPart_4 (by decide) ?_
  refine lv_icmp_lt (tgt := 9) hx hb d_X3_addPart_5 (by decide) (fun c4 => ?_) (fun c4 => ?_)
  · have f5 := i_lt c4
    have r6 : Rg x1 0 2 := by obtain ⟨a1, a2⟩ := r2; obtain ⟨b1, b2⟩ := (⟨by decide, by decide⟩ : Rg 3 3 3); have f := i_lt c4; exact ⟨by omega, by omega⟩
    refine lv_aload_n hx hb d_X3_addPart_9 rfl (lv_at hl 0 rfl) ?_
    refine r_getr (r := k + 10) X hw FL_X3_9 (KD_order (by omega) (by omega)) (SH_order0 (by omega) (by omega)) d_X3_addPart_10 ?_
    refine r_nm (fun kc7 ekc7 => ?_)
    refine lv_aload_n hx hb d_X3_addPart_13 rfl (lv_at hl 0 rfl) ?_
    refine r_geti X hw FL_X3_22 (KD_order (by omega) (by omega)) (SH_order (by omega) (by omega) (by decide)) d_X3_addPart_14 ?_
    rw [hm3]
    refine lv_iload_n hx hb d_X3_addPart_17 rfl (lv_at hl 1 rfl) ?_
    refine r_iast X hw hS (KD_opart (by omega)) (Rg.vp (b := 2) r6 (by decide)) (SH_opart (by omega) (by omega)) d_X3_addPart_18 (fun H locs hw hS => ?_)
    obtain ⟨v8, ev8⟩ : ∃ z, z = up2 v kc7 x1.toNatClampNeg sel := ⟨_, rfl⟩
    rw [← ev8] at hw
    have hI9 : Inv v8 := by rw [ev8]; exact Inv.putr hI (RG_osell (by omega) (by omega)) r_sel
    have hK10 : Kp v v8 := by rw [ev8]; exact Kp.put hK0 _ (PS_order (by omega) (by omega))
    have hm11 : v8 k 3 = x1 := by rw [ev8, up2_n _ _ (by omega)]; exact hm3
    refine lv_aload_n hx hb d_X3_addPart_19 rfl (lv_at hl 0 rfl) ?_
    refine r_getr (r := k + 30) X hw FL_X3_18 (KD_order (by omega) (by omega)) (SH_order2 (by omega) (by omega)) d_X3_addPart_20 ?_
    refine r_nm (fun kc12 ekc12 => ?_)
    refine lv_aload_n hx hb d_X3_addPart_23 rfl (lv_at hl 0 rfl) ?_
    refine r_geti X hw FL_X3_22 (KD_order (by omega) (by omega)) (SH_order (by omega) (by omega) (by decide)) d_X3_addPart_24 ?_
    rw [hm11]
    refine lv_iload_n hx hb d_X3_addPart_27 rfl (lv_at hl 2 rfl) ?_
    refine r_zast (y := bel)  X hw hS (KD_obelow (by omega) (by omega)) (Rg.vp (b := 2) r6 (by decide)) (SH_opart (by omega) (by omega)) (narz r_bel) d_X3_addPart_28 (fun H locs hw hS => ?_)
    obtain ⟨v13, ev13⟩ : ∃ z, z = up2 v8 kc12 x1.toNatClampNeg bel := ⟨_, rfl⟩
    rw [← ev13] at hw
    have hI14 : Inv v13 := by rw [ev13]; exact Inv.put0 hI9 _ (RG_oprice (by omega) (by omega))
    have hK15 : Kp v v13 := by rw [ev13]; exact Kp.put hK10 _ (PS_order (by omega) (by omega))
    have hm16 : v13 k 3 = x1 := by rw [ev13, up2_n _ _ (by omega)]; exact hm11
    refine lv_aload_n hx hb d_X3_addPart_29 rfl (lv_at hl 0 rfl) ?_
    refine r_getr (r := k + 20) X hw FL_X3_15 (KD_order (by omega) (by omega)) (SH_order1 (by omega) (by omega)) d_X3_addPart_30 ?_
    refine r_nm (fun kc17 ekc17 => ?_)
    refine lv_aload_n hx hb d_X3_addPart_33 rfl (lv_at hl 0 rfl) ?_
    refine r_geti X hw FL_X3_22 (KD_order (by omega) (by omega)) (SH_order (by omega) (by omega) (by decide)) d_X3_addPart_34 ?_
    rw [hm16]
    refine lv_iload_n hx hb d_X3_addPart_37 rfl (lv_at hl 3 rfl) ?_
    refine r_iast X hw hS (KD_opart (by omega)) (Rg.vp (b := 2) r6 (by decide)) (SH_opart (by omega) (by omega)) d_X3_addPart_38 (fun H locs hw hS => ?_)
    obtain ⟨v18, ev18⟩ : ∃ z, z = up2 v13 kc17 x1.toNatClampNeg price := ⟨_, rfl⟩
    rw [← ev18] at hw
    have hI19 : Inv v18 := by rw [ev18]; exact Inv.put0 hI14 _ (RG_oprice (by omega) (by omega))
    have hK20 : Kp v v18 := by rw [ev18]; exact Kp.put hK15 _ (PS_order (by omega) (by omega))
    have hm21 : v18 k 3 = x1 := by rw [ev18, up2_n _ _ (by omega)]; exact hm16
    refine lv_aload_n hx hb d_X3_addPart_39 rfl (lv_at hl 0 rfl) ?_
    refine lv_dup hx hb d_X3_addPart_40 rfl ?_
    refine r_geti X hw FL_X3_22 (KD_order (by omega) (by omega)) (SH_order (by omega) (by omega) (by decide)) d_X3_addPart_41 ?_
    rw [hm21]
    refine lv_iconst (v := 1) hx hb d_X3_addPart_44 (by decide) ?_
    refine lv_iadd hx hb d_X3_addPart_45 ?_
    refine lv_topi (fun x22 ex22 => ?_)
    have r23 : Rg x22 1 3 := rg_add ex22 r6 (⟨by decide, by decide⟩ : Rg 1 1 1) (by decide) (by decide)
    have s24 : x22.toInt = x1.toInt + (1 : Int32).toInt := by rw [ex22]; exact i_add (by obtain ⟨_, _⟩ := r6; obtain ⟨_, _⟩ := (⟨by decide, by decide⟩ : Rg 1 1 1); omega) (by obtain ⟨_, _⟩ := r6; obtain ⟨_, _⟩ := (⟨by decide, by decide⟩ : Rg 1 1 1); omega)
    have s24l : (1 : Int32).toInt = 1 := rfl
    refine r_put X hw hS FP_X3_22 (KD_order (by omega) (by omega)) (SH_order (by omega) (by omega) (by decide)) ⟨rfl, rfl⟩ d_X3_addPart_46 (fun H locs hw hS => ?_)
    obtain ⟨v25, ev25⟩ : ∃ z, z = up2 v18 k 3 x22 := ⟨_, rfl⟩
    rw [← ev25] at hw
    have hI26 : Inv v25 := by rw [ev25]; exact Inv.putr hI19 (RG_order3 (by omega) (by omega)) (rg_w r23 (by decide) (by decide))
    have hK27 : Kp v v25 := by rw [ev25]; exact Kp.put hK20 _ (PS_order (by omega) (by omega))
    have hm28 : v25 k 3 = x22 := by rw [ev25, up2_s]
    exact r_vret X hr hlocks hw hS ⟨hI26, hK27⟩ d_X3_addPart_49
  · have f29 := i_nlt c4
    have r30 : Rg x1 3 3 := by obtain ⟨a1, a2⟩ := r2; obtain ⟨b1, b2⟩ := (⟨by decide, by decide⟩ : Rg 3 3 3); have f := i_nlt c4; exact ⟨by omega, by omega⟩
    exact r_vret X hr hlocks hw hS ⟨hI, hK0⟩ d_X3_addPart_8
theorem d_X3_sellers_0 : decode c_X3_sellers 0 = .ok (.iconst 0, 1) := by decide +kernel
theorem d_X3_sellers_1 : decode c_X3_sellers 1 = .ok (.istore_n 2, 1) := by decide +kernel
theorem d_X3_sellers_2 : decode c_X3_sellers 2 = .ok (.iload_n 2, 1) := by decide +kernel
theorem d_X3_sellers_3 : decode c_X3_sellers 3 = .ok (.aload_n 0, 1) := by decide +kernel
theorem d_X3_sellers_4 : decode c_X3_sellers 4 = .ok (.getfield 22, 3) := by decide +kernel
theorem d_X3_sellers_7 : decode c_X3_sellers 7 = .ok (.if_icmp .ge 63, 3) := by decide +kernel
theorem d_X3_sellers_10 : decode c_X3_sellers 10 = .ok (.aload_n 0, 1) := by decide +kernel
theorem d_X3_sellers_11 : decode c_X3_sellers 11 = .ok (.getfield 18, 3) := by decide +kernel
theorem d_X3_sellers_14 : decode c_X3_sellers 14 = .ok (.iload_n 2, 1) := by decide +kernel
theorem d_X3_sellers_15 : decode c_X3_sellers 15 = .ok (.baload, 1) := by decide +kernel
theorem d_X3_sellers_16 : decode c_X3_sellers 16 = .ok (.ifCond .eq 21, 3) := by decide +kernel
theorem d_X3_sellers_19 : decode c_X3_sellers 19 = .ok (.iload_n 1, 1) := by decide +kernel
theorem d_X3_sellers_20 : decode c_X3_sellers 20 = .ok (.aload_n 0, 1) := by decide +kernel
theorem d_X3_sellers_21 : decode c_X3_sellers 21 = .ok (.getfield 15, 3) := by decide +kernel
theorem d_X3_sellers_24 : decode c_X3_sellers 24 = .ok (.iload_n 2, 1) := by decide +kernel
theorem d_X3_sellers_25 : decode c_X3_sellers 25 = .ok (.iaload, 1) := by decide +kernel
theorem d_X3_sellers_26 : decode c_X3_sellers 26 = .ok (.if_icmp .ge 7, 3) := by decide +kernel
theorem d_X3_sellers_29 : decode c_X3_sellers 29 = .ok (.iconst 1, 1) := by decide +kernel
theorem d_X3_sellers_30 : decode c_X3_sellers 30 = .ok (.goto 22, 3) := by decide +kernel
theorem d_X3_sellers_33 : decode c_X3_sellers 33 = .ok (.iconst 0, 1) := by decide +kernel
theorem d_X3_sellers_34 : decode c_X3_sellers 34 = .ok (.goto 18, 3) := by decide +kernel
theorem d_X3_sellers_37 : decode c_X3_sellers 37 = .ok (.iload_n 1, 1) := by decide +kernel
theorem d_X3_sellers_38 : decode c_X3_sellers 38 = .ok (.aload_n 0, 1) := by decide +kernel
theorem d_X3_sellers_39 : decode c_X3_sellers 39 = .ok (.getfield 15, 3) := by decide +kernel
theorem d_X3_sellers_42 : decode c_X3_sellers 42 = .ok (.iload_n 2, 1) := by decide +kernel
theorem d_X3_sellers_43 : decode c_X3_sellers 43 = .ok (.iaload, 1) := by decide +kernel
theorem d_X3_sellers_44 : decode c_X3_sellers 44 = .ok (.if_icmp .le 7, 3) := by decide +kernel
theorem d_X3_sellers_47 : decode c_X3_sellers 47 = .ok (.iconst 1, 1) := by decide +kernel
theorem d_X3_sellers_48 : decode c_X3_sellers 48 = .ok (.goto 4, 3) := by decide +kernel
theorem d_X3_sellers_51 : decode c_X3_sellers 51 = .ok (.iconst 0, 1) := by decide +kernel
theorem d_X3_sellers_52 : decode c_X3_sellers 52 = .ok (.istore_n 3, 1) := by decide +kernel
theorem d_X3_sellers_53 : decode c_X3_sellers 53 = .ok (.iload_n 3, 1) := by decide +kernel
theorem d_X3_sellers_54 : decode c_X3_sellers 54 = .ok (.ifCond .eq 10, 3) := by decide +kernel
theorem d_X3_sellers_57 : decode c_X3_sellers 57 = .ok (.aload_n 0, 1) := by decide +kernel
theorem d_X3_sellers_58 : decode c_X3_sellers 58 = .ok (.getfield 9, 3) := by decide +kernel
theorem d_X3_sellers_61 : decode c_X3_sellers 61 = .ok (.iload_n 2, 1) := by decide +kernel
theorem d_X3_sellers_62 : decode c_X3_sellers 62 = .ok (.iaload, 1) := by decide +kernel
theorem d_X3_sellers_63 : decode c_X3_sellers 63 = .ok (.ireturn, 1) := by decide +kernel
theorem d_X3_sellers_64 : decode c_X3_sellers 64 = .ok (.iinc 2 1, 3) := by decide +kernel
theorem d_X3_sellers_67 : decode c_X3_sellers 67 = .ok (.goto (-65), 3) := by decide +kernel
theorem d_X3_sellers_70 : decode c_X3_sellers 70 = .ok (.aload_n 0, 1) := by decide +kernel
theorem d_X3_sellers_71 : decode c_X3_sellers 71 = .ok (.getfield 26, 3) := by decide +kernel
theorem d_X3_sellers_74 : decode c_X3_sellers 74 = .ok (.ireturn, 1) := by decide +kernel
set_option maxHeartbeats 4000000 in
set_option maxRecDepth 100000 in
theorem ct_X3_sellers (l : Launch) (D : va_G) (dA : Nat → ClassId) (ad : Nat → Nat) (v : tV) (hI : Inv v) (k : Nat) (price : Int32) (ka : 60 ≤ k) (kb : k < 69) : Met l m_X3_sellers [.code m_X3_sellers c_X3_sellers 4 (some .int)] ({ frames := 1, cells := 0, slots := 0, locals := 40 } : Room) (tP D dA ad v [.ref (ad k), .int price]) (tQi D dA ad (fun r v' => v' = v ∧ Rg r 0 99)) 0 0 (tA ad) := by
  refine tMet (by decide) (Nat.le_of_ble_eq_true rfl) ?_
  intro p e s m below meth c ls X hr hlocks hw hl
  have X : CX p s m ([.ref (ad k), .int price] : List Value).toArray c c_X3_sellers N_X3 4 D dA := X
  have hx := X.1
  have hb := X.2.1
  have hS : va_S (tA ad) s.heap s.heap [] := va_S.rf
  have hl : lv_has ls 4 [(0, .ref (ad k)), (1, .int price)] := hl
  have LL : ∀ n : Nat, (∀ (y2 : Int32)  (H : Heap) (locs : List Loc) (ls : Array Slot), (3 - y2.toInt).toNat < n → Rg y2 0 3 → tI D dA ad v H → va_S (tA ad) s.heap H locs → lv_has ls 4 [(0, .ref (ad k)), (1, .int price), (2, .int y2)] → W p l e ({ frames := 1, cells := 0, slots := 0, locals := 40 } : Room) s m ([.ref (ad k), .int price] : List Value).toArray below meth c H locs 0 0 (MQ below (tQi D dA ad (fun r v' => v' = v ∧ Rg r 0 99)) ([.ref (ad k), .int price] : List Value).toArray s 0 0 (tA ad)) (F0 m 2 ls [])) := by
    intro n
    induction n with
    | zero => intros; omega
    | succ n ih =>
      have ih0 := ih
      intro y2 H locs ls hmu r_y2 hw hS hl
      refine lv_iload_n hx hb d_X3_sellers_2 rfl (lv_at hl 2 rfl) ?_
      refine lv_aload_n hx hb d_X3_sellers_3 rfl (lv_at hl 0 rfl) ?_
      refine r_geti X hw FL_X3_22 (KD_order (by omega) (by omega)) (SH_order (by omega) (by omega) (by decide)) d_X3_sellers_4 ?_
      refine lv_topi (fun x1 ex1 => ?_)
      have r2 : Rg x1 0 3 := by rw [ex1]; exact hI _ _ _ _ (RG_order3 (by omega) (by omega))
      have hm3 : v k 3 = x1 := ex1.symm
      refine lv_icmp_ge (tgt := 70) hx hb d_X3_sellers_7 (by decide) (fun c4 => ?_) (fun c4 => ?_)
      · have f5 := i_le c4
        refine lv_aload_n hx hb d_X3_sellers_70 rfl (lv_at hl 0 rfl) ?_
        refine r_geti X hw FL_X3_26 (KD_order (by omega) (by omega)) (SH_order (by omega) (by omega) (by decide)) d_X3_sellers_71 ?_
        refine lv_topi (fun x6 ex6 => ?_)
        have r7 : Rg x6 0 99 := by rw [ex6]; exact hI _ _ _ _ (RG_order4 (by omega) (by omega))
        have hm8 : v k 4 = x6 := ex6.symm
        exact r_iret X hr hlocks hw hS ⟨rfl, r7⟩ d_X3_sellers_74
      · have f9 := i_nle c4
        have r10 : Rg y2 0 2 := by obtain ⟨a1, a2⟩ := r_y2; obtain ⟨b1, b2⟩ := r2; have f := i_nle c4; exact ⟨by omega, by omega⟩
        have r11 : Rg x1 1 3 := by obtain ⟨a1, a2⟩ := r_y2; obtain ⟨b1, b2⟩ := r2; have f := i_nle c4; exact ⟨by omega, by omega⟩
        refine lv_aload_n hx hb d_X3_sellers_10 rfl (lv_at hl 0 rfl) ?_
        refine r_getr (r := k + 30) X hw FL_X3_18 (KD_order (by omega) (by omega)) (SH_order2 (by omega) (by omega)) d_X3_sellers_11 ?_
        refine r_nm (fun kc12 ekc12 => ?_)
        refine lv_iload_n hx hb d_X3_sellers_14 rfl (lv_at hl 2 rfl) ?_
        refine r_zald X hw (KD_obelow (by omega) (by omega)) (Rg.vp (b := 2) r10 (by decide)) (SH_opart (by omega) (by omega)) d_X3_sellers_15 ?_
        refine lv_topi (fun x13 ex13 => ?_)
        refine lv_if_eq (tgt := 37) hx hb d_X3_sellers_16 (by decide) (fun c14 => ?_) (fun c14 => ?_)
        · have f15 := i_eq c14
          have r16 : Rg x13 0 0 := by obtain ⟨a1, a2⟩ := (rg_any x13); obtain ⟨b1, b2⟩ := (⟨by decide, by decide⟩ : Rg 0 0 0); have f := i_eq c14; exact ⟨by omega, by omega⟩
          refine lv_iload_n hx hb d_X3_sellers_37 rfl (lv_at hl 1 rfl) ?_
          refine lv_aload_n hx hb d_X3_sellers_38 rfl (lv_at hl 0 rfl) ?_
          refine r_getr (r := k + 20) X hw FL_X3_15 (KD_order (by omega) (by omega)) (SH_order1 (by omega) (by omega)) d_X3_sellers_39 ?_
          refine r_nm (fun kc17 ekc17 => ?_)
          refine lv_iload_n hx hb d_X3_sellers_42 rfl (lv_at hl 2 rfl) ?_
          refine r_iald X hw (KD_opart (by omega)) (Rg.vp (b := 2) r10 (by decide)) (SH_opart (by omega) (by omega)) d_X3_sellers_43 ?_
          refine lv_topi (fun x18 ex18 => ?_)
          refine lv_icmp_le (tgt := 51) hx hb d_X3_sellers_44 (by decide) (fun c19 => ?_) (fun c19 => ?_)
          · have f20 := i_le c19
            refine lv_iconst (v := 0) hx hb d_X3_sellers_51 (by decide) ?_
            refine lv_istore_n (lv' := [(3, .int 0), (0, .ref (ad k)), (1, .int price), (2, .int y2)]) hx hb d_X3_sellers_52 rfl hl (by decide) rfl (fun ls hl => ?_)
            refine lv_iload_n hx hb d_X3_sellers_53 rfl (lv_at hl 0 rfl) ?_
            refine lv_if_eq (tgt := 64) hx hb d_X3_sellers_54 (by decide) (fun c21 => ?_) (fun c21 => ?_)
            · obtain ⟨x22, ex22⟩ : ∃ y : Int32, y = y2 + 1 := ⟨_, rfl⟩
              refine lv_iinc (v := x22) (lv' := [(2, .int x22), (3, .int 0), (0, .ref (ad k)), (1, .int price)]) hx hb d_X3_sellers_64 hl (k := 3) rfl (by rw [ex22]; rfl) (by decide) rfl (fun ls hl => ?_)
              have r23 : Rg x22 1 3 := rg_add ex22 r10 (⟨by decide, by decide⟩ : Rg 1 1 1) (by decide) (by decide)
              have s24 : x22.toInt = y2.toInt + (1 : Int32).toInt := by rw [ex22]; exact i_add (by obtain ⟨_, _⟩ := r10; obtain ⟨_, _⟩ := (⟨by decide, by decide⟩ : Rg 1 1 1); omega) (by obtain ⟨_, _⟩ := r10; obtain ⟨_, _⟩ := (⟨by decide, by decide⟩ : Rg 1 1 1); omega)
              have s24l : (1 : Int32).toInt = 1 := rfl
              refine lv_goto (tgt := 2) hx hb d_X3_sellers_67 (by decide) ?_
              exact ih0 x22 _ _ _ (by have := s24; obtain ⟨_, _⟩ := r23; omega) (rg_w r23 (by decide) (by decide)) hw hS (lv_sub hl [2, 3, 0] rfl)
            · exact absurd c21 (by decide)
          · have f25 := i_nle c19
            refine lv_iconst (v := 1) hx hb d_X3_sellers_47 (by decide) ?_
            refine lv_goto (tgt := 52) hx hb d_X3_sellers_48 (by decide) ?_
            refine lv_istore_n (lv' := [(3, .int 1), (0, .ref (ad k)), (1, .int price), (2, .int y2)]) hx hb d_X3_sellers_52 rfl hl (by decide) rfl (fun ls hl => ?_)
            refine lv_iload_n hx hb d_X3_sellers_53 rfl (lv_at hl 0 rfl) ?_
            refine lv_if_eq (tgt := 64) hx hb d_X3_sellers_54 (by decide) (fun c26 => ?_) (fun c26 => ?_)
            · exact absurd c26 (by decide)
            · refine lv_aload_n hx hb d_X3_sellers_57 rfl (lv_at hl 1 rfl) ?_
              refine r_getr (r := k + 10) X hw FL_X3_9 (KD_order (by omega) (by omega)) (SH_order0 (by omega) (by omega)) d_X3_sellers_58 ?_
              refine r_nm (fun kc27 ekc27 => ?_)
              refine lv_iload_n hx hb d_X3_sellers_61 rfl (lv_at hl 3 rfl) ?_
              refine r_iald X hw (KD_opart (by omega)) (Rg.vp (b := 2) r10 (by decide)) (SH_opart (by omega) (by omega)) d_X3_sellers_62 ?_
              refine lv_topi (fun x28 ex28 => ?_)
              have r29 : Rg x28 0 99 := by rw [ex28]; exact hI _ _ _ _ (RG_osell (by omega) (by omega))
              exact r_iret X hr hlocks hw hS ⟨rfl, r29⟩ d_X3_sellers_63
        · have f30 := i_ne c14
          refine lv_iload_n hx hb d_X3_sellers_19 rfl (lv_at hl 1 rfl) ?_
          refine lv_aload_n hx hb d_X3_sellers_20 rfl (lv_at hl 0 rfl) ?_
          refine r_getr (r := k + 20) X hw FL_X3_15 (KD_order (by omega) (by omega)) (SH_order1 (by omega) (by omega)) d_X3_sellers_21 ?_
          refine r_nm (fun kc31 ekc31 => ?_)
          refine lv_iload_n hx hb d_X3_sellers_24 rfl (lv_at hl 2 rfl) ?_
          refine r_iald X hw (KD_opart (by omega)) (Rg.vp (b := 2) r10 (by decide)) (SH_opart (by omega) (by omega)) d_X3_sellers_25 ?_
          refine lv_topi (fun x32 ex32 => ?_)
          refine lv_icmp_ge (tgt := 33) hx hb d_X3_sellers_26 (by decide) (fun c33 => ?_) (fun c33 => ?_)
          · have f34 := i_le c33
            refine lv_iconst (v := 0) hx hb d_X3_sellers_33 (by decide) ?_
            refine lv_goto (tgt := 52) hx hb d_X3_sellers_34 (by decide) ?_
            refine lv_istore_n (lv' := [(3, .int 0), (0, .ref (ad k)), (1, .int price), (2, .int y2)]) hx hb d_X3_sellers_52 rfl hl (by decide) rfl (fun ls hl => ?_)
            refine lv_iload_n hx hb d_X3_sellers_53 rfl (lv_at hl 0 rfl) ?_
            refine lv_if_eq (tgt := 64) hx hb d_X3_sellers_54 (by decide) (fun c35 => ?_) (fun c35 => ?_)
            · obtain ⟨x36, ex36⟩ : ∃ y : Int32, y = y2 + 1 := ⟨_, rfl⟩
              refine lv_iinc (v := x36) (lv' := [(2, .int x36), (3, .int 0), (0, .ref (ad k)), (1, .int price)]) hx hb d_X3_sellers_64 hl (k := 3) rfl (by rw [ex36]; rfl) (by decide) rfl (fun ls hl => ?_)
              have r37 : Rg x36 1 3 := rg_add ex36 r10 (⟨by decide, by decide⟩ : Rg 1 1 1) (by decide) (by decide)
              have s38 : x36.toInt = y2.toInt + (1 : Int32).toInt := by rw [ex36]; exact i_add (by obtain ⟨_, _⟩ := r10; obtain ⟨_, _⟩ := (⟨by decide, by decide⟩ : Rg 1 1 1); omega) (by obtain ⟨_, _⟩ := r10; obtain ⟨_, _⟩ := (⟨by decide, by decide⟩ : Rg 1 1 1); omega)
              have s38l : (1 : Int32).toInt = 1 := rfl
              refine lv_goto (tgt := 2) hx hb d_X3_sellers_67 (by decide) ?_
              exact ih0 x36 _ _ _ (by have := s38; obtain ⟨_, _⟩ := r37; omega) (rg_w r37 (by decide) (by decide)) hw hS (lv_sub hl [2, 3, 0] rfl)
            · exact absurd c35 (by decide)
          · have f39 := i_nle c33
            refine lv_iconst (v := 1) hx hb d_X3_sellers_29 (by decide) ?_
            refine lv_goto (tgt := 52) hx hb d_X3_sellers_30 (by decide) ?_
            refine lv_istore_n (lv' := [(3, .int 1), (0, .ref (ad k)), (1, .int price), (2, .int y2)]) hx hb d_X3_sellers_52 rfl hl (by decide) rfl (fun ls hl => ?_)
            refine lv_iload_n hx hb d_X3_sellers_53 rfl (lv_at hl 0 rfl) ?_
            refine lv_if_eq (tgt := 64) hx hb d_X3_sellers_54 (by decide) (fun c40 => ?_) (fun c40 => ?_)
            · exact absurd c40 (by decide)
            · refine lv_aload_n hx hb d_X3_sellers_57 rfl (lv_at hl 1 rfl) ?_
              refine r_getr (r := k + 10) X hw FL_X3_9 (KD_order (by omega) (by omega)) (SH_order0 (by omega) (by omega)) d_X3_sellers_58 ?_
              refine r_nm (fun kc41 ekc41 => ?_)
              refine lv_iload_n hx hb d_X3_sellers_61 rfl (lv_at hl 3 rfl) ?_
              refine r_iald X hw (KD_opart (by omega)) (Rg.vp (b := 2) r10 (by decide)) (SH_opart (by omega) (by omega)) d_X3_sellers_62 ?_
              refine lv_topi (fun x42 ex42 => ?_)
              have r43 : Rg x42 0 99 := by rw [ex42]; exact hI _ _ _ _ (RG_osell (by omega) (by omega))
              exact r_iret X hr hlocks hw hS ⟨rfl, r43⟩ d_X3_sellers_63
  have ih0 := LL 100000
  refine lv_iconst (v := 0) hx hb d_X3_sellers_0 (by decide) ?_
  refine lv_istore_n (lv' := [(2, .int 0), (0, .ref (ad k)), (1, .int price)]) hx hb d_X3_sellers_1 rfl hl (by decide) rfl (fun ls hl => ?_)
  exact ih0 0 _ _ _ (by obtain ⟨_, _⟩ := (⟨by decide, by decide⟩ : Rg 0 0 0); omega) (rg_w (⟨by decide, by decide⟩ : Rg 0 0 0) (by decide) (by decide)) hw hS (lv_sub hl [1, 2, 0] rfl)
theorem d_X3_keyOf_0 : decode c_X3_keyOf 0 = .ok (.aload_n 0, 1) := by decide +kernel
theorem d_X3_keyOf_1 : decode c_X3_keyOf 1 = .ok (.getfield 29, 3) := by decide +kernel
theorem d_X3_keyOf_4 : decode c_X3_keyOf 4 = .ok (.tableswitch 50 1 3 #[28, 33, 38], 28) := by decide +kernel
theorem d_X3_keyOf_32 : decode c_X3_keyOf 32 = .ok (.aload_n 2, 1) := by decide +kernel
theorem d_X3_keyOf_33 : decode c_X3_keyOf 33 = .ok (.getfield 35, 3) := by decide +kernel
theorem d_X3_keyOf_36 : decode c_X3_keyOf 36 = .ok (.ireturn, 1) := by decide +kernel
theorem d_X3_keyOf_37 : decode c_X3_keyOf 37 = .ok (.aload_n 2, 1) := by decide +kernel
theorem d_X3_keyOf_38 : decode c_X3_keyOf 38 = .ok (.getfield 40, 3) := by decide +kernel
theorem d_X3_keyOf_41 : decode c_X3_keyOf 41 = .ok (.ireturn, 1) := by decide +kernel
theorem d_X3_keyOf_42 : decode c_X3_keyOf 42 = .ok (.bipush 7, 2) := by decide +kernel
theorem d_X3_keyOf_44 : decode c_X3_keyOf 44 = .ok (.iload_n 1, 1) := by decide +kernel
theorem d_X3_keyOf_45 : decode c_X3_keyOf 45 = .ok (.imul, 1) := by decide +kernel
theorem d_X3_keyOf_46 : decode c_X3_keyOf 46 = .ok (.iconst 5, 1) := by decide +kernel
theorem d_X3_keyOf_47 : decode c_X3_keyOf 47 = .ok (.iload_n 3, 1) := by decide +kernel
theorem d_X3_keyOf_48 : decode c_X3_keyOf 48 = .ok (.imul, 1) := by decide +kernel
theorem d_X3_keyOf_49 : decode c_X3_keyOf 49 = .ok (.iadd, 1) := by decide +kernel
theorem d_X3_keyOf_50 : decode c_X3_keyOf 50 = .ok (.bipush 23, 2) := by decide +kernel
theorem d_X3_keyOf_52 : decode c_X3_keyOf 52 = .ok (.irem, 1) := by decide +kernel
theorem d_X3_keyOf_53 : decode c_X3_keyOf 53 = .ok (.ireturn, 1) := by decide +kernel
theorem d_X3_keyOf_54 : decode c_X3_keyOf 54 = .ok (.aload_n 2, 1) := by decide +kernel
theorem d_X3_keyOf_55 : decode c_X3_keyOf 55 = .ok (.getfield 43, 3) := by decide +kernel
theorem d_X3_keyOf_58 : decode c_X3_keyOf 58 = .ok (.ireturn, 1) := by decide +kernel
set_option maxHeartbeats 4000000 in
set_option maxRecDepth 100000 in
theorem ct_X3_keyOf (l : Launch) (D : va_G) (dA : Nat → ClassId) (ad : Nat → Nat) (v : tV) (hI : Inv v) (k : Nat) (si : Int32) (k2 : Nat) (today : Int32) (ka : 60 ≤ k) (kb : k < 69) (k2a : 100 ≤ k2) (k2b : k2 < 160) : Met l m_X3_keyOf [.code m_X3_keyOf c_X3_keyOf 4 (some .int)] ({ frames := 1, cells := 0, slots := 0, locals := 40 } : Room) (tP D dA ad v [.ref (ad k), .int si, .ref (ad k2), .int today]) (tQi D dA ad (fun r v' => v' = v)) 0 0 (tA ad) := by
  refine tMet (by decide) (Nat.le_of_ble_eq_true rfl) ?_
  intro p e s m below meth c ls X hr hlocks hw hl
  have X : CX p s m ([.ref (ad k), .int si, .ref (ad k2), .int today] : List Value).toArray c c_X3_keyOf N_X3 4 D dA := X
  have hx := X.1
  have hb := X.2.1
  have hS : va_S (tA ad) s.heap s.heap [] := va_S.rf
  have hl : lv_has ls 4 [(0, .ref (ad k)), (1, .int si), (2, .ref (ad k2)), (3, .int today)] := hl
  refine lv_aload_n hx hb d_X3_keyOf_0 rfl (lv_at hl 0 rfl) ?_
  refine r_geti X hw FL_X3_29 (KD_order (by omega) (by omega)) (SH_order (by omega) (by omega) (by decide)) d_X3_keyOf_1 ?_
  refine lv_topi (fun x1 ex1 => ?_)
  by_cases c2 : x1.toInt < 1 ∨ 3 < x1.toInt
  · refine lv_tableOut (tgt := 54) hx hb d_X3_keyOf_4 c2 (by decide) ?_
    refine lv_aload_n hx hb d_X3_keyOf_54 rfl (lv_at hl 2 rfl) ?_
    refine r_geti X hw FL_X3_43 (KD_ship (by omega) (by omega)) (SH_ship (by omega) (by omega)) d_X3_keyOf_55 ?_
    refine lv_topi (fun x3 ex3 => ?_)
    exact r_iret X hr hlocks hw hS rfl d_X3_keyOf_58
  · have c2b : x1.toInt = 1 ∨ x1.toInt = 2 ∨ x1.toInt = 3 := by omega
    rcases c2b with c2e | c2e | c2e
    · refine lv_tableIn (off := 28) (tgt := 32) hx hb d_X3_keyOf_4 (by omega) (by omega) (by rw [c2e]; rfl) (by decide) ?_
      refine lv_aload_n hx hb d_X3_keyOf_32 rfl (lv_at hl 2 rfl) ?_
      refine r_geti X hw FL_X3_35 (KD_ship (by omega) (by omega)) (SH_ship (by omega) (by omega)) d_X3_keyOf_33 ?_
      refine lv_topi (fun x4 ex4 => ?_)
      exact r_iret X hr hlocks hw hS rfl d_X3_keyOf_36
    · refine lv_tableIn (off := 33) (tgt := 37) hx hb d_X3_keyOf_4 (by omega) (by omega) (by rw [c2e]; rfl) (by decide) ?_
      refine lv_aload_n hx hb d_X3_keyOf_37 rfl (lv_at hl 2 rfl) ?_
      refine r_geti X hw FL_X3_40 (KD_ship (by omega) (by omega)) (SH_ship (by omega) (by omega)) d_X3_keyOf_38 ?_
      refine lv_topi (fun x5 ex5 => ?_)
      exact r_iret X hr hlocks hw hS rfl d_X3_keyOf_41
    · refine lv_tableIn (off := 38) (tgt := 42) hx hb d_X3_keyOf_4 (by omega) (by omega) (by rw [c2e]; rfl) (by decide) ?_
      refine lv_bipush (v := 7) hx hb d_X3_keyOf_42 (by decide) ?_
      refine lv_iload_n hx hb d_X3_keyOf_44 rfl (lv_at hl 1 rfl) ?_
      refine lv_imul hx hb d_X3_keyOf_45 ?_
      refine lv_topi (fun x6 ex6 => ?_)
      refine lv_iconst (v := 5) hx hb d_X3_keyOf_46 (by decide) ?_
      refine lv_iload_n hx hb d_X3_keyOf_47 rfl (lv_at hl 3 rfl) ?_
      refine lv_imul hx hb d_X3_keyOf_48 ?_
      refine lv_topi (fun x7 ex7 => ?_)
      refine lv_iadd hx hb d_X3_keyOf_49 ?_
      refine lv_topi (fun x8 ex8 => ?_)
      refine lv_bipush (v := 23) hx hb d_X3_keyOf_50 (by decide) ?_
      refine lv_irem hx hb d_X3_keyOf_52 (by decide) ?_
      refine lv_topi (fun x9 ex9 => ?_)
      exact r_iret X hr hlocks hw hS rfl d_X3_keyOf_53
end
section
def cp5 (v : tV) (k0 k1 : Nat) : tV := fun a b => if a = k1 ∧ b < 5 then v k0 b else v a b
theorem inv_cp5 {v : tV} (h : Inv v) {k0 k1 : Nat} (hr : ∀ j, RG k1 j = none) : Inv (cp5 v k0 k1) := by
  intro a b lo hi hab
  unfold cp5
  by_cases q : a = k1 ∧ b < 5
  · rw [q.1, hr] at hab
    cases hab
  · rw [if_neg q]
    exact h a b lo hi hab
theorem kp_cp5 {u v : tV} (h : Kp u v) {k0 k1 : Nat} (hp : ∀ j, PS k1 j = false) : Kp u (cp5 v k0 k1) := by
  intro a b hab
  unfold cp5
  by_cases q : a = k1 ∧ b < 5
  · rw [q.1, hp] at hab
    cases hab
  · rw [if_neg q]
    exact h a b hab
theorem aw_link : Cond.methodLink N_X9 15 arraycopyName ∈ BIG := tb_in 670 (by decide +kernel) rfl
theorem aw_stat : Cond.static arraycopyName ∈ BIG := tb_in 671 (by decide +kernel) rfl
theorem aw_nat : Cond.native arraycopyName ∈ BIG := tb_in 672 (by decide +kernel) rfl
theorem aw_ini : Cond.initialized "java/lang/System" ∈ BIG := tb_in 54 (by decide +kernel) rfl
theorem r_acopy {p : Program} {l : Launch} {e : Env} {R : Room} {s : State} {m : MethodId} {args : Array Value} {below : List Frame} {meth : Method} {c : Code} {cells slots : Nat} {Q : State → Prop} {cc : ByteArray} {pc : Nat} {ls : Array Slot} {rest : List Value} {D : va_G} {dA : Nat → ClassId} {ad : Nat → Nat} {v : tV} {k0 k1 : Nat}
    {nL : Nat} (X : CX p s m args c cc N_X9 nL D dA) (hsz : ls.size = nL) (hw : tI D dA ad v s.heap) (h0 : KD k0 = some (12, 5)) (h1 : KD k1 = some (12, 5)) (hne : k0 ≠ k1) (s0 : ∀ j, SH k0 j = none) (s1 : ∀ j, SH k1 j = none) (hframes : 1 ≤ R.frames) (hlocals : (rest.map fun v => v.category).sum + (nativeFrameWords "java/lang/System" "arraycopy" 5 + 11) ≤ R.locals) (hd : decode cc pc = .ok (.invokestatic 15, 3))
    (kk : ∀ (H1 : Heap) (locs1 : List Loc), tI D dA ad (cp5 v k0 k1) H1 → va_S (tA ad) s.heap H1 locs1 → W p l e R s m args below meth c H1 locs1 cells slots Q (F0 m (pc + 3) ls rest)) : W p l e R s m args below meth c s.heap [] cells slots Q (F0 m pc ls (.int 5 :: .int 0 :: .ref (ad k1) :: .int 0 :: .ref (ad k0) :: rest)) := by
  obtain ⟨hx, hb, hml, hown, hts, hK, hB⟩ := X
  have a0 : s.heap[ad k0]? = some (vp_cell (dA 12) (5, .inl (v k0))) := by
    rw [tw_arr hw h0 (by decide), vp_cell_i]
    have : tw_u ad v k0 = fun j => .int (v k0 j) := funext fun j => tw_u_int (s0 j)
    rw [this]
  have a1 : s.heap[ad k1]? = some (vp_cell (dA 12) (5, .inl (v k1))) := by
    rw [tw_arr hw h1 (by decide), vp_cell_i]
    have : tw_u ad v k1 = fun j => .int (v k1 j) := funext fun j => tw_u_int (s1 j)
    rw [this]
  have hap : ad k0 ≠ ad k1 := fun q => hne (hw.2 k0 k1 _ _ h0 h1 q)
  have hP : va_P D CLS [(ad k0, .inl (dA 12, 5, .inl (v k0))), (ad k1, .inl (dA 12, 5, .inl (v k1)))] s.heap := by
    intro k q hq
    match k, hq with
    | 0, hq => cases hq; exact a0
    | 1, hq => cases hq; exact a1
    | k + 2, hq => simp at hq
  have hD : va_D (fun q => q = ad k1 ∨ q = ad k0) [(ad k0, .inl (dA 12, 5, .inl (v k0))), (ad k1, .inl (dA 12, 5, .inl (v k1)))] := by
    refine ⟨fun i j x y hi hj hxy => ?_, fun k q hq => ?_⟩
    · match i, j, hi, hj with
      | 0, 0, _, _ => rfl
      | 1, 1, _, _ => rfl
      | 0, 1, hi, hj => cases hi; cases hj; exact absurd hxy hap
      | 1, 0, hi, hj => cases hi; cases hj; exact absurd hxy.symm hap
      | i + 2, _, hi, _ => simp at hi
      | _, j + 2, _, hj => simp at hj
    · match k, hq with
      | 0, hq => cases hq; exact Or.inr rfl
      | 1, hq => cases hq; exact Or.inl rfl
      | k + 2, hq => simp at hq
  refine va_copyi (A := fun q => q = ad k1 ∨ q = ad k0) (H0 := s.heap) hx hb (hml.trans hsz.symm) hown (hts _ aw_link) (hts _ aw_nat) (hts _ aw_stat) (hts _ aw_ini) hK hP hD va_S.rf 0 1 0 0 rfl rfl rfl rfl rfl (by decide) (by decide) (by decide) (by decide) (by decide) (fun _ _ => rfl) hframes hlocals hd (fun H1 locs1 hP1 hD1 hS1 => ?_)
  have b0 : H1[ad k0]? = some (vp_cell (dA 12) (5, .inl (v k0))) := hP1 0 (ad k0, .inl (dA 12, 5, .inl (v k0))) rfl
  have b1 : H1[ad k1]? = some (vp_cell (dA 12) (5, .inl (va_cpy (v k0) (v k1) (0 : Int32).toNatClampNeg (0 : Int32).toNatClampNeg (5 : Int32).toNatClampNeg))) := hP1 1 _ rfl
  have hko : ∀ k kn, KD k = some kn → k ≠ k1 → H1[ad k]? = s.heap[ad k]? := by
    intro k kn hk hn
    by_cases q : k = k0
    · subst q
      rw [b0, a0]
    · have hlt : ad k < s.heap.size := by
        rcases hw.1 k kn hk with ⟨_, r, h1, cell, q1, q2⟩ | ⟨_, h⟩
        · exact (Array.getElem?_eq_some_iff.mp q1).1
        · exact (Array.getElem?_eq_some_iff.mp h).1
      exact hS1.2.1 _ hlt (fun z => z.elim (fun z => hn (hw.2 k k1 _ _ hk h1 z)) (fun z => q (hw.2 k k0 _ _ hk h0 z)))
  refine kk H1 locs1 ⟨fun k kn hk => ?_, hw.2⟩ ⟨hS1.1, fun q g1 g2 => hS1.2.1 q g1 (fun z => g2 (z.elim (fun z => ⟨k1, _, h1, z⟩) (fun z => ⟨k0, _, h0, z⟩))), fun q hq => (hS1.2.2 q hq).elim (fun z => ⟨k1, _, h1, z⟩) (fun z => ⟨k0, _, h0, z⟩)⟩
  by_cases q : k = k1
  · subst q
    have e : kn = (12, 5) := Option.some.inj (hk.symm.trans h1)
    subst e
    refine Or.inr ⟨by decide, ?_⟩
    rw [b1, vp_cell_i]
    congr 2
    funext j
    rw [tw_u_int (s1 j)]
    congr 1
    show va_cpy (v k0) (v k) 0 0 5 j = cp5 v k0 k k j
    unfold va_cpy cp5
    by_cases z : j < 5
    · rw [if_pos ⟨Nat.zero_le _, by omega⟩, if_pos ⟨rfl, z⟩]
      congr 1
      omega
    · rw [if_neg (by omega), if_neg (fun y => z y.2)]
  · have e : tw_u ad (cp5 v k0 k1) k = tw_u ad v k := by
      funext j
      unfold tw_u cp5
      simp [q]
    rw [e]
    exact (hw.1 k kn hk).kept (hko k kn hk q)
theorem kc_X5_75 : Cond.constant N_X5 75 1000000 ∈ BIG := tb_in 623 (by decide +kernel) rfl
theorem kc_X5_67 : Cond.constant N_X5 67 2147483647 ∈ BIG := tb_in 632 (by decide +kernel) rfl
theorem d_X4_has_0 : decode c_X4_has 0 = .ok (.iload_n 1, 1) := by decide +kernel
theorem d_X4_has_1 : decode c_X4_has 1 = .ok (.iconst 0, 1) := by decide +kernel
theorem d_X4_has_2 : decode c_X4_has 2 = .ok (.aload_n 0, 1) := by decide +kernel
theorem d_X4_has_3 : decode c_X4_has 3 = .ok (.getfield 22, 3) := by decide +kernel
theorem d_X4_has_6 : decode c_X4_has 6 = .ok (.iconst 1, 1) := by decide +kernel
theorem d_X4_has_7 : decode c_X4_has 7 = .ok (.isub, 1) := by decide +kernel
theorem d_X4_has_8 : decode c_X4_has 8 = .ok (.invokestatic 26, 3) := by decide +kernel
theorem d_X4_has_11 : decode c_X4_has 11 = .ok (.ireturn, 1) := by decide +kernel
set_option maxHeartbeats 4000000 in
set_option maxRecDepth 100000 in
theorem ct_X4_has_50 (l : Launch) (D : va_G) (dA : Nat → ClassId) (ad : Nat → Nat) (v : tV) (hI : Inv v) (si : Int32) : Met l m_X4_has [.code m_X4_has c_X4_has 2 (some .boolean)] ({ frames := 2, cells := 0, slots := 0, locals := 62 } : Room) (tP D dA ad v [.ref (ad 50), .int si]) (tQi D dA ad (fun r v' => v' = v ∧ ((r = 1 ∧ 0 ≤ si.toInt ∧ si.toInt ≤ (v 50 2).toInt - 1) ∨ (r = 0 ∧ ¬ (0 ≤ si.toInt ∧ si.toInt ≤ (v 50 2).toInt - 1))))) 0 0 (tA ad) := by
  refine tMet (by decide) (Nat.le_of_ble_eq_true rfl) ?_
  intro p e s m below meth c ls X hr hlocks hw hl
  have X : CX p s m ([.ref (ad 50), .int si] : List Value).toArray c c_X4_has N_X4 2 D dA := X
  have hx := X.1
  have hb := X.2.1
  have hS : va_S (tA ad) s.heap s.heap [] := va_S.rf
  have hl : lv_has ls 2 [(0, .ref (ad 50)), (1, .int si)] := hl
  refine lv_iload_n hx hb d_X4_has_0 rfl (lv_at hl 1 rfl) ?_
  refine lv_iconst (v := 0) hx hb d_X4_has_1 (by decide) ?_
  refine lv_aload_n hx hb d_X4_has_2 rfl (lv_at hl 0 rfl) ?_
  refine r_geti X hw FL_X4_22 (rfl : KD 50 = _) rfl d_X4_has_3 ?_
  refine lv_topi (fun x1 ex1 => ?_)
  have r2 : Rg x1 0 8 := by rw [ex1]; exact hI _ _ _ _ rfl
  have hm3 : v 50 2 = x1 := ex1.symm
  refine lv_iconst (v := 1) hx hb d_X4_has_6 (by decide) ?_
  refine lv_isub hx hb d_X4_has_7 ?_
  refine lv_topi (fun x4 ex4 => ?_)
  have r5 : Rg x4 (-1) 7 := rg_sub ex4 r2 (⟨by decide, by decide⟩ : Rg 1 1 1) (by decide) (by decide)
  have s6 : x4.toInt = x1.toInt - (1 : Int32).toInt := by rw [ex4]; exact i_sub (by obtain ⟨_, _⟩ := r2; obtain ⟨_, _⟩ := (⟨by decide, by decide⟩ : Rg 1 1 1); omega) (by obtain ⟨_, _⟩ := r2; obtain ⟨_, _⟩ := (⟨by decide, by decide⟩ : Rg 1 1 1); omega)
  have s6l : (1 : Int32).toInt = 1 := rfl
  refine r_ci (r_runSN (n := 3) (As := [.int si, .int 0, .int x4]) (rest := []) X hw (ct_X10_within l D dA ad v hI si 0 x4) gn_X4_26 gc_X4_26 (by decide +kernel) ⟨rfl, rfl, Nat.le_of_ble_eq_true rfl, Nat.le_of_ble_eq_true rfl⟩ rfl hl.1 rfl (Nat.le_of_ble_eq_true rfl) ⟨Nat.zero_le _, Nat.zero_le _⟩ d_X4_has_8) hS (fun x8 v9 H locs hp7 hw hS => ?_)
  obtain ⟨ev9, hp7⟩ := hp7
  rw [ev9] at hw
  rcases hp7 with ⟨rfl, w10a, w10b⟩ | ⟨rfl, w10n⟩
  · skip
    have r11 : Rg si 0 7 := by obtain ⟨_, _⟩ := (rg_any si); have : (0 : Int32).toInt = 0 := rfl; obtain ⟨_, _⟩ := r5; exact ⟨by omega, by omega⟩
    exact r_zret X hr hlocks hw hS rfl ⟨rfl, Or.inl ⟨rfl, by have q := congrArg Int32.toInt hm3; have : (0 : Int32).toInt = 0 := rfl; omega, by have q := congrArg Int32.toInt hm3; have : (0 : Int32).toInt = 0 := rfl; omega⟩⟩ d_X4_has_11
  · skip
    exact r_zret X hr hlocks hw hS rfl ⟨rfl, Or.inr ⟨rfl, by have q := congrArg Int32.toInt hm3; have : (0 : Int32).toInt = 0 := rfl; omega⟩⟩ d_X4_has_11
theorem d_X6_hasShip_0 : decode c_X6_hasShip 0 = .ok (.iload_n 1, 1) := by decide +kernel
theorem d_X6_hasShip_1 : decode c_X6_hasShip 1 = .ok (.iconst 0, 1) := by decide +kernel
theorem d_X6_hasShip_2 : decode c_X6_hasShip 2 = .ok (.aload_n 0, 1) := by decide +kernel
theorem d_X6_hasShip_3 : decode c_X6_hasShip 3 = .ok (.getfield 29, 3) := by decide +kernel
theorem d_X6_hasShip_6 : decode c_X6_hasShip 6 = .ok (.iconst 1, 1) := by decide +kernel
theorem d_X6_hasShip_7 : decode c_X6_hasShip 7 = .ok (.isub, 1) := by decide +kernel
theorem d_X6_hasShip_8 : decode c_X6_hasShip 8 = .ok (.invokestatic 55, 3) := by decide +kernel
theorem d_X6_hasShip_11 : decode c_X6_hasShip 11 = .ok (.ireturn, 1) := by decide +kernel
set_option maxHeartbeats 4000000 in
set_option maxRecDepth 100000 in
theorem ct_X6_hasShip_1 (l : Launch) (D : va_G) (dA : Nat → ClassId) (ad : Nat → Nat) (v : tV) (hI : Inv v) (si : Int32) : Met l m_X6_hasShip [.code m_X6_hasShip c_X6_hasShip 2 (some .boolean)] ({ frames := 2, cells := 0, slots := 0, locals := 62 } : Room) (tP D dA ad v [.ref (ad 1), .int si]) (tQi D dA ad (fun r v' => v' = v ∧ ((r = 1 ∧ 0 ≤ si.toInt ∧ si.toInt ≤ (v 1 3).toInt - 1) ∨ (r = 0 ∧ ¬ (0 ≤ si.toInt ∧ si.toInt ≤ (v 1 3).toInt - 1))))) 0 0 (tA ad) := by
  refine tMet (by decide) (Nat.le_of_ble_eq_true rfl) ?_
  intro p e s m below meth c ls X hr hlocks hw hl
  have X : CX p s m ([.ref (ad 1), .int si] : List Value).toArray c c_X6_hasShip N_X6 2 D dA := X
  have hx := X.1
  have hb := X.2.1
  have hS : va_S (tA ad) s.heap s.heap [] := va_S.rf
  have hl : lv_has ls 2 [(0, .ref (ad 1)), (1, .int si)] := hl
  refine lv_iload_n hx hb d_X6_hasShip_0 rfl (lv_at hl 1 rfl) ?_
  refine lv_iconst (v := 0) hx hb d_X6_hasShip_1 (by decide) ?_
  refine lv_aload_n hx hb d_X6_hasShip_2 rfl (lv_at hl 0 rfl) ?_
  refine r_geti X hw FL_X6_29 (rfl : KD 1 = _) rfl d_X6_hasShip_3 ?_
  refine lv_topi (fun x1 ex1 => ?_)
  have r2 : Rg x1 0 20 := by rw [ex1]; exact hI _ _ _ _ rfl
  have hm3 : v 1 3 = x1 := ex1.symm
  refine lv_iconst (v := 1) hx hb d_X6_hasShip_6 (by decide) ?_
  refine lv_isub hx hb d_X6_hasShip_7 ?_
  refine lv_topi (fun x4 ex4 => ?_)
  have r5 : Rg x4 (-1) 19 := rg_sub ex4 r2 (⟨by decide, by decide⟩ : Rg 1 1 1) (by decide) (by decide)
  have s6 : x4.toInt = x1.toInt - (1 : Int32).toInt := by rw [ex4]; exact i_sub (by obtain ⟨_, _⟩ := r2; obtain ⟨_, _⟩ := (⟨by decide, by decide⟩ : Rg 1 1 1); omega) (by obtain ⟨_, _⟩ := r2; obtain ⟨_, _⟩ := (⟨by decide, by decide⟩ : Rg 1 1 1); omega)
  have s6l : (1 : Int32).toInt = 1 := rfl
  refine r_ci (r_runSN (n := 3) (As := [.int si, .int 0, .int x4]) (rest := []) X hw (ct_X10_within l D dA ad v hI si 0 x4) gn_X6_55 gc_X6_55 (by decide +kernel) ⟨rfl, rfl, Nat.le_of_ble_eq_true rfl, Nat.le_of_ble_eq_true rfl⟩ rfl hl.1 rfl (Nat.le_of_ble_eq_true rfl) ⟨Nat.zero_le _, Nat.zero_le _⟩ d_X6_hasShip_8) hS (fun x8 v9 H locs hp7 hw hS => ?_)
  obtain ⟨ev9, hp7⟩ := hp7
  rw [ev9] at hw
  rcases hp7 with ⟨rfl, w10a, w10b⟩ | ⟨rfl, w10n⟩
  · skip
    have r11 : Rg si 0 19 := by obtain ⟨_, _⟩ := (rg_any si); have : (0 : Int32).toInt = 0 := rfl; obtain ⟨_, _⟩ := r5; exact ⟨by omega, by omega⟩
    exact r_zret X hr hlocks hw hS rfl ⟨rfl, Or.inl ⟨rfl, by have q := congrArg Int32.toInt hm3; have : (0 : Int32).toInt = 0 := rfl; omega, by have q := congrArg Int32.toInt hm3; have : (0 : Int32).toInt = 0 := rfl; omega⟩⟩ d_X6_hasShip_11
  · skip
    exact r_zret X hr hlocks hw hS rfl ⟨rfl, Or.inr ⟨rfl, by have q := congrArg Int32.toInt hm3; have : (0 : Int32).toInt = 0 := rfl; omega⟩⟩ d_X6_hasShip_11
set_option maxHeartbeats 4000000 in
set_option maxRecDepth 100000 in
theorem ct_X6_hasShip_2 (l : Launch) (D : va_G) (dA : Nat → ClassId) (ad : Nat → Nat) (v : tV) (hI : Inv v) (si : Int32) : Met l m_X6_hasShip [.code m_X6_hasShip c_X6_hasShip 2 (some .boolean)] ({ frames := 2, cells := 0, slots := 0, locals := 62 } : Room) (tP D dA ad v [.ref (ad 2), .int si]) (tQi D dA ad (fun r v' => v' = v ∧ ((r = 1 ∧ 0 ≤ si.toInt ∧ si.toInt ≤ (v 2 3).toInt - 1) ∨ (r = 0 ∧ ¬ (0 ≤ si.toInt ∧ si.toInt ≤ (v 2 3).toInt - 1))))) 0 0 (tA ad) := by
  refine tMet (by decide) (Nat.le_of_ble_eq_true rfl) ?_
  intro p e s m below meth c ls X hr hlocks hw hl
  have X : CX p s m ([.ref (ad 2), .int si] : List Value).toArray c c_X6_hasShip N_X6 2 D dA := X
  have hx := X.1
  have hb := X.2.1
  have hS : va_S (tA ad) s.heap s.heap [] := va_S.rf
  have hl : lv_has ls 2 [(0, .ref (ad 2)), (1, .int si)] := hl
  refine lv_iload_n hx hb d_X6_hasShip_0 rfl (lv_at hl 1 rfl) ?_
  refine lv_iconst (v := 0) hx hb d_X6_hasShip_1 (by decide) ?_
  refine lv_aload_n hx hb d_X6_hasShip_2 rfl (lv_at hl 0 rfl) ?_
  refine r_geti X hw FL_X6_29 (rfl : KD 2 = _) rfl d_X6_hasShip_3 ?_
  refine lv_topi (fun x1 ex1 => ?_)
  have r2 : Rg x1 0 20 := by rw [ex1]; exact hI _ _ _ _ rfl
  have hm3 : v 2 3 = x1 := ex1.symm
  refine lv_iconst (v := 1) hx hb d_X6_hasShip_6 (by decide) ?_
  refine lv_isub hx hb d_X6_hasShip_7 ?_
  refine lv_topi (fun x4 ex4 => ?_)
  have r5 : Rg x4 (-1) 19 := rg_sub ex4 r2 (⟨by decide, by decide⟩ : Rg 1 1 1) (by decide) (by decide)
  have s6 : x4.toInt = x1.toInt - (1 : Int32).toInt := by rw [ex4]; exact i_sub (by obtain ⟨_, _⟩ := r2; obtain ⟨_, _⟩ := (⟨by decide, by decide⟩ : Rg 1 1 1); omega) (by obtain ⟨_, _⟩ := r2; obtain ⟨_, _⟩ := (⟨by decide, by decide⟩ : Rg 1 1 1); omega)
  have s6l : (1 : Int32).toInt = 1 := rfl
  refine r_ci (r_runSN (n := 3) (As := [.int si, .int 0, .int x4]) (rest := []) X hw (ct_X10_within l D dA ad v hI si 0 x4) gn_X6_55 gc_X6_55 (by decide +kernel) ⟨rfl, rfl, Nat.le_of_ble_eq_true rfl, Nat.le_of_ble_eq_true rfl⟩ rfl hl.1 rfl (Nat.le_of_ble_eq_true rfl) ⟨Nat.zero_le _, Nat.zero_le _⟩ d_X6_hasShip_8) hS (fun x8 v9 H locs hp7 hw hS => ?_)
  obtain ⟨ev9, hp7⟩ := hp7
  rw [ev9] at hw
  rcases hp7 with ⟨rfl, w10a, w10b⟩ | ⟨rfl, w10n⟩
  · skip
    have r11 : Rg si 0 19 := by obtain ⟨_, _⟩ := (rg_any si); have : (0 : Int32).toInt = 0 := rfl; obtain ⟨_, _⟩ := r5; exact ⟨by omega, by omega⟩
    exact r_zret X hr hlocks hw hS rfl ⟨rfl, Or.inl ⟨rfl, by have q := congrArg Int32.toInt hm3; have : (0 : Int32).toInt = 0 := rfl; omega, by have q := congrArg Int32.toInt hm3; have : (0 : Int32).toInt = 0 := rfl; omega⟩⟩ d_X6_hasShip_11
  · skip
    exact r_zret X hr hlocks hw hS rfl ⟨rfl, Or.inr ⟨rfl, by have q := congrArg Int32.toInt hm3; have : (0 : Int32).toInt = 0 := rfl; omega⟩⟩ d_X6_hasShip_11
theorem d_X4_inForce_0 : decode c_X4_inForce 0 = .ok (.iconst (-1), 1) := by decide +kernel
theorem d_X4_inForce_1 : decode c_X4_inForce 1 = .ok (.istore_n 2, 1) := by decide +kernel
theorem d_X4_inForce_2 : decode c_X4_inForce 2 = .ok (.iconst 0, 1) := by decide +kernel
theorem d_X4_inForce_3 : decode c_X4_inForce 3 = .ok (.istore_n 3, 1) := by decide +kernel
theorem d_X4_inForce_4 : decode c_X4_inForce 4 = .ok (.iload_n 3, 1) := by decide +kernel
theorem d_X4_inForce_5 : decode c_X4_inForce 5 = .ok (.aload_n 0, 1) := by decide +kernel
theorem d_X4_inForce_6 : decode c_X4_inForce 6 = .ok (.getfield 22, 3) := by decide +kernel
theorem d_X4_inForce_9 : decode c_X4_inForce 9 = .ok (.if_icmp .ge 62, 3) := by decide +kernel
theorem d_X4_inForce_12 : decode c_X4_inForce 12 = .ok (.iload_n 2, 1) := by decide +kernel
theorem d_X4_inForce_13 : decode c_X4_inForce 13 = .ok (.iconst (-1), 1) := by decide +kernel
theorem d_X4_inForce_14 : decode c_X4_inForce 14 = .ok (.if_icmp .eq 24, 3) := by decide +kernel
theorem d_X4_inForce_17 : decode c_X4_inForce 17 = .ok (.aload_n 0, 1) := by decide +kernel
theorem d_X4_inForce_18 : decode c_X4_inForce 18 = .ok (.getfield 11, 3) := by decide +kernel
theorem d_X4_inForce_21 : decode c_X4_inForce 21 = .ok (.iload_n 3, 1) := by decide +kernel
theorem d_X4_inForce_22 : decode c_X4_inForce 22 = .ok (.aaload, 1) := by decide +kernel
theorem d_X4_inForce_23 : decode c_X4_inForce 23 = .ok (.getfield 30, 3) := by decide +kernel
theorem d_X4_inForce_26 : decode c_X4_inForce 26 = .ok (.aload_n 0, 1) := by decide +kernel
theorem d_X4_inForce_27 : decode c_X4_inForce 27 = .ok (.getfield 11, 3) := by decide +kernel
theorem d_X4_inForce_30 : decode c_X4_inForce 30 = .ok (.iload_n 2, 1) := by decide +kernel
theorem d_X4_inForce_31 : decode c_X4_inForce 31 = .ok (.aaload, 1) := by decide +kernel
theorem d_X4_inForce_32 : decode c_X4_inForce 32 = .ok (.getfield 30, 3) := by decide +kernel
theorem d_X4_inForce_35 : decode c_X4_inForce 35 = .ok (.if_icmp .lt 7, 3) := by decide +kernel
theorem d_X4_inForce_38 : decode c_X4_inForce 38 = .ok (.iconst 1, 1) := by decide +kernel
theorem d_X4_inForce_39 : decode c_X4_inForce 39 = .ok (.goto 4, 3) := by decide +kernel
theorem d_X4_inForce_42 : decode c_X4_inForce 42 = .ok (.iconst 0, 1) := by decide +kernel
theorem d_X4_inForce_43 : decode c_X4_inForce 43 = .ok (.istore 4, 2) := by decide +kernel
theorem d_X4_inForce_45 : decode c_X4_inForce 45 = .ok (.iload 4, 2) := by decide +kernel
theorem d_X4_inForce_47 : decode c_X4_inForce 47 = .ok (.ifCond .eq 18, 3) := by decide +kernel
theorem d_X4_inForce_50 : decode c_X4_inForce 50 = .ok (.aload_n 0, 1) := by decide +kernel
theorem d_X4_inForce_51 : decode c_X4_inForce 51 = .ok (.getfield 11, 3) := by decide +kernel
theorem d_X4_inForce_54 : decode c_X4_inForce 54 = .ok (.iload_n 3, 1) := by decide +kernel
theorem d_X4_inForce_55 : decode c_X4_inForce 55 = .ok (.aaload, 1) := by decide +kernel
theorem d_X4_inForce_56 : decode c_X4_inForce 56 = .ok (.getfield 30, 3) := by decide +kernel
theorem d_X4_inForce_59 : decode c_X4_inForce 59 = .ok (.iload_n 1, 1) := by decide +kernel
theorem d_X4_inForce_60 : decode c_X4_inForce 60 = .ok (.if_icmp .gt 5, 3) := by decide +kernel
theorem d_X4_inForce_63 : decode c_X4_inForce 63 = .ok (.iload_n 3, 1) := by decide +kernel
theorem d_X4_inForce_64 : decode c_X4_inForce 64 = .ok (.istore_n 2, 1) := by decide +kernel
theorem d_X4_inForce_65 : decode c_X4_inForce 65 = .ok (.iinc 3 1, 3) := by decide +kernel
theorem d_X4_inForce_68 : decode c_X4_inForce 68 = .ok (.goto (-64), 3) := by decide +kernel
theorem d_X4_inForce_71 : decode c_X4_inForce 71 = .ok (.iload_n 2, 1) := by decide +kernel
theorem d_X4_inForce_72 : decode c_X4_inForce 72 = .ok (.ireturn, 1) := by decide +kernel
set_option maxHeartbeats 4000000 in
set_option maxRecDepth 100000 in
theorem ct_X4_inForce_50 (l : Launch) (D : va_G) (dA : Nat → ClassId) (ad : Nat → Nat) (v : tV) (hI : Inv v) (dy : Int32) : Met l m_X4_inForce [.code m_X4_inForce c_X4_inForce 5 (some .int)] ({ frames := 1, cells := 0, slots := 0, locals := 40 } : Room) (tP D dA ad v [.ref (ad 50), .int dy]) (tQi D dA ad (fun r v' => v' = v ∧ Rg r (-1) 7)) 0 0 (tA ad) := by
  refine tMet (by decide) (Nat.le_of_ble_eq_true rfl) ?_
  intro p e s m below meth c ls X hr hlocks hw hl
  have X : CX p s m ([.ref (ad 50), .int dy] : List Value).toArray c c_X4_inForce N_X4 5 D dA := X
  have hx := X.1
  have hb := X.2.1
  have hS : va_S (tA ad) s.heap s.heap [] := va_S.rf
  have hl : lv_has ls 5 [(0, .ref (ad 50)), (1, .int dy)] := hl
  have LL : ∀ n : Nat, (∀ (y2 : Int32) (y3 : Int32)  (H : Heap) (locs : List Loc) (ls : Array Slot), (8 - y3.toInt).toNat < n → Rg y2 (-1) 7 → Rg y3 0 8 → tI D dA ad v H → va_S (tA ad) s.heap H locs → lv_has ls 5 [(0, .ref (ad 50)), (1, .int dy), (2, .int y2), (3, .int y3)] → W p l e ({ frames := 1, cells := 0, slots := 0, locals := 40 } : Room) s m ([.ref (ad 50), .int dy] : List Value).toArray below meth c H locs 0 0 (MQ below (tQi D dA ad (fun r v' => v' = v ∧ Rg r (-1) 7)) ([.ref (ad 50), .int dy] : List Value).toArray s 0 0 (tA ad)) (F0 m 4 ls [])) := by
    intro n
    induction n with
    | zero => intros; omega
    | succ n ih =>
      have ih0 := ih
      intro y2 y3 H locs ls hmu r_y2 r_y3 hw hS hl
      refine lv_iload_n hx hb d_X4_inForce_4 rfl (lv_at hl 3 rfl) ?_
      refine lv_aload_n hx hb d_X4_inForce_5 rfl (lv_at hl 0 rfl) ?_
      refine r_geti X hw FL_X4_22 (rfl : KD 50 = _) rfl d_X4_inForce_6 ?_
      refine lv_topi (fun x1 ex1 => ?_)
      have r2 : Rg x1 0 8 := by rw [ex1]; exact hI _ _ _ _ rfl
      have hm3 : v 50 2 = x1 := ex1.symm
      refine lv_icmp_ge (tgt := 71) hx hb d_X4_inForce_9 (by decide) (fun c4 => ?_) (fun c4 => ?_)
      · have f5 := i_le c4
        refine lv_iload_n hx hb d_X4_inForce_71 rfl (lv_at hl 2 rfl) ?_
        exact r_iret X hr hlocks hw hS ⟨rfl, r_y2⟩ d_X4_inForce_72
      · have f6 := i_nle c4
        have r7 : Rg y3 0 7 := by obtain ⟨a1, a2⟩ := r_y3; obtain ⟨b1, b2⟩ := r2; have f := i_nle c4; exact ⟨by omega, by omega⟩
        have r8 : Rg x1 1 8 := by obtain ⟨a1, a2⟩ := r_y3; obtain ⟨b1, b2⟩ := r2; have f := i_nle c4; exact ⟨by omega, by omega⟩
        refine lv_iload_n hx hb d_X4_inForce_12 rfl (lv_at hl 2 rfl) ?_
        refine lv_iconst (v := -1) hx hb d_X4_inForce_13 (by decide) ?_
        refine lv_icmp_eq (tgt := 38) hx hb d_X4_inForce_14 (by decide) (fun c9 => ?_) (fun c9 => ?_)
        · have f10 := i_eq c9
          have r11 : Rg y2 (-1) (-1) := by obtain ⟨a1, a2⟩ := r_y2; obtain ⟨b1, b2⟩ := (⟨by decide, by decide⟩ : Rg (-1) (-1) (-1)); have f := i_eq c9; exact ⟨by omega, by omega⟩
          refine lv_iconst (v := 1) hx hb d_X4_inForce_38 (by decide) ?_
          refine lv_goto (tgt := 43) hx hb d_X4_inForce_39 (by decide) ?_
          refine lv_istore (lv' := [(4, .int 1), (0, .ref (ad 50)), (1, .int dy), (2, .int y2), (3, .int y3)]) hx hb d_X4_inForce_43 hl (by decide) rfl (fun ls hl => ?_)
          refine lv_iload hx hb d_X4_inForce_45 (lv_at hl 0 rfl) ?_
          refine lv_if_eq (tgt := 65) hx hb d_X4_inForce_47 (by decide) (fun c12 => ?_) (fun c12 => ?_)
          · exact absurd c12 (by decide)
          · refine lv_aload_n hx hb d_X4_inForce_50 rfl (lv_at hl 1 rfl) ?_
            refine r_getr (r := 51) X hw FL_X4_11 (rfl : KD 50 = _) rfl d_X4_inForce_51 ?_
            refine lv_iload_n hx hb d_X4_inForce_54 rfl (lv_at hl 4 rfl) ?_
            refine r_aald X hw (rfl : KD 51 = _) (Or.inr (Or.inr (Or.inr rfl))) (Rg.vp (b := 7) r7 (by decide)) rfl d_X4_inForce_55 ?_
            refine r_nm (fun kc13 ekc13 => ?_)
            have kc13a : 60 ≤ kc13 := by omega
            have kc13b : kc13 ≤ 67 := by have := Rg.nat r7; omega
            refine r_geti X hw FL_X4_30 (KD_order (by omega) (by omega)) (SH_order (by omega) (by omega) (by decide)) d_X4_inForce_56 ?_
            refine lv_topi (fun x14 ex14 => ?_)
            refine lv_iload_n hx hb d_X4_inForce_59 rfl (lv_at hl 2 rfl) ?_
            refine lv_icmp_gt (tgt := 65) hx hb d_X4_inForce_60 (by decide) (fun c15 => ?_) (fun c15 => ?_)
            · have f16 := i_lt c15
              obtain ⟨x17, ex17⟩ : ∃ y : Int32, y = y3 + 1 := ⟨_, rfl⟩
              refine lv_iinc (v := x17) (lv' := [(3, .int x17), (4, .int 1), (0, .ref (ad 50)), (1, .int dy), (2, .int y2)]) hx hb d_X4_inForce_65 hl (k := 4) rfl (by rw [ex17]; rfl) (by decide) rfl (fun ls hl => ?_)
              have r18 : Rg x17 1 8 := rg_add ex17 r7 (⟨by decide, by decide⟩ : Rg 1 1 1) (by decide) (by decide)
              have s19 : x17.toInt = y3.toInt + (1 : Int32).toInt := by rw [ex17]; exact i_add (by obtain ⟨_, _⟩ := r7; obtain ⟨_, _⟩ := (⟨by decide, by decide⟩ : Rg 1 1 1); omega) (by obtain ⟨_, _⟩ := r7; obtain ⟨_, _⟩ := (⟨by decide, by decide⟩ : Rg 1 1 1); omega)
              have s19l : (1 : Int32).toInt = 1 := rfl
              refine lv_goto (tgt := 4) hx hb d_X4_inForce_68 (by decide) ?_
              exact ih0 y2 x17 _ _ _ (by have := s19; obtain ⟨_, _⟩ := r11; obtain ⟨_, _⟩ := r18; omega) (rg_w r11 (by decide) (by decide)) (rg_w r18 (by decide) (by decide)) hw hS (lv_sub hl [2, 3, 4, 0] rfl)
            · have f20 := i_nlt c15
              refine lv_iload_n hx hb d_X4_inForce_63 rfl (lv_at hl 4 rfl) ?_
              refine lv_istore_n (lv' := [(2, .int y3), (4, .int 1), (0, .ref (ad 50)), (1, .int dy), (3, .int y3)]) hx hb d_X4_inForce_64 rfl hl (by decide) rfl (fun ls hl => ?_)
              obtain ⟨x21, ex21⟩ : ∃ y : Int32, y = y3 + 1 := ⟨_, rfl⟩
              refine lv_iinc (v := x21) (lv' := [(3, .int x21), (2, .int y3), (4, .int 1), (0, .ref (ad 50)), (1, .int dy)]) hx hb d_X4_inForce_65 hl (k := 4) rfl (by rw [ex21]; rfl) (by decide) rfl (fun ls hl => ?_)
              have r22 : Rg x21 1 8 := rg_add ex21 r7 (⟨by decide, by decide⟩ : Rg 1 1 1) (by decide) (by decide)
              have s23 : x21.toInt = y3.toInt + (1 : Int32).toInt := by rw [ex21]; exact i_add (by obtain ⟨_, _⟩ := r7; obtain ⟨_, _⟩ := (⟨by decide, by decide⟩ : Rg 1 1 1); omega) (by obtain ⟨_, _⟩ := r7; obtain ⟨_, _⟩ := (⟨by decide, by decide⟩ : Rg 1 1 1); omega)
              have s23l : (1 : Int32).toInt = 1 := rfl
              refine lv_goto (tgt := 4) hx hb d_X4_inForce_68 (by decide) ?_
              exact ih0 y3 x21 _ _ _ (by have := s23; obtain ⟨_, _⟩ := r7; obtain ⟨_, _⟩ := r22; omega) (rg_w r7 (by decide) (by decide)) (rg_w r22 (by decide) (by decide)) hw hS (lv_sub hl [3, 4, 1, 0] rfl)
        · have f24 := i_ne c9
          have r25 : Rg y2 0 7 := by obtain ⟨a1, a2⟩ := r_y2; obtain ⟨b1, b2⟩ := (⟨by decide, by decide⟩ : Rg (-1) (-1) (-1)); have f := i_ne c9; exact ⟨by omega, by omega⟩
          refine lv_aload_n hx hb d_X4_inForce_17 rfl (lv_at hl 0 rfl) ?_
          refine r_getr (r := 51) X hw FL_X4_11 (rfl : KD 50 = _) rfl d_X4_inForce_18 ?_
          refine lv_iload_n hx hb d_X4_inForce_21 rfl (lv_at hl 3 rfl) ?_
          refine r_aald X hw (rfl : KD 51 = _) (Or.inr (Or.inr (Or.inr rfl))) (Rg.vp (b := 7) r7 (by decide)) rfl d_X4_inForce_22 ?_
          refine r_nm (fun kc26 ekc26 => ?_)
          have kc26a : 60 ≤ kc26 := by omega
          have kc26b : kc26 ≤ 67 := by have := Rg.nat r7; omega
          refine r_geti X hw FL_X4_30 (KD_order (by omega) (by omega)) (SH_order (by omega) (by omega) (by decide)) d_X4_inForce_23 ?_
          refine lv_topi (fun x27 ex27 => ?_)
          refine lv_aload_n hx hb d_X4_inForce_26 rfl (lv_at hl 0 rfl) ?_
          refine r_getr (r := 51) X hw FL_X4_11 (rfl : KD 50 = _) rfl d_X4_inForce_27 ?_
          refine lv_iload_n hx hb d_X4_inForce_30 rfl (lv_at hl 2 rfl) ?_
          refine r_aald X hw (rfl : KD 51 = _) (Or.inr (Or.inr (Or.inr rfl))) (Rg.vp (b := 7) r25 (by decide)) rfl d_X4_inForce_31 ?_
          refine r_nm (fun kc28 ekc28 => ?_)
          have kc28a : 60 ≤ kc28 := by omega
          have kc28b : kc28 ≤ 67 := by have := Rg.nat r25; omega
          refine r_geti X hw FL_X4_30 (KD_order (by omega) (by omega)) (SH_order (by omega) (by omega) (by decide)) d_X4_inForce_32 ?_
          refine lv_topi (fun x29 ex29 => ?_)
          refine lv_icmp_lt (tgt := 42) hx hb d_X4_inForce_35 (by decide) (fun c30 => ?_) (fun c30 => ?_)
          · have f31 := i_lt c30
            refine lv_iconst (v := 0) hx hb d_X4_inForce_42 (by decide) ?_
            refine lv_istore (lv' := [(4, .int 0), (0, .ref (ad 50)), (1, .int dy), (2, .int y2), (3, .int y3)]) hx hb d_X4_inForce_43 hl (by decide) rfl (fun ls hl => ?_)
            refine lv_iload hx hb d_X4_inForce_45 (lv_at hl 0 rfl) ?_
            refine lv_if_eq (tgt := 65) hx hb d_X4_inForce_47 (by decide) (fun c32 => ?_) (fun c32 => ?_)
            · obtain ⟨x33, ex33⟩ : ∃ y : Int32, y = y3 + 1 := ⟨_, rfl⟩
              refine lv_iinc (v := x33) (lv' := [(3, .int x33), (4, .int 0), (0, .ref (ad 50)), (1, .int dy), (2, .int y2)]) hx hb d_X4_inForce_65 hl (k := 4) rfl (by rw [ex33]; rfl) (by decide) rfl (fun ls hl => ?_)
              have r34 : Rg x33 1 8 := rg_add ex33 r7 (⟨by decide, by decide⟩ : Rg 1 1 1) (by decide) (by decide)
              have s35 : x33.toInt = y3.toInt + (1 : Int32).toInt := by rw [ex33]; exact i_add (by obtain ⟨_, _⟩ := r7; obtain ⟨_, _⟩ := (⟨by decide, by decide⟩ : Rg 1 1 1); omega) (by obtain ⟨_, _⟩ := r7; obtain ⟨_, _⟩ := (⟨by decide, by decide⟩ : Rg 1 1 1); omega)
              have s35l : (1 : Int32).toInt = 1 := rfl
              refine lv_goto (tgt := 4) hx hb d_X4_inForce_68 (by decide) ?_
              exact ih0 y2 x33 _ _ _ (by have := s35; obtain ⟨_, _⟩ := r25; obtain ⟨_, _⟩ := r34; omega) (rg_w r25 (by decide) (by decide)) (rg_w r34 (by decide) (by decide)) hw hS (lv_sub hl [2, 3, 4, 0] rfl)
            · exact absurd c32 (by decide)
          · have f36 := i_nlt c30
            refine lv_iconst (v := 1) hx hb d_X4_inForce_38 (by decide) ?_
            refine lv_goto (tgt := 43) hx hb d_X4_inForce_39 (by decide) ?_
            refine lv_istore (lv' := [(4, .int 1), (0, .ref (ad 50)), (1, .int dy), (2, .int y2), (3, .int y3)]) hx hb d_X4_inForce_43 hl (by decide) rfl (fun ls hl => ?_)
            refine lv_iload hx hb d_X4_inForce_45 (lv_at hl 0 rfl) ?_
            refine lv_if_eq (tgt := 65) hx hb d_X4_inForce_47 (by decide) (fun c37 => ?_) (fun c37 => ?_)
            · exact absurd c37 (by decide)
            · refine lv_aload_n hx hb d_X4_inForce_50 rfl (lv_at hl 1 rfl) ?_
              refine r_getr (r := 51) X hw FL_X4_11 (rfl : KD 50 = _) rfl d_X4_inForce_51 ?_
              refine lv_iload_n hx hb d_X4_inForce_54 rfl (lv_at hl 4 rfl) ?_
              refine r_aald X hw (rfl : KD 51 = _) (Or.inr (Or.inr (Or.inr rfl))) (Rg.vp (b := 7) r7 (by decide)) rfl d_X4_inForce_55 ?_
              refine r_nm (fun kc38 ekc38 => ?_)
              have kc38a : 60 ≤ kc38 := by omega
              have kc38b : kc38 ≤ 67 := by have := Rg.nat r7; omega
              refine r_geti X hw FL_X4_30 (KD_order (by omega) (by omega)) (SH_order (by omega) (by omega) (by decide)) d_X4_inForce_56 ?_
              refine lv_topi (fun x39 ex39 => ?_)
              refine lv_iload_n hx hb d_X4_inForce_59 rfl (lv_at hl 2 rfl) ?_
              refine lv_icmp_gt (tgt := 65) hx hb d_X4_inForce_60 (by decide) (fun c40 => ?_) (fun c40 => ?_)
              · have f41 := i_lt c40
                obtain ⟨x42, ex42⟩ : ∃ y : Int32, y = y3 + 1 := ⟨_, rfl⟩
                refine lv_iinc (v := x42) (lv' := [(3, .int x42), (4, .int 1), (0, .ref (ad 50)), (1, .int dy), (2, .int y2)]) hx hb d_X4_inForce_65 hl (k := 4) rfl (by rw [ex42]; rfl) (by decide) rfl (fun ls hl => ?_)
                have r43 : Rg x42 1 8 := rg_add ex42 r7 (⟨by decide, by decide⟩ : Rg 1 1 1) (by decide) (by decide)
                have s44 : x42.toInt = y3.toInt + (1 : Int32).toInt := by rw [ex42]; exact i_add (by obtain ⟨_, _⟩ := r7; obtain ⟨_, _⟩ := (⟨by decide, by decide⟩ : Rg 1 1 1); omega) (by obtain ⟨_, _⟩ := r7; obtain ⟨_, _⟩ := (⟨by decide, by decide⟩ : Rg 1 1 1); omega)
                have s44l : (1 : Int32).toInt = 1 := rfl
                refine lv_goto (tgt := 4) hx hb d_X4_inForce_68 (by decide) ?_
                exact ih0 y2 x42 _ _ _ (by have := s44; obtain ⟨_, _⟩ := r25; obtain ⟨_, _⟩ := r43; omega) (rg_w r25 (by decide) (by decide)) (rg_w r43 (by decide) (by decide)) hw hS (lv_sub hl [2, 3, 4, 0] rfl)
              · have f45 := i_nlt c40
                refine lv_iload_n hx hb d_X4_inForce_63 rfl (lv_at hl 4 rfl) ?_
                refine lv_istore_n (lv' := [(2, .int y3), (4, .int 1), (0, .ref (ad 50)), (1, .int dy), (3, .int y3)]) hx hb d_X4_inForce_64 rfl hl (by decide) rfl (fun ls hl => ?_)
                obtain ⟨x46, ex46⟩ : ∃ y : Int32, y = y3 + 1 := ⟨_, rfl⟩
                refine lv_iinc (v := x46) (lv' := [(3, .int x46), (2, .int y3), (4, .int 1), (0, .ref (ad 50)), (1, .int dy)]) hx hb d_X4_inForce_65 hl (k := 4) rfl (by rw [ex46]; rfl) (by decide) rfl (fun ls hl => ?_)
                have r47 : Rg x46 1 8 := rg_add ex46 r7 (⟨by decide, by decide⟩ : Rg 1 1 1) (by decide) (by decide)
                have s48 : x46.toInt = y3.toInt + (1 : Int32).toInt := by rw [ex46]; exact i_add (by obtain ⟨_, _⟩ := r7; obtain ⟨_, _⟩ := (⟨by decide, by decide⟩ : Rg 1 1 1); omega) (by obtain ⟨_, _⟩ := r7; obtain ⟨_, _⟩ := (⟨by decide, by decide⟩ : Rg 1 1 1); omega)
                have s48l : (1 : Int32).toInt = 1 := rfl
                refine lv_goto (tgt := 4) hx hb d_X4_inForce_68 (by decide) ?_
                exact ih0 y3 x46 _ _ _ (by have := s48; obtain ⟨_, _⟩ := r7; obtain ⟨_, _⟩ := r47; omega) (rg_w r7 (by decide) (by decide)) (rg_w r47 (by decide) (by decide)) hw hS (lv_sub hl [3, 4, 1, 0] rfl)
  have ih0 := LL 100000
  refine lv_iconst (v := -1) hx hb d_X4_inForce_0 (by decide) ?_
  refine lv_istore_n (lv' := [(2, .int (-1)), (0, .ref (ad 50)), (1, .int dy)]) hx hb d_X4_inForce_1 rfl hl (by decide) rfl (fun ls hl => ?_)
  refine lv_iconst (v := 0) hx hb d_X4_inForce_2 (by decide) ?_
  refine lv_istore_n (lv' := [(3, .int 0), (2, .int (-1)), (0, .ref (ad 50)), (1, .int dy)]) hx hb d_X4_inForce_3 rfl hl (by decide) rfl (fun ls hl => ?_)
  exact ih0 (-1) 0 _ _ _ (by obtain ⟨_, _⟩ := (⟨by decide, by decide⟩ : Rg (-1) (-1) (-1)); obtain ⟨_, _⟩ := (⟨by decide, by decide⟩ : Rg 0 0 0); omega) (rg_w (⟨by decide, by decide⟩ : Rg (-1) (-1) (-1)) (by decide) (by decide)) (rg_w (⟨by decide, by decide⟩ : Rg 0 0 0) (by decide) (by decide)) hw hS (lv_sub hl [2, 3, 1, 0] rfl)
theorem d_X4_ruleOn_0 : decode c_X4_ruleOn 0 = .ok (.aload_n 0, 1) := by decide +kernel
theorem d_X4_ruleOn_1 : decode c_X4_ruleOn 1 = .ok (.iload_n 1, 1) := by decide +kernel
theorem d_X4_ruleOn_2 : decode c_X4_ruleOn 2 = .ok (.invokevirtual 33, 3) := by decide +kernel
theorem d_X4_ruleOn_5 : decode c_X4_ruleOn 5 = .ok (.istore_n 2, 1) := by decide +kernel
theorem d_X4_ruleOn_6 : decode c_X4_ruleOn 6 = .ok (.iload_n 2, 1) := by decide +kernel
theorem d_X4_ruleOn_7 : decode c_X4_ruleOn 7 = .ok (.iconst (-1), 1) := by decide +kernel
theorem d_X4_ruleOn_8 : decode c_X4_ruleOn 8 = .ok (.if_icmp .ne 10, 3) := by decide +kernel
theorem d_X4_ruleOn_11 : decode c_X4_ruleOn 11 = .ok (.aload_n 0, 1) := by decide +kernel
theorem d_X4_ruleOn_12 : decode c_X4_ruleOn 12 = .ok (.getfield 18, 3) := by decide +kernel
theorem d_X4_ruleOn_15 : decode c_X4_ruleOn 15 = .ok (.goto 9, 3) := by decide +kernel
theorem d_X4_ruleOn_18 : decode c_X4_ruleOn 18 = .ok (.aload_n 0, 1) := by decide +kernel
theorem d_X4_ruleOn_19 : decode c_X4_ruleOn 19 = .ok (.getfield 11, 3) := by decide +kernel
theorem d_X4_ruleOn_22 : decode c_X4_ruleOn 22 = .ok (.iload_n 2, 1) := by decide +kernel
theorem d_X4_ruleOn_23 : decode c_X4_ruleOn 23 = .ok (.aaload, 1) := by decide +kernel
theorem d_X4_ruleOn_24 : decode c_X4_ruleOn 24 = .ok (.areturn, 1) := by decide +kernel
set_option maxHeartbeats 4000000 in
set_option maxRecDepth 100000 in
theorem ct_X4_ruleOn_50 (l : Launch) (D : va_G) (dA : Nat → ClassId) (ad : Nat → Nat) (v : tV) (hI : Inv v) (dy : Int32) : Met l m_X4_ruleOn [.code m_X4_ruleOn c_X4_ruleOn 3 (some (.object "CoalTurns$Order"))] ({ frames := 2, cells := 0, slots := 0, locals := 64 } : Room) (tP D dA ad v [.ref (ad 50), .int dy]) (tQr D dA ad (fun r v' => v' = v ∧ 60 ≤ r ∧ r < 69)) 0 0 (tA ad) := by
  refine tMet (by decide) (Nat.le_of_ble_eq_true rfl) ?_
  intro p e s m below meth c ls X hr hlocks hw hl
  have X : CX p s m ([.ref (ad 50), .int dy] : List Value).toArray c c_X4_ruleOn N_X4 3 D dA := X
  have hx := X.1
  have hb := X.2.1
  have hS : va_S (tA ad) s.heap s.heap [] := va_S.rf
  have hl : lv_has ls 3 [(0, .ref (ad 50)), (1, .int dy)] := hl
  refine lv_aload_n hx hb d_X4_ruleOn_0 rfl (lv_at hl 0 rfl) ?_
  refine lv_iload_n hx hb d_X4_ruleOn_1 rfl (lv_at hl 1 rfl) ?_
  refine r_ci (r_runV (n := 1) (As := [.int dy]) (rest := []) X hw (ct_X4_inForce_50 l D dA ad v hI dy) gc_X4_33 (rfl : KD 50 = _) (by decide) rfl (by decide +kernel) ⟨rfl, rfl, Nat.le_of_ble_eq_true rfl, Nat.le_of_ble_eq_true rfl⟩ rfl hl.1 rfl (Nat.le_of_ble_eq_true rfl) ⟨Nat.zero_le _, Nat.zero_le _⟩ d_X4_ruleOn_2) hS (fun x2 v3 H locs hp1 hw hS => ?_)
  obtain ⟨ev3, hp1⟩ := hp1
  rw [ev3] at hw
  refine lv_istore_n (lv' := [(2, .int x2), (0, .ref (ad 50)), (1, .int dy)]) hx hb d_X4_ruleOn_5 rfl hl (by decide) rfl (fun ls hl => ?_)
  refine lv_iload_n hx hb d_X4_ruleOn_6 rfl (lv_at hl 0 rfl) ?_
  refine lv_iconst (v := -1) hx hb d_X4_ruleOn_7 (by decide) ?_
  refine lv_icmp_ne (tgt := 18) hx hb d_X4_ruleOn_8 (by decide) (fun c4 => ?_) (fun c4 => ?_)
  · have f5 := i_ne c4
    have r6 : Rg x2 0 7 := by obtain ⟨a1, a2⟩ := hp1; obtain ⟨b1, b2⟩ := (⟨by decide, by decide⟩ : Rg (-1) (-1) (-1)); have f := i_ne c4; exact ⟨by omega, by omega⟩
    refine lv_aload_n hx hb d_X4_ruleOn_18 rfl (lv_at hl 1 rfl) ?_
    refine r_getr (r := 51) X hw FL_X4_11 (rfl : KD 50 = _) rfl d_X4_ruleOn_19 ?_
    refine lv_iload_n hx hb d_X4_ruleOn_22 rfl (lv_at hl 0 rfl) ?_
    refine r_aald X hw (rfl : KD 51 = _) (Or.inr (Or.inr (Or.inr rfl))) (Rg.vp (b := 7) r6 (by decide)) rfl d_X4_ruleOn_23 ?_
    refine r_nm (fun kc7 ekc7 => ?_)
    have kc7a : 60 ≤ kc7 := by omega
    have kc7b : kc7 ≤ 67 := by have := Rg.nat r6; omega
    exact r_aret X hr hlocks hw hS ⟨rfl, by omega, by omega⟩ d_X4_ruleOn_24
  · have f8 := i_eq c4
    have r9 : Rg x2 (-1) (-1) := by obtain ⟨a1, a2⟩ := hp1; obtain ⟨b1, b2⟩ := (⟨by decide, by decide⟩ : Rg (-1) (-1) (-1)); have f := i_eq c4; exact ⟨by omega, by omega⟩
    refine lv_aload_n hx hb d_X4_ruleOn_11 rfl (lv_at hl 1 rfl) ?_
    refine r_getr (r := 68) X hw FL_X4_18 (rfl : KD 50 = _) rfl d_X4_ruleOn_12 ?_
    refine r_nm (fun kc10 ekc10 => ?_)
    refine lv_goto (tgt := 24) hx hb d_X4_ruleOn_15 (by decide) ?_
    exact r_aret X hr hlocks hw hS ⟨rfl, by omega, by omega⟩ d_X4_ruleOn_24
theorem d_X5_rank_0 : decode c_X5_rank 0 = .ok (.aload_n 2, 1) := by decide +kernel
theorem d_X5_rank_1 : decode c_X5_rank 1 = .ok (.iload_n 0, 1) := by decide +kernel
theorem d_X5_rank_2 : decode c_X5_rank 2 = .ok (.aload_n 1, 1) := by decide +kernel
theorem d_X5_rank_3 : decode c_X5_rank 3 = .ok (.iload_n 3, 1) := by decide +kernel
theorem d_X5_rank_4 : decode c_X5_rank 4 = .ok (.invokevirtual 68, 3) := by decide +kernel
theorem d_X5_rank_7 : decode c_X5_rank 7 = .ok (.aload_n 1, 1) := by decide +kernel
theorem d_X5_rank_8 : decode c_X5_rank 8 = .ok (.getfield 72, 3) := by decide +kernel
theorem d_X5_rank_11 : decode c_X5_rank 11 = .ok (.iconst 2, 1) := by decide +kernel
theorem d_X5_rank_12 : decode c_X5_rank 12 = .ok (.if_icmp .ne 8, 3) := by decide +kernel
theorem d_X5_rank_15 : decode c_X5_rank 15 = .ok (.ldc 75, 2) := by decide +kernel
theorem d_X5_rank_17 : decode c_X5_rank 17 = .ok (.goto 4, 3) := by decide +kernel
theorem d_X5_rank_20 : decode c_X5_rank 20 = .ok (.iconst 0, 1) := by decide +kernel
theorem d_X5_rank_21 : decode c_X5_rank 21 = .ok (.iadd, 1) := by decide +kernel
theorem d_X5_rank_22 : decode c_X5_rank 22 = .ok (.ireturn, 1) := by decide +kernel
set_option maxHeartbeats 4000000 in
set_option maxRecDepth 100000 in
theorem ct_X5_rank (l : Launch) (D : va_G) (dA : Nat → ClassId) (ad : Nat → Nat) (v : tV) (hI : Inv v) (si : Int32) (k : Nat) (k2 : Nat) (today : Int32) (ka : 100 ≤ k) (kb : k < 160) (k2a : 60 ≤ k2) (k2b : k2 < 69) : Met l m_X5_rank [.code m_X5_rank c_X5_rank 4 (some .int)] ({ frames := 2, cells := 0, slots := 0, locals := 63 } : Room) (tP D dA ad v [.int si, .ref (ad k), .ref (ad k2), .int today]) (tQi D dA ad (fun r v' => v' = v)) 0 0 (tA ad) := by
  refine tMet (by decide) (Nat.le_of_ble_eq_true rfl) ?_
  intro p e s m below meth c ls X hr hlocks hw hl
  have X : CX p s m ([.int si, .ref (ad k), .ref (ad k2), .int today] : List Value).toArray c c_X5_rank N_X5 4 D dA := X
  have hx := X.1
  have hb := X.2.1
  have hS : va_S (tA ad) s.heap s.heap [] := va_S.rf
  have hl : lv_has ls 4 [(0, .int si), (1, .ref (ad k)), (2, .ref (ad k2)), (3, .int today)] := hl
  refine lv_aload_n hx hb d_X5_rank_0 rfl (lv_at hl 2 rfl) ?_
  refine lv_iload_n hx hb d_X5_rank_1 rfl (lv_at hl 0 rfl) ?_
  refine lv_aload_n hx hb d_X5_rank_2 rfl (lv_at hl 1 rfl) ?_
  refine lv_iload_n hx hb d_X5_rank_3 rfl (lv_at hl 3 rfl) ?_
  refine r_ci (r_runV (n := 3) (As := [.int si, .ref (ad k), .int today]) (rest := []) X hw (ct_X3_keyOf l D dA ad v hI k2 si k today (by omega) (by omega) (by omega) (by omega)) gc_X5_68 (KD_order (by omega) (by omega)) (by decide) rfl (by decide +kernel) ⟨rfl, rfl, Nat.le_of_ble_eq_true rfl, Nat.le_of_ble_eq_true rfl⟩ rfl hl.1 rfl (Nat.le_of_ble_eq_true rfl) ⟨Nat.zero_le _, Nat.zero_le _⟩ d_X5_rank_4) hS (fun x2 v3 H locs hp1 hw hS => ?_)
  rw [hp1] at hw
  refine lv_aload_n hx hb d_X5_rank_7 rfl (lv_at hl 1 rfl) ?_
  refine r_geti X hw FL_X5_72 (KD_ship (by omega) (by omega)) (SH_ship (by omega) (by omega)) d_X5_rank_8 ?_
  refine lv_topi (fun x4 ex4 => ?_)
  refine lv_iconst (v := 2) hx hb d_X5_rank_11 (by decide) ?_
  refine lv_icmp_ne (tgt := 20) hx hb d_X5_rank_12 (by decide) (fun c5 => ?_) (fun c5 => ?_)
  · have f6 := i_ne c5
    refine lv_iconst (v := 0) hx hb d_X5_rank_20 (by decide) ?_
    refine lv_iadd hx hb d_X5_rank_21 ?_
    refine lv_topi (fun x7 ex7 => ?_)
    exact r_iret X hr hlocks hw hS rfl d_X5_rank_22
  · have f8 := i_eq c5
    have r9 : Rg x4 2 2 := by obtain ⟨a1, a2⟩ := (rg_any x4); obtain ⟨b1, b2⟩ := (⟨by decide, by decide⟩ : Rg 2 2 2); have f := i_eq c5; exact ⟨by omega, by omega⟩
    refine lv_ldc hx hb X.2.2.2.1 (X.2.2.2.2.1 _ kc_X5_75) d_X5_rank_15 ?_
    refine lv_goto (tgt := 21) hx hb d_X5_rank_17 (by decide) ?_
    refine lv_iadd hx hb d_X5_rank_21 ?_
    refine lv_topi (fun x10 ex10 => ?_)
    exact r_iret X hr hlocks hw hS rfl d_X5_rank_22
theorem d_X5_insert_0 : decode c_X5_insert 0 = .ok (.aload_n 0, 1) := by decide +kernel
theorem d_X5_insert_1 : decode c_X5_insert 1 = .ok (.getfield 18, 3) := by decide +kernel
theorem d_X5_insert_4 : decode c_X5_insert 4 = .ok (.bipush 20, 2) := by decide +kernel
theorem d_X5_insert_6 : decode c_X5_insert 6 = .ok (.if_icmp .lt 4, 3) := by decide +kernel
theorem d_X5_insert_9 : decode c_X5_insert 9 = .ok (.return_, 1) := by decide +kernel
theorem d_X5_insert_10 : decode c_X5_insert 10 = .ok (.aload_n 0, 1) := by decide +kernel
theorem d_X5_insert_11 : decode c_X5_insert 11 = .ok (.getfield 18, 3) := by decide +kernel
theorem d_X5_insert_14 : decode c_X5_insert 14 = .ok (.istore_n 3, 1) := by decide +kernel
theorem d_X5_insert_15 : decode c_X5_insert 15 = .ok (.iload_n 3, 1) := by decide +kernel
theorem d_X5_insert_16 : decode c_X5_insert 16 = .ok (.ifCond .le 49, 3) := by decide +kernel
theorem d_X5_insert_19 : decode c_X5_insert 19 = .ok (.aload_n 0, 1) := by decide +kernel
theorem d_X5_insert_20 : decode c_X5_insert 20 = .ok (.getfield 15, 3) := by decide +kernel
theorem d_X5_insert_23 : decode c_X5_insert 23 = .ok (.iload_n 3, 1) := by decide +kernel
theorem d_X5_insert_24 : decode c_X5_insert 24 = .ok (.iconst 1, 1) := by decide +kernel
theorem d_X5_insert_25 : decode c_X5_insert 25 = .ok (.isub, 1) := by decide +kernel
theorem d_X5_insert_26 : decode c_X5_insert 26 = .ok (.iaload, 1) := by decide +kernel
theorem d_X5_insert_27 : decode c_X5_insert 27 = .ok (.iload_n 2, 1) := by decide +kernel
theorem d_X5_insert_28 : decode c_X5_insert 28 = .ok (.if_icmp .le 37, 3) := by decide +kernel
theorem d_X5_insert_31 : decode c_X5_insert 31 = .ok (.aload_n 0, 1) := by decide +kernel
theorem d_X5_insert_32 : decode c_X5_insert 32 = .ok (.getfield 9, 3) := by decide +kernel
theorem d_X5_insert_35 : decode c_X5_insert 35 = .ok (.iload_n 3, 1) := by decide +kernel
theorem d_X5_insert_36 : decode c_X5_insert 36 = .ok (.aload_n 0, 1) := by decide +kernel
theorem d_X5_insert_37 : decode c_X5_insert 37 = .ok (.getfield 9, 3) := by decide +kernel
theorem d_X5_insert_40 : decode c_X5_insert 40 = .ok (.iload_n 3, 1) := by decide +kernel
theorem d_X5_insert_41 : decode c_X5_insert 41 = .ok (.iconst 1, 1) := by decide +kernel
theorem d_X5_insert_42 : decode c_X5_insert 42 = .ok (.isub, 1) := by decide +kernel
theorem d_X5_insert_43 : decode c_X5_insert 43 = .ok (.iaload, 1) := by decide +kernel
theorem d_X5_insert_44 : decode c_X5_insert 44 = .ok (.iastore, 1) := by decide +kernel
theorem d_X5_insert_45 : decode c_X5_insert 45 = .ok (.aload_n 0, 1) := by decide +kernel
theorem d_X5_insert_46 : decode c_X5_insert 46 = .ok (.getfield 15, 3) := by decide +kernel
theorem d_X5_insert_49 : decode c_X5_insert 49 = .ok (.iload_n 3, 1) := by decide +kernel
theorem d_X5_insert_50 : decode c_X5_insert 50 = .ok (.aload_n 0, 1) := by decide +kernel
theorem d_X5_insert_51 : decode c_X5_insert 51 = .ok (.getfield 15, 3) := by decide +kernel
theorem d_X5_insert_54 : decode c_X5_insert 54 = .ok (.iload_n 3, 1) := by decide +kernel
theorem d_X5_insert_55 : decode c_X5_insert 55 = .ok (.iconst 1, 1) := by decide +kernel
theorem d_X5_insert_56 : decode c_X5_insert 56 = .ok (.isub, 1) := by decide +kernel
theorem d_X5_insert_57 : decode c_X5_insert 57 = .ok (.iaload, 1) := by decide +kernel
theorem d_X5_insert_58 : decode c_X5_insert 58 = .ok (.iastore, 1) := by decide +kernel
theorem d_X5_insert_59 : decode c_X5_insert 59 = .ok (.iinc 3 (-1), 3) := by decide +kernel
theorem d_X5_insert_62 : decode c_X5_insert 62 = .ok (.goto (-47), 3) := by decide +kernel
theorem d_X5_insert_65 : decode c_X5_insert 65 = .ok (.aload_n 0, 1) := by decide +kernel
theorem d_X5_insert_66 : decode c_X5_insert 66 = .ok (.getfield 9, 3) := by decide +kernel
theorem d_X5_insert_69 : decode c_X5_insert 69 = .ok (.iload_n 3, 1) := by decide +kernel
theorem d_X5_insert_70 : decode c_X5_insert 70 = .ok (.iload_n 1, 1) := by decide +kernel
theorem d_X5_insert_71 : decode c_X5_insert 71 = .ok (.iastore, 1) := by decide +kernel
theorem d_X5_insert_72 : decode c_X5_insert 72 = .ok (.aload_n 0, 1) := by decide +kernel
theorem d_X5_insert_73 : decode c_X5_insert 73 = .ok (.getfield 15, 3) := by decide +kernel
theorem d_X5_insert_76 : decode c_X5_insert 76 = .ok (.iload_n 3, 1) := by decide +kernel
theorem d_X5_insert_77 : decode c_X5_insert 77 = .ok (.iload_n 2, 1) := by decide +kernel
theorem d_X5_insert_78 : decode c_X5_insert 78 = .ok (.iastore, 1) := by decide +kernel
theorem d_X5_insert_79 : decode c_X5_insert 79 = .ok (.aload_n 0, 1) := by decide +kernel
theorem d_X5_insert_80 : decode c_X5_insert 80 = .ok (.dup, 1) := by decide +kernel
theorem d_X5_insert_81 : decode c_X5_insert 81 = .ok (.getfield 18, 3) := by decide +kernel
theorem d_X5_insert_84 : decode c_X5_insert 84 = .ok (.iconst 1, 1) := by decide +kernel
theorem d_X5_insert_85 : decode c_X5_insert 85 = .ok (.iadd, 1) := by decide +kernel
theorem d_X5_insert_86 : decode c_X5_insert 86 = .ok (.putfield 18, 3) := by decide +kernel
theorem d_X5_insert_89 : decode c_X5_insert 89 = .ok (.return_, 1) := by decide +kernel
set_option maxHeartbeats 4000000 in
set_option maxRecDepth 100000 in
theorem ct_X5_insert_20 (l : Launch) (D : va_G) (dA : Nat → ClassId) (ad : Nat → Nat) (v : tV) (hI : Inv v) (si : Int32) (rk : Int32) (r_si : Rg si 0 19) : Met l m_X5_insert [.code m_X5_insert c_X5_insert 4 none] ({ frames := 1, cells := 0, slots := 0, locals := 40 } : Room) (tP D dA ad v [.ref (ad 20), .int si, .int rk]) (tQv D dA ad (fun v' => Inv v' ∧ Kp v v')) 0 0 (tA ad) := by
  refine tMet (by decide) (Nat.le_of_ble_eq_true rfl) ?_
  intro p e s m below meth c ls X hr hlocks hw hl
  have X : CX p s m ([.ref (ad 20), .int si, .int rk] : List Value).toArray c c_X5_insert N_X5 4 D dA := X
  have hx := X.1
  have hb := X.2.1
  have hS : va_S (tA ad) s.heap s.heap [] := va_S.rf
  have hl : lv_has ls 4 [(0, .ref (ad 20)), (1, .int si), (2, .int rk)] := hl
  have LL : ∀ n : Nat, (∀ (y3 : Int32) (m0 : Int32) (v1 : tV) (H : Heap) (locs : List Loc) (ls : Array Slot), y3.toInt.toNat < n → Rg y3 0 19 → Rg m0 0 19 → Inv v1 → Kp v v1 → v1 20 2 = m0 → tI D dA ad v1 H → va_S (tA ad) s.heap H locs → lv_has ls 4 [(0, .ref (ad 20)), (1, .int si), (2, .int rk), (3, .int y3)] → W p l e ({ frames := 1, cells := 0, slots := 0, locals := 40 } : Room) s m ([.ref (ad 20), .int si, .int rk] : List Value).toArray below meth c H locs 0 0 (MQ below (tQv D dA ad (fun v' => Inv v' ∧ Kp v v')) ([.ref (ad 20), .int si, .int rk] : List Value).toArray s 0 0 (tA ad)) (F0 m 15 ls [])) := by
    intro n
    induction n with
    | zero => intros; omega
    | succ n ih =>
      have ih0 := ih
      intro y3 m0 v1 H locs ls hmu r_y3 r_m0 hI1 hK1 h_m0 hw hS hl
      refine lv_iload_n hx hb d_X5_insert_15 rfl (lv_at hl 3 rfl) ?_
      refine lv_if_le (tgt := 65) hx hb d_X5_insert_16 (by decide) (fun c1 => ?_) (fun c1 => ?_)
      · have f2 := i_le c1
        have r3 : Rg y3 0 0 := by obtain ⟨a1, a2⟩ := r_y3; obtain ⟨b1, b2⟩ := (⟨by decide, by decide⟩ : Rg 0 0 0); have f := i_le c1; exact ⟨by omega, by omega⟩
        refine lv_aload_n hx hb d_X5_insert_65 rfl (lv_at hl 0 rfl) ?_
        refine r_getr (r := 22) X hw FL_X5_9 (rfl : KD 20 = _) rfl d_X5_insert_66 ?_
        refine lv_iload_n hx hb d_X5_insert_69 rfl (lv_at hl 3 rfl) ?_
        refine lv_iload_n hx hb d_X5_insert_70 rfl (lv_at hl 1 rfl) ?_
        refine r_iast X hw hS (rfl : KD 22 = _) (Rg.vp (b := 0) r3 (by decide)) rfl d_X5_insert_71 (fun H locs hw hS => ?_)
        obtain ⟨v4, ev4⟩ : ∃ z, z = up2 v1 22 y3.toNatClampNeg si := ⟨_, rfl⟩
        rw [← ev4] at hw
        have hI5 : Inv v4 := by rw [ev4]; exact Inv.putr hI1 rfl r_si
        have hK6 : Kp v v4 := by rw [ev4]; exact Kp.put hK1 _ rfl
        have hm7 : v4 20 2 = m0 := by rw [ev4, up2_n _ _ (by omega)]; exact h_m0
        refine lv_aload_n hx hb d_X5_insert_72 rfl (lv_at hl 0 rfl) ?_
        refine r_getr (r := 24) X hw FL_X5_15 (rfl : KD 20 = _) rfl d_X5_insert_73 ?_
        refine lv_iload_n hx hb d_X5_insert_76 rfl (lv_at hl 3 rfl) ?_
        refine lv_iload_n hx hb d_X5_insert_77 rfl (lv_at hl 2 rfl) ?_
        refine r_iast X hw hS (rfl : KD 24 = _) (Rg.vp (b := 0) r3 (by decide)) rfl d_X5_insert_78 (fun H locs hw hS => ?_)
        obtain ⟨v8, ev8⟩ : ∃ z, z = up2 v4 24 y3.toNatClampNeg rk := ⟨_, rfl⟩
        rw [← ev8] at hw
        have hI9 : Inv v8 := by rw [ev8]; exact Inv.put0 hI5 _ rfl
        have hK10 : Kp v v8 := by rw [ev8]; exact Kp.put hK6 _ rfl
        have hm11 : v8 20 2 = m0 := by rw [ev8, up2_n _ _ (by omega)]; exact hm7
        refine lv_aload_n hx hb d_X5_insert_79 rfl (lv_at hl 0 rfl) ?_
        refine lv_dup hx hb d_X5_insert_80 rfl ?_
        refine r_geti X hw FL_X5_18 (rfl : KD 20 = _) rfl d_X5_insert_81 ?_
        rw [hm11]
        refine lv_iconst (v := 1) hx hb d_X5_insert_84 (by decide) ?_
        refine lv_iadd hx hb d_X5_insert_85 ?_
        refine lv_topi (fun x12 ex12 => ?_)
        have r13 : Rg x12 1 20 := rg_add ex12 r_m0 (⟨by decide, by decide⟩ : Rg 1 1 1) (by decide) (by decide)
        have s14 : x12.toInt = m0.toInt + (1 : Int32).toInt := by rw [ex12]; exact i_add (by obtain ⟨_, _⟩ := r_m0; obtain ⟨_, _⟩ := (⟨by decide, by decide⟩ : Rg 1 1 1); omega) (by obtain ⟨_, _⟩ := r_m0; obtain ⟨_, _⟩ := (⟨by decide, by decide⟩ : Rg 1 1 1); omega)
        have s14l : (1 : Int32).toInt = 1 := rfl
        refine r_put X hw hS FP_X5_18 (rfl : KD 20 = _) rfl ⟨rfl, rfl⟩ d_X5_insert_86 (fun H locs hw hS => ?_)
        obtain ⟨v15, ev15⟩ : ∃ z, z = up2 v8 20 2 x12 := ⟨_, rfl⟩
        rw [← ev15] at hw
        have hI16 : Inv v15 := by rw [ev15]; exact Inv.putr hI9 rfl (rg_w r13 (by decide) (by decide))
        have hK17 : Kp v v15 := by rw [ev15]; exact Kp.put hK10 _ rfl
        have hm18 : v15 20 2 = x12 := by rw [ev15, up2_s]
        exact r_vret X hr hlocks hw hS ⟨hI16, hK17⟩ d_X5_insert_89
      · have f19 := i_nle c1
        have r20 : Rg y3 1 19 := by obtain ⟨a1, a2⟩ := r_y3; obtain ⟨b1, b2⟩ := (⟨by decide, by decide⟩ : Rg 0 0 0); have f := i_nle c1; exact ⟨by omega, by omega⟩
        refine lv_aload_n hx hb d_X5_insert_19 rfl (lv_at hl 0 rfl) ?_
        refine r_getr (r := 24) X hw FL_X5_15 (rfl : KD 20 = _) rfl d_X5_insert_20 ?_
        refine lv_iload_n hx hb d_X5_insert_23 rfl (lv_at hl 3 rfl) ?_
        refine lv_iconst (v := 1) hx hb d_X5_insert_24 (by decide) ?_
        refine lv_isub hx hb d_X5_insert_25 ?_
        refine lv_topi (fun x21 ex21 => ?_)
        have r22 : Rg x21 0 18 := rg_sub ex21 r20 (⟨by decide, by decide⟩ : Rg 1 1 1) (by decide) (by decide)
        have s23 : x21.toInt = y3.toInt - (1 : Int32).toInt := by rw [ex21]; exact i_sub (by obtain ⟨_, _⟩ := r20; obtain ⟨_, _⟩ := (⟨by decide, by decide⟩ : Rg 1 1 1); omega) (by obtain ⟨_, _⟩ := r20; obtain ⟨_, _⟩ := (⟨by decide, by decide⟩ : Rg 1 1 1); omega)
        have s23l : (1 : Int32).toInt = 1 := rfl
        refine r_iald X hw (rfl : KD 24 = _) (Rg.vp (b := 18) r22 (by decide)) rfl d_X5_insert_26 ?_
        refine lv_topi (fun x24 ex24 => ?_)
        refine lv_iload_n hx hb d_X5_insert_27 rfl (lv_at hl 2 rfl) ?_
        refine lv_icmp_le (tgt := 65) hx hb d_X5_insert_28 (by decide) (fun c25 => ?_) (fun c25 => ?_)
        · have f26 := i_le c25
          refine lv_aload_n hx hb d_X5_insert_65 rfl (lv_at hl 0 rfl) ?_
          refine r_getr (r := 22) X hw FL_X5_9 (rfl : KD 20 = _) rfl d_X5_insert_66 ?_
          refine lv_iload_n hx hb d_X5_insert_69 rfl (lv_at hl 3 rfl) ?_
          refine lv_iload_n hx hb d_X5_insert_70 rfl (lv_at hl 1 rfl) ?_
          refine r_iast X hw hS (rfl : KD 22 = _) (Rg.vp (b := 19) (rg_w r20 (by decide) (by decide)) (by decide)) rfl d_X5_insert_71 (fun H locs hw hS => ?_)
          obtain ⟨v27, ev27⟩ : ∃ z, z = up2 v1 22 y3.toNatClampNeg si := ⟨_, rfl⟩
          rw [← ev27] at hw
          have hI28 : Inv v27 := by rw [ev27]; exact Inv.putr hI1 rfl r_si
          have hK29 : Kp v v27 := by rw [ev27]; exact Kp.put hK1 _ rfl
          have hm30 : v27 20 2 = m0 := by rw [ev27, up2_n _ _ (by omega)]; exact h_m0
          refine lv_aload_n hx hb d_X5_insert_72 rfl (lv_at hl 0 rfl) ?_
          refine r_getr (r := 24) X hw FL_X5_15 (rfl : KD 20 = _) rfl d_X5_insert_73 ?_
          refine lv_iload_n hx hb d_X5_insert_76 rfl (lv_at hl 3 rfl) ?_
          refine lv_iload_n hx hb d_X5_insert_77 rfl (lv_at hl 2 rfl) ?_
          refine r_iast X hw hS (rfl : KD 24 = _) (Rg.vp (b := 19) (rg_w r20 (by decide) (by decide)) (by decide)) rfl d_X5_insert_78 (fun H locs hw hS => ?_)
          obtain ⟨v31, ev31⟩ : ∃ z, z = up2 v27 24 y3.toNatClampNeg rk := ⟨_, rfl⟩
          rw [← ev31] at hw
          have hI32 : Inv v31 := by rw [ev31]; exact Inv.put0 hI28 _ rfl
          have hK33 : Kp v v31 := by rw [ev31]; exact Kp.put hK29 _ rfl
          have hm34 : v31 20 2 = m0 := by rw [ev31, up2_n _ _ (by omega)]; exact hm30
          refine lv_aload_n hx hb d_X5_insert_79 rfl (lv_at hl 0 rfl) ?_
          refine lv_dup hx hb d_X5_insert_80 rfl ?_
          refine r_geti X hw FL_X5_18 (rfl : KD 20 = _) rfl d_X5_insert_81 ?_
          rw [hm34]
          refine lv_iconst (v := 1) hx hb d_X5_insert_84 (by decide) ?_
          refine lv_iadd hx hb d_X5_insert_85 ?_
          refine lv_topi (fun x35 ex35 => ?_)
          have r36 : Rg x35 1 20 := rg_add ex35 r_m0 (⟨by decide, by decide⟩ : Rg 1 1 1) (by decide) (by decide)
          have s37 : x35.toInt = m0.toInt + (1 : Int32).toInt := by rw [ex35]; exact i_add (by obtain ⟨_, _⟩ := r_m0; obtain ⟨_, _⟩ := (⟨by decide, by decide⟩ : Rg 1 1 1); omega) (by obtain ⟨_, _⟩ := r_m0; obtain ⟨_, _⟩ := (⟨by decide, by decide⟩ : Rg 1 1 1); omega)
          have s37l : (1 : Int32).toInt = 1 := rfl
          refine r_put X hw hS FP_X5_18 (rfl : KD 20 = _) rfl ⟨rfl, rfl⟩ d_X5_insert_86 (fun H locs hw hS => ?_)
          obtain ⟨v38, ev38⟩ : ∃ z, z = up2 v31 20 2 x35 := ⟨_, rfl⟩
          rw [← ev38] at hw
          have hI39 : Inv v38 := by rw [ev38]; exact Inv.putr hI32 rfl (rg_w r36 (by decide) (by decide))
          have hK40 : Kp v v38 := by rw [ev38]; exact Kp.put hK33 _ rfl
          have hm41 : v38 20 2 = x35 := by rw [ev38, up2_s]
          exact r_vret X hr hlocks hw hS ⟨hI39, hK40⟩ d_X5_insert_89
        · have f42 := i_nle c25
          refine lv_aload_n hx hb d_X5_insert_31 rfl (lv_at hl 0 rfl) ?_
          refine r_getr (r := 22) X hw FL_X5_9 (rfl : KD 20 = _) rfl d_X5_insert_32 ?_
          refine lv_iload_n hx hb d_X5_insert_35 rfl (lv_at hl 3 rfl) ?_
          refine lv_aload_n hx hb d_X5_insert_36 rfl (lv_at hl 0 rfl) ?_
          refine r_getr (r := 22) X hw FL_X5_9 (rfl : KD 20 = _) rfl d_X5_insert_37 ?_
          refine lv_iload_n hx hb d_X5_insert_40 rfl (lv_at hl 3 rfl) ?_
          refine lv_iconst (v := 1) hx hb d_X5_insert_41 (by decide) ?_
          refine lv_isub hx hb d_X5_insert_42 ?_
          refine lv_topi (fun x43 ex43 => ?_)
          have r44 : Rg x43 0 18 := rg_sub ex43 r20 (⟨by decide, by decide⟩ : Rg 1 1 1) (by decide) (by decide)
          have s45 : x43.toInt = y3.toInt - (1 : Int32).toInt := by rw [ex43]; exact i_sub (by obtain ⟨_, _⟩ := r20; obtain ⟨_, _⟩ := (⟨by decide, by decide⟩ : Rg 1 1 1); omega) (by obtain ⟨_, _⟩ := r20; obtain ⟨_, _⟩ := (⟨by decide, by decide⟩ : Rg 1 1 1); omega)
          have s45l : (1 : Int32).toInt = 1 := rfl
          refine r_iald X hw (rfl : KD 22 = _) (Rg.vp (b := 18) r44 (by decide)) rfl d_X5_insert_43 ?_
          refine lv_topi (fun x46 ex46 => ?_)
          have r47 : Rg x46 0 19 := by rw [ex46]; exact hI1 _ _ _ _ rfl
          refine r_iast X hw hS (rfl : KD 22 = _) (Rg.vp (b := 19) (rg_w r20 (by decide) (by decide)) (by decide)) rfl d_X5_insert_44 (fun H locs hw hS => ?_)
          obtain ⟨v48, ev48⟩ : ∃ z, z = up2 v1 22 y3.toNatClampNeg x46 := ⟨_, rfl⟩
          rw [← ev48] at hw
          have hI49 : Inv v48 := by rw [ev48]; exact Inv.putr hI1 rfl r47
          have hK50 : Kp v v48 := by rw [ev48]; exact Kp.put hK1 _ rfl
          have hm51 : v48 20 2 = m0 := by rw [ev48, up2_n _ _ (by omega)]; exact h_m0
          refine lv_aload_n hx hb d_X5_insert_45 rfl (lv_at hl 0 rfl) ?_
          refine r_getr (r := 24) X hw FL_X5_15 (rfl : KD 20 = _) rfl d_X5_insert_46 ?_
          refine lv_iload_n hx hb d_X5_insert_49 rfl (lv_at hl 3 rfl) ?_
          refine lv_aload_n hx hb d_X5_insert_50 rfl (lv_at hl 0 rfl) ?_
          refine r_getr (r := 24) X hw FL_X5_15 (rfl : KD 20 = _) rfl d_X5_insert_51 ?_
          refine lv_iload_n hx hb d_X5_insert_54 rfl (lv_at hl 3 rfl) ?_
          refine lv_iconst (v := 1) hx hb d_X5_insert_55 (by decide) ?_
          refine lv_isub hx hb d_X5_insert_56 ?_
          refine lv_topi (fun x52 ex52 => ?_)
          have r53 : Rg x52 0 18 := rg_sub ex52 r20 (⟨by decide, by decide⟩ : Rg 1 1 1) (by decide) (by decide)
          have s54 : x52.toInt = y3.toInt - (1 : Int32).toInt := by rw [ex52]; exact i_sub (by obtain ⟨_, _⟩ := r20; obtain ⟨_, _⟩ := (⟨by decide, by decide⟩ : Rg 1 1 1); omega) (by obtain ⟨_, _⟩ := r20; obtain ⟨_, _⟩ := (⟨by decide, by decide⟩ : Rg 1 1 1); omega)
          have s54l : (1 : Int32).toInt = 1 := rfl
          refine r_iald X hw (rfl : KD 24 = _) (Rg.vp (b := 18) r53 (by decide)) rfl d_X5_insert_57 ?_
          refine lv_topi (fun x55 ex55 => ?_)
          refine r_iast X hw hS (rfl : KD 24 = _) (Rg.vp (b := 19) (rg_w r20 (by decide) (by decide)) (by decide)) rfl d_X5_insert_58 (fun H locs hw hS => ?_)
          obtain ⟨v56, ev56⟩ : ∃ z, z = up2 v48 24 y3.toNatClampNeg x55 := ⟨_, rfl⟩
          rw [← ev56] at hw
          have hI57 : Inv v56 := by rw [ev56]; exact Inv.put0 hI49 _ rfl
          have hK58 : Kp v v56 := by rw [ev56]; exact Kp.put hK50 _ rfl
          have hm59 : v56 20 2 = m0 := by rw [ev56, up2_n _ _ (by omega)]; exact hm51
          obtain ⟨x60, ex60⟩ : ∃ y : Int32, y = y3 + -1 := ⟨_, rfl⟩
          refine lv_iinc (v := x60) (lv' := [(3, .int x60), (0, .ref (ad 20)), (1, .int si), (2, .int rk)]) hx hb d_X5_insert_59 hl (k := 3) rfl (by rw [ex60]; rfl) (by decide) rfl (fun ls hl => ?_)
          have r61 : Rg x60 0 18 := rg_add ex60 r20 (⟨by decide, by decide⟩ : Rg (-1) (-1) (-1)) (by decide) (by decide)
          have s62 : x60.toInt = y3.toInt + (-1 : Int32).toInt := by rw [ex60]; exact i_add (by obtain ⟨_, _⟩ := r20; obtain ⟨_, _⟩ := (⟨by decide, by decide⟩ : Rg (-1) (-1) (-1)); omega) (by obtain ⟨_, _⟩ := r20; obtain ⟨_, _⟩ := (⟨by decide, by decide⟩ : Rg (-1) (-1) (-1)); omega)
          have s62l : (-1 : Int32).toInt = (-1) := rfl
          refine lv_goto (tgt := 15) hx hb d_X5_insert_62 (by decide) ?_
          exact ih0 x60 m0 v56 _ _ _ (by have := s23; have := s45; have := s54; have := s62; obtain ⟨_, _⟩ := r61; omega) (rg_w r61 (by decide) (by decide)) r_m0 hI57 hK58 hm59 hw hS (lv_sub hl [1, 2, 3, 0] rfl)
  have ih0 := LL 100000
  have hK0 : Kp v v := Kp.rf v
  refine lv_aload_n hx hb d_X5_insert_0 rfl (lv_at hl 0 rfl) ?_
  refine r_geti X hw FL_X5_18 (rfl : KD 20 = _) rfl d_X5_insert_1 ?_
  refine lv_topi (fun x63 ex63 => ?_)
  have r64 : Rg x63 0 20 := by rw [ex63]; exact hI _ _ _ _ rfl
  have hm65 : v 20 2 = x63 := ex63.symm
  refine lv_bipush (v := 20) hx hb d_X5_insert_4 (by decide) ?_
  refine lv_icmp_lt (tgt := 10) hx hb d_X5_insert_6 (by decide) (fun c66 => ?_) (fun c66 => ?_)
  · have f67 := i_lt c66
    have r68 : Rg x63 0 19 := by obtain ⟨a1, a2⟩ := r64; obtain ⟨b1, b2⟩ := (⟨by decide, by decide⟩ : Rg 20 20 20); have f := i_lt c66; exact ⟨by omega, by omega⟩
    refine lv_aload_n hx hb d_X5_insert_10 rfl (lv_at hl 0 rfl) ?_
    refine r_geti X hw FL_X5_18 (rfl : KD 20 = _) rfl d_X5_insert_11 ?_
    rw [hm65]
    refine lv_istore_n (lv' := [(3, .int x63), (0, .ref (ad 20)), (1, .int si), (2, .int rk)]) hx hb d_X5_insert_14 rfl hl (by decide) rfl (fun ls hl => ?_)
    exact ih0 x63 x63 v _ _ _ (by obtain ⟨_, _⟩ := r68; omega) r68 r68 hI hK0 hm65 hw hS (lv_sub hl [1, 2, 3, 0] rfl)
  · have f69 := i_nlt c66
    have r70 : Rg x63 20 20 := by obtain ⟨a1, a2⟩ := r64; obtain ⟨b1, b2⟩ := (⟨by decide, by decide⟩ : Rg 20 20 20); have f := i_nlt c66; exact ⟨by omega, by omega⟩
    exact r_vret X hr hlocks hw hS ⟨hI, hK0⟩ d_X5_insert_9
set_option maxHeartbeats 4000000 in
set_option maxRecDepth 100000 in
theorem ct_X5_insert_21 (l : Launch) (D : va_G) (dA : Nat → ClassId) (ad : Nat → Nat) (v : tV) (hI : Inv v) (si : Int32) (rk : Int32) (r_si : Rg si 0 19) : Met l m_X5_insert [.code m_X5_insert c_X5_insert 4 none] ({ frames := 1, cells := 0, slots := 0, locals := 40 } : Room) (tP D dA ad v [.ref (ad 21), .int si, .int rk]) (tQv D dA ad (fun v' => Inv v' ∧ Kp v v')) 0 0 (tA ad) := by
  refine tMet (by decide) (Nat.le_of_ble_eq_true rfl) ?_
  intro p e s m below meth c ls X hr hlocks hw hl
  have X : CX p s m ([.ref (ad 21), .int si, .int rk] : List Value).toArray c c_X5_insert N_X5 4 D dA := X
  have hx := X.1
  have hb := X.2.1
  have hS : va_S (tA ad) s.heap s.heap [] := va_S.rf
  have hl : lv_has ls 4 [(0, .ref (ad 21)), (1, .int si), (2, .int rk)] := hl
  have LL : ∀ n : Nat, (∀ (y3 : Int32) (m0 : Int32) (v1 : tV) (H : Heap) (locs : List Loc) (ls : Array Slot), y3.toInt.toNat < n → Rg y3 0 19 → Rg m0 0 19 → Inv v1 → Kp v v1 → v1 21 2 = m0 → tI D dA ad v1 H → va_S (tA ad) s.heap H locs → lv_has ls 4 [(0, .ref (ad 21)), (1, .int si), (2, .int rk), (3, .int y3)] → W p l e ({ frames := 1, cells := 0, slots := 0, locals := 40 } : Room) s m ([.ref (ad 21), .int si, .int rk] : List Value).toArray below meth c H locs 0 0 (MQ below (tQv D dA ad (fun v' => Inv v' ∧ Kp v v')) ([.ref (ad 21), .int si, .int rk] : List Value).toArray s 0 0 (tA ad)) (F0 m 15 ls [])) := by
    intro n
    induction n with
    | zero => intros; omega
    | succ n ih =>
      have ih0 := ih
      intro y3 m0 v1 H locs ls hmu r_y3 r_m0 hI1 hK1 h_m0 hw hS hl
      refine lv_iload_n hx hb d_X5_insert_15 rfl (lv_at hl 3 rfl) ?_
      refine lv_if_le (tgt := 65) hx hb d_X5_insert_16 (by decide) (fun c1 => ?_) (fun c1 => ?_)
      · have f2 := i_le c1
        have r3 : Rg y3 0 0 := by obtain ⟨a1, a2⟩ := r_y3; obtain ⟨b1, b2⟩ := (⟨by decide, by decide⟩ : Rg 0 0 0); have f := i_le c1; exact ⟨by omega, by omega⟩
        refine lv_aload_n hx hb d_X5_insert_65 rfl (lv_at hl 0 rfl) ?_
        refine r_getr (r := 23) X hw FL_X5_9 (rfl : KD 21 = _) rfl d_X5_insert_66 ?_
        refine lv_iload_n hx hb d_X5_insert_69 rfl (lv_at hl 3 rfl) ?_
        refine lv_iload_n hx hb d_X5_insert_70 rfl (lv_at hl 1 rfl) ?_
        refine r_iast X hw hS (rfl : KD 23 = _) (Rg.vp (b := 0) r3 (by decide)) rfl d_X5_insert_71 (fun H locs hw hS => ?_)
        obtain ⟨v4, ev4⟩ : ∃ z, z = up2 v1 23 y3.toNatClampNeg si := ⟨_, rfl⟩
        rw [← ev4] at hw
        have hI5 : Inv v4 := by rw [ev4]; exact Inv.putr hI1 rfl r_si
        have hK6 : Kp v v4 := by rw [ev4]; exact Kp.put hK1 _ rfl
        have hm7 : v4 21 2 = m0 := by rw [ev4, up2_n _ _ (by omega)]; exact h_m0
        refine lv_aload_n hx hb d_X5_insert_72 rfl (lv_at hl 0 rfl) ?_
        refine r_getr (r := 25) X hw FL_X5_15 (rfl : KD 21 = _) rfl d_X5_insert_73 ?_
        refine lv_iload_n hx hb d_X5_insert_76 rfl (lv_at hl 3 rfl) ?_
        refine lv_iload_n hx hb d_X5_insert_77 rfl (lv_at hl 2 rfl) ?_
        refine r_iast X hw hS (rfl : KD 25 = _) (Rg.vp (b := 0) r3 (by decide)) rfl d_X5_insert_78 (fun H locs hw hS => ?_)
        obtain ⟨v8, ev8⟩ : ∃ z, z = up2 v4 25 y3.toNatClampNeg rk := ⟨_, rfl⟩
        rw [← ev8] at hw
        have hI9 : Inv v8 := by rw [ev8]; exact Inv.put0 hI5 _ rfl
        have hK10 : Kp v v8 := by rw [ev8]; exact Kp.put hK6 _ rfl
        have hm11 : v8 21 2 = m0 := by rw [ev8, up2_n _ _ (by omega)]; exact hm7
        refine lv_aload_n hx hb d_X5_insert_79 rfl (lv_at hl 0 rfl) ?_
        refine lv_dup hx hb d_X5_insert_80 rfl ?_
        refine r_geti X hw FL_X5_18 (rfl : KD 21 = _) rfl d_X5_insert_81 ?_
        rw [hm11]
        refine lv_iconst (v := 1) hx hb d_X5_insert_84 (by decide) ?_
        refine lv_iadd hx hb d_X5_insert_85 ?_
        refine lv_topi (fun x12 ex12 => ?_)
        have r13 : Rg x12 1 20 := rg_add ex12 r_m0 (⟨by decide, by decide⟩ : Rg 1 1 1) (by decide) (by decide)
        have s14 : x12.toInt = m0.toInt + (1 : Int32).toInt := by rw [ex12]; exact i_add (by obtain ⟨_, _⟩ := r_m0; obtain ⟨_, _⟩ := (⟨by decide, by decide⟩ : Rg 1 1 1); omega) (by obtain ⟨_, _⟩ := r_m0; obtain ⟨_, _⟩ := (⟨by decide, by decide⟩ : Rg 1 1 1); omega)
        have s14l : (1 : Int32).toInt = 1 := rfl
        refine r_put X hw hS FP_X5_18 (rfl : KD 21 = _) rfl ⟨rfl, rfl⟩ d_X5_insert_86 (fun H locs hw hS => ?_)
        obtain ⟨v15, ev15⟩ : ∃ z, z = up2 v8 21 2 x12 := ⟨_, rfl⟩
        rw [← ev15] at hw
        have hI16 : Inv v15 := by rw [ev15]; exact Inv.putr hI9 rfl (rg_w r13 (by decide) (by decide))
        have hK17 : Kp v v15 := by rw [ev15]; exact Kp.put hK10 _ rfl
        have hm18 : v15 21 2 = x12 := by rw [ev15, up2_s]
        exact r_vret X hr hlocks hw hS ⟨hI16, hK17⟩ d_X5_insert_89
      · have f19 := i_nle c1
        have r20 : Rg y3 1 19 := by obtain ⟨a1, a2⟩ := r_y3; obtain ⟨b1, b2⟩ := (⟨by decide, by decide⟩ : Rg 0 0 0); have f := i_nle c1; exact ⟨by omega, by omega⟩
        refine lv_aload_n hx hb d_X5_insert_19 rfl (lv_at hl 0 rfl) ?_
        refine r_getr (r := 25) X hw FL_X5_15 (rfl : KD 21 = _) rfl d_X5_insert_20 ?_
        refine lv_iload_n hx hb d_X5_insert_23 rfl (lv_at hl 3 rfl) ?_
        refine lv_iconst (v := 1) hx hb d_X5_insert_24 (by decide) ?_
        refine lv_isub hx hb d_X5_insert_25 ?_
        refine lv_topi (fun x21 ex21 => ?_)
        have r22 : Rg x21 0 18 := rg_sub ex21 r20 (⟨by decide, by decide⟩ : Rg 1 1 1) (by decide) (by decide)
        have s23 : x21.toInt = y3.toInt - (1 : Int32).toInt := by rw [ex21]; exact i_sub (by obtain ⟨_, _⟩ := r20; obtain ⟨_, _⟩ := (⟨by decide, by decide⟩ : Rg 1 1 1); omega) (by obtain ⟨_, _⟩ := r20; obtain ⟨_, _⟩ := (⟨by decide, by decide⟩ : Rg 1 1 1); omega)
        have s23l : (1 : Int32).toInt = 1 := rfl
        refine r_iald X hw (rfl : KD 25 = _) (Rg.vp (b := 18) r22 (by decide)) rfl d_X5_insert_26 ?_
        refine lv_topi (fun x24 ex24 => ?_)
        refine lv_iload_n hx hb d_X5_insert_27 rfl (lv_at hl 2 rfl) ?_
        refine lv_icmp_le (tgt := 65) hx hb d_X5_insert_28 (by decide) (fun c25 => ?_) (fun c25 => ?_)
        · have f26 := i_le c25
          refine lv_aload_n hx hb d_X5_insert_65 rfl (lv_at hl 0 rfl) ?_
          refine r_getr (r := 23) X hw FL_X5_9 (rfl : KD 21 = _) rfl d_X5_insert_66 ?_
          refine lv_iload_n hx hb d_X5_insert_69 rfl (lv_at hl 3 rfl) ?_
          refine lv_iload_n hx hb d_X5_insert_70 rfl (lv_at hl 1 rfl) ?_
          refine r_iast X hw hS (rfl : KD 23 = _) (Rg.vp (b := 19) (rg_w r20 (by decide) (by decide)) (by decide)) rfl d_X5_insert_71 (fun H locs hw hS => ?_)
          obtain ⟨v27, ev27⟩ : ∃ z, z = up2 v1 23 y3.toNatClampNeg si := ⟨_, rfl⟩
          rw [← ev27] at hw
          have hI28 : Inv v27 := by rw [ev27]; exact Inv.putr hI1 rfl r_si
          have hK29 : Kp v v27 := by rw [ev27]; exact Kp.put hK1 _ rfl
          have hm30 : v27 21 2 = m0 := by rw [ev27, up2_n _ _ (by omega)]; exact h_m0
          refine lv_aload_n hx hb d_X5_insert_72 rfl (lv_at hl 0 rfl) ?_
          refine r_getr (r := 25) X hw FL_X5_15 (rfl : KD 21 = _) rfl d_X5_insert_73 ?_
          refine lv_iload_n hx hb d_X5_insert_76 rfl (lv_at hl 3 rfl) ?_
          refine lv_iload_n hx hb d_X5_insert_77 rfl (lv_at hl 2 rfl) ?_
          refine r_iast X hw hS (rfl : KD 25 = _) (Rg.vp (b := 19) (rg_w r20 (by decide) (by decide)) (by decide)) rfl d_X5_insert_78 (fun H locs hw hS => ?_)
          obtain ⟨v31, ev31⟩ : ∃ z, z = up2 v27 25 y3.toNatClampNeg rk := ⟨_, rfl⟩
          rw [← ev31] at hw
          have hI32 : Inv v31 := by rw [ev31]; exact Inv.put0 hI28 _ rfl
          have hK33 : Kp v v31 := by rw [ev31]; exact Kp.put hK29 _ rfl
          have hm34 : v31 21 2 = m0 := by rw [ev31, up2_n _ _ (by omega)]; exact hm30
          refine lv_aload_n hx hb d_X5_insert_79 rfl (lv_at hl 0 rfl) ?_
          refine lv_dup hx hb d_X5_insert_80 rfl ?_
          refine r_geti X hw FL_X5_18 (rfl : KD 21 = _) rfl d_X5_insert_81 ?_
          rw [hm34]
          refine lv_iconst (v := 1) hx hb d_X5_insert_84 (by decide) ?_
          refine lv_iadd hx hb d_X5_insert_85 ?_
          refine lv_topi (fun x35 ex35 => ?_)
          have r36 : Rg x35 1 20 := rg_add ex35 r_m0 (⟨by decide, by decide⟩ : Rg 1 1 1) (by decide) (by decide)
          have s37 : x35.toInt = m0.toInt + (1 : Int32).toInt := by rw [ex35]; exact i_add (by obtain ⟨_, _⟩ := r_m0; obtain ⟨_, _⟩ := (⟨by decide, by decide⟩ : Rg 1 1 1); omega) (by obtain ⟨_, _⟩ := r_m0; obtain ⟨_, _⟩ := (⟨by decide, by decide⟩ : Rg 1 1 1); omega)
          have s37l : (1 : Int32).toInt = 1 := rfl
          refine r_put X hw hS FP_X5_18 (rfl : KD 21 = _) rfl ⟨rfl, rfl⟩ d_X5_insert_86 (fun H locs hw hS => ?_)
          obtain ⟨v38, ev38⟩ : ∃ z, z = up2 v31 21 2 x35 := ⟨_, rfl⟩
          rw [← ev38] at hw
          have hI39 : Inv v38 := by rw [ev38]; exact Inv.putr hI32 rfl (rg_w r36 (by decide) (by decide))
          have hK40 : Kp v v38 := by rw [ev38]; exact Kp.put hK33 _ rfl
          have hm41 : v38 21 2 = x35 := by rw [ev38, up2_s]
          exact r_vret X hr hlocks hw hS ⟨hI39, hK40⟩ d_X5_insert_89
        · have f42 := i_nle c25
          refine lv_aload_n hx hb d_X5_insert_31 rfl (lv_at hl 0 rfl) ?_
          refine r_getr (r := 23) X hw FL_X5_9 (rfl : KD 21 = _) rfl d_X5_insert_32 ?_
          refine lv_iload_n hx hb d_X5_insert_35 rfl (lv_at hl 3 rfl) ?_
          refine lv_aload_n hx hb d_X5_insert_36 rfl (lv_at hl 0 rfl) ?_
          refine r_getr (r := 23) X hw FL_X5_9 (rfl : KD 21 = _) rfl d_X5_insert_37 ?_
          refine lv_iload_n hx hb d_X5_insert_40 rfl (lv_at hl 3 rfl) ?_
          refine lv_iconst (v := 1) hx hb d_X5_insert_41 (by decide) ?_
          refine lv_isub hx hb d_X5_insert_42 ?_
          refine lv_topi (fun x43 ex43 => ?_)
          have r44 : Rg x43 0 18 := rg_sub ex43 r20 (⟨by decide, by decide⟩ : Rg 1 1 1) (by decide) (by decide)
          have s45 : x43.toInt = y3.toInt - (1 : Int32).toInt := by rw [ex43]; exact i_sub (by obtain ⟨_, _⟩ := r20; obtain ⟨_, _⟩ := (⟨by decide, by decide⟩ : Rg 1 1 1); omega) (by obtain ⟨_, _⟩ := r20; obtain ⟨_, _⟩ := (⟨by decide, by decide⟩ : Rg 1 1 1); omega)
          have s45l : (1 : Int32).toInt = 1 := rfl
          refine r_iald X hw (rfl : KD 23 = _) (Rg.vp (b := 18) r44 (by decide)) rfl d_X5_insert_43 ?_
          refine lv_topi (fun x46 ex46 => ?_)
          have r47 : Rg x46 0 19 := by rw [ex46]; exact hI1 _ _ _ _ rfl
          refine r_iast X hw hS (rfl : KD 23 = _) (Rg.vp (b := 19) (rg_w r20 (by decide) (by decide)) (by decide)) rfl d_X5_insert_44 (fun H locs hw hS => ?_)
          obtain ⟨v48, ev48⟩ : ∃ z, z = up2 v1 23 y3.toNatClampNeg x46 := ⟨_, rfl⟩
          rw [← ev48] at hw
          have hI49 : Inv v48 := by rw [ev48]; exact Inv.putr hI1 rfl r47
          have hK50 : Kp v v48 := by rw [ev48]; exact Kp.put hK1 _ rfl
          have hm51 : v48 21 2 = m0 := by rw [ev48, up2_n _ _ (by omega)]; exact h_m0
          refine lv_aload_n hx hb d_X5_insert_45 rfl (lv_at hl 0 rfl) ?_
          refine r_getr (r := 25) X hw FL_X5_15 (rfl : KD 21 = _) rfl d_X5_insert_46 ?_
          refine lv_iload_n hx hb d_X5_insert_49 rfl (lv_at hl 3 rfl) ?_
          refine lv_aload_n hx hb d_X5_insert_50 rfl (lv_at hl 0 rfl) ?_
          refine r_getr (r := 25) X hw FL_X5_15 (rfl : KD 21 = _) rfl d_X5_insert_51 ?_
          refine lv_iload_n hx hb d_X5_insert_54 rfl (lv_at hl 3 rfl) ?_
          refine lv_iconst (v := 1) hx hb d_X5_insert_55 (by decide) ?_
          refine lv_isub hx hb d_X5_insert_56 ?_
          refine lv_topi (fun x52 ex52 => ?_)
          have r53 : Rg x52 0 18 := rg_sub ex52 r20 (⟨by decide, by decide⟩ : Rg 1 1 1) (by decide) (by decide)
          have s54 : x52.toInt = y3.toInt - (1 : Int32).toInt := by rw [ex52]; exact i_sub (by obtain ⟨_, _⟩ := r20; obtain ⟨_, _⟩ := (⟨by decide, by decide⟩ : Rg 1 1 1); omega) (by obtain ⟨_, _⟩ := r20; obtain ⟨_, _⟩ := (⟨by decide, by decide⟩ : Rg 1 1 1); omega)
          have s54l : (1 : Int32).toInt = 1 := rfl
          refine r_iald X hw (rfl : KD 25 = _) (Rg.vp (b := 18) r53 (by decide)) rfl d_X5_insert_57 ?_
          refine lv_topi (fun x55 ex55 => ?_)
          refine r_iast X hw hS (rfl : KD 25 = _) (Rg.vp (b := 19) (rg_w r20 (by decide) (by decide)) (by decide)) rfl d_X5_insert_58 (fun H locs hw hS => ?_)
          obtain ⟨v56, ev56⟩ : ∃ z, z = up2 v48 25 y3.toNatClampNeg x55 := ⟨_, rfl⟩
          rw [← ev56] at hw
          have hI57 : Inv v56 := by rw [ev56]; exact Inv.put0 hI49 _ rfl
          have hK58 : Kp v v56 := by rw [ev56]; exact Kp.put hK50 _ rfl
          have hm59 : v56 21 2 = m0 := by rw [ev56, up2_n _ _ (by omega)]; exact hm51
          obtain ⟨x60, ex60⟩ : ∃ y : Int32, y = y3 + -1 := ⟨_, rfl⟩
          refine lv_iinc (v := x60) (lv' := [(3, .int x60), (0, .ref (ad 21)), (1, .int si), (2, .int rk)]) hx hb d_X5_insert_59 hl (k := 3) rfl (by rw [ex60]; rfl) (by decide) rfl (fun ls hl => ?_)
          have r61 : Rg x60 0 18 := rg_add ex60 r20 (⟨by decide, by decide⟩ : Rg (-1) (-1) (-1)) (by decide) (by decide)
          have s62 : x60.toInt = y3.toInt + (-1 : Int32).toInt := by rw [ex60]; exact i_add (by obtain ⟨_, _⟩ := r20; obtain ⟨_, _⟩ := (⟨by decide, by decide⟩ : Rg (-1) (-1) (-1)); omega) (by obtain ⟨_, _⟩ := r20; obtain ⟨_, _⟩ := (⟨by decide, by decide⟩ : Rg (-1) (-1) (-1)); omega)
          have s62l : (-1 : Int32).toInt = (-1) := rfl
          refine lv_goto (tgt := 15) hx hb d_X5_insert_62 (by decide) ?_
          exact ih0 x60 m0 v56 _ _ _ (by have := s23; have := s45; have := s54; have := s62; obtain ⟨_, _⟩ := r61; omega) (rg_w r61 (by decide) (by decide)) r_m0 hI57 hK58 hm59 hw hS (lv_sub hl [1, 2, 3, 0] rfl)
  have ih0 := LL 100000
  have hK0 : Kp v v := Kp.rf v
  refine lv_aload_n hx hb d_X5_insert_0 rfl (lv_at hl 0 rfl) ?_
  refine r_geti X hw FL_X5_18 (rfl : KD 21 = _) rfl d_X5_insert_1 ?_
  refine lv_topi (fun x63 ex63 => ?_)
  have r64 : Rg x63 0 20 := by rw [ex63]; exact hI _ _ _ _ rfl
  have hm65 : v 21 2 = x63 := ex63.symm
  refine lv_bipush (v := 20) hx hb d_X5_insert_4 (by decide) ?_
  refine lv_icmp_lt (tgt := 10) hx hb d_X5_insert_6 (by decide) (fun c66 => ?_) (fun c66 => ?_)
  · have f67 := i_lt c66
    have r68 : Rg x63 0 19 := by obtain ⟨a1, a2⟩ := r64; obtain ⟨b1, b2⟩ := (⟨by decide, by decide⟩ : Rg 20 20 20); have f := i_lt c66; exact ⟨by omega, by omega⟩
    refine lv_aload_n hx hb d_X5_insert_10 rfl (lv_at hl 0 rfl) ?_
    refine r_geti X hw FL_X5_18 (rfl : KD 21 = _) rfl d_X5_insert_11 ?_
    rw [hm65]
    refine lv_istore_n (lv' := [(3, .int x63), (0, .ref (ad 21)), (1, .int si), (2, .int rk)]) hx hb d_X5_insert_14 rfl hl (by decide) rfl (fun ls hl => ?_)
    exact ih0 x63 x63 v _ _ _ (by obtain ⟨_, _⟩ := r68; omega) r68 r68 hI hK0 hm65 hw hS (lv_sub hl [1, 2, 3, 0] rfl)
  · have f69 := i_nlt c66
    have r70 : Rg x63 20 20 := by obtain ⟨a1, a2⟩ := r64; obtain ⟨b1, b2⟩ := (⟨by decide, by decide⟩ : Rg 20 20 20); have f := i_nlt c66; exact ⟨by omega, by omega⟩
    exact r_vret X hr hlocks hw hS ⟨hI, hK0⟩ d_X5_insert_9
theorem d_X5_putFirst_0 : decode c_X5_putFirst 0 = .ok (.aload_n 0, 1) := by decide +kernel
theorem d_X5_putFirst_1 : decode c_X5_putFirst 1 = .ok (.getfield 9, 3) := by decide +kernel
theorem d_X5_putFirst_4 : decode c_X5_putFirst 4 = .ok (.iconst 0, 1) := by decide +kernel
theorem d_X5_putFirst_5 : decode c_X5_putFirst 5 = .ok (.iload_n 1, 1) := by decide +kernel
theorem d_X5_putFirst_6 : decode c_X5_putFirst 6 = .ok (.iastore, 1) := by decide +kernel
theorem d_X5_putFirst_7 : decode c_X5_putFirst 7 = .ok (.aload_n 0, 1) := by decide +kernel
theorem d_X5_putFirst_8 : decode c_X5_putFirst 8 = .ok (.iconst 1, 1) := by decide +kernel
theorem d_X5_putFirst_9 : decode c_X5_putFirst 9 = .ok (.putfield 18, 3) := by decide +kernel
theorem d_X5_putFirst_12 : decode c_X5_putFirst 12 = .ok (.iconst 0, 1) := by decide +kernel
theorem d_X5_putFirst_13 : decode c_X5_putFirst 13 = .ok (.istore_n 3, 1) := by decide +kernel
theorem d_X5_putFirst_14 : decode c_X5_putFirst 14 = .ok (.iload_n 3, 1) := by decide +kernel
theorem d_X5_putFirst_15 : decode c_X5_putFirst 15 = .ok (.aload_n 2, 1) := by decide +kernel
theorem d_X5_putFirst_16 : decode c_X5_putFirst 16 = .ok (.getfield 18, 3) := by decide +kernel
theorem d_X5_putFirst_19 : decode c_X5_putFirst 19 = .ok (.if_icmp .ge 50, 3) := by decide +kernel
theorem d_X5_putFirst_22 : decode c_X5_putFirst 22 = .ok (.aload_n 0, 1) := by decide +kernel
theorem d_X5_putFirst_23 : decode c_X5_putFirst 23 = .ok (.getfield 18, 3) := by decide +kernel
theorem d_X5_putFirst_26 : decode c_X5_putFirst 26 = .ok (.bipush 20, 2) := by decide +kernel
theorem d_X5_putFirst_28 : decode c_X5_putFirst 28 = .ok (.if_icmp .ge 41, 3) := by decide +kernel
theorem d_X5_putFirst_31 : decode c_X5_putFirst 31 = .ok (.aload_n 2, 1) := by decide +kernel
theorem d_X5_putFirst_32 : decode c_X5_putFirst 32 = .ok (.getfield 9, 3) := by decide +kernel
theorem d_X5_putFirst_35 : decode c_X5_putFirst 35 = .ok (.iload_n 3, 1) := by decide +kernel
theorem d_X5_putFirst_36 : decode c_X5_putFirst 36 = .ok (.iaload, 1) := by decide +kernel
theorem d_X5_putFirst_37 : decode c_X5_putFirst 37 = .ok (.iload_n 1, 1) := by decide +kernel
theorem d_X5_putFirst_38 : decode c_X5_putFirst 38 = .ok (.if_icmp .eq 25, 3) := by decide +kernel
theorem d_X5_putFirst_41 : decode c_X5_putFirst 41 = .ok (.aload_n 0, 1) := by decide +kernel
theorem d_X5_putFirst_42 : decode c_X5_putFirst 42 = .ok (.getfield 9, 3) := by decide +kernel
theorem d_X5_putFirst_45 : decode c_X5_putFirst 45 = .ok (.aload_n 0, 1) := by decide +kernel
theorem d_X5_putFirst_46 : decode c_X5_putFirst 46 = .ok (.dup, 1) := by decide +kernel
theorem d_X5_putFirst_47 : decode c_X5_putFirst 47 = .ok (.getfield 18, 3) := by decide +kernel
theorem d_X5_putFirst_50 : decode c_X5_putFirst 50 = .ok (.dup_x1, 1) := by decide +kernel
theorem d_X5_putFirst_51 : decode c_X5_putFirst 51 = .ok (.iconst 1, 1) := by decide +kernel
theorem d_X5_putFirst_52 : decode c_X5_putFirst 52 = .ok (.iadd, 1) := by decide +kernel
theorem d_X5_putFirst_53 : decode c_X5_putFirst 53 = .ok (.putfield 18, 3) := by decide +kernel
theorem d_X5_putFirst_56 : decode c_X5_putFirst 56 = .ok (.aload_n 2, 1) := by decide +kernel
theorem d_X5_putFirst_57 : decode c_X5_putFirst 57 = .ok (.getfield 9, 3) := by decide +kernel
theorem d_X5_putFirst_60 : decode c_X5_putFirst 60 = .ok (.iload_n 3, 1) := by decide +kernel
theorem d_X5_putFirst_61 : decode c_X5_putFirst 61 = .ok (.iaload, 1) := by decide +kernel
theorem d_X5_putFirst_62 : decode c_X5_putFirst 62 = .ok (.iastore, 1) := by decide +kernel
theorem d_X5_putFirst_63 : decode c_X5_putFirst 63 = .ok (.iinc 3 1, 3) := by decide +kernel
theorem d_X5_putFirst_66 : decode c_X5_putFirst 66 = .ok (.goto (-52), 3) := by decide +kernel
theorem d_X5_putFirst_69 : decode c_X5_putFirst 69 = .ok (.return_, 1) := by decide +kernel
set_option maxHeartbeats 4000000 in
set_option maxRecDepth 100000 in
theorem ct_X5_putFirst_20_21 (l : Launch) (D : va_G) (dA : Nat → ClassId) (ad : Nat → Nat) (v : tV) (hI : Inv v) (si : Int32) (r_si : Rg si 0 19) : Met l m_X5_putFirst [.code m_X5_putFirst c_X5_putFirst 4 none] ({ frames := 1, cells := 0, slots := 0, locals := 40 } : Room) (tP D dA ad v [.ref (ad 20), .int si, .ref (ad 21)]) (tQv D dA ad (fun v' => Inv v' ∧ Kp v v')) 0 0 (tA ad) := by
  refine tMet (by decide) (Nat.le_of_ble_eq_true rfl) ?_
  intro p e s m below meth c ls X hr hlocks hw hl
  have X : CX p s m ([.ref (ad 20), .int si, .ref (ad 21)] : List Value).toArray c c_X5_putFirst N_X5 4 D dA := X
  have hx := X.1
  have hb := X.2.1
  have hS : va_S (tA ad) s.heap s.heap [] := va_S.rf
  have hl : lv_has ls 4 [(0, .ref (ad 20)), (1, .int si), (2, .ref (ad 21))] := hl
  have LL : ∀ n : Nat, (∀ (y3 : Int32) (v1 : tV) (H : Heap) (locs : List Loc) (ls : Array Slot), (20 - y3.toInt).toNat < n → Rg y3 0 20 → Inv v1 → Kp v v1 → tI D dA ad v1 H → va_S (tA ad) s.heap H locs → lv_has ls 4 [(0, .ref (ad 20)), (1, .int si), (2, .ref (ad 21)), (3, .int y3)] → W p l e ({ frames := 1, cells := 0, slots := 0, locals := 40 } : Room) s m ([.ref (ad 20), .int si, .ref (ad 21)] : List Value).toArray below meth c H locs 0 0 (MQ below (tQv D dA ad (fun v' => Inv v' ∧ Kp v v')) ([.ref (ad 20), .int si, .ref (ad 21)] : List Value).toArray s 0 0 (tA ad)) (F0 m 14 ls [])) := by
    intro n
    induction n with
    | zero => intros; omega
    | succ n ih =>
      have ih0 := ih
      intro y3 v1 H locs ls hmu r_y3 hI1 hK1 hw hS hl
      refine lv_iload_n hx hb d_X5_putFirst_14 rfl (lv_at hl 3 rfl) ?_
      refine lv_aload_n hx hb d_X5_putFirst_15 rfl (lv_at hl 2 rfl) ?_
      refine r_geti X hw FL_X5_18 (rfl : KD 21 = _) rfl d_X5_putFirst_16 ?_
      refine lv_topi (fun x1 ex1 => ?_)
      have r2 : Rg x1 0 20 := by rw [ex1]; exact hI1 _ _ _ _ rfl
      have hm3 : v1 21 2 = x1 := ex1.symm
      refine lv_icmp_ge (tgt := 69) hx hb d_X5_putFirst_19 (by decide) (fun c4 => ?_) (fun c4 => ?_)
      · have f5 := i_le c4
        exact r_vret X hr hlocks hw hS ⟨hI1, hK1⟩ d_X5_putFirst_69
      · have f6 := i_nle c4
        have r7 : Rg y3 0 19 := by obtain ⟨a1, a2⟩ := r_y3; obtain ⟨b1, b2⟩ := r2; have f := i_nle c4; exact ⟨by omega, by omega⟩
        have r8 : Rg x1 1 20 := by obtain ⟨a1, a2⟩ := r_y3; obtain ⟨b1, b2⟩ := r2; have f := i_nle c4; exact ⟨by omega, by omega⟩
        refine lv_aload_n hx hb d_X5_putFirst_22 rfl (lv_at hl 0 rfl) ?_
        refine r_geti X hw FL_X5_18 (rfl : KD 20 = _) rfl d_X5_putFirst_23 ?_
        refine lv_topi (fun x9 ex9 => ?_)
        have r10 : Rg x9 0 20 := by rw [ex9]; exact hI1 _ _ _ _ rfl
        have hm11 : v1 20 2 = x9 := ex9.symm
        refine lv_bipush (v := 20) hx hb d_X5_putFirst_26 (by decide) ?_
        refine lv_icmp_ge (tgt := 69) hx hb d_X5_putFirst_28 (by decide) (fun c12 => ?_) (fun c12 => ?_)
        · have f13 := i_le c12
          have r14 : Rg x9 20 20 := by obtain ⟨a1, a2⟩ := r10; obtain ⟨b1, b2⟩ := (⟨by decide, by decide⟩ : Rg 20 20 20); have f := i_le c12; exact ⟨by omega, by omega⟩
          exact r_vret X hr hlocks hw hS ⟨hI1, hK1⟩ d_X5_putFirst_69
        · have f15 := i_nle c12
          have r16 : Rg x9 0 19 := by obtain ⟨a1, a2⟩ := r10; obtain ⟨b1, b2⟩ := (⟨by decide, by decide⟩ : Rg 20 20 20); have f := i_nle c12; exact ⟨by omega, by omega⟩
          refine lv_aload_n hx hb d_X5_putFirst_31 rfl (lv_at hl 2 rfl) ?_
          refine r_getr (r := 23) X hw FL_X5_9 (rfl : KD 21 = _) rfl d_X5_putFirst_32 ?_
          refine lv_iload_n hx hb d_X5_putFirst_35 rfl (lv_at hl 3 rfl) ?_
          refine r_iald X hw (rfl : KD 23 = _) (Rg.vp (b := 19) r7 (by decide)) rfl d_X5_putFirst_36 ?_
          refine lv_topi (fun x17 ex17 => ?_)
          have r18 : Rg x17 0 19 := by rw [ex17]; exact hI1 _ _ _ _ rfl
          refine lv_iload_n hx hb d_X5_putFirst_37 rfl (lv_at hl 1 rfl) ?_
          refine lv_icmp_eq (tgt := 63) hx hb d_X5_putFirst_38 (by decide) (fun c19 => ?_) (fun c19 => ?_)
          · have f20 := i_eq c19
            obtain ⟨x21, ex21⟩ : ∃ y : Int32, y = y3 + 1 := ⟨_, rfl⟩
            refine lv_iinc (v := x21) (lv' := [(3, .int x21), (0, .ref (ad 20)), (1, .int si), (2, .ref (ad 21))]) hx hb d_X5_putFirst_63 hl (k := 3) rfl (by rw [ex21]; rfl) (by decide) rfl (fun ls hl => ?_)
            have r22 : Rg x21 1 20 := rg_add ex21 r7 (⟨by decide, by decide⟩ : Rg 1 1 1) (by decide) (by decide)
            have s23 : x21.toInt = y3.toInt + (1 : Int32).toInt := by rw [ex21]; exact i_add (by obtain ⟨_, _⟩ := r7; obtain ⟨_, _⟩ := (⟨by decide, by decide⟩ : Rg 1 1 1); omega) (by obtain ⟨_, _⟩ := r7; obtain ⟨_, _⟩ := (⟨by decide, by decide⟩ : Rg 1 1 1); omega)
            have s23l : (1 : Int32).toInt = 1 := rfl
            refine lv_goto (tgt := 14) hx hb d_X5_putFirst_66 (by decide) ?_
            exact ih0 x21 v1 _ _ _ (by have := s23; obtain ⟨_, _⟩ := r22; omega) (rg_w r22 (by decide) (by decide)) hI1 hK1 hw hS (lv_sub hl [1, 2, 3, 0] rfl)
          · have f24 := i_ne c19
            refine lv_aload_n hx hb d_X5_putFirst_41 rfl (lv_at hl 0 rfl) ?_
            refine r_getr (r := 22) X hw FL_X5_9 (rfl : KD 20 = _) rfl d_X5_putFirst_42 ?_
            refine lv_aload_n hx hb d_X5_putFirst_45 rfl (lv_at hl 0 rfl) ?_
            refine lv_dup hx hb d_X5_putFirst_46 rfl ?_
            refine r_geti X hw FL_X5_18 (rfl : KD 20 = _) rfl d_X5_putFirst_47 ?_
            rw [hm11]
            refine lv_dup_x1 hx hb d_X5_putFirst_50 rfl rfl ?_
            refine lv_iconst (v := 1) hx hb d_X5_putFirst_51 (by decide) ?_
            refine lv_iadd hx hb d_X5_putFirst_52 ?_
            refine lv_topi (fun x25 ex25 => ?_)
            have r26 : Rg x25 1 20 := rg_add ex25 r16 (⟨by decide, by decide⟩ : Rg 1 1 1) (by decide) (by decide)
            have s27 : x25.toInt = x9.toInt + (1 : Int32).toInt := by rw [ex25]; exact i_add (by obtain ⟨_, _⟩ := r16; obtain ⟨_, _⟩ := (⟨by decide, by decide⟩ : Rg 1 1 1); omega) (by obtain ⟨_, _⟩ := r16; obtain ⟨_, _⟩ := (⟨by decide, by decide⟩ : Rg 1 1 1); omega)
            have s27l : (1 : Int32).toInt = 1 := rfl
            refine r_put X hw hS FP_X5_18 (rfl : KD 20 = _) rfl ⟨rfl, rfl⟩ d_X5_putFirst_53 (fun H locs hw hS => ?_)
            obtain ⟨v28, ev28⟩ : ∃ z, z = up2 v1 20 2 x25 := ⟨_, rfl⟩
            rw [← ev28] at hw
            have hI29 : Inv v28 := by rw [ev28]; exact Inv.putr hI1 rfl (rg_w r26 (by decide) (by decide))
            have hK30 : Kp v v28 := by rw [ev28]; exact Kp.put hK1 _ rfl
            have hm31 : v28 21 2 = x1 := by rw [ev28, up2_n _ _ (by omega)]; exact hm3
            have hm32 : v28 20 2 = x25 := by rw [ev28, up2_s]
            refine lv_aload_n hx hb d_X5_putFirst_56 rfl (lv_at hl 2 rfl) ?_
            refine r_getr (r := 23) X hw FL_X5_9 (rfl : KD 21 = _) rfl d_X5_putFirst_57 ?_
            refine lv_iload_n hx hb d_X5_putFirst_60 rfl (lv_at hl 3 rfl) ?_
            refine r_iald X hw (rfl : KD 23 = _) (Rg.vp (b := 19) r7 (by decide)) rfl d_X5_putFirst_61 ?_
            refine lv_topi (fun x33 ex33 => ?_)
            have r34 : Rg x33 0 19 := by rw [ex33]; exact hI29 _ _ _ _ rfl
            refine r_iast X hw hS (rfl : KD 22 = _) (Rg.vp (b := 19) r16 (by decide)) rfl d_X5_putFirst_62 (fun H locs hw hS => ?_)
            obtain ⟨v35, ev35⟩ : ∃ z, z = up2 v28 22 x9.toNatClampNeg x33 := ⟨_, rfl⟩
            rw [← ev35] at hw
            have hI36 : Inv v35 := by rw [ev35]; exact Inv.putr hI29 rfl r34
            have hK37 : Kp v v35 := by rw [ev35]; exact Kp.put hK30 _ rfl
            have hm38 : v35 21 2 = x1 := by rw [ev35, up2_n _ _ (by omega)]; exact hm31
            have hm39 : v35 20 2 = x25 := by rw [ev35, up2_n _ _ (by omega)]; exact hm32
            obtain ⟨x40, ex40⟩ : ∃ y : Int32, y = y3 + 1 := ⟨_, rfl⟩
            refine lv_iinc (v := x40) (lv' := [(3, .int x40), (0, .ref (ad 20)), (1, .int si), (2, .ref (ad 21))]) hx hb d_X5_putFirst_63 hl (k := 3) rfl (by rw [ex40]; rfl) (by decide) rfl (fun ls hl => ?_)
            have r41 : Rg x40 1 20 := rg_add ex40 r7 (⟨by decide, by decide⟩ : Rg 1 1 1) (by decide) (by decide)
            have s42 : x40.toInt = y3.toInt + (1 : Int32).toInt := by rw [ex40]; exact i_add (by obtain ⟨_, _⟩ := r7; obtain ⟨_, _⟩ := (⟨by decide, by decide⟩ : Rg 1 1 1); omega) (by obtain ⟨_, _⟩ := r7; obtain ⟨_, _⟩ := (⟨by decide, by decide⟩ : Rg 1 1 1); omega)
            have s42l : (1 : Int32).toInt = 1 := rfl
            refine lv_goto (tgt := 14) hx hb d_X5_putFirst_66 (by decide) ?_
            exact ih0 x40 v35 _ _ _ (by have := s27; have := s42; obtain ⟨_, _⟩ := r41; omega) (rg_w r41 (by decide) (by decide)) hI36 hK37 hw hS (lv_sub hl [1, 2, 3, 0] rfl)
  have ih0 := LL 100000
  have hK0 : Kp v v := Kp.rf v
  refine lv_aload_n hx hb d_X5_putFirst_0 rfl (lv_at hl 0 rfl) ?_
  refine r_getr (r := 22) X hw FL_X5_9 (rfl : KD 20 = _) rfl d_X5_putFirst_1 ?_
  refine lv_iconst (v := 0) hx hb d_X5_putFirst_4 (by decide) ?_
  refine lv_iload_n hx hb d_X5_putFirst_5 rfl (lv_at hl 1 rfl) ?_
  refine r_iast X hw hS (rfl : KD 22 = _) (Rg.vp (b := 0) (⟨by decide, by decide⟩ : Rg 0 0 0) (by decide)) rfl d_X5_putFirst_6 (fun H locs hw hS => ?_)
  obtain ⟨v43, ev43⟩ : ∃ z, z = up2 v 22 (0 : Int32).toNatClampNeg si := ⟨_, rfl⟩
  rw [← ev43] at hw
  have hI44 : Inv v43 := by rw [ev43]; exact Inv.putr hI rfl r_si
  have hK45 : Kp v v43 := by rw [ev43]; exact Kp.put hK0 _ rfl
  refine lv_aload_n hx hb d_X5_putFirst_7 rfl (lv_at hl 0 rfl) ?_
  refine lv_iconst (v := 1) hx hb d_X5_putFirst_8 (by decide) ?_
  refine r_put X hw hS FP_X5_18 (rfl : KD 20 = _) rfl ⟨rfl, rfl⟩ d_X5_putFirst_9 (fun H locs hw hS => ?_)
  obtain ⟨v46, ev46⟩ : ∃ z, z = up2 v43 20 2 1 := ⟨_, rfl⟩
  rw [← ev46] at hw
  have hI47 : Inv v46 := by rw [ev46]; exact Inv.putr hI44 rfl (rg_w (⟨by decide, by decide⟩ : Rg 1 1 1) (by decide) (by decide))
  have hK48 : Kp v v46 := by rw [ev46]; exact Kp.put hK45 _ rfl
  have hm49 : v46 20 2 = 1 := by rw [ev46, up2_s]
  refine lv_iconst (v := 0) hx hb d_X5_putFirst_12 (by decide) ?_
  refine lv_istore_n (lv' := [(3, .int 0), (0, .ref (ad 20)), (1, .int si), (2, .ref (ad 21))]) hx hb d_X5_putFirst_13 rfl hl (by decide) rfl (fun ls hl => ?_)
  exact ih0 0 v46 _ _ _ (by obtain ⟨_, _⟩ := (⟨by decide, by decide⟩ : Rg 0 0 0); omega) (rg_w (⟨by decide, by decide⟩ : Rg 0 0 0) (by decide) (by decide)) hI47 hK48 hw hS (lv_sub hl [1, 2, 3, 0] rfl)
theorem d_X5_line_0 : decode c_X5_line 0 = .ok (.aload_n 0, 1) := by decide +kernel
theorem d_X5_line_1 : decode c_X5_line 1 = .ok (.iconst 0, 1) := by decide +kernel
theorem d_X5_line_2 : decode c_X5_line 2 = .ok (.putfield 18, 3) := by decide +kernel
theorem d_X5_line_5 : decode c_X5_line 5 = .ok (.iconst 0, 1) := by decide +kernel
theorem d_X5_line_6 : decode c_X5_line 6 = .ok (.istore_n 3, 1) := by decide +kernel
theorem d_X5_line_7 : decode c_X5_line 7 = .ok (.iload_n 3, 1) := by decide +kernel
theorem d_X5_line_8 : decode c_X5_line 8 = .ok (.aload_n 1, 1) := by decide +kernel
theorem d_X5_line_9 : decode c_X5_line 9 = .ok (.getfield 22, 3) := by decide +kernel
theorem d_X5_line_12 : decode c_X5_line 12 = .ok (.if_icmp .ge 50, 3) := by decide +kernel
theorem d_X5_line_15 : decode c_X5_line 15 = .ok (.aload_n 1, 1) := by decide +kernel
theorem d_X5_line_16 : decode c_X5_line 16 = .ok (.getfield 27, 3) := by decide +kernel
theorem d_X5_line_19 : decode c_X5_line 19 = .ok (.iload_n 3, 1) := by decide +kernel
theorem d_X5_line_20 : decode c_X5_line 20 = .ok (.aaload, 1) := by decide +kernel
theorem d_X5_line_21 : decode c_X5_line 21 = .ok (.astore 4, 2) := by decide +kernel
theorem d_X5_line_23 : decode c_X5_line 23 = .ok (.aload 4, 2) := by decide +kernel
theorem d_X5_line_25 : decode c_X5_line 25 = .ok (.getfield 30, 3) := by decide +kernel
theorem d_X5_line_28 : decode c_X5_line 28 = .ok (.iconst 1, 1) := by decide +kernel
theorem d_X5_line_29 : decode c_X5_line 29 = .ok (.if_icmp .gt 27, 3) := by decide +kernel
theorem d_X5_line_32 : decode c_X5_line 32 = .ok (.aload 4, 2) := by decide +kernel
theorem d_X5_line_34 : decode c_X5_line 34 = .ok (.invokevirtual 35, 3) := by decide +kernel
theorem d_X5_line_37 : decode c_X5_line 37 = .ok (.ifCond .eq 19, 3) := by decide +kernel
theorem d_X5_line_40 : decode c_X5_line 40 = .ok (.aload_n 0, 1) := by decide +kernel
theorem d_X5_line_41 : decode c_X5_line 41 = .ok (.iload_n 3, 1) := by decide +kernel
theorem d_X5_line_42 : decode c_X5_line 42 = .ok (.iload_n 3, 1) := by decide +kernel
theorem d_X5_line_43 : decode c_X5_line 43 = .ok (.aload 4, 2) := by decide +kernel
theorem d_X5_line_45 : decode c_X5_line 45 = .ok (.aload_n 2, 1) := by decide +kernel
theorem d_X5_line_46 : decode c_X5_line 46 = .ok (.aload_n 1, 1) := by decide +kernel
theorem d_X5_line_47 : decode c_X5_line 47 = .ok (.getfield 39, 3) := by decide +kernel
theorem d_X5_line_50 : decode c_X5_line 50 = .ok (.invokestatic 42, 3) := by decide +kernel
theorem d_X5_line_53 : decode c_X5_line 53 = .ok (.invokevirtual 46, 3) := by decide +kernel
theorem d_X5_line_56 : decode c_X5_line 56 = .ok (.iinc 3 1, 3) := by decide +kernel
theorem d_X5_line_59 : decode c_X5_line 59 = .ok (.goto (-52), 3) := by decide +kernel
theorem d_X5_line_62 : decode c_X5_line 62 = .ok (.aload_n 0, 1) := by decide +kernel
theorem d_X5_line_63 : decode c_X5_line 63 = .ok (.aload_n 0, 1) := by decide +kernel
theorem d_X5_line_64 : decode c_X5_line 64 = .ok (.getfield 18, 3) := by decide +kernel
theorem d_X5_line_67 : decode c_X5_line 67 = .ok (.aload_n 2, 1) := by decide +kernel
theorem d_X5_line_68 : decode c_X5_line 68 = .ok (.aload_n 1, 1) := by decide +kernel
theorem d_X5_line_69 : decode c_X5_line 69 = .ok (.getfield 50, 3) := by decide +kernel
theorem d_X5_line_72 : decode c_X5_line 72 = .ok (.invokevirtual 53, 3) := by decide +kernel
theorem d_X5_line_75 : decode c_X5_line 75 = .ok (.invokestatic 59, 3) := by decide +kernel
theorem d_X5_line_78 : decode c_X5_line 78 = .ok (.putfield 18, 3) := by decide +kernel
theorem d_X5_line_81 : decode c_X5_line 81 = .ok (.iconst 0, 1) := by decide +kernel
theorem d_X5_line_82 : decode c_X5_line 82 = .ok (.istore_n 3, 1) := by decide +kernel
theorem d_X5_line_83 : decode c_X5_line 83 = .ok (.iload_n 3, 1) := by decide +kernel
theorem d_X5_line_84 : decode c_X5_line 84 = .ok (.aload_n 1, 1) := by decide +kernel
theorem d_X5_line_85 : decode c_X5_line 85 = .ok (.getfield 22, 3) := by decide +kernel
theorem d_X5_line_88 : decode c_X5_line 88 = .ok (.if_icmp .ge 41, 3) := by decide +kernel
theorem d_X5_line_91 : decode c_X5_line 91 = .ok (.aload_n 1, 1) := by decide +kernel
theorem d_X5_line_92 : decode c_X5_line 92 = .ok (.getfield 27, 3) := by decide +kernel
theorem d_X5_line_95 : decode c_X5_line 95 = .ok (.iload_n 3, 1) := by decide +kernel
theorem d_X5_line_96 : decode c_X5_line 96 = .ok (.aaload, 1) := by decide +kernel
theorem d_X5_line_97 : decode c_X5_line 97 = .ok (.astore 4, 2) := by decide +kernel
theorem d_X5_line_99 : decode c_X5_line 99 = .ok (.aload 4, 2) := by decide +kernel
theorem d_X5_line_101 : decode c_X5_line 101 = .ok (.getfield 30, 3) := by decide +kernel
theorem d_X5_line_104 : decode c_X5_line 104 = .ok (.iconst 2, 1) := by decide +kernel
theorem d_X5_line_105 : decode c_X5_line 105 = .ok (.if_icmp .ne 18, 3) := by decide +kernel
theorem d_X5_line_108 : decode c_X5_line 108 = .ok (.aload 4, 2) := by decide +kernel
theorem d_X5_line_110 : decode c_X5_line 110 = .ok (.invokevirtual 35, 3) := by decide +kernel
theorem d_X5_line_113 : decode c_X5_line 113 = .ok (.ifCond .eq 10, 3) := by decide +kernel
theorem d_X5_line_116 : decode c_X5_line 116 = .ok (.aload_n 0, 1) := by decide +kernel
theorem d_X5_line_117 : decode c_X5_line 117 = .ok (.iload_n 3, 1) := by decide +kernel
theorem d_X5_line_118 : decode c_X5_line 118 = .ok (.ldc 67, 2) := by decide +kernel
theorem d_X5_line_120 : decode c_X5_line 120 = .ok (.invokevirtual 46, 3) := by decide +kernel
theorem d_X5_line_123 : decode c_X5_line 123 = .ok (.iinc 3 1, 3) := by decide +kernel
theorem d_X5_line_126 : decode c_X5_line 126 = .ok (.goto (-43), 3) := by decide +kernel
theorem d_X5_line_129 : decode c_X5_line 129 = .ok (.return_, 1) := by decide +kernel
set_option maxHeartbeats 4000000 in
set_option maxRecDepth 100000 in
theorem ct_X5_line_20_1 (l : Launch) (D : va_G) (dA : Nat → ClassId) (ad : Nat → Nat) (v : tV) (hI : Inv v) (k : Nat) (ka : 60 ≤ k) (kb : k < 69) : Met l m_X5_line [.code m_X5_line c_X5_line 5 none] ({ frames := 3, cells := 0, slots := 0, locals := 86 } : Room) (tP D dA ad v [.ref (ad 20), .ref (ad 1), .ref (ad k)]) (tQv D dA ad (fun v' => Inv v' ∧ Kp v v')) 0 0 (tA ad) := by
  refine tMet (by decide) (Nat.le_of_ble_eq_true rfl) ?_
  intro p e s m below meth c ls X hr hlocks hw hl
  have X : CX p s m ([.ref (ad 20), .ref (ad 1), .ref (ad k)] : List Value).toArray c c_X5_line N_X5 5 D dA := X
  have hx := X.1
  have hb := X.2.1
  have hS : va_S (tA ad) s.heap s.heap [] := va_S.rf
  have hl : lv_has ls 5 [(0, .ref (ad 20)), (1, .ref (ad 1)), (2, .ref (ad k))] := hl
  have LL : ∀ n : Nat, (∀ (y3 : Int32) (v1 : tV) (H : Heap) (locs : List Loc) (ls : Array Slot), (20 - y3.toInt).toNat + 100 < n → Rg y3 0 20 → Inv v1 → Kp v v1 → tI D dA ad v1 H → va_S (tA ad) s.heap H locs → lv_has ls 5 [(0, .ref (ad 20)), (1, .ref (ad 1)), (2, .ref (ad k)), (3, .int y3)] → W p l e ({ frames := 3, cells := 0, slots := 0, locals := 86 } : Room) s m ([.ref (ad 20), .ref (ad 1), .ref (ad k)] : List Value).toArray below meth c H locs 0 0 (MQ below (tQv D dA ad (fun v' => Inv v' ∧ Kp v v')) ([.ref (ad 20), .ref (ad 1), .ref (ad k)] : List Value).toArray s 0 0 (tA ad)) (F0 m 7 ls [])) ∧ (∀ (y3 : Int32) (v1 : tV) (H : Heap) (locs : List Loc) (ls : Array Slot), (20 - y3.toInt).toNat + 0 < n → Rg y3 0 20 → Inv v1 → Kp v v1 → tI D dA ad v1 H → va_S (tA ad) s.heap H locs → lv_has ls 5 [(0, .ref (ad 20)), (1, .ref (ad 1)), (2, .ref (ad k)), (3, .int y3)] → W p l e ({ frames := 3, cells := 0, slots := 0, locals := 86 } : Room) s m ([.ref (ad 20), .ref (ad 1), .ref (ad k)] : List Value).toArray below meth c H locs 0 0 (MQ below (tQv D dA ad (fun v' => Inv v' ∧ Kp v v')) ([.ref (ad 20), .ref (ad 1), .ref (ad k)] : List Value).toArray s 0 0 (tA ad)) (F0 m 83 ls [])) := by
    intro n
    induction n with
    | zero => refine ⟨?_, ?_⟩ <;> (intros; omega)
    | succ n ih =>
      obtain ⟨ih0, ih1⟩ := ih
      refine ⟨?_, ?_⟩
      · intro y3 v1 H locs ls hmu r_y3 hI1 hK1 hw hS hl
        refine lv_iload_n hx hb d_X5_line_7 rfl (lv_at hl 3 rfl) ?_
        refine lv_aload_n hx hb d_X5_line_8 rfl (lv_at hl 1 rfl) ?_
        refine r_geti X hw FL_X5_22 (rfl : KD 1 = _) rfl d_X5_line_9 ?_
        refine lv_topi (fun x1 ex1 => ?_)
        have r2 : Rg x1 0 20 := by rw [ex1]; exact hI1 _ _ _ _ rfl
        have hm3 : v1 1 3 = x1 := ex1.symm
        refine lv_icmp_ge (tgt := 62) hx hb d_X5_line_12 (by decide) (fun c4 => ?_) (fun c4 => ?_)
        · have f5 := i_le c4
          refine lv_aload_n hx hb d_X5_line_62 rfl (lv_at hl 0 rfl) ?_
          refine lv_aload_n hx hb d_X5_line_63 rfl (lv_at hl 0 rfl) ?_
          refine r_geti X hw FL_X5_18 (rfl : KD 20 = _) rfl d_X5_line_64 ?_
          refine lv_topi (fun x6 ex6 => ?_)
          have r7 : Rg x6 0 20 := by rw [ex6]; exact hI1 _ _ _ _ rfl
          have hm8 : v1 20 2 = x6 := ex6.symm
          refine lv_aload_n hx hb d_X5_line_67 rfl (lv_at hl 2 rfl) ?_
          refine lv_aload_n hx hb d_X5_line_68 rfl (lv_at hl 1 rfl) ?_
          refine r_geti X hw FL_X5_50 (rfl : KD 1 = _) rfl d_X5_line_69 ?_
          refine lv_topi (fun x9 ex9 => ?_)
          refine r_ci (r_runV (n := 1) (As := [.int x9]) (rest := [.int x6, .ref (ad 20)]) X hw (ct_X3_sellers l D dA ad v1 hI1 k x9 (by omega) (by omega)) gc_X5_53 (KD_order (by omega) (by omega)) (by decide) rfl (by decide +kernel) ⟨rfl, rfl, Nat.le_of_ble_eq_true rfl, Nat.le_of_ble_eq_true rfl⟩ rfl hl.1 rfl (Nat.le_of_ble_eq_true rfl) ⟨Nat.zero_le _, Nat.zero_le _⟩ d_X5_line_72) hS (fun x11 v12 H locs hp10 hw hS => ?_)
          obtain ⟨ev12, hp10⟩ := hp10
          rw [ev12] at hw
          refine va_mmin hx hb (X.2.2.1.trans hl.1.symm) X.2.2.2.1 (X.2.2.2.2.1 _ ml_X5_59) (X.2.2.2.2.1 _ ml_mins) (X.2.2.2.2.1 _ ml_mi) (X.2.2.2.2.1 _ ml_minc) (Nat.le_of_ble_eq_true rfl) (Nat.le_of_ble_eq_true rfl) (Nat.zero_le _) (Nat.zero_le _) d_X5_line_75 ?_
          refine lv_topi (fun x13 ex13 => ?_)
          have r14 : Rg x13 0 20 := by obtain ⟨a1, a2⟩ := r7; obtain ⟨b1, b2⟩ := hp10; rw [ex13]; split <;> rename_i q <;> first | (have := i_lt q; exact ⟨by omega, by omega⟩) | (have := i_nlt q; exact ⟨by omega, by omega⟩)
          refine r_put X hw hS FP_X5_18 (rfl : KD 20 = _) rfl ⟨rfl, rfl⟩ d_X5_line_78 (fun H locs hw hS => ?_)
          obtain ⟨v15, ev15⟩ : ∃ z, z = up2 v1 20 2 x13 := ⟨_, rfl⟩
          rw [← ev15] at hw
          have hI16 : Inv v15 := by rw [ev15]; exact Inv.putr hI1 rfl r14
          have hK17 : Kp v v15 := by rw [ev15]; exact Kp.put hK1 _ rfl
          have hm18 : v15 1 3 = x1 := by rw [ev15, up2_n _ _ (by omega)]; exact hm3
          have hm19 : v15 20 2 = x13 := by rw [ev15, up2_s]
          refine lv_iconst (v := 0) hx hb d_X5_line_81 (by decide) ?_
          refine lv_istore_n (lv' := [(3, .int 0), (0, .ref (ad 20)), (1, .ref (ad 1)), (2, .ref (ad k))]) hx hb d_X5_line_82 rfl hl (by decide) rfl (fun ls hl => ?_)
          exact ih1 0 v15 _ _ _ (by obtain ⟨_, _⟩ := (⟨by decide, by decide⟩ : Rg 0 0 0); omega) (rg_w (⟨by decide, by decide⟩ : Rg 0 0 0) (by decide) (by decide)) hI16 hK17 hw hS (lv_sub hl [1, 2, 3, 0] rfl)
        · have f20 := i_nle c4
          have r21 : Rg y3 0 19 := by obtain ⟨a1, a2⟩ := r_y3; obtain ⟨b1, b2⟩ := r2; have f := i_nle c4; exact ⟨by omega, by omega⟩
          have r22 : Rg x1 1 20 := by obtain ⟨a1, a2⟩ := r_y3; obtain ⟨b1, b2⟩ := r2; have f := i_nle c4; exact ⟨by omega, by omega⟩
          refine lv_aload_n hx hb d_X5_line_15 rfl (lv_at hl 1 rfl) ?_
          refine r_getr (r := 10) X hw FL_X5_27 (rfl : KD 1 = _) rfl d_X5_line_16 ?_
          refine lv_iload_n hx hb d_X5_line_19 rfl (lv_at hl 3 rfl) ?_
          refine r_aald X hw (rfl : KD 10 = _) (Or.inl rfl) (Rg.vp (b := 19) r21 (by decide)) rfl d_X5_line_20 ?_
          refine r_nm (fun kc23 ekc23 => ?_)
          have kc23a : 100 ≤ kc23 := by omega
          have kc23b : kc23 ≤ 119 := by have := Rg.nat r21; omega
          refine lv_astore (lv' := [(4, .ref (ad kc23)), (0, .ref (ad 20)), (1, .ref (ad 1)), (2, .ref (ad k)), (3, .int y3)]) hx hb d_X5_line_21 hl (by decide) rfl (fun ls hl => ?_)
          refine lv_aload hx hb d_X5_line_23 (lv_at hl 0 rfl) ?_
          refine r_geti X hw FL_X5_30 (KD_ship (by omega) (by omega)) (SH_ship (by omega) (by omega)) d_X5_line_25 ?_
          refine lv_topi (fun x24 ex24 => ?_)
          refine lv_iconst (v := 1) hx hb d_X5_line_28 (by decide) ?_
          refine lv_icmp_gt (tgt := 56) hx hb d_X5_line_29 (by decide) (fun c25 => ?_) (fun c25 => ?_)
          · have f26 := i_lt c25
            have r27 : Rg x24 2 2147483647 := by obtain ⟨a1, a2⟩ := (rg_any x24); obtain ⟨b1, b2⟩ := (⟨by decide, by decide⟩ : Rg 1 1 1); have f := i_lt c25; exact ⟨by omega, by omega⟩
            obtain ⟨x28, ex28⟩ : ∃ y : Int32, y = y3 + 1 := ⟨_, rfl⟩
            refine lv_iinc (v := x28) (lv' := [(3, .int x28), (4, .ref (ad kc23)), (0, .ref (ad 20)), (1, .ref (ad 1)), (2, .ref (ad k))]) hx hb d_X5_line_56 hl (k := 4) rfl (by rw [ex28]; rfl) (by decide) rfl (fun ls hl => ?_)
            have r29 : Rg x28 1 20 := rg_add ex28 r21 (⟨by decide, by decide⟩ : Rg 1 1 1) (by decide) (by decide)
            have s30 : x28.toInt = y3.toInt + (1 : Int32).toInt := by rw [ex28]; exact i_add (by obtain ⟨_, _⟩ := r21; obtain ⟨_, _⟩ := (⟨by decide, by decide⟩ : Rg 1 1 1); omega) (by obtain ⟨_, _⟩ := r21; obtain ⟨_, _⟩ := (⟨by decide, by decide⟩ : Rg 1 1 1); omega)
            have s30l : (1 : Int32).toInt = 1 := rfl
            refine lv_goto (tgt := 7) hx hb d_X5_line_59 (by decide) ?_
            exact ih0 x28 v1 _ _ _ (by have := s30; obtain ⟨_, _⟩ := r29; omega) (rg_w r29 (by decide) (by decide)) hI1 hK1 hw hS (lv_sub hl [2, 3, 4, 0] rfl)
          · have f31 := i_nlt c25
            have r32 : Rg x24 (-2147483648) 1 := by obtain ⟨a1, a2⟩ := (rg_any x24); obtain ⟨b1, b2⟩ := (⟨by decide, by decide⟩ : Rg 1 1 1); have f := i_nlt c25; exact ⟨by omega, by omega⟩
            refine lv_aload hx hb d_X5_line_32 (lv_at hl 0 rfl) ?_
            refine r_ci (r_runV (n := 0) (As := []) (rest := []) X hw (ct_X7_isInPort l D dA ad v1 hI1 kc23 (by omega) (by omega)) gc_X5_35 (KD_ship (by omega) (by omega)) (by decide) rfl (by decide +kernel) ⟨rfl, rfl, Nat.le_of_ble_eq_true rfl, Nat.le_of_ble_eq_true rfl⟩ rfl hl.1 rfl (Nat.le_of_ble_eq_true rfl) ⟨Nat.zero_le _, Nat.zero_le _⟩ d_X5_line_34) hS (fun x34 v35 H locs hp33 hw hS => ?_)
            obtain ⟨ev35, hp33⟩ := hp33
            rw [ev35] at hw
            refine lv_if_eq (tgt := 56) hx hb d_X5_line_37 (by decide) (fun c36 => ?_) (fun c36 => ?_)
            · have f37 := i_eq c36
              have r38 : Rg x34 0 0 := by obtain ⟨a1, a2⟩ := hp33; obtain ⟨b1, b2⟩ := (⟨by decide, by decide⟩ : Rg 0 0 0); have f := i_eq c36; exact ⟨by omega, by omega⟩
              obtain ⟨x39, ex39⟩ : ∃ y : Int32, y = y3 + 1 := ⟨_, rfl⟩
              refine lv_iinc (v := x39) (lv' := [(3, .int x39), (4, .ref (ad kc23)), (0, .ref (ad 20)), (1, .ref (ad 1)), (2, .ref (ad k))]) hx hb d_X5_line_56 hl (k := 4) rfl (by rw [ex39]; rfl) (by decide) rfl (fun ls hl => ?_)
              have r40 : Rg x39 1 20 := rg_add ex39 r21 (⟨by decide, by decide⟩ : Rg 1 1 1) (by decide) (by decide)
              have s41 : x39.toInt = y3.toInt + (1 : Int32).toInt := by rw [ex39]; exact i_add (by obtain ⟨_, _⟩ := r21; obtain ⟨_, _⟩ := (⟨by decide, by decide⟩ : Rg 1 1 1); omega) (by obtain ⟨_, _⟩ := r21; obtain ⟨_, _⟩ := (⟨by decide, by decide⟩ : Rg 1 1 1); omega)
              have s41l : (1 : Int32).toInt = 1 := rfl
              refine lv_goto (tgt := 7) hx hb d_X5_line_59 (by decide) ?_
              exact ih0 x39 v1 _ _ _ (by have := s41; obtain ⟨_, _⟩ := r40; omega) (rg_w r40 (by decide) (by decide)) hI1 hK1 hw hS (lv_sub hl [2, 3, 4, 0] rfl)
            · have f42 := i_ne c36
              have r43 : Rg x34 1 1 := by obtain ⟨a1, a2⟩ := hp33; obtain ⟨b1, b2⟩ := (⟨by decide, by decide⟩ : Rg 0 0 0); have f := i_ne c36; exact ⟨by omega, by omega⟩
              refine lv_aload_n hx hb d_X5_line_40 rfl (lv_at hl 1 rfl) ?_
              refine lv_iload_n hx hb d_X5_line_41 rfl (lv_at hl 4 rfl) ?_
              refine lv_iload_n hx hb d_X5_line_42 rfl (lv_at hl 4 rfl) ?_
              refine lv_aload hx hb d_X5_line_43 (lv_at hl 0 rfl) ?_
              refine lv_aload_n hx hb d_X5_line_45 rfl (lv_at hl 3 rfl) ?_
              refine lv_aload_n hx hb d_X5_line_46 rfl (lv_at hl 2 rfl) ?_
              refine r_geti X hw FL_X5_39 (rfl : KD 1 = _) rfl d_X5_line_47 ?_
              refine lv_topi (fun x44 ex44 => ?_)
              refine r_ci (r_runS (n := 4) (As := [.int y3, .ref (ad kc23), .ref (ad k), .int x44]) (rest := [.int y3, .ref (ad 20)]) X hw (ct_X5_rank l D dA ad v1 hI1 y3 kc23 k x44 (by omega) (by omega) (by omega) (by omega)) gc_X5_42 (by decide +kernel) ⟨rfl, rfl, Nat.le_of_ble_eq_true rfl, Nat.le_of_ble_eq_true rfl⟩ rfl hl.1 rfl (Nat.le_of_ble_eq_true rfl) ⟨Nat.zero_le _, Nat.zero_le _⟩ d_X5_line_50) hS (fun x46 v47 H locs hp45 hw hS => ?_)
              rw [hp45] at hw
              refine r_cv (r_runV (n := 2) (As := [.int y3, .int x46]) (rest := []) X hw (ct_X5_insert_20 l D dA ad v1 hI1 y3 x46 r21) gc_X5_46 (rfl : KD 20 = _) (by decide) rfl (by decide +kernel) ⟨rfl, rfl, Nat.le_of_ble_eq_true rfl, Nat.le_of_ble_eq_true rfl⟩ rfl hl.1 rfl (Nat.le_of_ble_eq_true rfl) ⟨Nat.zero_le _, Nat.zero_le _⟩ d_X5_line_53) hS (fun v49 H locs hp48 hw hS => ?_)
              obtain ⟨hI50, hK51⟩ := hp48
              have hK52 : Kp v v49 := Kp.tr hK1 hK51
              obtain ⟨x53, ex53⟩ : ∃ y : Int32, y = y3 + 1 := ⟨_, rfl⟩
              refine lv_iinc (v := x53) (lv' := [(3, .int x53), (4, .ref (ad kc23)), (0, .ref (ad 20)), (1, .ref (ad 1)), (2, .ref (ad k))]) hx hb d_X5_line_56 hl (k := 4) rfl (by rw [ex53]; rfl) (by decide) rfl (fun ls hl => ?_)
              have r54 : Rg x53 1 20 := rg_add ex53 r21 (⟨by decide, by decide⟩ : Rg 1 1 1) (by decide) (by decide)
              have s55 : x53.toInt = y3.toInt + (1 : Int32).toInt := by rw [ex53]; exact i_add (by obtain ⟨_, _⟩ := r21; obtain ⟨_, _⟩ := (⟨by decide, by decide⟩ : Rg 1 1 1); omega) (by obtain ⟨_, _⟩ := r21; obtain ⟨_, _⟩ := (⟨by decide, by decide⟩ : Rg 1 1 1); omega)
              have s55l : (1 : Int32).toInt = 1 := rfl
              refine lv_goto (tgt := 7) hx hb d_X5_line_59 (by decide) ?_
              exact ih0 x53 v49 _ _ _ (by have := s55; obtain ⟨_, _⟩ := r54; omega) (rg_w r54 (by decide) (by decide)) hI50 hK52 hw hS (lv_sub hl [2, 3, 4, 0] rfl)
      · intro y3 v1 H locs ls hmu r_y3 hI1 hK1 hw hS hl
        refine lv_iload_n hx hb d_X5_line_83 rfl (lv_at hl 3 rfl) ?_
        refine lv_aload_n hx hb d_X5_line_84 rfl (lv_at hl 1 rfl) ?_
        refine r_geti X hw FL_X5_22 (rfl : KD 1 = _) rfl d_X5_line_85 ?_
        refine lv_topi (fun x56 ex56 => ?_)
        have r57 : Rg x56 0 20 := by rw [ex56]; exact hI1 _ _ _ _ rfl
        have hm58 : v1 1 3 = x56 := ex56.symm
        refine lv_icmp_ge (tgt := 129) hx hb d_X5_line_88 (by decide) (fun c59 => ?_) (fun c59 => ?_)
        · have f60 := i_le c59
          exact r_vret X hr hlocks hw hS ⟨hI1, hK1⟩ d_X5_line_129
        · have f61 := i_nle c59
          have r62 : Rg y3 0 19 := by obtain ⟨a1, a2⟩ := r_y3; obtain ⟨b1, b2⟩ := r57; have f := i_nle c59; exact ⟨by omega, by omega⟩
          have r63 : Rg x56 1 20 := by obtain ⟨a1, a2⟩ := r_y3; obtain ⟨b1, b2⟩ := r57; have f := i_nle c59; exact ⟨by omega, by omega⟩
          refine lv_aload_n hx hb d_X5_line_91 rfl (lv_at hl 1 rfl) ?_
          refine r_getr (r := 10) X hw FL_X5_27 (rfl : KD 1 = _) rfl d_X5_line_92 ?_
          refine lv_iload_n hx hb d_X5_line_95 rfl (lv_at hl 3 rfl) ?_
          refine r_aald X hw (rfl : KD 10 = _) (Or.inl rfl) (Rg.vp (b := 19) r62 (by decide)) rfl d_X5_line_96 ?_
          refine r_nm (fun kc64 ekc64 => ?_)
          have kc64a : 100 ≤ kc64 := by omega
          have kc64b : kc64 ≤ 119 := by have := Rg.nat r62; omega
          refine lv_astore (lv' := [(4, .ref (ad kc64)), (0, .ref (ad 20)), (1, .ref (ad 1)), (2, .ref (ad k)), (3, .int y3)]) hx hb d_X5_line_97 hl (by decide) rfl (fun ls hl => ?_)
          refine lv_aload hx hb d_X5_line_99 (lv_at hl 0 rfl) ?_
          refine r_geti X hw FL_X5_30 (KD_ship (by omega) (by omega)) (SH_ship (by omega) (by omega)) d_X5_line_101 ?_
          refine lv_topi (fun x65 ex65 => ?_)
          refine lv_iconst (v := 2) hx hb d_X5_line_104 (by decide) ?_
          refine lv_icmp_ne (tgt := 123) hx hb d_X5_line_105 (by decide) (fun c66 => ?_) (fun c66 => ?_)
          · have f67 := i_ne c66
            obtain ⟨x68, ex68⟩ : ∃ y : Int32, y = y3 + 1 := ⟨_, rfl⟩
            refine lv_iinc (v := x68) (lv' := [(3, .int x68), (4, .ref (ad kc64)), (0, .ref (ad 20)), (1, .ref (ad 1)), (2, .ref (ad k))]) hx hb d_X5_line_123 hl (k := 4) rfl (by rw [ex68]; rfl) (by decide) rfl (fun ls hl => ?_)
            have r69 : Rg x68 1 20 := rg_add ex68 r62 (⟨by decide, by decide⟩ : Rg 1 1 1) (by decide) (by decide)
            have s70 : x68.toInt = y3.toInt + (1 : Int32).toInt := by rw [ex68]; exact i_add (by obtain ⟨_, _⟩ := r62; obtain ⟨_, _⟩ := (⟨by decide, by decide⟩ : Rg 1 1 1); omega) (by obtain ⟨_, _⟩ := r62; obtain ⟨_, _⟩ := (⟨by decide, by decide⟩ : Rg 1 1 1); omega)
            have s70l : (1 : Int32).toInt = 1 := rfl
            refine lv_goto (tgt := 83) hx hb d_X5_line_126 (by decide) ?_
            exact ih1 x68 v1 _ _ _ (by have := s70; obtain ⟨_, _⟩ := r69; omega) (rg_w r69 (by decide) (by decide)) hI1 hK1 hw hS (lv_sub hl [2, 3, 4, 0] rfl)
          · have f71 := i_eq c66
            have r72 : Rg x65 2 2 := by obtain ⟨a1, a2⟩ := (rg_any x65); obtain ⟨b1, b2⟩ := (⟨by decide, by decide⟩ : Rg 2 2 2); have f := i_eq c66; exact ⟨by omega, by omega⟩
            refine lv_aload hx hb d_X5_line_108 (lv_at hl 0 rfl) ?_
            refine r_ci (r_runV (n := 0) (As := []) (rest := []) X hw (ct_X7_isInPort l D dA ad v1 hI1 kc64 (by omega) (by omega)) gc_X5_35 (KD_ship (by omega) (by omega)) (by decide) rfl (by decide +kernel) ⟨rfl, rfl, Nat.le_of_ble_eq_true rfl, Nat.le_of_ble_eq_true rfl⟩ rfl hl.1 rfl (Nat.le_of_ble_eq_true rfl) ⟨Nat.zero_le _, Nat.zero_le _⟩ d_X5_line_110) hS (fun x74 v75 H locs hp73 hw hS => ?_)
            obtain ⟨ev75, hp73⟩ := hp73
            rw [ev75] at hw
            refine lv_if_eq (tgt := 123) hx hb d_X5_line_113 (by decide) (fun c76 => ?_) (fun c76 => ?_)
            · have f77 := i_eq c76
              have r78 : Rg x74 0 0 := by obtain ⟨a1, a2⟩ := hp73; obtain ⟨b1, b2⟩ := (⟨by decide, by decide⟩ : Rg 0 0 0); have f := i_eq c76; exact ⟨by omega, by omega⟩
              obtain ⟨x79, ex79⟩ : ∃ y : Int32, y = y3 + 1 := ⟨_, rfl⟩
              refine lv_iinc (v := x79) (lv' := [(3, .int x79), (4, .ref (ad kc64)), (0, .ref (ad 20)), (1, .ref (ad 1)), (2, .ref (ad k))]) hx hb d_X5_line_123 hl (k := 4) rfl (by rw [ex79]; rfl) (by decide) rfl (fun ls hl => ?_)
              have r80 : Rg x79 1 20 := rg_add ex79 r62 (⟨by decide, by decide⟩ : Rg 1 1 1) (by decide) (by decide)
              have s81 : x79.toInt = y3.toInt + (1 : Int32).toInt := by rw [ex79]; exact i_add (by obtain ⟨_, _⟩ := r62; obtain ⟨_, _⟩ := (⟨by decide, by decide⟩ : Rg 1 1 1); omega) (by obtain ⟨_, _⟩ := r62; obtain ⟨_, _⟩ := (⟨by decide, by decide⟩ : Rg 1 1 1); omega)
              have s81l : (1 : Int32).toInt = 1 := rfl
              refine lv_goto (tgt := 83) hx hb d_X5_line_126 (by decide) ?_
              exact ih1 x79 v1 _ _ _ (by have := s81; obtain ⟨_, _⟩ := r80; omega) (rg_w r80 (by decide) (by decide)) hI1 hK1 hw hS (lv_sub hl [2, 3, 4, 0] rfl)
            · have f82 := i_ne c76
              have r83 : Rg x74 1 1 := by obtain ⟨a1, a2⟩ := hp73; obtain ⟨b1, b2⟩ := (⟨by decide, by decide⟩ : Rg 0 0 0); have f := i_ne c76; exact ⟨by omega, by omega⟩
              refine lv_aload_n hx hb d_X5_line_116 rfl (lv_at hl 1 rfl) ?_
              refine lv_iload_n hx hb d_X5_line_117 rfl (lv_at hl 4 rfl) ?_
              refine lv_ldc hx hb X.2.2.2.1 (X.2.2.2.2.1 _ kc_X5_67) d_X5_line_118 ?_
              refine r_cv (r_runV (n := 2) (As := [.int y3, .int 2147483647]) (rest := []) X hw (ct_X5_insert_20 l D dA ad v1 hI1 y3 2147483647 r62) gc_X5_46 (rfl : KD 20 = _) (by decide) rfl (by decide +kernel) ⟨rfl, rfl, Nat.le_of_ble_eq_true rfl, Nat.le_of_ble_eq_true rfl⟩ rfl hl.1 rfl (Nat.le_of_ble_eq_true rfl) ⟨Nat.zero_le _, Nat.zero_le _⟩ d_X5_line_120) hS (fun v85 H locs hp84 hw hS => ?_)
              obtain ⟨hI86, hK87⟩ := hp84
              have hK88 : Kp v v85 := Kp.tr hK1 hK87
              obtain ⟨x89, ex89⟩ : ∃ y : Int32, y = y3 + 1 := ⟨_, rfl⟩
              refine lv_iinc (v := x89) (lv' := [(3, .int x89), (4, .ref (ad kc64)), (0, .ref (ad 20)), (1, .ref (ad 1)), (2, .ref (ad k))]) hx hb d_X5_line_123 hl (k := 4) rfl (by rw [ex89]; rfl) (by decide) rfl (fun ls hl => ?_)
              have r90 : Rg x89 1 20 := rg_add ex89 r62 (⟨by decide, by decide⟩ : Rg 1 1 1) (by decide) (by decide)
              have s91 : x89.toInt = y3.toInt + (1 : Int32).toInt := by rw [ex89]; exact i_add (by obtain ⟨_, _⟩ := r62; obtain ⟨_, _⟩ := (⟨by decide, by decide⟩ : Rg 1 1 1); omega) (by obtain ⟨_, _⟩ := r62; obtain ⟨_, _⟩ := (⟨by decide, by decide⟩ : Rg 1 1 1); omega)
              have s91l : (1 : Int32).toInt = 1 := rfl
              refine lv_goto (tgt := 83) hx hb d_X5_line_126 (by decide) ?_
              exact ih1 x89 v85 _ _ _ (by have := s91; obtain ⟨_, _⟩ := r90; omega) (rg_w r90 (by decide) (by decide)) hI86 hK88 hw hS (lv_sub hl [2, 3, 4, 0] rfl)
  obtain ⟨ih0, ih1⟩ := LL 100000
  have hK0 : Kp v v := Kp.rf v
  refine lv_aload_n hx hb d_X5_line_0 rfl (lv_at hl 0 rfl) ?_
  refine lv_iconst (v := 0) hx hb d_X5_line_1 (by decide) ?_
  refine r_put X hw hS FP_X5_18 (rfl : KD 20 = _) rfl ⟨rfl, rfl⟩ d_X5_line_2 (fun H locs hw hS => ?_)
  obtain ⟨v92, ev92⟩ : ∃ z, z = up2 v 20 2 0 := ⟨_, rfl⟩
  rw [← ev92] at hw
  have hI93 : Inv v92 := by rw [ev92]; exact Inv.putr hI rfl (rg_w (⟨by decide, by decide⟩ : Rg 0 0 0) (by decide) (by decide))
  have hK94 : Kp v v92 := by rw [ev92]; exact Kp.put hK0 _ rfl
  have hm95 : v92 20 2 = 0 := by rw [ev92, up2_s]
  refine lv_iconst (v := 0) hx hb d_X5_line_5 (by decide) ?_
  refine lv_istore_n (lv' := [(3, .int 0), (0, .ref (ad 20)), (1, .ref (ad 1)), (2, .ref (ad k))]) hx hb d_X5_line_6 rfl hl (by decide) rfl (fun ls hl => ?_)
  exact ih0 0 v92 _ _ _ (by obtain ⟨_, _⟩ := (⟨by decide, by decide⟩ : Rg 0 0 0); omega) (rg_w (⟨by decide, by decide⟩ : Rg 0 0 0) (by decide) (by decide)) hI93 hK94 hw hS (lv_sub hl [1, 2, 3, 0] rfl)
set_option maxHeartbeats 4000000 in
set_option maxRecDepth 100000 in
theorem ct_X5_line_21_1 (l : Launch) (D : va_G) (dA : Nat → ClassId) (ad : Nat → Nat) (v : tV) (hI : Inv v) (k : Nat) (ka : 60 ≤ k) (kb : k < 69) : Met l m_X5_line [.code m_X5_line c_X5_line 5 none] ({ frames := 3, cells := 0, slots := 0, locals := 86 } : Room) (tP D dA ad v [.ref (ad 21), .ref (ad 1), .ref (ad k)]) (tQv D dA ad (fun v' => Inv v' ∧ Kp v v')) 0 0 (tA ad) := by
  refine tMet (by decide) (Nat.le_of_ble_eq_true rfl) ?_
  intro p e s m below meth c ls X hr hlocks hw hl
  have X : CX p s m ([.ref (ad 21), .ref (ad 1), .ref (ad k)] : List Value).toArray c c_X5_line N_X5 5 D dA := X
  have hx := X.1
  have hb := X.2.1
  have hS : va_S (tA ad) s.heap s.heap [] := va_S.rf
  have hl : lv_has ls 5 [(0, .ref (ad 21)), (1, .ref (ad 1)), (2, .ref (ad k))] := hl
  have LL : ∀ n : Nat, (∀ (y3 : Int32) (v1 : tV) (H : Heap) (locs : List Loc) (ls : Array Slot), (20 - y3.toInt).toNat + 100 < n → Rg y3 0 20 → Inv v1 → Kp v v1 → tI D dA ad v1 H → va_S (tA ad) s.heap H locs → lv_has ls 5 [(0, .ref (ad 21)), (1, .ref (ad 1)), (2, .ref (ad k)), (3, .int y3)] → W p l e ({ frames := 3, cells := 0, slots := 0, locals := 86 } : Room) s m ([.ref (ad 21), .ref (ad 1), .ref (ad k)] : List Value).toArray below meth c H locs 0 0 (MQ below (tQv D dA ad (fun v' => Inv v' ∧ Kp v v')) ([.ref (ad 21), .ref (ad 1), .ref (ad k)] : List Value).toArray s 0 0 (tA ad)) (F0 m 7 ls [])) ∧ (∀ (y3 : Int32) (v1 : tV) (H : Heap) (locs : List Loc) (ls : Array Slot), (20 - y3.toInt).toNat + 0 < n → Rg y3 0 20 → Inv v1 → Kp v v1 → tI D dA ad v1 H → va_S (tA ad) s.heap H locs → lv_has ls 5 [(0, .ref (ad 21)), (1, .ref (ad 1)), (2, .ref (ad k)), (3, .int y3)] → W p l e ({ frames := 3, cells := 0, slots := 0, locals := 86 } : Room) s m ([.ref (ad 21), .ref (ad 1), .ref (ad k)] : List Value).toArray below meth c H locs 0 0 (MQ below (tQv D dA ad (fun v' => Inv v' ∧ Kp v v')) ([.ref (ad 21), .ref (ad 1), .ref (ad k)] : List Value).toArray s 0 0 (tA ad)) (F0 m 83 ls [])) := by
    intro n
    induction n with
    | zero => refine ⟨?_, ?_⟩ <;> (intros; omega)
    | succ n ih =>
      obtain ⟨ih0, ih1⟩ := ih
      refine ⟨?_, ?_⟩
      · intro y3 v1 H locs ls hmu r_y3 hI1 hK1 hw hS hl
        refine lv_iload_n hx hb d_X5_line_7 rfl (lv_at hl 3 rfl) ?_
        refine lv_aload_n hx hb d_X5_line_8 rfl (lv_at hl 1 rfl) ?_
        refine r_geti X hw FL_X5_22 (rfl : KD 1 = _) rfl d_X5_line_9 ?_
        refine lv_topi (fun x1 ex1 => ?_)
        have r2 : Rg x1 0 20 := by rw [ex1]; exact hI1 _ _ _ _ rfl
        have hm3 : v1 1 3 = x1 := ex1.symm
        refine lv_icmp_ge (tgt := 62) hx hb d_X5_line_12 (by decide) (fun c4 => ?_) (fun c4 => ?_)
        · have f5 := i_le c4
          refine lv_aload_n hx hb d_X5_line_62 rfl (lv_at hl 0 rfl) ?_
          refine lv_aload_n hx hb d_X5_line_63 rfl (lv_at hl 0 rfl) ?_
          refine r_geti X hw FL_X5_18 (rfl : KD 21 = _) rfl d_X5_line_64 ?_
          refine lv_topi (fun x6 ex6 => ?_)
          have r7 : Rg x6 0 20 := by rw [ex6]; exact hI1 _ _ _ _ rfl
          have hm8 : v1 21 2 = x6 := ex6.symm
          refine lv_aload_n hx hb d_X5_line_67 rfl (lv_at hl 2 rfl) ?_
          refine lv_aload_n hx hb d_X5_line_68 rfl (lv_at hl 1 rfl) ?_
          refine r_geti X hw FL_X5_50 (rfl : KD 1 = _) rfl d_X5_line_69 ?_
          refine lv_topi (fun x9 ex9 => ?_)
          refine r_ci (r_runV (n := 1) (As := [.int x9]) (rest := [.int x6, .ref (ad 21)]) X hw (ct_X3_sellers l D dA ad v1 hI1 k x9 (by omega) (by omega)) gc_X5_53 (KD_order (by omega) (by omega)) (by decide) rfl (by decide +kernel) ⟨rfl, rfl, Nat.le_of_ble_eq_true rfl, Nat.le_of_ble_eq_true rfl⟩ rfl hl.1 rfl (Nat.le_of_ble_eq_true rfl) ⟨Nat.zero_le _, Nat.zero_le _⟩ d_X5_line_72) hS (fun x11 v12 H locs hp10 hw hS => ?_)
          obtain ⟨ev12, hp10⟩ := hp10
          rw [ev12] at hw
          refine va_mmin hx hb (X.2.2.1.trans hl.1.symm) X.2.2.2.1 (X.2.2.2.2.1 _ ml_X5_59) (X.2.2.2.2.1 _ ml_mins) (X.2.2.2.2.1 _ ml_mi) (X.2.2.2.2.1 _ ml_minc) (Nat.le_of_ble_eq_true rfl) (Nat.le_of_ble_eq_true rfl) (Nat.zero_le _) (Nat.zero_le _) d_X5_line_75 ?_
          refine lv_topi (fun x13 ex13 => ?_)
          have r14 : Rg x13 0 20 := by obtain ⟨a1, a2⟩ := r7; obtain ⟨b1, b2⟩ := hp10; rw [ex13]; split <;> rename_i q <;> first | (have := i_lt q; exact ⟨by omega, by omega⟩) | (have := i_nlt q; exact ⟨by omega, by omega⟩)
          refine r_put X hw hS FP_X5_18 (rfl : KD 21 = _) rfl ⟨rfl, rfl⟩ d_X5_line_78 (fun H locs hw hS => ?_)
          obtain ⟨v15, ev15⟩ : ∃ z, z = up2 v1 21 2 x13 := ⟨_, rfl⟩
          rw [← ev15] at hw
          have hI16 : Inv v15 := by rw [ev15]; exact Inv.putr hI1 rfl r14
          have hK17 : Kp v v15 := by rw [ev15]; exact Kp.put hK1 _ rfl
          have hm18 : v15 1 3 = x1 := by rw [ev15, up2_n _ _ (by omega)]; exact hm3
          have hm19 : v15 21 2 = x13 := by rw [ev15, up2_s]
          refine lv_iconst (v := 0) hx hb d_X5_line_81 (by decide) ?_
          refine lv_istore_n (lv' := [(3, .int 0), (0, .ref (ad 21)), (1, .ref (ad 1)), (2, .ref (ad k))]) hx hb d_X5_line_82 rfl hl (by decide) rfl (fun ls hl => ?_)
          exact ih1 0 v15 _ _ _ (by obtain ⟨_, _⟩ := (⟨by decide, by decide⟩ : Rg 0 0 0); omega) (rg_w (⟨by decide, by decide⟩ : Rg 0 0 0) (by decide) (by decide)) hI16 hK17 hw hS (lv_sub hl [1, 2, 3, 0] rfl)
        · have f20 := i_nle c4
          have r21 : Rg y3 0 19 := by obtain ⟨a1, a2⟩ := r_y3; obtain ⟨b1, b2⟩ := r2; have f := i_nle c4; exact ⟨by omega, by omega⟩
          have r22 : Rg x1 1 20 := by obtain ⟨a1, a2⟩ := r_y3; obtain ⟨b1, b2⟩ := r2; have f := i_nle c4; exact ⟨by omega, by omega⟩
          refine lv_aload_n hx hb d_X5_line_15 rfl (lv_at hl 1 rfl) ?_
          refine r_getr (r := 10) X hw FL_X5_27 (rfl : KD 1 = _) rfl d_X5_line_16 ?_
          refine lv_iload_n hx hb d_X5_line_19 rfl (lv_at hl 3 rfl) ?_
          refine r_aald X hw (rfl : KD 10 = _) (Or.inl rfl) (Rg.vp (b := 19) r21 (by decide)) rfl d_X5_line_20 ?_
          refine r_nm (fun kc23 ekc23 => ?_)
          have kc23a : 100 ≤ kc23 := by omega
          have kc23b : kc23 ≤ 119 := by have := Rg.nat r21; omega
          refine lv_astore (lv' := [(4, .ref (ad kc23)), (0, .ref (ad 21)), (1, .ref (ad 1)), (2, .ref (ad k)), (3, .int y3)]) hx hb d_X5_line_21 hl (by decide) rfl (fun ls hl => ?_)
          refine lv_aload hx hb d_X5_line_23 (lv_at hl 0 rfl) ?_
          refine r_geti X hw FL_X5_30 (KD_ship (by omega) (by omega)) (SH_ship (by omega) (by omega)) d_X5_line_25 ?_
          refine lv_topi (fun x24 ex24 => ?_)
          refine lv_iconst (v := 1) hx hb d_X5_line_28 (by decide) ?_
          refine lv_icmp_gt (tgt := 56) hx hb d_X5_line_29 (by decide) (fun c25 => ?_) (fun c25 => ?_)
          · have f26 := i_lt c25
            have r27 : Rg x24 2 2147483647 := by obtain ⟨a1, a2⟩ := (rg_any x24); obtain ⟨b1, b2⟩ := (⟨by decide, by decide⟩ : Rg 1 1 1); have f := i_lt c25; exact ⟨by omega, by omega⟩
            obtain ⟨x28, ex28⟩ : ∃ y : Int32, y = y3 + 1 := ⟨_, rfl⟩
            refine lv_iinc (v := x28) (lv' := [(3, .int x28), (4, .ref (ad kc23)), (0, .ref (ad 21)), (1, .ref (ad 1)), (2, .ref (ad k))]) hx hb d_X5_line_56 hl (k := 4) rfl (by rw [ex28]; rfl) (by decide) rfl (fun ls hl => ?_)
            have r29 : Rg x28 1 20 := rg_add ex28 r21 (⟨by decide, by decide⟩ : Rg 1 1 1) (by decide) (by decide)
            have s30 : x28.toInt = y3.toInt + (1 : Int32).toInt := by rw [ex28]; exact i_add (by obtain ⟨_, _⟩ := r21; obtain ⟨_, _⟩ := (⟨by decide, by decide⟩ : Rg 1 1 1); omega) (by obtain ⟨_, _⟩ := r21; obtain ⟨_, _⟩ := (⟨by decide, by decide⟩ : Rg 1 1 1); omega)
            have s30l : (1 : Int32).toInt = 1 := rfl
            refine lv_goto (tgt := 7) hx hb d_X5_line_59 (by decide) ?_
            exact ih0 x28 v1 _ _ _ (by have := s30; obtain ⟨_, _⟩ := r29; omega) (rg_w r29 (by decide) (by decide)) hI1 hK1 hw hS (lv_sub hl [2, 3, 4, 0] rfl)
          · have f31 := i_nlt c25
            have r32 : Rg x24 (-2147483648) 1 := by obtain ⟨a1, a2⟩ := (rg_any x24); obtain ⟨b1, b2⟩ := (⟨by decide, by decide⟩ : Rg 1 1 1); have f := i_nlt c25; exact ⟨by omega, by omega⟩
            refine lv_aload hx hb d_X5_line_32 (lv_at hl 0 rfl) ?_
            refine r_ci (r_runV (n := 0) (As := []) (rest := []) X hw (ct_X7_isInPort l D dA ad v1 hI1 kc23 (by omega) (by omega)) gc_X5_35 (KD_ship (by omega) (by omega)) (by decide) rfl (by decide +kernel) ⟨rfl, rfl, Nat.le_of_ble_eq_true rfl, Nat.le_of_ble_eq_true rfl⟩ rfl hl.1 rfl (Nat.le_of_ble_eq_true rfl) ⟨Nat.zero_le _, Nat.zero_le _⟩ d_X5_line_34) hS (fun x34 v35 H locs hp33 hw hS => ?_)
            obtain ⟨ev35, hp33⟩ := hp33
            rw [ev35] at hw
            refine lv_if_eq (tgt := 56) hx hb d_X5_line_37 (by decide) (fun c36 => ?_) (fun c36 => ?_)
            · have f37 := i_eq c36
              have r38 : Rg x34 0 0 := by obtain ⟨a1, a2⟩ := hp33; obtain ⟨b1, b2⟩ := (⟨by decide, by decide⟩ : Rg 0 0 0); have f := i_eq c36; exact ⟨by omega, by omega⟩
              obtain ⟨x39, ex39⟩ : ∃ y : Int32, y = y3 + 1 := ⟨_, rfl⟩
              refine lv_iinc (v := x39) (lv' := [(3, .int x39), (4, .ref (ad kc23)), (0, .ref (ad 21)), (1, .ref (ad 1)), (2, .ref (ad k))]) hx hb d_X5_line_56 hl (k := 4) rfl (by rw [ex39]; rfl) (by decide) rfl (fun ls hl => ?_)
              have r40 : Rg x39 1 20 := rg_add ex39 r21 (⟨by decide, by decide⟩ : Rg 1 1 1) (by decide) (by decide)
              have s41 : x39.toInt = y3.toInt + (1 : Int32).toInt := by rw [ex39]; exact i_add (by obtain ⟨_, _⟩ := r21; obtain ⟨_, _⟩ := (⟨by decide, by decide⟩ : Rg 1 1 1); omega) (by obtain ⟨_, _⟩ := r21; obtain ⟨_, _⟩ := (⟨by decide, by decide⟩ : Rg 1 1 1); omega)
              have s41l : (1 : Int32).toInt = 1 := rfl
              refine lv_goto (tgt := 7) hx hb d_X5_line_59 (by decide) ?_
              exact ih0 x39 v1 _ _ _ (by have := s41; obtain ⟨_, _⟩ := r40; omega) (rg_w r40 (by decide) (by decide)) hI1 hK1 hw hS (lv_sub hl [2, 3, 4, 0] rfl)
            · have f42 := i_ne c36
              have r43 : Rg x34 1 1 := by obtain ⟨a1, a2⟩ := hp33; obtain ⟨b1, b2⟩ := (⟨by decide, by decide⟩ : Rg 0 0 0); have f := i_ne c36; exact ⟨by omega, by omega⟩
              refine lv_aload_n hx hb d_X5_line_40 rfl (lv_at hl 1 rfl) ?_
              refine lv_iload_n hx hb d_X5_line_41 rfl (lv_at hl 4 rfl) ?_
              refine lv_iload_n hx hb d_X5_line_42 rfl (lv_at hl 4 rfl) ?_
              refine lv_aload hx hb d_X5_line_43 (lv_at hl 0 rfl) ?_
              refine lv_aload_n hx hb d_X5_line_45 rfl (lv_at hl 3 rfl) ?_
              refine lv_aload_n hx hb d_X5_line_46 rfl (lv_at hl 2 rfl) ?_
              refine r_geti X hw FL_X5_39 (rfl : KD 1 = _) rfl d_X5_line_47 ?_
              refine lv_topi (fun x44 ex44 => ?_)
              refine r_ci (r_runS (n := 4) (As := [.int y3, .ref (ad kc23), .ref (ad k), .int x44]) (rest := [.int y3, .ref (ad 21)]) X hw (ct_X5_rank l D dA ad v1 hI1 y3 kc23 k x44 (by omega) (by omega) (by omega) (by omega)) gc_X5_42 (by decide +kernel) ⟨rfl, rfl, Nat.le_of_ble_eq_true rfl, Nat.le_of_ble_eq_true rfl⟩ rfl hl.1 rfl (Nat.le_of_ble_eq_true rfl) ⟨Nat.zero_le _, Nat.zero_le _⟩ d_X5_line_50) hS (fun x46 v47 H locs hp45 hw hS => ?_)
              rw [hp45] at hw
              refine r_cv (r_runV (n := 2) (As := [.int y3, .int x46]) (rest := []) X hw (ct_X5_insert_21 l D dA ad v1 hI1 y3 x46 r21) gc_X5_46 (rfl : KD 21 = _) (by decide) rfl (by decide +kernel) ⟨rfl, rfl, Nat.le_of_ble_eq_true rfl, Nat.le_of_ble_eq_true rfl⟩ rfl hl.1 rfl (Nat.le_of_ble_eq_true rfl) ⟨Nat.zero_le _, Nat.zero_le _⟩ d_X5_line_53) hS (fun v49 H locs hp48 hw hS => ?_)
              obtain ⟨hI50, hK51⟩ := hp48
              have hK52 : Kp v v49 := Kp.tr hK1 hK51
              obtain ⟨x53, ex53⟩ : ∃ y : Int32, y = y3 + 1 := ⟨_, rfl⟩
              refine lv_iinc (v := x53) (lv' := [(3, .int x53), (4, .ref (ad kc23)), (0, .ref (ad 21)), (1, .ref (ad 1)), (2, .ref (ad k))]) hx hb d_X5_line_56 hl (k := 4) rfl (by rw [ex53]; rfl) (by decide) rfl (fun ls hl => ?_)
              have r54 : Rg x53 1 20 := rg_add ex53 r21 (⟨by decide, by decide⟩ : Rg 1 1 1) (by decide) (by decide)
              have s55 : x53.toInt = y3.toInt + (1 : Int32).toInt := by rw [ex53]; exact i_add (by obtain ⟨_, _⟩ := r21; obtain ⟨_, _⟩ := (⟨by decide, by decide⟩ : Rg 1 1 1); omega) (by obtain ⟨_, _⟩ := r21; obtain ⟨_, _⟩ := (⟨by decide, by decide⟩ : Rg 1 1 1); omega)
              have s55l : (1 : Int32).toInt = 1 := rfl
              refine lv_goto (tgt := 7) hx hb d_X5_line_59 (by decide) ?_
              exact ih0 x53 v49 _ _ _ (by have := s55; obtain ⟨_, _⟩ := r54; omega) (rg_w r54 (by decide) (by decide)) hI50 hK52 hw hS (lv_sub hl [2, 3, 4, 0] rfl)
      · intro y3 v1 H locs ls hmu r_y3 hI1 hK1 hw hS hl
        refine lv_iload_n hx hb d_X5_line_83 rfl (lv_at hl 3 rfl) ?_
        refine lv_aload_n hx hb d_X5_line_84 rfl (lv_at hl 1 rfl) ?_
        refine r_geti X hw FL_X5_22 (rfl : KD 1 = _) rfl d_X5_line_85 ?_
        refine lv_topi (fun x56 ex56 => ?_)
        have r57 : Rg x56 0 20 := by rw [ex56]; exact hI1 _ _ _ _ rfl
        have hm58 : v1 1 3 = x56 := ex56.symm
        refine lv_icmp_ge (tgt := 129) hx hb d_X5_line_88 (by decide) (fun c59 => ?_) (fun c59 => ?_)
        · have f60 := i_le c59
          exact r_vret X hr hlocks hw hS ⟨hI1, hK1⟩ d_X5_line_129
        · have f61 := i_nle c59
          have r62 : Rg y3 0 19 := by obtain ⟨a1, a2⟩ := r_y3; obtain ⟨b1, b2⟩ := r57; have f := i_nle c59; exact ⟨by omega, by omega⟩
          have r63 : Rg x56 1 20 := by obtain ⟨a1, a2⟩ := r_y3; obtain ⟨b1, b2⟩ := r57; have f := i_nle c59; exact ⟨by omega, by omega⟩
          refine lv_aload_n hx hb d_X5_line_91 rfl (lv_at hl 1 rfl) ?_
          refine r_getr (r := 10) X hw FL_X5_27 (rfl : KD 1 = _) rfl d_X5_line_92 ?_
          refine lv_iload_n hx hb d_X5_line_95 rfl (lv_at hl 3 rfl) ?_
          refine r_aald X hw (rfl : KD 10 = _) (Or.inl rfl) (Rg.vp (b := 19) r62 (by decide)) rfl d_X5_line_96 ?_
          refine r_nm (fun kc64 ekc64 => ?_)
          have kc64a : 100 ≤ kc64 := by omega
          have kc64b : kc64 ≤ 119 := by have := Rg.nat r62; omega
          refine lv_astore (lv' := [(4, .ref (ad kc64)), (0, .ref (ad 21)), (1, .ref (ad 1)), (2, .ref (ad k)), (3, .int y3)]) hx hb d_X5_line_97 hl (by decide) rfl (fun ls hl => ?_)
          refine lv_aload hx hb d_X5_line_99 (lv_at hl 0 rfl) ?_
          refine r_geti X hw FL_X5_30 (KD_ship (by omega) (by omega)) (SH_ship (by omega) (by omega)) d_X5_line_101 ?_
          refine lv_topi (fun x65 ex65 => ?_)
          refine lv_iconst (v := 2) hx hb d_X5_line_104 (by decide) ?_
          refine lv_icmp_ne (tgt := 123) hx hb d_X5_line_105 (by decide) (fun c66 => ?_) (fun c66 => ?_)
          · have f67 := i_ne c66
            obtain ⟨x68, ex68⟩ : ∃ y : Int32, y = y3 + 1 := ⟨_, rfl⟩
            refine lv_iinc (v := x68) (lv' := [(3, .int x68), (4, .ref (ad kc64)), (0, .ref (ad 21)), (1, .ref (ad 1)), (2, .ref (ad k))]) hx hb d_X5_line_123 hl (k := 4) rfl (by rw [ex68]; rfl) (by decide) rfl (fun ls hl => ?_)
            have r69 : Rg x68 1 20 := rg_add ex68 r62 (⟨by decide, by decide⟩ : Rg 1 1 1) (by decide) (by decide)
            have s70 : x68.toInt = y3.toInt + (1 : Int32).toInt := by rw [ex68]; exact i_add (by obtain ⟨_, _⟩ := r62; obtain ⟨_, _⟩ := (⟨by decide, by decide⟩ : Rg 1 1 1); omega) (by obtain ⟨_, _⟩ := r62; obtain ⟨_, _⟩ := (⟨by decide, by decide⟩ : Rg 1 1 1); omega)
            have s70l : (1 : Int32).toInt = 1 := rfl
            refine lv_goto (tgt := 83) hx hb d_X5_line_126 (by decide) ?_
            exact ih1 x68 v1 _ _ _ (by have := s70; obtain ⟨_, _⟩ := r69; omega) (rg_w r69 (by decide) (by decide)) hI1 hK1 hw hS (lv_sub hl [2, 3, 4, 0] rfl)
          · have f71 := i_eq c66
            have r72 : Rg x65 2 2 := by obtain ⟨a1, a2⟩ := (rg_any x65); obtain ⟨b1, b2⟩ := (⟨by decide, by decide⟩ : Rg 2 2 2); have f := i_eq c66; exact ⟨by omega, by omega⟩
            refine lv_aload hx hb d_X5_line_108 (lv_at hl 0 rfl) ?_
            refine r_ci (r_runV (n := 0) (As := []) (rest := []) X hw (ct_X7_isInPort l D dA ad v1 hI1 kc64 (by omega) (by omega)) gc_X5_35 (KD_ship (by omega) (by omega)) (by decide) rfl (by decide +kernel) ⟨rfl, rfl, Nat.le_of_ble_eq_true rfl, Nat.le_of_ble_eq_true rfl⟩ rfl hl.1 rfl (Nat.le_of_ble_eq_true rfl) ⟨Nat.zero_le _, Nat.zero_le _⟩ d_X5_line_110) hS (fun x74 v75 H locs hp73 hw hS => ?_)
            obtain ⟨ev75, hp73⟩ := hp73
            rw [ev75] at hw
            refine lv_if_eq (tgt := 123) hx hb d_X5_line_113 (by decide) (fun c76 => ?_) (fun c76 => ?_)
            · have f77 := i_eq c76
              have r78 : Rg x74 0 0 := by obtain ⟨a1, a2⟩ := hp73; obtain ⟨b1, b2⟩ := (⟨by decide, by decide⟩ : Rg 0 0 0); have f := i_eq c76; exact ⟨by omega, by omega⟩
              obtain ⟨x79, ex79⟩ : ∃ y : Int32, y = y3 + 1 := ⟨_, rfl⟩
              refine lv_iinc (v := x79) (lv' := [(3, .int x79), (4, .ref (ad kc64)), (0, .ref (ad 21)), (1, .ref (ad 1)), (2, .ref (ad k))]) hx hb d_X5_line_123 hl (k := 4) rfl (by rw [ex79]; rfl) (by decide) rfl (fun ls hl => ?_)
              have r80 : Rg x79 1 20 := rg_add ex79 r62 (⟨by decide, by decide⟩ : Rg 1 1 1) (by decide) (by decide)
              have s81 : x79.toInt = y3.toInt + (1 : Int32).toInt := by rw [ex79]; exact i_add (by obtain ⟨_, _⟩ := r62; obtain ⟨_, _⟩ := (⟨by decide, by decide⟩ : Rg 1 1 1); omega) (by obtain ⟨_, _⟩ := r62; obtain ⟨_, _⟩ := (⟨by decide, by decide⟩ : Rg 1 1 1); omega)
              have s81l : (1 : Int32).toInt = 1 := rfl
              refine lv_goto (tgt := 83) hx hb d_X5_line_126 (by decide) ?_
              exact ih1 x79 v1 _ _ _ (by have := s81; obtain ⟨_, _⟩ := r80; omega) (rg_w r80 (by decide) (by decide)) hI1 hK1 hw hS (lv_sub hl [2, 3, 4, 0] rfl)
            · have f82 := i_ne c76
              have r83 : Rg x74 1 1 := by obtain ⟨a1, a2⟩ := hp73; obtain ⟨b1, b2⟩ := (⟨by decide, by decide⟩ : Rg 0 0 0); have f := i_ne c76; exact ⟨by omega, by omega⟩
              refine lv_aload_n hx hb d_X5_line_116 rfl (lv_at hl 1 rfl) ?_
              refine lv_iload_n hx hb d_X5_line_117 rfl (lv_at hl 4 rfl) ?_
              refine lv_ldc hx hb X.2.2.2.1 (X.2.2.2.2.1 _ kc_X5_67) d_X5_line_118 ?_
              refine r_cv (r_runV (n := 2) (As := [.int y3, .int 2147483647]) (rest := []) X hw (ct_X5_insert_21 l D dA ad v1 hI1 y3 2147483647 r62) gc_X5_46 (rfl : KD 21 = _) (by decide) rfl (by decide +kernel) ⟨rfl, rfl, Nat.le_of_ble_eq_true rfl, Nat.le_of_ble_eq_true rfl⟩ rfl hl.1 rfl (Nat.le_of_ble_eq_true rfl) ⟨Nat.zero_le _, Nat.zero_le _⟩ d_X5_line_120) hS (fun v85 H locs hp84 hw hS => ?_)
              obtain ⟨hI86, hK87⟩ := hp84
              have hK88 : Kp v v85 := Kp.tr hK1 hK87
              obtain ⟨x89, ex89⟩ : ∃ y : Int32, y = y3 + 1 := ⟨_, rfl⟩
              refine lv_iinc (v := x89) (lv' := [(3, .int x89), (4, .ref (ad kc64)), (0, .ref (ad 21)), (1, .ref (ad 1)), (2, .ref (ad k))]) hx hb d_X5_line_123 hl (k := 4) rfl (by rw [ex89]; rfl) (by decide) rfl (fun ls hl => ?_)
              have r90 : Rg x89 1 20 := rg_add ex89 r62 (⟨by decide, by decide⟩ : Rg 1 1 1) (by decide) (by decide)
              have s91 : x89.toInt = y3.toInt + (1 : Int32).toInt := by rw [ex89]; exact i_add (by obtain ⟨_, _⟩ := r62; obtain ⟨_, _⟩ := (⟨by decide, by decide⟩ : Rg 1 1 1); omega) (by obtain ⟨_, _⟩ := r62; obtain ⟨_, _⟩ := (⟨by decide, by decide⟩ : Rg 1 1 1); omega)
              have s91l : (1 : Int32).toInt = 1 := rfl
              refine lv_goto (tgt := 83) hx hb d_X5_line_126 (by decide) ?_
              exact ih1 x89 v85 _ _ _ (by have := s91; obtain ⟨_, _⟩ := r90; omega) (rg_w r90 (by decide) (by decide)) hI86 hK88 hw hS (lv_sub hl [2, 3, 4, 0] rfl)
  obtain ⟨ih0, ih1⟩ := LL 100000
  have hK0 : Kp v v := Kp.rf v
  refine lv_aload_n hx hb d_X5_line_0 rfl (lv_at hl 0 rfl) ?_
  refine lv_iconst (v := 0) hx hb d_X5_line_1 (by decide) ?_
  refine r_put X hw hS FP_X5_18 (rfl : KD 21 = _) rfl ⟨rfl, rfl⟩ d_X5_line_2 (fun H locs hw hS => ?_)
  obtain ⟨v92, ev92⟩ : ∃ z, z = up2 v 21 2 0 := ⟨_, rfl⟩
  rw [← ev92] at hw
  have hI93 : Inv v92 := by rw [ev92]; exact Inv.putr hI rfl (rg_w (⟨by decide, by decide⟩ : Rg 0 0 0) (by decide) (by decide))
  have hK94 : Kp v v92 := by rw [ev92]; exact Kp.put hK0 _ rfl
  have hm95 : v92 21 2 = 0 := by rw [ev92, up2_s]
  refine lv_iconst (v := 0) hx hb d_X5_line_5 (by decide) ?_
  refine lv_istore_n (lv' := [(3, .int 0), (0, .ref (ad 21)), (1, .ref (ad 1)), (2, .ref (ad k))]) hx hb d_X5_line_6 rfl hl (by decide) rfl (fun ls hl => ?_)
  exact ih0 0 v92 _ _ _ (by obtain ⟨_, _⟩ := (⟨by decide, by decide⟩ : Rg 0 0 0); omega) (rg_w (⟨by decide, by decide⟩ : Rg 0 0 0) (by decide) (by decide)) hI93 hK94 hw hS (lv_sub hl [1, 2, 3, 0] rfl)
set_option maxHeartbeats 4000000 in
set_option maxRecDepth 100000 in
theorem ct_X5_line_20_3 (l : Launch) (D : va_G) (dA : Nat → ClassId) (ad : Nat → Nat) (v : tV) (hI : Inv v) (k : Nat) (ka : 60 ≤ k) (kb : k < 69) : Met l m_X5_line [.code m_X5_line c_X5_line 5 none] ({ frames := 3, cells := 0, slots := 0, locals := 86 } : Room) (tP D dA ad v [.ref (ad 20), .ref (ad 3), .ref (ad k)]) (tQv D dA ad (fun v' => Inv v' ∧ Kp v v')) 0 0 (tA ad) := by
  refine tMet (by decide) (Nat.le_of_ble_eq_true rfl) ?_
  intro p e s m below meth c ls X hr hlocks hw hl
  have X : CX p s m ([.ref (ad 20), .ref (ad 3), .ref (ad k)] : List Value).toArray c c_X5_line N_X5 5 D dA := X
  have hx := X.1
  have hb := X.2.1
  have hS : va_S (tA ad) s.heap s.heap [] := va_S.rf
  have hl : lv_has ls 5 [(0, .ref (ad 20)), (1, .ref (ad 3)), (2, .ref (ad k))] := hl
  have LL : ∀ n : Nat, (∀ (y3 : Int32) (v1 : tV) (H : Heap) (locs : List Loc) (ls : Array Slot), (20 - y3.toInt).toNat + 100 < n → Rg y3 0 20 → Inv v1 → Kp v v1 → tI D dA ad v1 H → va_S (tA ad) s.heap H locs → lv_has ls 5 [(0, .ref (ad 20)), (1, .ref (ad 3)), (2, .ref (ad k)), (3, .int y3)] → W p l e ({ frames := 3, cells := 0, slots := 0, locals := 86 } : Room) s m ([.ref (ad 20), .ref (ad 3), .ref (ad k)] : List Value).toArray below meth c H locs 0 0 (MQ below (tQv D dA ad (fun v' => Inv v' ∧ Kp v v')) ([.ref (ad 20), .ref (ad 3), .ref (ad k)] : List Value).toArray s 0 0 (tA ad)) (F0 m 7 ls [])) ∧ (∀ (y3 : Int32) (v1 : tV) (H : Heap) (locs : List Loc) (ls : Array Slot), (20 - y3.toInt).toNat + 0 < n → Rg y3 0 20 → Inv v1 → Kp v v1 → tI D dA ad v1 H → va_S (tA ad) s.heap H locs → lv_has ls 5 [(0, .ref (ad 20)), (1, .ref (ad 3)), (2, .ref (ad k)), (3, .int y3)] → W p l e ({ frames := 3, cells := 0, slots := 0, locals := 86 } : Room) s m ([.ref (ad 20), .ref (ad 3), .ref (ad k)] : List Value).toArray below meth c H locs 0 0 (MQ below (tQv D dA ad (fun v' => Inv v' ∧ Kp v v')) ([.ref (ad 20), .ref (ad 3), .ref (ad k)] : List Value).toArray s 0 0 (tA ad)) (F0 m 83 ls [])) := by
    intro n
    induction n with
    | zero => refine ⟨?_, ?_⟩ <;> (intros; omega)
    | succ n ih =>
      obtain ⟨ih0, ih1⟩ := ih
      refine ⟨?_, ?_⟩
      · intro y3 v1 H locs ls hmu r_y3 hI1 hK1 hw hS hl
        refine lv_iload_n hx hb d_X5_line_7 rfl (lv_at hl 3 rfl) ?_
        refine lv_aload_n hx hb d_X5_line_8 rfl (lv_at hl 1 rfl) ?_
        refine r_geti X hw FL_X5_22 (rfl : KD 3 = _) rfl d_X5_line_9 ?_
        refine lv_topi (fun x1 ex1 => ?_)
        have r2 : Rg x1 0 20 := by rw [ex1]; exact hI1 _ _ _ _ rfl
        have hm3 : v1 3 3 = x1 := ex1.symm
        refine lv_icmp_ge (tgt := 62) hx hb d_X5_line_12 (by decide) (fun c4 => ?_) (fun c4 => ?_)
        · have f5 := i_le c4
          refine lv_aload_n hx hb d_X5_line_62 rfl (lv_at hl 0 rfl) ?_
          refine lv_aload_n hx hb d_X5_line_63 rfl (lv_at hl 0 rfl) ?_
          refine r_geti X hw FL_X5_18 (rfl : KD 20 = _) rfl d_X5_line_64 ?_
          refine lv_topi (fun x6 ex6 => ?_)
          have r7 : Rg x6 0 20 := by rw [ex6]; exact hI1 _ _ _ _ rfl
          have hm8 : v1 20 2 = x6 := ex6.symm
          refine lv_aload_n hx hb d_X5_line_67 rfl (lv_at hl 2 rfl) ?_
          refine lv_aload_n hx hb d_X5_line_68 rfl (lv_at hl 1 rfl) ?_
          refine r_geti X hw FL_X5_50 (rfl : KD 3 = _) rfl d_X5_line_69 ?_
          refine lv_topi (fun x9 ex9 => ?_)
          refine r_ci (r_runV (n := 1) (As := [.int x9]) (rest := [.int x6, .ref (ad 20)]) X hw (ct_X3_sellers l D dA ad v1 hI1 k x9 (by omega) (by omega)) gc_X5_53 (KD_order (by omega) (by omega)) (by decide) rfl (by decide +kernel) ⟨rfl, rfl, Nat.le_of_ble_eq_true rfl, Nat.le_of_ble_eq_true rfl⟩ rfl hl.1 rfl (Nat.le_of_ble_eq_true rfl) ⟨Nat.zero_le _, Nat.zero_le _⟩ d_X5_line_72) hS (fun x11 v12 H locs hp10 hw hS => ?_)
          obtain ⟨ev12, hp10⟩ := hp10
          rw [ev12] at hw
          refine va_mmin hx hb (X.2.2.1.trans hl.1.symm) X.2.2.2.1 (X.2.2.2.2.1 _ ml_X5_59) (X.2.2.2.2.1 _ ml_mins) (X.2.2.2.2.1 _ ml_mi) (X.2.2.2.2.1 _ ml_minc) (Nat.le_of_ble_eq_true rfl) (Nat.le_of_ble_eq_true rfl) (Nat.zero_le _) (Nat.zero_le _) d_X5_line_75 ?_
          refine lv_topi (fun x13 ex13 => ?_)
          have r14 : Rg x13 0 20 := by obtain ⟨a1, a2⟩ := r7; obtain ⟨b1, b2⟩ := hp10; rw [ex13]; split <;> rename_i q <;> first | (have := i_lt q; exact ⟨by omega, by omega⟩) | (have := i_nlt q; exact ⟨by omega, by omega⟩)
          refine r_put X hw hS FP_X5_18 (rfl : KD 20 = _) rfl ⟨rfl, rfl⟩ d_X5_line_78 (fun H locs hw hS => ?_)
          obtain ⟨v15, ev15⟩ : ∃ z, z = up2 v1 20 2 x13 := ⟨_, rfl⟩
          rw [← ev15] at hw
          have hI16 : Inv v15 := by rw [ev15]; exact Inv.putr hI1 rfl r14
          have hK17 : Kp v v15 := by rw [ev15]; exact Kp.put hK1 _ rfl
          have hm18 : v15 3 3 = x1 := by rw [ev15, up2_n _ _ (by omega)]; exact hm3
          have hm19 : v15 20 2 = x13 := by rw [ev15, up2_s]
          refine lv_iconst (v := 0) hx hb d_X5_line_81 (by decide) ?_
          refine lv_istore_n (lv' := [(3, .int 0), (0, .ref (ad 20)), (1, .ref (ad 3)), (2, .ref (ad k))]) hx hb d_X5_line_82 rfl hl (by decide) rfl (fun ls hl => ?_)
          exact ih1 0 v15 _ _ _ (by obtain ⟨_, _⟩ := (⟨by decide, by decide⟩ : Rg 0 0 0); omega) (rg_w (⟨by decide, by decide⟩ : Rg 0 0 0) (by decide) (by decide)) hI16 hK17 hw hS (lv_sub hl [1, 2, 3, 0] rfl)
        · have f20 := i_nle c4
          have r21 : Rg y3 0 19 := by obtain ⟨a1, a2⟩ := r_y3; obtain ⟨b1, b2⟩ := r2; have f := i_nle c4; exact ⟨by omega, by omega⟩
          have r22 : Rg x1 1 20 := by obtain ⟨a1, a2⟩ := r_y3; obtain ⟨b1, b2⟩ := r2; have f := i_nle c4; exact ⟨by omega, by omega⟩
          refine lv_aload_n hx hb d_X5_line_15 rfl (lv_at hl 1 rfl) ?_
          refine r_getr (r := 12) X hw FL_X5_27 (rfl : KD 3 = _) rfl d_X5_line_16 ?_
          refine lv_iload_n hx hb d_X5_line_19 rfl (lv_at hl 3 rfl) ?_
          refine r_aald X hw (rfl : KD 12 = _) (Or.inl rfl) (Rg.vp (b := 19) r21 (by decide)) rfl d_X5_line_20 ?_
          refine r_nm (fun kc23 ekc23 => ?_)
          have kc23a : 140 ≤ kc23 := by omega
          have kc23b : kc23 ≤ 159 := by have := Rg.nat r21; omega
          refine lv_astore (lv' := [(4, .ref (ad kc23)), (0, .ref (ad 20)), (1, .ref (ad 3)), (2, .ref (ad k)), (3, .int y3)]) hx hb d_X5_line_21 hl (by decide) rfl (fun ls hl => ?_)
          refine lv_aload hx hb d_X5_line_23 (lv_at hl 0 rfl) ?_
          refine r_geti X hw FL_X5_30 (KD_ship (by omega) (by omega)) (SH_ship (by omega) (by omega)) d_X5_line_25 ?_
          refine lv_topi (fun x24 ex24 => ?_)
          refine lv_iconst (v := 1) hx hb d_X5_line_28 (by decide) ?_
          refine lv_icmp_gt (tgt := 56) hx hb d_X5_line_29 (by decide) (fun c25 => ?_) (fun c25 => ?_)
          · have f26 := i_lt c25
            have r27 : Rg x24 2 2147483647 := by obtain ⟨a1, a2⟩ := (rg_any x24); obtain ⟨b1, b2⟩ := (⟨by decide, by decide⟩ : Rg 1 1 1); have f := i_lt c25; exact ⟨by omega, by omega⟩
            obtain ⟨x28, ex28⟩ : ∃ y : Int32, y = y3 + 1 := ⟨_, rfl⟩
            refine lv_iinc (v := x28) (lv' := [(3, .int x28), (4, .ref (ad kc23)), (0, .ref (ad 20)), (1, .ref (ad 3)), (2, .ref (ad k))]) hx hb d_X5_line_56 hl (k := 4) rfl (by rw [ex28]; rfl) (by decide) rfl (fun ls hl => ?_)
            have r29 : Rg x28 1 20 := rg_add ex28 r21 (⟨by decide, by decide⟩ : Rg 1 1 1) (by decide) (by decide)
            have s30 : x28.toInt = y3.toInt + (1 : Int32).toInt := by rw [ex28]; exact i_add (by obtain ⟨_, _⟩ := r21; obtain ⟨_, _⟩ := (⟨by decide, by decide⟩ : Rg 1 1 1); omega) (by obtain ⟨_, _⟩ := r21; obtain ⟨_, _⟩ := (⟨by decide, by decide⟩ : Rg 1 1 1); omega)
            have s30l : (1 : Int32).toInt = 1 := rfl
            refine lv_goto (tgt := 7) hx hb d_X5_line_59 (by decide) ?_
            exact ih0 x28 v1 _ _ _ (by have := s30; obtain ⟨_, _⟩ := r29; omega) (rg_w r29 (by decide) (by decide)) hI1 hK1 hw hS (lv_sub hl [2, 3, 4, 0] rfl)
          · have f31 := i_nlt c25
            have r32 : Rg x24 (-2147483648) 1 := by obtain ⟨a1, a2⟩ := (rg_any x24); obtain ⟨b1, b2⟩ := (⟨by decide, by decide⟩ : Rg 1 1 1); have f := i_nlt c25; exact ⟨by omega, by omega⟩
            refine lv_aload hx hb d_X5_line_32 (lv_at hl 0 rfl) ?_
            refine r_ci (r_runV (n := 0) (As := []) (rest := []) X hw (ct_X7_isInPort l D dA ad v1 hI1 kc23 (by omega) (by omega)) gc_X5_35 (KD_ship (by omega) (by omega)) (by decide) rfl (by decide +kernel) ⟨rfl, rfl, Nat.le_of_ble_eq_true rfl, Nat.le_of_ble_eq_true rfl⟩ rfl hl.1 rfl (Nat.le_of_ble_eq_true rfl) ⟨Nat.zero_le _, Nat.zero_le _⟩ d_X5_line_34) hS (fun x34 v35 H locs hp33 hw hS => ?_)
            obtain ⟨ev35, hp33⟩ := hp33
            rw [ev35] at hw
            refine lv_if_eq (tgt := 56) hx hb d_X5_line_37 (by decide) (fun c36 => ?_) (fun c36 => ?_)
            · have f37 := i_eq c36
              have r38 : Rg x34 0 0 := by obtain ⟨a1, a2⟩ := hp33; obtain ⟨b1, b2⟩ := (⟨by decide, by decide⟩ : Rg 0 0 0); have f := i_eq c36; exact ⟨by omega, by omega⟩
              obtain ⟨x39, ex39⟩ : ∃ y : Int32, y = y3 + 1 := ⟨_, rfl⟩
              refine lv_iinc (v := x39) (lv' := [(3, .int x39), (4, .ref (ad kc23)), (0, .ref (ad 20)), (1, .ref (ad 3)), (2, .ref (ad k))]) hx hb d_X5_line_56 hl (k := 4) rfl (by rw [ex39]; rfl) (by decide) rfl (fun ls hl => ?_)
              have r40 : Rg x39 1 20 := rg_add ex39 r21 (⟨by decide, by decide⟩ : Rg 1 1 1) (by decide) (by decide)
              have s41 : x39.toInt = y3.toInt + (1 : Int32).toInt := by rw [ex39]; exact i_add (by obtain ⟨_, _⟩ := r21; obtain ⟨_, _⟩ := (⟨by decide, by decide⟩ : Rg 1 1 1); omega) (by obtain ⟨_, _⟩ := r21; obtain ⟨_, _⟩ := (⟨by decide, by decide⟩ : Rg 1 1 1); omega)
              have s41l : (1 : Int32).toInt = 1 := rfl
              refine lv_goto (tgt := 7) hx hb d_X5_line_59 (by decide) ?_
              exact ih0 x39 v1 _ _ _ (by have := s41; obtain ⟨_, _⟩ := r40; omega) (rg_w r40 (by decide) (by decide)) hI1 hK1 hw hS (lv_sub hl [2, 3, 4, 0] rfl)
            · have f42 := i_ne c36
              have r43 : Rg x34 1 1 := by obtain ⟨a1, a2⟩ := hp33; obtain ⟨b1, b2⟩ := (⟨by decide, by decide⟩ : Rg 0 0 0); have f := i_ne c36; exact ⟨by omega, by omega⟩
              refine lv_aload_n hx hb d_X5_line_40 rfl (lv_at hl 1 rfl) ?_
              refine lv_iload_n hx hb d_X5_line_41 rfl (lv_at hl 4 rfl) ?_
              refine lv_iload_n hx hb d_X5_line_42 rfl (lv_at hl 4 rfl) ?_
              refine lv_aload hx hb d_X5_line_43 (lv_at hl 0 rfl) ?_
              refine lv_aload_n hx hb d_X5_line_45 rfl (lv_at hl 3 rfl) ?_
              refine lv_aload_n hx hb d_X5_line_46 rfl (lv_at hl 2 rfl) ?_
              refine r_geti X hw FL_X5_39 (rfl : KD 3 = _) rfl d_X5_line_47 ?_
              refine lv_topi (fun x44 ex44 => ?_)
              refine r_ci (r_runS (n := 4) (As := [.int y3, .ref (ad kc23), .ref (ad k), .int x44]) (rest := [.int y3, .ref (ad 20)]) X hw (ct_X5_rank l D dA ad v1 hI1 y3 kc23 k x44 (by omega) (by omega) (by omega) (by omega)) gc_X5_42 (by decide +kernel) ⟨rfl, rfl, Nat.le_of_ble_eq_true rfl, Nat.le_of_ble_eq_true rfl⟩ rfl hl.1 rfl (Nat.le_of_ble_eq_true rfl) ⟨Nat.zero_le _, Nat.zero_le _⟩ d_X5_line_50) hS (fun x46 v47 H locs hp45 hw hS => ?_)
              rw [hp45] at hw
              refine r_cv (r_runV (n := 2) (As := [.int y3, .int x46]) (rest := []) X hw (ct_X5_insert_20 l D dA ad v1 hI1 y3 x46 r21) gc_X5_46 (rfl : KD 20 = _) (by decide) rfl (by decide +kernel) ⟨rfl, rfl, Nat.le_of_ble_eq_true rfl, Nat.le_of_ble_eq_true rfl⟩ rfl hl.1 rfl (Nat.le_of_ble_eq_true rfl) ⟨Nat.zero_le _, Nat.zero_le _⟩ d_X5_line_53) hS (fun v49 H locs hp48 hw hS => ?_)
              obtain ⟨hI50, hK51⟩ := hp48
              have hK52 : Kp v v49 := Kp.tr hK1 hK51
              obtain ⟨x53, ex53⟩ : ∃ y : Int32, y = y3 + 1 := ⟨_, rfl⟩
              refine lv_iinc (v := x53) (lv' := [(3, .int x53), (4, .ref (ad kc23)), (0, .ref (ad 20)), (1, .ref (ad 3)), (2, .ref (ad k))]) hx hb d_X5_line_56 hl (k := 4) rfl (by rw [ex53]; rfl) (by decide) rfl (fun ls hl => ?_)
              have r54 : Rg x53 1 20 := rg_add ex53 r21 (⟨by decide, by decide⟩ : Rg 1 1 1) (by decide) (by decide)
              have s55 : x53.toInt = y3.toInt + (1 : Int32).toInt := by rw [ex53]; exact i_add (by obtain ⟨_, _⟩ := r21; obtain ⟨_, _⟩ := (⟨by decide, by decide⟩ : Rg 1 1 1); omega) (by obtain ⟨_, _⟩ := r21; obtain ⟨_, _⟩ := (⟨by decide, by decide⟩ : Rg 1 1 1); omega)
              have s55l : (1 : Int32).toInt = 1 := rfl
              refine lv_goto (tgt := 7) hx hb d_X5_line_59 (by decide) ?_
              exact ih0 x53 v49 _ _ _ (by have := s55; obtain ⟨_, _⟩ := r54; omega) (rg_w r54 (by decide) (by decide)) hI50 hK52 hw hS (lv_sub hl [2, 3, 4, 0] rfl)
      · intro y3 v1 H locs ls hmu r_y3 hI1 hK1 hw hS hl
        refine lv_iload_n hx hb d_X5_line_83 rfl (lv_at hl 3 rfl) ?_
        refine lv_aload_n hx hb d_X5_line_84 rfl (lv_at hl 1 rfl) ?_
        refine r_geti X hw FL_X5_22 (rfl : KD 3 = _) rfl d_X5_line_85 ?_
        refine lv_topi (fun x56 ex56 => ?_)
        have r57 : Rg x56 0 20 := by rw [ex56]; exact hI1 _ _ _ _ rfl
        have hm58 : v1 3 3 = x56 := ex56.symm
        refine lv_icmp_ge (tgt := 129) hx hb d_X5_line_88 (by decide) (fun c59 => ?_) (fun c59 => ?_)
        · have f60 := i_le c59
          exact r_vret X hr hlocks hw hS ⟨hI1, hK1⟩ d_X5_line_129
        · have f61 := i_nle c59
          have r62 : Rg y3 0 19 := by obtain ⟨a1, a2⟩ := r_y3; obtain ⟨b1, b2⟩ := r57; have f := i_nle c59; exact ⟨by omega, by omega⟩
          have r63 : Rg x56 1 20 := by obtain ⟨a1, a2⟩ := r_y3; obtain ⟨b1, b2⟩ := r57; have f := i_nle c59; exact ⟨by omega, by omega⟩
          refine lv_aload_n hx hb d_X5_line_91 rfl (lv_at hl 1 rfl) ?_
          refine r_getr (r := 12) X hw FL_X5_27 (rfl : KD 3 = _) rfl d_X5_line_92 ?_
          refine lv_iload_n hx hb d_X5_line_95 rfl (lv_at hl 3 rfl) ?_
          refine r_aald X hw (rfl : KD 12 = _) (Or.inl rfl) (Rg.vp (b := 19) r62 (by decide)) rfl d_X5_line_96 ?_
          refine r_nm (fun kc64 ekc64 => ?_)
          have kc64a : 140 ≤ kc64 := by omega
          have kc64b : kc64 ≤ 159 := by have := Rg.nat r62; omega
          refine lv_astore (lv' := [(4, .ref (ad kc64)), (0, .ref (ad 20)), (1, .ref (ad 3)), (2, .ref (ad k)), (3, .int y3)]) hx hb d_X5_line_97 hl (by decide) rfl (fun ls hl => ?_)
          refine lv_aload hx hb d_X5_line_99 (lv_at hl 0 rfl) ?_
          refine r_geti X hw FL_X5_30 (KD_ship (by omega) (by omega)) (SH_ship (by omega) (by omega)) d_X5_line_101 ?_
          refine lv_topi (fun x65 ex65 => ?_)
          refine lv_iconst (v := 2) hx hb d_X5_line_104 (by decide) ?_
          refine lv_icmp_ne (tgt := 123) hx hb d_X5_line_105 (by decide) (fun c66 => ?_) (fun c66 => ?_)
          · have f67 := i_ne c66
            obtain ⟨x68, ex68⟩ : ∃ y : Int32, y = y3 + 1 := ⟨_, rfl⟩
            refine lv_iinc (v := x68) (lv' := [(3, .int x68), (4, .ref (ad kc64)), (0, .ref (ad 20)), (1, .ref (ad 3)), (2, .ref (ad k))]) hx hb d_X5_line_123 hl (k := 4) rfl (by rw [ex68]; rfl) (by decide) rfl (fun ls hl => ?_)
            have r69 : Rg x68 1 20 := rg_add ex68 r62 (⟨by decide, by decide⟩ : Rg 1 1 1) (by decide) (by decide)
            have s70 : x68.toInt = y3.toInt + (1 : Int32).toInt := by rw [ex68]; exact i_add (by obtain ⟨_, _⟩ := r62; obtain ⟨_, _⟩ := (⟨by decide, by decide⟩ : Rg 1 1 1); omega) (by obtain ⟨_, _⟩ := r62; obtain ⟨_, _⟩ := (⟨by decide, by decide⟩ : Rg 1 1 1); omega)
            have s70l : (1 : Int32).toInt = 1 := rfl
            refine lv_goto (tgt := 83) hx hb d_X5_line_126 (by decide) ?_
            exact ih1 x68 v1 _ _ _ (by have := s70; obtain ⟨_, _⟩ := r69; omega) (rg_w r69 (by decide) (by decide)) hI1 hK1 hw hS (lv_sub hl [2, 3, 4, 0] rfl)
          · have f71 := i_eq c66
            have r72 : Rg x65 2 2 := by obtain ⟨a1, a2⟩ := (rg_any x65); obtain ⟨b1, b2⟩ := (⟨by decide, by decide⟩ : Rg 2 2 2); have f := i_eq c66; exact ⟨by omega, by omega⟩
            refine lv_aload hx hb d_X5_line_108 (lv_at hl 0 rfl) ?_
            refine r_ci (r_runV (n := 0) (As := []) (rest := []) X hw (ct_X7_isInPort l D dA ad v1 hI1 kc64 (by omega) (by omega)) gc_X5_35 (KD_ship (by omega) (by omega)) (by decide) rfl (by decide +kernel) ⟨rfl, rfl, Nat.le_of_ble_eq_true rfl, Nat.le_of_ble_eq_true rfl⟩ rfl hl.1 rfl (Nat.le_of_ble_eq_true rfl) ⟨Nat.zero_le _, Nat.zero_le _⟩ d_X5_line_110) hS (fun x74 v75 H locs hp73 hw hS => ?_)
            obtain ⟨ev75, hp73⟩ := hp73
            rw [ev75] at hw
            refine lv_if_eq (tgt := 123) hx hb d_X5_line_113 (by decide) (fun c76 => ?_) (fun c76 => ?_)
            · have f77 := i_eq c76
              have r78 : Rg x74 0 0 := by obtain ⟨a1, a2⟩ := hp73; obtain ⟨b1, b2⟩ := (⟨by decide, by decide⟩ : Rg 0 0 0); have f := i_eq c76; exact ⟨by omega, by omega⟩
              obtain ⟨x79, ex79⟩ : ∃ y : Int32, y = y3 + 1 := ⟨_, rfl⟩
              refine lv_iinc (v := x79) (lv' := [(3, .int x79), (4, .ref (ad kc64)), (0, .ref (ad 20)), (1, .ref (ad 3)), (2, .ref (ad k))]) hx hb d_X5_line_123 hl (k := 4) rfl (by rw [ex79]; rfl) (by decide) rfl (fun ls hl => ?_)
              have r80 : Rg x79 1 20 := rg_add ex79 r62 (⟨by decide, by decide⟩ : Rg 1 1 1) (by decide) (by decide)
              have s81 : x79.toInt = y3.toInt + (1 : Int32).toInt := by rw [ex79]; exact i_add (by obtain ⟨_, _⟩ := r62; obtain ⟨_, _⟩ := (⟨by decide, by decide⟩ : Rg 1 1 1); omega) (by obtain ⟨_, _⟩ := r62; obtain ⟨_, _⟩ := (⟨by decide, by decide⟩ : Rg 1 1 1); omega)
              have s81l : (1 : Int32).toInt = 1 := rfl
              refine lv_goto (tgt := 83) hx hb d_X5_line_126 (by decide) ?_
              exact ih1 x79 v1 _ _ _ (by have := s81; obtain ⟨_, _⟩ := r80; omega) (rg_w r80 (by decide) (by decide)) hI1 hK1 hw hS (lv_sub hl [2, 3, 4, 0] rfl)
            · have f82 := i_ne c76
              have r83 : Rg x74 1 1 := by obtain ⟨a1, a2⟩ := hp73; obtain ⟨b1, b2⟩ := (⟨by decide, by decide⟩ : Rg 0 0 0); have f := i_ne c76; exact ⟨by omega, by omega⟩
              refine lv_aload_n hx hb d_X5_line_116 rfl (lv_at hl 1 rfl) ?_
              refine lv_iload_n hx hb d_X5_line_117 rfl (lv_at hl 4 rfl) ?_
              refine lv_ldc hx hb X.2.2.2.1 (X.2.2.2.2.1 _ kc_X5_67) d_X5_line_118 ?_
              refine r_cv (r_runV (n := 2) (As := [.int y3, .int 2147483647]) (rest := []) X hw (ct_X5_insert_20 l D dA ad v1 hI1 y3 2147483647 r62) gc_X5_46 (rfl : KD 20 = _) (by decide) rfl (by decide +kernel) ⟨rfl, rfl, Nat.le_of_ble_eq_true rfl, Nat.le_of_ble_eq_true rfl⟩ rfl hl.1 rfl (Nat.le_of_ble_eq_true rfl) ⟨Nat.zero_le _, Nat.zero_le _⟩ d_X5_line_120) hS (fun v85 H locs hp84 hw hS => ?_)
              obtain ⟨hI86, hK87⟩ := hp84
              have hK88 : Kp v v85 := Kp.tr hK1 hK87
              obtain ⟨x89, ex89⟩ : ∃ y : Int32, y = y3 + 1 := ⟨_, rfl⟩
              refine lv_iinc (v := x89) (lv' := [(3, .int x89), (4, .ref (ad kc64)), (0, .ref (ad 20)), (1, .ref (ad 3)), (2, .ref (ad k))]) hx hb d_X5_line_123 hl (k := 4) rfl (by rw [ex89]; rfl) (by decide) rfl (fun ls hl => ?_)
              have r90 : Rg x89 1 20 := rg_add ex89 r62 (⟨by decide, by decide⟩ : Rg 1 1 1) (by decide) (by decide)
              have s91 : x89.toInt = y3.toInt + (1 : Int32).toInt := by rw [ex89]; exact i_add (by obtain ⟨_, _⟩ := r62; obtain ⟨_, _⟩ := (⟨by decide, by decide⟩ : Rg 1 1 1); omega) (by obtain ⟨_, _⟩ := r62; obtain ⟨_, _⟩ := (⟨by decide, by decide⟩ : Rg 1 1 1); omega)
              have s91l : (1 : Int32).toInt = 1 := rfl
              refine lv_goto (tgt := 83) hx hb d_X5_line_126 (by decide) ?_
              exact ih1 x89 v85 _ _ _ (by have := s91; obtain ⟨_, _⟩ := r90; omega) (rg_w r90 (by decide) (by decide)) hI86 hK88 hw hS (lv_sub hl [2, 3, 4, 0] rfl)
  obtain ⟨ih0, ih1⟩ := LL 100000
  have hK0 : Kp v v := Kp.rf v
  refine lv_aload_n hx hb d_X5_line_0 rfl (lv_at hl 0 rfl) ?_
  refine lv_iconst (v := 0) hx hb d_X5_line_1 (by decide) ?_
  refine r_put X hw hS FP_X5_18 (rfl : KD 20 = _) rfl ⟨rfl, rfl⟩ d_X5_line_2 (fun H locs hw hS => ?_)
  obtain ⟨v92, ev92⟩ : ∃ z, z = up2 v 20 2 0 := ⟨_, rfl⟩
  rw [← ev92] at hw
  have hI93 : Inv v92 := by rw [ev92]; exact Inv.putr hI rfl (rg_w (⟨by decide, by decide⟩ : Rg 0 0 0) (by decide) (by decide))
  have hK94 : Kp v v92 := by rw [ev92]; exact Kp.put hK0 _ rfl
  have hm95 : v92 20 2 = 0 := by rw [ev92, up2_s]
  refine lv_iconst (v := 0) hx hb d_X5_line_5 (by decide) ?_
  refine lv_istore_n (lv' := [(3, .int 0), (0, .ref (ad 20)), (1, .ref (ad 3)), (2, .ref (ad k))]) hx hb d_X5_line_6 rfl hl (by decide) rfl (fun ls hl => ?_)
  exact ih0 0 v92 _ _ _ (by obtain ⟨_, _⟩ := (⟨by decide, by decide⟩ : Rg 0 0 0); omega) (rg_w (⟨by decide, by decide⟩ : Rg 0 0 0) (by decide) (by decide)) hI93 hK94 hw hS (lv_sub hl [1, 2, 3, 0] rfl)
theorem d_X9_copy_0 : decode c_X9_copy 0 = .ok (.aload_n 1, 1) := by decide +kernel
theorem d_X9_copy_1 : decode c_X9_copy 1 = .ok (.getfield 9, 3) := by decide +kernel
theorem d_X9_copy_4 : decode c_X9_copy 4 = .ok (.iconst 0, 1) := by decide +kernel
theorem d_X9_copy_5 : decode c_X9_copy 5 = .ok (.aload_n 0, 1) := by decide +kernel
theorem d_X9_copy_6 : decode c_X9_copy 6 = .ok (.getfield 9, 3) := by decide +kernel
theorem d_X9_copy_9 : decode c_X9_copy 9 = .ok (.iconst 0, 1) := by decide +kernel
theorem d_X9_copy_10 : decode c_X9_copy 10 = .ok (.iconst 5, 1) := by decide +kernel
theorem d_X9_copy_11 : decode c_X9_copy 11 = .ok (.invokestatic 15, 3) := by decide +kernel
theorem d_X9_copy_14 : decode c_X9_copy 14 = .ok (.aload_n 0, 1) := by decide +kernel
theorem d_X9_copy_15 : decode c_X9_copy 15 = .ok (.aload_n 1, 1) := by decide +kernel
theorem d_X9_copy_16 : decode c_X9_copy 16 = .ok (.getfield 21, 3) := by decide +kernel
theorem d_X9_copy_19 : decode c_X9_copy 19 = .ok (.putfield 21, 3) := by decide +kernel
theorem d_X9_copy_22 : decode c_X9_copy 22 = .ok (.aload_n 0, 1) := by decide +kernel
theorem d_X9_copy_23 : decode c_X9_copy 23 = .ok (.aload_n 1, 1) := by decide +kernel
theorem d_X9_copy_24 : decode c_X9_copy 24 = .ok (.getfield 25, 3) := by decide +kernel
theorem d_X9_copy_27 : decode c_X9_copy 27 = .ok (.putfield 25, 3) := by decide +kernel
theorem d_X9_copy_30 : decode c_X9_copy 30 = .ok (.aload_n 0, 1) := by decide +kernel
theorem d_X9_copy_31 : decode c_X9_copy 31 = .ok (.aload_n 1, 1) := by decide +kernel
theorem d_X9_copy_32 : decode c_X9_copy 32 = .ok (.getfield 28, 3) := by decide +kernel
theorem d_X9_copy_35 : decode c_X9_copy 35 = .ok (.putfield 28, 3) := by decide +kernel
theorem d_X9_copy_38 : decode c_X9_copy 38 = .ok (.aload_n 0, 1) := by decide +kernel
theorem d_X9_copy_39 : decode c_X9_copy 39 = .ok (.aload_n 1, 1) := by decide +kernel
theorem d_X9_copy_40 : decode c_X9_copy 40 = .ok (.getfield 31, 3) := by decide +kernel
theorem d_X9_copy_43 : decode c_X9_copy 43 = .ok (.putfield 31, 3) := by decide +kernel
theorem d_X9_copy_46 : decode c_X9_copy 46 = .ok (.return_, 1) := by decide +kernel
set_option maxHeartbeats 4000000 in
set_option maxRecDepth 100000 in
theorem ct_X9_copy_A (l : Launch) (D : va_G) (dA : Nat → ClassId) (ad : Nat → Nat) (v : tV) (hI : Inv v) (k : Nat) (k2 : Nat) (ka : 306 ≤ k) (kb : k < 312) (k2a : 300 ≤ k2) (k2b : k2 < 306) : Met l m_X9_copy [.code m_X9_copy c_X9_copy 2 none] ({ frames := 1, cells := 0, slots := 0, locals := 80 } : Room) (tP D dA ad v [.ref (ad k), .ref (ad k2)]) (tQv D dA ad (fun v' => Inv v' ∧ Kp v v')) 0 0 (tA ad) := by
  refine tMet (by decide) (Nat.le_of_ble_eq_true rfl) ?_
  intro p e s m below meth c ls X hr hlocks hw hl
  have X : CX p s m ([.ref (ad k), .ref (ad k2)] : List Value).toArray c c_X9_copy N_X9 2 D dA := X
  have hx := X.1
  have hb := X.2.1
  have hS : va_S (tA ad) s.heap s.heap [] := va_S.rf
  have hl : lv_has ls 2 [(0, .ref (ad k)), (1, .ref (ad k2))] := hl
  have hK0 : Kp v v := Kp.rf v
  refine lv_aload_n hx hb d_X9_copy_0 rfl (lv_at hl 1 rfl) ?_
  refine r_getr (r := k2 + 20) X hw FL_X9_9 (KD_ward (by omega) (by omega)) (SH_ward0 (by omega) (by omega)) d_X9_copy_1 ?_
  refine r_nm (fun kc1 ekc1 => ?_)
  refine lv_iconst (v := 0) hx hb d_X9_copy_4 (by decide) ?_
  refine lv_aload_n hx hb d_X9_copy_5 rfl (lv_at hl 0 rfl) ?_
  refine r_getr (r := k + 20) X hw FL_X9_9 (KD_ward (by omega) (by omega)) (SH_ward0 (by omega) (by omega)) d_X9_copy_6 ?_
  refine r_nm (fun kc2 ekc2 => ?_)
  refine lv_iconst (v := 0) hx hb d_X9_copy_9 (by decide) ?_
  refine lv_iconst (v := 5) hx hb d_X9_copy_10 (by decide) ?_
  refine r_acopy (k0 := kc1) (k1 := kc2) X hl.1 hw (KD_burns (by omega) (by omega)) (KD_burns (by omega) (by omega)) (by omega) (fun _ => (SH_burns (by omega) (by omega))) (fun _ => (SH_burns (by omega) (by omega))) (Nat.le_of_ble_eq_true rfl) (Nat.le_of_ble_eq_true rfl) d_X9_copy_11 (fun H locs hw hS => ?_)
  obtain ⟨v3, ev3⟩ : ∃ z, z = cp5 v kc1 kc2 := ⟨_, rfl⟩
  rw [← ev3] at hw
  have hI4 : Inv v3 := by rw [ev3]; exact inv_cp5 hI (fun _ => (RG_ward (by omega) (by omega)))
  have hK5 : Kp v v3 := by rw [ev3]; exact kp_cp5 hK0 (fun _ => (PS_burns (by omega) (by omega)))
  refine lv_aload_n hx hb d_X9_copy_14 rfl (lv_at hl 0 rfl) ?_
  refine lv_aload_n hx hb d_X9_copy_15 rfl (lv_at hl 1 rfl) ?_
  refine r_geti X hw FL_X9_21 (KD_ward (by omega) (by omega)) (SH_ward (by omega) (by omega) (by decide)) d_X9_copy_16 ?_
  refine lv_topi (fun x6 ex6 => ?_)
  refine r_put X hw hS FP_X9_21 (KD_ward (by omega) (by omega)) (SH_ward (by omega) (by omega) (by decide)) ⟨rfl, rfl⟩ d_X9_copy_19 (fun H locs hw hS => ?_)
  obtain ⟨v7, ev7⟩ : ∃ z, z = up2 v3 k 1 x6 := ⟨_, rfl⟩
  rw [← ev7] at hw
  have hI8 : Inv v7 := by rw [ev7]; exact Inv.put0 hI4 _ (RG_ward (by omega) (by omega))
  have hK9 : Kp v v7 := by rw [ev7]; exact Kp.put hK5 _ (PS_ward (by omega) (by omega))
  refine lv_aload_n hx hb d_X9_copy_22 rfl (lv_at hl 0 rfl) ?_
  refine lv_aload_n hx hb d_X9_copy_23 rfl (lv_at hl 1 rfl) ?_
  refine r_geti X hw FL_X9_25 (KD_ward (by omega) (by omega)) (SH_ward (by omega) (by omega) (by decide)) d_X9_copy_24 ?_
  refine lv_topi (fun x10 ex10 => ?_)
  refine r_put X hw hS FP_X9_25 (KD_ward (by omega) (by omega)) (SH_ward (by omega) (by omega) (by decide)) ⟨rfl, rfl⟩ d_X9_copy_27 (fun H locs hw hS => ?_)
  obtain ⟨v11, ev11⟩ : ∃ z, z = up2 v7 k 2 x10 := ⟨_, rfl⟩
  rw [← ev11] at hw
  have hI12 : Inv v11 := by rw [ev11]; exact Inv.put0 hI8 _ (RG_ward (by omega) (by omega))
  have hK13 : Kp v v11 := by rw [ev11]; exact Kp.put hK9 _ (PS_ward (by omega) (by omega))
  refine lv_aload_n hx hb d_X9_copy_30 rfl (lv_at hl 0 rfl) ?_
  refine lv_aload_n hx hb d_X9_copy_31 rfl (lv_at hl 1 rfl) ?_
  refine r_geti X hw FL_X9_28 (KD_ward (by omega) (by omega)) (SH_ward (by omega) (by omega) (by decide)) d_X9_copy_32 ?_
  refine lv_topi (fun x14 ex14 => ?_)
  refine r_put X hw hS FP_X9_28 (KD_ward (by omega) (by omega)) (SH_ward (by omega) (by omega) (by decide)) ⟨rfl, rfl⟩ d_X9_copy_35 (fun H locs hw hS => ?_)
  obtain ⟨v15, ev15⟩ : ∃ z, z = up2 v11 k 3 x14 := ⟨_, rfl⟩
  rw [← ev15] at hw
  have hI16 : Inv v15 := by rw [ev15]; exact Inv.put0 hI12 _ (RG_ward (by omega) (by omega))
  have hK17 : Kp v v15 := by rw [ev15]; exact Kp.put hK13 _ (PS_ward (by omega) (by omega))
  refine lv_aload_n hx hb d_X9_copy_38 rfl (lv_at hl 0 rfl) ?_
  refine lv_aload_n hx hb d_X9_copy_39 rfl (lv_at hl 1 rfl) ?_
  refine r_geti X hw FL_X9_31 (KD_ward (by omega) (by omega)) (SH_ward (by omega) (by omega) (by decide)) d_X9_copy_40 ?_
  refine lv_topi (fun x18 ex18 => ?_)
  refine r_put X hw hS FP_X9_31 (KD_ward (by omega) (by omega)) (SH_ward (by omega) (by omega) (by decide)) ⟨rfl, rfl⟩ d_X9_copy_43 (fun H locs hw hS => ?_)
  obtain ⟨v19, ev19⟩ : ∃ z, z = up2 v15 k 4 x18 := ⟨_, rfl⟩
  rw [← ev19] at hw
  have hI20 : Inv v19 := by rw [ev19]; exact Inv.put0 hI16 _ (RG_ward (by omega) (by omega))
  have hK21 : Kp v v19 := by rw [ev19]; exact Kp.put hK17 _ (PS_ward (by omega) (by omega))
  exact r_vret X hr hlocks hw hS ⟨hI20, hK21⟩ d_X9_copy_46
set_option maxHeartbeats 4000000 in
set_option maxRecDepth 100000 in
theorem ct_X9_copy_B (l : Launch) (D : va_G) (dA : Nat → ClassId) (ad : Nat → Nat) (v : tV) (hI : Inv v) (k : Nat) (k2 : Nat) (ka : 312 ≤ k) (kb : k < 318) (k2a : 300 ≤ k2) (k2b : k2 < 312) : Met l m_X9_copy [.code m_X9_copy c_X9_copy 2 none] ({ frames := 1, cells := 0, slots := 0, locals := 80 } : Room) (tP D dA ad v [.ref (ad k), .ref (ad k2)]) (tQv D dA ad (fun v' => Inv v' ∧ Kp v v')) 0 0 (tA ad) := by
  refine tMet (by decide) (Nat.le_of_ble_eq_true rfl) ?_
  intro p e s m below meth c ls X hr hlocks hw hl
  have X : CX p s m ([.ref (ad k), .ref (ad k2)] : List Value).toArray c c_X9_copy N_X9 2 D dA := X
  have hx := X.1
  have hb := X.2.1
  have hS : va_S (tA ad) s.heap s.heap [] := va_S.rf
  have hl : lv_has ls 2 [(0, .ref (ad k)), (1, .ref (ad k2))] := hl
  have hK0 : Kp v v := Kp.rf v
  refine lv_aload_n hx hb d_X9_copy_0 rfl (lv_at hl 1 rfl) ?_
  refine r_getr (r := k2 + 20) X hw FL_X9_9 (KD_ward (by omega) (by omega)) (SH_ward0 (by omega) (by omega)) d_X9_copy_1 ?_
  refine r_nm (fun kc1 ekc1 => ?_)
  refine lv_iconst (v := 0) hx hb d_X9_copy_4 (by decide) ?_
  refine lv_aload_n hx hb d_X9_copy_5 rfl (lv_at hl 0 rfl) ?_
  refine r_getr (r := k + 20) X hw FL_X9_9 (KD_ward (by omega) (by omega)) (SH_ward0 (by omega) (by omega)) d_X9_copy_6 ?_
  refine r_nm (fun kc2 ekc2 => ?_)
  refine lv_iconst (v := 0) hx hb d_X9_copy_9 (by decide) ?_
  refine lv_iconst (v := 5) hx hb d_X9_copy_10 (by decide) ?_
  refine r_acopy (k0 := kc1) (k1 := kc2) X hl.1 hw (KD_burns (by omega) (by omega)) (KD_burns (by omega) (by omega)) (by omega) (fun _ => (SH_burns (by omega) (by omega))) (fun _ => (SH_burns (by omega) (by omega))) (Nat.le_of_ble_eq_true rfl) (Nat.le_of_ble_eq_true rfl) d_X9_copy_11 (fun H locs hw hS => ?_)
  obtain ⟨v3, ev3⟩ : ∃ z, z = cp5 v kc1 kc2 := ⟨_, rfl⟩
  rw [← ev3] at hw
  have hI4 : Inv v3 := by rw [ev3]; exact inv_cp5 hI (fun _ => (RG_ward (by omega) (by omega)))
  have hK5 : Kp v v3 := by rw [ev3]; exact kp_cp5 hK0 (fun _ => (PS_burns (by omega) (by omega)))
  refine lv_aload_n hx hb d_X9_copy_14 rfl (lv_at hl 0 rfl) ?_
  refine lv_aload_n hx hb d_X9_copy_15 rfl (lv_at hl 1 rfl) ?_
  refine r_geti X hw FL_X9_21 (KD_ward (by omega) (by omega)) (SH_ward (by omega) (by omega) (by decide)) d_X9_copy_16 ?_
  refine lv_topi (fun x6 ex6 => ?_)
  refine r_put X hw hS FP_X9_21 (KD_ward (by omega) (by omega)) (SH_ward (by omega) (by omega) (by decide)) ⟨rfl, rfl⟩ d_X9_copy_19 (fun H locs hw hS => ?_)
  obtain ⟨v7, ev7⟩ : ∃ z, z = up2 v3 k 1 x6 := ⟨_, rfl⟩
  rw [← ev7] at hw
  have hI8 : Inv v7 := by rw [ev7]; exact Inv.put0 hI4 _ (RG_ward (by omega) (by omega))
  have hK9 : Kp v v7 := by rw [ev7]; exact Kp.put hK5 _ (PS_ward (by omega) (by omega))
  refine lv_aload_n hx hb d_X9_copy_22 rfl (lv_at hl 0 rfl) ?_
  refine lv_aload_n hx hb d_X9_copy_23 rfl (lv_at hl 1 rfl) ?_
  refine r_geti X hw FL_X9_25 (KD_ward (by omega) (by omega)) (SH_ward (by omega) (by omega) (by decide)) d_X9_copy_24 ?_
  refine lv_topi (fun x10 ex10 => ?_)
  refine r_put X hw hS FP_X9_25 (KD_ward (by omega) (by omega)) (SH_ward (by omega) (by omega) (by decide)) ⟨rfl, rfl⟩ d_X9_copy_27 (fun H locs hw hS => ?_)
  obtain ⟨v11, ev11⟩ : ∃ z, z = up2 v7 k 2 x10 := ⟨_, rfl⟩
  rw [← ev11] at hw
  have hI12 : Inv v11 := by rw [ev11]; exact Inv.put0 hI8 _ (RG_ward (by omega) (by omega))
  have hK13 : Kp v v11 := by rw [ev11]; exact Kp.put hK9 _ (PS_ward (by omega) (by omega))
  refine lv_aload_n hx hb d_X9_copy_30 rfl (lv_at hl 0 rfl) ?_
  refine lv_aload_n hx hb d_X9_copy_31 rfl (lv_at hl 1 rfl) ?_
  refine r_geti X hw FL_X9_28 (KD_ward (by omega) (by omega)) (SH_ward (by omega) (by omega) (by decide)) d_X9_copy_32 ?_
  refine lv_topi (fun x14 ex14 => ?_)
  refine r_put X hw hS FP_X9_28 (KD_ward (by omega) (by omega)) (SH_ward (by omega) (by omega) (by decide)) ⟨rfl, rfl⟩ d_X9_copy_35 (fun H locs hw hS => ?_)
  obtain ⟨v15, ev15⟩ : ∃ z, z = up2 v11 k 3 x14 := ⟨_, rfl⟩
  rw [← ev15] at hw
  have hI16 : Inv v15 := by rw [ev15]; exact Inv.put0 hI12 _ (RG_ward (by omega) (by omega))
  have hK17 : Kp v v15 := by rw [ev15]; exact Kp.put hK13 _ (PS_ward (by omega) (by omega))
  refine lv_aload_n hx hb d_X9_copy_38 rfl (lv_at hl 0 rfl) ?_
  refine lv_aload_n hx hb d_X9_copy_39 rfl (lv_at hl 1 rfl) ?_
  refine r_geti X hw FL_X9_31 (KD_ward (by omega) (by omega)) (SH_ward (by omega) (by omega) (by decide)) d_X9_copy_40 ?_
  refine lv_topi (fun x18 ex18 => ?_)
  refine r_put X hw hS FP_X9_31 (KD_ward (by omega) (by omega)) (SH_ward (by omega) (by omega) (by decide)) ⟨rfl, rfl⟩ d_X9_copy_43 (fun H locs hw hS => ?_)
  obtain ⟨v19, ev19⟩ : ∃ z, z = up2 v15 k 4 x18 := ⟨_, rfl⟩
  rw [← ev19] at hw
  have hI20 : Inv v19 := by rw [ev19]; exact Inv.put0 hI16 _ (RG_ward (by omega) (by omega))
  have hK21 : Kp v v19 := by rw [ev19]; exact Kp.put hK17 _ (PS_ward (by omega) (by omega))
  exact r_vret X hr hlocks hw hS ⟨hI20, hK21⟩ d_X9_copy_46
end
section
theorem d_X7_copy_0 : decode c_X7_copy 0 = .ok (.aload_n 0, 1) := by decide +kernel
theorem d_X7_copy_1 : decode c_X7_copy 1 = .ok (.aload_n 1, 1) := by decide +kernel
theorem d_X7_copy_2 : decode c_X7_copy 2 = .ok (.getfield 9, 3) := by decide +kernel
theorem d_X7_copy_5 : decode c_X7_copy 5 = .ok (.putfield 9, 3) := by decide +kernel
theorem d_X7_copy_8 : decode c_X7_copy 8 = .ok (.aload_n 0, 1) := by decide +kernel
theorem d_X7_copy_9 : decode c_X7_copy 9 = .ok (.aload_n 1, 1) := by decide +kernel
theorem d_X7_copy_10 : decode c_X7_copy 10 = .ok (.getfield 15, 3) := by decide +kernel
theorem d_X7_copy_13 : decode c_X7_copy 13 = .ok (.putfield 15, 3) := by decide +kernel
theorem d_X7_copy_16 : decode c_X7_copy 16 = .ok (.aload_n 0, 1) := by decide +kernel
theorem d_X7_copy_17 : decode c_X7_copy 17 = .ok (.aload_n 1, 1) := by decide +kernel
theorem d_X7_copy_18 : decode c_X7_copy 18 = .ok (.getfield 18, 3) := by decide +kernel
theorem d_X7_copy_21 : decode c_X7_copy 21 = .ok (.putfield 18, 3) := by decide +kernel
theorem d_X7_copy_24 : decode c_X7_copy 24 = .ok (.aload_n 0, 1) := by decide +kernel
theorem d_X7_copy_25 : decode c_X7_copy 25 = .ok (.aload_n 1, 1) := by decide +kernel
theorem d_X7_copy_26 : decode c_X7_copy 26 = .ok (.getfield 21, 3) := by decide +kernel
theorem d_X7_copy_29 : decode c_X7_copy 29 = .ok (.putfield 21, 3) := by decide +kernel
theorem d_X7_copy_32 : decode c_X7_copy 32 = .ok (.aload_n 0, 1) := by decide +kernel
theorem d_X7_copy_33 : decode c_X7_copy 33 = .ok (.aload_n 1, 1) := by decide +kernel
theorem d_X7_copy_34 : decode c_X7_copy 34 = .ok (.getfield 24, 3) := by decide +kernel
theorem d_X7_copy_37 : decode c_X7_copy 37 = .ok (.putfield 24, 3) := by decide +kernel
theorem d_X7_copy_40 : decode c_X7_copy 40 = .ok (.aload_n 0, 1) := by decide +kernel
theorem d_X7_copy_41 : decode c_X7_copy 41 = .ok (.aload_n 1, 1) := by decide +kernel
theorem d_X7_copy_42 : decode c_X7_copy 42 = .ok (.getfield 27, 3) := by decide +kernel
theorem d_X7_copy_45 : decode c_X7_copy 45 = .ok (.putfield 27, 3) := by decide +kernel
theorem d_X7_copy_48 : decode c_X7_copy 48 = .ok (.aload_n 0, 1) := by decide +kernel
theorem d_X7_copy_49 : decode c_X7_copy 49 = .ok (.aload_n 1, 1) := by decide +kernel
theorem d_X7_copy_50 : decode c_X7_copy 50 = .ok (.getfield 30, 3) := by decide +kernel
theorem d_X7_copy_53 : decode c_X7_copy 53 = .ok (.putfield 30, 3) := by decide +kernel
theorem d_X7_copy_56 : decode c_X7_copy 56 = .ok (.aload_n 0, 1) := by decide +kernel
theorem d_X7_copy_57 : decode c_X7_copy 57 = .ok (.aload_n 1, 1) := by decide +kernel
theorem d_X7_copy_58 : decode c_X7_copy 58 = .ok (.getfield 33, 3) := by decide +kernel
theorem d_X7_copy_61 : decode c_X7_copy 61 = .ok (.putfield 33, 3) := by decide +kernel
theorem d_X7_copy_64 : decode c_X7_copy 64 = .ok (.aload_n 0, 1) := by decide +kernel
theorem d_X7_copy_65 : decode c_X7_copy 65 = .ok (.aload_n 1, 1) := by decide +kernel
theorem d_X7_copy_66 : decode c_X7_copy 66 = .ok (.getfield 36, 3) := by decide +kernel
theorem d_X7_copy_69 : decode c_X7_copy 69 = .ok (.putfield 36, 3) := by decide +kernel
theorem d_X7_copy_72 : decode c_X7_copy 72 = .ok (.aload_n 0, 1) := by decide +kernel
theorem d_X7_copy_73 : decode c_X7_copy 73 = .ok (.aload_n 1, 1) := by decide +kernel
theorem d_X7_copy_74 : decode c_X7_copy 74 = .ok (.getfield 39, 3) := by decide +kernel
theorem d_X7_copy_77 : decode c_X7_copy 77 = .ok (.putfield 39, 3) := by decide +kernel
theorem d_X7_copy_80 : decode c_X7_copy 80 = .ok (.aload_n 0, 1) := by decide +kernel
theorem d_X7_copy_81 : decode c_X7_copy 81 = .ok (.aload_n 1, 1) := by decide +kernel
theorem d_X7_copy_82 : decode c_X7_copy 82 = .ok (.getfield 42, 3) := by decide +kernel
theorem d_X7_copy_85 : decode c_X7_copy 85 = .ok (.putfield 42, 3) := by decide +kernel
theorem d_X7_copy_88 : decode c_X7_copy 88 = .ok (.aload_n 0, 1) := by decide +kernel
theorem d_X7_copy_89 : decode c_X7_copy 89 = .ok (.aload_n 1, 1) := by decide +kernel
theorem d_X7_copy_90 : decode c_X7_copy 90 = .ok (.getfield 45, 3) := by decide +kernel
theorem d_X7_copy_93 : decode c_X7_copy 93 = .ok (.putfield 45, 3) := by decide +kernel
theorem d_X7_copy_96 : decode c_X7_copy 96 = .ok (.aload_n 0, 1) := by decide +kernel
theorem d_X7_copy_97 : decode c_X7_copy 97 = .ok (.aload_n 1, 1) := by decide +kernel
theorem d_X7_copy_98 : decode c_X7_copy 98 = .ok (.getfield 48, 3) := by decide +kernel
theorem d_X7_copy_101 : decode c_X7_copy 101 = .ok (.putfield 48, 3) := by decide +kernel
theorem d_X7_copy_104 : decode c_X7_copy 104 = .ok (.return_, 1) := by decide +kernel
set_option maxHeartbeats 4000000 in
set_option maxRecDepth 100000 in
theorem ct_X7_copy (l : Launch) (D : va_G) (dA : Nat → ClassId) (ad : Nat → Nat) (v : tV) (hI : Inv v) (k : Nat) (k2 : Nat) (ka : 120 ≤ k) (kb : k < 160) (k2a : 100 ≤ k2) (k2b : k2 < 160) : Met l m_X7_copy [.code m_X7_copy c_X7_copy 2 none] ({ frames := 1, cells := 0, slots := 0, locals := 40 } : Room) (tP D dA ad v [.ref (ad k), .ref (ad k2)]) (tQv D dA ad (fun v' => Inv v' ∧ Kp v v')) 0 0 (tA ad) := by
  refine tMet (by decide) (Nat.le_of_ble_eq_true rfl) ?_
  intro p e s m below meth c ls X hr hlocks hw hl
  have X : CX p s m ([.ref (ad k), .ref (ad k2)] : List Value).toArray c c_X7_copy N_X7 2 D dA := X
  have hx := X.1
  have hb := X.2.1
  have hS : va_S (tA ad) s.heap s.heap [] := va_S.rf
  have hl : lv_has ls 2 [(0, .ref (ad k)), (1, .ref (ad k2))] := hl
  have hK0 : Kp v v := Kp.rf v
  refine lv_aload_n hx hb d_X7_copy_0 rfl (lv_at hl 0 rfl) ?_
  refine lv_aload_n hx hb d_X7_copy_1 rfl (lv_at hl 1 rfl) ?_
  refine r_geti X hw FL_X7_9 (KD_ship (by omega) (by omega)) (SH_ship (by omega) (by omega)) d_X7_copy_2 ?_
  refine lv_topi (fun x1 ex1 => ?_)
  refine r_put X hw hS FP_X7_9 (KD_ship (by omega) (by omega)) (SH_ship (by omega) (by omega)) ⟨rfl, rfl⟩ d_X7_copy_5 (fun H locs hw hS => ?_)
  obtain ⟨v2, ev2⟩ : ∃ z, z = up2 v k 0 x1 := ⟨_, rfl⟩
  rw [← ev2] at hw
  have hI3 : Inv v2 := by rw [ev2]; exact Inv.put0 hI _ (RG_ship (by omega) (by omega))
  have hK4 : Kp v v2 := by rw [ev2]; exact Kp.put hK0 _ (PS_ship2 (by omega) (by omega))
  refine lv_aload_n hx hb d_X7_copy_8 rfl (lv_at hl 0 rfl) ?_
  refine lv_aload_n hx hb d_X7_copy_9 rfl (lv_at hl 1 rfl) ?_
  refine r_geti X hw FL_X7_15 (KD_ship (by omega) (by omega)) (SH_ship (by omega) (by omega)) d_X7_copy_10 ?_
  refine lv_topi (fun x5 ex5 => ?_)
  refine r_put X hw hS FP_X7_15 (KD_ship (by omega) (by omega)) (SH_ship (by omega) (by omega)) ⟨rfl, rfl⟩ d_X7_copy_13 (fun H locs hw hS => ?_)
  obtain ⟨v6, ev6⟩ : ∃ z, z = up2 v2 k 1 x5 := ⟨_, rfl⟩
  rw [← ev6] at hw
  have hI7 : Inv v6 := by rw [ev6]; exact Inv.put0 hI3 _ (RG_ship (by omega) (by omega))
  have hK8 : Kp v v6 := by rw [ev6]; exact Kp.put hK4 _ (PS_ship2 (by omega) (by omega))
  refine lv_aload_n hx hb d_X7_copy_16 rfl (lv_at hl 0 rfl) ?_
  refine lv_aload_n hx hb d_X7_copy_17 rfl (lv_at hl 1 rfl) ?_
  refine r_geti X hw FL_X7_18 (KD_ship (by omega) (by omega)) (SH_ship (by omega) (by omega)) d_X7_copy_18 ?_
  refine lv_topi (fun x9 ex9 => ?_)
  refine r_put X hw hS FP_X7_18 (KD_ship (by omega) (by omega)) (SH_ship (by omega) (by omega)) ⟨rfl, rfl⟩ d_X7_copy_21 (fun H locs hw hS => ?_)
  obtain ⟨v10, ev10⟩ : ∃ z, z = up2 v6 k 2 x9 := ⟨_, rfl⟩
  rw [← ev10] at hw
  have hI11 : Inv v10 := by rw [ev10]; exact Inv.put0 hI7 _ (RG_ship (by omega) (by omega))
  have hK12 : Kp v v10 := by rw [ev10]; exact Kp.put hK8 _ (PS_ship2 (by omega) (by omega))
  refine lv_aload_n hx hb d_X7_copy_24 rfl (lv_at hl 0 rfl) ?_
  refine lv_aload_n hx hb d_X7_copy_25 rfl (lv_at hl 1 rfl) ?_
  refine r_geti X hw FL_X7_21 (KD_ship (by omega) (by omega)) (SH_ship (by omega) (by omega)) d_X7_copy_26 ?_
  refine lv_topi (fun x13 ex13 => ?_)
  refine r_put X hw hS FP_X7_21 (KD_ship (by omega) (by omega)) (SH_ship (by omega) (by omega)) ⟨rfl, rfl⟩ d_X7_copy_29 (fun H locs hw hS => ?_)
  obtain ⟨v14, ev14⟩ : ∃ z, z = up2 v10 k 3 x13 := ⟨_, rfl⟩
  rw [← ev14] at hw
  have hI15 : Inv v14 := by rw [ev14]; exact Inv.put0 hI11 _ (RG_ship (by omega) (by omega))
  have hK16 : Kp v v14 := by rw [ev14]; exact Kp.put hK12 _ (PS_ship2 (by omega) (by omega))
  refine lv_aload_n hx hb d_X7_copy_32 rfl (lv_at hl 0 rfl) ?_
  refine lv_aload_n hx hb d_X7_copy_33 rfl (lv_at hl 1 rfl) ?_
  refine r_geti X hw FL_X7_24 (KD_ship (by omega) (by omega)) (SH_ship (by omega) (by omega)) d_X7_copy_34 ?_
  refine lv_topi (fun x17 ex17 => ?_)
  refine r_put X hw hS FP_X7_24 (KD_ship (by omega) (by omega)) (SH_ship (by omega) (by omega)) ⟨rfl, rfl⟩ d_X7_copy_37 (fun H locs hw hS => ?_)
  obtain ⟨v18, ev18⟩ : ∃ z, z = up2 v14 k 4 x17 := ⟨_, rfl⟩
  rw [← ev18] at hw
  have hI19 : Inv v18 := by rw [ev18]; exact Inv.put0 hI15 _ (RG_ship (by omega) (by omega))
  have hK20 : Kp v v18 := by rw [ev18]; exact Kp.put hK16 _ (PS_ship2 (by omega) (by omega))
  refine lv_aload_n hx hb d_X7_copy_40 rfl (lv_at hl 0 rfl) ?_
  refine lv_aload_n hx hb d_X7_copy_41 rfl (lv_at hl 1 rfl) ?_
  refine r_geti X hw FL_X7_27 (KD_ship (by omega) (by omega)) (SH_ship (by omega) (by omega)) d_X7_copy_42 ?_
  refine lv_topi (fun x21 ex21 => ?_)
  refine r_put X hw hS FP_X7_27 (KD_ship (by omega) (by omega)) (SH_ship (by omega) (by omega)) ⟨rfl, rfl⟩ d_X7_copy_45 (fun H locs hw hS => ?_)
  obtain ⟨v22, ev22⟩ : ∃ z, z = up2 v18 k 5 x21 := ⟨_, rfl⟩
  rw [← ev22] at hw
  have hI23 : Inv v22 := by rw [ev22]; exact Inv.put0 hI19 _ (RG_ship (by omega) (by omega))
  have hK24 : Kp v v22 := by rw [ev22]; exact Kp.put hK20 _ (PS_ship2 (by omega) (by omega))
  refine lv_aload_n hx hb d_X7_copy_48 rfl (lv_at hl 0 rfl) ?_
  refine lv_aload_n hx hb d_X7_copy_49 rfl (lv_at hl 1 rfl) ?_
  refine r_geti X hw FL_X7_30 (KD_ship (by omega) (by omega)) (SH_ship (by omega) (by omega)) d_X7_copy_50 ?_
  refine lv_topi (fun x25 ex25 => ?_)
  refine r_put X hw hS FP_X7_30 (KD_ship (by omega) (by omega)) (SH_ship (by omega) (by omega)) ⟨rfl, rfl⟩ d_X7_copy_53 (fun H locs hw hS => ?_)
  obtain ⟨v26, ev26⟩ : ∃ z, z = up2 v22 k 6 x25 := ⟨_, rfl⟩
  rw [← ev26] at hw
  have hI27 : Inv v26 := by rw [ev26]; exact Inv.put0 hI23 _ (RG_ship (by omega) (by omega))
  have hK28 : Kp v v26 := by rw [ev26]; exact Kp.put hK24 _ (PS_ship2 (by omega) (by omega))
  refine lv_aload_n hx hb d_X7_copy_56 rfl (lv_at hl 0 rfl) ?_
  refine lv_aload_n hx hb d_X7_copy_57 rfl (lv_at hl 1 rfl) ?_
  refine r_geti X hw FL_X7_33 (KD_ship (by omega) (by omega)) (SH_ship (by omega) (by omega)) d_X7_copy_58 ?_
  refine lv_topi (fun x29 ex29 => ?_)
  refine r_put X hw hS FP_X7_33 (KD_ship (by omega) (by omega)) (SH_ship (by omega) (by omega)) ⟨rfl, rfl⟩ d_X7_copy_61 (fun H locs hw hS => ?_)
  obtain ⟨v30, ev30⟩ : ∃ z, z = up2 v26 k 7 x29 := ⟨_, rfl⟩
  rw [← ev30] at hw
  have hI31 : Inv v30 := by rw [ev30]; exact Inv.put0 hI27 _ (RG_ship (by omega) (by omega))
  have hK32 : Kp v v30 := by rw [ev30]; exact Kp.put hK28 _ (PS_ship2 (by omega) (by omega))
  refine lv_aload_n hx hb d_X7_copy_64 rfl (lv_at hl 0 rfl) ?_
  refine lv_aload_n hx hb d_X7_copy_65 rfl (lv_at hl 1 rfl) ?_
  refine r_geti X hw FL_X7_36 (KD_ship (by omega) (by omega)) (SH_ship (by omega) (by omega)) d_X7_copy_66 ?_
  refine lv_topi (fun x33 ex33 => ?_)
  refine r_put X hw hS FP_X7_36 (KD_ship (by omega) (by omega)) (SH_ship (by omega) (by omega)) ⟨rfl, rfl⟩ d_X7_copy_69 (fun H locs hw hS => ?_)
  obtain ⟨v34, ev34⟩ : ∃ z, z = up2 v30 k 8 x33 := ⟨_, rfl⟩
  rw [← ev34] at hw
  have hI35 : Inv v34 := by rw [ev34]; exact Inv.put0 hI31 _ (RG_ship (by omega) (by omega))
  have hK36 : Kp v v34 := by rw [ev34]; exact Kp.put hK32 _ (PS_ship2 (by omega) (by omega))
  refine lv_aload_n hx hb d_X7_copy_72 rfl (lv_at hl 0 rfl) ?_
  refine lv_aload_n hx hb d_X7_copy_73 rfl (lv_at hl 1 rfl) ?_
  refine r_geti X hw FL_X7_39 (KD_ship (by omega) (by omega)) (SH_ship (by omega) (by omega)) d_X7_copy_74 ?_
  refine lv_topi (fun x37 ex37 => ?_)
  refine r_put X hw hS FP_X7_39 (KD_ship (by omega) (by omega)) (SH_ship (by omega) (by omega)) ⟨rfl, rfl⟩ d_X7_copy_77 (fun H locs hw hS => ?_)
  obtain ⟨v38, ev38⟩ : ∃ z, z = up2 v34 k 9 x37 := ⟨_, rfl⟩
  rw [← ev38] at hw
  have hI39 : Inv v38 := by rw [ev38]; exact Inv.put0 hI35 _ (RG_ship (by omega) (by omega))
  have hK40 : Kp v v38 := by rw [ev38]; exact Kp.put hK36 _ (PS_ship2 (by omega) (by omega))
  refine lv_aload_n hx hb d_X7_copy_80 rfl (lv_at hl 0 rfl) ?_
  refine lv_aload_n hx hb d_X7_copy_81 rfl (lv_at hl 1 rfl) ?_
  refine r_geti X hw FL_X7_42 (KD_ship (by omega) (by omega)) (SH_ship (by omega) (by omega)) d_X7_copy_82 ?_
  refine lv_topi (fun x41 ex41 => ?_)
  refine r_put X hw hS FP_X7_42 (KD_ship (by omega) (by omega)) (SH_ship (by omega) (by omega)) ⟨rfl, rfl⟩ d_X7_copy_85 (fun H locs hw hS => ?_)
  obtain ⟨v42, ev42⟩ : ∃ z, z = up2 v38 k 10 x41 := ⟨_, rfl⟩
  rw [← ev42] at hw
  have hI43 : Inv v42 := by rw [ev42]; exact Inv.put0 hI39 _ (RG_ship (by omega) (by omega))
  have hK44 : Kp v v42 := by rw [ev42]; exact Kp.put hK40 _ (PS_ship2 (by omega) (by omega))
  refine lv_aload_n hx hb d_X7_copy_88 rfl (lv_at hl 0 rfl) ?_
  refine lv_aload_n hx hb d_X7_copy_89 rfl (lv_at hl 1 rfl) ?_
  refine r_geti X hw FL_X7_45 (KD_ship (by omega) (by omega)) (SH_ship (by omega) (by omega)) d_X7_copy_90 ?_
  refine lv_topi (fun x45 ex45 => ?_)
  refine r_put X hw hS FP_X7_45 (KD_ship (by omega) (by omega)) (SH_ship (by omega) (by omega)) ⟨rfl, rfl⟩ d_X7_copy_93 (fun H locs hw hS => ?_)
  obtain ⟨v46, ev46⟩ : ∃ z, z = up2 v42 k 11 x45 := ⟨_, rfl⟩
  rw [← ev46] at hw
  have hI47 : Inv v46 := by rw [ev46]; exact Inv.put0 hI43 _ (RG_ship (by omega) (by omega))
  have hK48 : Kp v v46 := by rw [ev46]; exact Kp.put hK44 _ (PS_ship2 (by omega) (by omega))
  refine lv_aload_n hx hb d_X7_copy_96 rfl (lv_at hl 0 rfl) ?_
  refine lv_aload_n hx hb d_X7_copy_97 rfl (lv_at hl 1 rfl) ?_
  refine r_geti X hw FL_X7_48 (KD_ship (by omega) (by omega)) (SH_ship (by omega) (by omega)) d_X7_copy_98 ?_
  refine lv_topi (fun x49 ex49 => ?_)
  refine r_put X hw hS FP_X7_48 (KD_ship (by omega) (by omega)) (SH_ship (by omega) (by omega)) ⟨rfl, rfl⟩ d_X7_copy_101 (fun H locs hw hS => ?_)
  obtain ⟨v50, ev50⟩ : ∃ z, z = up2 v46 k 12 x49 := ⟨_, rfl⟩
  rw [← ev50] at hw
  have hI51 : Inv v50 := by rw [ev50]; exact Inv.put0 hI47 _ (RG_ship (by omega) (by omega))
  have hK52 : Kp v v50 := by rw [ev50]; exact Kp.put hK48 _ (PS_ship2 (by omega) (by omega))
  exact r_vret X hr hlocks hw hS ⟨hI51, hK52⟩ d_X7_copy_104
theorem d_X6_sail_0 : decode c_X6_sail 0 = .ok (.iconst 0, 1) := by decide +kernel
theorem d_X6_sail_1 : decode c_X6_sail 1 = .ok (.istore_n 2, 1) := by decide +kernel
theorem d_X6_sail_2 : decode c_X6_sail 2 = .ok (.iload_n 2, 1) := by decide +kernel
theorem d_X6_sail_3 : decode c_X6_sail 3 = .ok (.aload_n 0, 1) := by decide +kernel
theorem d_X6_sail_4 : decode c_X6_sail 4 = .ok (.getfield 29, 3) := by decide +kernel
theorem d_X6_sail_7 : decode c_X6_sail 7 = .ok (.if_icmp .ge 23, 3) := by decide +kernel
theorem d_X6_sail_10 : decode c_X6_sail 10 = .ok (.aload_n 0, 1) := by decide +kernel
theorem d_X6_sail_11 : decode c_X6_sail 11 = .ok (.getfield 11, 3) := by decide +kernel
theorem d_X6_sail_14 : decode c_X6_sail 14 = .ok (.iload_n 2, 1) := by decide +kernel
theorem d_X6_sail_15 : decode c_X6_sail 15 = .ok (.aaload, 1) := by decide +kernel
theorem d_X6_sail_16 : decode c_X6_sail 16 = .ok (.iload_n 1, 1) := by decide +kernel
theorem d_X6_sail_17 : decode c_X6_sail 17 = .ok (.aload_n 0, 1) := by decide +kernel
theorem d_X6_sail_18 : decode c_X6_sail 18 = .ok (.getfield 36, 3) := by decide +kernel
theorem d_X6_sail_21 : decode c_X6_sail 21 = .ok (.invokevirtual 59, 3) := by decide +kernel
theorem d_X6_sail_24 : decode c_X6_sail 24 = .ok (.iinc 2 1, 3) := by decide +kernel
theorem d_X6_sail_27 : decode c_X6_sail 27 = .ok (.goto (-25), 3) := by decide +kernel
theorem d_X6_sail_30 : decode c_X6_sail 30 = .ok (.return_, 1) := by decide +kernel
set_option maxHeartbeats 4000000 in
set_option maxRecDepth 100000 in
theorem ct_X6_sail_1 (l : Launch) (D : va_G) (dA : Nat → ClassId) (ad : Nat → Nat) (v : tV) (hI : Inv v) (wind : Int32) : Met l m_X6_sail [.code m_X6_sail c_X6_sail 3 none] ({ frames := 2, cells := 0, slots := 0, locals := 62 } : Room) (tP D dA ad v [.ref (ad 1), .int wind]) (tQv D dA ad (fun v' => Inv v' ∧ Kp v v')) 0 0 (tA ad) := by
  refine tMet (by decide) (Nat.le_of_ble_eq_true rfl) ?_
  intro p e s m below meth c ls X hr hlocks hw hl
  have X : CX p s m ([.ref (ad 1), .int wind] : List Value).toArray c c_X6_sail N_X6 3 D dA := X
  have hx := X.1
  have hb := X.2.1
  have hS : va_S (tA ad) s.heap s.heap [] := va_S.rf
  have hl : lv_has ls 3 [(0, .ref (ad 1)), (1, .int wind)] := hl
  have LL : ∀ n : Nat, (∀ (y2 : Int32) (v1 : tV) (H : Heap) (locs : List Loc) (ls : Array Slot), (20 - y2.toInt).toNat < n → Rg y2 0 20 → Inv v1 → Kp v v1 → tI D dA ad v1 H → va_S (tA ad) s.heap H locs → lv_has ls 3 [(0, .ref (ad 1)), (1, .int wind), (2, .int y2)] → W p l e ({ frames := 2, cells := 0, slots := 0, locals := 62 } : Room) s m ([.ref (ad 1), .int wind] : List Value).toArray below meth c H locs 0 0 (MQ below (tQv D dA ad (fun v' => Inv v' ∧ Kp v v')) ([.ref (ad 1), .int wind] : List Value).toArray s 0 0 (tA ad)) (F0 m 2 ls [])) := by
    intro n
    induction n with
    | zero => intros; omega
    | succ n ih =>
      have ih0 := ih
      intro y2 v1 H locs ls hmu r_y2 hI1 hK1 hw hS hl
      refine lv_iload_n hx hb d_X6_sail_2 rfl (lv_at hl 2 rfl) ?_
      refine lv_aload_n hx hb d_X6_sail_3 rfl (lv_at hl 0 rfl) ?_
      refine r_geti X hw FL_X6_29 (rfl : KD 1 = _) rfl d_X6_sail_4 ?_
      refine lv_topi (fun x1 ex1 => ?_)
      have r2 : Rg x1 0 20 := by rw [ex1]; exact hI1 _ _ _ _ rfl
      have hm3 : v1 1 3 = x1 := ex1.symm
      refine lv_icmp_ge (tgt := 30) hx hb d_X6_sail_7 (by decide) (fun c4 => ?_) (fun c4 => ?_)
      · have f5 := i_le c4
        exact r_vret X hr hlocks hw hS ⟨hI1, hK1⟩ d_X6_sail_30
      · have f6 := i_nle c4
        have r7 : Rg y2 0 19 := by obtain ⟨a1, a2⟩ := r_y2; obtain ⟨b1, b2⟩ := r2; have f := i_nle c4; exact ⟨by omega, by omega⟩
        have r8 : Rg x1 1 20 := by obtain ⟨a1, a2⟩ := r_y2; obtain ⟨b1, b2⟩ := r2; have f := i_nle c4; exact ⟨by omega, by omega⟩
        refine lv_aload_n hx hb d_X6_sail_10 rfl (lv_at hl 0 rfl) ?_
        refine r_getr (r := 10) X hw FL_X6_11 (rfl : KD 1 = _) rfl d_X6_sail_11 ?_
        refine lv_iload_n hx hb d_X6_sail_14 rfl (lv_at hl 2 rfl) ?_
        refine r_aald X hw (rfl : KD 10 = _) (Or.inl rfl) (Rg.vp (b := 19) r7 (by decide)) rfl d_X6_sail_15 ?_
        refine r_nm (fun kc9 ekc9 => ?_)
        have kc9a : 100 ≤ kc9 := by omega
        have kc9b : kc9 ≤ 119 := by have := Rg.nat r7; omega
        refine lv_iload_n hx hb d_X6_sail_16 rfl (lv_at hl 1 rfl) ?_
        refine lv_aload_n hx hb d_X6_sail_17 rfl (lv_at hl 0 rfl) ?_
        refine r_geti X hw FL_X6_36 (rfl : KD 1 = _) rfl d_X6_sail_18 ?_
        refine lv_topi (fun x10 ex10 => ?_)
        refine r_cv (r_runV (n := 2) (As := [.int wind, .int x10]) (rest := []) X hw (ct_X7_sail l D dA ad v1 hI1 kc9 wind x10 (by omega) (by omega)) gc_X6_59 (KD_ship (by omega) (by omega)) (by decide) rfl (by decide +kernel) ⟨rfl, rfl, Nat.le_of_ble_eq_true rfl, Nat.le_of_ble_eq_true rfl⟩ rfl hl.1 rfl (Nat.le_of_ble_eq_true rfl) ⟨Nat.zero_le _, Nat.zero_le _⟩ d_X6_sail_21) hS (fun v12 H locs hp11 hw hS => ?_)
        obtain ⟨hI13, hK14⟩ := hp11
        have hK15 : Kp v v12 := Kp.tr hK1 hK14
        obtain ⟨x16, ex16⟩ : ∃ y : Int32, y = y2 + 1 := ⟨_, rfl⟩
        refine lv_iinc (v := x16) (lv' := [(2, .int x16), (0, .ref (ad 1)), (1, .int wind)]) hx hb d_X6_sail_24 hl (k := 2) rfl (by rw [ex16]; rfl) (by decide) rfl (fun ls hl => ?_)
        have r17 : Rg x16 1 20 := rg_add ex16 r7 (⟨by decide, by decide⟩ : Rg 1 1 1) (by decide) (by decide)
        have s18 : x16.toInt = y2.toInt + (1 : Int32).toInt := by rw [ex16]; exact i_add (by obtain ⟨_, _⟩ := r7; obtain ⟨_, _⟩ := (⟨by decide, by decide⟩ : Rg 1 1 1); omega) (by obtain ⟨_, _⟩ := r7; obtain ⟨_, _⟩ := (⟨by decide, by decide⟩ : Rg 1 1 1); omega)
        have s18l : (1 : Int32).toInt = 1 := rfl
        refine lv_goto (tgt := 2) hx hb d_X6_sail_27 (by decide) ?_
        exact ih0 x16 v12 _ _ _ (by have := s18; obtain ⟨_, _⟩ := r17; omega) (rg_w r17 (by decide) (by decide)) hI13 hK15 hw hS (lv_sub hl [1, 2, 0] rfl)
  have ih0 := LL 100000
  have hK0 : Kp v v := Kp.rf v
  refine lv_iconst (v := 0) hx hb d_X6_sail_0 (by decide) ?_
  refine lv_istore_n (lv' := [(2, .int 0), (0, .ref (ad 1)), (1, .int wind)]) hx hb d_X6_sail_1 rfl hl (by decide) rfl (fun ls hl => ?_)
  exact ih0 0 v _ _ _ (by obtain ⟨_, _⟩ := (⟨by decide, by decide⟩ : Rg 0 0 0); omega) (rg_w (⟨by decide, by decide⟩ : Rg 0 0 0) (by decide) (by decide)) hI hK0 hw hS (lv_sub hl [1, 2, 0] rfl)
theorem d_X6_bestBuyer_0 : decode c_X6_bestBuyer 0 = .ok (.iconst (-1), 1) := by decide +kernel
theorem d_X6_bestBuyer_1 : decode c_X6_bestBuyer 1 = .ok (.istore_n 2, 1) := by decide +kernel
theorem d_X6_bestBuyer_2 : decode c_X6_bestBuyer 2 = .ok (.iconst 0, 1) := by decide +kernel
theorem d_X6_bestBuyer_3 : decode c_X6_bestBuyer 3 = .ok (.istore_n 3, 1) := by decide +kernel
theorem d_X6_bestBuyer_4 : decode c_X6_bestBuyer 4 = .ok (.iload_n 3, 1) := by decide +kernel
theorem d_X6_bestBuyer_5 : decode c_X6_bestBuyer 5 = .ok (.aload_n 0, 1) := by decide +kernel
theorem d_X6_bestBuyer_6 : decode c_X6_bestBuyer 6 = .ok (.getfield 33, 3) := by decide +kernel
theorem d_X6_bestBuyer_9 : decode c_X6_bestBuyer 9 = .ok (.if_icmp .ge 62, 3) := by decide +kernel
theorem d_X6_bestBuyer_12 : decode c_X6_bestBuyer 12 = .ok (.iload_n 2, 1) := by decide +kernel
theorem d_X6_bestBuyer_13 : decode c_X6_bestBuyer 13 = .ok (.iconst (-1), 1) := by decide +kernel
theorem d_X6_bestBuyer_14 : decode c_X6_bestBuyer 14 = .ok (.if_icmp .eq 24, 3) := by decide +kernel
theorem d_X6_bestBuyer_17 : decode c_X6_bestBuyer 17 = .ok (.aload_n 0, 1) := by decide +kernel
theorem d_X6_bestBuyer_18 : decode c_X6_bestBuyer 18 = .ok (.getfield 19, 3) := by decide +kernel
theorem d_X6_bestBuyer_21 : decode c_X6_bestBuyer 21 = .ok (.iload_n 3, 1) := by decide +kernel
theorem d_X6_bestBuyer_22 : decode c_X6_bestBuyer 22 = .ok (.aaload, 1) := by decide +kernel
theorem d_X6_bestBuyer_23 : decode c_X6_bestBuyer 23 = .ok (.getfield 97, 3) := by decide +kernel
theorem d_X6_bestBuyer_26 : decode c_X6_bestBuyer 26 = .ok (.aload_n 0, 1) := by decide +kernel
theorem d_X6_bestBuyer_27 : decode c_X6_bestBuyer 27 = .ok (.getfield 19, 3) := by decide +kernel
theorem d_X6_bestBuyer_30 : decode c_X6_bestBuyer 30 = .ok (.iload_n 2, 1) := by decide +kernel
theorem d_X6_bestBuyer_31 : decode c_X6_bestBuyer 31 = .ok (.aaload, 1) := by decide +kernel
theorem d_X6_bestBuyer_32 : decode c_X6_bestBuyer 32 = .ok (.getfield 97, 3) := by decide +kernel
theorem d_X6_bestBuyer_35 : decode c_X6_bestBuyer 35 = .ok (.if_icmp .le 7, 3) := by decide +kernel
theorem d_X6_bestBuyer_38 : decode c_X6_bestBuyer 38 = .ok (.iconst 1, 1) := by decide +kernel
theorem d_X6_bestBuyer_39 : decode c_X6_bestBuyer 39 = .ok (.goto 4, 3) := by decide +kernel
theorem d_X6_bestBuyer_42 : decode c_X6_bestBuyer 42 = .ok (.iconst 0, 1) := by decide +kernel
theorem d_X6_bestBuyer_43 : decode c_X6_bestBuyer 43 = .ok (.istore 4, 2) := by decide +kernel
theorem d_X6_bestBuyer_45 : decode c_X6_bestBuyer 45 = .ok (.iload 4, 2) := by decide +kernel
theorem d_X6_bestBuyer_47 : decode c_X6_bestBuyer 47 = .ok (.ifCond .eq 18, 3) := by decide +kernel
theorem d_X6_bestBuyer_50 : decode c_X6_bestBuyer 50 = .ok (.aload_n 0, 1) := by decide +kernel
theorem d_X6_bestBuyer_51 : decode c_X6_bestBuyer 51 = .ok (.getfield 19, 3) := by decide +kernel
theorem d_X6_bestBuyer_54 : decode c_X6_bestBuyer 54 = .ok (.iload_n 3, 1) := by decide +kernel
theorem d_X6_bestBuyer_55 : decode c_X6_bestBuyer 55 = .ok (.aaload, 1) := by decide +kernel
theorem d_X6_bestBuyer_56 : decode c_X6_bestBuyer 56 = .ok (.aload_n 1, 1) := by decide +kernel
theorem d_X6_bestBuyer_57 : decode c_X6_bestBuyer 57 = .ok (.invokevirtual 100, 3) := by decide +kernel
theorem d_X6_bestBuyer_60 : decode c_X6_bestBuyer 60 = .ok (.ifCond .eq 5, 3) := by decide +kernel
theorem d_X6_bestBuyer_63 : decode c_X6_bestBuyer 63 = .ok (.iload_n 3, 1) := by decide +kernel
theorem d_X6_bestBuyer_64 : decode c_X6_bestBuyer 64 = .ok (.istore_n 2, 1) := by decide +kernel
theorem d_X6_bestBuyer_65 : decode c_X6_bestBuyer 65 = .ok (.iinc 3 1, 3) := by decide +kernel
theorem d_X6_bestBuyer_68 : decode c_X6_bestBuyer 68 = .ok (.goto (-64), 3) := by decide +kernel
theorem d_X6_bestBuyer_71 : decode c_X6_bestBuyer 71 = .ok (.iload_n 2, 1) := by decide +kernel
theorem d_X6_bestBuyer_72 : decode c_X6_bestBuyer 72 = .ok (.ireturn, 1) := by decide +kernel
set_option maxHeartbeats 4000000 in
set_option maxRecDepth 100000 in
theorem ct_X6_bestBuyer_1 (l : Launch) (D : va_G) (dA : Nat → ClassId) (ad : Nat → Nat) (v : tV) (hI : Inv v) (k : Nat) (ka : 100 ≤ k) (kb : k < 160) : Met l m_X6_bestBuyer [.code m_X6_bestBuyer c_X6_bestBuyer 5 (some .int)] ({ frames := 2, cells := 0, slots := 0, locals := 61 } : Room) (tP D dA ad v [.ref (ad 1), .ref (ad k)]) (tQi D dA ad (fun r v' => v' = v ∧ Rg r (-1) 9)) 0 0 (tA ad) := by
  refine tMet (by decide) (Nat.le_of_ble_eq_true rfl) ?_
  intro p e s m below meth c ls X hr hlocks hw hl
  have X : CX p s m ([.ref (ad 1), .ref (ad k)] : List Value).toArray c c_X6_bestBuyer N_X6 5 D dA := X
  have hx := X.1
  have hb := X.2.1
  have hS : va_S (tA ad) s.heap s.heap [] := va_S.rf
  have hl : lv_has ls 5 [(0, .ref (ad 1)), (1, .ref (ad k))] := hl
  have LL : ∀ n : Nat, (∀ (y2 : Int32) (y3 : Int32)  (H : Heap) (locs : List Loc) (ls : Array Slot), (10 - y3.toInt).toNat < n → Rg y2 (-1) 9 → Rg y3 0 10 → tI D dA ad v H → va_S (tA ad) s.heap H locs → lv_has ls 5 [(0, .ref (ad 1)), (1, .ref (ad k)), (2, .int y2), (3, .int y3)] → W p l e ({ frames := 2, cells := 0, slots := 0, locals := 61 } : Room) s m ([.ref (ad 1), .ref (ad k)] : List Value).toArray below meth c H locs 0 0 (MQ below (tQi D dA ad (fun r v' => v' = v ∧ Rg r (-1) 9)) ([.ref (ad 1), .ref (ad k)] : List Value).toArray s 0 0 (tA ad)) (F0 m 4 ls [])) := by
    intro n
    induction n with
    | zero => intros; omega
    | succ n ih =>
      have ih0 := ih
      intro y2 y3 H locs ls hmu r_y2 r_y3 hw hS hl
      refine lv_iload_n hx hb d_X6_bestBuyer_4 rfl (lv_at hl 3 rfl) ?_
      refine lv_aload_n hx hb d_X6_bestBuyer_5 rfl (lv_at hl 0 rfl) ?_
      refine r_geti X hw FL_X6_33 (rfl : KD 1 = _) rfl d_X6_bestBuyer_6 ?_
      refine lv_topi (fun x1 ex1 => ?_)
      have r2 : Rg x1 0 10 := by rw [ex1]; exact hI _ _ _ _ rfl
      have hm3 : v 1 4 = x1 := ex1.symm
      refine lv_icmp_ge (tgt := 71) hx hb d_X6_bestBuyer_9 (by decide) (fun c4 => ?_) (fun c4 => ?_)
      · have f5 := i_le c4
        refine lv_iload_n hx hb d_X6_bestBuyer_71 rfl (lv_at hl 2 rfl) ?_
        exact r_iret X hr hlocks hw hS ⟨rfl, r_y2⟩ d_X6_bestBuyer_72
      · have f6 := i_nle c4
        have r7 : Rg y3 0 9 := by obtain ⟨a1, a2⟩ := r_y3; obtain ⟨b1, b2⟩ := r2; have f := i_nle c4; exact ⟨by omega, by omega⟩
        have r8 : Rg x1 1 10 := by obtain ⟨a1, a2⟩ := r_y3; obtain ⟨b1, b2⟩ := r2; have f := i_nle c4; exact ⟨by omega, by omega⟩
        refine lv_iload_n hx hb d_X6_bestBuyer_12 rfl (lv_at hl 2 rfl) ?_
        refine lv_iconst (v := -1) hx hb d_X6_bestBuyer_13 (by decide) ?_
        refine lv_icmp_eq (tgt := 38) hx hb d_X6_bestBuyer_14 (by decide) (fun c9 => ?_) (fun c9 => ?_)
        · have f10 := i_eq c9
          have r11 : Rg y2 (-1) (-1) := by obtain ⟨a1, a2⟩ := r_y2; obtain ⟨b1, b2⟩ := (⟨by decide, by decide⟩ : Rg (-1) (-1) (-1)); have f := i_eq c9; exact ⟨by omega, by omega⟩
          refine lv_iconst (v := 1) hx hb d_X6_bestBuyer_38 (by decide) ?_
          refine lv_goto (tgt := 43) hx hb d_X6_bestBuyer_39 (by decide) ?_
          refine lv_istore (lv' := [(4, .int 1), (0, .ref (ad 1)), (1, .ref (ad k)), (2, .int y2), (3, .int y3)]) hx hb d_X6_bestBuyer_43 hl (by decide) rfl (fun ls hl => ?_)
          refine lv_iload hx hb d_X6_bestBuyer_45 (lv_at hl 0 rfl) ?_
          refine lv_if_eq (tgt := 65) hx hb d_X6_bestBuyer_47 (by decide) (fun c12 => ?_) (fun c12 => ?_)
          · exact absurd c12 (by decide)
          · refine lv_aload_n hx hb d_X6_bestBuyer_50 rfl (lv_at hl 1 rfl) ?_
            refine r_getr (r := 13) X hw FL_X6_19 (rfl : KD 1 = _) rfl d_X6_bestBuyer_51 ?_
            refine lv_iload_n hx hb d_X6_bestBuyer_54 rfl (lv_at hl 4 rfl) ?_
            refine r_aald X hw (rfl : KD 13 = _) (Or.inr (Or.inl rfl)) (Rg.vp (b := 9) r7 (by decide)) rfl d_X6_bestBuyer_55 ?_
            refine r_nm (fun kc13 ekc13 => ?_)
            have kc13a : 200 ≤ kc13 := by omega
            have kc13b : kc13 ≤ 209 := by have := Rg.nat r7; omega
            refine lv_aload_n hx hb d_X6_bestBuyer_56 rfl (lv_at hl 2 rfl) ?_
            refine r_ci (r_runV (n := 1) (As := [.ref (ad k)]) (rest := []) X hw (ct_X0_takes l D dA ad v hI kc13 k (by omega) (by omega) (by omega) (by omega)) gc_X6_100 (KD_buyer (by omega) (by omega)) (by decide) rfl (by decide +kernel) ⟨rfl, rfl, Nat.le_of_ble_eq_true rfl, Nat.le_of_ble_eq_true rfl⟩ rfl hl.1 rfl (Nat.le_of_ble_eq_true rfl) ⟨Nat.zero_le _, Nat.zero_le _⟩ d_X6_bestBuyer_57) hS (fun x15 v16 H locs hp14 hw hS => ?_)
            obtain ⟨ev16, hp14⟩ := hp14
            rw [ev16] at hw
            refine lv_if_eq (tgt := 65) hx hb d_X6_bestBuyer_60 (by decide) (fun c17 => ?_) (fun c17 => ?_)
            · have f18 := i_eq c17
              have r19 : Rg x15 0 0 := by obtain ⟨a1, a2⟩ := hp14; obtain ⟨b1, b2⟩ := (⟨by decide, by decide⟩ : Rg 0 0 0); have f := i_eq c17; exact ⟨by omega, by omega⟩
              obtain ⟨x20, ex20⟩ : ∃ y : Int32, y = y3 + 1 := ⟨_, rfl⟩
              refine lv_iinc (v := x20) (lv' := [(3, .int x20), (4, .int 1), (0, .ref (ad 1)), (1, .ref (ad k)), (2, .int y2)]) hx hb d_X6_bestBuyer_65 hl (k := 4) rfl (by rw [ex20]; rfl) (by decide) rfl (fun ls hl => ?_)
              have r21 : Rg x20 1 10 := rg_add ex20 r7 (⟨by decide, by decide⟩ : Rg 1 1 1) (by decide) (by decide)
              have s22 : x20.toInt = y3.toInt + (1 : Int32).toInt := by rw [ex20]; exact i_add (by obtain ⟨_, _⟩ := r7; obtain ⟨_, _⟩ := (⟨by decide, by decide⟩ : Rg 1 1 1); omega) (by obtain ⟨_, _⟩ := r7; obtain ⟨_, _⟩ := (⟨by decide, by decide⟩ : Rg 1 1 1); omega)
              have s22l : (1 : Int32).toInt = 1 := rfl
              refine lv_goto (tgt := 4) hx hb d_X6_bestBuyer_68 (by decide) ?_
              exact ih0 y2 x20 _ _ _ (by have := s22; obtain ⟨_, _⟩ := r11; obtain ⟨_, _⟩ := r21; omega) (rg_w r11 (by decide) (by decide)) (rg_w r21 (by decide) (by decide)) hw hS (lv_sub hl [2, 3, 4, 0] rfl)
            · have f23 := i_ne c17
              have r24 : Rg x15 1 1 := by obtain ⟨a1, a2⟩ := hp14; obtain ⟨b1, b2⟩ := (⟨by decide, by decide⟩ : Rg 0 0 0); have f := i_ne c17; exact ⟨by omega, by omega⟩
              refine lv_iload_n hx hb d_X6_bestBuyer_63 rfl (lv_at hl 4 rfl) ?_
              refine lv_istore_n (lv' := [(2, .int y3), (4, .int 1), (0, .ref (ad 1)), (1, .ref (ad k)), (3, .int y3)]) hx hb d_X6_bestBuyer_64 rfl hl (by decide) rfl (fun ls hl => ?_)
              obtain ⟨x25, ex25⟩ : ∃ y : Int32, y = y3 + 1 := ⟨_, rfl⟩
              refine lv_iinc (v := x25) (lv' := [(3, .int x25), (2, .int y3), (4, .int 1), (0, .ref (ad 1)), (1, .ref (ad k))]) hx hb d_X6_bestBuyer_65 hl (k := 4) rfl (by rw [ex25]; rfl) (by decide) rfl (fun ls hl => ?_)
              have r26 : Rg x25 1 10 := rg_add ex25 r7 (⟨by decide, by decide⟩ : Rg 1 1 1) (by decide) (by decide)
              have s27 : x25.toInt = y3.toInt + (1 : Int32).toInt := by rw [ex25]; exact i_add (by obtain ⟨_, _⟩ := r7; obtain ⟨_, _⟩ := (⟨by decide, by decide⟩ : Rg 1 1 1); omega) (by obtain ⟨_, _⟩ := r7; obtain ⟨_, _⟩ := (⟨by decide, by decide⟩ : Rg 1 1 1); omega)
              have s27l : (1 : Int32).toInt = 1 := rfl
              refine lv_goto (tgt := 4) hx hb d_X6_bestBuyer_68 (by decide) ?_
              exact ih0 y3 x25 _ _ _ (by have := s27; obtain ⟨_, _⟩ := r7; obtain ⟨_, _⟩ := r26; omega) (rg_w r7 (by decide) (by decide)) (rg_w r26 (by decide) (by decide)) hw hS (lv_sub hl [3, 4, 1, 0] rfl)
        · have f28 := i_ne c9
          have r29 : Rg y2 0 9 := by obtain ⟨a1, a2⟩ := r_y2; obtain ⟨b1, b2⟩ := (⟨by decide, by decide⟩ : Rg (-1) (-1) (-1)); have f := i_ne c9; exact ⟨by omega, by omega⟩
          refine lv_aload_n hx hb d_X6_bestBuyer_17 rfl (lv_at hl 0 rfl) ?_
          refine r_getr (r := 13) X hw FL_X6_19 (rfl : KD 1 = _) rfl d_X6_bestBuyer_18 ?_
          refine lv_iload_n hx hb d_X6_bestBuyer_21 rfl (lv_at hl 3 rfl) ?_
          refine r_aald X hw (rfl : KD 13 = _) (Or.inr (Or.inl rfl)) (Rg.vp (b := 9) r7 (by decide)) rfl d_X6_bestBuyer_22 ?_
          refine r_nm (fun kc30 ekc30 => ?_)
          have kc30a : 200 ≤ kc30 := by omega
          have kc30b : kc30 ≤ 209 := by have := Rg.nat r7; omega
          refine r_geti X hw FL_X6_97 (KD_buyer (by omega) (by omega)) (SH_buyer (by omega) (by omega)) d_X6_bestBuyer_23 ?_
          refine lv_topi (fun x31 ex31 => ?_)
          refine lv_aload_n hx hb d_X6_bestBuyer_26 rfl (lv_at hl 0 rfl) ?_
          refine r_getr (r := 13) X hw FL_X6_19 (rfl : KD 1 = _) rfl d_X6_bestBuyer_27 ?_
          refine lv_iload_n hx hb d_X6_bestBuyer_30 rfl (lv_at hl 2 rfl) ?_
          refine r_aald X hw (rfl : KD 13 = _) (Or.inr (Or.inl rfl)) (Rg.vp (b := 9) r29 (by decide)) rfl d_X6_bestBuyer_31 ?_
          refine r_nm (fun kc32 ekc32 => ?_)
          have kc32a : 200 ≤ kc32 := by omega
          have kc32b : kc32 ≤ 209 := by have := Rg.nat r29; omega
          refine r_geti X hw FL_X6_97 (KD_buyer (by omega) (by omega)) (SH_buyer (by omega) (by omega)) d_X6_bestBuyer_32 ?_
          refine lv_topi (fun x33 ex33 => ?_)
          refine lv_icmp_le (tgt := 42) hx hb d_X6_bestBuyer_35 (by decide) (fun c34 => ?_) (fun c34 => ?_)
          · have f35 := i_le c34
            refine lv_iconst (v := 0) hx hb d_X6_bestBuyer_42 (by decide) ?_
            refine lv_istore (lv' := [(4, .int 0), (0, .ref (ad 1)), (1, .ref (ad k)), (2, .int y2), (3, .int y3)]) hx hb d_X6_bestBuyer_43 hl (by decide) rfl (fun ls hl => ?_)
            refine lv_iload hx hb d_X6_bestBuyer_45 (lv_at hl 0 rfl) ?_
            refine lv_if_eq (tgt := 65) hx hb d_X6_bestBuyer_47 (by decide) (fun c36 => ?_) (fun c36 => ?_)
            · obtain ⟨x37, ex37⟩ : ∃ y : Int32, y = y3 + 1 := ⟨_, rfl⟩
              refine lv_iinc (v := x37) (lv' := [(3, .int x37), (4, .int 0), (0, .ref (ad 1)), (1, .ref (ad k)), (2, .int y2)]) hx hb d_X6_bestBuyer_65 hl (k := 4) rfl (by rw [ex37]; rfl) (by decide) rfl (fun ls hl => ?_)
              have r38 : Rg x37 1 10 := rg_add ex37 r7 (⟨by decide, by decide⟩ : Rg 1 1 1) (by decide) (by decide)
              have s39 : x37.toInt = y3.toInt + (1 : Int32).toInt := by rw [ex37]; exact i_add (by obtain ⟨_, _⟩ := r7; obtain ⟨_, _⟩ := (⟨by decide, by decide⟩ : Rg 1 1 1); omega) (by obtain ⟨_, _⟩ := r7; obtain ⟨_, _⟩ := (⟨by decide, by decide⟩ : Rg 1 1 1); omega)
              have s39l : (1 : Int32).toInt = 1 := rfl
              refine lv_goto (tgt := 4) hx hb d_X6_bestBuyer_68 (by decide) ?_
              exact ih0 y2 x37 _ _ _ (by have := s39; obtain ⟨_, _⟩ := r29; obtain ⟨_, _⟩ := r38; omega) (rg_w r29 (by decide) (by decide)) (rg_w r38 (by decide) (by decide)) hw hS (lv_sub hl [2, 3, 4, 0] rfl)
            · exact absurd c36 (by decide)
          · have f40 := i_nle c34
            refine lv_iconst (v := 1) hx hb d_X6_bestBuyer_38 (by decide) ?_
            refine lv_goto (tgt := 43) hx hb d_X6_bestBuyer_39 (by decide) ?_
            refine lv_istore (lv' := [(4, .int 1), (0, .ref (ad 1)), (1, .ref (ad k)), (2, .int y2), (3, .int y3)]) hx hb d_X6_bestBuyer_43 hl (by decide) rfl (fun ls hl => ?_)
            refine lv_iload hx hb d_X6_bestBuyer_45 (lv_at hl 0 rfl) ?_
            refine lv_if_eq (tgt := 65) hx hb d_X6_bestBuyer_47 (by decide) (fun c41 => ?_) (fun c41 => ?_)
            · exact absurd c41 (by decide)
            · refine lv_aload_n hx hb d_X6_bestBuyer_50 rfl (lv_at hl 1 rfl) ?_
              refine r_getr (r := 13) X hw FL_X6_19 (rfl : KD 1 = _) rfl d_X6_bestBuyer_51 ?_
              refine lv_iload_n hx hb d_X6_bestBuyer_54 rfl (lv_at hl 4 rfl) ?_
              refine r_aald X hw (rfl : KD 13 = _) (Or.inr (Or.inl rfl)) (Rg.vp (b := 9) r7 (by decide)) rfl d_X6_bestBuyer_55 ?_
              refine r_nm (fun kc42 ekc42 => ?_)
              have kc42a : 200 ≤ kc42 := by omega
              have kc42b : kc42 ≤ 209 := by have := Rg.nat r7; omega
              refine lv_aload_n hx hb d_X6_bestBuyer_56 rfl (lv_at hl 2 rfl) ?_
              refine r_ci (r_runV (n := 1) (As := [.ref (ad k)]) (rest := []) X hw (ct_X0_takes l D dA ad v hI kc42 k (by omega) (by omega) (by omega) (by omega)) gc_X6_100 (KD_buyer (by omega) (by omega)) (by decide) rfl (by decide +kernel) ⟨rfl, rfl, Nat.le_of_ble_eq_true rfl, Nat.le_of_ble_eq_true rfl⟩ rfl hl.1 rfl (Nat.le_of_ble_eq_true rfl) ⟨Nat.zero_le _, Nat.zero_le _⟩ d_X6_bestBuyer_57) hS (fun x44 v45 H locs hp43 hw hS => ?_)
              obtain ⟨ev45, hp43⟩ := hp43
              rw [ev45] at hw
              refine lv_if_eq (tgt := 65) hx hb d_X6_bestBuyer_60 (by decide) (fun c46 => ?_) (fun c46 => ?_)
              · have f47 := i_eq c46
                have r48 : Rg x44 0 0 := by obtain ⟨a1, a2⟩ := hp43; obtain ⟨b1, b2⟩ := (⟨by decide, by decide⟩ : Rg 0 0 0); have f := i_eq c46; exact ⟨by omega, by omega⟩
                obtain ⟨x49, ex49⟩ : ∃ y : Int32, y = y3 + 1 := ⟨_, rfl⟩
                refine lv_iinc (v := x49) (lv' := [(3, .int x49), (4, .int 1), (0, .ref (ad 1)), (1, .ref (ad k)), (2, .int y2)]) hx hb d_X6_bestBuyer_65 hl (k := 4) rfl (by rw [ex49]; rfl) (by decide) rfl (fun ls hl => ?_)
                have r50 : Rg x49 1 10 := rg_add ex49 r7 (⟨by decide, by decide⟩ : Rg 1 1 1) (by decide) (by decide)
                have s51 : x49.toInt = y3.toInt + (1 : Int32).toInt := by rw [ex49]; exact i_add (by obtain ⟨_, _⟩ := r7; obtain ⟨_, _⟩ := (⟨by decide, by decide⟩ : Rg 1 1 1); omega) (by obtain ⟨_, _⟩ := r7; obtain ⟨_, _⟩ := (⟨by decide, by decide⟩ : Rg 1 1 1); omega)
                have s51l : (1 : Int32).toInt = 1 := rfl
                refine lv_goto (tgt := 4) hx hb d_X6_bestBuyer_68 (by decide) ?_
                exact ih0 y2 x49 _ _ _ (by have := s51; obtain ⟨_, _⟩ := r29; obtain ⟨_, _⟩ := r50; omega) (rg_w r29 (by decide) (by decide)) (rg_w r50 (by decide) (by decide)) hw hS (lv_sub hl [2, 3, 4, 0] rfl)
              · have f52 := i_ne c46
                have r53 : Rg x44 1 1 := by obtain ⟨a1, a2⟩ := hp43; obtain ⟨b1, b2⟩ := (⟨by decide, by decide⟩ : Rg 0 0 0); have f := i_ne c46; exact ⟨by omega, by omega⟩
                refine lv_iload_n hx hb d_X6_bestBuyer_63 rfl (lv_at hl 4 rfl) ?_
                refine lv_istore_n (lv' := [(2, .int y3), (4, .int 1), (0, .ref (ad 1)), (1, .ref (ad k)), (3, .int y3)]) hx hb d_X6_bestBuyer_64 rfl hl (by decide) rfl (fun ls hl => ?_)
                obtain ⟨x54, ex54⟩ : ∃ y : Int32, y = y3 + 1 := ⟨_, rfl⟩
                refine lv_iinc (v := x54) (lv' := [(3, .int x54), (2, .int y3), (4, .int 1), (0, .ref (ad 1)), (1, .ref (ad k))]) hx hb d_X6_bestBuyer_65 hl (k := 4) rfl (by rw [ex54]; rfl) (by decide) rfl (fun ls hl => ?_)
                have r55 : Rg x54 1 10 := rg_add ex54 r7 (⟨by decide, by decide⟩ : Rg 1 1 1) (by decide) (by decide)
                have s56 : x54.toInt = y3.toInt + (1 : Int32).toInt := by rw [ex54]; exact i_add (by obtain ⟨_, _⟩ := r7; obtain ⟨_, _⟩ := (⟨by decide, by decide⟩ : Rg 1 1 1); omega) (by obtain ⟨_, _⟩ := r7; obtain ⟨_, _⟩ := (⟨by decide, by decide⟩ : Rg 1 1 1); omega)
                have s56l : (1 : Int32).toInt = 1 := rfl
                refine lv_goto (tgt := 4) hx hb d_X6_bestBuyer_68 (by decide) ?_
                exact ih0 y3 x54 _ _ _ (by have := s56; obtain ⟨_, _⟩ := r7; obtain ⟨_, _⟩ := r55; omega) (rg_w r7 (by decide) (by decide)) (rg_w r55 (by decide) (by decide)) hw hS (lv_sub hl [3, 4, 1, 0] rfl)
  have ih0 := LL 100000
  refine lv_iconst (v := -1) hx hb d_X6_bestBuyer_0 (by decide) ?_
  refine lv_istore_n (lv' := [(2, .int (-1)), (0, .ref (ad 1)), (1, .ref (ad k))]) hx hb d_X6_bestBuyer_1 rfl hl (by decide) rfl (fun ls hl => ?_)
  refine lv_iconst (v := 0) hx hb d_X6_bestBuyer_2 (by decide) ?_
  refine lv_istore_n (lv' := [(3, .int 0), (2, .int (-1)), (0, .ref (ad 1)), (1, .ref (ad k))]) hx hb d_X6_bestBuyer_3 rfl hl (by decide) rfl (fun ls hl => ?_)
  exact ih0 (-1) 0 _ _ _ (by obtain ⟨_, _⟩ := (⟨by decide, by decide⟩ : Rg (-1) (-1) (-1)); obtain ⟨_, _⟩ := (⟨by decide, by decide⟩ : Rg 0 0 0); omega) (rg_w (⟨by decide, by decide⟩ : Rg (-1) (-1) (-1)) (by decide) (by decide)) (rg_w (⟨by decide, by decide⟩ : Rg 0 0 0) (by decide) (by decide)) hw hS (lv_sub hl [2, 3, 1, 0] rfl)
set_option maxHeartbeats 4000000 in
set_option maxRecDepth 100000 in
theorem ct_X6_sail_3 (l : Launch) (D : va_G) (dA : Nat → ClassId) (ad : Nat → Nat) (v : tV) (hI : Inv v) (wind : Int32) : Met l m_X6_sail [.code m_X6_sail c_X6_sail 3 none] ({ frames := 2, cells := 0, slots := 0, locals := 62 } : Room) (tP D dA ad v [.ref (ad 3), .int wind]) (tQv D dA ad (fun v' => Inv v' ∧ Kp v v')) 0 0 (tA ad) := by
  refine tMet (by decide) (Nat.le_of_ble_eq_true rfl) ?_
  intro p e s m below meth c ls X hr hlocks hw hl
  have X : CX p s m ([.ref (ad 3), .int wind] : List Value).toArray c c_X6_sail N_X6 3 D dA := X
  have hx := X.1
  have hb := X.2.1
  have hS : va_S (tA ad) s.heap s.heap [] := va_S.rf
  have hl : lv_has ls 3 [(0, .ref (ad 3)), (1, .int wind)] := hl
  have LL : ∀ n : Nat, (∀ (y2 : Int32) (v1 : tV) (H : Heap) (locs : List Loc) (ls : Array Slot), (20 - y2.toInt).toNat < n → Rg y2 0 20 → Inv v1 → Kp v v1 → tI D dA ad v1 H → va_S (tA ad) s.heap H locs → lv_has ls 3 [(0, .ref (ad 3)), (1, .int wind), (2, .int y2)] → W p l e ({ frames := 2, cells := 0, slots := 0, locals := 62 } : Room) s m ([.ref (ad 3), .int wind] : List Value).toArray below meth c H locs 0 0 (MQ below (tQv D dA ad (fun v' => Inv v' ∧ Kp v v')) ([.ref (ad 3), .int wind] : List Value).toArray s 0 0 (tA ad)) (F0 m 2 ls [])) := by
    intro n
    induction n with
    | zero => intros; omega
    | succ n ih =>
      have ih0 := ih
      intro y2 v1 H locs ls hmu r_y2 hI1 hK1 hw hS hl
      refine lv_iload_n hx hb d_X6_sail_2 rfl (lv_at hl 2 rfl) ?_
      refine lv_aload_n hx hb d_X6_sail_3 rfl (lv_at hl 0 rfl) ?_
      refine r_geti X hw FL_X6_29 (rfl : KD 3 = _) rfl d_X6_sail_4 ?_
      refine lv_topi (fun x1 ex1 => ?_)
      have r2 : Rg x1 0 20 := by rw [ex1]; exact hI1 _ _ _ _ rfl
      have hm3 : v1 3 3 = x1 := ex1.symm
      refine lv_icmp_ge (tgt := 30) hx hb d_X6_sail_7 (by decide) (fun c4 => ?_) (fun c4 => ?_)
      · have f5 := i_le c4
        exact r_vret X hr hlocks hw hS ⟨hI1, hK1⟩ d_X6_sail_30
      · have f6 := i_nle c4
        have r7 : Rg y2 0 19 := by obtain ⟨a1, a2⟩ := r_y2; obtain ⟨b1, b2⟩ := r2; have f := i_nle c4; exact ⟨by omega, by omega⟩
        have r8 : Rg x1 1 20 := by obtain ⟨a1, a2⟩ := r_y2; obtain ⟨b1, b2⟩ := r2; have f := i_nle c4; exact ⟨by omega, by omega⟩
        refine lv_aload_n hx hb d_X6_sail_10 rfl (lv_at hl 0 rfl) ?_
        refine r_getr (r := 12) X hw FL_X6_11 (rfl : KD 3 = _) rfl d_X6_sail_11 ?_
        refine lv_iload_n hx hb d_X6_sail_14 rfl (lv_at hl 2 rfl) ?_
        refine r_aald X hw (rfl : KD 12 = _) (Or.inl rfl) (Rg.vp (b := 19) r7 (by decide)) rfl d_X6_sail_15 ?_
        refine r_nm (fun kc9 ekc9 => ?_)
        have kc9a : 140 ≤ kc9 := by omega
        have kc9b : kc9 ≤ 159 := by have := Rg.nat r7; omega
        refine lv_iload_n hx hb d_X6_sail_16 rfl (lv_at hl 1 rfl) ?_
        refine lv_aload_n hx hb d_X6_sail_17 rfl (lv_at hl 0 rfl) ?_
        refine r_geti X hw FL_X6_36 (rfl : KD 3 = _) rfl d_X6_sail_18 ?_
        refine lv_topi (fun x10 ex10 => ?_)
        refine r_cv (r_runV (n := 2) (As := [.int wind, .int x10]) (rest := []) X hw (ct_X7_sail l D dA ad v1 hI1 kc9 wind x10 (by omega) (by omega)) gc_X6_59 (KD_ship (by omega) (by omega)) (by decide) rfl (by decide +kernel) ⟨rfl, rfl, Nat.le_of_ble_eq_true rfl, Nat.le_of_ble_eq_true rfl⟩ rfl hl.1 rfl (Nat.le_of_ble_eq_true rfl) ⟨Nat.zero_le _, Nat.zero_le _⟩ d_X6_sail_21) hS (fun v12 H locs hp11 hw hS => ?_)
        obtain ⟨hI13, hK14⟩ := hp11
        have hK15 : Kp v v12 := Kp.tr hK1 hK14
        obtain ⟨x16, ex16⟩ : ∃ y : Int32, y = y2 + 1 := ⟨_, rfl⟩
        refine lv_iinc (v := x16) (lv' := [(2, .int x16), (0, .ref (ad 3)), (1, .int wind)]) hx hb d_X6_sail_24 hl (k := 2) rfl (by rw [ex16]; rfl) (by decide) rfl (fun ls hl => ?_)
        have r17 : Rg x16 1 20 := rg_add ex16 r7 (⟨by decide, by decide⟩ : Rg 1 1 1) (by decide) (by decide)
        have s18 : x16.toInt = y2.toInt + (1 : Int32).toInt := by rw [ex16]; exact i_add (by obtain ⟨_, _⟩ := r7; obtain ⟨_, _⟩ := (⟨by decide, by decide⟩ : Rg 1 1 1); omega) (by obtain ⟨_, _⟩ := r7; obtain ⟨_, _⟩ := (⟨by decide, by decide⟩ : Rg 1 1 1); omega)
        have s18l : (1 : Int32).toInt = 1 := rfl
        refine lv_goto (tgt := 2) hx hb d_X6_sail_27 (by decide) ?_
        exact ih0 x16 v12 _ _ _ (by have := s18; obtain ⟨_, _⟩ := r17; omega) (rg_w r17 (by decide) (by decide)) hI13 hK15 hw hS (lv_sub hl [1, 2, 0] rfl)
  have ih0 := LL 100000
  have hK0 : Kp v v := Kp.rf v
  refine lv_iconst (v := 0) hx hb d_X6_sail_0 (by decide) ?_
  refine lv_istore_n (lv' := [(2, .int 0), (0, .ref (ad 3)), (1, .int wind)]) hx hb d_X6_sail_1 rfl hl (by decide) rfl (fun ls hl => ?_)
  exact ih0 0 v _ _ _ (by obtain ⟨_, _⟩ := (⟨by decide, by decide⟩ : Rg 0 0 0); omega) (rg_w (⟨by decide, by decide⟩ : Rg 0 0 0) (by decide) (by decide)) hI hK0 hw hS (lv_sub hl [1, 2, 0] rfl)
set_option maxHeartbeats 4000000 in
set_option maxRecDepth 100000 in
theorem ct_X6_bestBuyer_3 (l : Launch) (D : va_G) (dA : Nat → ClassId) (ad : Nat → Nat) (v : tV) (hI : Inv v) (k : Nat) (ka : 100 ≤ k) (kb : k < 160) : Met l m_X6_bestBuyer [.code m_X6_bestBuyer c_X6_bestBuyer 5 (some .int)] ({ frames := 2, cells := 0, slots := 0, locals := 61 } : Room) (tP D dA ad v [.ref (ad 3), .ref (ad k)]) (tQi D dA ad (fun r v' => v' = v ∧ Rg r (-1) 9)) 0 0 (tA ad) := by
  refine tMet (by decide) (Nat.le_of_ble_eq_true rfl) ?_
  intro p e s m below meth c ls X hr hlocks hw hl
  have X : CX p s m ([.ref (ad 3), .ref (ad k)] : List Value).toArray c c_X6_bestBuyer N_X6 5 D dA := X
  have hx := X.1
  have hb := X.2.1
  have hS : va_S (tA ad) s.heap s.heap [] := va_S.rf
  have hl : lv_has ls 5 [(0, .ref (ad 3)), (1, .ref (ad k))] := hl
  have LL : ∀ n : Nat, (∀ (y2 : Int32) (y3 : Int32)  (H : Heap) (locs : List Loc) (ls : Array Slot), (10 - y3.toInt).toNat < n → Rg y2 (-1) 9 → Rg y3 0 10 → tI D dA ad v H → va_S (tA ad) s.heap H locs → lv_has ls 5 [(0, .ref (ad 3)), (1, .ref (ad k)), (2, .int y2), (3, .int y3)] → W p l e ({ frames := 2, cells := 0, slots := 0, locals := 61 } : Room) s m ([.ref (ad 3), .ref (ad k)] : List Value).toArray below meth c H locs 0 0 (MQ below (tQi D dA ad (fun r v' => v' = v ∧ Rg r (-1) 9)) ([.ref (ad 3), .ref (ad k)] : List Value).toArray s 0 0 (tA ad)) (F0 m 4 ls [])) := by
    intro n
    induction n with
    | zero => intros; omega
    | succ n ih =>
      have ih0 := ih
      intro y2 y3 H locs ls hmu r_y2 r_y3 hw hS hl
      refine lv_iload_n hx hb d_X6_bestBuyer_4 rfl (lv_at hl 3 rfl) ?_
      refine lv_aload_n hx hb d_X6_bestBuyer_5 rfl (lv_at hl 0 rfl) ?_
      refine r_geti X hw FL_X6_33 (rfl : KD 3 = _) rfl d_X6_bestBuyer_6 ?_
      refine lv_topi (fun x1 ex1 => ?_)
      have r2 : Rg x1 0 10 := by rw [ex1]; exact hI _ _ _ _ rfl
      have hm3 : v 3 4 = x1 := ex1.symm
      refine lv_icmp_ge (tgt := 71) hx hb d_X6_bestBuyer_9 (by decide) (fun c4 => ?_) (fun c4 => ?_)
      · have f5 := i_le c4
        refine lv_iload_n hx hb d_X6_bestBuyer_71 rfl (lv_at hl 2 rfl) ?_
        exact r_iret X hr hlocks hw hS ⟨rfl, r_y2⟩ d_X6_bestBuyer_72
      · have f6 := i_nle c4
        have r7 : Rg y3 0 9 := by obtain ⟨a1, a2⟩ := r_y3; obtain ⟨b1, b2⟩ := r2; have f := i_nle c4; exact ⟨by omega, by omega⟩
        have r8 : Rg x1 1 10 := by obtain ⟨a1, a2⟩ := r_y3; obtain ⟨b1, b2⟩ := r2; have f := i_nle c4; exact ⟨by omega, by omega⟩
        refine lv_iload_n hx hb d_X6_bestBuyer_12 rfl (lv_at hl 2 rfl) ?_
        refine lv_iconst (v := -1) hx hb d_X6_bestBuyer_13 (by decide) ?_
        refine lv_icmp_eq (tgt := 38) hx hb d_X6_bestBuyer_14 (by decide) (fun c9 => ?_) (fun c9 => ?_)
        · have f10 := i_eq c9
          have r11 : Rg y2 (-1) (-1) := by obtain ⟨a1, a2⟩ := r_y2; obtain ⟨b1, b2⟩ := (⟨by decide, by decide⟩ : Rg (-1) (-1) (-1)); have f := i_eq c9; exact ⟨by omega, by omega⟩
          refine lv_iconst (v := 1) hx hb d_X6_bestBuyer_38 (by decide) ?_
          refine lv_goto (tgt := 43) hx hb d_X6_bestBuyer_39 (by decide) ?_
          refine lv_istore (lv' := [(4, .int 1), (0, .ref (ad 3)), (1, .ref (ad k)), (2, .int y2), (3, .int y3)]) hx hb d_X6_bestBuyer_43 hl (by decide) rfl (fun ls hl => ?_)
          refine lv_iload hx hb d_X6_bestBuyer_45 (lv_at hl 0 rfl) ?_
          refine lv_if_eq (tgt := 65) hx hb d_X6_bestBuyer_47 (by decide) (fun c12 => ?_) (fun c12 => ?_)
          · exact absurd c12 (by decide)
          · refine lv_aload_n hx hb d_X6_bestBuyer_50 rfl (lv_at hl 1 rfl) ?_
            refine r_getr (r := 15) X hw FL_X6_19 (rfl : KD 3 = _) rfl d_X6_bestBuyer_51 ?_
            refine lv_iload_n hx hb d_X6_bestBuyer_54 rfl (lv_at hl 4 rfl) ?_
            refine r_aald X hw (rfl : KD 15 = _) (Or.inr (Or.inl rfl)) (Rg.vp (b := 9) r7 (by decide)) rfl d_X6_bestBuyer_55 ?_
            refine r_nm (fun kc13 ekc13 => ?_)
            have kc13a : 220 ≤ kc13 := by omega
            have kc13b : kc13 ≤ 229 := by have := Rg.nat r7; omega
            refine lv_aload_n hx hb d_X6_bestBuyer_56 rfl (lv_at hl 2 rfl) ?_
            refine r_ci (r_runV (n := 1) (As := [.ref (ad k)]) (rest := []) X hw (ct_X0_takes l D dA ad v hI kc13 k (by omega) (by omega) (by omega) (by omega)) gc_X6_100 (KD_buyer (by omega) (by omega)) (by decide) rfl (by decide +kernel) ⟨rfl, rfl, Nat.le_of_ble_eq_true rfl, Nat.le_of_ble_eq_true rfl⟩ rfl hl.1 rfl (Nat.le_of_ble_eq_true rfl) ⟨Nat.zero_le _, Nat.zero_le _⟩ d_X6_bestBuyer_57) hS (fun x15 v16 H locs hp14 hw hS => ?_)
            obtain ⟨ev16, hp14⟩ := hp14
            rw [ev16] at hw
            refine lv_if_eq (tgt := 65) hx hb d_X6_bestBuyer_60 (by decide) (fun c17 => ?_) (fun c17 => ?_)
            · have f18 := i_eq c17
              have r19 : Rg x15 0 0 := by obtain ⟨a1, a2⟩ := hp14; obtain ⟨b1, b2⟩ := (⟨by decide, by decide⟩ : Rg 0 0 0); have f := i_eq c17; exact ⟨by omega, by omega⟩
              obtain ⟨x20, ex20⟩ : ∃ y : Int32, y = y3 + 1 := ⟨_, rfl⟩
              refine lv_iinc (v := x20) (lv' := [(3, .int x20), (4, .int 1), (0, .ref (ad 3)), (1, .ref (ad k)), (2, .int y2)]) hx hb d_X6_bestBuyer_65 hl (k := 4) rfl (by rw [ex20]; rfl) (by decide) rfl (fun ls hl => ?_)
              have r21 : Rg x20 1 10 := rg_add ex20 r7 (⟨by decide, by decide⟩ : Rg 1 1 1) (by decide) (by decide)
              have s22 : x20.toInt = y3.toInt + (1 : Int32).toInt := by rw [ex20]; exact i_add (by obtain ⟨_, _⟩ := r7; obtain ⟨_, _⟩ := (⟨by decide, by decide⟩ : Rg 1 1 1); omega) (by obtain ⟨_, _⟩ := r7; obtain ⟨_, _⟩ := (⟨by decide, by decide⟩ : Rg 1 1 1); omega)
              have s22l : (1 : Int32).toInt = 1 := rfl
              refine lv_goto (tgt := 4) hx hb d_X6_bestBuyer_68 (by decide) ?_
              exact ih0 y2 x20 _ _ _ (by have := s22; obtain ⟨_, _⟩ := r11; obtain ⟨_, _⟩ := r21; omega) (rg_w r11 (by decide) (by decide)) (rg_w r21 (by decide) (by decide)) hw hS (lv_sub hl [2, 3, 4, 0] rfl)
            · have f23 := i_ne c17
              have r24 : Rg x15 1 1 := by obtain ⟨a1, a2⟩ := hp14; obtain ⟨b1, b2⟩ := (⟨by decide, by decide⟩ : Rg 0 0 0); have f := i_ne c17; exact ⟨by omega, by omega⟩
              refine lv_iload_n hx hb d_X6_bestBuyer_63 rfl (lv_at hl 4 rfl) ?_
              refine lv_istore_n (lv' := [(2, .int y3), (4, .int 1), (0, .ref (ad 3)), (1, .ref (ad k)), (3, .int y3)]) hx hb d_X6_bestBuyer_64 rfl hl (by decide) rfl (fun ls hl => ?_)
              obtain ⟨x25, ex25⟩ : ∃ y : Int32, y = y3 + 1 := ⟨_, rfl⟩
              refine lv_iinc (v := x25) (lv' := [(3, .int x25), (2, .int y3), (4, .int 1), (0, .ref (ad 3)), (1, .ref (ad k))]) hx hb d_X6_bestBuyer_65 hl (k := 4) rfl (by rw [ex25]; rfl) (by decide) rfl (fun ls hl => ?_)
              have r26 : Rg x25 1 10 := rg_add ex25 r7 (⟨by decide, by decide⟩ : Rg 1 1 1) (by decide) (by decide)
              have s27 : x25.toInt = y3.toInt + (1 : Int32).toInt := by rw [ex25]; exact i_add (by obtain ⟨_, _⟩ := r7; obtain ⟨_, _⟩ := (⟨by decide, by decide⟩ : Rg 1 1 1); omega) (by obtain ⟨_, _⟩ := r7; obtain ⟨_, _⟩ := (⟨by decide, by decide⟩ : Rg 1 1 1); omega)
              have s27l : (1 : Int32).toInt = 1 := rfl
              refine lv_goto (tgt := 4) hx hb d_X6_bestBuyer_68 (by decide) ?_
              exact ih0 y3 x25 _ _ _ (by have := s27; obtain ⟨_, _⟩ := r7; obtain ⟨_, _⟩ := r26; omega) (rg_w r7 (by decide) (by decide)) (rg_w r26 (by decide) (by decide)) hw hS (lv_sub hl [3, 4, 1, 0] rfl)
        · have f28 := i_ne c9
          have r29 : Rg y2 0 9 := by obtain ⟨a1, a2⟩ := r_y2; obtain ⟨b1, b2⟩ := (⟨by decide, by decide⟩ : Rg (-1) (-1) (-1)); have f := i_ne c9; exact ⟨by omega, by omega⟩
          refine lv_aload_n hx hb d_X6_bestBuyer_17 rfl (lv_at hl 0 rfl) ?_
          refine r_getr (r := 15) X hw FL_X6_19 (rfl : KD 3 = _) rfl d_X6_bestBuyer_18 ?_
          refine lv_iload_n hx hb d_X6_bestBuyer_21 rfl (lv_at hl 3 rfl) ?_
          refine r_aald X hw (rfl : KD 15 = _) (Or.inr (Or.inl rfl)) (Rg.vp (b := 9) r7 (by decide)) rfl d_X6_bestBuyer_22 ?_
          refine r_nm (fun kc30 ekc30 => ?_)
          have kc30a : 220 ≤ kc30 := by omega
          have kc30b : kc30 ≤ 229 := by have := Rg.nat r7; omega
          refine r_geti X hw FL_X6_97 (KD_buyer (by omega) (by omega)) (SH_buyer (by omega) (by omega)) d_X6_bestBuyer_23 ?_
          refine lv_topi (fun x31 ex31 => ?_)
          refine lv_aload_n hx hb d_X6_bestBuyer_26 rfl (lv_at hl 0 rfl) ?_
          refine r_getr (r := 15) X hw FL_X6_19 (rfl : KD 3 = _) rfl d_X6_bestBuyer_27 ?_
          refine lv_iload_n hx hb d_X6_bestBuyer_30 rfl (lv_at hl 2 rfl) ?_
          refine r_aald X hw (rfl : KD 15 = _) (Or.inr (Or.inl rfl)) (Rg.vp (b := 9) r29 (by decide)) rfl d_X6_bestBuyer_31 ?_
          refine r_nm (fun kc32 ekc32 => ?_)
          have kc32a : 220 ≤ kc32 := by omega
          have kc32b : kc32 ≤ 229 := by have := Rg.nat r29; omega
          refine r_geti X hw FL_X6_97 (KD_buyer (by omega) (by omega)) (SH_buyer (by omega) (by omega)) d_X6_bestBuyer_32 ?_
          refine lv_topi (fun x33 ex33 => ?_)
          refine lv_icmp_le (tgt := 42) hx hb d_X6_bestBuyer_35 (by decide) (fun c34 => ?_) (fun c34 => ?_)
          · have f35 := i_le c34
            refine lv_iconst (v := 0) hx hb d_X6_bestBuyer_42 (by decide) ?_
            refine lv_istore (lv' := [(4, .int 0), (0, .ref (ad 3)), (1, .ref (ad k)), (2, .int y2), (3, .int y3)]) hx hb d_X6_bestBuyer_43 hl (by decide) rfl (fun ls hl => ?_)
            refine lv_iload hx hb d_X6_bestBuyer_45 (lv_at hl 0 rfl) ?_
            refine lv_if_eq (tgt := 65) hx hb d_X6_bestBuyer_47 (by decide) (fun c36 => ?_) (fun c36 => ?_)
            · obtain ⟨x37, ex37⟩ : ∃ y : Int32, y = y3 + 1 := ⟨_, rfl⟩
              refine lv_iinc (v := x37) (lv' := [(3, .int x37), (4, .int 0), (0, .ref (ad 3)), (1, .ref (ad k)), (2, .int y2)]) hx hb d_X6_bestBuyer_65 hl (k := 4) rfl (by rw [ex37]; rfl) (by decide) rfl (fun ls hl => ?_)
              have r38 : Rg x37 1 10 := rg_add ex37 r7 (⟨by decide, by decide⟩ : Rg 1 1 1) (by decide) (by decide)
              have s39 : x37.toInt = y3.toInt + (1 : Int32).toInt := by rw [ex37]; exact i_add (by obtain ⟨_, _⟩ := r7; obtain ⟨_, _⟩ := (⟨by decide, by decide⟩ : Rg 1 1 1); omega) (by obtain ⟨_, _⟩ := r7; obtain ⟨_, _⟩ := (⟨by decide, by decide⟩ : Rg 1 1 1); omega)
              have s39l : (1 : Int32).toInt = 1 := rfl
              refine lv_goto (tgt := 4) hx hb d_X6_bestBuyer_68 (by decide) ?_
              exact ih0 y2 x37 _ _ _ (by have := s39; obtain ⟨_, _⟩ := r29; obtain ⟨_, _⟩ := r38; omega) (rg_w r29 (by decide) (by decide)) (rg_w r38 (by decide) (by decide)) hw hS (lv_sub hl [2, 3, 4, 0] rfl)
            · exact absurd c36 (by decide)
          · have f40 := i_nle c34
            refine lv_iconst (v := 1) hx hb d_X6_bestBuyer_38 (by decide) ?_
            refine lv_goto (tgt := 43) hx hb d_X6_bestBuyer_39 (by decide) ?_
            refine lv_istore (lv' := [(4, .int 1), (0, .ref (ad 3)), (1, .ref (ad k)), (2, .int y2), (3, .int y3)]) hx hb d_X6_bestBuyer_43 hl (by decide) rfl (fun ls hl => ?_)
            refine lv_iload hx hb d_X6_bestBuyer_45 (lv_at hl 0 rfl) ?_
            refine lv_if_eq (tgt := 65) hx hb d_X6_bestBuyer_47 (by decide) (fun c41 => ?_) (fun c41 => ?_)
            · exact absurd c41 (by decide)
            · refine lv_aload_n hx hb d_X6_bestBuyer_50 rfl (lv_at hl 1 rfl) ?_
              refine r_getr (r := 15) X hw FL_X6_19 (rfl : KD 3 = _) rfl d_X6_bestBuyer_51 ?_
              refine lv_iload_n hx hb d_X6_bestBuyer_54 rfl (lv_at hl 4 rfl) ?_
              refine r_aald X hw (rfl : KD 15 = _) (Or.inr (Or.inl rfl)) (Rg.vp (b := 9) r7 (by decide)) rfl d_X6_bestBuyer_55 ?_
              refine r_nm (fun kc42 ekc42 => ?_)
              have kc42a : 220 ≤ kc42 := by omega
              have kc42b : kc42 ≤ 229 := by have := Rg.nat r7; omega
              refine lv_aload_n hx hb d_X6_bestBuyer_56 rfl (lv_at hl 2 rfl) ?_
              refine r_ci (r_runV (n := 1) (As := [.ref (ad k)]) (rest := []) X hw (ct_X0_takes l D dA ad v hI kc42 k (by omega) (by omega) (by omega) (by omega)) gc_X6_100 (KD_buyer (by omega) (by omega)) (by decide) rfl (by decide +kernel) ⟨rfl, rfl, Nat.le_of_ble_eq_true rfl, Nat.le_of_ble_eq_true rfl⟩ rfl hl.1 rfl (Nat.le_of_ble_eq_true rfl) ⟨Nat.zero_le _, Nat.zero_le _⟩ d_X6_bestBuyer_57) hS (fun x44 v45 H locs hp43 hw hS => ?_)
              obtain ⟨ev45, hp43⟩ := hp43
              rw [ev45] at hw
              refine lv_if_eq (tgt := 65) hx hb d_X6_bestBuyer_60 (by decide) (fun c46 => ?_) (fun c46 => ?_)
              · have f47 := i_eq c46
                have r48 : Rg x44 0 0 := by obtain ⟨a1, a2⟩ := hp43; obtain ⟨b1, b2⟩ := (⟨by decide, by decide⟩ : Rg 0 0 0); have f := i_eq c46; exact ⟨by omega, by omega⟩
                obtain ⟨x49, ex49⟩ : ∃ y : Int32, y = y3 + 1 := ⟨_, rfl⟩
                refine lv_iinc (v := x49) (lv' := [(3, .int x49), (4, .int 1), (0, .ref (ad 3)), (1, .ref (ad k)), (2, .int y2)]) hx hb d_X6_bestBuyer_65 hl (k := 4) rfl (by rw [ex49]; rfl) (by decide) rfl (fun ls hl => ?_)
                have r50 : Rg x49 1 10 := rg_add ex49 r7 (⟨by decide, by decide⟩ : Rg 1 1 1) (by decide) (by decide)
                have s51 : x49.toInt = y3.toInt + (1 : Int32).toInt := by rw [ex49]; exact i_add (by obtain ⟨_, _⟩ := r7; obtain ⟨_, _⟩ := (⟨by decide, by decide⟩ : Rg 1 1 1); omega) (by obtain ⟨_, _⟩ := r7; obtain ⟨_, _⟩ := (⟨by decide, by decide⟩ : Rg 1 1 1); omega)
                have s51l : (1 : Int32).toInt = 1 := rfl
                refine lv_goto (tgt := 4) hx hb d_X6_bestBuyer_68 (by decide) ?_
                exact ih0 y2 x49 _ _ _ (by have := s51; obtain ⟨_, _⟩ := r29; obtain ⟨_, _⟩ := r50; omega) (rg_w r29 (by decide) (by decide)) (rg_w r50 (by decide) (by decide)) hw hS (lv_sub hl [2, 3, 4, 0] rfl)
              · have f52 := i_ne c46
                have r53 : Rg x44 1 1 := by obtain ⟨a1, a2⟩ := hp43; obtain ⟨b1, b2⟩ := (⟨by decide, by decide⟩ : Rg 0 0 0); have f := i_ne c46; exact ⟨by omega, by omega⟩
                refine lv_iload_n hx hb d_X6_bestBuyer_63 rfl (lv_at hl 4 rfl) ?_
                refine lv_istore_n (lv' := [(2, .int y3), (4, .int 1), (0, .ref (ad 3)), (1, .ref (ad k)), (3, .int y3)]) hx hb d_X6_bestBuyer_64 rfl hl (by decide) rfl (fun ls hl => ?_)
                obtain ⟨x54, ex54⟩ : ∃ y : Int32, y = y3 + 1 := ⟨_, rfl⟩
                refine lv_iinc (v := x54) (lv' := [(3, .int x54), (2, .int y3), (4, .int 1), (0, .ref (ad 3)), (1, .ref (ad k))]) hx hb d_X6_bestBuyer_65 hl (k := 4) rfl (by rw [ex54]; rfl) (by decide) rfl (fun ls hl => ?_)
                have r55 : Rg x54 1 10 := rg_add ex54 r7 (⟨by decide, by decide⟩ : Rg 1 1 1) (by decide) (by decide)
                have s56 : x54.toInt = y3.toInt + (1 : Int32).toInt := by rw [ex54]; exact i_add (by obtain ⟨_, _⟩ := r7; obtain ⟨_, _⟩ := (⟨by decide, by decide⟩ : Rg 1 1 1); omega) (by obtain ⟨_, _⟩ := r7; obtain ⟨_, _⟩ := (⟨by decide, by decide⟩ : Rg 1 1 1); omega)
                have s56l : (1 : Int32).toInt = 1 := rfl
                refine lv_goto (tgt := 4) hx hb d_X6_bestBuyer_68 (by decide) ?_
                exact ih0 y3 x54 _ _ _ (by have := s56; obtain ⟨_, _⟩ := r7; obtain ⟨_, _⟩ := r55; omega) (rg_w r7 (by decide) (by decide)) (rg_w r55 (by decide) (by decide)) hw hS (lv_sub hl [3, 4, 1, 0] rfl)
  have ih0 := LL 100000
  refine lv_iconst (v := -1) hx hb d_X6_bestBuyer_0 (by decide) ?_
  refine lv_istore_n (lv' := [(2, .int (-1)), (0, .ref (ad 3)), (1, .ref (ad k))]) hx hb d_X6_bestBuyer_1 rfl hl (by decide) rfl (fun ls hl => ?_)
  refine lv_iconst (v := 0) hx hb d_X6_bestBuyer_2 (by decide) ?_
  refine lv_istore_n (lv' := [(3, .int 0), (2, .int (-1)), (0, .ref (ad 3)), (1, .ref (ad k))]) hx hb d_X6_bestBuyer_3 rfl hl (by decide) rfl (fun ls hl => ?_)
  exact ih0 (-1) 0 _ _ _ (by obtain ⟨_, _⟩ := (⟨by decide, by decide⟩ : Rg (-1) (-1) (-1)); obtain ⟨_, _⟩ := (⟨by decide, by decide⟩ : Rg 0 0 0); omega) (rg_w (⟨by decide, by decide⟩ : Rg (-1) (-1) (-1)) (by decide) (by decide)) (rg_w (⟨by decide, by decide⟩ : Rg 0 0 0) (by decide) (by decide)) hw hS (lv_sub hl [2, 3, 1, 0] rfl)
theorem d_X6_strike_0 : decode c_X6_strike 0 = .ok (.aload_n 0, 1) := by decide +kernel
theorem d_X6_strike_1 : decode c_X6_strike 1 = .ok (.getfield 11, 3) := by decide +kernel
theorem d_X6_strike_4 : decode c_X6_strike 4 = .ok (.iload_n 1, 1) := by decide +kernel
theorem d_X6_strike_5 : decode c_X6_strike 5 = .ok (.aaload, 1) := by decide +kernel
theorem d_X6_strike_6 : decode c_X6_strike 6 = .ok (.astore 4, 2) := by decide +kernel
theorem d_X6_strike_8 : decode c_X6_strike 8 = .ok (.aload_n 0, 1) := by decide +kernel
theorem d_X6_strike_9 : decode c_X6_strike 9 = .ok (.getfield 19, 3) := by decide +kernel
theorem d_X6_strike_12 : decode c_X6_strike 12 = .ok (.iload_n 2, 1) := by decide +kernel
theorem d_X6_strike_13 : decode c_X6_strike 13 = .ok (.aaload, 1) := by decide +kernel
theorem d_X6_strike_14 : decode c_X6_strike 14 = .ok (.astore 5, 2) := by decide +kernel
theorem d_X6_strike_16 : decode c_X6_strike 16 = .ok (.aload 4, 2) := by decide +kernel
theorem d_X6_strike_18 : decode c_X6_strike 18 = .ok (.getfield 86, 3) := by decide +kernel
theorem d_X6_strike_21 : decode c_X6_strike 21 = .ok (.aload 5, 2) := by decide +kernel
theorem d_X6_strike_23 : decode c_X6_strike 23 = .ok (.getfield 104, 3) := by decide +kernel
theorem d_X6_strike_26 : decode c_X6_strike 26 = .ok (.invokestatic 107, 3) := by decide +kernel
theorem d_X6_strike_29 : decode c_X6_strike 29 = .ok (.istore 6, 2) := by decide +kernel
theorem d_X6_strike_31 : decode c_X6_strike 31 = .ok (.aload 4, 2) := by decide +kernel
theorem d_X6_strike_33 : decode c_X6_strike 33 = .ok (.getfield 113, 3) := by decide +kernel
theorem d_X6_strike_36 : decode c_X6_strike 36 = .ok (.aload 5, 2) := by decide +kernel
theorem d_X6_strike_38 : decode c_X6_strike 38 = .ok (.getfield 97, 3) := by decide +kernel
theorem d_X6_strike_41 : decode c_X6_strike 41 = .ok (.iadd, 1) := by decide +kernel
theorem d_X6_strike_42 : decode c_X6_strike 42 = .ok (.iconst 2, 1) := by decide +kernel
theorem d_X6_strike_43 : decode c_X6_strike 43 = .ok (.idiv, 1) := by decide +kernel
theorem d_X6_strike_44 : decode c_X6_strike 44 = .ok (.istore 7, 2) := by decide +kernel
theorem d_X6_strike_46 : decode c_X6_strike 46 = .ok (.aload 4, 2) := by decide +kernel
theorem d_X6_strike_48 : decode c_X6_strike 48 = .ok (.iload 6, 2) := by decide +kernel
theorem d_X6_strike_50 : decode c_X6_strike 50 = .ok (.iload 7, 2) := by decide +kernel
theorem d_X6_strike_52 : decode c_X6_strike 52 = .ok (.invokevirtual 116, 3) := by decide +kernel
theorem d_X6_strike_55 : decode c_X6_strike 55 = .ok (.aload 5, 2) := by decide +kernel
theorem d_X6_strike_57 : decode c_X6_strike 57 = .ok (.dup, 1) := by decide +kernel
theorem d_X6_strike_58 : decode c_X6_strike 58 = .ok (.getfield 104, 3) := by decide +kernel
theorem d_X6_strike_61 : decode c_X6_strike 61 = .ok (.iload 6, 2) := by decide +kernel
theorem d_X6_strike_63 : decode c_X6_strike 63 = .ok (.isub, 1) := by decide +kernel
theorem d_X6_strike_64 : decode c_X6_strike 64 = .ok (.putfield 104, 3) := by decide +kernel
theorem d_X6_strike_67 : decode c_X6_strike 67 = .ok (.aload_n 0, 1) := by decide +kernel
theorem d_X6_strike_68 : decode c_X6_strike 68 = .ok (.getfield 25, 3) := by decide +kernel
theorem d_X6_strike_71 : decode c_X6_strike 71 = .ok (.aload 5, 2) := by decide +kernel
theorem d_X6_strike_73 : decode c_X6_strike 73 = .ok (.getfield 119, 3) := by decide +kernel
theorem d_X6_strike_76 : decode c_X6_strike 76 = .ok (.aaload, 1) := by decide +kernel
theorem d_X6_strike_77 : decode c_X6_strike 77 = .ok (.iload 6, 2) := by decide +kernel
theorem d_X6_strike_79 : decode c_X6_strike 79 = .ok (.invokevirtual 122, 3) := by decide +kernel
theorem d_X6_strike_82 : decode c_X6_strike 82 = .ok (.aload_n 3, 1) := by decide +kernel
theorem d_X6_strike_83 : decode c_X6_strike 83 = .ok (.iload_n 1, 1) := by decide +kernel
theorem d_X6_strike_84 : decode c_X6_strike 84 = .ok (.iload_n 2, 1) := by decide +kernel
theorem d_X6_strike_85 : decode c_X6_strike 85 = .ok (.iload 6, 2) := by decide +kernel
theorem d_X6_strike_87 : decode c_X6_strike 87 = .ok (.iload 7, 2) := by decide +kernel
theorem d_X6_strike_89 : decode c_X6_strike 89 = .ok (.invokevirtual 126, 3) := by decide +kernel
theorem d_X6_strike_92 : decode c_X6_strike 92 = .ok (.return_, 1) := by decide +kernel
set_option maxHeartbeats 4000000 in
set_option maxRecDepth 100000 in
theorem ct_X6_strike_1_30 (l : Launch) (D : va_G) (dA : Nat → ClassId) (ad : Nat → Nat) (v : tV) (hI : Inv v) (si : Int32) (bi : Int32) (r_si : Rg si 0 19) (r_bi : Rg bi 0 9) : Met l m_X6_strike [.code m_X6_strike c_X6_strike 8 none] ({ frames := 3, cells := 0, slots := 0, locals := 83 } : Room) (tP D dA ad v [.ref (ad 1), .int si, .int bi, .ref (ad 30)]) (tQv D dA ad (fun v' => Inv v' ∧ Kp v v')) 0 0 (tA ad) := by
  refine tMet (by decide) (Nat.le_of_ble_eq_true rfl) ?_
  intro p e s m below meth c ls X hr hlocks hw hl
  have X : CX p s m ([.ref (ad 1), .int si, .int bi, .ref (ad 30)] : List Value).toArray c c_X6_strike N_X6 8 D dA := X
  have hx := X.1
  have hb := X.2.1
  have hS : va_S (tA ad) s.heap s.heap [] := va_S.rf
  have hl : lv_has ls 8 [(0, .ref (ad 1)), (1, .int si), (2, .int bi), (3, .ref (ad 30))] := hl
  have hK0 : Kp v v := Kp.rf v
  refine lv_aload_n hx hb d_X6_strike_0 rfl (lv_at hl 0 rfl) ?_
  refine r_getr (r := 10) X hw FL_X6_11 (rfl : KD 1 = _) rfl d_X6_strike_1 ?_
  refine lv_iload_n hx hb d_X6_strike_4 rfl (lv_at hl 1 rfl) ?_
  refine r_aald X hw (rfl : KD 10 = _) (Or.inl rfl) (Rg.vp (b := 19) r_si (by decide)) rfl d_X6_strike_5 ?_
  refine r_nm (fun kc1 ekc1 => ?_)
  have kc1a : 100 ≤ kc1 := by omega
  have kc1b : kc1 ≤ 119 := by have := Rg.nat r_si; omega
  refine lv_astore (lv' := [(4, .ref (ad kc1)), (0, .ref (ad 1)), (1, .int si), (2, .int bi), (3, .ref (ad 30))]) hx hb d_X6_strike_6 hl (by decide) rfl (fun ls hl => ?_)
  refine lv_aload_n hx hb d_X6_strike_8 rfl (lv_at hl 1 rfl) ?_
  refine r_getr (r := 13) X hw FL_X6_19 (rfl : KD 1 = _) rfl d_X6_strike_9 ?_
  refine lv_iload_n hx hb d_X6_strike_12 rfl (lv_at hl 3 rfl) ?_
  refine r_aald X hw (rfl : KD 13 = _) (Or.inr (Or.inl rfl)) (Rg.vp (b := 9) r_bi (by decide)) rfl d_X6_strike_13 ?_
  refine r_nm (fun kc2 ekc2 => ?_)
  have kc2a : 200 ≤ kc2 := by omega
  have kc2b : kc2 ≤ 209 := by have := Rg.nat r_bi; omega
  refine lv_astore (lv' := [(5, .ref (ad kc2)), (4, .ref (ad kc1)), (0, .ref (ad 1)), (1, .int si), (2, .int bi), (3, .ref (ad 30))]) hx hb d_X6_strike_14 hl (by decide) rfl (fun ls hl => ?_)
  refine lv_aload hx hb d_X6_strike_16 (lv_at hl 1 rfl) ?_
  refine r_geti X hw FL_X6_86 (KD_ship (by omega) (by omega)) (SH_ship (by omega) (by omega)) d_X6_strike_18 ?_
  refine lv_topi (fun x3 ex3 => ?_)
  refine lv_aload hx hb d_X6_strike_21 (lv_at hl 0 rfl) ?_
  refine r_geti X hw FL_X6_104 (KD_buyer (by omega) (by omega)) (SH_buyer (by omega) (by omega)) d_X6_strike_23 ?_
  refine lv_topi (fun x4 ex4 => ?_)
  refine va_mmin hx hb (X.2.2.1.trans hl.1.symm) X.2.2.2.1 (X.2.2.2.2.1 _ ml_X6_107) (X.2.2.2.2.1 _ ml_mins) (X.2.2.2.2.1 _ ml_mi) (X.2.2.2.2.1 _ ml_minc) (Nat.le_of_ble_eq_true rfl) (Nat.le_of_ble_eq_true rfl) (Nat.zero_le _) (Nat.zero_le _) d_X6_strike_26 ?_
  refine lv_topi (fun x5 ex5 => ?_)
  refine lv_istore (lv' := [(6, .int x5), (5, .ref (ad kc2)), (4, .ref (ad kc1)), (0, .ref (ad 1)), (1, .int si), (2, .int bi), (3, .ref (ad 30))]) hx hb d_X6_strike_29 hl (by decide) rfl (fun ls hl => ?_)
  refine lv_aload hx hb d_X6_strike_31 (lv_at hl 2 rfl) ?_
  refine r_geti X hw FL_X6_113 (KD_ship (by omega) (by omega)) (SH_ship (by omega) (by omega)) d_X6_strike_33 ?_
  refine lv_topi (fun x6 ex6 => ?_)
  refine lv_aload hx hb d_X6_strike_36 (lv_at hl 1 rfl) ?_
  refine r_geti X hw FL_X6_97 (KD_buyer (by omega) (by omega)) (SH_buyer (by omega) (by omega)) d_X6_strike_38 ?_
  refine lv_topi (fun x7 ex7 => ?_)
  refine lv_iadd hx hb d_X6_strike_41 ?_
  refine lv_topi (fun x8 ex8 => ?_)
  refine lv_iconst (v := 2) hx hb d_X6_strike_42 (by decide) ?_
  refine lv_idiv hx hb d_X6_strike_43 (by decide) ?_
  refine lv_topi (fun x9 ex9 => ?_)
  refine lv_istore (lv' := [(7, .int x9), (6, .int x5), (5, .ref (ad kc2)), (4, .ref (ad kc1)), (0, .ref (ad 1)), (1, .int si), (2, .int bi), (3, .ref (ad 30))]) hx hb d_X6_strike_44 hl (by decide) rfl (fun ls hl => ?_)
  refine lv_aload hx hb d_X6_strike_46 (lv_at hl 3 rfl) ?_
  refine lv_iload hx hb d_X6_strike_48 (lv_at hl 1 rfl) ?_
  refine lv_iload hx hb d_X6_strike_50 (lv_at hl 0 rfl) ?_
  refine r_cv (r_runV (n := 2) (As := [.int x5, .int x9]) (rest := []) X hw (ct_X7_deliver l D dA ad v hI kc1 x5 x9 (by omega) (by omega)) gc_X6_116 (KD_ship (by omega) (by omega)) (by decide) rfl (by decide +kernel) ⟨rfl, rfl, Nat.le_of_ble_eq_true rfl, Nat.le_of_ble_eq_true rfl⟩ rfl hl.1 rfl (Nat.le_of_ble_eq_true rfl) ⟨Nat.zero_le _, Nat.zero_le _⟩ d_X6_strike_52) hS (fun v11 H locs hp10 hw hS => ?_)
  obtain ⟨hI12, hK13⟩ := hp10
  have hK14 : Kp v v11 := Kp.tr hK0 hK13
  refine lv_aload hx hb d_X6_strike_55 (lv_at hl 2 rfl) ?_
  refine lv_dup hx hb d_X6_strike_57 rfl ?_
  refine r_geti X hw FL_X6_104 (KD_buyer (by omega) (by omega)) (SH_buyer (by omega) (by omega)) d_X6_strike_58 ?_
  refine lv_topi (fun x15 ex15 => ?_)
  refine lv_iload hx hb d_X6_strike_61 (lv_at hl 1 rfl) ?_
  refine lv_isub hx hb d_X6_strike_63 ?_
  refine lv_topi (fun x16 ex16 => ?_)
  refine r_put X hw hS FP_X6_104 (KD_buyer (by omega) (by omega)) (SH_buyer (by omega) (by omega)) ⟨rfl, rfl⟩ d_X6_strike_64 (fun H locs hw hS => ?_)
  obtain ⟨v17, ev17⟩ : ∃ z, z = up2 v11 kc2 2 x16 := ⟨_, rfl⟩
  rw [← ev17] at hw
  have hI18 : Inv v17 := by rw [ev17]; exact Inv.put0 hI12 _ (RG_buyer (by omega) (by omega) (by decide))
  have hK19 : Kp v v17 := by rw [ev17]; exact Kp.put hK14 _ (PS_buyer (by omega) (by omega))
  refine lv_aload_n hx hb d_X6_strike_67 rfl (lv_at hl 4 rfl) ?_
  refine r_getr (r := 16) X hw FL_X6_25 (rfl : KD 1 = _) rfl d_X6_strike_68 ?_
  refine lv_aload hx hb d_X6_strike_71 (lv_at hl 2 rfl) ?_
  refine r_geti X hw FL_X6_119 (KD_buyer (by omega) (by omega)) (SH_buyer (by omega) (by omega)) d_X6_strike_73 ?_
  refine lv_topi (fun x20 ex20 => ?_)
  have r21 : Rg x20 0 5 := by rw [ex20]; exact hI18 _ _ _ _ (RG_buyer0 (by omega) (by omega))
  have hm22 : v17 kc2 0 = x20 := ex20.symm
  refine r_aald X hw (rfl : KD 16 = _) (Or.inr (Or.inr (Or.inl rfl))) (Rg.vp (b := 5) r21 (by decide)) rfl d_X6_strike_76 ?_
  refine r_nm (fun kc23 ekc23 => ?_)
  have kc23a : 300 ≤ kc23 := by omega
  have kc23b : kc23 ≤ 305 := by have := Rg.nat r21; omega
  refine lv_iload hx hb d_X6_strike_77 (lv_at hl 1 rfl) ?_
  refine r_cv (r_runV (n := 1) (As := [.int x5]) (rest := []) X hw (ct_X9_receive l D dA ad v17 hI18 kc23 x5 (by omega) (by omega)) gc_X6_122 (KD_ward (by omega) (by omega)) (by decide) rfl (by decide +kernel) ⟨rfl, rfl, Nat.le_of_ble_eq_true rfl, Nat.le_of_ble_eq_true rfl⟩ rfl hl.1 rfl (Nat.le_of_ble_eq_true rfl) ⟨Nat.zero_le _, Nat.zero_le _⟩ d_X6_strike_79) hS (fun v25 H locs hp24 hw hS => ?_)
  obtain ⟨hI26, hK27⟩ := hp24
  have hK28 : Kp v v25 := Kp.tr hK19 hK27
  refine lv_aload_n hx hb d_X6_strike_82 rfl (lv_at hl 7 rfl) ?_
  refine lv_iload_n hx hb d_X6_strike_83 rfl (lv_at hl 5 rfl) ?_
  refine lv_iload_n hx hb d_X6_strike_84 rfl (lv_at hl 6 rfl) ?_
  refine lv_iload hx hb d_X6_strike_85 (lv_at hl 1 rfl) ?_
  refine lv_iload hx hb d_X6_strike_87 (lv_at hl 0 rfl) ?_
  refine r_cv (r_runV (n := 4) (As := [.int si, .int bi, .int x5, .int x9]) (rest := []) X hw (ct_X1_enter_30 l D dA ad v25 hI26 si bi x5 x9) gc_X6_126 (rfl : KD 30 = _) (by decide) rfl (by decide +kernel) ⟨rfl, rfl, Nat.le_of_ble_eq_true rfl, Nat.le_of_ble_eq_true rfl⟩ rfl hl.1 rfl (Nat.le_of_ble_eq_true rfl) ⟨Nat.zero_le _, Nat.zero_le _⟩ d_X6_strike_89) hS (fun v30 H locs hp29 hw hS => ?_)
  obtain ⟨hI31, hK32⟩ := hp29
  have hK33 : Kp v v30 := Kp.tr hK28 hK32
  exact r_vret X hr hlocks hw hS ⟨hI31, hK33⟩ d_X6_strike_92
theorem d_X6_sell_0 : decode c_X6_sell 0 = .ok (.aload_n 0, 1) := by decide +kernel
theorem d_X6_sell_1 : decode c_X6_sell 1 = .ok (.getfield 11, 3) := by decide +kernel
theorem d_X6_sell_4 : decode c_X6_sell 4 = .ok (.iload_n 1, 1) := by decide +kernel
theorem d_X6_sell_5 : decode c_X6_sell 5 = .ok (.aaload, 1) := by decide +kernel
theorem d_X6_sell_6 : decode c_X6_sell 6 = .ok (.astore_n 3, 1) := by decide +kernel
theorem d_X6_sell_7 : decode c_X6_sell 7 = .ok (.iconst 0, 1) := by decide +kernel
theorem d_X6_sell_8 : decode c_X6_sell 8 = .ok (.istore 4, 2) := by decide +kernel
theorem d_X6_sell_10 : decode c_X6_sell 10 = .ok (.iconst 0, 1) := by decide +kernel
theorem d_X6_sell_11 : decode c_X6_sell 11 = .ok (.istore 5, 2) := by decide +kernel
theorem d_X6_sell_13 : decode c_X6_sell 13 = .ok (.iload 5, 2) := by decide +kernel
theorem d_X6_sell_15 : decode c_X6_sell 15 = .ok (.aload_n 0, 1) := by decide +kernel
theorem d_X6_sell_16 : decode c_X6_sell 16 = .ok (.getfield 33, 3) := by decide +kernel
theorem d_X6_sell_19 : decode c_X6_sell 19 = .ok (.if_icmp .ge 43, 3) := by decide +kernel
theorem d_X6_sell_22 : decode c_X6_sell 22 = .ok (.aload_n 3, 1) := by decide +kernel
theorem d_X6_sell_23 : decode c_X6_sell 23 = .ok (.getfield 86, 3) := by decide +kernel
theorem d_X6_sell_26 : decode c_X6_sell 26 = .ok (.ifCond .le 36, 3) := by decide +kernel
theorem d_X6_sell_29 : decode c_X6_sell 29 = .ok (.aload_n 0, 1) := by decide +kernel
theorem d_X6_sell_30 : decode c_X6_sell 30 = .ok (.aload_n 3, 1) := by decide +kernel
theorem d_X6_sell_31 : decode c_X6_sell 31 = .ok (.invokevirtual 89, 3) := by decide +kernel
theorem d_X6_sell_34 : decode c_X6_sell 34 = .ok (.istore 6, 2) := by decide +kernel
theorem d_X6_sell_36 : decode c_X6_sell 36 = .ok (.iload 6, 2) := by decide +kernel
theorem d_X6_sell_38 : decode c_X6_sell 38 = .ok (.iconst (-1), 1) := by decide +kernel
theorem d_X6_sell_39 : decode c_X6_sell 39 = .ok (.if_icmp .ne 6, 3) := by decide +kernel
theorem d_X6_sell_42 : decode c_X6_sell 42 = .ok (.goto 20, 3) := by decide +kernel
theorem d_X6_sell_45 : decode c_X6_sell 45 = .ok (.aload_n 0, 1) := by decide +kernel
theorem d_X6_sell_46 : decode c_X6_sell 46 = .ok (.iload_n 1, 1) := by decide +kernel
theorem d_X6_sell_47 : decode c_X6_sell 47 = .ok (.iload 6, 2) := by decide +kernel
theorem d_X6_sell_49 : decode c_X6_sell 49 = .ok (.aload_n 2, 1) := by decide +kernel
theorem d_X6_sell_50 : decode c_X6_sell 50 = .ok (.invokevirtual 93, 3) := by decide +kernel
theorem d_X6_sell_53 : decode c_X6_sell 53 = .ok (.iconst 1, 1) := by decide +kernel
theorem d_X6_sell_54 : decode c_X6_sell 54 = .ok (.istore 4, 2) := by decide +kernel
theorem d_X6_sell_56 : decode c_X6_sell 56 = .ok (.iinc 5 1, 3) := by decide +kernel
theorem d_X6_sell_59 : decode c_X6_sell 59 = .ok (.goto (-46), 3) := by decide +kernel
theorem d_X6_sell_62 : decode c_X6_sell 62 = .ok (.iload 4, 2) := by decide +kernel
theorem d_X6_sell_64 : decode c_X6_sell 64 = .ok (.ireturn, 1) := by decide +kernel
set_option maxHeartbeats 4000000 in
set_option maxRecDepth 100000 in
theorem ct_X6_sell_1_30 (l : Launch) (D : va_G) (dA : Nat → ClassId) (ad : Nat → Nat) (v : tV) (hI : Inv v) (si : Int32) (r_si : Rg si 0 19) : Met l m_X6_sell [.code m_X6_sell c_X6_sell 7 (some .boolean)] ({ frames := 4, cells := 0, slots := 0, locals := 110 } : Room) (tP D dA ad v [.ref (ad 1), .int si, .ref (ad 30)]) (tQi D dA ad (fun r v' => Inv v' ∧ Kp v v' ∧ Rg r 0 1)) 0 0 (tA ad) := by
  refine tMet (by decide) (Nat.le_of_ble_eq_true rfl) ?_
  intro p e s m below meth c ls X hr hlocks hw hl
  have X : CX p s m ([.ref (ad 1), .int si, .ref (ad 30)] : List Value).toArray c c_X6_sell N_X6 7 D dA := X
  have hx := X.1
  have hb := X.2.1
  have hS : va_S (tA ad) s.heap s.heap [] := va_S.rf
  have hl : lv_has ls 7 [(0, .ref (ad 1)), (1, .int si), (2, .ref (ad 30))] := hl
  have LL : ∀ n : Nat, (∀ (q3 : Nat) (y4 : Int32) (y5 : Int32) (v1 : tV) (H : Heap) (locs : List Loc) (ls : Array Slot), (10 - y5.toInt).toNat < n → 100 ≤ q3 → q3 < 120 → Rg y4 0 1 → Rg y5 0 10 → Inv v1 → Kp v v1 → tI D dA ad v1 H → va_S (tA ad) s.heap H locs → lv_has ls 7 [(0, .ref (ad 1)), (1, .int si), (2, .ref (ad 30)), (3, .ref (ad q3)), (4, .int y4), (5, .int y5)] → W p l e ({ frames := 4, cells := 0, slots := 0, locals := 110 } : Room) s m ([.ref (ad 1), .int si, .ref (ad 30)] : List Value).toArray below meth c H locs 0 0 (MQ below (tQi D dA ad (fun r v' => Inv v' ∧ Kp v v' ∧ Rg r 0 1)) ([.ref (ad 1), .int si, .ref (ad 30)] : List Value).toArray s 0 0 (tA ad)) (F0 m 13 ls [])) := by
    intro n
    induction n with
    | zero => intros; omega
    | succ n ih =>
      have ih0 := ih
      intro q3 y4 y5 v1 H locs ls hmu q3a q3b r_y4 r_y5 hI1 hK1 hw hS hl
      refine lv_iload hx hb d_X6_sell_13 (lv_at hl 5 rfl) ?_
      refine lv_aload_n hx hb d_X6_sell_15 rfl (lv_at hl 0 rfl) ?_
      refine r_geti X hw FL_X6_33 (rfl : KD 1 = _) rfl d_X6_sell_16 ?_
      refine lv_topi (fun x1 ex1 => ?_)
      have r2 : Rg x1 0 10 := by rw [ex1]; exact hI1 _ _ _ _ rfl
      have hm3 : v1 1 4 = x1 := ex1.symm
      refine lv_icmp_ge (tgt := 62) hx hb d_X6_sell_19 (by decide) (fun c4 => ?_) (fun c4 => ?_)
      · have f5 := i_le c4
        refine lv_iload hx hb d_X6_sell_62 (lv_at hl 4 rfl) ?_
        exact r_zret X hr hlocks hw hS (narz r_y4) ⟨hI1, hK1, r_y4⟩ d_X6_sell_64
      · have f6 := i_nle c4
        have r7 : Rg y5 0 9 := by obtain ⟨a1, a2⟩ := r_y5; obtain ⟨b1, b2⟩ := r2; have f := i_nle c4; exact ⟨by omega, by omega⟩
        have r8 : Rg x1 1 10 := by obtain ⟨a1, a2⟩ := r_y5; obtain ⟨b1, b2⟩ := r2; have f := i_nle c4; exact ⟨by omega, by omega⟩
        refine lv_aload_n hx hb d_X6_sell_22 rfl (lv_at hl 3 rfl) ?_
        refine r_geti X hw FL_X6_86 (KD_ship (by omega) (by omega)) (SH_ship (by omega) (by omega)) d_X6_sell_23 ?_
        refine lv_topi (fun x9 ex9 => ?_)
        refine lv_if_le (tgt := 62) hx hb d_X6_sell_26 (by decide) (fun c10 => ?_) (fun c10 => ?_)
        · have f11 := i_le c10
          have r12 : Rg x9 (-2147483648) 0 := by obtain ⟨a1, a2⟩ := (rg_any x9); obtain ⟨b1, b2⟩ := (⟨by decide, by decide⟩ : Rg 0 0 0); have f := i_le c10; exact ⟨by omega, by omega⟩
          refine lv_iload hx hb d_X6_sell_62 (lv_at hl 4 rfl) ?_
          exact r_zret X hr hlocks hw hS (narz r_y4) ⟨hI1, hK1, r_y4⟩ d_X6_sell_64
        · have f13 := i_nle c10
          have r14 : Rg x9 1 2147483647 := by obtain ⟨a1, a2⟩ := (rg_any x9); obtain ⟨b1, b2⟩ := (⟨by decide, by decide⟩ : Rg 0 0 0); have f := i_nle c10; exact ⟨by omega, by omega⟩
          refine lv_aload_n hx hb d_X6_sell_29 rfl (lv_at hl 0 rfl) ?_
          refine lv_aload_n hx hb d_X6_sell_30 rfl (lv_at hl 3 rfl) ?_
          refine r_ci (r_runV (n := 1) (As := [.ref (ad q3)]) (rest := []) X hw (ct_X6_bestBuyer_1 l D dA ad v1 hI1 q3 (by omega) (by omega)) gc_X6_89 (rfl : KD 1 = _) (by decide) rfl (by decide +kernel) ⟨rfl, rfl, Nat.le_of_ble_eq_true rfl, Nat.le_of_ble_eq_true rfl⟩ rfl hl.1 rfl (Nat.le_of_ble_eq_true rfl) ⟨Nat.zero_le _, Nat.zero_le _⟩ d_X6_sell_31) hS (fun x16 v17 H locs hp15 hw hS => ?_)
          obtain ⟨ev17, hp15⟩ := hp15
          rw [ev17] at hw
          refine lv_istore (lv' := [(6, .int x16), (0, .ref (ad 1)), (1, .int si), (2, .ref (ad 30)), (3, .ref (ad q3)), (4, .int y4), (5, .int y5)]) hx hb d_X6_sell_34 hl (by decide) rfl (fun ls hl => ?_)
          refine lv_iload hx hb d_X6_sell_36 (lv_at hl 0 rfl) ?_
          refine lv_iconst (v := -1) hx hb d_X6_sell_38 (by decide) ?_
          refine lv_icmp_ne (tgt := 45) hx hb d_X6_sell_39 (by decide) (fun c18 => ?_) (fun c18 => ?_)
          · have f19 := i_ne c18
            have r20 : Rg x16 0 9 := by obtain ⟨a1, a2⟩ := hp15; obtain ⟨b1, b2⟩ := (⟨by decide, by decide⟩ : Rg (-1) (-1) (-1)); have f := i_ne c18; exact ⟨by omega, by omega⟩
            refine lv_aload_n hx hb d_X6_sell_45 rfl (lv_at hl 1 rfl) ?_
            refine lv_iload_n hx hb d_X6_sell_46 rfl (lv_at hl 2 rfl) ?_
            refine lv_iload hx hb d_X6_sell_47 (lv_at hl 0 rfl) ?_
            refine lv_aload_n hx hb d_X6_sell_49 rfl (lv_at hl 3 rfl) ?_
            refine r_cv (r_runV (n := 3) (As := [.int si, .int x16, .ref (ad 30)]) (rest := []) X hw (ct_X6_strike_1_30 l D dA ad v1 hI1 si x16 r_si r20) gc_X6_93 (rfl : KD 1 = _) (by decide) rfl (by decide +kernel) ⟨rfl, rfl, Nat.le_of_ble_eq_true rfl, Nat.le_of_ble_eq_true rfl⟩ rfl hl.1 rfl (Nat.le_of_ble_eq_true rfl) ⟨Nat.zero_le _, Nat.zero_le _⟩ d_X6_sell_50) hS (fun v22 H locs hp21 hw hS => ?_)
            obtain ⟨hI23, hK24⟩ := hp21
            have hK25 : Kp v v22 := Kp.tr hK1 hK24
            refine lv_iconst (v := 1) hx hb d_X6_sell_53 (by decide) ?_
            refine lv_istore (lv' := [(4, .int 1), (6, .int x16), (0, .ref (ad 1)), (1, .int si), (2, .ref (ad 30)), (3, .ref (ad q3)), (5, .int y5)]) hx hb d_X6_sell_54 hl (by decide) rfl (fun ls hl => ?_)
            obtain ⟨x26, ex26⟩ : ∃ y : Int32, y = y5 + 1 := ⟨_, rfl⟩
            refine lv_iinc (v := x26) (lv' := [(5, .int x26), (4, .int 1), (6, .int x16), (0, .ref (ad 1)), (1, .int si), (2, .ref (ad 30)), (3, .ref (ad q3))]) hx hb d_X6_sell_56 hl (k := 6) rfl (by rw [ex26]; rfl) (by decide) rfl (fun ls hl => ?_)
            have r27 : Rg x26 1 10 := rg_add ex26 r7 (⟨by decide, by decide⟩ : Rg 1 1 1) (by decide) (by decide)
            have s28 : x26.toInt = y5.toInt + (1 : Int32).toInt := by rw [ex26]; exact i_add (by obtain ⟨_, _⟩ := r7; obtain ⟨_, _⟩ := (⟨by decide, by decide⟩ : Rg 1 1 1); omega) (by obtain ⟨_, _⟩ := r7; obtain ⟨_, _⟩ := (⟨by decide, by decide⟩ : Rg 1 1 1); omega)
            have s28l : (1 : Int32).toInt = 1 := rfl
            refine lv_goto (tgt := 13) hx hb d_X6_sell_59 (by decide) ?_
            exact ih0 q3 1 x26 v22 _ _ _ (by have := s28; obtain ⟨_, _⟩ := (⟨by decide, by decide⟩ : Rg 1 1 1); obtain ⟨_, _⟩ := r27; omega) (by omega) (by omega) (rg_w (⟨by decide, by decide⟩ : Rg 1 1 1) (by decide) (by decide)) (rg_w r27 (by decide) (by decide)) hI23 hK25 hw hS (lv_sub hl [3, 4, 5, 6, 1, 0] rfl)
          · have f29 := i_eq c18
            have r30 : Rg x16 (-1) (-1) := by obtain ⟨a1, a2⟩ := hp15; obtain ⟨b1, b2⟩ := (⟨by decide, by decide⟩ : Rg (-1) (-1) (-1)); have f := i_eq c18; exact ⟨by omega, by omega⟩
            refine lv_goto (tgt := 62) hx hb d_X6_sell_42 (by decide) ?_
            refine lv_iload hx hb d_X6_sell_62 (lv_at hl 5 rfl) ?_
            exact r_zret X hr hlocks hw hS (narz r_y4) ⟨hI1, hK1, r_y4⟩ d_X6_sell_64
  have ih0 := LL 100000
  have hK0 : Kp v v := Kp.rf v
  refine lv_aload_n hx hb d_X6_sell_0 rfl (lv_at hl 0 rfl) ?_
  refine r_getr (r := 10) X hw FL_X6_11 (rfl : KD 1 = _) rfl d_X6_sell_1 ?_
  refine lv_iload_n hx hb d_X6_sell_4 rfl (lv_at hl 1 rfl) ?_
  refine r_aald X hw (rfl : KD 10 = _) (Or.inl rfl) (Rg.vp (b := 19) r_si (by decide)) rfl d_X6_sell_5 ?_
  refine r_nm (fun kc31 ekc31 => ?_)
  have kc31a : 100 ≤ kc31 := by omega
  have kc31b : kc31 ≤ 119 := by have := Rg.nat r_si; omega
  refine lv_astore_n (lv' := [(3, .ref (ad kc31)), (0, .ref (ad 1)), (1, .int si), (2, .ref (ad 30))]) hx hb d_X6_sell_6 rfl hl (by decide) rfl (fun ls hl => ?_)
  refine lv_iconst (v := 0) hx hb d_X6_sell_7 (by decide) ?_
  refine lv_istore (lv' := [(4, .int 0), (3, .ref (ad kc31)), (0, .ref (ad 1)), (1, .int si), (2, .ref (ad 30))]) hx hb d_X6_sell_8 hl (by decide) rfl (fun ls hl => ?_)
  refine lv_iconst (v := 0) hx hb d_X6_sell_10 (by decide) ?_
  refine lv_istore (lv' := [(5, .int 0), (4, .int 0), (3, .ref (ad kc31)), (0, .ref (ad 1)), (1, .int si), (2, .ref (ad 30))]) hx hb d_X6_sell_11 hl (by decide) rfl (fun ls hl => ?_)
  exact ih0 kc31 0 0 v _ _ _ (by obtain ⟨_, _⟩ := (⟨by decide, by decide⟩ : Rg 0 0 0); obtain ⟨_, _⟩ := (⟨by decide, by decide⟩ : Rg 0 0 0); omega) (by omega) (by omega) (rg_w (⟨by decide, by decide⟩ : Rg 0 0 0) (by decide) (by decide)) (rg_w (⟨by decide, by decide⟩ : Rg 0 0 0) (by decide) (by decide)) hI hK0 hw hS (lv_sub hl [3, 4, 5, 2, 1, 0] rfl)
theorem d_X6_trade_0 : decode c_X6_trade 0 = .ok (.iconst 0, 1) := by decide +kernel
theorem d_X6_trade_1 : decode c_X6_trade 1 = .ok (.istore_n 3, 1) := by decide +kernel
theorem d_X6_trade_2 : decode c_X6_trade 2 = .ok (.iload_n 3, 1) := by decide +kernel
theorem d_X6_trade_3 : decode c_X6_trade 3 = .ok (.aload_n 1, 1) := by decide +kernel
theorem d_X6_trade_4 : decode c_X6_trade 4 = .ok (.getfield 63, 3) := by decide +kernel
theorem d_X6_trade_7 : decode c_X6_trade 7 = .ok (.if_icmp .ge 37, 3) := by decide +kernel
theorem d_X6_trade_10 : decode c_X6_trade 10 = .ok (.aload_n 1, 1) := by decide +kernel
theorem d_X6_trade_11 : decode c_X6_trade 11 = .ok (.getfield 68, 3) := by decide +kernel
theorem d_X6_trade_14 : decode c_X6_trade 14 = .ok (.iload_n 3, 1) := by decide +kernel
theorem d_X6_trade_15 : decode c_X6_trade 15 = .ok (.iaload, 1) := by decide +kernel
theorem d_X6_trade_16 : decode c_X6_trade 16 = .ok (.istore 4, 2) := by decide +kernel
theorem d_X6_trade_18 : decode c_X6_trade 18 = .ok (.aload_n 0, 1) := by decide +kernel
theorem d_X6_trade_19 : decode c_X6_trade 19 = .ok (.iload 4, 2) := by decide +kernel
theorem d_X6_trade_21 : decode c_X6_trade 21 = .ok (.aload_n 2, 1) := by decide +kernel
theorem d_X6_trade_22 : decode c_X6_trade 22 = .ok (.invokevirtual 71, 3) := by decide +kernel
theorem d_X6_trade_25 : decode c_X6_trade 25 = .ok (.ifCond .ne 13, 3) := by decide +kernel
theorem d_X6_trade_28 : decode c_X6_trade 28 = .ok (.aload_n 0, 1) := by decide +kernel
theorem d_X6_trade_29 : decode c_X6_trade 29 = .ok (.getfield 11, 3) := by decide +kernel
theorem d_X6_trade_32 : decode c_X6_trade 32 = .ok (.iload 4, 2) := by decide +kernel
theorem d_X6_trade_34 : decode c_X6_trade 34 = .ok (.aaload, 1) := by decide +kernel
theorem d_X6_trade_35 : decode c_X6_trade 35 = .ok (.invokevirtual 75, 3) := by decide +kernel
theorem d_X6_trade_38 : decode c_X6_trade 38 = .ok (.iinc 3 1, 3) := by decide +kernel
theorem d_X6_trade_41 : decode c_X6_trade 41 = .ok (.goto (-39), 3) := by decide +kernel
theorem d_X6_trade_44 : decode c_X6_trade 44 = .ok (.aload_n 2, 1) := by decide +kernel
theorem d_X6_trade_45 : decode c_X6_trade 45 = .ok (.getfield 78, 3) := by decide +kernel
theorem d_X6_trade_48 : decode c_X6_trade 48 = .ok (.ifCond .le 16, 3) := by decide +kernel
theorem d_X6_trade_51 : decode c_X6_trade 51 = .ok (.aload_n 0, 1) := by decide +kernel
theorem d_X6_trade_52 : decode c_X6_trade 52 = .ok (.aload_n 2, 1) := by decide +kernel
theorem d_X6_trade_53 : decode c_X6_trade 53 = .ok (.getfield 83, 3) := by decide +kernel
theorem d_X6_trade_56 : decode c_X6_trade 56 = .ok (.aload_n 2, 1) := by decide +kernel
theorem d_X6_trade_57 : decode c_X6_trade 57 = .ok (.getfield 78, 3) := by decide +kernel
theorem d_X6_trade_60 : decode c_X6_trade 60 = .ok (.idiv, 1) := by decide +kernel
theorem d_X6_trade_61 : decode c_X6_trade 61 = .ok (.putfield 39, 3) := by decide +kernel
theorem d_X6_trade_64 : decode c_X6_trade 64 = .ok (.return_, 1) := by decide +kernel
set_option maxHeartbeats 4000000 in
set_option maxRecDepth 100000 in
theorem ct_X6_trade_1_21_30 (l : Launch) (D : va_G) (dA : Nat → ClassId) (ad : Nat → Nat) (v : tV) (hI : Inv v)  : Met l m_X6_trade [.code m_X6_trade c_X6_trade 5 none] ({ frames := 5, cells := 0, slots := 0, locals := 136 } : Room) (tP D dA ad v [.ref (ad 1), .ref (ad 21), .ref (ad 30)]) (tQv D dA ad (fun v' => Inv v' ∧ Kp v v')) 0 0 (tA ad) := by
  refine tMet (by decide) (Nat.le_of_ble_eq_true rfl) ?_
  intro p e s m below meth c ls X hr hlocks hw hl
  have X : CX p s m ([.ref (ad 1), .ref (ad 21), .ref (ad 30)] : List Value).toArray c c_X6_trade N_X6 5 D dA := X
  have hx := X.1
  have hb := X.2.1
  have hS : va_S (tA ad) s.heap s.heap [] := va_S.rf
  have hl : lv_has ls 5 [(0, .ref (ad 1)), (1, .ref (ad 21)), (2, .ref (ad 30))] := hl
  have LL : ∀ n : Nat, (∀ (y3 : Int32) (v1 : tV) (H : Heap) (locs : List Loc) (ls : Array Slot), (20 - y3.toInt).toNat < n → Rg y3 0 20 → Inv v1 → Kp v v1 → tI D dA ad v1 H → va_S (tA ad) s.heap H locs → lv_has ls 5 [(0, .ref (ad 1)), (1, .ref (ad 21)), (2, .ref (ad 30)), (3, .int y3)] → W p l e ({ frames := 5, cells := 0, slots := 0, locals := 136 } : Room) s m ([.ref (ad 1), .ref (ad 21), .ref (ad 30)] : List Value).toArray below meth c H locs 0 0 (MQ below (tQv D dA ad (fun v' => Inv v' ∧ Kp v v')) ([.ref (ad 1), .ref (ad 21), .ref (ad 30)] : List Value).toArray s 0 0 (tA ad)) (F0 m 2 ls [])) := by
    intro n
    induction n with
    | zero => intros; omega
    | succ n ih =>
      have ih0 := ih
      intro y3 v1 H locs ls hmu r_y3 hI1 hK1 hw hS hl
      refine lv_iload_n hx hb d_X6_trade_2 rfl (lv_at hl 3 rfl) ?_
      refine lv_aload_n hx hb d_X6_trade_3 rfl (lv_at hl 1 rfl) ?_
      refine r_geti X hw FL_X6_63 (rfl : KD 21 = _) rfl d_X6_trade_4 ?_
      refine lv_topi (fun x1 ex1 => ?_)
      have r2 : Rg x1 0 20 := by rw [ex1]; exact hI1 _ _ _ _ rfl
      have hm3 : v1 21 2 = x1 := ex1.symm
      refine lv_icmp_ge (tgt := 44) hx hb d_X6_trade_7 (by decide) (fun c4 => ?_) (fun c4 => ?_)
      · have f5 := i_le c4
        refine lv_aload_n hx hb d_X6_trade_44 rfl (lv_at hl 2 rfl) ?_
        refine r_geti X hw FL_X6_78 (rfl : KD 30 = _) rfl d_X6_trade_45 ?_
        refine lv_topi (fun x6 ex6 => ?_)
        have hm7 : v1 30 5 = x6 := ex6.symm
        refine lv_if_le (tgt := 64) hx hb d_X6_trade_48 (by decide) (fun c8 => ?_) (fun c8 => ?_)
        · have f9 := i_le c8
          have r10 : Rg x6 (-2147483648) 0 := by obtain ⟨a1, a2⟩ := (rg_any x6); obtain ⟨b1, b2⟩ := (⟨by decide, by decide⟩ : Rg 0 0 0); have f := i_le c8; exact ⟨by omega, by omega⟩
          exact r_vret X hr hlocks hw hS ⟨hI1, hK1⟩ d_X6_trade_64
        · have f11 := i_nle c8
          have r12 : Rg x6 1 2147483647 := by obtain ⟨a1, a2⟩ := (rg_any x6); obtain ⟨b1, b2⟩ := (⟨by decide, by decide⟩ : Rg 0 0 0); have f := i_nle c8; exact ⟨by omega, by omega⟩
          refine lv_aload_n hx hb d_X6_trade_51 rfl (lv_at hl 0 rfl) ?_
          refine lv_aload_n hx hb d_X6_trade_52 rfl (lv_at hl 2 rfl) ?_
          refine r_geti X hw FL_X6_83 (rfl : KD 30 = _) rfl d_X6_trade_53 ?_
          refine lv_topi (fun x13 ex13 => ?_)
          refine lv_aload_n hx hb d_X6_trade_56 rfl (lv_at hl 2 rfl) ?_
          refine r_geti X hw FL_X6_78 (rfl : KD 30 = _) rfl d_X6_trade_57 ?_
          rw [hm7]
          refine lv_idiv hx hb d_X6_trade_60 (by intro h; have := i_eq h; obtain ⟨b1, b2⟩ := r12; have z0 : (0 : Int32).toInt = 0 := rfl; omega) ?_
          refine lv_topi (fun x14 ex14 => ?_)
          refine r_put X hw hS FP_X6_39 (rfl : KD 1 = _) rfl ⟨rfl, rfl⟩ d_X6_trade_61 (fun H locs hw hS => ?_)
          obtain ⟨v15, ev15⟩ : ∃ z, z = up2 v1 1 6 x14 := ⟨_, rfl⟩
          rw [← ev15] at hw
          have hI16 : Inv v15 := by rw [ev15]; exact Inv.put0 hI1 _ rfl
          have hK17 : Kp v v15 := by rw [ev15]; exact Kp.put hK1 _ rfl
          have hm18 : v15 21 2 = x1 := by rw [ev15, up2_n _ _ (by omega)]; exact hm3
          have hm19 : v15 30 5 = x6 := by rw [ev15, up2_n _ _ (by omega)]; exact hm7
          exact r_vret X hr hlocks hw hS ⟨hI16, hK17⟩ d_X6_trade_64
      · have f20 := i_nle c4
        have r21 : Rg y3 0 19 := by obtain ⟨a1, a2⟩ := r_y3; obtain ⟨b1, b2⟩ := r2; have f := i_nle c4; exact ⟨by omega, by omega⟩
        have r22 : Rg x1 1 20 := by obtain ⟨a1, a2⟩ := r_y3; obtain ⟨b1, b2⟩ := r2; have f := i_nle c4; exact ⟨by omega, by omega⟩
        refine lv_aload_n hx hb d_X6_trade_10 rfl (lv_at hl 1 rfl) ?_
        refine r_getr (r := 23) X hw FL_X6_68 (rfl : KD 21 = _) rfl d_X6_trade_11 ?_
        refine lv_iload_n hx hb d_X6_trade_14 rfl (lv_at hl 3 rfl) ?_
        refine r_iald X hw (rfl : KD 23 = _) (Rg.vp (b := 19) r21 (by decide)) rfl d_X6_trade_15 ?_
        refine lv_topi (fun x23 ex23 => ?_)
        have r24 : Rg x23 0 19 := by rw [ex23]; exact hI1 _ _ _ _ rfl
        refine lv_istore (lv' := [(4, .int x23), (0, .ref (ad 1)), (1, .ref (ad 21)), (2, .ref (ad 30)), (3, .int y3)]) hx hb d_X6_trade_16 hl (by decide) rfl (fun ls hl => ?_)
        refine lv_aload_n hx hb d_X6_trade_18 rfl (lv_at hl 1 rfl) ?_
        refine lv_iload hx hb d_X6_trade_19 (lv_at hl 0 rfl) ?_
        refine lv_aload_n hx hb d_X6_trade_21 rfl (lv_at hl 3 rfl) ?_
        refine r_ci (r_runV (n := 2) (As := [.int x23, .ref (ad 30)]) (rest := []) X hw (ct_X6_sell_1_30 l D dA ad v1 hI1 x23 r24) gc_X6_71 (rfl : KD 1 = _) (by decide) rfl (by decide +kernel) ⟨rfl, rfl, Nat.le_of_ble_eq_true rfl, Nat.le_of_ble_eq_true rfl⟩ rfl hl.1 rfl (Nat.le_of_ble_eq_true rfl) ⟨Nat.zero_le _, Nat.zero_le _⟩ d_X6_trade_22) hS (fun x26 v27 H locs hp25 hw hS => ?_)
        obtain ⟨hI28, hK29, hp25⟩ := hp25
        have hK30 : Kp v v27 := Kp.tr hK1 hK29
        refine lv_if_ne (tgt := 38) hx hb d_X6_trade_25 (by decide) (fun c31 => ?_) (fun c31 => ?_)
        · have f32 := i_ne c31
          have r33 : Rg x26 1 1 := by obtain ⟨a1, a2⟩ := hp25; obtain ⟨b1, b2⟩ := (⟨by decide, by decide⟩ : Rg 0 0 0); have f := i_ne c31; exact ⟨by omega, by omega⟩
          obtain ⟨x34, ex34⟩ : ∃ y : Int32, y = y3 + 1 := ⟨_, rfl⟩
          refine lv_iinc (v := x34) (lv' := [(3, .int x34), (4, .int x23), (0, .ref (ad 1)), (1, .ref (ad 21)), (2, .ref (ad 30))]) hx hb d_X6_trade_38 hl (k := 4) rfl (by rw [ex34]; rfl) (by decide) rfl (fun ls hl => ?_)
          have r35 : Rg x34 1 20 := rg_add ex34 r21 (⟨by decide, by decide⟩ : Rg 1 1 1) (by decide) (by decide)
          have s36 : x34.toInt = y3.toInt + (1 : Int32).toInt := by rw [ex34]; exact i_add (by obtain ⟨_, _⟩ := r21; obtain ⟨_, _⟩ := (⟨by decide, by decide⟩ : Rg 1 1 1); omega) (by obtain ⟨_, _⟩ := r21; obtain ⟨_, _⟩ := (⟨by decide, by decide⟩ : Rg 1 1 1); omega)
          have s36l : (1 : Int32).toInt = 1 := rfl
          refine lv_goto (tgt := 2) hx hb d_X6_trade_41 (by decide) ?_
          exact ih0 x34 v27 _ _ _ (by have := s36; obtain ⟨_, _⟩ := r35; omega) (rg_w r35 (by decide) (by decide)) hI28 hK30 hw hS (lv_sub hl [2, 3, 4, 0] rfl)
        · have f37 := i_eq c31
          have r38 : Rg x26 0 0 := by obtain ⟨a1, a2⟩ := hp25; obtain ⟨b1, b2⟩ := (⟨by decide, by decide⟩ : Rg 0 0 0); have f := i_eq c31; exact ⟨by omega, by omega⟩
          refine lv_aload_n hx hb d_X6_trade_28 rfl (lv_at hl 1 rfl) ?_
          refine r_getr (r := 10) X hw FL_X6_11 (rfl : KD 1 = _) rfl d_X6_trade_29 ?_
          refine lv_iload hx hb d_X6_trade_32 (lv_at hl 0 rfl) ?_
          refine r_aald X hw (rfl : KD 10 = _) (Or.inl rfl) (Rg.vp (b := 19) r24 (by decide)) rfl d_X6_trade_34 ?_
          refine r_nm (fun kc39 ekc39 => ?_)
          have kc39a : 100 ≤ kc39 := by omega
          have kc39b : kc39 ≤ 119 := by have := Rg.nat r24; omega
          refine r_cv (r_runV (n := 0) (As := []) (rest := []) X hw (ct_X7_miss l D dA ad v27 hI28 kc39 (by omega) (by omega)) gc_X6_75 (KD_ship (by omega) (by omega)) (by decide) rfl (by decide +kernel) ⟨rfl, rfl, Nat.le_of_ble_eq_true rfl, Nat.le_of_ble_eq_true rfl⟩ rfl hl.1 rfl (Nat.le_of_ble_eq_true rfl) ⟨Nat.zero_le _, Nat.zero_le _⟩ d_X6_trade_35) hS (fun v41 H locs hp40 hw hS => ?_)
          obtain ⟨hI42, hK43⟩ := hp40
          have hK44 : Kp v v41 := Kp.tr hK30 hK43
          obtain ⟨x45, ex45⟩ : ∃ y : Int32, y = y3 + 1 := ⟨_, rfl⟩
          refine lv_iinc (v := x45) (lv' := [(3, .int x45), (4, .int x23), (0, .ref (ad 1)), (1, .ref (ad 21)), (2, .ref (ad 30))]) hx hb d_X6_trade_38 hl (k := 4) rfl (by rw [ex45]; rfl) (by decide) rfl (fun ls hl => ?_)
          have r46 : Rg x45 1 20 := rg_add ex45 r21 (⟨by decide, by decide⟩ : Rg 1 1 1) (by decide) (by decide)
          have s47 : x45.toInt = y3.toInt + (1 : Int32).toInt := by rw [ex45]; exact i_add (by obtain ⟨_, _⟩ := r21; obtain ⟨_, _⟩ := (⟨by decide, by decide⟩ : Rg 1 1 1); omega) (by obtain ⟨_, _⟩ := r21; obtain ⟨_, _⟩ := (⟨by decide, by decide⟩ : Rg 1 1 1); omega)
          have s47l : (1 : Int32).toInt = 1 := rfl
          refine lv_goto (tgt := 2) hx hb d_X6_trade_41 (by decide) ?_
          exact ih0 x45 v41 _ _ _ (by have := s47; obtain ⟨_, _⟩ := r46; omega) (rg_w r46 (by decide) (by decide)) hI42 hK44 hw hS (lv_sub hl [2, 3, 4, 0] rfl)
  have ih0 := LL 100000
  have hK0 : Kp v v := Kp.rf v
  refine lv_iconst (v := 0) hx hb d_X6_trade_0 (by decide) ?_
  refine lv_istore_n (lv' := [(3, .int 0), (0, .ref (ad 1)), (1, .ref (ad 21)), (2, .ref (ad 30))]) hx hb d_X6_trade_1 rfl hl (by decide) rfl (fun ls hl => ?_)
  exact ih0 0 v _ _ _ (by obtain ⟨_, _⟩ := (⟨by decide, by decide⟩ : Rg 0 0 0); omega) (rg_w (⟨by decide, by decide⟩ : Rg 0 0 0) (by decide) (by decide)) hI hK0 hw hS (lv_sub hl [1, 2, 3, 0] rfl)
theorem d_X6_endDay_0 : decode c_X6_endDay 0 = .ok (.iconst 0, 1) := by decide +kernel
theorem d_X6_endDay_1 : decode c_X6_endDay 1 = .ok (.istore_n 2, 1) := by decide +kernel
theorem d_X6_endDay_2 : decode c_X6_endDay 2 = .ok (.iload_n 2, 1) := by decide +kernel
theorem d_X6_endDay_3 : decode c_X6_endDay 3 = .ok (.bipush 6, 2) := by decide +kernel
theorem d_X6_endDay_5 : decode c_X6_endDay 5 = .ok (.if_icmp .ge 19, 3) := by decide +kernel
theorem d_X6_endDay_8 : decode c_X6_endDay 8 = .ok (.aload_n 0, 1) := by decide +kernel
theorem d_X6_endDay_9 : decode c_X6_endDay 9 = .ok (.getfield 25, 3) := by decide +kernel
theorem d_X6_endDay_12 : decode c_X6_endDay 12 = .ok (.iload_n 2, 1) := by decide +kernel
theorem d_X6_endDay_13 : decode c_X6_endDay 13 = .ok (.aaload, 1) := by decide +kernel
theorem d_X6_endDay_14 : decode c_X6_endDay 14 = .ok (.iload_n 1, 1) := by decide +kernel
theorem d_X6_endDay_15 : decode c_X6_endDay 15 = .ok (.invokevirtual 130, 3) := by decide +kernel
theorem d_X6_endDay_18 : decode c_X6_endDay 18 = .ok (.iinc 2 1, 3) := by decide +kernel
theorem d_X6_endDay_21 : decode c_X6_endDay 21 = .ok (.goto (-19), 3) := by decide +kernel
theorem d_X6_endDay_24 : decode c_X6_endDay 24 = .ok (.aload_n 0, 1) := by decide +kernel
theorem d_X6_endDay_25 : decode c_X6_endDay 25 = .ok (.dup, 1) := by decide +kernel
theorem d_X6_endDay_26 : decode c_X6_endDay 26 = .ok (.getfield 36, 3) := by decide +kernel
theorem d_X6_endDay_29 : decode c_X6_endDay 29 = .ok (.iconst 1, 1) := by decide +kernel
theorem d_X6_endDay_30 : decode c_X6_endDay 30 = .ok (.iadd, 1) := by decide +kernel
theorem d_X6_endDay_31 : decode c_X6_endDay 31 = .ok (.putfield 36, 3) := by decide +kernel
theorem d_X6_endDay_34 : decode c_X6_endDay 34 = .ok (.return_, 1) := by decide +kernel
set_option maxHeartbeats 4000000 in
set_option maxRecDepth 100000 in
theorem ct_X6_endDay_1 (l : Launch) (D : va_G) (dA : Nat → ClassId) (ad : Nat → Nat) (v : tV) (hI : Inv v) (cold : Int32) (r_cold : Rg cold 0 4) : Met l m_X6_endDay [.code m_X6_endDay c_X6_endDay 3 none] ({ frames := 2, cells := 0, slots := 0, locals := 63 } : Room) (tP D dA ad v [.ref (ad 1), .int cold]) (tQv D dA ad (fun v' => Inv v' ∧ Kp v v')) 0 0 (tA ad) := by
  refine tMet (by decide) (Nat.le_of_ble_eq_true rfl) ?_
  intro p e s m below meth c ls X hr hlocks hw hl
  have X : CX p s m ([.ref (ad 1), .int cold] : List Value).toArray c c_X6_endDay N_X6 3 D dA := X
  have hx := X.1
  have hb := X.2.1
  have hS : va_S (tA ad) s.heap s.heap [] := va_S.rf
  have hl : lv_has ls 3 [(0, .ref (ad 1)), (1, .int cold)] := hl
  have LL : ∀ n : Nat, (∀ (y2 : Int32) (v1 : tV) (H : Heap) (locs : List Loc) (ls : Array Slot), (6 - y2.toInt).toNat < n → Rg y2 0 6 → Inv v1 → Kp v v1 → tI D dA ad v1 H → va_S (tA ad) s.heap H locs → lv_has ls 3 [(0, .ref (ad 1)), (1, .int cold), (2, .int y2)] → W p l e ({ frames := 2, cells := 0, slots := 0, locals := 63 } : Room) s m ([.ref (ad 1), .int cold] : List Value).toArray below meth c H locs 0 0 (MQ below (tQv D dA ad (fun v' => Inv v' ∧ Kp v v')) ([.ref (ad 1), .int cold] : List Value).toArray s 0 0 (tA ad)) (F0 m 2 ls [])) := by
    intro n
    induction n with
    | zero => intros; omega
    | succ n ih =>
      have ih0 := ih
      intro y2 v1 H locs ls hmu r_y2 hI1 hK1 hw hS hl
      refine lv_iload_n hx hb d_X6_endDay_2 rfl (lv_at hl 2 rfl) ?_
      refine lv_bipush (v := 6) hx hb d_X6_endDay_3 (by decide) ?_
      refine lv_icmp_ge (tgt := 24) hx hb d_X6_endDay_5 (by decide) (fun c1 => ?_) (fun c1 => ?_)
      · have f2 := i_le c1
        have r3 : Rg y2 6 6 := by obtain ⟨a1, a2⟩ := r_y2; obtain ⟨b1, b2⟩ := (⟨by decide, by decide⟩ : Rg 6 6 6); have f := i_le c1; exact ⟨by omega, by omega⟩
        refine lv_aload_n hx hb d_X6_endDay_24 rfl (lv_at hl 0 rfl) ?_
        refine lv_dup hx hb d_X6_endDay_25 rfl ?_
        refine r_geti X hw FL_X6_36 (rfl : KD 1 = _) rfl d_X6_endDay_26 ?_
        refine lv_topi (fun x4 ex4 => ?_)
        refine lv_iconst (v := 1) hx hb d_X6_endDay_29 (by decide) ?_
        refine lv_iadd hx hb d_X6_endDay_30 ?_
        refine lv_topi (fun x5 ex5 => ?_)
        refine r_put X hw hS FP_X6_36 (rfl : KD 1 = _) rfl ⟨rfl, rfl⟩ d_X6_endDay_31 (fun H locs hw hS => ?_)
        obtain ⟨v6, ev6⟩ : ∃ z, z = up2 v1 1 5 x5 := ⟨_, rfl⟩
        rw [← ev6] at hw
        have hI7 : Inv v6 := by rw [ev6]; exact Inv.put0 hI1 _ rfl
        have hK8 : Kp v v6 := by rw [ev6]; exact Kp.put hK1 _ rfl
        exact r_vret X hr hlocks hw hS ⟨hI7, hK8⟩ d_X6_endDay_34
      · have f9 := i_nle c1
        have r10 : Rg y2 0 5 := by obtain ⟨a1, a2⟩ := r_y2; obtain ⟨b1, b2⟩ := (⟨by decide, by decide⟩ : Rg 6 6 6); have f := i_nle c1; exact ⟨by omega, by omega⟩
        refine lv_aload_n hx hb d_X6_endDay_8 rfl (lv_at hl 0 rfl) ?_
        refine r_getr (r := 16) X hw FL_X6_25 (rfl : KD 1 = _) rfl d_X6_endDay_9 ?_
        refine lv_iload_n hx hb d_X6_endDay_12 rfl (lv_at hl 2 rfl) ?_
        refine r_aald X hw (rfl : KD 16 = _) (Or.inr (Or.inr (Or.inl rfl))) (Rg.vp (b := 5) r10 (by decide)) rfl d_X6_endDay_13 ?_
        refine r_nm (fun kc11 ekc11 => ?_)
        have kc11a : 300 ≤ kc11 := by omega
        have kc11b : kc11 ≤ 305 := by have := Rg.nat r10; omega
        refine lv_iload_n hx hb d_X6_endDay_14 rfl (lv_at hl 1 rfl) ?_
        refine r_cv (r_runV (n := 1) (As := [.int cold]) (rest := []) X hw (ct_X9_heat l D dA ad v1 hI1 kc11 cold (by omega) (by omega) r_cold) gc_X6_130 (KD_ward (by omega) (by omega)) (by decide) rfl (by decide +kernel) ⟨rfl, rfl, Nat.le_of_ble_eq_true rfl, Nat.le_of_ble_eq_true rfl⟩ rfl hl.1 rfl (Nat.le_of_ble_eq_true rfl) ⟨Nat.zero_le _, Nat.zero_le _⟩ d_X6_endDay_15) hS (fun v13 H locs hp12 hw hS => ?_)
        obtain ⟨hI14, hK15⟩ := hp12
        have hK16 : Kp v v13 := Kp.tr hK1 hK15
        obtain ⟨x17, ex17⟩ : ∃ y : Int32, y = y2 + 1 := ⟨_, rfl⟩
        refine lv_iinc (v := x17) (lv' := [(2, .int x17), (0, .ref (ad 1)), (1, .int cold)]) hx hb d_X6_endDay_18 hl (k := 2) rfl (by rw [ex17]; rfl) (by decide) rfl (fun ls hl => ?_)
        have r18 : Rg x17 1 6 := rg_add ex17 r10 (⟨by decide, by decide⟩ : Rg 1 1 1) (by decide) (by decide)
        have s19 : x17.toInt = y2.toInt + (1 : Int32).toInt := by rw [ex17]; exact i_add (by obtain ⟨_, _⟩ := r10; obtain ⟨_, _⟩ := (⟨by decide, by decide⟩ : Rg 1 1 1); omega) (by obtain ⟨_, _⟩ := r10; obtain ⟨_, _⟩ := (⟨by decide, by decide⟩ : Rg 1 1 1); omega)
        have s19l : (1 : Int32).toInt = 1 := rfl
        refine lv_goto (tgt := 2) hx hb d_X6_endDay_21 (by decide) ?_
        exact ih0 x17 v13 _ _ _ (by have := s19; obtain ⟨_, _⟩ := r18; omega) (rg_w r18 (by decide) (by decide)) hI14 hK16 hw hS (lv_sub hl [1, 2, 0] rfl)
  have ih0 := LL 100000
  have hK0 : Kp v v := Kp.rf v
  refine lv_iconst (v := 0) hx hb d_X6_endDay_0 (by decide) ?_
  refine lv_istore_n (lv' := [(2, .int 0), (0, .ref (ad 1)), (1, .int cold)]) hx hb d_X6_endDay_1 rfl hl (by decide) rfl (fun ls hl => ?_)
  exact ih0 0 v _ _ _ (by obtain ⟨_, _⟩ := (⟨by decide, by decide⟩ : Rg 0 0 0); omega) (rg_w (⟨by decide, by decide⟩ : Rg 0 0 0) (by decide) (by decide)) hI hK0 hw hS (lv_sub hl [1, 2, 0] rfl)
theorem d_X6_lackedDays_0 : decode c_X6_lackedDays 0 = .ok (.iconst 0, 1) := by decide +kernel
theorem d_X6_lackedDays_1 : decode c_X6_lackedDays 1 = .ok (.istore_n 1, 1) := by decide +kernel
theorem d_X6_lackedDays_2 : decode c_X6_lackedDays 2 = .ok (.iconst 0, 1) := by decide +kernel
theorem d_X6_lackedDays_3 : decode c_X6_lackedDays 3 = .ok (.istore_n 2, 1) := by decide +kernel
theorem d_X6_lackedDays_4 : decode c_X6_lackedDays 4 = .ok (.iload_n 2, 1) := by decide +kernel
theorem d_X6_lackedDays_5 : decode c_X6_lackedDays 5 = .ok (.bipush 6, 2) := by decide +kernel
theorem d_X6_lackedDays_7 : decode c_X6_lackedDays 7 = .ok (.if_icmp .ge 21, 3) := by decide +kernel
theorem d_X6_lackedDays_10 : decode c_X6_lackedDays 10 = .ok (.iload_n 1, 1) := by decide +kernel
theorem d_X6_lackedDays_11 : decode c_X6_lackedDays 11 = .ok (.aload_n 0, 1) := by decide +kernel
theorem d_X6_lackedDays_12 : decode c_X6_lackedDays 12 = .ok (.getfield 25, 3) := by decide +kernel
theorem d_X6_lackedDays_15 : decode c_X6_lackedDays 15 = .ok (.iload_n 2, 1) := by decide +kernel
theorem d_X6_lackedDays_16 : decode c_X6_lackedDays 16 = .ok (.aaload, 1) := by decide +kernel
theorem d_X6_lackedDays_17 : decode c_X6_lackedDays 17 = .ok (.getfield 133, 3) := by decide +kernel
theorem d_X6_lackedDays_20 : decode c_X6_lackedDays 20 = .ok (.iadd, 1) := by decide +kernel
theorem d_X6_lackedDays_21 : decode c_X6_lackedDays 21 = .ok (.istore_n 1, 1) := by decide +kernel
theorem d_X6_lackedDays_22 : decode c_X6_lackedDays 22 = .ok (.iinc 2 1, 3) := by decide +kernel
theorem d_X6_lackedDays_25 : decode c_X6_lackedDays 25 = .ok (.goto (-21), 3) := by decide +kernel
theorem d_X6_lackedDays_28 : decode c_X6_lackedDays 28 = .ok (.iload_n 1, 1) := by decide +kernel
theorem d_X6_lackedDays_29 : decode c_X6_lackedDays 29 = .ok (.ireturn, 1) := by decide +kernel
set_option maxHeartbeats 4000000 in
set_option maxRecDepth 100000 in
theorem ct_X6_lackedDays_1 (l : Launch) (D : va_G) (dA : Nat → ClassId) (ad : Nat → Nat) (v : tV) (hI : Inv v)  : Met l m_X6_lackedDays [.code m_X6_lackedDays c_X6_lackedDays 3 (some .int)] ({ frames := 1, cells := 0, slots := 0, locals := 40 } : Room) (tP D dA ad v [.ref (ad 1)]) (tQi D dA ad (fun r v' => v' = v)) 0 0 (tA ad) := by
  refine tMet (by decide) (Nat.le_of_ble_eq_true rfl) ?_
  intro p e s m below meth c ls X hr hlocks hw hl
  have X : CX p s m ([.ref (ad 1)] : List Value).toArray c c_X6_lackedDays N_X6 3 D dA := X
  have hx := X.1
  have hb := X.2.1
  have hS : va_S (tA ad) s.heap s.heap [] := va_S.rf
  have hl : lv_has ls 3 [(0, .ref (ad 1))] := hl
  have LL : ∀ n : Nat, (∀ (y1 : Int32) (y2 : Int32)  (H : Heap) (locs : List Loc) (ls : Array Slot), (6 - y2.toInt).toNat < n → Rg y2 0 6 → tI D dA ad v H → va_S (tA ad) s.heap H locs → lv_has ls 3 [(0, .ref (ad 1)), (1, .int y1), (2, .int y2)] → W p l e ({ frames := 1, cells := 0, slots := 0, locals := 40 } : Room) s m ([.ref (ad 1)] : List Value).toArray below meth c H locs 0 0 (MQ below (tQi D dA ad (fun r v' => v' = v)) ([.ref (ad 1)] : List Value).toArray s 0 0 (tA ad)) (F0 m 4 ls [])) := by
    intro n
    induction n with
    | zero => intros; omega
    | succ n ih =>
      have ih0 := ih
      intro y1 y2 H locs ls hmu r_y2 hw hS hl
      refine lv_iload_n hx hb d_X6_lackedDays_4 rfl (lv_at hl 2 rfl) ?_
      refine lv_bipush (v := 6) hx hb d_X6_lackedDays_5 (by decide) ?_
      refine lv_icmp_ge (tgt := 28) hx hb d_X6_lackedDays_7 (by decide) (fun c1 => ?_) (fun c1 => ?_)
      · have f2 := i_le c1
        have r3 : Rg y2 6 6 := by obtain ⟨a1, a2⟩ := r_y2; obtain ⟨b1, b2⟩ := (⟨by decide, by decide⟩ : Rg 6 6 6); have f := i_le c1; exact ⟨by omega, by omega⟩
        refine lv_iload_n hx hb d_X6_lackedDays_28 rfl (lv_at hl 1 rfl) ?_
        exact r_iret X hr hlocks hw hS rfl d_X6_lackedDays_29
      · have f4 := i_nle c1
        have r5 : Rg y2 0 5 := by obtain ⟨a1, a2⟩ := r_y2; obtain ⟨b1, b2⟩ := (⟨by decide, by decide⟩ : Rg 6 6 6); have f := i_nle c1; exact ⟨by omega, by omega⟩
        refine lv_iload_n hx hb d_X6_lackedDays_10 rfl (lv_at hl 1 rfl) ?_
        refine lv_aload_n hx hb d_X6_lackedDays_11 rfl (lv_at hl 0 rfl) ?_
        refine r_getr (r := 16) X hw FL_X6_25 (rfl : KD 1 = _) rfl d_X6_lackedDays_12 ?_
        refine lv_iload_n hx hb d_X6_lackedDays_15 rfl (lv_at hl 2 rfl) ?_
        refine r_aald X hw (rfl : KD 16 = _) (Or.inr (Or.inr (Or.inl rfl))) (Rg.vp (b := 5) r5 (by decide)) rfl d_X6_lackedDays_16 ?_
        refine r_nm (fun kc6 ekc6 => ?_)
        have kc6a : 300 ≤ kc6 := by omega
        have kc6b : kc6 ≤ 305 := by have := Rg.nat r5; omega
        refine r_geti X hw FL_X6_133 (KD_ward (by omega) (by omega)) (SH_ward (by omega) (by omega) (by decide)) d_X6_lackedDays_17 ?_
        refine lv_topi (fun x7 ex7 => ?_)
        refine lv_iadd hx hb d_X6_lackedDays_20 ?_
        refine lv_topi (fun x8 ex8 => ?_)
        refine lv_istore_n (lv' := [(1, .int x8), (0, .ref (ad 1)), (2, .int y2)]) hx hb d_X6_lackedDays_21 rfl hl (by decide) rfl (fun ls hl => ?_)
        obtain ⟨x9, ex9⟩ : ∃ y : Int32, y = y2 + 1 := ⟨_, rfl⟩
        refine lv_iinc (v := x9) (lv' := [(2, .int x9), (1, .int x8), (0, .ref (ad 1))]) hx hb d_X6_lackedDays_22 hl (k := 2) rfl (by rw [ex9]; rfl) (by decide) rfl (fun ls hl => ?_)
        have r10 : Rg x9 1 6 := rg_add ex9 r5 (⟨by decide, by decide⟩ : Rg 1 1 1) (by decide) (by decide)
        have s11 : x9.toInt = y2.toInt + (1 : Int32).toInt := by rw [ex9]; exact i_add (by obtain ⟨_, _⟩ := r5; obtain ⟨_, _⟩ := (⟨by decide, by decide⟩ : Rg 1 1 1); omega) (by obtain ⟨_, _⟩ := r5; obtain ⟨_, _⟩ := (⟨by decide, by decide⟩ : Rg 1 1 1); omega)
        have s11l : (1 : Int32).toInt = 1 := rfl
        refine lv_goto (tgt := 4) hx hb d_X6_lackedDays_25 (by decide) ?_
        exact ih0 x8 x9 _ _ _ (by have := s11; obtain ⟨_, _⟩ := r10; omega) (rg_w r10 (by decide) (by decide)) hw hS (lv_sub hl [2, 1, 0] rfl)
  have ih0 := LL 100000
  refine lv_iconst (v := 0) hx hb d_X6_lackedDays_0 (by decide) ?_
  refine lv_istore_n (lv' := [(1, .int 0), (0, .ref (ad 1))]) hx hb d_X6_lackedDays_1 rfl hl (by decide) rfl (fun ls hl => ?_)
  refine lv_iconst (v := 0) hx hb d_X6_lackedDays_2 (by decide) ?_
  refine lv_istore_n (lv' := [(2, .int 0), (1, .int 0), (0, .ref (ad 1))]) hx hb d_X6_lackedDays_3 rfl hl (by decide) rfl (fun ls hl => ?_)
  exact ih0 0 0 _ _ _ (by obtain ⟨_, _⟩ := (⟨by decide, by decide⟩ : Rg 0 0 0); obtain ⟨_, _⟩ := (⟨by decide, by decide⟩ : Rg 0 0 0); omega) (rg_w (⟨by decide, by decide⟩ : Rg 0 0 0) (by decide) (by decide)) hw hS (lv_sub hl [2, 1, 0] rfl)
set_option maxHeartbeats 4000000 in
set_option maxRecDepth 100000 in
theorem ct_X6_strike_3_31 (l : Launch) (D : va_G) (dA : Nat → ClassId) (ad : Nat → Nat) (v : tV) (hI : Inv v) (si : Int32) (bi : Int32) (r_si : Rg si 0 19) (r_bi : Rg bi 0 9) : Met l m_X6_strike [.code m_X6_strike c_X6_strike 8 none] ({ frames := 3, cells := 0, slots := 0, locals := 83 } : Room) (tP D dA ad v [.ref (ad 3), .int si, .int bi, .ref (ad 31)]) (tQv D dA ad (fun v' => Inv v' ∧ Kp v v')) 0 0 (tA ad) := by
  refine tMet (by decide) (Nat.le_of_ble_eq_true rfl) ?_
  intro p e s m below meth c ls X hr hlocks hw hl
  have X : CX p s m ([.ref (ad 3), .int si, .int bi, .ref (ad 31)] : List Value).toArray c c_X6_strike N_X6 8 D dA := X
  have hx := X.1
  have hb := X.2.1
  have hS : va_S (tA ad) s.heap s.heap [] := va_S.rf
  have hl : lv_has ls 8 [(0, .ref (ad 3)), (1, .int si), (2, .int bi), (3, .ref (ad 31))] := hl
  have hK0 : Kp v v := Kp.rf v
  refine lv_aload_n hx hb d_X6_strike_0 rfl (lv_at hl 0 rfl) ?_
  refine r_getr (r := 12) X hw FL_X6_11 (rfl : KD 3 = _) rfl d_X6_strike_1 ?_
  refine lv_iload_n hx hb d_X6_strike_4 rfl (lv_at hl 1 rfl) ?_
  refine r_aald X hw (rfl : KD 12 = _) (Or.inl rfl) (Rg.vp (b := 19) r_si (by decide)) rfl d_X6_strike_5 ?_
  refine r_nm (fun kc1 ekc1 => ?_)
  have kc1a : 140 ≤ kc1 := by omega
  have kc1b : kc1 ≤ 159 := by have := Rg.nat r_si; omega
  refine lv_astore (lv' := [(4, .ref (ad kc1)), (0, .ref (ad 3)), (1, .int si), (2, .int bi), (3, .ref (ad 31))]) hx hb d_X6_strike_6 hl (by decide) rfl (fun ls hl => ?_)
  refine lv_aload_n hx hb d_X6_strike_8 rfl (lv_at hl 1 rfl) ?_
  refine r_getr (r := 15) X hw FL_X6_19 (rfl : KD 3 = _) rfl d_X6_strike_9 ?_
  refine lv_iload_n hx hb d_X6_strike_12 rfl (lv_at hl 3 rfl) ?_
  refine r_aald X hw (rfl : KD 15 = _) (Or.inr (Or.inl rfl)) (Rg.vp (b := 9) r_bi (by decide)) rfl d_X6_strike_13 ?_
  refine r_nm (fun kc2 ekc2 => ?_)
  have kc2a : 220 ≤ kc2 := by omega
  have kc2b : kc2 ≤ 229 := by have := Rg.nat r_bi; omega
  refine lv_astore (lv' := [(5, .ref (ad kc2)), (4, .ref (ad kc1)), (0, .ref (ad 3)), (1, .int si), (2, .int bi), (3, .ref (ad 31))]) hx hb d_X6_strike_14 hl (by decide) rfl (fun ls hl => ?_)
  refine lv_aload hx hb d_X6_strike_16 (lv_at hl 1 rfl) ?_
  refine r_geti X hw FL_X6_86 (KD_ship (by omega) (by omega)) (SH_ship (by omega) (by omega)) d_X6_strike_18 ?_
  refine lv_topi (fun x3 ex3 => ?_)
  refine lv_aload hx hb d_X6_strike_21 (lv_at hl 0 rfl) ?_
  refine r_geti X hw FL_X6_104 (KD_buyer (by omega) (by omega)) (SH_buyer (by omega) (by omega)) d_X6_strike_23 ?_
  refine lv_topi (fun x4 ex4 => ?_)
  refine va_mmin hx hb (X.2.2.1.trans hl.1.symm) X.2.2.2.1 (X.2.2.2.2.1 _ ml_X6_107) (X.2.2.2.2.1 _ ml_mins) (X.2.2.2.2.1 _ ml_mi) (X.2.2.2.2.1 _ ml_minc) (Nat.le_of_ble_eq_true rfl) (Nat.le_of_ble_eq_true rfl) (Nat.zero_le _) (Nat.zero_le _) d_X6_strike_26 ?_
  refine lv_topi (fun x5 ex5 => ?_)
  refine lv_istore (lv' := [(6, .int x5), (5, .ref (ad kc2)), (4, .ref (ad kc1)), (0, .ref (ad 3)), (1, .int si), (2, .int bi), (3, .ref (ad 31))]) hx hb d_X6_strike_29 hl (by decide) rfl (fun ls hl => ?_)
  refine lv_aload hx hb d_X6_strike_31 (lv_at hl 2 rfl) ?_
  refine r_geti X hw FL_X6_113 (KD_ship (by omega) (by omega)) (SH_ship (by omega) (by omega)) d_X6_strike_33 ?_
  refine lv_topi (fun x6 ex6 => ?_)
  refine lv_aload hx hb d_X6_strike_36 (lv_at hl 1 rfl) ?_
  refine r_geti X hw FL_X6_97 (KD_buyer (by omega) (by omega)) (SH_buyer (by omega) (by omega)) d_X6_strike_38 ?_
  refine lv_topi (fun x7 ex7 => ?_)
  refine lv_iadd hx hb d_X6_strike_41 ?_
  refine lv_topi (fun x8 ex8 => ?_)
  refine lv_iconst (v := 2) hx hb d_X6_strike_42 (by decide) ?_
  refine lv_idiv hx hb d_X6_strike_43 (by decide) ?_
  refine lv_topi (fun x9 ex9 => ?_)
  refine lv_istore (lv' := [(7, .int x9), (6, .int x5), (5, .ref (ad kc2)), (4, .ref (ad kc1)), (0, .ref (ad 3)), (1, .int si), (2, .int bi), (3, .ref (ad 31))]) hx hb d_X6_strike_44 hl (by decide) rfl (fun ls hl => ?_)
  refine lv_aload hx hb d_X6_strike_46 (lv_at hl 3 rfl) ?_
  refine lv_iload hx hb d_X6_strike_48 (lv_at hl 1 rfl) ?_
  refine lv_iload hx hb d_X6_strike_50 (lv_at hl 0 rfl) ?_
  refine r_cv (r_runV (n := 2) (As := [.int x5, .int x9]) (rest := []) X hw (ct_X7_deliver l D dA ad v hI kc1 x5 x9 (by omega) (by omega)) gc_X6_116 (KD_ship (by omega) (by omega)) (by decide) rfl (by decide +kernel) ⟨rfl, rfl, Nat.le_of_ble_eq_true rfl, Nat.le_of_ble_eq_true rfl⟩ rfl hl.1 rfl (Nat.le_of_ble_eq_true rfl) ⟨Nat.zero_le _, Nat.zero_le _⟩ d_X6_strike_52) hS (fun v11 H locs hp10 hw hS => ?_)
  obtain ⟨hI12, hK13⟩ := hp10
  have hK14 : Kp v v11 := Kp.tr hK0 hK13
  refine lv_aload hx hb d_X6_strike_55 (lv_at hl 2 rfl) ?_
  refine lv_dup hx hb d_X6_strike_57 rfl ?_
  refine r_geti X hw FL_X6_104 (KD_buyer (by omega) (by omega)) (SH_buyer (by omega) (by omega)) d_X6_strike_58 ?_
  refine lv_topi (fun x15 ex15 => ?_)
  refine lv_iload hx hb d_X6_strike_61 (lv_at hl 1 rfl) ?_
  refine lv_isub hx hb d_X6_strike_63 ?_
  refine lv_topi (fun x16 ex16 => ?_)
  refine r_put X hw hS FP_X6_104 (KD_buyer (by omega) (by omega)) (SH_buyer (by omega) (by omega)) ⟨rfl, rfl⟩ d_X6_strike_64 (fun H locs hw hS => ?_)
  obtain ⟨v17, ev17⟩ : ∃ z, z = up2 v11 kc2 2 x16 := ⟨_, rfl⟩
  rw [← ev17] at hw
  have hI18 : Inv v17 := by rw [ev17]; exact Inv.put0 hI12 _ (RG_buyer (by omega) (by omega) (by decide))
  have hK19 : Kp v v17 := by rw [ev17]; exact Kp.put hK14 _ (PS_buyer (by omega) (by omega))
  refine lv_aload_n hx hb d_X6_strike_67 rfl (lv_at hl 4 rfl) ?_
  refine r_getr (r := 18) X hw FL_X6_25 (rfl : KD 3 = _) rfl d_X6_strike_68 ?_
  refine lv_aload hx hb d_X6_strike_71 (lv_at hl 2 rfl) ?_
  refine r_geti X hw FL_X6_119 (KD_buyer (by omega) (by omega)) (SH_buyer (by omega) (by omega)) d_X6_strike_73 ?_
  refine lv_topi (fun x20 ex20 => ?_)
  have r21 : Rg x20 0 5 := by rw [ex20]; exact hI18 _ _ _ _ (RG_buyer0 (by omega) (by omega))
  have hm22 : v17 kc2 0 = x20 := ex20.symm
  refine r_aald X hw (rfl : KD 18 = _) (Or.inr (Or.inr (Or.inl rfl))) (Rg.vp (b := 5) r21 (by decide)) rfl d_X6_strike_76 ?_
  refine r_nm (fun kc23 ekc23 => ?_)
  have kc23a : 312 ≤ kc23 := by omega
  have kc23b : kc23 ≤ 317 := by have := Rg.nat r21; omega
  refine lv_iload hx hb d_X6_strike_77 (lv_at hl 1 rfl) ?_
  refine r_cv (r_runV (n := 1) (As := [.int x5]) (rest := []) X hw (ct_X9_receive l D dA ad v17 hI18 kc23 x5 (by omega) (by omega)) gc_X6_122 (KD_ward (by omega) (by omega)) (by decide) rfl (by decide +kernel) ⟨rfl, rfl, Nat.le_of_ble_eq_true rfl, Nat.le_of_ble_eq_true rfl⟩ rfl hl.1 rfl (Nat.le_of_ble_eq_true rfl) ⟨Nat.zero_le _, Nat.zero_le _⟩ d_X6_strike_79) hS (fun v25 H locs hp24 hw hS => ?_)
  obtain ⟨hI26, hK27⟩ := hp24
  have hK28 : Kp v v25 := Kp.tr hK19 hK27
  refine lv_aload_n hx hb d_X6_strike_82 rfl (lv_at hl 7 rfl) ?_
  refine lv_iload_n hx hb d_X6_strike_83 rfl (lv_at hl 5 rfl) ?_
  refine lv_iload_n hx hb d_X6_strike_84 rfl (lv_at hl 6 rfl) ?_
  refine lv_iload hx hb d_X6_strike_85 (lv_at hl 1 rfl) ?_
  refine lv_iload hx hb d_X6_strike_87 (lv_at hl 0 rfl) ?_
  refine r_cv (r_runV (n := 4) (As := [.int si, .int bi, .int x5, .int x9]) (rest := []) X hw (ct_X1_enter_31 l D dA ad v25 hI26 si bi x5 x9) gc_X6_126 (rfl : KD 31 = _) (by decide) rfl (by decide +kernel) ⟨rfl, rfl, Nat.le_of_ble_eq_true rfl, Nat.le_of_ble_eq_true rfl⟩ rfl hl.1 rfl (Nat.le_of_ble_eq_true rfl) ⟨Nat.zero_le _, Nat.zero_le _⟩ d_X6_strike_89) hS (fun v30 H locs hp29 hw hS => ?_)
  obtain ⟨hI31, hK32⟩ := hp29
  have hK33 : Kp v v30 := Kp.tr hK28 hK32
  exact r_vret X hr hlocks hw hS ⟨hI31, hK33⟩ d_X6_strike_92
set_option maxHeartbeats 4000000 in
set_option maxRecDepth 100000 in
theorem ct_X6_sell_3_31 (l : Launch) (D : va_G) (dA : Nat → ClassId) (ad : Nat → Nat) (v : tV) (hI : Inv v) (si : Int32) (r_si : Rg si 0 19) : Met l m_X6_sell [.code m_X6_sell c_X6_sell 7 (some .boolean)] ({ frames := 4, cells := 0, slots := 0, locals := 110 } : Room) (tP D dA ad v [.ref (ad 3), .int si, .ref (ad 31)]) (tQi D dA ad (fun r v' => Inv v' ∧ Kp v v' ∧ Rg r 0 1)) 0 0 (tA ad) := by
  refine tMet (by decide) (Nat.le_of_ble_eq_true rfl) ?_
  intro p e s m below meth c ls X hr hlocks hw hl
  have X : CX p s m ([.ref (ad 3), .int si, .ref (ad 31)] : List Value).toArray c c_X6_sell N_X6 7 D dA := X
  have hx := X.1
  have hb := X.2.1
  have hS : va_S (tA ad) s.heap s.heap [] := va_S.rf
  have hl : lv_has ls 7 [(0, .ref (ad 3)), (1, .int si), (2, .ref (ad 31))] := hl
  have LL : ∀ n : Nat, (∀ (q3 : Nat) (y4 : Int32) (y5 : Int32) (v1 : tV) (H : Heap) (locs : List Loc) (ls : Array Slot), (10 - y5.toInt).toNat < n → 140 ≤ q3 → q3 < 160 → Rg y4 0 1 → Rg y5 0 10 → Inv v1 → Kp v v1 → tI D dA ad v1 H → va_S (tA ad) s.heap H locs → lv_has ls 7 [(0, .ref (ad 3)), (1, .int si), (2, .ref (ad 31)), (3, .ref (ad q3)), (4, .int y4), (5, .int y5)] → W p l e ({ frames := 4, cells := 0, slots := 0, locals := 110 } : Room) s m ([.ref (ad 3), .int si, .ref (ad 31)] : List Value).toArray below meth c H locs 0 0 (MQ below (tQi D dA ad (fun r v' => Inv v' ∧ Kp v v' ∧ Rg r 0 1)) ([.ref (ad 3), .int si, .ref (ad 31)] : List Value).toArray s 0 0 (tA ad)) (F0 m 13 ls [])) := by
    intro n
    induction n with
    | zero => intros; omega
    | succ n ih =>
      have ih0 := ih
      intro q3 y4 y5 v1 H locs ls hmu q3a q3b r_y4 r_y5 hI1 hK1 hw hS hl
      refine lv_iload hx hb d_X6_sell_13 (lv_at hl 5 rfl) ?_
      refine lv_aload_n hx hb d_X6_sell_15 rfl (lv_at hl 0 rfl) ?_
      refine r_geti X hw FL_X6_33 (rfl : KD 3 = _) rfl d_X6_sell_16 ?_
      refine lv_topi (fun x1 ex1 => ?_)
      have r2 : Rg x1 0 10 := by rw [ex1]; exact hI1 _ _ _ _ rfl
      have hm3 : v1 3 4 = x1 := ex1.symm
      refine lv_icmp_ge (tgt := 62) hx hb d_X6_sell_19 (by decide) (fun c4 => ?_) (fun c4 => ?_)
      · have f5 := i_le c4
        refine lv_iload hx hb d_X6_sell_62 (lv_at hl 4 rfl) ?_
        exact r_zret X hr hlocks hw hS (narz r_y4) ⟨hI1, hK1, r_y4⟩ d_X6_sell_64
      · have f6 := i_nle c4
        have r7 : Rg y5 0 9 := by obtain ⟨a1, a2⟩ := r_y5; obtain ⟨b1, b2⟩ := r2; have f := i_nle c4; exact ⟨by omega, by omega⟩
        have r8 : Rg x1 1 10 := by obtain ⟨a1, a2⟩ := r_y5; obtain ⟨b1, b2⟩ := r2; have f := i_nle c4; exact ⟨by omega, by omega⟩
        refine lv_aload_n hx hb d_X6_sell_22 rfl (lv_at hl 3 rfl) ?_
        refine r_geti X hw FL_X6_86 (KD_ship (by omega) (by omega)) (SH_ship (by omega) (by omega)) d_X6_sell_23 ?_
        refine lv_topi (fun x9 ex9 => ?_)
        refine lv_if_le (tgt := 62) hx hb d_X6_sell_26 (by decide) (fun c10 => ?_) (fun c10 => ?_)
        · have f11 := i_le c10
          have r12 : Rg x9 (-2147483648) 0 := by obtain ⟨a1, a2⟩ := (rg_any x9); obtain ⟨b1, b2⟩ := (⟨by decide, by decide⟩ : Rg 0 0 0); have f := i_le c10; exact ⟨by omega, by omega⟩
          refine lv_iload hx hb d_X6_sell_62 (lv_at hl 4 rfl) ?_
          exact r_zret X hr hlocks hw hS (narz r_y4) ⟨hI1, hK1, r_y4⟩ d_X6_sell_64
        · have f13 := i_nle c10
          have r14 : Rg x9 1 2147483647 := by obtain ⟨a1, a2⟩ := (rg_any x9); obtain ⟨b1, b2⟩ := (⟨by decide, by decide⟩ : Rg 0 0 0); have f := i_nle c10; exact ⟨by omega, by omega⟩
          refine lv_aload_n hx hb d_X6_sell_29 rfl (lv_at hl 0 rfl) ?_
          refine lv_aload_n hx hb d_X6_sell_30 rfl (lv_at hl 3 rfl) ?_
          refine r_ci (r_runV (n := 1) (As := [.ref (ad q3)]) (rest := []) X hw (ct_X6_bestBuyer_3 l D dA ad v1 hI1 q3 (by omega) (by omega)) gc_X6_89 (rfl : KD 3 = _) (by decide) rfl (by decide +kernel) ⟨rfl, rfl, Nat.le_of_ble_eq_true rfl, Nat.le_of_ble_eq_true rfl⟩ rfl hl.1 rfl (Nat.le_of_ble_eq_true rfl) ⟨Nat.zero_le _, Nat.zero_le _⟩ d_X6_sell_31) hS (fun x16 v17 H locs hp15 hw hS => ?_)
          obtain ⟨ev17, hp15⟩ := hp15
          rw [ev17] at hw
          refine lv_istore (lv' := [(6, .int x16), (0, .ref (ad 3)), (1, .int si), (2, .ref (ad 31)), (3, .ref (ad q3)), (4, .int y4), (5, .int y5)]) hx hb d_X6_sell_34 hl (by decide) rfl (fun ls hl => ?_)
          refine lv_iload hx hb d_X6_sell_36 (lv_at hl 0 rfl) ?_
          refine lv_iconst (v := -1) hx hb d_X6_sell_38 (by decide) ?_
          refine lv_icmp_ne (tgt := 45) hx hb d_X6_sell_39 (by decide) (fun c18 => ?_) (fun c18 => ?_)
          · have f19 := i_ne c18
            have r20 : Rg x16 0 9 := by obtain ⟨a1, a2⟩ := hp15; obtain ⟨b1, b2⟩ := (⟨by decide, by decide⟩ : Rg (-1) (-1) (-1)); have f := i_ne c18; exact ⟨by omega, by omega⟩
            refine lv_aload_n hx hb d_X6_sell_45 rfl (lv_at hl 1 rfl) ?_
            refine lv_iload_n hx hb d_X6_sell_46 rfl (lv_at hl 2 rfl) ?_
            refine lv_iload hx hb d_X6_sell_47 (lv_at hl 0 rfl) ?_
            refine lv_aload_n hx hb d_X6_sell_49 rfl (lv_at hl 3 rfl) ?_
            refine r_cv (r_runV (n := 3) (As := [.int si, .int x16, .ref (ad 31)]) (rest := []) X hw (ct_X6_strike_3_31 l D dA ad v1 hI1 si x16 r_si r20) gc_X6_93 (rfl : KD 3 = _) (by decide) rfl (by decide +kernel) ⟨rfl, rfl, Nat.le_of_ble_eq_true rfl, Nat.le_of_ble_eq_true rfl⟩ rfl hl.1 rfl (Nat.le_of_ble_eq_true rfl) ⟨Nat.zero_le _, Nat.zero_le _⟩ d_X6_sell_50) hS (fun v22 H locs hp21 hw hS => ?_)
            obtain ⟨hI23, hK24⟩ := hp21
            have hK25 : Kp v v22 := Kp.tr hK1 hK24
            refine lv_iconst (v := 1) hx hb d_X6_sell_53 (by decide) ?_
            refine lv_istore (lv' := [(4, .int 1), (6, .int x16), (0, .ref (ad 3)), (1, .int si), (2, .ref (ad 31)), (3, .ref (ad q3)), (5, .int y5)]) hx hb d_X6_sell_54 hl (by decide) rfl (fun ls hl => ?_)
            obtain ⟨x26, ex26⟩ : ∃ y : Int32, y = y5 + 1 := ⟨_, rfl⟩
            refine lv_iinc (v := x26) (lv' := [(5, .int x26), (4, .int 1), (6, .int x16), (0, .ref (ad 3)), (1, .int si), (2, .ref (ad 31)), (3, .ref (ad q3))]) hx hb d_X6_sell_56 hl (k := 6) rfl (by rw [ex26]; rfl) (by decide) rfl (fun ls hl => ?_)
            have r27 : Rg x26 1 10 := rg_add ex26 r7 (⟨by decide, by decide⟩ : Rg 1 1 1) (by decide) (by decide)
            have s28 : x26.toInt = y5.toInt + (1 : Int32).toInt := by rw [ex26]; exact i_add (by obtain ⟨_, _⟩ := r7; obtain ⟨_, _⟩ := (⟨by decide, by decide⟩ : Rg 1 1 1); omega) (by obtain ⟨_, _⟩ := r7; obtain ⟨_, _⟩ := (⟨by decide, by decide⟩ : Rg 1 1 1); omega)
            have s28l : (1 : Int32).toInt = 1 := rfl
            refine lv_goto (tgt := 13) hx hb d_X6_sell_59 (by decide) ?_
            exact ih0 q3 1 x26 v22 _ _ _ (by have := s28; obtain ⟨_, _⟩ := (⟨by decide, by decide⟩ : Rg 1 1 1); obtain ⟨_, _⟩ := r27; omega) (by omega) (by omega) (rg_w (⟨by decide, by decide⟩ : Rg 1 1 1) (by decide) (by decide)) (rg_w r27 (by decide) (by decide)) hI23 hK25 hw hS (lv_sub hl [3, 4, 5, 6, 1, 0] rfl)
          · have f29 := i_eq c18
            have r30 : Rg x16 (-1) (-1) := by obtain ⟨a1, a2⟩ := hp15; obtain ⟨b1, b2⟩ := (⟨by decide, by decide⟩ : Rg (-1) (-1) (-1)); have f := i_eq c18; exact ⟨by omega, by omega⟩
            refine lv_goto (tgt := 62) hx hb d_X6_sell_42 (by decide) ?_
            refine lv_iload hx hb d_X6_sell_62 (lv_at hl 5 rfl) ?_
            exact r_zret X hr hlocks hw hS (narz r_y4) ⟨hI1, hK1, r_y4⟩ d_X6_sell_64
  have ih0 := LL 100000
  have hK0 : Kp v v := Kp.rf v
  refine lv_aload_n hx hb d_X6_sell_0 rfl (lv_at hl 0 rfl) ?_
  refine r_getr (r := 12) X hw FL_X6_11 (rfl : KD 3 = _) rfl d_X6_sell_1 ?_
  refine lv_iload_n hx hb d_X6_sell_4 rfl (lv_at hl 1 rfl) ?_
  refine r_aald X hw (rfl : KD 12 = _) (Or.inl rfl) (Rg.vp (b := 19) r_si (by decide)) rfl d_X6_sell_5 ?_
  refine r_nm (fun kc31 ekc31 => ?_)
  have kc31a : 140 ≤ kc31 := by omega
  have kc31b : kc31 ≤ 159 := by have := Rg.nat r_si; omega
  refine lv_astore_n (lv' := [(3, .ref (ad kc31)), (0, .ref (ad 3)), (1, .int si), (2, .ref (ad 31))]) hx hb d_X6_sell_6 rfl hl (by decide) rfl (fun ls hl => ?_)
  refine lv_iconst (v := 0) hx hb d_X6_sell_7 (by decide) ?_
  refine lv_istore (lv' := [(4, .int 0), (3, .ref (ad kc31)), (0, .ref (ad 3)), (1, .int si), (2, .ref (ad 31))]) hx hb d_X6_sell_8 hl (by decide) rfl (fun ls hl => ?_)
  refine lv_iconst (v := 0) hx hb d_X6_sell_10 (by decide) ?_
  refine lv_istore (lv' := [(5, .int 0), (4, .int 0), (3, .ref (ad kc31)), (0, .ref (ad 3)), (1, .int si), (2, .ref (ad 31))]) hx hb d_X6_sell_11 hl (by decide) rfl (fun ls hl => ?_)
  exact ih0 kc31 0 0 v _ _ _ (by obtain ⟨_, _⟩ := (⟨by decide, by decide⟩ : Rg 0 0 0); obtain ⟨_, _⟩ := (⟨by decide, by decide⟩ : Rg 0 0 0); omega) (by omega) (by omega) (rg_w (⟨by decide, by decide⟩ : Rg 0 0 0) (by decide) (by decide)) (rg_w (⟨by decide, by decide⟩ : Rg 0 0 0) (by decide) (by decide)) hI hK0 hw hS (lv_sub hl [3, 4, 5, 2, 1, 0] rfl)
set_option maxHeartbeats 4000000 in
set_option maxRecDepth 100000 in
theorem ct_X6_trade_3_20_31 (l : Launch) (D : va_G) (dA : Nat → ClassId) (ad : Nat → Nat) (v : tV) (hI : Inv v)  : Met l m_X6_trade [.code m_X6_trade c_X6_trade 5 none] ({ frames := 5, cells := 0, slots := 0, locals := 136 } : Room) (tP D dA ad v [.ref (ad 3), .ref (ad 20), .ref (ad 31)]) (tQv D dA ad (fun v' => Inv v' ∧ Kp v v')) 0 0 (tA ad) := by
  refine tMet (by decide) (Nat.le_of_ble_eq_true rfl) ?_
  intro p e s m below meth c ls X hr hlocks hw hl
  have X : CX p s m ([.ref (ad 3), .ref (ad 20), .ref (ad 31)] : List Value).toArray c c_X6_trade N_X6 5 D dA := X
  have hx := X.1
  have hb := X.2.1
  have hS : va_S (tA ad) s.heap s.heap [] := va_S.rf
  have hl : lv_has ls 5 [(0, .ref (ad 3)), (1, .ref (ad 20)), (2, .ref (ad 31))] := hl
  have LL : ∀ n : Nat, (∀ (y3 : Int32) (v1 : tV) (H : Heap) (locs : List Loc) (ls : Array Slot), (20 - y3.toInt).toNat < n → Rg y3 0 20 → Inv v1 → Kp v v1 → tI D dA ad v1 H → va_S (tA ad) s.heap H locs → lv_has ls 5 [(0, .ref (ad 3)), (1, .ref (ad 20)), (2, .ref (ad 31)), (3, .int y3)] → W p l e ({ frames := 5, cells := 0, slots := 0, locals := 136 } : Room) s m ([.ref (ad 3), .ref (ad 20), .ref (ad 31)] : List Value).toArray below meth c H locs 0 0 (MQ below (tQv D dA ad (fun v' => Inv v' ∧ Kp v v')) ([.ref (ad 3), .ref (ad 20), .ref (ad 31)] : List Value).toArray s 0 0 (tA ad)) (F0 m 2 ls [])) := by
    intro n
    induction n with
    | zero => intros; omega
    | succ n ih =>
      have ih0 := ih
      intro y3 v1 H locs ls hmu r_y3 hI1 hK1 hw hS hl
      refine lv_iload_n hx hb d_X6_trade_2 rfl (lv_at hl 3 rfl) ?_
      refine lv_aload_n hx hb d_X6_trade_3 rfl (lv_at hl 1 rfl) ?_
      refine r_geti X hw FL_X6_63 (rfl : KD 20 = _) rfl d_X6_trade_4 ?_
      refine lv_topi (fun x1 ex1 => ?_)
      have r2 : Rg x1 0 20 := by rw [ex1]; exact hI1 _ _ _ _ rfl
      have hm3 : v1 20 2 = x1 := ex1.symm
      refine lv_icmp_ge (tgt := 44) hx hb d_X6_trade_7 (by decide) (fun c4 => ?_) (fun c4 => ?_)
      · have f5 := i_le c4
        refine lv_aload_n hx hb d_X6_trade_44 rfl (lv_at hl 2 rfl) ?_
        refine r_geti X hw FL_X6_78 (rfl : KD 31 = _) rfl d_X6_trade_45 ?_
        refine lv_topi (fun x6 ex6 => ?_)
        have hm7 : v1 31 5 = x6 := ex6.symm
        refine lv_if_le (tgt := 64) hx hb d_X6_trade_48 (by decide) (fun c8 => ?_) (fun c8 => ?_)
        · have f9 := i_le c8
          have r10 : Rg x6 (-2147483648) 0 := by obtain ⟨a1, a2⟩ := (rg_any x6); obtain ⟨b1, b2⟩ := (⟨by decide, by decide⟩ : Rg 0 0 0); have f := i_le c8; exact ⟨by omega, by omega⟩
          exact r_vret X hr hlocks hw hS ⟨hI1, hK1⟩ d_X6_trade_64
        · have f11 := i_nle c8
          have r12 : Rg x6 1 2147483647 := by obtain ⟨a1, a2⟩ := (rg_any x6); obtain ⟨b1, b2⟩ := (⟨by decide, by decide⟩ : Rg 0 0 0); have f := i_nle c8; exact ⟨by omega, by omega⟩
          refine lv_aload_n hx hb d_X6_trade_51 rfl (lv_at hl 0 rfl) ?_
          refine lv_aload_n hx hb d_X6_trade_52 rfl (lv_at hl 2 rfl) ?_
          refine r_geti X hw FL_X6_83 (rfl : KD 31 = _) rfl d_X6_trade_53 ?_
          refine lv_topi (fun x13 ex13 => ?_)
          refine lv_aload_n hx hb d_X6_trade_56 rfl (lv_at hl 2 rfl) ?_
          refine r_geti X hw FL_X6_78 (rfl : KD 31 = _) rfl d_X6_trade_57 ?_
          rw [hm7]
          refine lv_idiv hx hb d_X6_trade_60 (by intro h; have := i_eq h; obtain ⟨b1, b2⟩ := r12; have z0 : (0 : Int32).toInt = 0 := rfl; omega) ?_
          refine lv_topi (fun x14 ex14 => ?_)
          refine r_put X hw hS FP_X6_39 (rfl : KD 3 = _) rfl ⟨rfl, rfl⟩ d_X6_trade_61 (fun H locs hw hS => ?_)
          obtain ⟨v15, ev15⟩ : ∃ z, z = up2 v1 3 6 x14 := ⟨_, rfl⟩
          rw [← ev15] at hw
          have hI16 : Inv v15 := by rw [ev15]; exact Inv.put0 hI1 _ rfl
          have hK17 : Kp v v15 := by rw [ev15]; exact Kp.put hK1 _ rfl
          have hm18 : v15 20 2 = x1 := by rw [ev15, up2_n _ _ (by omega)]; exact hm3
          have hm19 : v15 31 5 = x6 := by rw [ev15, up2_n _ _ (by omega)]; exact hm7
          exact r_vret X hr hlocks hw hS ⟨hI16, hK17⟩ d_X6_trade_64
      · have f20 := i_nle c4
        have r21 : Rg y3 0 19 := by obtain ⟨a1, a2⟩ := r_y3; obtain ⟨b1, b2⟩ := r2; have f := i_nle c4; exact ⟨by omega, by omega⟩
        have r22 : Rg x1 1 20 := by obtain ⟨a1, a2⟩ := r_y3; obtain ⟨b1, b2⟩ := r2; have f := i_nle c4; exact ⟨by omega, by omega⟩
        refine lv_aload_n hx hb d_X6_trade_10 rfl (lv_at hl 1 rfl) ?_
        refine r_getr (r := 22) X hw FL_X6_68 (rfl : KD 20 = _) rfl d_X6_trade_11 ?_
        refine lv_iload_n hx hb d_X6_trade_14 rfl (lv_at hl 3 rfl) ?_
        refine r_iald X hw (rfl : KD 22 = _) (Rg.vp (b := 19) r21 (by decide)) rfl d_X6_trade_15 ?_
        refine lv_topi (fun x23 ex23 => ?_)
        have r24 : Rg x23 0 19 := by rw [ex23]; exact hI1 _ _ _ _ rfl
        refine lv_istore (lv' := [(4, .int x23), (0, .ref (ad 3)), (1, .ref (ad 20)), (2, .ref (ad 31)), (3, .int y3)]) hx hb d_X6_trade_16 hl (by decide) rfl (fun ls hl => ?_)
        refine lv_aload_n hx hb d_X6_trade_18 rfl (lv_at hl 1 rfl) ?_
        refine lv_iload hx hb d_X6_trade_19 (lv_at hl 0 rfl) ?_
        refine lv_aload_n hx hb d_X6_trade_21 rfl (lv_at hl 3 rfl) ?_
        refine r_ci (r_runV (n := 2) (As := [.int x23, .ref (ad 31)]) (rest := []) X hw (ct_X6_sell_3_31 l D dA ad v1 hI1 x23 r24) gc_X6_71 (rfl : KD 3 = _) (by decide) rfl (by decide +kernel) ⟨rfl, rfl, Nat.le_of_ble_eq_true rfl, Nat.le_of_ble_eq_true rfl⟩ rfl hl.1 rfl (Nat.le_of_ble_eq_true rfl) ⟨Nat.zero_le _, Nat.zero_le _⟩ d_X6_trade_22) hS (fun x26 v27 H locs hp25 hw hS => ?_)
        obtain ⟨hI28, hK29, hp25⟩ := hp25
        have hK30 : Kp v v27 := Kp.tr hK1 hK29
        refine lv_if_ne (tgt := 38) hx hb d_X6_trade_25 (by decide) (fun c31 => ?_) (fun c31 => ?_)
        · have f32 := i_ne c31
          have r33 : Rg x26 1 1 := by obtain ⟨a1, a2⟩ := hp25; obtain ⟨b1, b2⟩ := (⟨by decide, by decide⟩ : Rg 0 0 0); have f := i_ne c31; exact ⟨by omega, by omega⟩
          obtain ⟨x34, ex34⟩ : ∃ y : Int32, y = y3 + 1 := ⟨_, rfl⟩
          refine lv_iinc (v := x34) (lv' := [(3, .int x34), (4, .int x23), (0, .ref (ad 3)), (1, .ref (ad 20)), (2, .ref (ad 31))]) hx hb d_X6_trade_38 hl (k := 4) rfl (by rw [ex34]; rfl) (by decide) rfl (fun ls hl => ?_)
          have r35 : Rg x34 1 20 := rg_add ex34 r21 (⟨by decide, by decide⟩ : Rg 1 1 1) (by decide) (by decide)
          have s36 : x34.toInt = y3.toInt + (1 : Int32).toInt := by rw [ex34]; exact i_add (by obtain ⟨_, _⟩ := r21; obtain ⟨_, _⟩ := (⟨by decide, by decide⟩ : Rg 1 1 1); omega) (by obtain ⟨_, _⟩ := r21; obtain ⟨_, _⟩ := (⟨by decide, by decide⟩ : Rg 1 1 1); omega)
          have s36l : (1 : Int32).toInt = 1 := rfl
          refine lv_goto (tgt := 2) hx hb d_X6_trade_41 (by decide) ?_
          exact ih0 x34 v27 _ _ _ (by have := s36; obtain ⟨_, _⟩ := r35; omega) (rg_w r35 (by decide) (by decide)) hI28 hK30 hw hS (lv_sub hl [2, 3, 4, 0] rfl)
        · have f37 := i_eq c31
          have r38 : Rg x26 0 0 := by obtain ⟨a1, a2⟩ := hp25; obtain ⟨b1, b2⟩ := (⟨by decide, by decide⟩ : Rg 0 0 0); have f := i_eq c31; exact ⟨by omega, by omega⟩
          refine lv_aload_n hx hb d_X6_trade_28 rfl (lv_at hl 1 rfl) ?_
          refine r_getr (r := 12) X hw FL_X6_11 (rfl : KD 3 = _) rfl d_X6_trade_29 ?_
          refine lv_iload hx hb d_X6_trade_32 (lv_at hl 0 rfl) ?_
          refine r_aald X hw (rfl : KD 12 = _) (Or.inl rfl) (Rg.vp (b := 19) r24 (by decide)) rfl d_X6_trade_34 ?_
          refine r_nm (fun kc39 ekc39 => ?_)
          have kc39a : 140 ≤ kc39 := by omega
          have kc39b : kc39 ≤ 159 := by have := Rg.nat r24; omega
          refine r_cv (r_runV (n := 0) (As := []) (rest := []) X hw (ct_X7_miss l D dA ad v27 hI28 kc39 (by omega) (by omega)) gc_X6_75 (KD_ship (by omega) (by omega)) (by decide) rfl (by decide +kernel) ⟨rfl, rfl, Nat.le_of_ble_eq_true rfl, Nat.le_of_ble_eq_true rfl⟩ rfl hl.1 rfl (Nat.le_of_ble_eq_true rfl) ⟨Nat.zero_le _, Nat.zero_le _⟩ d_X6_trade_35) hS (fun v41 H locs hp40 hw hS => ?_)
          obtain ⟨hI42, hK43⟩ := hp40
          have hK44 : Kp v v41 := Kp.tr hK30 hK43
          obtain ⟨x45, ex45⟩ : ∃ y : Int32, y = y3 + 1 := ⟨_, rfl⟩
          refine lv_iinc (v := x45) (lv' := [(3, .int x45), (4, .int x23), (0, .ref (ad 3)), (1, .ref (ad 20)), (2, .ref (ad 31))]) hx hb d_X6_trade_38 hl (k := 4) rfl (by rw [ex45]; rfl) (by decide) rfl (fun ls hl => ?_)
          have r46 : Rg x45 1 20 := rg_add ex45 r21 (⟨by decide, by decide⟩ : Rg 1 1 1) (by decide) (by decide)
          have s47 : x45.toInt = y3.toInt + (1 : Int32).toInt := by rw [ex45]; exact i_add (by obtain ⟨_, _⟩ := r21; obtain ⟨_, _⟩ := (⟨by decide, by decide⟩ : Rg 1 1 1); omega) (by obtain ⟨_, _⟩ := r21; obtain ⟨_, _⟩ := (⟨by decide, by decide⟩ : Rg 1 1 1); omega)
          have s47l : (1 : Int32).toInt = 1 := rfl
          refine lv_goto (tgt := 2) hx hb d_X6_trade_41 (by decide) ?_
          exact ih0 x45 v41 _ _ _ (by have := s47; obtain ⟨_, _⟩ := r46; omega) (rg_w r46 (by decide) (by decide)) hI42 hK44 hw hS (lv_sub hl [2, 3, 4, 0] rfl)
  have ih0 := LL 100000
  have hK0 : Kp v v := Kp.rf v
  refine lv_iconst (v := 0) hx hb d_X6_trade_0 (by decide) ?_
  refine lv_istore_n (lv' := [(3, .int 0), (0, .ref (ad 3)), (1, .ref (ad 20)), (2, .ref (ad 31))]) hx hb d_X6_trade_1 rfl hl (by decide) rfl (fun ls hl => ?_)
  exact ih0 0 v _ _ _ (by obtain ⟨_, _⟩ := (⟨by decide, by decide⟩ : Rg 0 0 0); omega) (rg_w (⟨by decide, by decide⟩ : Rg 0 0 0) (by decide) (by decide)) hI hK0 hw hS (lv_sub hl [1, 2, 3, 0] rfl)
set_option maxHeartbeats 4000000 in
set_option maxRecDepth 100000 in
theorem ct_X6_endDay_3 (l : Launch) (D : va_G) (dA : Nat → ClassId) (ad : Nat → Nat) (v : tV) (hI : Inv v) (cold : Int32) (r_cold : Rg cold 0 4) : Met l m_X6_endDay [.code m_X6_endDay c_X6_endDay 3 none] ({ frames := 2, cells := 0, slots := 0, locals := 63 } : Room) (tP D dA ad v [.ref (ad 3), .int cold]) (tQv D dA ad (fun v' => Inv v' ∧ Kp v v')) 0 0 (tA ad) := by
  refine tMet (by decide) (Nat.le_of_ble_eq_true rfl) ?_
  intro p e s m below meth c ls X hr hlocks hw hl
  have X : CX p s m ([.ref (ad 3), .int cold] : List Value).toArray c c_X6_endDay N_X6 3 D dA := X
  have hx := X.1
  have hb := X.2.1
  have hS : va_S (tA ad) s.heap s.heap [] := va_S.rf
  have hl : lv_has ls 3 [(0, .ref (ad 3)), (1, .int cold)] := hl
  have LL : ∀ n : Nat, (∀ (y2 : Int32) (v1 : tV) (H : Heap) (locs : List Loc) (ls : Array Slot), (6 - y2.toInt).toNat < n → Rg y2 0 6 → Inv v1 → Kp v v1 → tI D dA ad v1 H → va_S (tA ad) s.heap H locs → lv_has ls 3 [(0, .ref (ad 3)), (1, .int cold), (2, .int y2)] → W p l e ({ frames := 2, cells := 0, slots := 0, locals := 63 } : Room) s m ([.ref (ad 3), .int cold] : List Value).toArray below meth c H locs 0 0 (MQ below (tQv D dA ad (fun v' => Inv v' ∧ Kp v v')) ([.ref (ad 3), .int cold] : List Value).toArray s 0 0 (tA ad)) (F0 m 2 ls [])) := by
    intro n
    induction n with
    | zero => intros; omega
    | succ n ih =>
      have ih0 := ih
      intro y2 v1 H locs ls hmu r_y2 hI1 hK1 hw hS hl
      refine lv_iload_n hx hb d_X6_endDay_2 rfl (lv_at hl 2 rfl) ?_
      refine lv_bipush (v := 6) hx hb d_X6_endDay_3 (by decide) ?_
      refine lv_icmp_ge (tgt := 24) hx hb d_X6_endDay_5 (by decide) (fun c1 => ?_) (fun c1 => ?_)
      · have f2 := i_le c1
        have r3 : Rg y2 6 6 := by obtain ⟨a1, a2⟩ := r_y2; obtain ⟨b1, b2⟩ := (⟨by decide, by decide⟩ : Rg 6 6 6); have f := i_le c1; exact ⟨by omega, by omega⟩
        refine lv_aload_n hx hb d_X6_endDay_24 rfl (lv_at hl 0 rfl) ?_
        refine lv_dup hx hb d_X6_endDay_25 rfl ?_
        refine r_geti X hw FL_X6_36 (rfl : KD 3 = _) rfl d_X6_endDay_26 ?_
        refine lv_topi (fun x4 ex4 => ?_)
        refine lv_iconst (v := 1) hx hb d_X6_endDay_29 (by decide) ?_
        refine lv_iadd hx hb d_X6_endDay_30 ?_
        refine lv_topi (fun x5 ex5 => ?_)
        refine r_put X hw hS FP_X6_36 (rfl : KD 3 = _) rfl ⟨rfl, rfl⟩ d_X6_endDay_31 (fun H locs hw hS => ?_)
        obtain ⟨v6, ev6⟩ : ∃ z, z = up2 v1 3 5 x5 := ⟨_, rfl⟩
        rw [← ev6] at hw
        have hI7 : Inv v6 := by rw [ev6]; exact Inv.put0 hI1 _ rfl
        have hK8 : Kp v v6 := by rw [ev6]; exact Kp.put hK1 _ rfl
        exact r_vret X hr hlocks hw hS ⟨hI7, hK8⟩ d_X6_endDay_34
      · have f9 := i_nle c1
        have r10 : Rg y2 0 5 := by obtain ⟨a1, a2⟩ := r_y2; obtain ⟨b1, b2⟩ := (⟨by decide, by decide⟩ : Rg 6 6 6); have f := i_nle c1; exact ⟨by omega, by omega⟩
        refine lv_aload_n hx hb d_X6_endDay_8 rfl (lv_at hl 0 rfl) ?_
        refine r_getr (r := 18) X hw FL_X6_25 (rfl : KD 3 = _) rfl d_X6_endDay_9 ?_
        refine lv_iload_n hx hb d_X6_endDay_12 rfl (lv_at hl 2 rfl) ?_
        refine r_aald X hw (rfl : KD 18 = _) (Or.inr (Or.inr (Or.inl rfl))) (Rg.vp (b := 5) r10 (by decide)) rfl d_X6_endDay_13 ?_
        refine r_nm (fun kc11 ekc11 => ?_)
        have kc11a : 312 ≤ kc11 := by omega
        have kc11b : kc11 ≤ 317 := by have := Rg.nat r10; omega
        refine lv_iload_n hx hb d_X6_endDay_14 rfl (lv_at hl 1 rfl) ?_
        refine r_cv (r_runV (n := 1) (As := [.int cold]) (rest := []) X hw (ct_X9_heat l D dA ad v1 hI1 kc11 cold (by omega) (by omega) r_cold) gc_X6_130 (KD_ward (by omega) (by omega)) (by decide) rfl (by decide +kernel) ⟨rfl, rfl, Nat.le_of_ble_eq_true rfl, Nat.le_of_ble_eq_true rfl⟩ rfl hl.1 rfl (Nat.le_of_ble_eq_true rfl) ⟨Nat.zero_le _, Nat.zero_le _⟩ d_X6_endDay_15) hS (fun v13 H locs hp12 hw hS => ?_)
        obtain ⟨hI14, hK15⟩ := hp12
        have hK16 : Kp v v13 := Kp.tr hK1 hK15
        obtain ⟨x17, ex17⟩ : ∃ y : Int32, y = y2 + 1 := ⟨_, rfl⟩
        refine lv_iinc (v := x17) (lv' := [(2, .int x17), (0, .ref (ad 3)), (1, .int cold)]) hx hb d_X6_endDay_18 hl (k := 2) rfl (by rw [ex17]; rfl) (by decide) rfl (fun ls hl => ?_)
        have r18 : Rg x17 1 6 := rg_add ex17 r10 (⟨by decide, by decide⟩ : Rg 1 1 1) (by decide) (by decide)
        have s19 : x17.toInt = y2.toInt + (1 : Int32).toInt := by rw [ex17]; exact i_add (by obtain ⟨_, _⟩ := r10; obtain ⟨_, _⟩ := (⟨by decide, by decide⟩ : Rg 1 1 1); omega) (by obtain ⟨_, _⟩ := r10; obtain ⟨_, _⟩ := (⟨by decide, by decide⟩ : Rg 1 1 1); omega)
        have s19l : (1 : Int32).toInt = 1 := rfl
        refine lv_goto (tgt := 2) hx hb d_X6_endDay_21 (by decide) ?_
        exact ih0 x17 v13 _ _ _ (by have := s19; obtain ⟨_, _⟩ := r18; omega) (rg_w r18 (by decide) (by decide)) hI14 hK16 hw hS (lv_sub hl [1, 2, 0] rfl)
  have ih0 := LL 100000
  have hK0 : Kp v v := Kp.rf v
  refine lv_iconst (v := 0) hx hb d_X6_endDay_0 (by decide) ?_
  refine lv_istore_n (lv' := [(2, .int 0), (0, .ref (ad 3)), (1, .int cold)]) hx hb d_X6_endDay_1 rfl hl (by decide) rfl (fun ls hl => ?_)
  exact ih0 0 v _ _ _ (by obtain ⟨_, _⟩ := (⟨by decide, by decide⟩ : Rg 0 0 0); omega) (rg_w (⟨by decide, by decide⟩ : Rg 0 0 0) (by decide) (by decide)) hI hK0 hw hS (lv_sub hl [1, 2, 0] rfl)
set_option maxHeartbeats 4000000 in
set_option maxRecDepth 100000 in
theorem ct_X6_lackedDays_3 (l : Launch) (D : va_G) (dA : Nat → ClassId) (ad : Nat → Nat) (v : tV) (hI : Inv v)  : Met l m_X6_lackedDays [.code m_X6_lackedDays c_X6_lackedDays 3 (some .int)] ({ frames := 1, cells := 0, slots := 0, locals := 40 } : Room) (tP D dA ad v [.ref (ad 3)]) (tQi D dA ad (fun r v' => v' = v)) 0 0 (tA ad) := by
  refine tMet (by decide) (Nat.le_of_ble_eq_true rfl) ?_
  intro p e s m below meth c ls X hr hlocks hw hl
  have X : CX p s m ([.ref (ad 3)] : List Value).toArray c c_X6_lackedDays N_X6 3 D dA := X
  have hx := X.1
  have hb := X.2.1
  have hS : va_S (tA ad) s.heap s.heap [] := va_S.rf
  have hl : lv_has ls 3 [(0, .ref (ad 3))] := hl
  have LL : ∀ n : Nat, (∀ (y1 : Int32) (y2 : Int32)  (H : Heap) (locs : List Loc) (ls : Array Slot), (6 - y2.toInt).toNat < n → Rg y2 0 6 → tI D dA ad v H → va_S (tA ad) s.heap H locs → lv_has ls 3 [(0, .ref (ad 3)), (1, .int y1), (2, .int y2)] → W p l e ({ frames := 1, cells := 0, slots := 0, locals := 40 } : Room) s m ([.ref (ad 3)] : List Value).toArray below meth c H locs 0 0 (MQ below (tQi D dA ad (fun r v' => v' = v)) ([.ref (ad 3)] : List Value).toArray s 0 0 (tA ad)) (F0 m 4 ls [])) := by
    intro n
    induction n with
    | zero => intros; omega
    | succ n ih =>
      have ih0 := ih
      intro y1 y2 H locs ls hmu r_y2 hw hS hl
      refine lv_iload_n hx hb d_X6_lackedDays_4 rfl (lv_at hl 2 rfl) ?_
      refine lv_bipush (v := 6) hx hb d_X6_lackedDays_5 (by decide) ?_
      refine lv_icmp_ge (tgt := 28) hx hb d_X6_lackedDays_7 (by decide) (fun c1 => ?_) (fun c1 => ?_)
      · have f2 := i_le c1
        have r3 : Rg y2 6 6 := by obtain ⟨a1, a2⟩ := r_y2; obtain ⟨b1, b2⟩ := (⟨by decide, by decide⟩ : Rg 6 6 6); have f := i_le c1; exact ⟨by omega, by omega⟩
        refine lv_iload_n hx hb d_X6_lackedDays_28 rfl (lv_at hl 1 rfl) ?_
        exact r_iret X hr hlocks hw hS rfl d_X6_lackedDays_29
      · have f4 := i_nle c1
        have r5 : Rg y2 0 5 := by obtain ⟨a1, a2⟩ := r_y2; obtain ⟨b1, b2⟩ := (⟨by decide, by decide⟩ : Rg 6 6 6); have f := i_nle c1; exact ⟨by omega, by omega⟩
        refine lv_iload_n hx hb d_X6_lackedDays_10 rfl (lv_at hl 1 rfl) ?_
        refine lv_aload_n hx hb d_X6_lackedDays_11 rfl (lv_at hl 0 rfl) ?_
        refine r_getr (r := 18) X hw FL_X6_25 (rfl : KD 3 = _) rfl d_X6_lackedDays_12 ?_
        refine lv_iload_n hx hb d_X6_lackedDays_15 rfl (lv_at hl 2 rfl) ?_
        refine r_aald X hw (rfl : KD 18 = _) (Or.inr (Or.inr (Or.inl rfl))) (Rg.vp (b := 5) r5 (by decide)) rfl d_X6_lackedDays_16 ?_
        refine r_nm (fun kc6 ekc6 => ?_)
        have kc6a : 312 ≤ kc6 := by omega
        have kc6b : kc6 ≤ 317 := by have := Rg.nat r5; omega
        refine r_geti X hw FL_X6_133 (KD_ward (by omega) (by omega)) (SH_ward (by omega) (by omega) (by decide)) d_X6_lackedDays_17 ?_
        refine lv_topi (fun x7 ex7 => ?_)
        refine lv_iadd hx hb d_X6_lackedDays_20 ?_
        refine lv_topi (fun x8 ex8 => ?_)
        refine lv_istore_n (lv' := [(1, .int x8), (0, .ref (ad 3)), (2, .int y2)]) hx hb d_X6_lackedDays_21 rfl hl (by decide) rfl (fun ls hl => ?_)
        obtain ⟨x9, ex9⟩ : ∃ y : Int32, y = y2 + 1 := ⟨_, rfl⟩
        refine lv_iinc (v := x9) (lv' := [(2, .int x9), (1, .int x8), (0, .ref (ad 3))]) hx hb d_X6_lackedDays_22 hl (k := 2) rfl (by rw [ex9]; rfl) (by decide) rfl (fun ls hl => ?_)
        have r10 : Rg x9 1 6 := rg_add ex9 r5 (⟨by decide, by decide⟩ : Rg 1 1 1) (by decide) (by decide)
        have s11 : x9.toInt = y2.toInt + (1 : Int32).toInt := by rw [ex9]; exact i_add (by obtain ⟨_, _⟩ := r5; obtain ⟨_, _⟩ := (⟨by decide, by decide⟩ : Rg 1 1 1); omega) (by obtain ⟨_, _⟩ := r5; obtain ⟨_, _⟩ := (⟨by decide, by decide⟩ : Rg 1 1 1); omega)
        have s11l : (1 : Int32).toInt = 1 := rfl
        refine lv_goto (tgt := 4) hx hb d_X6_lackedDays_25 (by decide) ?_
        exact ih0 x8 x9 _ _ _ (by have := s11; obtain ⟨_, _⟩ := r10; omega) (rg_w r10 (by decide) (by decide)) hw hS (lv_sub hl [2, 1, 0] rfl)
  have ih0 := LL 100000
  refine lv_iconst (v := 0) hx hb d_X6_lackedDays_0 (by decide) ?_
  refine lv_istore_n (lv' := [(1, .int 0), (0, .ref (ad 3))]) hx hb d_X6_lackedDays_1 rfl hl (by decide) rfl (fun ls hl => ?_)
  refine lv_iconst (v := 0) hx hb d_X6_lackedDays_2 (by decide) ?_
  refine lv_istore_n (lv' := [(2, .int 0), (1, .int 0), (0, .ref (ad 3))]) hx hb d_X6_lackedDays_3 rfl hl (by decide) rfl (fun ls hl => ?_)
  exact ih0 0 0 _ _ _ (by obtain ⟨_, _⟩ := (⟨by decide, by decide⟩ : Rg 0 0 0); obtain ⟨_, _⟩ := (⟨by decide, by decide⟩ : Rg 0 0 0); omega) (rg_w (⟨by decide, by decide⟩ : Rg 0 0 0) (by decide) (by decide)) hw hS (lv_sub hl [2, 1, 0] rfl)
theorem d_X6_duesOfAll_0 : decode c_X6_duesOfAll 0 = .ok (.iconst 0, 1) := by decide +kernel
theorem d_X6_duesOfAll_1 : decode c_X6_duesOfAll 1 = .ok (.istore_n 1, 1) := by decide +kernel
theorem d_X6_duesOfAll_2 : decode c_X6_duesOfAll 2 = .ok (.iconst 0, 1) := by decide +kernel
theorem d_X6_duesOfAll_3 : decode c_X6_duesOfAll 3 = .ok (.istore_n 2, 1) := by decide +kernel
theorem d_X6_duesOfAll_4 : decode c_X6_duesOfAll 4 = .ok (.iload_n 2, 1) := by decide +kernel
theorem d_X6_duesOfAll_5 : decode c_X6_duesOfAll 5 = .ok (.aload_n 0, 1) := by decide +kernel
theorem d_X6_duesOfAll_6 : decode c_X6_duesOfAll 6 = .ok (.getfield 29, 3) := by decide +kernel
theorem d_X6_duesOfAll_9 : decode c_X6_duesOfAll 9 = .ok (.if_icmp .ge 21, 3) := by decide +kernel
theorem d_X6_duesOfAll_12 : decode c_X6_duesOfAll 12 = .ok (.iload_n 1, 1) := by decide +kernel
theorem d_X6_duesOfAll_13 : decode c_X6_duesOfAll 13 = .ok (.aload_n 0, 1) := by decide +kernel
theorem d_X6_duesOfAll_14 : decode c_X6_duesOfAll 14 = .ok (.getfield 11, 3) := by decide +kernel
theorem d_X6_duesOfAll_17 : decode c_X6_duesOfAll 17 = .ok (.iload_n 2, 1) := by decide +kernel
theorem d_X6_duesOfAll_18 : decode c_X6_duesOfAll 18 = .ok (.aaload, 1) := by decide +kernel
theorem d_X6_duesOfAll_19 : decode c_X6_duesOfAll 19 = .ok (.getfield 136, 3) := by decide +kernel
theorem d_X6_duesOfAll_22 : decode c_X6_duesOfAll 22 = .ok (.iadd, 1) := by decide +kernel
theorem d_X6_duesOfAll_23 : decode c_X6_duesOfAll 23 = .ok (.istore_n 1, 1) := by decide +kernel
theorem d_X6_duesOfAll_24 : decode c_X6_duesOfAll 24 = .ok (.iinc 2 1, 3) := by decide +kernel
theorem d_X6_duesOfAll_27 : decode c_X6_duesOfAll 27 = .ok (.goto (-23), 3) := by decide +kernel
theorem d_X6_duesOfAll_30 : decode c_X6_duesOfAll 30 = .ok (.iload_n 1, 1) := by decide +kernel
theorem d_X6_duesOfAll_31 : decode c_X6_duesOfAll 31 = .ok (.ireturn, 1) := by decide +kernel
set_option maxHeartbeats 4000000 in
set_option maxRecDepth 100000 in
theorem ct_X6_duesOfAll_1 (l : Launch) (D : va_G) (dA : Nat → ClassId) (ad : Nat → Nat) (v : tV) (hI : Inv v)  : Met l m_X6_duesOfAll [.code m_X6_duesOfAll c_X6_duesOfAll 3 (some .int)] ({ frames := 1, cells := 0, slots := 0, locals := 40 } : Room) (tP D dA ad v [.ref (ad 1)]) (tQi D dA ad (fun r v' => v' = v)) 0 0 (tA ad) := by
  refine tMet (by decide) (Nat.le_of_ble_eq_true rfl) ?_
  intro p e s m below meth c ls X hr hlocks hw hl
  have X : CX p s m ([.ref (ad 1)] : List Value).toArray c c_X6_duesOfAll N_X6 3 D dA := X
  have hx := X.1
  have hb := X.2.1
  have hS : va_S (tA ad) s.heap s.heap [] := va_S.rf
  have hl : lv_has ls 3 [(0, .ref (ad 1))] := hl
  have LL : ∀ n : Nat, (∀ (y1 : Int32) (y2 : Int32)  (H : Heap) (locs : List Loc) (ls : Array Slot), (20 - y2.toInt).toNat < n → Rg y2 0 20 → tI D dA ad v H → va_S (tA ad) s.heap H locs → lv_has ls 3 [(0, .ref (ad 1)), (1, .int y1), (2, .int y2)] → W p l e ({ frames := 1, cells := 0, slots := 0, locals := 40 } : Room) s m ([.ref (ad 1)] : List Value).toArray below meth c H locs 0 0 (MQ below (tQi D dA ad (fun r v' => v' = v)) ([.ref (ad 1)] : List Value).toArray s 0 0 (tA ad)) (F0 m 4 ls [])) := by
    intro n
    induction n with
    | zero => intros; omega
    | succ n ih =>
      have ih0 := ih
      intro y1 y2 H locs ls hmu r_y2 hw hS hl
      refine lv_iload_n hx hb d_X6_duesOfAll_4 rfl (lv_at hl 2 rfl) ?_
      refine lv_aload_n hx hb d_X6_duesOfAll_5 rfl (lv_at hl 0 rfl) ?_
      refine r_geti X hw FL_X6_29 (rfl : KD 1 = _) rfl d_X6_duesOfAll_6 ?_
      refine lv_topi (fun x1 ex1 => ?_)
      have r2 : Rg x1 0 20 := by rw [ex1]; exact hI _ _ _ _ rfl
      have hm3 : v 1 3 = x1 := ex1.symm
      refine lv_icmp_ge (tgt := 30) hx hb d_X6_duesOfAll_9 (by decide) (fun c4 => ?_) (fun c4 => ?_)
      · have f5 := i_le c4
        refine lv_iload_n hx hb d_X6_duesOfAll_30 rfl (lv_at hl 1 rfl) ?_
        exact r_iret X hr hlocks hw hS rfl d_X6_duesOfAll_31
      · have f6 := i_nle c4
        have r7 : Rg y2 0 19 := by obtain ⟨a1, a2⟩ := r_y2; obtain ⟨b1, b2⟩ := r2; have f := i_nle c4; exact ⟨by omega, by omega⟩
        have r8 : Rg x1 1 20 := by obtain ⟨a1, a2⟩ := r_y2; obtain ⟨b1, b2⟩ := r2; have f := i_nle c4; exact ⟨by omega, by omega⟩
        refine lv_iload_n hx hb d_X6_duesOfAll_12 rfl (lv_at hl 1 rfl) ?_
        refine lv_aload_n hx hb d_X6_duesOfAll_13 rfl (lv_at hl 0 rfl) ?_
        refine r_getr (r := 10) X hw FL_X6_11 (rfl : KD 1 = _) rfl d_X6_duesOfAll_14 ?_
        refine lv_iload_n hx hb d_X6_duesOfAll_17 rfl (lv_at hl 2 rfl) ?_
        refine r_aald X hw (rfl : KD 10 = _) (Or.inl rfl) (Rg.vp (b := 19) r7 (by decide)) rfl d_X6_duesOfAll_18 ?_
        refine r_nm (fun kc9 ekc9 => ?_)
        have kc9a : 100 ≤ kc9 := by omega
        have kc9b : kc9 ≤ 119 := by have := Rg.nat r7; omega
        refine r_geti X hw FL_X6_136 (KD_ship (by omega) (by omega)) (SH_ship (by omega) (by omega)) d_X6_duesOfAll_19 ?_
        refine lv_topi (fun x10 ex10 => ?_)
        refine lv_iadd hx hb d_X6_duesOfAll_22 ?_
        refine lv_topi (fun x11 ex11 => ?_)
        refine lv_istore_n (lv' := [(1, .int x11), (0, .ref (ad 1)), (2, .int y2)]) hx hb d_X6_duesOfAll_23 rfl hl (by decide) rfl (fun ls hl => ?_)
        obtain ⟨x12, ex12⟩ : ∃ y : Int32, y = y2 + 1 := ⟨_, rfl⟩
        refine lv_iinc (v := x12) (lv' := [(2, .int x12), (1, .int x11), (0, .ref (ad 1))]) hx hb d_X6_duesOfAll_24 hl (k := 2) rfl (by rw [ex12]; rfl) (by decide) rfl (fun ls hl => ?_)
        have r13 : Rg x12 1 20 := rg_add ex12 r7 (⟨by decide, by decide⟩ : Rg 1 1 1) (by decide) (by decide)
        have s14 : x12.toInt = y2.toInt + (1 : Int32).toInt := by rw [ex12]; exact i_add (by obtain ⟨_, _⟩ := r7; obtain ⟨_, _⟩ := (⟨by decide, by decide⟩ : Rg 1 1 1); omega) (by obtain ⟨_, _⟩ := r7; obtain ⟨_, _⟩ := (⟨by decide, by decide⟩ : Rg 1 1 1); omega)
        have s14l : (1 : Int32).toInt = 1 := rfl
        refine lv_goto (tgt := 4) hx hb d_X6_duesOfAll_27 (by decide) ?_
        exact ih0 x11 x12 _ _ _ (by have := s14; obtain ⟨_, _⟩ := r13; omega) (rg_w r13 (by decide) (by decide)) hw hS (lv_sub hl [2, 1, 0] rfl)
  have ih0 := LL 100000
  refine lv_iconst (v := 0) hx hb d_X6_duesOfAll_0 (by decide) ?_
  refine lv_istore_n (lv' := [(1, .int 0), (0, .ref (ad 1))]) hx hb d_X6_duesOfAll_1 rfl hl (by decide) rfl (fun ls hl => ?_)
  refine lv_iconst (v := 0) hx hb d_X6_duesOfAll_2 (by decide) ?_
  refine lv_istore_n (lv' := [(2, .int 0), (1, .int 0), (0, .ref (ad 1))]) hx hb d_X6_duesOfAll_3 rfl hl (by decide) rfl (fun ls hl => ?_)
  exact ih0 0 0 _ _ _ (by obtain ⟨_, _⟩ := (⟨by decide, by decide⟩ : Rg 0 0 0); obtain ⟨_, _⟩ := (⟨by decide, by decide⟩ : Rg 0 0 0); omega) (rg_w (⟨by decide, by decide⟩ : Rg 0 0 0) (by decide) (by decide)) hw hS (lv_sub hl [2, 1, 0] rfl)
theorem d_X6_takenFor_0 : decode c_X6_takenFor 0 = .ok (.iconst 0, 1) := by decide +kernel
theorem d_X6_takenFor_1 : decode c_X6_takenFor 1 = .ok (.istore_n 2, 1) := by decide +kernel
theorem d_X6_takenFor_2 : decode c_X6_takenFor 2 = .ok (.iconst 0, 1) := by decide +kernel
theorem d_X6_takenFor_3 : decode c_X6_takenFor 3 = .ok (.istore_n 3, 1) := by decide +kernel
theorem d_X6_takenFor_4 : decode c_X6_takenFor 4 = .ok (.iload_n 3, 1) := by decide +kernel
theorem d_X6_takenFor_5 : decode c_X6_takenFor 5 = .ok (.aload_n 0, 1) := by decide +kernel
theorem d_X6_takenFor_6 : decode c_X6_takenFor 6 = .ok (.getfield 29, 3) := by decide +kernel
theorem d_X6_takenFor_9 : decode c_X6_takenFor 9 = .ok (.if_icmp .ge 34, 3) := by decide +kernel
theorem d_X6_takenFor_12 : decode c_X6_takenFor 12 = .ok (.aload_n 0, 1) := by decide +kernel
theorem d_X6_takenFor_13 : decode c_X6_takenFor 13 = .ok (.getfield 11, 3) := by decide +kernel
theorem d_X6_takenFor_16 : decode c_X6_takenFor 16 = .ok (.iload_n 3, 1) := by decide +kernel
theorem d_X6_takenFor_17 : decode c_X6_takenFor 17 = .ok (.aaload, 1) := by decide +kernel
theorem d_X6_takenFor_18 : decode c_X6_takenFor 18 = .ok (.getfield 139, 3) := by decide +kernel
theorem d_X6_takenFor_21 : decode c_X6_takenFor 21 = .ok (.iload_n 1, 1) := by decide +kernel
theorem d_X6_takenFor_22 : decode c_X6_takenFor 22 = .ok (.if_icmp .ne 15, 3) := by decide +kernel
theorem d_X6_takenFor_25 : decode c_X6_takenFor 25 = .ok (.iload_n 2, 1) := by decide +kernel
theorem d_X6_takenFor_26 : decode c_X6_takenFor 26 = .ok (.aload_n 0, 1) := by decide +kernel
theorem d_X6_takenFor_27 : decode c_X6_takenFor 27 = .ok (.getfield 11, 3) := by decide +kernel
theorem d_X6_takenFor_30 : decode c_X6_takenFor 30 = .ok (.iload_n 3, 1) := by decide +kernel
theorem d_X6_takenFor_31 : decode c_X6_takenFor 31 = .ok (.aaload, 1) := by decide +kernel
theorem d_X6_takenFor_32 : decode c_X6_takenFor 32 = .ok (.getfield 142, 3) := by decide +kernel
theorem d_X6_takenFor_35 : decode c_X6_takenFor 35 = .ok (.iadd, 1) := by decide +kernel
theorem d_X6_takenFor_36 : decode c_X6_takenFor 36 = .ok (.istore_n 2, 1) := by decide +kernel
theorem d_X6_takenFor_37 : decode c_X6_takenFor 37 = .ok (.iinc 3 1, 3) := by decide +kernel
theorem d_X6_takenFor_40 : decode c_X6_takenFor 40 = .ok (.goto (-36), 3) := by decide +kernel
theorem d_X6_takenFor_43 : decode c_X6_takenFor 43 = .ok (.iload_n 2, 1) := by decide +kernel
theorem d_X6_takenFor_44 : decode c_X6_takenFor 44 = .ok (.ireturn, 1) := by decide +kernel
set_option maxHeartbeats 4000000 in
set_option maxRecDepth 100000 in
theorem ct_X6_takenFor_1 (l : Launch) (D : va_G) (dA : Nat → ClassId) (ad : Nat → Nat) (v : tV) (hI : Inv v) (fi : Int32) : Met l m_X6_takenFor [.code m_X6_takenFor c_X6_takenFor 4 (some .int)] ({ frames := 1, cells := 0, slots := 0, locals := 40 } : Room) (tP D dA ad v [.ref (ad 1), .int fi]) (tQi D dA ad (fun r v' => v' = v)) 0 0 (tA ad) := by
  refine tMet (by decide) (Nat.le_of_ble_eq_true rfl) ?_
  intro p e s m below meth c ls X hr hlocks hw hl
  have X : CX p s m ([.ref (ad 1), .int fi] : List Value).toArray c c_X6_takenFor N_X6 4 D dA := X
  have hx := X.1
  have hb := X.2.1
  have hS : va_S (tA ad) s.heap s.heap [] := va_S.rf
  have hl : lv_has ls 4 [(0, .ref (ad 1)), (1, .int fi)] := hl
  have LL : ∀ n : Nat, (∀ (y2 : Int32) (y3 : Int32)  (H : Heap) (locs : List Loc) (ls : Array Slot), (20 - y3.toInt).toNat < n → Rg y3 0 20 → tI D dA ad v H → va_S (tA ad) s.heap H locs → lv_has ls 4 [(0, .ref (ad 1)), (1, .int fi), (2, .int y2), (3, .int y3)] → W p l e ({ frames := 1, cells := 0, slots := 0, locals := 40 } : Room) s m ([.ref (ad 1), .int fi] : List Value).toArray below meth c H locs 0 0 (MQ below (tQi D dA ad (fun r v' => v' = v)) ([.ref (ad 1), .int fi] : List Value).toArray s 0 0 (tA ad)) (F0 m 4 ls [])) := by
    intro n
    induction n with
    | zero => intros; omega
    | succ n ih =>
      have ih0 := ih
      intro y2 y3 H locs ls hmu r_y3 hw hS hl
      refine lv_iload_n hx hb d_X6_takenFor_4 rfl (lv_at hl 3 rfl) ?_
      refine lv_aload_n hx hb d_X6_takenFor_5 rfl (lv_at hl 0 rfl) ?_
      refine r_geti X hw FL_X6_29 (rfl : KD 1 = _) rfl d_X6_takenFor_6 ?_
      refine lv_topi (fun x1 ex1 => ?_)
      have r2 : Rg x1 0 20 := by rw [ex1]; exact hI _ _ _ _ rfl
      have hm3 : v 1 3 = x1 := ex1.symm
      refine lv_icmp_ge (tgt := 43) hx hb d_X6_takenFor_9 (by decide) (fun c4 => ?_) (fun c4 => ?_)
      · have f5 := i_le c4
        refine lv_iload_n hx hb d_X6_takenFor_43 rfl (lv_at hl 2 rfl) ?_
        exact r_iret X hr hlocks hw hS rfl d_X6_takenFor_44
      · have f6 := i_nle c4
        have r7 : Rg y3 0 19 := by obtain ⟨a1, a2⟩ := r_y3; obtain ⟨b1, b2⟩ := r2; have f := i_nle c4; exact ⟨by omega, by omega⟩
        have r8 : Rg x1 1 20 := by obtain ⟨a1, a2⟩ := r_y3; obtain ⟨b1, b2⟩ := r2; have f := i_nle c4; exact ⟨by omega, by omega⟩
        refine lv_aload_n hx hb d_X6_takenFor_12 rfl (lv_at hl 0 rfl) ?_
        refine r_getr (r := 10) X hw FL_X6_11 (rfl : KD 1 = _) rfl d_X6_takenFor_13 ?_
        refine lv_iload_n hx hb d_X6_takenFor_16 rfl (lv_at hl 3 rfl) ?_
        refine r_aald X hw (rfl : KD 10 = _) (Or.inl rfl) (Rg.vp (b := 19) r7 (by decide)) rfl d_X6_takenFor_17 ?_
        refine r_nm (fun kc9 ekc9 => ?_)
        have kc9a : 100 ≤ kc9 := by omega
        have kc9b : kc9 ≤ 119 := by have := Rg.nat r7; omega
        refine r_geti X hw FL_X6_139 (KD_ship (by omega) (by omega)) (SH_ship (by omega) (by omega)) d_X6_takenFor_18 ?_
        refine lv_topi (fun x10 ex10 => ?_)
        refine lv_iload_n hx hb d_X6_takenFor_21 rfl (lv_at hl 1 rfl) ?_
        refine lv_icmp_ne (tgt := 37) hx hb d_X6_takenFor_22 (by decide) (fun c11 => ?_) (fun c11 => ?_)
        · have f12 := i_ne c11
          obtain ⟨x13, ex13⟩ : ∃ y : Int32, y = y3 + 1 := ⟨_, rfl⟩
          refine lv_iinc (v := x13) (lv' := [(3, .int x13), (0, .ref (ad 1)), (1, .int fi), (2, .int y2)]) hx hb d_X6_takenFor_37 hl (k := 3) rfl (by rw [ex13]; rfl) (by decide) rfl (fun ls hl => ?_)
          have r14 : Rg x13 1 20 := rg_add ex13 r7 (⟨by decide, by decide⟩ : Rg 1 1 1) (by decide) (by decide)
          have s15 : x13.toInt = y3.toInt + (1 : Int32).toInt := by rw [ex13]; exact i_add (by obtain ⟨_, _⟩ := r7; obtain ⟨_, _⟩ := (⟨by decide, by decide⟩ : Rg 1 1 1); omega) (by obtain ⟨_, _⟩ := r7; obtain ⟨_, _⟩ := (⟨by decide, by decide⟩ : Rg 1 1 1); omega)
          have s15l : (1 : Int32).toInt = 1 := rfl
          refine lv_goto (tgt := 4) hx hb d_X6_takenFor_40 (by decide) ?_
          exact ih0 y2 x13 _ _ _ (by have := s15; obtain ⟨_, _⟩ := r14; omega) (rg_w r14 (by decide) (by decide)) hw hS (lv_sub hl [1, 2, 3, 0] rfl)
        · have f16 := i_eq c11
          refine lv_iload_n hx hb d_X6_takenFor_25 rfl (lv_at hl 2 rfl) ?_
          refine lv_aload_n hx hb d_X6_takenFor_26 rfl (lv_at hl 0 rfl) ?_
          refine r_getr (r := 10) X hw FL_X6_11 (rfl : KD 1 = _) rfl d_X6_takenFor_27 ?_
          refine lv_iload_n hx hb d_X6_takenFor_30 rfl (lv_at hl 3 rfl) ?_
          refine r_aald X hw (rfl : KD 10 = _) (Or.inl rfl) (Rg.vp (b := 19) r7 (by decide)) rfl d_X6_takenFor_31 ?_
          refine r_nm (fun kc17 ekc17 => ?_)
          have kc17a : 100 ≤ kc17 := by omega
          have kc17b : kc17 ≤ 119 := by have := Rg.nat r7; omega
          refine r_geti X hw FL_X6_142 (KD_ship (by omega) (by omega)) (SH_ship (by omega) (by omega)) d_X6_takenFor_32 ?_
          refine lv_topi (fun x18 ex18 => ?_)
          refine lv_iadd hx hb d_X6_takenFor_35 ?_
          refine lv_topi (fun x19 ex19 => ?_)
          refine lv_istore_n (lv' := [(2, .int x19), (0, .ref (ad 1)), (1, .int fi), (3, .int y3)]) hx hb d_X6_takenFor_36 rfl hl (by decide) rfl (fun ls hl => ?_)
          obtain ⟨x20, ex20⟩ : ∃ y : Int32, y = y3 + 1 := ⟨_, rfl⟩
          refine lv_iinc (v := x20) (lv' := [(3, .int x20), (2, .int x19), (0, .ref (ad 1)), (1, .int fi)]) hx hb d_X6_takenFor_37 hl (k := 3) rfl (by rw [ex20]; rfl) (by decide) rfl (fun ls hl => ?_)
          have r21 : Rg x20 1 20 := rg_add ex20 r7 (⟨by decide, by decide⟩ : Rg 1 1 1) (by decide) (by decide)
          have s22 : x20.toInt = y3.toInt + (1 : Int32).toInt := by rw [ex20]; exact i_add (by obtain ⟨_, _⟩ := r7; obtain ⟨_, _⟩ := (⟨by decide, by decide⟩ : Rg 1 1 1); omega) (by obtain ⟨_, _⟩ := r7; obtain ⟨_, _⟩ := (⟨by decide, by decide⟩ : Rg 1 1 1); omega)
          have s22l : (1 : Int32).toInt = 1 := rfl
          refine lv_goto (tgt := 4) hx hb d_X6_takenFor_40 (by decide) ?_
          exact ih0 x19 x20 _ _ _ (by have := s22; obtain ⟨_, _⟩ := r21; omega) (rg_w r21 (by decide) (by decide)) hw hS (lv_sub hl [2, 3, 1, 0] rfl)
  have ih0 := LL 100000
  refine lv_iconst (v := 0) hx hb d_X6_takenFor_0 (by decide) ?_
  refine lv_istore_n (lv' := [(2, .int 0), (0, .ref (ad 1)), (1, .int fi)]) hx hb d_X6_takenFor_1 rfl hl (by decide) rfl (fun ls hl => ?_)
  refine lv_iconst (v := 0) hx hb d_X6_takenFor_2 (by decide) ?_
  refine lv_istore_n (lv' := [(3, .int 0), (2, .int 0), (0, .ref (ad 1)), (1, .int fi)]) hx hb d_X6_takenFor_3 rfl hl (by decide) rfl (fun ls hl => ?_)
  exact ih0 0 0 _ _ _ (by obtain ⟨_, _⟩ := (⟨by decide, by decide⟩ : Rg 0 0 0); obtain ⟨_, _⟩ := (⟨by decide, by decide⟩ : Rg 0 0 0); omega) (rg_w (⟨by decide, by decide⟩ : Rg 0 0 0) (by decide) (by decide)) hw hS (lv_sub hl [2, 3, 1, 0] rfl)
theorem d_X6_copy_0 : decode c_X6_copy 0 = .ok (.aload_n 0, 1) := by decide +kernel
theorem d_X6_copy_1 : decode c_X6_copy 1 = .ok (.aload_n 1, 1) := by decide +kernel
theorem d_X6_copy_2 : decode c_X6_copy 2 = .ok (.getfield 29, 3) := by decide +kernel
theorem d_X6_copy_5 : decode c_X6_copy 5 = .ok (.putfield 29, 3) := by decide +kernel
theorem d_X6_copy_8 : decode c_X6_copy 8 = .ok (.aload_n 0, 1) := by decide +kernel
theorem d_X6_copy_9 : decode c_X6_copy 9 = .ok (.aload_n 1, 1) := by decide +kernel
theorem d_X6_copy_10 : decode c_X6_copy 10 = .ok (.getfield 33, 3) := by decide +kernel
theorem d_X6_copy_13 : decode c_X6_copy 13 = .ok (.putfield 33, 3) := by decide +kernel
theorem d_X6_copy_16 : decode c_X6_copy 16 = .ok (.aload_n 0, 1) := by decide +kernel
theorem d_X6_copy_17 : decode c_X6_copy 17 = .ok (.aload_n 1, 1) := by decide +kernel
theorem d_X6_copy_18 : decode c_X6_copy 18 = .ok (.getfield 36, 3) := by decide +kernel
theorem d_X6_copy_21 : decode c_X6_copy 21 = .ok (.putfield 36, 3) := by decide +kernel
theorem d_X6_copy_24 : decode c_X6_copy 24 = .ok (.aload_n 0, 1) := by decide +kernel
theorem d_X6_copy_25 : decode c_X6_copy 25 = .ok (.aload_n 1, 1) := by decide +kernel
theorem d_X6_copy_26 : decode c_X6_copy 26 = .ok (.getfield 39, 3) := by decide +kernel
theorem d_X6_copy_29 : decode c_X6_copy 29 = .ok (.putfield 39, 3) := by decide +kernel
theorem d_X6_copy_32 : decode c_X6_copy 32 = .ok (.iconst 0, 1) := by decide +kernel
theorem d_X6_copy_33 : decode c_X6_copy 33 = .ok (.istore_n 2, 1) := by decide +kernel
theorem d_X6_copy_34 : decode c_X6_copy 34 = .ok (.iload_n 2, 1) := by decide +kernel
theorem d_X6_copy_35 : decode c_X6_copy 35 = .ok (.aload_n 0, 1) := by decide +kernel
theorem d_X6_copy_36 : decode c_X6_copy 36 = .ok (.getfield 29, 3) := by decide +kernel
theorem d_X6_copy_39 : decode c_X6_copy 39 = .ok (.if_icmp .ge 24, 3) := by decide +kernel
theorem d_X6_copy_42 : decode c_X6_copy 42 = .ok (.aload_n 0, 1) := by decide +kernel
theorem d_X6_copy_43 : decode c_X6_copy 43 = .ok (.getfield 11, 3) := by decide +kernel
theorem d_X6_copy_46 : decode c_X6_copy 46 = .ok (.iload_n 2, 1) := by decide +kernel
theorem d_X6_copy_47 : decode c_X6_copy 47 = .ok (.aaload, 1) := by decide +kernel
theorem d_X6_copy_48 : decode c_X6_copy 48 = .ok (.aload_n 1, 1) := by decide +kernel
theorem d_X6_copy_49 : decode c_X6_copy 49 = .ok (.getfield 11, 3) := by decide +kernel
theorem d_X6_copy_52 : decode c_X6_copy 52 = .ok (.iload_n 2, 1) := by decide +kernel
theorem d_X6_copy_53 : decode c_X6_copy 53 = .ok (.aaload, 1) := by decide +kernel
theorem d_X6_copy_54 : decode c_X6_copy 54 = .ok (.invokevirtual 45, 3) := by decide +kernel
theorem d_X6_copy_57 : decode c_X6_copy 57 = .ok (.iinc 2 1, 3) := by decide +kernel
theorem d_X6_copy_60 : decode c_X6_copy 60 = .ok (.goto (-26), 3) := by decide +kernel
theorem d_X6_copy_63 : decode c_X6_copy 63 = .ok (.iconst 0, 1) := by decide +kernel
theorem d_X6_copy_64 : decode c_X6_copy 64 = .ok (.istore_n 2, 1) := by decide +kernel
theorem d_X6_copy_65 : decode c_X6_copy 65 = .ok (.iload_n 2, 1) := by decide +kernel
theorem d_X6_copy_66 : decode c_X6_copy 66 = .ok (.aload_n 0, 1) := by decide +kernel
theorem d_X6_copy_67 : decode c_X6_copy 67 = .ok (.getfield 33, 3) := by decide +kernel
theorem d_X6_copy_70 : decode c_X6_copy 70 = .ok (.if_icmp .ge 24, 3) := by decide +kernel
theorem d_X6_copy_73 : decode c_X6_copy 73 = .ok (.aload_n 0, 1) := by decide +kernel
theorem d_X6_copy_74 : decode c_X6_copy 74 = .ok (.getfield 19, 3) := by decide +kernel
theorem d_X6_copy_77 : decode c_X6_copy 77 = .ok (.iload_n 2, 1) := by decide +kernel
theorem d_X6_copy_78 : decode c_X6_copy 78 = .ok (.aaload, 1) := by decide +kernel
theorem d_X6_copy_79 : decode c_X6_copy 79 = .ok (.aload_n 1, 1) := by decide +kernel
theorem d_X6_copy_80 : decode c_X6_copy 80 = .ok (.getfield 19, 3) := by decide +kernel
theorem d_X6_copy_83 : decode c_X6_copy 83 = .ok (.iload_n 2, 1) := by decide +kernel
theorem d_X6_copy_84 : decode c_X6_copy 84 = .ok (.aaload, 1) := by decide +kernel
theorem d_X6_copy_85 : decode c_X6_copy 85 = .ok (.invokevirtual 49, 3) := by decide +kernel
theorem d_X6_copy_88 : decode c_X6_copy 88 = .ok (.iinc 2 1, 3) := by decide +kernel
theorem d_X6_copy_91 : decode c_X6_copy 91 = .ok (.goto (-26), 3) := by decide +kernel
theorem d_X6_copy_94 : decode c_X6_copy 94 = .ok (.iconst 0, 1) := by decide +kernel
theorem d_X6_copy_95 : decode c_X6_copy 95 = .ok (.istore_n 2, 1) := by decide +kernel
theorem d_X6_copy_96 : decode c_X6_copy 96 = .ok (.iload_n 2, 1) := by decide +kernel
theorem d_X6_copy_97 : decode c_X6_copy 97 = .ok (.bipush 6, 2) := by decide +kernel
theorem d_X6_copy_99 : decode c_X6_copy 99 = .ok (.if_icmp .ge 24, 3) := by decide +kernel
theorem d_X6_copy_102 : decode c_X6_copy 102 = .ok (.aload_n 0, 1) := by decide +kernel
theorem d_X6_copy_103 : decode c_X6_copy 103 = .ok (.getfield 25, 3) := by decide +kernel
theorem d_X6_copy_106 : decode c_X6_copy 106 = .ok (.iload_n 2, 1) := by decide +kernel
theorem d_X6_copy_107 : decode c_X6_copy 107 = .ok (.aaload, 1) := by decide +kernel
theorem d_X6_copy_108 : decode c_X6_copy 108 = .ok (.aload_n 1, 1) := by decide +kernel
theorem d_X6_copy_109 : decode c_X6_copy 109 = .ok (.getfield 25, 3) := by decide +kernel
theorem d_X6_copy_112 : decode c_X6_copy 112 = .ok (.iload_n 2, 1) := by decide +kernel
theorem d_X6_copy_113 : decode c_X6_copy 113 = .ok (.aaload, 1) := by decide +kernel
theorem d_X6_copy_114 : decode c_X6_copy 114 = .ok (.invokevirtual 52, 3) := by decide +kernel
theorem d_X6_copy_117 : decode c_X6_copy 117 = .ok (.iinc 2 1, 3) := by decide +kernel
theorem d_X6_copy_120 : decode c_X6_copy 120 = .ok (.goto (-24), 3) := by decide +kernel
theorem d_X6_copy_123 : decode c_X6_copy 123 = .ok (.return_, 1) := by decide +kernel
set_option maxHeartbeats 4000000 in
set_option maxRecDepth 100000 in
theorem ct_X6_copy_2_1 (l : Launch) (D : va_G) (dA : Nat → ClassId) (ad : Nat → Nat) (v : tV) (hI : Inv v)  : Met l m_X6_copy [.code m_X6_copy c_X6_copy 3 none] ({ frames := 3, cells := 0, slots := 0, locals := 101 } : Room) (tP D dA ad v [.ref (ad 2), .ref (ad 1)]) (tQv D dA ad (fun v' => Inv v' ∧ Kp v v')) 0 0 (tA ad) := by
  refine tMet (by decide) (Nat.le_of_ble_eq_true rfl) ?_
  intro p e s m below meth c ls X hr hlocks hw hl
  have X : CX p s m ([.ref (ad 2), .ref (ad 1)] : List Value).toArray c c_X6_copy N_X6 3 D dA := X
  have hx := X.1
  have hb := X.2.1
  have hS : va_S (tA ad) s.heap s.heap [] := va_S.rf
  have hl : lv_has ls 3 [(0, .ref (ad 2)), (1, .ref (ad 1))] := hl
  have LL : ∀ n : Nat, (∀ (y2 : Int32) (v1 : tV) (H : Heap) (locs : List Loc) (ls : Array Slot), (20 - y2.toInt).toNat + 100 < n → Rg y2 0 20 → Inv v1 → Kp v v1 → tI D dA ad v1 H → va_S (tA ad) s.heap H locs → lv_has ls 3 [(0, .ref (ad 2)), (1, .ref (ad 1)), (2, .int y2)] → W p l e ({ frames := 3, cells := 0, slots := 0, locals := 101 } : Room) s m ([.ref (ad 2), .ref (ad 1)] : List Value).toArray below meth c H locs 0 0 (MQ below (tQv D dA ad (fun v' => Inv v' ∧ Kp v v')) ([.ref (ad 2), .ref (ad 1)] : List Value).toArray s 0 0 (tA ad)) (F0 m 34 ls [])) ∧ (∀ (y2 : Int32) (v1 : tV) (H : Heap) (locs : List Loc) (ls : Array Slot), (10 - y2.toInt).toNat + 50 < n → Rg y2 0 10 → Inv v1 → Kp v v1 → tI D dA ad v1 H → va_S (tA ad) s.heap H locs → lv_has ls 3 [(0, .ref (ad 2)), (1, .ref (ad 1)), (2, .int y2)] → W p l e ({ frames := 3, cells := 0, slots := 0, locals := 101 } : Room) s m ([.ref (ad 2), .ref (ad 1)] : List Value).toArray below meth c H locs 0 0 (MQ below (tQv D dA ad (fun v' => Inv v' ∧ Kp v v')) ([.ref (ad 2), .ref (ad 1)] : List Value).toArray s 0 0 (tA ad)) (F0 m 65 ls [])) ∧ (∀ (y2 : Int32) (v1 : tV) (H : Heap) (locs : List Loc) (ls : Array Slot), (6 - y2.toInt).toNat + 0 < n → Rg y2 0 6 → Inv v1 → Kp v v1 → tI D dA ad v1 H → va_S (tA ad) s.heap H locs → lv_has ls 3 [(0, .ref (ad 2)), (1, .ref (ad 1)), (2, .int y2)] → W p l e ({ frames := 3, cells := 0, slots := 0, locals := 101 } : Room) s m ([.ref (ad 2), .ref (ad 1)] : List Value).toArray below meth c H locs 0 0 (MQ below (tQv D dA ad (fun v' => Inv v' ∧ Kp v v')) ([.ref (ad 2), .ref (ad 1)] : List Value).toArray s 0 0 (tA ad)) (F0 m 96 ls [])) := by
    intro n
    induction n with
    | zero => refine ⟨?_, ?_, ?_⟩ <;> (intros; omega)
    | succ n ih =>
      obtain ⟨ih0, ih1, ih2⟩ := ih
      refine ⟨?_, ?_, ?_⟩
      · intro y2 v1 H locs ls hmu r_y2 hI1 hK1 hw hS hl
        refine lv_iload_n hx hb d_X6_copy_34 rfl (lv_at hl 2 rfl) ?_
        refine lv_aload_n hx hb d_X6_copy_35 rfl (lv_at hl 0 rfl) ?_
        refine r_geti X hw FL_X6_29 (rfl : KD 2 = _) rfl d_X6_copy_36 ?_
        refine lv_topi (fun x1 ex1 => ?_)
        have r2 : Rg x1 0 20 := by rw [ex1]; exact hI1 _ _ _ _ rfl
        have hm3 : v1 2 3 = x1 := ex1.symm
        refine lv_icmp_ge (tgt := 63) hx hb d_X6_copy_39 (by decide) (fun c4 => ?_) (fun c4 => ?_)
        · have f5 := i_le c4
          refine lv_iconst (v := 0) hx hb d_X6_copy_63 (by decide) ?_
          refine lv_istore_n (lv' := [(2, .int 0), (0, .ref (ad 2)), (1, .ref (ad 1))]) hx hb d_X6_copy_64 rfl hl (by decide) rfl (fun ls hl => ?_)
          exact ih1 0 v1 _ _ _ (by obtain ⟨_, _⟩ := (⟨by decide, by decide⟩ : Rg 0 0 0); omega) (rg_w (⟨by decide, by decide⟩ : Rg 0 0 0) (by decide) (by decide)) hI1 hK1 hw hS (lv_sub hl [1, 2, 0] rfl)
        · have f6 := i_nle c4
          have r7 : Rg y2 0 19 := by obtain ⟨a1, a2⟩ := r_y2; obtain ⟨b1, b2⟩ := r2; have f := i_nle c4; exact ⟨by omega, by omega⟩
          have r8 : Rg x1 1 20 := by obtain ⟨a1, a2⟩ := r_y2; obtain ⟨b1, b2⟩ := r2; have f := i_nle c4; exact ⟨by omega, by omega⟩
          refine lv_aload_n hx hb d_X6_copy_42 rfl (lv_at hl 0 rfl) ?_
          refine r_getr (r := 11) X hw FL_X6_11 (rfl : KD 2 = _) rfl d_X6_copy_43 ?_
          refine lv_iload_n hx hb d_X6_copy_46 rfl (lv_at hl 2 rfl) ?_
          refine r_aald X hw (rfl : KD 11 = _) (Or.inl rfl) (Rg.vp (b := 19) r7 (by decide)) rfl d_X6_copy_47 ?_
          refine r_nm (fun kc9 ekc9 => ?_)
          have kc9a : 120 ≤ kc9 := by omega
          have kc9b : kc9 ≤ 139 := by have := Rg.nat r7; omega
          refine lv_aload_n hx hb d_X6_copy_48 rfl (lv_at hl 1 rfl) ?_
          refine r_getr (r := 10) X hw FL_X6_11 (rfl : KD 1 = _) rfl d_X6_copy_49 ?_
          refine lv_iload_n hx hb d_X6_copy_52 rfl (lv_at hl 2 rfl) ?_
          refine r_aald X hw (rfl : KD 10 = _) (Or.inl rfl) (Rg.vp (b := 19) r7 (by decide)) rfl d_X6_copy_53 ?_
          refine r_nm (fun kc10 ekc10 => ?_)
          have kc10a : 100 ≤ kc10 := by omega
          have kc10b : kc10 ≤ 119 := by have := Rg.nat r7; omega
          refine r_cv (r_runV (n := 1) (As := [.ref (ad kc10)]) (rest := []) X hw (ct_X7_copy l D dA ad v1 hI1 kc9 kc10 (by omega) (by omega) (by omega) (by omega)) gc_X6_45 (KD_ship (by omega) (by omega)) (by decide) rfl (by decide +kernel) ⟨rfl, rfl, Nat.le_of_ble_eq_true rfl, Nat.le_of_ble_eq_true rfl⟩ rfl hl.1 rfl (Nat.le_of_ble_eq_true rfl) ⟨Nat.zero_le _, Nat.zero_le _⟩ d_X6_copy_54) hS (fun v12 H locs hp11 hw hS => ?_)
          obtain ⟨hI13, hK14⟩ := hp11
          have hK15 : Kp v v12 := Kp.tr hK1 hK14
          obtain ⟨x16, ex16⟩ : ∃ y : Int32, y = y2 + 1 := ⟨_, rfl⟩
          refine lv_iinc (v := x16) (lv' := [(2, .int x16), (0, .ref (ad 2)), (1, .ref (ad 1))]) hx hb d_X6_copy_57 hl (k := 2) rfl (by rw [ex16]; rfl) (by decide) rfl (fun ls hl => ?_)
          have r17 : Rg x16 1 20 := rg_add ex16 r7 (⟨by decide, by decide⟩ : Rg 1 1 1) (by decide) (by decide)
          have s18 : x16.toInt = y2.toInt + (1 : Int32).toInt := by rw [ex16]; exact i_add (by obtain ⟨_, _⟩ := r7; obtain ⟨_, _⟩ := (⟨by decide, by decide⟩ : Rg 1 1 1); omega) (by obtain ⟨_, _⟩ := r7; obtain ⟨_, _⟩ := (⟨by decide, by decide⟩ : Rg 1 1 1); omega)
          have s18l : (1 : Int32).toInt = 1 := rfl
          refine lv_goto (tgt := 34) hx hb d_X6_copy_60 (by decide) ?_
          exact ih0 x16 v12 _ _ _ (by have := s18; obtain ⟨_, _⟩ := r17; omega) (rg_w r17 (by decide) (by decide)) hI13 hK15 hw hS (lv_sub hl [1, 2, 0] rfl)
      · intro y2 v1 H locs ls hmu r_y2 hI1 hK1 hw hS hl
        refine lv_iload_n hx hb d_X6_copy_65 rfl (lv_at hl 2 rfl) ?_
        refine lv_aload_n hx hb d_X6_copy_66 rfl (lv_at hl 0 rfl) ?_
        refine r_geti X hw FL_X6_33 (rfl : KD 2 = _) rfl d_X6_copy_67 ?_
        refine lv_topi (fun x19 ex19 => ?_)
        have r20 : Rg x19 0 10 := by rw [ex19]; exact hI1 _ _ _ _ rfl
        have hm21 : v1 2 4 = x19 := ex19.symm
        refine lv_icmp_ge (tgt := 94) hx hb d_X6_copy_70 (by decide) (fun c22 => ?_) (fun c22 => ?_)
        · have f23 := i_le c22
          refine lv_iconst (v := 0) hx hb d_X6_copy_94 (by decide) ?_
          refine lv_istore_n (lv' := [(2, .int 0), (0, .ref (ad 2)), (1, .ref (ad 1))]) hx hb d_X6_copy_95 rfl hl (by decide) rfl (fun ls hl => ?_)
          exact ih2 0 v1 _ _ _ (by obtain ⟨_, _⟩ := (⟨by decide, by decide⟩ : Rg 0 0 0); omega) (rg_w (⟨by decide, by decide⟩ : Rg 0 0 0) (by decide) (by decide)) hI1 hK1 hw hS (lv_sub hl [1, 2, 0] rfl)
        · have f24 := i_nle c22
          have r25 : Rg y2 0 9 := by obtain ⟨a1, a2⟩ := r_y2; obtain ⟨b1, b2⟩ := r20; have f := i_nle c22; exact ⟨by omega, by omega⟩
          have r26 : Rg x19 1 10 := by obtain ⟨a1, a2⟩ := r_y2; obtain ⟨b1, b2⟩ := r20; have f := i_nle c22; exact ⟨by omega, by omega⟩
          refine lv_aload_n hx hb d_X6_copy_73 rfl (lv_at hl 0 rfl) ?_
          refine r_getr (r := 14) X hw FL_X6_19 (rfl : KD 2 = _) rfl d_X6_copy_74 ?_
          refine lv_iload_n hx hb d_X6_copy_77 rfl (lv_at hl 2 rfl) ?_
          refine r_aald X hw (rfl : KD 14 = _) (Or.inr (Or.inl rfl)) (Rg.vp (b := 9) r25 (by decide)) rfl d_X6_copy_78 ?_
          refine r_nm (fun kc27 ekc27 => ?_)
          have kc27a : 210 ≤ kc27 := by omega
          have kc27b : kc27 ≤ 219 := by have := Rg.nat r25; omega
          refine lv_aload_n hx hb d_X6_copy_79 rfl (lv_at hl 1 rfl) ?_
          refine r_getr (r := 13) X hw FL_X6_19 (rfl : KD 1 = _) rfl d_X6_copy_80 ?_
          refine lv_iload_n hx hb d_X6_copy_83 rfl (lv_at hl 2 rfl) ?_
          refine r_aald X hw (rfl : KD 13 = _) (Or.inr (Or.inl rfl)) (Rg.vp (b := 9) r25 (by decide)) rfl d_X6_copy_84 ?_
          refine r_nm (fun kc28 ekc28 => ?_)
          have kc28a : 200 ≤ kc28 := by omega
          have kc28b : kc28 ≤ 209 := by have := Rg.nat r25; omega
          refine r_cv (r_runV (n := 1) (As := [.ref (ad kc28)]) (rest := []) X hw (ct_X0_copy l D dA ad v1 hI1 kc27 kc28 (by omega) (by omega) (by omega) (by omega)) gc_X6_49 (KD_buyer (by omega) (by omega)) (by decide) rfl (by decide +kernel) ⟨rfl, rfl, Nat.le_of_ble_eq_true rfl, Nat.le_of_ble_eq_true rfl⟩ rfl hl.1 rfl (Nat.le_of_ble_eq_true rfl) ⟨Nat.zero_le _, Nat.zero_le _⟩ d_X6_copy_85) hS (fun v30 H locs hp29 hw hS => ?_)
          obtain ⟨hI31, hK32⟩ := hp29
          have hK33 : Kp v v30 := Kp.tr hK1 hK32
          obtain ⟨x34, ex34⟩ : ∃ y : Int32, y = y2 + 1 := ⟨_, rfl⟩
          refine lv_iinc (v := x34) (lv' := [(2, .int x34), (0, .ref (ad 2)), (1, .ref (ad 1))]) hx hb d_X6_copy_88 hl (k := 2) rfl (by rw [ex34]; rfl) (by decide) rfl (fun ls hl => ?_)
          have r35 : Rg x34 1 10 := rg_add ex34 r25 (⟨by decide, by decide⟩ : Rg 1 1 1) (by decide) (by decide)
          have s36 : x34.toInt = y2.toInt + (1 : Int32).toInt := by rw [ex34]; exact i_add (by obtain ⟨_, _⟩ := r25; obtain ⟨_, _⟩ := (⟨by decide, by decide⟩ : Rg 1 1 1); omega) (by obtain ⟨_, _⟩ := r25; obtain ⟨_, _⟩ := (⟨by decide, by decide⟩ : Rg 1 1 1); omega)
          have s36l : (1 : Int32).toInt = 1 := rfl
          refine lv_goto (tgt := 65) hx hb d_X6_copy_91 (by decide) ?_
          exact ih1 x34 v30 _ _ _ (by have := s36; obtain ⟨_, _⟩ := r35; omega) (rg_w r35 (by decide) (by decide)) hI31 hK33 hw hS (lv_sub hl [1, 2, 0] rfl)
      · intro y2 v1 H locs ls hmu r_y2 hI1 hK1 hw hS hl
        refine lv_iload_n hx hb d_X6_copy_96 rfl (lv_at hl 2 rfl) ?_
        refine lv_bipush (v := 6) hx hb d_X6_copy_97 (by decide) ?_
        refine lv_icmp_ge (tgt := 123) hx hb d_X6_copy_99 (by decide) (fun c37 => ?_) (fun c37 => ?_)
        · have f38 := i_le c37
          have r39 : Rg y2 6 6 := by obtain ⟨a1, a2⟩ := r_y2; obtain ⟨b1, b2⟩ := (⟨by decide, by decide⟩ : Rg 6 6 6); have f := i_le c37; exact ⟨by omega, by omega⟩
          exact r_vret X hr hlocks hw hS ⟨hI1, hK1⟩ d_X6_copy_123
        · have f40 := i_nle c37
          have r41 : Rg y2 0 5 := by obtain ⟨a1, a2⟩ := r_y2; obtain ⟨b1, b2⟩ := (⟨by decide, by decide⟩ : Rg 6 6 6); have f := i_nle c37; exact ⟨by omega, by omega⟩
          refine lv_aload_n hx hb d_X6_copy_102 rfl (lv_at hl 0 rfl) ?_
          refine r_getr (r := 17) X hw FL_X6_25 (rfl : KD 2 = _) rfl d_X6_copy_103 ?_
          refine lv_iload_n hx hb d_X6_copy_106 rfl (lv_at hl 2 rfl) ?_
          refine r_aald X hw (rfl : KD 17 = _) (Or.inr (Or.inr (Or.inl rfl))) (Rg.vp (b := 5) r41 (by decide)) rfl d_X6_copy_107 ?_
          refine r_nm (fun kc42 ekc42 => ?_)
          have kc42a : 306 ≤ kc42 := by omega
          have kc42b : kc42 ≤ 311 := by have := Rg.nat r41; omega
          refine lv_aload_n hx hb d_X6_copy_108 rfl (lv_at hl 1 rfl) ?_
          refine r_getr (r := 16) X hw FL_X6_25 (rfl : KD 1 = _) rfl d_X6_copy_109 ?_
          refine lv_iload_n hx hb d_X6_copy_112 rfl (lv_at hl 2 rfl) ?_
          refine r_aald X hw (rfl : KD 16 = _) (Or.inr (Or.inr (Or.inl rfl))) (Rg.vp (b := 5) r41 (by decide)) rfl d_X6_copy_113 ?_
          refine r_nm (fun kc43 ekc43 => ?_)
          have kc43a : 300 ≤ kc43 := by omega
          have kc43b : kc43 ≤ 305 := by have := Rg.nat r41; omega
          refine r_cv (r_runV (n := 1) (As := [.ref (ad kc43)]) (rest := []) X hw (ct_X9_copy_A l D dA ad v1 hI1 kc42 kc43 (by omega) (by omega) (by omega) (by omega)) gc_X6_52 (KD_ward (by omega) (by omega)) (by decide) rfl (by decide +kernel) ⟨rfl, rfl, Nat.le_of_ble_eq_true rfl, Nat.le_of_ble_eq_true rfl⟩ rfl hl.1 rfl (Nat.le_of_ble_eq_true rfl) ⟨Nat.zero_le _, Nat.zero_le _⟩ d_X6_copy_114) hS (fun v45 H locs hp44 hw hS => ?_)
          obtain ⟨hI46, hK47⟩ := hp44
          have hK48 : Kp v v45 := Kp.tr hK1 hK47
          obtain ⟨x49, ex49⟩ : ∃ y : Int32, y = y2 + 1 := ⟨_, rfl⟩
          refine lv_iinc (v := x49) (lv' := [(2, .int x49), (0, .ref (ad 2)), (1, .ref (ad 1))]) hx hb d_X6_copy_117 hl (k := 2) rfl (by rw [ex49]; rfl) (by decide) rfl (fun ls hl => ?_)
          have r50 : Rg x49 1 6 := rg_add ex49 r41 (⟨by decide, by decide⟩ : Rg 1 1 1) (by decide) (by decide)
          have s51 : x49.toInt = y2.toInt + (1 : Int32).toInt := by rw [ex49]; exact i_add (by obtain ⟨_, _⟩ := r41; obtain ⟨_, _⟩ := (⟨by decide, by decide⟩ : Rg 1 1 1); omega) (by obtain ⟨_, _⟩ := r41; obtain ⟨_, _⟩ := (⟨by decide, by decide⟩ : Rg 1 1 1); omega)
          have s51l : (1 : Int32).toInt = 1 := rfl
          refine lv_goto (tgt := 96) hx hb d_X6_copy_120 (by decide) ?_
          exact ih2 x49 v45 _ _ _ (by have := s51; obtain ⟨_, _⟩ := r50; omega) (rg_w r50 (by decide) (by decide)) hI46 hK48 hw hS (lv_sub hl [1, 2, 0] rfl)
  obtain ⟨ih0, ih1, ih2⟩ := LL 100000
  have hK0 : Kp v v := Kp.rf v
  refine lv_aload_n hx hb d_X6_copy_0 rfl (lv_at hl 0 rfl) ?_
  refine lv_aload_n hx hb d_X6_copy_1 rfl (lv_at hl 1 rfl) ?_
  refine r_geti X hw FL_X6_29 (rfl : KD 1 = _) rfl d_X6_copy_2 ?_
  refine lv_topi (fun x52 ex52 => ?_)
  have r53 : Rg x52 0 20 := by rw [ex52]; exact hI _ _ _ _ rfl
  have hm54 : v 1 3 = x52 := ex52.symm
  refine r_put X hw hS FP_X6_29 (rfl : KD 2 = _) rfl ⟨rfl, rfl⟩ d_X6_copy_5 (fun H locs hw hS => ?_)
  obtain ⟨v55, ev55⟩ : ∃ z, z = up2 v 2 3 x52 := ⟨_, rfl⟩
  rw [← ev55] at hw
  have hI56 : Inv v55 := by rw [ev55]; exact Inv.putr hI rfl r53
  have hK57 : Kp v v55 := by rw [ev55]; exact Kp.put hK0 _ rfl
  have hm58 : v55 1 3 = x52 := by rw [ev55, up2_n _ _ (by omega)]; exact hm54
  have hm59 : v55 2 3 = x52 := by rw [ev55, up2_s]
  refine lv_aload_n hx hb d_X6_copy_8 rfl (lv_at hl 0 rfl) ?_
  refine lv_aload_n hx hb d_X6_copy_9 rfl (lv_at hl 1 rfl) ?_
  refine r_geti X hw FL_X6_33 (rfl : KD 1 = _) rfl d_X6_copy_10 ?_
  refine lv_topi (fun x60 ex60 => ?_)
  have r61 : Rg x60 0 10 := by rw [ex60]; exact hI56 _ _ _ _ rfl
  have hm62 : v55 1 4 = x60 := ex60.symm
  refine r_put X hw hS FP_X6_33 (rfl : KD 2 = _) rfl ⟨rfl, rfl⟩ d_X6_copy_13 (fun H locs hw hS => ?_)
  obtain ⟨v63, ev63⟩ : ∃ z, z = up2 v55 2 4 x60 := ⟨_, rfl⟩
  rw [← ev63] at hw
  have hI64 : Inv v63 := by rw [ev63]; exact Inv.putr hI56 rfl r61
  have hK65 : Kp v v63 := by rw [ev63]; exact Kp.put hK57 _ rfl
  have hm66 : v63 1 3 = x52 := by rw [ev63, up2_n _ _ (by omega)]; exact hm58
  have hm67 : v63 2 3 = x52 := by rw [ev63, up2_n _ _ (by omega)]; exact hm59
  have hm68 : v63 1 4 = x60 := by rw [ev63, up2_n _ _ (by omega)]; exact hm62
  have hm69 : v63 2 4 = x60 := by rw [ev63, up2_s]
  refine lv_aload_n hx hb d_X6_copy_16 rfl (lv_at hl 0 rfl) ?_
  refine lv_aload_n hx hb d_X6_copy_17 rfl (lv_at hl 1 rfl) ?_
  refine r_geti X hw FL_X6_36 (rfl : KD 1 = _) rfl d_X6_copy_18 ?_
  refine lv_topi (fun x70 ex70 => ?_)
  refine r_put X hw hS FP_X6_36 (rfl : KD 2 = _) rfl ⟨rfl, rfl⟩ d_X6_copy_21 (fun H locs hw hS => ?_)
  obtain ⟨v71, ev71⟩ : ∃ z, z = up2 v63 2 5 x70 := ⟨_, rfl⟩
  rw [← ev71] at hw
  have hI72 : Inv v71 := by rw [ev71]; exact Inv.put0 hI64 _ rfl
  have hK73 : Kp v v71 := by rw [ev71]; exact Kp.put hK65 _ rfl
  have hm74 : v71 1 3 = x52 := by rw [ev71, up2_n _ _ (by omega)]; exact hm66
  have hm75 : v71 2 3 = x52 := by rw [ev71, up2_n _ _ (by omega)]; exact hm67
  have hm76 : v71 1 4 = x60 := by rw [ev71, up2_n _ _ (by omega)]; exact hm68
  have hm77 : v71 2 4 = x60 := by rw [ev71, up2_n _ _ (by omega)]; exact hm69
  refine lv_aload_n hx hb d_X6_copy_24 rfl (lv_at hl 0 rfl) ?_
  refine lv_aload_n hx hb d_X6_copy_25 rfl (lv_at hl 1 rfl) ?_
  refine r_geti X hw FL_X6_39 (rfl : KD 1 = _) rfl d_X6_copy_26 ?_
  refine lv_topi (fun x78 ex78 => ?_)
  refine r_put X hw hS FP_X6_39 (rfl : KD 2 = _) rfl ⟨rfl, rfl⟩ d_X6_copy_29 (fun H locs hw hS => ?_)
  obtain ⟨v79, ev79⟩ : ∃ z, z = up2 v71 2 6 x78 := ⟨_, rfl⟩
  rw [← ev79] at hw
  have hI80 : Inv v79 := by rw [ev79]; exact Inv.put0 hI72 _ rfl
  have hK81 : Kp v v79 := by rw [ev79]; exact Kp.put hK73 _ rfl
  have hm82 : v79 1 3 = x52 := by rw [ev79, up2_n _ _ (by omega)]; exact hm74
  have hm83 : v79 2 3 = x52 := by rw [ev79, up2_n _ _ (by omega)]; exact hm75
  have hm84 : v79 1 4 = x60 := by rw [ev79, up2_n _ _ (by omega)]; exact hm76
  have hm85 : v79 2 4 = x60 := by rw [ev79, up2_n _ _ (by omega)]; exact hm77
  refine lv_iconst (v := 0) hx hb d_X6_copy_32 (by decide) ?_
  refine lv_istore_n (lv' := [(2, .int 0), (0, .ref (ad 2)), (1, .ref (ad 1))]) hx hb d_X6_copy_33 rfl hl (by decide) rfl (fun ls hl => ?_)
  exact ih0 0 v79 _ _ _ (by obtain ⟨_, _⟩ := (⟨by decide, by decide⟩ : Rg 0 0 0); omega) (rg_w (⟨by decide, by decide⟩ : Rg 0 0 0) (by decide) (by decide)) hI80 hK81 hw hS (lv_sub hl [1, 2, 0] rfl)
set_option maxHeartbeats 4000000 in
set_option maxRecDepth 100000 in
theorem ct_X6_copy_3_2 (l : Launch) (D : va_G) (dA : Nat → ClassId) (ad : Nat → Nat) (v : tV) (hI : Inv v)  : Met l m_X6_copy [.code m_X6_copy c_X6_copy 3 none] ({ frames := 3, cells := 0, slots := 0, locals := 101 } : Room) (tP D dA ad v [.ref (ad 3), .ref (ad 2)]) (tQv D dA ad (fun v' => Inv v' ∧ Kp v v')) 0 0 (tA ad) := by
  refine tMet (by decide) (Nat.le_of_ble_eq_true rfl) ?_
  intro p e s m below meth c ls X hr hlocks hw hl
  have X : CX p s m ([.ref (ad 3), .ref (ad 2)] : List Value).toArray c c_X6_copy N_X6 3 D dA := X
  have hx := X.1
  have hb := X.2.1
  have hS : va_S (tA ad) s.heap s.heap [] := va_S.rf
  have hl : lv_has ls 3 [(0, .ref (ad 3)), (1, .ref (ad 2))] := hl
  have LL : ∀ n : Nat, (∀ (y2 : Int32) (v1 : tV) (H : Heap) (locs : List Loc) (ls : Array Slot), (20 - y2.toInt).toNat + 100 < n → Rg y2 0 20 → Inv v1 → Kp v v1 → tI D dA ad v1 H → va_S (tA ad) s.heap H locs → lv_has ls 3 [(0, .ref (ad 3)), (1, .ref (ad 2)), (2, .int y2)] → W p l e ({ frames := 3, cells := 0, slots := 0, locals := 101 } : Room) s m ([.ref (ad 3), .ref (ad 2)] : List Value).toArray below meth c H locs 0 0 (MQ below (tQv D dA ad (fun v' => Inv v' ∧ Kp v v')) ([.ref (ad 3), .ref (ad 2)] : List Value).toArray s 0 0 (tA ad)) (F0 m 34 ls [])) ∧ (∀ (y2 : Int32) (v1 : tV) (H : Heap) (locs : List Loc) (ls : Array Slot), (10 - y2.toInt).toNat + 50 < n → Rg y2 0 10 → Inv v1 → Kp v v1 → tI D dA ad v1 H → va_S (tA ad) s.heap H locs → lv_has ls 3 [(0, .ref (ad 3)), (1, .ref (ad 2)), (2, .int y2)] → W p l e ({ frames := 3, cells := 0, slots := 0, locals := 101 } : Room) s m ([.ref (ad 3), .ref (ad 2)] : List Value).toArray below meth c H locs 0 0 (MQ below (tQv D dA ad (fun v' => Inv v' ∧ Kp v v')) ([.ref (ad 3), .ref (ad 2)] : List Value).toArray s 0 0 (tA ad)) (F0 m 65 ls [])) ∧ (∀ (y2 : Int32) (v1 : tV) (H : Heap) (locs : List Loc) (ls : Array Slot), (6 - y2.toInt).toNat + 0 < n → Rg y2 0 6 → Inv v1 → Kp v v1 → tI D dA ad v1 H → va_S (tA ad) s.heap H locs → lv_has ls 3 [(0, .ref (ad 3)), (1, .ref (ad 2)), (2, .int y2)] → W p l e ({ frames := 3, cells := 0, slots := 0, locals := 101 } : Room) s m ([.ref (ad 3), .ref (ad 2)] : List Value).toArray below meth c H locs 0 0 (MQ below (tQv D dA ad (fun v' => Inv v' ∧ Kp v v')) ([.ref (ad 3), .ref (ad 2)] : List Value).toArray s 0 0 (tA ad)) (F0 m 96 ls [])) := by
    intro n
    induction n with
    | zero => refine ⟨?_, ?_, ?_⟩ <;> (intros; omega)
    | succ n ih =>
      obtain ⟨ih0, ih1, ih2⟩ := ih
      refine ⟨?_, ?_, ?_⟩
      · intro y2 v1 H locs ls hmu r_y2 hI1 hK1 hw hS hl
        refine lv_iload_n hx hb d_X6_copy_34 rfl (lv_at hl 2 rfl) ?_
        refine lv_aload_n hx hb d_X6_copy_35 rfl (lv_at hl 0 rfl) ?_
        refine r_geti X hw FL_X6_29 (rfl : KD 3 = _) rfl d_X6_copy_36 ?_
        refine lv_topi (fun x1 ex1 => ?_)
        have r2 : Rg x1 0 20 := by rw [ex1]; exact hI1 _ _ _ _ rfl
        have hm3 : v1 3 3 = x1 := ex1.symm
        refine lv_icmp_ge (tgt := 63) hx hb d_X6_copy_39 (by decide) (fun c4 => ?_) (fun c4 => ?_)
        · have f5 := i_le c4
          refine lv_iconst (v := 0) hx hb d_X6_copy_63 (by decide) ?_
          refine lv_istore_n (lv' := [(2, .int 0), (0, .ref (ad 3)), (1, .ref (ad 2))]) hx hb d_X6_copy_64 rfl hl (by decide) rfl (fun ls hl => ?_)
          exact ih1 0 v1 _ _ _ (by obtain ⟨_, _⟩ := (⟨by decide, by decide⟩ : Rg 0 0 0); omega) (rg_w (⟨by decide, by decide⟩ : Rg 0 0 0) (by decide) (by decide)) hI1 hK1 hw hS (lv_sub hl [1, 2, 0] rfl)
        · have f6 := i_nle c4
          have r7 : Rg y2 0 19 := by obtain ⟨a1, a2⟩ := r_y2; obtain ⟨b1, b2⟩ := r2; have f := i_nle c4; exact ⟨by omega, by omega⟩
          have r8 : Rg x1 1 20 := by obtain ⟨a1, a2⟩ := r_y2; obtain ⟨b1, b2⟩ := r2; have f := i_nle c4; exact ⟨by omega, by omega⟩
          refine lv_aload_n hx hb d_X6_copy_42 rfl (lv_at hl 0 rfl) ?_
          refine r_getr (r := 12) X hw FL_X6_11 (rfl : KD 3 = _) rfl d_X6_copy_43 ?_
          refine lv_iload_n hx hb d_X6_copy_46 rfl (lv_at hl 2 rfl) ?_
          refine r_aald X hw (rfl : KD 12 = _) (Or.inl rfl) (Rg.vp (b := 19) r7 (by decide)) rfl d_X6_copy_47 ?_
          refine r_nm (fun kc9 ekc9 => ?_)
          have kc9a : 140 ≤ kc9 := by omega
          have kc9b : kc9 ≤ 159 := by have := Rg.nat r7; omega
          refine lv_aload_n hx hb d_X6_copy_48 rfl (lv_at hl 1 rfl) ?_
          refine r_getr (r := 11) X hw FL_X6_11 (rfl : KD 2 = _) rfl d_X6_copy_49 ?_
          refine lv_iload_n hx hb d_X6_copy_52 rfl (lv_at hl 2 rfl) ?_
          refine r_aald X hw (rfl : KD 11 = _) (Or.inl rfl) (Rg.vp (b := 19) r7 (by decide)) rfl d_X6_copy_53 ?_
          refine r_nm (fun kc10 ekc10 => ?_)
          have kc10a : 120 ≤ kc10 := by omega
          have kc10b : kc10 ≤ 139 := by have := Rg.nat r7; omega
          refine r_cv (r_runV (n := 1) (As := [.ref (ad kc10)]) (rest := []) X hw (ct_X7_copy l D dA ad v1 hI1 kc9 kc10 (by omega) (by omega) (by omega) (by omega)) gc_X6_45 (KD_ship (by omega) (by omega)) (by decide) rfl (by decide +kernel) ⟨rfl, rfl, Nat.le_of_ble_eq_true rfl, Nat.le_of_ble_eq_true rfl⟩ rfl hl.1 rfl (Nat.le_of_ble_eq_true rfl) ⟨Nat.zero_le _, Nat.zero_le _⟩ d_X6_copy_54) hS (fun v12 H locs hp11 hw hS => ?_)
          obtain ⟨hI13, hK14⟩ := hp11
          have hK15 : Kp v v12 := Kp.tr hK1 hK14
          obtain ⟨x16, ex16⟩ : ∃ y : Int32, y = y2 + 1 := ⟨_, rfl⟩
          refine lv_iinc (v := x16) (lv' := [(2, .int x16), (0, .ref (ad 3)), (1, .ref (ad 2))]) hx hb d_X6_copy_57 hl (k := 2) rfl (by rw [ex16]; rfl) (by decide) rfl (fun ls hl => ?_)
          have r17 : Rg x16 1 20 := rg_add ex16 r7 (⟨by decide, by decide⟩ : Rg 1 1 1) (by decide) (by decide)
          have s18 : x16.toInt = y2.toInt + (1 : Int32).toInt := by rw [ex16]; exact i_add (by obtain ⟨_, _⟩ := r7; obtain ⟨_, _⟩ := (⟨by decide, by decide⟩ : Rg 1 1 1); omega) (by obtain ⟨_, _⟩ := r7; obtain ⟨_, _⟩ := (⟨by decide, by decide⟩ : Rg 1 1 1); omega)
          have s18l : (1 : Int32).toInt = 1 := rfl
          refine lv_goto (tgt := 34) hx hb d_X6_copy_60 (by decide) ?_
          exact ih0 x16 v12 _ _ _ (by have := s18; obtain ⟨_, _⟩ := r17; omega) (rg_w r17 (by decide) (by decide)) hI13 hK15 hw hS (lv_sub hl [1, 2, 0] rfl)
      · intro y2 v1 H locs ls hmu r_y2 hI1 hK1 hw hS hl
        refine lv_iload_n hx hb d_X6_copy_65 rfl (lv_at hl 2 rfl) ?_
        refine lv_aload_n hx hb d_X6_copy_66 rfl (lv_at hl 0 rfl) ?_
        refine r_geti X hw FL_X6_33 (rfl : KD 3 = _) rfl d_X6_copy_67 ?_
        refine lv_topi (fun x19 ex19 => ?_)
        have r20 : Rg x19 0 10 := by rw [ex19]; exact hI1 _ _ _ _ rfl
        have hm21 : v1 3 4 = x19 := ex19.symm
        refine lv_icmp_ge (tgt := 94) hx hb d_X6_copy_70 (by decide) (fun c22 => ?_) (fun c22 => ?_)
        · have f23 := i_le c22
          refine lv_iconst (v := 0) hx hb d_X6_copy_94 (by decide) ?_
          refine lv_istore_n (lv' := [(2, .int 0), (0, .ref (ad 3)), (1, .ref (ad 2))]) hx hb d_X6_copy_95 rfl hl (by decide) rfl (fun ls hl => ?_)
          exact ih2 0 v1 _ _ _ (by obtain ⟨_, _⟩ := (⟨by decide, by decide⟩ : Rg 0 0 0); omega) (rg_w (⟨by decide, by decide⟩ : Rg 0 0 0) (by decide) (by decide)) hI1 hK1 hw hS (lv_sub hl [1, 2, 0] rfl)
        · have f24 := i_nle c22
          have r25 : Rg y2 0 9 := by obtain ⟨a1, a2⟩ := r_y2; obtain ⟨b1, b2⟩ := r20; have f := i_nle c22; exact ⟨by omega, by omega⟩
          have r26 : Rg x19 1 10 := by obtain ⟨a1, a2⟩ := r_y2; obtain ⟨b1, b2⟩ := r20; have f := i_nle c22; exact ⟨by omega, by omega⟩
          refine lv_aload_n hx hb d_X6_copy_73 rfl (lv_at hl 0 rfl) ?_
          refine r_getr (r := 15) X hw FL_X6_19 (rfl : KD 3 = _) rfl d_X6_copy_74 ?_
          refine lv_iload_n hx hb d_X6_copy_77 rfl (lv_at hl 2 rfl) ?_
          refine r_aald X hw (rfl : KD 15 = _) (Or.inr (Or.inl rfl)) (Rg.vp (b := 9) r25 (by decide)) rfl d_X6_copy_78 ?_
          refine r_nm (fun kc27 ekc27 => ?_)
          have kc27a : 220 ≤ kc27 := by omega
          have kc27b : kc27 ≤ 229 := by have := Rg.nat r25; omega
          refine lv_aload_n hx hb d_X6_copy_79 rfl (lv_at hl 1 rfl) ?_
          refine r_getr (r := 14) X hw FL_X6_19 (rfl : KD 2 = _) rfl d_X6_copy_80 ?_
          refine lv_iload_n hx hb d_X6_copy_83 rfl (lv_at hl 2 rfl) ?_
          refine r_aald X hw (rfl : KD 14 = _) (Or.inr (Or.inl rfl)) (Rg.vp (b := 9) r25 (by decide)) rfl d_X6_copy_84 ?_
          refine r_nm (fun kc28 ekc28 => ?_)
          have kc28a : 210 ≤ kc28 := by omega
          have kc28b : kc28 ≤ 219 := by have := Rg.nat r25; omega
          refine r_cv (r_runV (n := 1) (As := [.ref (ad kc28)]) (rest := []) X hw (ct_X0_copy l D dA ad v1 hI1 kc27 kc28 (by omega) (by omega) (by omega) (by omega)) gc_X6_49 (KD_buyer (by omega) (by omega)) (by decide) rfl (by decide +kernel) ⟨rfl, rfl, Nat.le_of_ble_eq_true rfl, Nat.le_of_ble_eq_true rfl⟩ rfl hl.1 rfl (Nat.le_of_ble_eq_true rfl) ⟨Nat.zero_le _, Nat.zero_le _⟩ d_X6_copy_85) hS (fun v30 H locs hp29 hw hS => ?_)
          obtain ⟨hI31, hK32⟩ := hp29
          have hK33 : Kp v v30 := Kp.tr hK1 hK32
          obtain ⟨x34, ex34⟩ : ∃ y : Int32, y = y2 + 1 := ⟨_, rfl⟩
          refine lv_iinc (v := x34) (lv' := [(2, .int x34), (0, .ref (ad 3)), (1, .ref (ad 2))]) hx hb d_X6_copy_88 hl (k := 2) rfl (by rw [ex34]; rfl) (by decide) rfl (fun ls hl => ?_)
          have r35 : Rg x34 1 10 := rg_add ex34 r25 (⟨by decide, by decide⟩ : Rg 1 1 1) (by decide) (by decide)
          have s36 : x34.toInt = y2.toInt + (1 : Int32).toInt := by rw [ex34]; exact i_add (by obtain ⟨_, _⟩ := r25; obtain ⟨_, _⟩ := (⟨by decide, by decide⟩ : Rg 1 1 1); omega) (by obtain ⟨_, _⟩ := r25; obtain ⟨_, _⟩ := (⟨by decide, by decide⟩ : Rg 1 1 1); omega)
          have s36l : (1 : Int32).toInt = 1 := rfl
          refine lv_goto (tgt := 65) hx hb d_X6_copy_91 (by decide) ?_
          exact ih1 x34 v30 _ _ _ (by have := s36; obtain ⟨_, _⟩ := r35; omega) (rg_w r35 (by decide) (by decide)) hI31 hK33 hw hS (lv_sub hl [1, 2, 0] rfl)
      · intro y2 v1 H locs ls hmu r_y2 hI1 hK1 hw hS hl
        refine lv_iload_n hx hb d_X6_copy_96 rfl (lv_at hl 2 rfl) ?_
        refine lv_bipush (v := 6) hx hb d_X6_copy_97 (by decide) ?_
        refine lv_icmp_ge (tgt := 123) hx hb d_X6_copy_99 (by decide) (fun c37 => ?_) (fun c37 => ?_)
        · have f38 := i_le c37
          have r39 : Rg y2 6 6 := by obtain ⟨a1, a2⟩ := r_y2; obtain ⟨b1, b2⟩ := (⟨by decide, by decide⟩ : Rg 6 6 6); have f := i_le c37; exact ⟨by omega, by omega⟩
          exact r_vret X hr hlocks hw hS ⟨hI1, hK1⟩ d_X6_copy_123
        · have f40 := i_nle c37
          have r41 : Rg y2 0 5 := by obtain ⟨a1, a2⟩ := r_y2; obtain ⟨b1, b2⟩ := (⟨by decide, by decide⟩ : Rg 6 6 6); have f := i_nle c37; exact ⟨by omega, by omega⟩
          refine lv_aload_n hx hb d_X6_copy_102 rfl (lv_at hl 0 rfl) ?_
          refine r_getr (r := 18) X hw FL_X6_25 (rfl : KD 3 = _) rfl d_X6_copy_103 ?_
          refine lv_iload_n hx hb d_X6_copy_106 rfl (lv_at hl 2 rfl) ?_
          refine r_aald X hw (rfl : KD 18 = _) (Or.inr (Or.inr (Or.inl rfl))) (Rg.vp (b := 5) r41 (by decide)) rfl d_X6_copy_107 ?_
          refine r_nm (fun kc42 ekc42 => ?_)
          have kc42a : 312 ≤ kc42 := by omega
          have kc42b : kc42 ≤ 317 := by have := Rg.nat r41; omega
          refine lv_aload_n hx hb d_X6_copy_108 rfl (lv_at hl 1 rfl) ?_
          refine r_getr (r := 17) X hw FL_X6_25 (rfl : KD 2 = _) rfl d_X6_copy_109 ?_
          refine lv_iload_n hx hb d_X6_copy_112 rfl (lv_at hl 2 rfl) ?_
          refine r_aald X hw (rfl : KD 17 = _) (Or.inr (Or.inr (Or.inl rfl))) (Rg.vp (b := 5) r41 (by decide)) rfl d_X6_copy_113 ?_
          refine r_nm (fun kc43 ekc43 => ?_)
          have kc43a : 306 ≤ kc43 := by omega
          have kc43b : kc43 ≤ 311 := by have := Rg.nat r41; omega
          refine r_cv (r_runV (n := 1) (As := [.ref (ad kc43)]) (rest := []) X hw (ct_X9_copy_B l D dA ad v1 hI1 kc42 kc43 (by omega) (by omega) (by omega) (by omega)) gc_X6_52 (KD_ward (by omega) (by omega)) (by decide) rfl (by decide +kernel) ⟨rfl, rfl, Nat.le_of_ble_eq_true rfl, Nat.le_of_ble_eq_true rfl⟩ rfl hl.1 rfl (Nat.le_of_ble_eq_true rfl) ⟨Nat.zero_le _, Nat.zero_le _⟩ d_X6_copy_114) hS (fun v45 H locs hp44 hw hS => ?_)
          obtain ⟨hI46, hK47⟩ := hp44
          have hK48 : Kp v v45 := Kp.tr hK1 hK47
          obtain ⟨x49, ex49⟩ : ∃ y : Int32, y = y2 + 1 := ⟨_, rfl⟩
          refine lv_iinc (v := x49) (lv' := [(2, .int x49), (0, .ref (ad 3)), (1, .ref (ad 2))]) hx hb d_X6_copy_117 hl (k := 2) rfl (by rw [ex49]; rfl) (by decide) rfl (fun ls hl => ?_)
          have r50 : Rg x49 1 6 := rg_add ex49 r41 (⟨by decide, by decide⟩ : Rg 1 1 1) (by decide) (by decide)
          have s51 : x49.toInt = y2.toInt + (1 : Int32).toInt := by rw [ex49]; exact i_add (by obtain ⟨_, _⟩ := r41; obtain ⟨_, _⟩ := (⟨by decide, by decide⟩ : Rg 1 1 1); omega) (by obtain ⟨_, _⟩ := r41; obtain ⟨_, _⟩ := (⟨by decide, by decide⟩ : Rg 1 1 1); omega)
          have s51l : (1 : Int32).toInt = 1 := rfl
          refine lv_goto (tgt := 96) hx hb d_X6_copy_120 (by decide) ?_
          exact ih2 x49 v45 _ _ _ (by have := s51; obtain ⟨_, _⟩ := r50; omega) (rg_w r50 (by decide) (by decide)) hI46 hK48 hw hS (lv_sub hl [1, 2, 0] rfl)
  obtain ⟨ih0, ih1, ih2⟩ := LL 100000
  have hK0 : Kp v v := Kp.rf v
  refine lv_aload_n hx hb d_X6_copy_0 rfl (lv_at hl 0 rfl) ?_
  refine lv_aload_n hx hb d_X6_copy_1 rfl (lv_at hl 1 rfl) ?_
  refine r_geti X hw FL_X6_29 (rfl : KD 2 = _) rfl d_X6_copy_2 ?_
  refine lv_topi (fun x52 ex52 => ?_)
  have r53 : Rg x52 0 20 := by rw [ex52]; exact hI _ _ _ _ rfl
  have hm54 : v 2 3 = x52 := ex52.symm
  refine r_put X hw hS FP_X6_29 (rfl : KD 3 = _) rfl ⟨rfl, rfl⟩ d_X6_copy_5 (fun H locs hw hS => ?_)
  obtain ⟨v55, ev55⟩ : ∃ z, z = up2 v 3 3 x52 := ⟨_, rfl⟩
  rw [← ev55] at hw
  have hI56 : Inv v55 := by rw [ev55]; exact Inv.putr hI rfl r53
  have hK57 : Kp v v55 := by rw [ev55]; exact Kp.put hK0 _ rfl
  have hm58 : v55 2 3 = x52 := by rw [ev55, up2_n _ _ (by omega)]; exact hm54
  have hm59 : v55 3 3 = x52 := by rw [ev55, up2_s]
  refine lv_aload_n hx hb d_X6_copy_8 rfl (lv_at hl 0 rfl) ?_
  refine lv_aload_n hx hb d_X6_copy_9 rfl (lv_at hl 1 rfl) ?_
  refine r_geti X hw FL_X6_33 (rfl : KD 2 = _) rfl d_X6_copy_10 ?_
  refine lv_topi (fun x60 ex60 => ?_)
  have r61 : Rg x60 0 10 := by rw [ex60]; exact hI56 _ _ _ _ rfl
  have hm62 : v55 2 4 = x60 := ex60.symm
  refine r_put X hw hS FP_X6_33 (rfl : KD 3 = _) rfl ⟨rfl, rfl⟩ d_X6_copy_13 (fun H locs hw hS => ?_)
  obtain ⟨v63, ev63⟩ : ∃ z, z = up2 v55 3 4 x60 := ⟨_, rfl⟩
  rw [← ev63] at hw
  have hI64 : Inv v63 := by rw [ev63]; exact Inv.putr hI56 rfl r61
  have hK65 : Kp v v63 := by rw [ev63]; exact Kp.put hK57 _ rfl
  have hm66 : v63 2 3 = x52 := by rw [ev63, up2_n _ _ (by omega)]; exact hm58
  have hm67 : v63 3 3 = x52 := by rw [ev63, up2_n _ _ (by omega)]; exact hm59
  have hm68 : v63 2 4 = x60 := by rw [ev63, up2_n _ _ (by omega)]; exact hm62
  have hm69 : v63 3 4 = x60 := by rw [ev63, up2_s]
  refine lv_aload_n hx hb d_X6_copy_16 rfl (lv_at hl 0 rfl) ?_
  refine lv_aload_n hx hb d_X6_copy_17 rfl (lv_at hl 1 rfl) ?_
  refine r_geti X hw FL_X6_36 (rfl : KD 2 = _) rfl d_X6_copy_18 ?_
  refine lv_topi (fun x70 ex70 => ?_)
  refine r_put X hw hS FP_X6_36 (rfl : KD 3 = _) rfl ⟨rfl, rfl⟩ d_X6_copy_21 (fun H locs hw hS => ?_)
  obtain ⟨v71, ev71⟩ : ∃ z, z = up2 v63 3 5 x70 := ⟨_, rfl⟩
  rw [← ev71] at hw
  have hI72 : Inv v71 := by rw [ev71]; exact Inv.put0 hI64 _ rfl
  have hK73 : Kp v v71 := by rw [ev71]; exact Kp.put hK65 _ rfl
  have hm74 : v71 2 3 = x52 := by rw [ev71, up2_n _ _ (by omega)]; exact hm66
  have hm75 : v71 3 3 = x52 := by rw [ev71, up2_n _ _ (by omega)]; exact hm67
  have hm76 : v71 2 4 = x60 := by rw [ev71, up2_n _ _ (by omega)]; exact hm68
  have hm77 : v71 3 4 = x60 := by rw [ev71, up2_n _ _ (by omega)]; exact hm69
  refine lv_aload_n hx hb d_X6_copy_24 rfl (lv_at hl 0 rfl) ?_
  refine lv_aload_n hx hb d_X6_copy_25 rfl (lv_at hl 1 rfl) ?_
  refine r_geti X hw FL_X6_39 (rfl : KD 2 = _) rfl d_X6_copy_26 ?_
  refine lv_topi (fun x78 ex78 => ?_)
  refine r_put X hw hS FP_X6_39 (rfl : KD 3 = _) rfl ⟨rfl, rfl⟩ d_X6_copy_29 (fun H locs hw hS => ?_)
  obtain ⟨v79, ev79⟩ : ∃ z, z = up2 v71 3 6 x78 := ⟨_, rfl⟩
  rw [← ev79] at hw
  have hI80 : Inv v79 := by rw [ev79]; exact Inv.put0 hI72 _ rfl
  have hK81 : Kp v v79 := by rw [ev79]; exact Kp.put hK73 _ rfl
  have hm82 : v79 2 3 = x52 := by rw [ev79, up2_n _ _ (by omega)]; exact hm74
  have hm83 : v79 3 3 = x52 := by rw [ev79, up2_n _ _ (by omega)]; exact hm75
  have hm84 : v79 2 4 = x60 := by rw [ev79, up2_n _ _ (by omega)]; exact hm76
  have hm85 : v79 3 4 = x60 := by rw [ev79, up2_n _ _ (by omega)]; exact hm77
  refine lv_iconst (v := 0) hx hb d_X6_copy_32 (by decide) ?_
  refine lv_istore_n (lv' := [(2, .int 0), (0, .ref (ad 3)), (1, .ref (ad 2))]) hx hb d_X6_copy_33 rfl hl (by decide) rfl (fun ls hl => ?_)
  exact ih0 0 v79 _ _ _ (by obtain ⟨_, _⟩ := (⟨by decide, by decide⟩ : Rg 0 0 0); omega) (rg_w (⟨by decide, by decide⟩ : Rg 0 0 0) (by decide) (by decide)) hI80 hK81 hw hS (lv_sub hl [1, 2, 0] rfl)
set_option maxHeartbeats 4000000 in
set_option maxRecDepth 100000 in
theorem ct_X6_copy_3_1 (l : Launch) (D : va_G) (dA : Nat → ClassId) (ad : Nat → Nat) (v : tV) (hI : Inv v)  : Met l m_X6_copy [.code m_X6_copy c_X6_copy 3 none] ({ frames := 3, cells := 0, slots := 0, locals := 101 } : Room) (tP D dA ad v [.ref (ad 3), .ref (ad 1)]) (tQv D dA ad (fun v' => Inv v' ∧ Kp v v')) 0 0 (tA ad) := by
  refine tMet (by decide) (Nat.le_of_ble_eq_true rfl) ?_
  intro p e s m below meth c ls X hr hlocks hw hl
  have X : CX p s m ([.ref (ad 3), .ref (ad 1)] : List Value).toArray c c_X6_copy N_X6 3 D dA := X
  have hx := X.1
  have hb := X.2.1
  have hS : va_S (tA ad) s.heap s.heap [] := va_S.rf
  have hl : lv_has ls 3 [(0, .ref (ad 3)), (1, .ref (ad 1))] := hl
  have LL : ∀ n : Nat, (∀ (y2 : Int32) (v1 : tV) (H : Heap) (locs : List Loc) (ls : Array Slot), (20 - y2.toInt).toNat + 100 < n → Rg y2 0 20 → Inv v1 → Kp v v1 → tI D dA ad v1 H → va_S (tA ad) s.heap H locs → lv_has ls 3 [(0, .ref (ad 3)), (1, .ref (ad 1)), (2, .int y2)] → W p l e ({ frames := 3, cells := 0, slots := 0, locals := 101 } : Room) s m ([.ref (ad 3), .ref (ad 1)] : List Value).toArray below meth c H locs 0 0 (MQ below (tQv D dA ad (fun v' => Inv v' ∧ Kp v v')) ([.ref (ad 3), .ref (ad 1)] : List Value).toArray s 0 0 (tA ad)) (F0 m 34 ls [])) ∧ (∀ (y2 : Int32) (v1 : tV) (H : Heap) (locs : List Loc) (ls : Array Slot), (10 - y2.toInt).toNat + 50 < n → Rg y2 0 10 → Inv v1 → Kp v v1 → tI D dA ad v1 H → va_S (tA ad) s.heap H locs → lv_has ls 3 [(0, .ref (ad 3)), (1, .ref (ad 1)), (2, .int y2)] → W p l e ({ frames := 3, cells := 0, slots := 0, locals := 101 } : Room) s m ([.ref (ad 3), .ref (ad 1)] : List Value).toArray below meth c H locs 0 0 (MQ below (tQv D dA ad (fun v' => Inv v' ∧ Kp v v')) ([.ref (ad 3), .ref (ad 1)] : List Value).toArray s 0 0 (tA ad)) (F0 m 65 ls [])) ∧ (∀ (y2 : Int32) (v1 : tV) (H : Heap) (locs : List Loc) (ls : Array Slot), (6 - y2.toInt).toNat + 0 < n → Rg y2 0 6 → Inv v1 → Kp v v1 → tI D dA ad v1 H → va_S (tA ad) s.heap H locs → lv_has ls 3 [(0, .ref (ad 3)), (1, .ref (ad 1)), (2, .int y2)] → W p l e ({ frames := 3, cells := 0, slots := 0, locals := 101 } : Room) s m ([.ref (ad 3), .ref (ad 1)] : List Value).toArray below meth c H locs 0 0 (MQ below (tQv D dA ad (fun v' => Inv v' ∧ Kp v v')) ([.ref (ad 3), .ref (ad 1)] : List Value).toArray s 0 0 (tA ad)) (F0 m 96 ls [])) := by
    intro n
    induction n with
    | zero => refine ⟨?_, ?_, ?_⟩ <;> (intros; omega)
    | succ n ih =>
      obtain ⟨ih0, ih1, ih2⟩ := ih
      refine ⟨?_, ?_, ?_⟩
      · intro y2 v1 H locs ls hmu r_y2 hI1 hK1 hw hS hl
        refine lv_iload_n hx hb d_X6_copy_34 rfl (lv_at hl 2 rfl) ?_
        refine lv_aload_n hx hb d_X6_copy_35 rfl (lv_at hl 0 rfl) ?_
        refine r_geti X hw FL_X6_29 (rfl : KD 3 = _) rfl d_X6_copy_36 ?_
        refine lv_topi (fun x1 ex1 => ?_)
        have r2 : Rg x1 0 20 := by rw [ex1]; exact hI1 _ _ _ _ rfl
        have hm3 : v1 3 3 = x1 := ex1.symm
        refine lv_icmp_ge (tgt := 63) hx hb d_X6_copy_39 (by decide) (fun c4 => ?_) (fun c4 => ?_)
        · have f5 := i_le c4
          refine lv_iconst (v := 0) hx hb d_X6_copy_63 (by decide) ?_
          refine lv_istore_n (lv' := [(2, .int 0), (0, .ref (ad 3)), (1, .ref (ad 1))]) hx hb d_X6_copy_64 rfl hl (by decide) rfl (fun ls hl => ?_)
          exact ih1 0 v1 _ _ _ (by obtain ⟨_, _⟩ := (⟨by decide, by decide⟩ : Rg 0 0 0); omega) (rg_w (⟨by decide, by decide⟩ : Rg 0 0 0) (by decide) (by decide)) hI1 hK1 hw hS (lv_sub hl [1, 2, 0] rfl)
        · have f6 := i_nle c4
          have r7 : Rg y2 0 19 := by obtain ⟨a1, a2⟩ := r_y2; obtain ⟨b1, b2⟩ := r2; have f := i_nle c4; exact ⟨by omega, by omega⟩
          have r8 : Rg x1 1 20 := by obtain ⟨a1, a2⟩ := r_y2; obtain ⟨b1, b2⟩ := r2; have f := i_nle c4; exact ⟨by omega, by omega⟩
          refine lv_aload_n hx hb d_X6_copy_42 rfl (lv_at hl 0 rfl) ?_
          refine r_getr (r := 12) X hw FL_X6_11 (rfl : KD 3 = _) rfl d_X6_copy_43 ?_
          refine lv_iload_n hx hb d_X6_copy_46 rfl (lv_at hl 2 rfl) ?_
          refine r_aald X hw (rfl : KD 12 = _) (Or.inl rfl) (Rg.vp (b := 19) r7 (by decide)) rfl d_X6_copy_47 ?_
          refine r_nm (fun kc9 ekc9 => ?_)
          have kc9a : 140 ≤ kc9 := by omega
          have kc9b : kc9 ≤ 159 := by have := Rg.nat r7; omega
          refine lv_aload_n hx hb d_X6_copy_48 rfl (lv_at hl 1 rfl) ?_
          refine r_getr (r := 10) X hw FL_X6_11 (rfl : KD 1 = _) rfl d_X6_copy_49 ?_
          refine lv_iload_n hx hb d_X6_copy_52 rfl (lv_at hl 2 rfl) ?_
          refine r_aald X hw (rfl : KD 10 = _) (Or.inl rfl) (Rg.vp (b := 19) r7 (by decide)) rfl d_X6_copy_53 ?_
          refine r_nm (fun kc10 ekc10 => ?_)
          have kc10a : 100 ≤ kc10 := by omega
          have kc10b : kc10 ≤ 119 := by have := Rg.nat r7; omega
          refine r_cv (r_runV (n := 1) (As := [.ref (ad kc10)]) (rest := []) X hw (ct_X7_copy l D dA ad v1 hI1 kc9 kc10 (by omega) (by omega) (by omega) (by omega)) gc_X6_45 (KD_ship (by omega) (by omega)) (by decide) rfl (by decide +kernel) ⟨rfl, rfl, Nat.le_of_ble_eq_true rfl, Nat.le_of_ble_eq_true rfl⟩ rfl hl.1 rfl (Nat.le_of_ble_eq_true rfl) ⟨Nat.zero_le _, Nat.zero_le _⟩ d_X6_copy_54) hS (fun v12 H locs hp11 hw hS => ?_)
          obtain ⟨hI13, hK14⟩ := hp11
          have hK15 : Kp v v12 := Kp.tr hK1 hK14
          obtain ⟨x16, ex16⟩ : ∃ y : Int32, y = y2 + 1 := ⟨_, rfl⟩
          refine lv_iinc (v := x16) (lv' := [(2, .int x16), (0, .ref (ad 3)), (1, .ref (ad 1))]) hx hb d_X6_copy_57 hl (k := 2) rfl (by rw [ex16]; rfl) (by decide) rfl (fun ls hl => ?_)
          have r17 : Rg x16 1 20 := rg_add ex16 r7 (⟨by decide, by decide⟩ : Rg 1 1 1) (by decide) (by decide)
          have s18 : x16.toInt = y2.toInt + (1 : Int32).toInt := by rw [ex16]; exact i_add (by obtain ⟨_, _⟩ := r7; obtain ⟨_, _⟩ := (⟨by decide, by decide⟩ : Rg 1 1 1); omega) (by obtain ⟨_, _⟩ := r7; obtain ⟨_, _⟩ := (⟨by decide, by decide⟩ : Rg 1 1 1); omega)
          have s18l : (1 : Int32).toInt = 1 := rfl
          refine lv_goto (tgt := 34) hx hb d_X6_copy_60 (by decide) ?_
          exact ih0 x16 v12 _ _ _ (by have := s18; obtain ⟨_, _⟩ := r17; omega) (rg_w r17 (by decide) (by decide)) hI13 hK15 hw hS (lv_sub hl [1, 2, 0] rfl)
      · intro y2 v1 H locs ls hmu r_y2 hI1 hK1 hw hS hl
        refine lv_iload_n hx hb d_X6_copy_65 rfl (lv_at hl 2 rfl) ?_
        refine lv_aload_n hx hb d_X6_copy_66 rfl (lv_at hl 0 rfl) ?_
        refine r_geti X hw FL_X6_33 (rfl : KD 3 = _) rfl d_X6_copy_67 ?_
        refine lv_topi (fun x19 ex19 => ?_)
        have r20 : Rg x19 0 10 := by rw [ex19]; exact hI1 _ _ _ _ rfl
        have hm21 : v1 3 4 = x19 := ex19.symm
        refine lv_icmp_ge (tgt := 94) hx hb d_X6_copy_70 (by decide) (fun c22 => ?_) (fun c22 => ?_)
        · have f23 := i_le c22
          refine lv_iconst (v := 0) hx hb d_X6_copy_94 (by decide) ?_
          refine lv_istore_n (lv' := [(2, .int 0), (0, .ref (ad 3)), (1, .ref (ad 1))]) hx hb d_X6_copy_95 rfl hl (by decide) rfl (fun ls hl => ?_)
          exact ih2 0 v1 _ _ _ (by obtain ⟨_, _⟩ := (⟨by decide, by decide⟩ : Rg 0 0 0); omega) (rg_w (⟨by decide, by decide⟩ : Rg 0 0 0) (by decide) (by decide)) hI1 hK1 hw hS (lv_sub hl [1, 2, 0] rfl)
        · have f24 := i_nle c22
          have r25 : Rg y2 0 9 := by obtain ⟨a1, a2⟩ := r_y2; obtain ⟨b1, b2⟩ := r20; have f := i_nle c22; exact ⟨by omega, by omega⟩
          have r26 : Rg x19 1 10 := by obtain ⟨a1, a2⟩ := r_y2; obtain ⟨b1, b2⟩ := r20; have f := i_nle c22; exact ⟨by omega, by omega⟩
          refine lv_aload_n hx hb d_X6_copy_73 rfl (lv_at hl 0 rfl) ?_
          refine r_getr (r := 15) X hw FL_X6_19 (rfl : KD 3 = _) rfl d_X6_copy_74 ?_
          refine lv_iload_n hx hb d_X6_copy_77 rfl (lv_at hl 2 rfl) ?_
          refine r_aald X hw (rfl : KD 15 = _) (Or.inr (Or.inl rfl)) (Rg.vp (b := 9) r25 (by decide)) rfl d_X6_copy_78 ?_
          refine r_nm (fun kc27 ekc27 => ?_)
          have kc27a : 220 ≤ kc27 := by omega
          have kc27b : kc27 ≤ 229 := by have := Rg.nat r25; omega
          refine lv_aload_n hx hb d_X6_copy_79 rfl (lv_at hl 1 rfl) ?_
          refine r_getr (r := 13) X hw FL_X6_19 (rfl : KD 1 = _) rfl d_X6_copy_80 ?_
          refine lv_iload_n hx hb d_X6_copy_83 rfl (lv_at hl 2 rfl) ?_
          refine r_aald X hw (rfl : KD 13 = _) (Or.inr (Or.inl rfl)) (Rg.vp (b := 9) r25 (by decide)) rfl d_X6_copy_84 ?_
          refine r_nm (fun kc28 ekc28 => ?_)
          have kc28a : 200 ≤ kc28 := by omega
          have kc28b : kc28 ≤ 209 := by have := Rg.nat r25; omega
          refine r_cv (r_runV (n := 1) (As := [.ref (ad kc28)]) (rest := []) X hw (ct_X0_copy l D dA ad v1 hI1 kc27 kc28 (by omega) (by omega) (by omega) (by omega)) gc_X6_49 (KD_buyer (by omega) (by omega)) (by decide) rfl (by decide +kernel) ⟨rfl, rfl, Nat.le_of_ble_eq_true rfl, Nat.le_of_ble_eq_true rfl⟩ rfl hl.1 rfl (Nat.le_of_ble_eq_true rfl) ⟨Nat.zero_le _, Nat.zero_le _⟩ d_X6_copy_85) hS (fun v30 H locs hp29 hw hS => ?_)
          obtain ⟨hI31, hK32⟩ := hp29
          have hK33 : Kp v v30 := Kp.tr hK1 hK32
          obtain ⟨x34, ex34⟩ : ∃ y : Int32, y = y2 + 1 := ⟨_, rfl⟩
          refine lv_iinc (v := x34) (lv' := [(2, .int x34), (0, .ref (ad 3)), (1, .ref (ad 1))]) hx hb d_X6_copy_88 hl (k := 2) rfl (by rw [ex34]; rfl) (by decide) rfl (fun ls hl => ?_)
          have r35 : Rg x34 1 10 := rg_add ex34 r25 (⟨by decide, by decide⟩ : Rg 1 1 1) (by decide) (by decide)
          have s36 : x34.toInt = y2.toInt + (1 : Int32).toInt := by rw [ex34]; exact i_add (by obtain ⟨_, _⟩ := r25; obtain ⟨_, _⟩ := (⟨by decide, by decide⟩ : Rg 1 1 1); omega) (by obtain ⟨_, _⟩ := r25; obtain ⟨_, _⟩ := (⟨by decide, by decide⟩ : Rg 1 1 1); omega)
          have s36l : (1 : Int32).toInt = 1 := rfl
          refine lv_goto (tgt := 65) hx hb d_X6_copy_91 (by decide) ?_
          exact ih1 x34 v30 _ _ _ (by have := s36; obtain ⟨_, _⟩ := r35; omega) (rg_w r35 (by decide) (by decide)) hI31 hK33 hw hS (lv_sub hl [1, 2, 0] rfl)
      · intro y2 v1 H locs ls hmu r_y2 hI1 hK1 hw hS hl
        refine lv_iload_n hx hb d_X6_copy_96 rfl (lv_at hl 2 rfl) ?_
        refine lv_bipush (v := 6) hx hb d_X6_copy_97 (by decide) ?_
        refine lv_icmp_ge (tgt := 123) hx hb d_X6_copy_99 (by decide) (fun c37 => ?_) (fun c37 => ?_)
        · have f38 := i_le c37
          have r39 : Rg y2 6 6 := by obtain ⟨a1, a2⟩ := r_y2; obtain ⟨b1, b2⟩ := (⟨by decide, by decide⟩ : Rg 6 6 6); have f := i_le c37; exact ⟨by omega, by omega⟩
          exact r_vret X hr hlocks hw hS ⟨hI1, hK1⟩ d_X6_copy_123
        · have f40 := i_nle c37
          have r41 : Rg y2 0 5 := by obtain ⟨a1, a2⟩ := r_y2; obtain ⟨b1, b2⟩ := (⟨by decide, by decide⟩ : Rg 6 6 6); have f := i_nle c37; exact ⟨by omega, by omega⟩
          refine lv_aload_n hx hb d_X6_copy_102 rfl (lv_at hl 0 rfl) ?_
          refine r_getr (r := 18) X hw FL_X6_25 (rfl : KD 3 = _) rfl d_X6_copy_103 ?_
          refine lv_iload_n hx hb d_X6_copy_106 rfl (lv_at hl 2 rfl) ?_
          refine r_aald X hw (rfl : KD 18 = _) (Or.inr (Or.inr (Or.inl rfl))) (Rg.vp (b := 5) r41 (by decide)) rfl d_X6_copy_107 ?_
          refine r_nm (fun kc42 ekc42 => ?_)
          have kc42a : 312 ≤ kc42 := by omega
          have kc42b : kc42 ≤ 317 := by have := Rg.nat r41; omega
          refine lv_aload_n hx hb d_X6_copy_108 rfl (lv_at hl 1 rfl) ?_
          refine r_getr (r := 16) X hw FL_X6_25 (rfl : KD 1 = _) rfl d_X6_copy_109 ?_
          refine lv_iload_n hx hb d_X6_copy_112 rfl (lv_at hl 2 rfl) ?_
          refine r_aald X hw (rfl : KD 16 = _) (Or.inr (Or.inr (Or.inl rfl))) (Rg.vp (b := 5) r41 (by decide)) rfl d_X6_copy_113 ?_
          refine r_nm (fun kc43 ekc43 => ?_)
          have kc43a : 300 ≤ kc43 := by omega
          have kc43b : kc43 ≤ 305 := by have := Rg.nat r41; omega
          refine r_cv (r_runV (n := 1) (As := [.ref (ad kc43)]) (rest := []) X hw (ct_X9_copy_B l D dA ad v1 hI1 kc42 kc43 (by omega) (by omega) (by omega) (by omega)) gc_X6_52 (KD_ward (by omega) (by omega)) (by decide) rfl (by decide +kernel) ⟨rfl, rfl, Nat.le_of_ble_eq_true rfl, Nat.le_of_ble_eq_true rfl⟩ rfl hl.1 rfl (Nat.le_of_ble_eq_true rfl) ⟨Nat.zero_le _, Nat.zero_le _⟩ d_X6_copy_114) hS (fun v45 H locs hp44 hw hS => ?_)
          obtain ⟨hI46, hK47⟩ := hp44
          have hK48 : Kp v v45 := Kp.tr hK1 hK47
          obtain ⟨x49, ex49⟩ : ∃ y : Int32, y = y2 + 1 := ⟨_, rfl⟩
          refine lv_iinc (v := x49) (lv' := [(2, .int x49), (0, .ref (ad 3)), (1, .ref (ad 1))]) hx hb d_X6_copy_117 hl (k := 2) rfl (by rw [ex49]; rfl) (by decide) rfl (fun ls hl => ?_)
          have r50 : Rg x49 1 6 := rg_add ex49 r41 (⟨by decide, by decide⟩ : Rg 1 1 1) (by decide) (by decide)
          have s51 : x49.toInt = y2.toInt + (1 : Int32).toInt := by rw [ex49]; exact i_add (by obtain ⟨_, _⟩ := r41; obtain ⟨_, _⟩ := (⟨by decide, by decide⟩ : Rg 1 1 1); omega) (by obtain ⟨_, _⟩ := r41; obtain ⟨_, _⟩ := (⟨by decide, by decide⟩ : Rg 1 1 1); omega)
          have s51l : (1 : Int32).toInt = 1 := rfl
          refine lv_goto (tgt := 96) hx hb d_X6_copy_120 (by decide) ?_
          exact ih2 x49 v45 _ _ _ (by have := s51; obtain ⟨_, _⟩ := r50; omega) (rg_w r50 (by decide) (by decide)) hI46 hK48 hw hS (lv_sub hl [1, 2, 0] rfl)
  obtain ⟨ih0, ih1, ih2⟩ := LL 100000
  have hK0 : Kp v v := Kp.rf v
  refine lv_aload_n hx hb d_X6_copy_0 rfl (lv_at hl 0 rfl) ?_
  refine lv_aload_n hx hb d_X6_copy_1 rfl (lv_at hl 1 rfl) ?_
  refine r_geti X hw FL_X6_29 (rfl : KD 1 = _) rfl d_X6_copy_2 ?_
  refine lv_topi (fun x52 ex52 => ?_)
  have r53 : Rg x52 0 20 := by rw [ex52]; exact hI _ _ _ _ rfl
  have hm54 : v 1 3 = x52 := ex52.symm
  refine r_put X hw hS FP_X6_29 (rfl : KD 3 = _) rfl ⟨rfl, rfl⟩ d_X6_copy_5 (fun H locs hw hS => ?_)
  obtain ⟨v55, ev55⟩ : ∃ z, z = up2 v 3 3 x52 := ⟨_, rfl⟩
  rw [← ev55] at hw
  have hI56 : Inv v55 := by rw [ev55]; exact Inv.putr hI rfl r53
  have hK57 : Kp v v55 := by rw [ev55]; exact Kp.put hK0 _ rfl
  have hm58 : v55 1 3 = x52 := by rw [ev55, up2_n _ _ (by omega)]; exact hm54
  have hm59 : v55 3 3 = x52 := by rw [ev55, up2_s]
  refine lv_aload_n hx hb d_X6_copy_8 rfl (lv_at hl 0 rfl) ?_
  refine lv_aload_n hx hb d_X6_copy_9 rfl (lv_at hl 1 rfl) ?_
  refine r_geti X hw FL_X6_33 (rfl : KD 1 = _) rfl d_X6_copy_10 ?_
  refine lv_topi (fun x60 ex60 => ?_)
  have r61 : Rg x60 0 10 := by rw [ex60]; exact hI56 _ _ _ _ rfl
  have hm62 : v55 1 4 = x60 := ex60.symm
  refine r_put X hw hS FP_X6_33 (rfl : KD 3 = _) rfl ⟨rfl, rfl⟩ d_X6_copy_13 (fun H locs hw hS => ?_)
  obtain ⟨v63, ev63⟩ : ∃ z, z = up2 v55 3 4 x60 := ⟨_, rfl⟩
  rw [← ev63] at hw
  have hI64 : Inv v63 := by rw [ev63]; exact Inv.putr hI56 rfl r61
  have hK65 : Kp v v63 := by rw [ev63]; exact Kp.put hK57 _ rfl
  have hm66 : v63 1 3 = x52 := by rw [ev63, up2_n _ _ (by omega)]; exact hm58
  have hm67 : v63 3 3 = x52 := by rw [ev63, up2_n _ _ (by omega)]; exact hm59
  have hm68 : v63 1 4 = x60 := by rw [ev63, up2_n _ _ (by omega)]; exact hm62
  have hm69 : v63 3 4 = x60 := by rw [ev63, up2_s]
  refine lv_aload_n hx hb d_X6_copy_16 rfl (lv_at hl 0 rfl) ?_
  refine lv_aload_n hx hb d_X6_copy_17 rfl (lv_at hl 1 rfl) ?_
  refine r_geti X hw FL_X6_36 (rfl : KD 1 = _) rfl d_X6_copy_18 ?_
  refine lv_topi (fun x70 ex70 => ?_)
  refine r_put X hw hS FP_X6_36 (rfl : KD 3 = _) rfl ⟨rfl, rfl⟩ d_X6_copy_21 (fun H locs hw hS => ?_)
  obtain ⟨v71, ev71⟩ : ∃ z, z = up2 v63 3 5 x70 := ⟨_, rfl⟩
  rw [← ev71] at hw
  have hI72 : Inv v71 := by rw [ev71]; exact Inv.put0 hI64 _ rfl
  have hK73 : Kp v v71 := by rw [ev71]; exact Kp.put hK65 _ rfl
  have hm74 : v71 1 3 = x52 := by rw [ev71, up2_n _ _ (by omega)]; exact hm66
  have hm75 : v71 3 3 = x52 := by rw [ev71, up2_n _ _ (by omega)]; exact hm67
  have hm76 : v71 1 4 = x60 := by rw [ev71, up2_n _ _ (by omega)]; exact hm68
  have hm77 : v71 3 4 = x60 := by rw [ev71, up2_n _ _ (by omega)]; exact hm69
  refine lv_aload_n hx hb d_X6_copy_24 rfl (lv_at hl 0 rfl) ?_
  refine lv_aload_n hx hb d_X6_copy_25 rfl (lv_at hl 1 rfl) ?_
  refine r_geti X hw FL_X6_39 (rfl : KD 1 = _) rfl d_X6_copy_26 ?_
  refine lv_topi (fun x78 ex78 => ?_)
  refine r_put X hw hS FP_X6_39 (rfl : KD 3 = _) rfl ⟨rfl, rfl⟩ d_X6_copy_29 (fun H locs hw hS => ?_)
  obtain ⟨v79, ev79⟩ : ∃ z, z = up2 v71 3 6 x78 := ⟨_, rfl⟩
  rw [← ev79] at hw
  have hI80 : Inv v79 := by rw [ev79]; exact Inv.put0 hI72 _ rfl
  have hK81 : Kp v v79 := by rw [ev79]; exact Kp.put hK73 _ rfl
  have hm82 : v79 1 3 = x52 := by rw [ev79, up2_n _ _ (by omega)]; exact hm74
  have hm83 : v79 3 3 = x52 := by rw [ev79, up2_n _ _ (by omega)]; exact hm75
  have hm84 : v79 1 4 = x60 := by rw [ev79, up2_n _ _ (by omega)]; exact hm76
  have hm85 : v79 3 4 = x60 := by rw [ev79, up2_n _ _ (by omega)]; exact hm77
  refine lv_iconst (v := 0) hx hb d_X6_copy_32 (by decide) ?_
  refine lv_istore_n (lv' := [(2, .int 0), (0, .ref (ad 3)), (1, .ref (ad 1))]) hx hb d_X6_copy_33 rfl hl (by decide) rfl (fun ls hl => ?_)
  exact ih0 0 v79 _ _ _ (by obtain ⟨_, _⟩ := (⟨by decide, by decide⟩ : Rg 0 0 0); omega) (rg_w (⟨by decide, by decide⟩ : Rg 0 0 0) (by decide) (by decide)) hI80 hK81 hw hS (lv_sub hl [1, 2, 0] rfl)
end
