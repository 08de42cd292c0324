theorem tb_sub (ws : List Cond) (is : List Nat) (h : ws.map some = is.map (fun i => lw_tbl[i]?)) (hg : ws.all tb_good = true) : ∀ w ∈ ws, w ∈ BIG := by
  intro w hw
  have h1 : some w ∈ ws.map some := List.mem_map.mpr ⟨w, hw, rfl⟩
  rw [h] at h1
  obtain ⟨i, -, hi⟩ := List.mem_map.mp h1
  exact List.mem_filter.mpr ⟨List.mem_of_getElem? hi, List.all_eq_true.mp hg w hw⟩
def N_X0 : String := "CoalTurns$Buyer"
def T_X0 : u_T := fun k => match k with
  | 0 => ("CoalTurns$Buyer", "ward", "I", false)
  | 1 => ("CoalTurns$Buyer", "sort", "I", false)
  | 2 => ("CoalTurns$Buyer", "want", "I", false)
  | _ => ("CoalTurns$Buyer", "bid", "I", false)
def y_X0 : Nat → FieldType := fun k => match k with
  | 0 => .int
  | 1 => .int
  | 2 => .int
  | _ => .int
theorem nm_X0 : ∀ a, a < 4 → ∀ b, b < 4 → a ≠ b → (T_X0 a).2.1 ≠ (T_X0 b).2.1 := by decide +kernel
theorem ty_X0 : ∀ k, k < 4 → parseFieldDescriptor (T_X0 k).2.2.1 = some (y_X0 k) := by decide +kernel
def N_X1 : String := "CoalTurns$DayBook"
def T_X1 : u_T := fun k => match k with
  | 0 => ("CoalTurns$DayBook", "ships", "[I", true)
  | 1 => ("CoalTurns$DayBook", "buyers", "[I", true)
  | 2 => ("CoalTurns$DayBook", "amounts", "[I", true)
  | 3 => ("CoalTurns$DayBook", "prices", "[I", true)
  | 4 => ("CoalTurns$DayBook", "size", "I", false)
  | 5 => ("CoalTurns$DayBook", "measures", "I", false)
  | _ => ("CoalTurns$DayBook", "money", "I", false)
def y_X1 : Nat → FieldType := fun k => match k with
  | 0 => .array (.int)
  | 1 => .array (.int)
  | 2 => .array (.int)
  | 3 => .array (.int)
  | 4 => .int
  | 5 => .int
  | _ => .int
theorem nm_X1 : ∀ a, a < 7 → ∀ b, b < 7 → a ≠ b → (T_X1 a).2.1 ≠ (T_X1 b).2.1 := by decide +kernel
theorem ty_X1 : ∀ k, k < 7 → parseFieldDescriptor (T_X1 k).2.2.1 = some (y_X1 k) := by decide +kernel
def N_X2 : String := "CoalTurns$Lighters"
def T_X2 : u_T := fun k => match k with
  | 0 => ("CoalTurns$Lighters", "sold", "[I", true)
  | _ => ("CoalTurns$Lighters", "busy", "[I", true)
def y_X2 : Nat → FieldType := fun k => match k with
  | 0 => .array (.int)
  | _ => .array (.int)
theorem nm_X2 : ∀ a, a < 2 → ∀ b, b < 2 → a ≠ b → (T_X2 a).2.1 ≠ (T_X2 b).2.1 := by decide +kernel
theorem ty_X2 : ∀ k, k < 2 → parseFieldDescriptor (T_X2 k).2.2.1 = some (y_X2 k) := by decide +kernel
def N_X3 : String := "CoalTurns$Order"
def T_X3 : u_T := fun k => match k with
  | 0 => ("CoalTurns$Order", "partSellers", "[I", true)
  | 1 => ("CoalTurns$Order", "partPrices", "[I", true)
  | 2 => ("CoalTurns$Order", "partBelow", "[Z", true)
  | 3 => ("CoalTurns$Order", "parts", "I", false)
  | 4 => ("CoalTurns$Order", "otherwise", "I", false)
  | 5 => ("CoalTurns$Order", "key", "I", false)
  | _ => ("CoalTurns$Order", "from", "I", false)
def y_X3 : Nat → FieldType := fun k => match k with
  | 0 => .array (.int)
  | 1 => .array (.int)
  | 2 => .array (.boolean)
  | 3 => .int
  | 4 => .int
  | 5 => .int
  | _ => .int
theorem nm_X3 : ∀ a, a < 7 → ∀ b, b < 7 → a ≠ b → (T_X3 a).2.1 ≠ (T_X3 b).2.1 := by decide +kernel
theorem ty_X3 : ∀ k, k < 7 → parseFieldDescriptor (T_X3 k).2.2.1 = some (y_X3 k) := by decide +kernel
def N_X4 : String := "CoalTurns$OrderBook"
def T_X4 : u_T := fun k => match k with
  | 0 => ("CoalTurns$OrderBook", "rows", "[LCoalTurns$Order;", true)
  | 1 => ("CoalTurns$OrderBook", "custom", "LCoalTurns$Order;", true)
  | _ => ("CoalTurns$OrderBook", "size", "I", false)
def y_X4 : Nat → FieldType := fun k => match k with
  | 0 => .array (.object "CoalTurns$Order")
  | 1 => .object "CoalTurns$Order"
  | _ => .int
theorem nm_X4 : ∀ a, a < 3 → ∀ b, b < 3 → a ≠ b → (T_X4 a).2.1 ≠ (T_X4 b).2.1 := by decide +kernel
theorem ty_X4 : ∀ k, k < 3 → parseFieldDescriptor (T_X4 k).2.2.1 = some (y_X4 k) := by decide +kernel
def N_X5 : String := "CoalTurns$Queue"
def T_X5 : u_T := fun k => match k with
  | 0 => ("CoalTurns$Queue", "ships", "[I", true)
  | 1 => ("CoalTurns$Queue", "ranks", "[I", true)
  | _ => ("CoalTurns$Queue", "size", "I", false)
def y_X5 : Nat → FieldType := fun k => match k with
  | 0 => .array (.int)
  | 1 => .array (.int)
  | _ => .int
theorem nm_X5 : ∀ a, a < 3 → ∀ b, b < 3 → a ≠ b → (T_X5 a).2.1 ≠ (T_X5 b).2.1 := by decide +kernel
theorem ty_X5 : ∀ k, k < 3 → parseFieldDescriptor (T_X5 k).2.2.1 = some (y_X5 k) := by decide +kernel
def N_X6 : String := "CoalTurns$River"
def T_X6 : u_T := fun k => match k with
  | 0 => ("CoalTurns$River", "ships", "[LCoalTurns$Ship;", true)
  | 1 => ("CoalTurns$River", "buyers", "[LCoalTurns$Buyer;", true)
  | 2 => ("CoalTurns$River", "wards", "[LCoalTurns$Ward;", true)
  | 3 => ("CoalTurns$River", "shipCount", "I", false)
  | 4 => ("CoalTurns$River", "buyerCount", "I", false)
  | 5 => ("CoalTurns$River", "today", "I", false)
  | _ => ("CoalTurns$River", "price", "I", false)
def y_X6 : Nat → FieldType := fun k => match k with
  | 0 => .array (.object "CoalTurns$Ship")
  | 1 => .array (.object "CoalTurns$Buyer")
  | 2 => .array (.object "CoalTurns$Ward")
  | 3 => .int
  | 4 => .int
  | 5 => .int
  | _ => .int
theorem nm_X6 : ∀ a, a < 7 → ∀ b, b < 7 → a ≠ b → (T_X6 a).2.1 ≠ (T_X6 b).2.1 := by decide +kernel
theorem ty_X6 : ∀ k, k < 7 → parseFieldDescriptor (T_X6 k).2.2.1 = some (y_X6 k) := by decide +kernel
def N_X7 : String := "CoalTurns$Ship"
def T_X7 : u_T := fun k => match k with
  | 0 => ("CoalTurns$Ship", "kind", "I", false)
  | 1 => ("CoalTurns$Ship", "sort", "I", false)
  | 2 => ("CoalTurns$Ship", "load", "I", false)
  | 3 => ("CoalTurns$Ship", "ask", "I", false)
  | 4 => ("CoalTurns$Ship", "factor", "I", false)
  | 5 => ("CoalTurns$Ship", "way", "I", false)
  | 6 => ("CoalTurns$Ship", "left", "I", false)
  | 7 => ("CoalTurns$Ship", "state", "I", false)
  | 8 => ("CoalTurns$Ship", "entered", "I", false)
  | 9 => ("CoalTurns$Ship", "missed", "I", false)
  | 10 => ("CoalTurns$Ship", "sold", "I", false)
  | 11 => ("CoalTurns$Ship", "taken", "I", false)
  | _ => ("CoalTurns$Ship", "dues", "I", false)
def y_X7 : Nat → FieldType := fun k => match k with
  | 0 => .int
  | 1 => .int
  | 2 => .int
  | 3 => .int
  | 4 => .int
  | 5 => .int
  | 6 => .int
  | 7 => .int
  | 8 => .int
  | 9 => .int
  | 10 => .int
  | 11 => .int
  | _ => .int
theorem nm_X7 : ∀ a, a < 13 → ∀ b, b < 13 → a ≠ b → (T_X7 a).2.1 ≠ (T_X7 b).2.1 := by decide +kernel
theorem ty_X7 : ∀ k, k < 13 → parseFieldDescriptor (T_X7 k).2.2.1 = some (y_X7 k) := by decide +kernel
def N_X8 : String := "CoalTurns$Tape"
def T_X8 : u_T := fun k => match k with
  | 0 => ("CoalTurns$Tape", "bytes", "[I", true)
  | 1 => ("CoalTurns$Tape", "size", "I", false)
  | _ => ("CoalTurns$Tape", "at", "I", false)
def y_X8 : Nat → FieldType := fun k => match k with
  | 0 => .array (.int)
  | 1 => .int
  | _ => .int
theorem nm_X8 : ∀ a, a < 3 → ∀ b, b < 3 → a ≠ b → (T_X8 a).2.1 ≠ (T_X8 b).2.1 := by decide +kernel
theorem ty_X8 : ∀ k, k < 3 → parseFieldDescriptor (T_X8 k).2.2.1 = some (y_X8 k) := by decide +kernel
def N_X9 : String := "CoalTurns$Ward"
def T_X9 : u_T := fun k => match k with
  | 0 => ("CoalTurns$Ward", "burns", "[I", true)
  | 1 => ("CoalTurns$Ward", "store", "I", false)
  | 2 => ("CoalTurns$Ward", "lacked", "I", false)
  | 3 => ("CoalTurns$Ward", "burnt", "I", false)
  | _ => ("CoalTurns$Ward", "came", "I", false)
def y_X9 : Nat → FieldType := fun k => match k with
  | 0 => .array (.int)
  | 1 => .int
  | 2 => .int
  | 3 => .int
  | _ => .int
theorem nm_X9 : ∀ a, a < 5 → ∀ b, b < 5 → a ≠ b → (T_X9 a).2.1 ≠ (T_X9 b).2.1 := by decide +kernel
theorem ty_X9 : ∀ k, k < 5 → parseFieldDescriptor (T_X9 k).2.2.1 = some (y_X9 k) := by decide +kernel
def N_X10 : String := "CoalTurns"
def T_X10 : u_T := fun k => match k with
  | 0 => ("CoalTurns", "now", "LCoalTurns$River;", true)
  | 1 => ("CoalTurns", "then", "LCoalTurns$River;", true)
  | 2 => ("CoalTurns", "trial", "LCoalTurns$River;", true)
  | 3 => ("CoalTurns", "queue", "LCoalTurns$Queue;", true)
  | 4 => ("CoalTurns", "queueThen", "LCoalTurns$Queue;", true)
  | 5 => ("CoalTurns", "book", "LCoalTurns$DayBook;", true)
  | 6 => ("CoalTurns", "trialBook", "LCoalTurns$DayBook;", true)
  | 7 => ("CoalTurns", "lighters", "LCoalTurns$Lighters;", true)
  | 8 => ("CoalTurns", "orders", "LCoalTurns$OrderBook;", true)
  | 9 => ("CoalTurns", "tape", "LCoalTurns$Tape;", true)
  | 10 => ("CoalTurns", "marketWasHeld", "Z", false)
  | 11 => ("CoalTurns", "least", "I", false)
  | _ => ("CoalTurns", "most", "I", false)
def y_X10 : Nat → FieldType := fun k => match k with
  | 0 => .object "CoalTurns$River"
  | 1 => .object "CoalTurns$River"
  | 2 => .object "CoalTurns$River"
  | 3 => .object "CoalTurns$Queue"
  | 4 => .object "CoalTurns$Queue"
  | 5 => .object "CoalTurns$DayBook"
  | 6 => .object "CoalTurns$DayBook"
  | 7 => .object "CoalTurns$Lighters"
  | 8 => .object "CoalTurns$OrderBook"
  | 9 => .object "CoalTurns$Tape"
  | 10 => .boolean
  | 11 => .int
  | _ => .int
theorem nm_X10 : ∀ a, a < 13 → ∀ b, b < 13 → a ≠ b → (T_X10 a).2.1 ≠ (T_X10 b).2.1 := by decide +kernel
theorem ty_X10 : ∀ k, k < 13 → parseFieldDescriptor (T_X10 k).2.2.1 = some (y_X10 k) := by decide +kernel
def N_X11 : String := "CoalTurnsModel"
def T_X11 : u_T := fun k => match k with
  | 0 => ("CoalTurnsModel", "code", "I", false)
  | 1 => ("CoalTurnsModel", "ships", "I", false)
  | 2 => ("CoalTurnsModel", "kind", "[I", true)
  | 3 => ("CoalTurnsModel", "sort", "[I", true)
  | 4 => ("CoalTurnsModel", "load", "[I", true)
  | 5 => ("CoalTurnsModel", "ask", "[I", true)
  | 6 => ("CoalTurnsModel", "factor", "[I", true)
  | 7 => ("CoalTurnsModel", "way", "[I", true)
  | 8 => ("CoalTurnsModel", "left", "[I", true)
  | 9 => ("CoalTurnsModel", "state", "[I", true)
  | 10 => ("CoalTurnsModel", "entered", "[I", true)
  | 11 => ("CoalTurnsModel", "missed", "[I", true)
  | 12 => ("CoalTurnsModel", "sold", "[I", true)
  | 13 => ("CoalTurnsModel", "took", "[I", true)
  | 14 => ("CoalTurnsModel", "dues", "[I", true)
  | 15 => ("CoalTurnsModel", "buyers", "I", false)
  | 16 => ("CoalTurnsModel", "buyerWard", "[I", true)
  | 17 => ("CoalTurnsModel", "buyerSort", "[I", true)
  | 18 => ("CoalTurnsModel", "wants", "[I", true)
  | 19 => ("CoalTurnsModel", "bid", "[I", true)
  | 20 => ("CoalTurnsModel", "stores", "[I", true)
  | 21 => ("CoalTurnsModel", "lacks", "[I", true)
  | 22 => ("CoalTurnsModel", "burnt", "[I", true)
  | 23 => ("CoalTurnsModel", "came", "[I", true)
  | 24 => ("CoalTurnsModel", "burns", "[I", true)
  | 25 => ("CoalTurnsModel", "today", "I", false)
  | 26 => ("CoalTurnsModel", "price", "I", false)
  | 27 => ("CoalTurnsModel", "bargains", "I", false)
  | 28 => ("CoalTurnsModel", "bargainShip", "[I", true)
  | 29 => ("CoalTurnsModel", "bargainBuyer", "[I", true)
  | 30 => ("CoalTurnsModel", "bargainMany", "[I", true)
  | 31 => ("CoalTurnsModel", "bargainPrice", "[I", true)
  | 32 => ("CoalTurnsModel", "tape", "[B", true)
  | 33 => ("CoalTurnsModel", "taped", "I", false)
  | 34 => ("CoalTurnsModel", "orders", "I", false)
  | 35 => ("CoalTurnsModel", "orderDay", "[I", true)
  | 36 => ("CoalTurnsModel", "key", "[I", true)
  | 37 => ("CoalTurnsModel", "parts", "[I", true)
  | 38 => ("CoalTurnsModel", "partMany", "[I", true)
  | 39 => ("CoalTurnsModel", "partLess", "[Z", true)
  | 40 => ("CoalTurnsModel", "partPrice", "[I", true)
  | 41 => ("CoalTurnsModel", "lastMany", "[I", true)
  | 42 => ("CoalTurnsModel", "at", "I", false)
  | 43 => ("CoalTurnsModel", "number", "I", false)
  | 44 => ("CoalTurnsModel", "turns", "I", false)
  | 45 => ("CoalTurnsModel", "turn", "[I", true)
  | 46 => ("CoalTurnsModel", "keptShips", "[I", true)
  | 47 => ("CoalTurnsModel", "keptRest", "[I", true)
  | 48 => ("CoalTurnsModel", "keptBargains", "[I", true)
  | 49 => ("CoalTurnsModel", "marketShips", "[I", true)
  | 50 => ("CoalTurnsModel", "marketWants", "[I", true)
  | 51 => ("CoalTurnsModel", "marketBids", "[I", true)
  | 52 => ("CoalTurnsModel", "marketTurn", "[I", true)
  | 53 => ("CoalTurnsModel", "marketMany", "I", false)
  | 54 => ("CoalTurnsModel", "marketTurns", "I", false)
  | 55 => ("CoalTurnsModel", "marketBuyers", "I", false)
  | 56 => ("CoalTurnsModel", "marketPrice", "I", false)
  | 57 => ("CoalTurnsModel", "hasMarket", "Z", false)
  | 58 => ("CoalTurnsModel", "measures", "I", false)
  | 59 => ("CoalTurnsModel", "coins", "I", false)
  | 60 => ("CoalTurnsModel", "hours", "[I", true)
  | 61 => ("CoalTurnsModel", "gang", "[I", true)
  | 62 => ("CoalTurnsModel", "seen", "[Z", true)
  | 63 => ("CoalTurnsModel", "tryLeft", "[I", true)
  | 64 => ("CoalTurnsModel", "tryWants", "[I", true)
  | 65 => ("CoalTurnsModel", "least", "I", false)
  | _ => ("CoalTurnsModel", "most", "I", false)
def y_X11 : Nat → FieldType := fun k => match k with
  | 0 => .int
  | 1 => .int
  | 2 => .array (.int)
  | 3 => .array (.int)
  | 4 => .array (.int)
  | 5 => .array (.int)
  | 6 => .array (.int)
  | 7 => .array (.int)
  | 8 => .array (.int)
  | 9 => .array (.int)
  | 10 => .array (.int)
  | 11 => .array (.int)
  | 12 => .array (.int)
  | 13 => .array (.int)
  | 14 => .array (.int)
  | 15 => .int
  | 16 => .array (.int)
  | 17 => .array (.int)
  | 18 => .array (.int)
  | 19 => .array (.int)
  | 20 => .array (.int)
  | 21 => .array (.int)
  | 22 => .array (.int)
  | 23 => .array (.int)
  | 24 => .array (.int)
  | 25 => .int
  | 26 => .int
  | 27 => .int
  | 28 => .array (.int)
  | 29 => .array (.int)
  | 30 => .array (.int)
  | 31 => .array (.int)
  | 32 => .array (.byte)
  | 33 => .int
  | 34 => .int
  | 35 => .array (.int)
  | 36 => .array (.int)
  | 37 => .array (.int)
  | 38 => .array (.int)
  | 39 => .array (.boolean)
  | 40 => .array (.int)
  | 41 => .array (.int)
  | 42 => .int
  | 43 => .int
  | 44 => .int
  | 45 => .array (.int)
  | 46 => .array (.int)
  | 47 => .array (.int)
  | 48 => .array (.int)
  | 49 => .array (.int)
  | 50 => .array (.int)
  | 51 => .array (.int)
  | 52 => .array (.int)
  | 53 => .int
  | 54 => .int
  | 55 => .int
  | 56 => .int
  | 57 => .boolean
  | 58 => .int
  | 59 => .int
  | 60 => .array (.int)
  | 61 => .array (.int)
  | 62 => .array (.boolean)
  | 63 => .array (.int)
  | 64 => .array (.int)
  | 65 => .int
  | _ => .int
theorem nm_X11 : ∀ a, a < 67 → ∀ b, b < 67 → a ≠ b → (T_X11 a).2.1 ≠ (T_X11 b).2.1 := by decide +kernel
theorem ty_X11 : ∀ k, k < 67 → parseFieldDescriptor (T_X11 k).2.2.1 = some (y_X11 k) := by decide +kernel
abbrev CLS : List vw_C := [(N_X0, T_X0, 4), (N_X1, T_X1, 7), (N_X2, T_X2, 2), (N_X3, T_X3, 7), (N_X4, T_X4, 3), (N_X5, T_X5, 3), (N_X6, T_X6, 7), (N_X7, T_X7, 13), (N_X8, T_X8, 3), (N_X9, T_X9, 5), (N_X10, T_X10, 13), (N_X11, T_X11, 67)]
theorem uw_X0 : ∀ w ∈ u_ws N_X0 T_X0 4, w ∈ BIG := by
  have h : (u_ws N_X0 T_X0 4).map some = [152, 154, 156, 158].map (fun i => lw_tbl[i]?) := by decide +kernel
  exact tb_sub _ _ h (by decide +kernel)
theorem uw_X1 : ∀ w ∈ u_ws N_X1 T_X1 7, w ∈ BIG := by
  have h : (u_ws N_X1 T_X1 7).map some = [259, 261, 263, 265, 267, 269, 271].map (fun i => lw_tbl[i]?) := by decide +kernel
  exact tb_sub _ _ h (by decide +kernel)
theorem uw_X2 : ∀ w ∈ u_ws N_X2 T_X2 2, w ∈ BIG := by
  have h : (u_ws N_X2 T_X2 2).map some = [282, 284].map (fun i => lw_tbl[i]?) := by decide +kernel
  exact tb_sub _ _ h (by decide +kernel)
theorem uw_X3 : ∀ w ∈ u_ws N_X3 T_X3 7, w ∈ BIG := by
  have h : (u_ws N_X3 T_X3 7).map some = [312, 314, 316, 318, 320, 322, 324].map (fun i => lw_tbl[i]?) := by decide +kernel
  exact tb_sub _ _ h (by decide +kernel)
theorem uw_X4 : ∀ w ∈ u_ws N_X4 T_X4 3, w ∈ BIG := by
  have h : (u_ws N_X4 T_X4 3).map some = [333, 335, 337].map (fun i => lw_tbl[i]?) := by decide +kernel
  exact tb_sub _ _ h (by decide +kernel)
theorem uw_X5 : ∀ w ∈ u_ws N_X5 T_X5 3, w ∈ BIG := by
  have h : (u_ws N_X5 T_X5 3).map some = [232, 234, 236].map (fun i => lw_tbl[i]?) := by decide +kernel
  exact tb_sub _ _ h (by decide +kernel)
theorem uw_X6 : ∀ w ∈ u_ws N_X6 T_X6 7, w ∈ BIG := by
  have h : (u_ws N_X6 T_X6 7).map some = [204, 206, 208, 210, 212, 214, 216].map (fun i => lw_tbl[i]?) := by decide +kernel
  exact tb_sub _ _ h (by decide +kernel)
theorem uw_X7 : ∀ w ∈ u_ws N_X7 T_X7 13, w ∈ BIG := by
  have h : (u_ws N_X7 T_X7 13).map some = [111, 113, 115, 117, 119, 121, 123, 125, 127, 129, 131, 133, 135].map (fun i => lw_tbl[i]?) := by decide +kernel
  exact tb_sub _ _ h (by decide +kernel)
theorem uw_X8 : ∀ w ∈ u_ws N_X8 T_X8 3, w ∈ BIG := by
  have h : (u_ws N_X8 T_X8 3).map some = [350, 352, 354].map (fun i => lw_tbl[i]?) := by decide +kernel
  exact tb_sub _ _ h (by decide +kernel)
theorem uw_X9 : ∀ w ∈ u_ws N_X9 T_X9 5, w ∈ BIG := by
  have h : (u_ws N_X9 T_X9 5).map some = [174, 176, 178, 180, 182].map (fun i => lw_tbl[i]?) := by decide +kernel
  exact tb_sub _ _ h (by decide +kernel)
theorem uw_X10 : ∀ w ∈ u_ws N_X10 T_X10 13, w ∈ BIG := by
  have h : (u_ws N_X10 T_X10 13).map some = [370, 372, 374, 376, 378, 380, 382, 384, 386, 388, 390, 392, 394].map (fun i => lw_tbl[i]?) := by decide +kernel
  exact tb_sub _ _ h (by decide +kernel)
theorem uw_X11 : ∀ w ∈ u_ws N_X11 T_X11 67, w ∈ BIG := by
  have h : (u_ws N_X11 T_X11 67).map some = [888, 890, 892, 894, 896, 898, 900, 902, 904, 906, 908, 910, 912, 914, 916, 918, 920, 922, 924, 926, 928, 930, 932, 934, 936, 938, 940, 942, 944, 946, 948, 950, 952, 954, 956, 958, 960, 962, 964, 966, 968, 970, 972, 974, 976, 978, 980, 982, 984, 986, 988, 990, 992, 994, 996, 998, 1000, 1002, 1004, 1006, 1008, 1010, 1012, 1014, 1016, 1018, 1020].map (fun i => lw_tbl[i]?) := by decide +kernel
  exact tb_sub _ _ h (by decide +kernel)
def KD0 : Nat → Option (Nat × Nat) := fun k => match k with
  | 0 => some (10, 0)
  | 1 => some (6, 0)
  | 2 => some (6, 0)
  | 3 => some (6, 0)
  | 10 => some (15, 20)
  | 11 => some (15, 20)
  | 12 => some (15, 20)
  | 13 => some (16, 10)
  | 14 => some (16, 10)
  | 15 => some (16, 10)
  | 16 => some (17, 6)
  | 17 => some (17, 6)
  | 18 => some (17, 6)
  | 20 => some (5, 0)
  | 21 => some (5, 0)
  | 22 => some (12, 20)
  | 23 => some (12, 20)
  | 24 => some (12, 20)
  | 25 => some (12, 20)
  | 30 => some (1, 0)
  | 31 => some (1, 0)
  | 32 => some (12, 30)
  | 33 => some (12, 30)
  | 34 => some (12, 30)
  | 35 => some (12, 30)
  | 36 => some (12, 30)
  | 37 => some (12, 30)
  | 38 => some (12, 30)
  | 39 => some (12, 30)
  | 40 => some (2, 0)
  | 41 => some (12, 7)
  | 42 => some (12, 3)
  | 50 => some (4, 0)
  | 51 => some (18, 8)
  | 55 => some (8, 0)
  | 56 => some (12, 120)
  | _ => none
def KDM : Nat → Option (Nat × Nat) := fun k => match k with
  | 400 => some (11, 0)
  | 403 => some (12, 20)
  | 404 => some (12, 20)
  | 405 => some (12, 20)
  | 406 => some (12, 20)
  | 407 => some (12, 20)
  | 408 => some (12, 20)
  | 409 => some (12, 20)
  | 410 => some (12, 20)
  | 411 => some (12, 20)
  | 412 => some (12, 20)
  | 413 => some (12, 20)
  | 414 => some (12, 20)
  | 415 => some (12, 20)
  | 417 => some (12, 10)
  | 418 => some (12, 10)
  | 419 => some (12, 10)
  | 420 => some (12, 10)
  | 421 => some (12, 6)
  | 422 => some (12, 6)
  | 423 => some (12, 6)
  | 424 => some (12, 6)
  | 425 => some (12, 30)
  | 429 => some (12, 200)
  | 430 => some (12, 200)
  | 431 => some (12, 200)
  | 432 => some (12, 200)
  | 433 => some (13, 120)
  | 436 => some (12, 8)
  | 437 => some (12, 8)
  | 438 => some (12, 8)
  | 439 => some (12, 24)
  | 440 => some (14, 24)
  | 441 => some (12, 24)
  | 442 => some (12, 8)
  | 446 => some (12, 20)
  | 447 => some (12, 180)
  | 448 => some (12, 43)
  | 449 => some (12, 800)
  | 450 => some (12, 80)
  | 451 => some (12, 10)
  | 452 => some (12, 10)
  | 453 => some (12, 20)
  | 461 => some (12, 7)
  | 462 => some (12, 3)
  | 463 => some (14, 20)
  | 464 => some (12, 20)
  | 465 => some (12, 10)
  | _ => none
def KD : tKd := fun k =>
  if k < 60 then KD0 k else if k < 69 then some (3, 0) else if k < 70 then none else if k < 79 then some (12, 3) else if k < 80 then none else if k < 89 then some (12, 3) else if k < 90 then none else if k < 99 then some (14, 3)
  else if k < 100 then none else if k < 160 then some (7, 0) else if k < 200 then none else if k < 230 then some (0, 0) else if k < 300 then none else if k < 318 then some (9, 0) else if k < 320 then none else if k < 338 then some (12, 5) else if k < 400 then none else KDM k
def SH0 : Nat → Nat → Option Nat := fun k j => match k with
  | 0 => (match j with | 0 => some 1 | 1 => some 2 | 2 => some 3 | 3 => some 20 | 4 => some 21 | 5 => some 30 | 6 => some 31 | 7 => some 40 | 8 => some 50 | 9 => some 55 | _ => none)
  | 1 => (match j with | 0 => some 10 | 1 => some 13 | 2 => some 16 | _ => none)
  | 2 => (match j with | 0 => some 11 | 1 => some 14 | 2 => some 17 | _ => none)
  | 3 => (match j with | 0 => some 12 | 1 => some 15 | 2 => some 18 | _ => none)
  | 10 => some (100 + j)
  | 13 => some (200 + j)
  | 16 => some (300 + j)
  | 11 => some (120 + j)
  | 14 => some (210 + j)
  | 17 => some (306 + j)
  | 12 => some (140 + j)
  | 15 => some (220 + j)
  | 18 => some (312 + j)
  | 20 => (match j with | 0 => some 22 | 1 => some 24 | _ => none)
  | 30 => (match j with | 0 => some 32 | 1 => some 34 | 2 => some 36 | 3 => some 38 | _ => none)
  | 21 => (match j with | 0 => some 23 | 1 => some 25 | _ => none)
  | 31 => (match j with | 0 => some 33 | 1 => some 35 | 2 => some 37 | 3 => some 39 | _ => none)
  | 40 => (match j with | 0 => some 41 | 1 => some 42 | _ => none)
  | 50 => (match j with | 0 => some 51 | 1 => some 68 | _ => none)
  | 51 => some (60 + j)
  | 55 => (match j with | 0 => some 56 | _ => none)
  | _ => none
def SHM : Nat → Option Nat := fun j => match j with
  | 2 => some 403
  | 3 => some 404
  | 4 => some 405
  | 5 => some 406
  | 6 => some 407
  | 7 => some 408
  | 8 => some 409
  | 9 => some 410
  | 10 => some 411
  | 11 => some 412
  | 12 => some 413
  | 13 => some 414
  | 14 => some 415
  | 16 => some 417
  | 17 => some 418
  | 18 => some 419
  | 19 => some 420
  | 20 => some 421
  | 21 => some 422
  | 22 => some 423
  | 23 => some 424
  | 24 => some 425
  | 28 => some 429
  | 29 => some 430
  | 30 => some 431
  | 31 => some 432
  | 32 => some 433
  | 35 => some 436
  | 36 => some 437
  | 37 => some 438
  | 38 => some 439
  | 39 => some 440
  | 40 => some 441
  | 41 => some 442
  | 45 => some 446
  | 46 => some 447
  | 47 => some 448
  | 48 => some 449
  | 49 => some 450
  | 50 => some 451
  | 51 => some 452
  | 52 => some 453
  | 60 => some 461
  | 61 => some 462
  | 62 => some 463
  | 63 => some 464
  | 64 => some 465
  | _ => none
/-- the places that hold a reference, and to which cell -/
def SH : Nat → Nat → Option Nat := fun k j =>
  if k < 60 then SH0 k j else if k < 69 then (match j with | 0 => some (k + 10) | 1 => some (k + 20) | 2 => some (k + 30) | _ => none)
  else if k < 300 then none else if k < 318 then (match j with | 0 => some (k + 20) | _ => none) else if k = 400 then SHM j else none
/-- ranges that hold always -/
def RG0 : Nat → Nat → Option (Int × Int) := fun k j => match k with
  | 1 => (match j with | 3 => some (0, 20) | 4 => some (0, 10) | _ => none)
  | 2 => (match j with | 3 => some (0, 20) | 4 => some (0, 10) | _ => none)
  | 3 => (match j with | 3 => some (0, 20) | 4 => some (0, 10) | _ => none)
  | 20 => (match j with | 2 => some (0, 20) | _ => none)
  | 21 => (match j with | 2 => some (0, 20) | _ => none)
  | 22 => some (0, 19)
  | 23 => some (0, 19)
  | 30 => (match j with | 4 => some (0, 30) | _ => none)
  | 31 => (match j with | 4 => some (0, 30) | _ => none)
  | 50 => (match j with | 2 => some (0, 8) | _ => none)
  | 55 => (match j with | 1 => some (0, 120) | 2 => some (0, 120) | _ => none)
  | _ => none
def RGM : Nat → Nat → Option (Int × Int) := fun k j => match k with
  | 400 => (match j with | 1 => some (0, 20) | 15 => some (0, 10) | 27 => some (0, 200) | 33 => some (0, 120) | 34 => some (0, 8) | 42 => some (0, 120) | 43 => some (0, 999) | 44 => some (0, 20) | 53 => some (0, 20) | 54 => some (0, 20) | 55 => some (0, 10) | _ => none)
  | 417 => some (0, 5)
  | 438 => some (0, 3)
  | 439 => some (0, 99)
  | 442 => some (0, 99)
  | 446 => some (0, 19)
  | 429 => some (0, 19)
  | 453 => some (0, 19)
  | 448 => (match j with | 36 => some (0, 200) | _ => none)
  | 449 => if j % 4 = 0 then some (0, 19) else none
  | _ => none
def RG : Nat → Nat → Option (Int × Int) := fun k j =>
  if k < 60 then RG0 k j else if k < 69 then (match j with | 3 => some (0, 3) | 4 => some (0, 99) | _ => none) else if k < 70 then none else if k < 79 then some (0, 99)
  else if k < 200 then none else if k < 230 then (match j with | 0 => some (0, 5) | _ => none) else if k < 400 then none else RGM k j
/-- places that only the calls which are made for it change -/
def PSM : Nat → Nat → Bool := fun k j => match k with
  | 400 => (match j with | 1 => true | 15 => true | 33 => true | 65 => true | 66 => true | _ => false)
  | 403 => true
  | 405 => true
  | 406 => true
  | 425 => true
  | _ => false
def PS : Nat → Nat → Bool := fun k j =>
  if k = 0 then (match j with | 11 => true | 12 => true | _ => false) else if k = 1 then (match j with | 3 => true | 4 => true | _ => false) else if k = 55 then (match j with | 1 => true | _ => false)
  else if k < 100 then false else if k < 120 then (match j with | 2 => true | 3 => true | _ => false) else if k < 320 then false else if k < 326 then true else if k < 400 then false else PSM k j
-- methods
abbrev c_X0_init : ByteArray := prog_2_method_1_code
def m_X0_init : MethodName := ⟨"CoalTurns$Buyer", "<init>", "()V"⟩
abbrev c_X0_begin : ByteArray := prog_2_method_2_code
def m_X0_begin : MethodName := ⟨"CoalTurns$Buyer", "begin", "(IIII)V"⟩
abbrev c_X0_copy : ByteArray := prog_2_method_3_code
def m_X0_copy : MethodName := ⟨"CoalTurns$Buyer", "copy", "(LCoalTurns$Buyer;)V"⟩
abbrev c_X0_takes : ByteArray := prog_2_method_4_code
def m_X0_takes : MethodName := ⟨"CoalTurns$Buyer", "takes", "(LCoalTurns$Ship;)Z"⟩
abbrev c_X1_init : ByteArray := prog_3_method_1_code
def m_X1_init : MethodName := ⟨"CoalTurns$DayBook", "<init>", "()V"⟩
abbrev c_X1_open : ByteArray := prog_3_method_2_code
def m_X1_open : MethodName := ⟨"CoalTurns$DayBook", "open", "()V"⟩
abbrev c_X1_enter : ByteArray := prog_3_method_3_code
def m_X1_enter : MethodName := ⟨"CoalTurns$DayBook", "enter", "(IIII)V"⟩
abbrev c_X1_fact : ByteArray := prog_3_method_4_code
def m_X1_fact : MethodName := ⟨"CoalTurns$DayBook", "fact", "(II)I"⟩
abbrev c_X2_init : ByteArray := prog_4_method_1_code
def m_X2_init : MethodName := ⟨"CoalTurns$Lighters", "<init>", "()V"⟩
abbrev c_X2_hours : ByteArray := prog_4_method_2_code
def m_X2_hours : MethodName := ⟨"CoalTurns$Lighters", "hours", "(LCoalTurns$DayBook;I)I"⟩
abbrev c_X2_gather : ByteArray := prog_4_method_3_code
def m_X2_gather : MethodName := ⟨"CoalTurns$Lighters", "gather", "(LCoalTurns$DayBook;)I"⟩
abbrev c_X2_leastHours : ByteArray := prog_4_method_4_code
def m_X2_leastHours : MethodName := ⟨"CoalTurns$Lighters", "leastHours", "([II[III)I"⟩
abbrev c_X2_longest : ByteArray := prog_4_method_5_code
def m_X2_longest : MethodName := ⟨"CoalTurns$Lighters", "longest", "([II)I"⟩
abbrev c_X3_init : ByteArray := prog_5_method_1_code
def m_X3_init : MethodName := ⟨"CoalTurns$Order", "<init>", "()V"⟩
abbrev c_X3_addPart : ByteArray := prog_5_method_2_code
def m_X3_addPart : MethodName := ⟨"CoalTurns$Order", "addPart", "(IZI)V"⟩
abbrev c_X3_sellers : ByteArray := prog_5_method_3_code
def m_X3_sellers : MethodName := ⟨"CoalTurns$Order", "sellers", "(I)I"⟩
abbrev c_X3_keyOf : ByteArray := prog_5_method_4_code
def m_X3_keyOf : MethodName := ⟨"CoalTurns$Order", "keyOf", "(ILCoalTurns$Ship;I)I"⟩
abbrev c_X4_init : ByteArray := prog_6_method_1_code
def m_X4_init : MethodName := ⟨"CoalTurns$OrderBook", "<init>", "()V"⟩
abbrev c_X4_has : ByteArray := prog_6_method_2_code
def m_X4_has : MethodName := ⟨"CoalTurns$OrderBook", "has", "(I)Z"⟩
abbrev c_X4_inForce : ByteArray := prog_6_method_3_code
def m_X4_inForce : MethodName := ⟨"CoalTurns$OrderBook", "inForce", "(I)I"⟩
abbrev c_X4_ruleOn : ByteArray := prog_6_method_4_code
def m_X4_ruleOn : MethodName := ⟨"CoalTurns$OrderBook", "ruleOn", "(I)LCoalTurns$Order;"⟩
abbrev c_X5_init : ByteArray := prog_7_method_1_code
def m_X5_init : MethodName := ⟨"CoalTurns$Queue", "<init>", "()V"⟩
abbrev c_X5_line : ByteArray := prog_7_method_2_code
def m_X5_line : MethodName := ⟨"CoalTurns$Queue", "line", "(LCoalTurns$River;LCoalTurns$Order;)V"⟩
abbrev c_X5_rank : ByteArray := prog_7_method_3_code
def m_X5_rank : MethodName := ⟨"CoalTurns$Queue", "rank", "(ILCoalTurns$Ship;LCoalTurns$Order;I)I"⟩
abbrev c_X5_insert : ByteArray := prog_7_method_4_code
def m_X5_insert : MethodName := ⟨"CoalTurns$Queue", "insert", "(II)V"⟩
abbrev c_X5_putFirst : ByteArray := prog_7_method_5_code
def m_X5_putFirst : MethodName := ⟨"CoalTurns$Queue", "putFirst", "(ILCoalTurns$Queue;)V"⟩
abbrev c_X6_init : ByteArray := prog_8_method_1_code
def m_X6_init : MethodName := ⟨"CoalTurns$River", "<init>", "()V"⟩
abbrev c_X6_copy : ByteArray := prog_8_method_2_code
def m_X6_copy : MethodName := ⟨"CoalTurns$River", "copy", "(LCoalTurns$River;)V"⟩
abbrev c_X6_hasShip : ByteArray := prog_8_method_3_code
def m_X6_hasShip : MethodName := ⟨"CoalTurns$River", "hasShip", "(I)Z"⟩
abbrev c_X6_sail : ByteArray := prog_8_method_4_code
def m_X6_sail : MethodName := ⟨"CoalTurns$River", "sail", "(I)V"⟩
abbrev c_X6_trade : ByteArray := prog_8_method_5_code
def m_X6_trade : MethodName := ⟨"CoalTurns$River", "trade", "(LCoalTurns$Queue;LCoalTurns$DayBook;)V"⟩
abbrev c_X6_sell : ByteArray := prog_8_method_6_code
def m_X6_sell : MethodName := ⟨"CoalTurns$River", "sell", "(ILCoalTurns$DayBook;)Z"⟩
abbrev c_X6_bestBuyer : ByteArray := prog_8_method_7_code
def m_X6_bestBuyer : MethodName := ⟨"CoalTurns$River", "bestBuyer", "(LCoalTurns$Ship;)I"⟩
abbrev c_X6_strike : ByteArray := prog_8_method_8_code
def m_X6_strike : MethodName := ⟨"CoalTurns$River", "strike", "(IILCoalTurns$DayBook;)V"⟩
abbrev c_X6_endDay : ByteArray := prog_8_method_9_code
def m_X6_endDay : MethodName := ⟨"CoalTurns$River", "endDay", "(I)V"⟩
abbrev c_X6_lackedDays : ByteArray := prog_8_method_10_code
def m_X6_lackedDays : MethodName := ⟨"CoalTurns$River", "lackedDays", "()I"⟩
abbrev c_X6_duesOfAll : ByteArray := prog_8_method_11_code
def m_X6_duesOfAll : MethodName := ⟨"CoalTurns$River", "duesOfAll", "()I"⟩
abbrev c_X6_takenFor : ByteArray := prog_8_method_12_code
def m_X6_takenFor : MethodName := ⟨"CoalTurns$River", "takenFor", "(I)I"⟩
abbrev c_X7_init : ByteArray := prog_9_method_1_code
def m_X7_init : MethodName := ⟨"CoalTurns$Ship", "<init>", "()V"⟩
abbrev c_X7_begin : ByteArray := prog_9_method_2_code
def m_X7_begin : MethodName := ⟨"CoalTurns$Ship", "begin", "(IIIIII)V"⟩
abbrev c_X7_copy : ByteArray := prog_9_method_3_code
def m_X7_copy : MethodName := ⟨"CoalTurns$Ship", "copy", "(LCoalTurns$Ship;)V"⟩
abbrev c_X7_fact : ByteArray := prog_9_method_4_code
def m_X7_fact : MethodName := ⟨"CoalTurns$Ship", "fact", "(I)I"⟩
abbrev c_X7_sail : ByteArray := prog_9_method_5_code
def m_X7_sail : MethodName := ⟨"CoalTurns$Ship", "sail", "(II)V"⟩
abbrev c_X7_duesFor : ByteArray := prog_9_method_6_code
def m_X7_duesFor : MethodName := ⟨"CoalTurns$Ship", "duesFor", "(I)I"⟩
abbrev c_X7_founder : ByteArray := prog_9_method_7_code
def m_X7_founder : MethodName := ⟨"CoalTurns$Ship", "founder", "(I)I"⟩
abbrev c_X7_leave : ByteArray := prog_9_method_8_code
def m_X7_leave : MethodName := ⟨"CoalTurns$Ship", "leave", "()I"⟩
abbrev c_X7_deliver : ByteArray := prog_9_method_9_code
def m_X7_deliver : MethodName := ⟨"CoalTurns$Ship", "deliver", "(II)V"⟩
abbrev c_X7_miss : ByteArray := prog_9_method_10_code
def m_X7_miss : MethodName := ⟨"CoalTurns$Ship", "miss", "()V"⟩
abbrev c_X7_isInPort : ByteArray := prog_9_method_11_code
def m_X7_isInPort : MethodName := ⟨"CoalTurns$Ship", "isInPort", "()Z"⟩
abbrev c_X8_init : ByteArray := prog_10_method_1_code
def m_X8_init : MethodName := ⟨"CoalTurns$Tape", "<init>", "()V"⟩
abbrev c_X8_append : ByteArray := prog_10_method_2_code
def m_X8_append : MethodName := ⟨"CoalTurns$Tape", "append", "(I)V"⟩
abbrev c_X8_read : ByteArray := prog_10_method_3_code
def m_X8_read : MethodName := ⟨"CoalTurns$Tape", "read", "(LCoalTurns$Order;)I"⟩
abbrev c_X8_key : ByteArray := prog_10_method_4_code
def m_X8_key : MethodName := ⟨"CoalTurns$Tape", "key", "(LCoalTurns$Order;)Z"⟩
abbrev c_X8_parts : ByteArray := prog_10_method_5_code
def m_X8_parts : MethodName := ⟨"CoalTurns$Tape", "parts", "(LCoalTurns$Order;)Z"⟩
abbrev c_X8_part : ByteArray := prog_10_method_6_code
def m_X8_part : MethodName := ⟨"CoalTurns$Tape", "part", "(LCoalTurns$Order;I)Z"⟩
abbrev c_X8_word : ByteArray := prog_10_method_7_code
def m_X8_word : MethodName := ⟨"CoalTurns$Tape", "word", "(Ljava/lang/String;)Z"⟩
abbrev c_X8_number : ByteArray := prog_10_method_8_code
def m_X8_number : MethodName := ⟨"CoalTurns$Tape", "number", "(I)I"⟩
abbrev c_X9_init : ByteArray := prog_11_method_1_code
def m_X9_init : MethodName := ⟨"CoalTurns$Ward", "<init>", "()V"⟩
abbrev c_X9_copy : ByteArray := prog_11_method_2_code
def m_X9_copy : MethodName := ⟨"CoalTurns$Ward", "copy", "(LCoalTurns$Ward;)V"⟩
abbrev c_X9_fact : ByteArray := prog_11_method_3_code
def m_X9_fact : MethodName := ⟨"CoalTurns$Ward", "fact", "(I)I"⟩
abbrev c_X9_receive : ByteArray := prog_11_method_4_code
def m_X9_receive : MethodName := ⟨"CoalTurns$Ward", "receive", "(I)V"⟩
abbrev c_X9_heat : ByteArray := prog_11_method_5_code
def m_X9_heat : MethodName := ⟨"CoalTurns$Ward", "heat", "(I)V"⟩
abbrev c_X10_init : ByteArray := prog_1_method_1_code
def m_X10_init : MethodName := ⟨"CoalTurns", "<init>", "()V"⟩
abbrev c_X10_ship : ByteArray := prog_1_method_2_code
def m_X10_ship : MethodName := ⟨"CoalTurns", "ship", "(IIIIII)I"⟩
abbrev c_X10_ask : ByteArray := prog_1_method_3_code
def m_X10_ask : MethodName := ⟨"CoalTurns", "ask", "(II)I"⟩
abbrev c_X10_wreck : ByteArray := prog_1_method_4_code
def m_X10_wreck : MethodName := ⟨"CoalTurns", "wreck", "(II)I"⟩
abbrev c_X10_goOn : ByteArray := prog_1_method_5_code
def m_X10_goOn : MethodName := ⟨"CoalTurns", "goOn", "(I)I"⟩
abbrev c_X10_buyer : ByteArray := prog_1_method_6_code
def m_X10_buyer : MethodName := ⟨"CoalTurns", "buyer", "(IIII)I"⟩
abbrev c_X10_want : ByteArray := prog_1_method_7_code
def m_X10_want : MethodName := ⟨"CoalTurns", "want", "(III)I"⟩
abbrev c_X10_burn : ByteArray := prog_1_method_8_code
def m_X10_burn : MethodName := ⟨"CoalTurns", "burn", "(III)I"⟩
abbrev c_X10_store : ByteArray := prog_1_method_9_code
def m_X10_store : MethodName := ⟨"CoalTurns", "store", "(II)I"⟩
abbrev c_X10_feed : ByteArray := prog_1_method_10_code
def m_X10_feed : MethodName := ⟨"CoalTurns", "feed", "(JI)I"⟩
abbrev c_X10_order : ByteArray := prog_1_method_11_code
def m_X10_order : MethodName := ⟨"CoalTurns", "order", "(I)I"⟩
abbrev c_X10_force : ByteArray := prog_1_method_12_code
def m_X10_force : MethodName := ⟨"CoalTurns", "force", "(I)I"⟩
abbrev c_X10_many : ByteArray := prog_1_method_13_code
def m_X10_many : MethodName := ⟨"CoalTurns", "many", "(II)I"⟩
abbrev c_X10_turn : ByteArray := prog_1_method_14_code
def m_X10_turn : MethodName := ⟨"CoalTurns", "turn", "(I)I"⟩
abbrev c_X10_day : ByteArray := prog_1_method_15_code
def m_X10_day : MethodName := ⟨"CoalTurns", "day", "(III)I"⟩
abbrev c_X10_about : ByteArray := prog_1_method_16_code
def m_X10_about : MethodName := ⟨"CoalTurns", "about", "(II)I"⟩
abbrev c_X10_bargain : ByteArray := prog_1_method_17_code
def m_X10_bargain : MethodName := ⟨"CoalTurns", "bargain", "(II)I"⟩
abbrev c_X10_clear : ByteArray := prog_1_method_18_code
def m_X10_clear : MethodName := ⟨"CoalTurns", "clear", "(I)I"⟩
abbrev c_X10_held : ByteArray := prog_1_method_19_code
def m_X10_held : MethodName := ⟨"CoalTurns", "held", "(I)I"⟩
abbrev c_X10_measure : ByteArray := prog_1_method_20_code
def m_X10_measure : MethodName := ⟨"CoalTurns", "measure", "(II)I"⟩
abbrev c_X10_weighed : ByteArray := prog_1_method_21_code
def m_X10_weighed : MethodName := ⟨"CoalTurns", "weighed", "(IIII)I"⟩
abbrev c_X10_ward : ByteArray := prog_1_method_22_code
def m_X10_ward : MethodName := ⟨"CoalTurns", "ward", "(II)I"⟩
abbrev c_X10_lasts : ByteArray := prog_1_method_23_code
def m_X10_lasts : MethodName := ⟨"CoalTurns", "lasts", "(II)I"⟩
abbrev c_X10_tried : ByteArray := prog_1_method_24_code
def m_X10_tried : MethodName := ⟨"CoalTurns", "tried", "(IIIII)I"⟩
abbrev c_X10_count : ByteArray := prog_1_method_25_code
def m_X10_count : MethodName := ⟨"CoalTurns", "count", "(I)I"⟩
abbrev c_X10_factor : ByteArray := prog_1_method_26_code
def m_X10_factor : MethodName := ⟨"CoalTurns", "factor", "(I)I"⟩
abbrev c_X10_tryDay : ByteArray := prog_1_method_27_code
def m_X10_tryDay : MethodName := ⟨"CoalTurns", "tryDay", "(LCoalTurns$Order;II)I"⟩
abbrev c_X10_within : ByteArray := prog_1_method_28_code
def m_X10_within : MethodName := ⟨"CoalTurns", "within", "(III)Z"⟩
abbrev c_X10_isAsk : ByteArray := prog_1_method_29_code
def m_X10_isAsk : MethodName := ⟨"CoalTurns", "isAsk", "(I)Z"⟩
abbrev c_X10_isBid : ByteArray := prog_1_method_30_code
def m_X10_isBid : MethodName := ⟨"CoalTurns", "isBid", "(I)Z"⟩
abbrev c_X10_isWant : ByteArray := prog_1_method_31_code
def m_X10_isWant : MethodName := ⟨"CoalTurns", "isWant", "(I)Z"⟩
abbrev c_X10_isWard : ByteArray := prog_1_method_32_code
def m_X10_isWard : MethodName := ⟨"CoalTurns", "isWard", "(I)Z"⟩
abbrev c_X10_isCold : ByteArray := prog_1_method_33_code
def m_X10_isCold : MethodName := ⟨"CoalTurns", "isCold", "(I)Z"⟩
abbrev c_X10_isWind : ByteArray := prog_1_method_34_code
def m_X10_isWind : MethodName := ⟨"CoalTurns", "isWind", "(I)Z"⟩
abbrev c_X11_init : ByteArray := prog_13_method_1_code
def m_X11_init : MethodName := ⟨"CoalTurnsModel", "<init>", "()V"⟩
abbrev c_X11_in : ByteArray := prog_13_method_3_code
def m_X11_in : MethodName := ⟨"CoalTurnsModel", "in", "(III)Z"⟩
abbrev c_X11_isShip : ByteArray := prog_13_method_4_code
def m_X11_isShip : MethodName := ⟨"CoalTurnsModel", "isShip", "(I)Z"⟩
abbrev c_X11_isBuyer : ByteArray := prog_13_method_5_code
def m_X11_isBuyer : MethodName := ⟨"CoalTurnsModel", "isBuyer", "(I)Z"⟩
abbrev c_X11_isWard : ByteArray := prog_13_method_6_code
def m_X11_isWard : MethodName := ⟨"CoalTurnsModel", "isWard", "(I)Z"⟩
abbrev c_X11_ship : ByteArray := prog_13_method_7_code
def m_X11_ship : MethodName := ⟨"CoalTurnsModel", "ship", "(IIIIII)I"⟩
abbrev c_X11_ask : ByteArray := prog_13_method_8_code
def m_X11_ask : MethodName := ⟨"CoalTurnsModel", "ask", "(II)I"⟩
abbrev c_X11_rate : ByteArray := prog_13_method_9_code
def m_X11_rate : MethodName := ⟨"CoalTurnsModel", "rate", "(I)I"⟩
abbrev c_X11_wreck : ByteArray := prog_13_method_10_code
def m_X11_wreck : MethodName := ⟨"CoalTurnsModel", "wreck", "(II)I"⟩
abbrev c_X11_goOn : ByteArray := prog_13_method_11_code
def m_X11_goOn : MethodName := ⟨"CoalTurnsModel", "goOn", "(I)I"⟩
abbrev c_X11_buyer : ByteArray := prog_13_method_12_code
def m_X11_buyer : MethodName := ⟨"CoalTurnsModel", "buyer", "(IIII)I"⟩
abbrev c_X11_want : ByteArray := prog_13_method_13_code
def m_X11_want : MethodName := ⟨"CoalTurnsModel", "want", "(III)I"⟩
abbrev c_X11_burn : ByteArray := prog_13_method_14_code
def m_X11_burn : MethodName := ⟨"CoalTurnsModel", "burn", "(III)I"⟩
abbrev c_X11_store : ByteArray := prog_13_method_15_code
def m_X11_store : MethodName := ⟨"CoalTurnsModel", "store", "(II)I"⟩
abbrev c_X11_feed : ByteArray := prog_13_method_16_code
def m_X11_feed : MethodName := ⟨"CoalTurnsModel", "feed", "(JI)I"⟩
abbrev c_X11_has : ByteArray := prog_13_method_17_code
def m_X11_has : MethodName := ⟨"CoalTurnsModel", "has", "(I)Z"⟩
abbrev c_X11_takes : ByteArray := prog_13_method_18_code
def m_X11_takes : MethodName := ⟨"CoalTurnsModel", "takes", "(I)Z"⟩
abbrev c_X11_isDigit : ByteArray := prog_13_method_19_code
def m_X11_isDigit : MethodName := ⟨"CoalTurnsModel", "isDigit", "(I)Z"⟩
abbrev c_X11_takesNumber : ByteArray := prog_13_method_20_code
def m_X11_takesNumber : MethodName := ⟨"CoalTurnsModel", "takesNumber", "(I)Z"⟩
abbrev c_X11_takesKey : ByteArray := prog_13_method_21_code
def m_X11_takesKey : MethodName := ⟨"CoalTurnsModel", "takesKey", "(I)Z"⟩
abbrev c_X11_reads : ByteArray := prog_13_method_22_code
def m_X11_reads : MethodName := ⟨"CoalTurnsModel", "reads", "(I)Z"⟩
abbrev c_X11_order : ByteArray := prog_13_method_23_code
def m_X11_order : MethodName := ⟨"CoalTurnsModel", "order", "(I)I"⟩
abbrev c_X11_forceOn : ByteArray := prog_13_method_24_code
def m_X11_forceOn : MethodName := ⟨"CoalTurnsModel", "forceOn", "(I)I"⟩
abbrev c_X11_force : ByteArray := prog_13_method_25_code
def m_X11_force : MethodName := ⟨"CoalTurnsModel", "force", "(I)I"⟩
abbrev c_X11_manyBy : ByteArray := prog_13_method_26_code
def m_X11_manyBy : MethodName := ⟨"CoalTurnsModel", "manyBy", "(II)I"⟩
abbrev c_X11_many : ByteArray := prog_13_method_27_code
def m_X11_many : MethodName := ⟨"CoalTurnsModel", "many", "(II)I"⟩
abbrev c_X11_keyOf : ByteArray := prog_13_method_28_code
def m_X11_keyOf : MethodName := ⟨"CoalTurnsModel", "keyOf", "(II)I"⟩
abbrev c_X11_isAhead : ByteArray := prog_13_method_29_code
def m_X11_isAhead : MethodName := ⟨"CoalTurnsModel", "isAhead", "(III)Z"⟩
abbrev c_X11_findTurns : ByteArray := prog_13_method_30_code
def m_X11_findTurns : MethodName := ⟨"CoalTurnsModel", "findTurns", "(I)V"⟩
abbrev c_X11_turn : ByteArray := prog_13_method_31_code
def m_X11_turn : MethodName := ⟨"CoalTurnsModel", "turn", "(I)I"⟩
abbrev c_X11_arrive : ByteArray := prog_13_method_32_code
def m_X11_arrive : MethodName := ⟨"CoalTurnsModel", "arrive", "(I)V"⟩
abbrev c_X11_next : ByteArray := prog_13_method_33_code
def m_X11_next : MethodName := ⟨"CoalTurnsModel", "next", "(I)I"⟩
abbrev c_X11_strike : ByteArray := prog_13_method_34_code
def m_X11_strike : MethodName := ⟨"CoalTurnsModel", "strike", "(II)V"⟩
abbrev c_X11_sell : ByteArray := prog_13_method_35_code
def m_X11_sell : MethodName := ⟨"CoalTurnsModel", "sell", "(I)V"⟩
abbrev c_X11_market : ByteArray := prog_13_method_36_code
def m_X11_market : MethodName := ⟨"CoalTurnsModel", "market", "(IZ)V"⟩
abbrev c_X11_note : ByteArray := prog_13_method_37_code
def m_X11_note : MethodName := ⟨"CoalTurnsModel", "note", "()V"⟩
abbrev c_X11_go : ByteArray := prog_13_method_38_code
def m_X11_go : MethodName := ⟨"CoalTurnsModel", "go", "(IIZIZ)V"⟩
abbrev c_X11_day : ByteArray := prog_13_method_39_code
def m_X11_day : MethodName := ⟨"CoalTurnsModel", "day", "(III)I"⟩
abbrev c_X11_about : ByteArray := prog_13_method_40_code
def m_X11_about : MethodName := ⟨"CoalTurnsModel", "about", "(II)I"⟩
abbrev c_X11_bargain : ByteArray := prog_13_method_41_code
def m_X11_bargain : MethodName := ⟨"CoalTurnsModel", "bargain", "(II)I"⟩
abbrev c_X11_findHours : ByteArray := prog_13_method_42_code
def m_X11_findHours : MethodName := ⟨"CoalTurnsModel", "findHours", "()I"⟩
abbrev c_X11_clear : ByteArray := prog_13_method_43_code
def m_X11_clear : MethodName := ⟨"CoalTurnsModel", "clear", "(I)I"⟩
abbrev c_X11_sellThen : ByteArray := prog_13_method_44_code
def m_X11_sellThen : MethodName := ⟨"CoalTurnsModel", "sellThen", "(I)V"⟩
abbrev c_X11_held : ByteArray := prog_13_method_45_code
def m_X11_held : MethodName := ⟨"CoalTurnsModel", "held", "(I)I"⟩
abbrev c_X11_measure : ByteArray := prog_13_method_46_code
def m_X11_measure : MethodName := ⟨"CoalTurnsModel", "measure", "(II)I"⟩
abbrev c_X11_weighed : ByteArray := prog_13_method_47_code
def m_X11_weighed : MethodName := ⟨"CoalTurnsModel", "weighed", "(IIII)I"⟩
abbrev c_X11_ward : ByteArray := prog_13_method_48_code
def m_X11_ward : MethodName := ⟨"CoalTurnsModel", "ward", "(II)I"⟩
abbrev c_X11_lasts : ByteArray := prog_13_method_49_code
def m_X11_lasts : MethodName := ⟨"CoalTurnsModel", "lasts", "(II)I"⟩
abbrev c_X11_keep : ByteArray := prog_13_method_50_code
def m_X11_keep : MethodName := ⟨"CoalTurnsModel", "keep", "()V"⟩
abbrev c_X11_putBack : ByteArray := prog_13_method_51_code
def m_X11_putBack : MethodName := ⟨"CoalTurnsModel", "putBack", "()V"⟩
abbrev c_X11_allLacks : ByteArray := prog_13_method_52_code
def m_X11_allLacks : MethodName := ⟨"CoalTurnsModel", "allLacks", "()I"⟩
abbrev c_X11_tried : ByteArray := prog_13_method_53_code
def m_X11_tried : MethodName := ⟨"CoalTurnsModel", "tried", "(IIIII)I"⟩
abbrev c_X11_count : ByteArray := prog_13_method_54_code
def m_X11_count : MethodName := ⟨"CoalTurnsModel", "count", "(I)I"⟩
abbrev c_X11_factor : ByteArray := prog_13_method_55_code
def m_X11_factor : MethodName := ⟨"CoalTurnsModel", "factor", "(I)I"⟩
