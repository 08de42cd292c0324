/-! SHIPS COME; WARDS BURN -/
def arriveShip (wi : Int32) (s : Nat) (w : tV) : tV :=
  if w 410 s = 0 then
    (if w 408 s - (if w 403 s = 1 then 2 * wi else wi) ≤ 0 then
      up2 (up2 (up2 (up2 w 408 s 0) 410 s 1) 411 s (w 400 25)) 415 s (w 415 s + (if w 403 s = 3 then 3 * w 405 s else 0))
     else up2 w 408 s (w 408 s - (if w 403 s = 1 then 2 * wi else wi)))
  else w
theorem arrive_body (wi : Int32) (rc : Int32 → tV → tV) (y : Int32) (w : tV) : b_X11_arrive_400_2 wi rc y w = if w 400 1 ≤ y then w else rc (y + 1) (arriveShip wi y.toNatClampNeg w) := by
  simp only [b_X11_arrive_400_2, bnd, arriveShip]
  by_cases q1 : w 400 1 ≤ y
  · rw [if_pos q1, if_pos q1]
  · rw [if_neg q1, if_neg q1]
    by_cases q2 : w 410 y.toNatClampNeg = 0
    · rw [if_pos q2, if_pos q2]
      simp (disch := omega) only [up2_n, up2_s, up2_up2]
      by_cases q3 : w 403 y.toNatClampNeg = 1
      · rw [if_pos q3, if_pos q3]
        by_cases q4 : w 408 y.toNatClampNeg - 2 * wi ≤ 0
        · rw [if_pos q4, if_pos q4]
          by_cases q5 : w 403 y.toNatClampNeg = 3
          · rw [if_pos q5, if_pos q5]
          · rw [if_neg q5, if_neg q5]
        · rw [if_neg q4, if_neg q4]
      · rw [if_neg q3, if_neg q3]
        by_cases q4 : w 408 y.toNatClampNeg - wi ≤ 0
        · rw [if_pos q4, if_pos q4]
          by_cases q5 : w 403 y.toNatClampNeg = 3
          · rw [if_pos q5, if_pos q5]
          · rw [if_neg q5, if_neg q5]
        · rw [if_neg q4, if_neg q4]
    · rw [if_neg q2, if_neg q2]
theorem sail_ship {u w : tV} (h : RelW u w) {s : Nat} (hs : s < 20) (wi : Int32) : RelW (f_X7_sail u (100 + s) wi (u 1 5)) (arriveShip wi s w) := by
  have z0 : (0 : Int32).toInt = 0 := rfl
  have e0 : w 403 s = u (100 + s) 0 := (h.ship s 0 hs (by omega)).symm
  have e2 : w 405 s = u (100 + s) 2 := (h.ship s 2 hs (by omega)).symm
  have e5 : w 408 s = u (100 + s) 5 := (h.ship s 5 hs (by omega)).symm
  have e7 : w 410 s = u (100 + s) 7 := (h.ship s 7 hs (by omega)).symm
  have e12 : w 415 s = u (100 + s) 12 := (h.ship s 12 hs (by omega)).symm
  have et : w 400 25 = u 1 5 := h.to.symm
  have f0 : ∀ x y z, up2 (up2 (up2 u (100 + s) 5 x) (100 + s) 7 y) (100 + s) 8 z (100 + s) 0 = u (100 + s) 0 := fun x y z => by rw [up2_n _ _ (by omega), up2_n _ _ (by omega), up2_n _ _ (by omega)]
  have f2 : ∀ x y z, up2 (up2 (up2 u (100 + s) 5 x) (100 + s) 7 y) (100 + s) 8 z (100 + s) 2 = u (100 + s) 2 := fun x y z => by rw [up2_n _ _ (by omega), up2_n _ _ (by omega), up2_n _ _ (by omega)]
  have f12 : ∀ x y z, up2 (up2 (up2 u (100 + s) 5 x) (100 + s) 7 y) (100 + s) 8 z (100 + s) 12 = u (100 + s) 12 := fun x y z => by rw [up2_n _ _ (by omega), up2_n _ _ (by omega), up2_n _ _ (by omega)]
  have core : ∀ d : Int32, RelW (if (if (0 : Int32) < u (100 + s) 5 - d then u (100 + s) 5 - d else 0) ≤ 0 then (if u (100 + s) 0 = 3 then up2 (up2 (up2 (up2 u (100 + s) 5 (if (0 : Int32) < u (100 + s) 5 - d then u (100 + s) 5 - d else 0)) (100 + s) 7 1) (100 + s) 8 (u 1 5)) (100 + s) 12 (u (100 + s) 12 + 3 * u (100 + s) 2) else up2 (up2 (up2 u (100 + s) 5 (if (0 : Int32) < u (100 + s) 5 - d then u (100 + s) 5 - d else 0)) (100 + s) 7 1) (100 + s) 8 (u 1 5)) else up2 u (100 + s) 5 (if (0 : Int32) < u (100 + s) 5 - d then u (100 + s) 5 - d else 0))
      (if u (100 + s) 5 - d ≤ 0 then up2 (up2 (up2 (up2 w 408 s 0) 410 s 1) 411 s (u 1 5)) 415 s (u (100 + s) 12 + (if u (100 + s) 0 = 3 then 3 * u (100 + s) 2 else 0)) else up2 w 408 s (u (100 + s) 5 - d)) := by
    intro d
    by_cases q : u (100 + s) 5 - d ≤ 0
    · have q' := i_le q
      have e : (if (0 : Int32) < u (100 + s) 5 - d then u (100 + s) 5 - d else 0) = 0 := if_neg (fun z => by have := i_lt z; omega)
      rw [e, if_pos q, if_pos (by decide)]
      have h3 := ((h.put_ship (f := 5) (s := s) 0 hs (by omega) rfl rfl).put_ship (f := 7) (s := s) 1 hs (by omega) rfl rfl).put_ship (f := 8) (s := s) (u 1 5) hs (by omega) rfl rfl
      by_cases q3 : u (100 + s) 0 = 3
      · rw [if_pos q3, if_pos q3]
        exact h3.put_ship _ hs (by omega) rfl rfl
      · rw [if_neg q3, if_neg q3, Int32.add_zero, ← e12]
        have g : up2 (up2 (up2 w 408 s 0) 410 s 1) 411 s (u 1 5) 415 s = w 415 s := by rw [up2_n _ _ (by omega), up2_n _ _ (by omega), up2_n _ _ (by omega)]
        rw [← g, up2_id]
        exact h3
    · have q' := i_nle q
      have e : (if (0 : Int32) < u (100 + s) 5 - d then u (100 + s) 5 - d else 0) = u (100 + s) 5 - d := if_pos (Int32.lt_iff_toInt_lt.mpr q')
      rw [e, if_neg q, if_neg q]
      exact h.put_ship _ hs (by omega) rfl rfl
  simp only [f_X7_sail, arriveShip, bnd, e0, e2, e5, e7, e12, et, f0, f2, f12, up2_s]
  by_cases q1 : u (100 + s) 7 = 0
  · rw [if_pos q1, if_pos q1]
    by_cases q2 : u (100 + s) 0 = 1
    · rw [if_pos q2, if_pos q2]
      exact core (2 * wi)
    · rw [if_neg q2, if_neg q2]
      exact core wi
  · rw [if_neg q1, if_neg q1]; exact h
theorem sail_fr {u : tV} {k : Nat} {wi t : Int32} {a j : Nat} (h : a ≠ k ∨ j ≤ 4) : f_X7_sail u k wi t a j = u a j := by
  simp only [f_X7_sail, bnd]
  repeat' split
  all_goals (repeat rw [up2_n _ _ (by omega)])
  all_goals rfl
theorem sail_step {wi : Int32} : ∀ (n : Nat) (y : Int32) (u w : tV), RelW u w → (u 1 3).toInt ≤ 20 → 0 ≤ y.toInt → RelW (g_X6_sail_1_2 wi n y u) (g_X11_arrive_400_2 wi n y w) := by
  have z1 : (1 : Int32).toInt = 1 := rfl
  intro n
  induction n with
  | zero => intro y u w h _ _; exact h
  | succ n ih =>
    intro y u w h hc h0
    show RelW (b_X6_sail_1_2 wi (g_X6_sail_1_2 wi n) y u) (b_X11_arrive_400_2 wi (g_X11_arrive_400_2 wi n) y w)
    rw [arrive_body]
    simp only [b_X6_sail_1_2, bnd, ← h.n]
    by_cases q : u 1 3 ≤ y
    · rw [if_pos q, if_pos q]; exact h
    · have q' := i_nle q
      have hs := clampI h0
      have k1 : (y + 1).toInt = y.toInt + 1 := by rw [i_add (by rw [z1]; omega) (by rw [z1]; omega), z1]
      rw [if_neg q, if_neg q]
      exact ih _ _ _ (sail_ship h (by omega) wi) (by rw [sail_fr (by omega)]; exact hc) (by omega)
theorem sail_rel {u w : tV} (h : RelW u w) (hc : (u 1 3).toInt ≤ 20) (wi : Int32) : RelW (f_X6_sail_1 u wi) (f_X11_arrive_400 w wi) := by
  rw [f_X6_sail_1, f_X11_arrive_400]
  exact sail_step 100000 0 u w h hc (by decide)
theorem sails_fr {wi : Int32} {a j : Nat} (h : a < 100 ∨ 120 ≤ a ∨ j ≤ 4) : ∀ (n : Nat) (y : Int32) (u : tV), (u 1 3).toInt ≤ 20 → 0 ≤ y.toInt → g_X6_sail_1_2 wi n y u a j = u a j := by
  have z1 : (1 : Int32).toInt = 1 := rfl
  intro n
  induction n with
  | zero => intro y u _ _; rfl
  | succ n ih =>
    intro y u hc h0
    show b_X6_sail_1_2 wi (g_X6_sail_1_2 wi n) y u a j = u a j
    simp only [b_X6_sail_1_2, bnd]
    by_cases q : u 1 3 ≤ y
    · rw [if_pos q]
    · have q' := i_nle q
      have hs := clampI h0
      have k1 : (y + 1).toInt = y.toInt + 1 := by rw [i_add (by rw [z1]; omega) (by rw [z1]; omega), z1]
      rw [if_neg q, ih _ _ (by rw [sail_fr (by omega)]; exact hc) (by omega), sail_fr (by omega)]
def burnWard (j s : Nat) (w : tV) : tV :=
  if w 425 j ≤ w 421 s then up2 (up2 w 421 s (w 421 s - w 425 j)) 423 s (w 423 s + w 425 j)
  else up2 (up2 (up2 w 422 s (w 422 s + 1)) 421 s (w 421 s - w 421 s)) 423 s (w 423 s + w 421 s)
theorem burn_body (wi co fr od nt : Int32) (rc : Int32 → tV → tV) (y : Int32) (w : tV) : b_X11_go_400_35 wi co fr od nt rc y w = if 6 ≤ y then up2 w 400 25 (w 400 25 + 1) else rc (y + 1) (burnWard ((5 : Int32) * y + co).toNatClampNeg y.toNatClampNeg w) := by
  simp only [b_X11_go_400_35, bnd, burnWard]
  by_cases q1 : 6 ≤ y
  · rw [if_pos q1, if_pos q1]
  · rw [if_neg q1, if_neg q1]
    have f1 : ∀ x, up2 w 422 y.toNatClampNeg x 421 y.toNatClampNeg = w 421 y.toNatClampNeg := fun x => by rw [up2_n _ _ (by omega)]
    have f3 : ∀ x z, up2 (up2 w 422 y.toNatClampNeg x) 421 y.toNatClampNeg z 423 y.toNatClampNeg = w 423 y.toNatClampNeg := fun x z => by rw [up2_n _ _ (by omega), up2_n _ _ (by omega)]
    simp only [f1, f3, Int32.add_zero, up2_id]
    by_cases q2 : w 425 ((5 : Int32) * y + co).toNatClampNeg ≤ w 421 y.toNatClampNeg
    · rw [if_pos q2, if_pos q2, if_pos q2, up2_n _ _ (by omega)]
    · rw [if_neg q2, if_neg q2, if_neg q2]
theorem heat_ward {u w : tV} (h : RelW u w) {s : Nat} (hs : s < 6) {co : Int32} (hco : 0 ≤ co.toInt ∧ co.toInt ≤ 4) : RelW (f_X9_heat u (300 + s) co) (burnWard (5 * s + co.toNatClampNeg) s w) := by
  have hc := clampI hco.1
  have e1 : w 421 s = u (300 + s) 1 := (h.ward s 1 hs (by omega) (by omega)).symm
  have e2 : w 422 s = u (300 + s) 2 := (h.ward s 2 hs (by omega) (by omega)).symm
  have e3 : w 423 s = u (300 + s) 3 := (h.ward s 3 hs (by omega) (by omega)).symm
  have eb : w 425 (5 * s + co.toNatClampNeg) = u (300 + s + 20) co.toNatClampNeg := by
    rw [show 300 + s + 20 = 320 + s from by omega]; exact (h.burn s _ hs (by omega)).symm
  have f1 : ∀ x, up2 u (300 + s) 2 x (300 + s) 1 = u (300 + s) 1 := fun x => by rw [up2_n _ _ (by omega)]
  have f2 : ∀ x, up2 u (300 + s) 1 x (300 + s) 3 = u (300 + s) 3 := fun x => by rw [up2_n _ _ (by omega)]
  have f3 : ∀ x y, up2 (up2 u (300 + s) 2 x) (300 + s) 1 y (300 + s) 3 = u (300 + s) 3 := fun x y => by rw [up2_n _ _ (by omega), up2_n _ _ (by omega)]
  simp only [f_X9_heat, burnWard, bnd, e1, e2, e3, eb, f1, f2, f3]
  by_cases q : u (300 + s + 20) co.toNatClampNeg ≤ u (300 + s) 1
  · have q' := i_le q
    have e : (if u (300 + s + 20) co.toNatClampNeg < u (300 + s) 1 then u (300 + s + 20) co.toNatClampNeg else u (300 + s) 1) = u (300 + s + 20) co.toNatClampNeg := by
      by_cases z : u (300 + s + 20) co.toNatClampNeg < u (300 + s) 1
      · rw [if_pos z]
      · have := i_nlt z
        rw [if_neg z]; exact i32_ext (by omega)
    rw [if_pos q, if_pos q, e]
    exact (h.put_ward _ hs (by omega) (by omega) rfl rfl).put_ward _ hs (by omega) (by omega) rfl rfl
  · have q' := i_nle q
    have e : (if u (300 + s + 20) co.toNatClampNeg < u (300 + s) 1 then u (300 + s + 20) co.toNatClampNeg else u (300 + s) 1) = u (300 + s) 1 := if_neg (fun z => by have := i_lt z; omega)
    rw [if_neg q, if_neg q, e]
    exact ((h.put_ward _ hs (by omega) (by omega) rfl rfl).put_ward _ hs (by omega) (by omega) rfl rfl).put_ward _ hs (by omega) (by omega) rfl rfl
theorem heat_step {wi co fr od nt : Int32} (hco : 0 ≤ co.toInt ∧ co.toInt ≤ 4) : ∀ (n : Nat) (y : Int32) (u w : tV), RelW u w → 0 ≤ y.toInt → RelW (g_X6_endDay_1_2 co n y u) (g_X11_go_400_35 wi co fr od nt n y w) := by
  have z1 : (1 : Int32).toInt = 1 := rfl
  have z5 : (5 : Int32).toInt = 5 := rfl
  have z6 : (6 : Int32).toInt = 6 := rfl
  intro n
  induction n with
  | zero => intro y u w h _; exact h
  | succ n ih =>
    intro y u w h h0
    show RelW (b_X6_endDay_1_2 co (g_X6_endDay_1_2 co n) y u) (b_X11_go_400_35 wi co fr od nt (g_X11_go_400_35 wi co fr od nt n) y w)
    rw [burn_body]
    simp only [b_X6_endDay_1_2, bnd]
    by_cases q : (6 : Int32) ≤ y
    · rw [if_pos q, if_pos q, ← h.to]
      exact h.put_to _
    · have q' := i_nle q
      rw [z6] at q'
      have hs := clampI h0
      have k1 : (y + 1).toInt = y.toInt + 1 := by rw [i_add (by rw [z1]; omega) (by rw [z1]; omega), z1]
      have e3 := idx5 (wd := y) (co := co) ⟨h0, by omega⟩ hco
      have hc := clampI hco.1
      rw [if_neg q, if_neg q, show ((5 : Int32) * y + co).toNatClampNeg = 5 * y.toNatClampNeg + co.toNatClampNeg from by omega]
      exact ih _ _ _ (heat_ward h (by omega) hco) (by omega)
