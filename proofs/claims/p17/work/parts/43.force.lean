/-! WHICH ORDER IS IN FORCE, AND HOW MANY -/
theorem force_step {u w : tV} (hn : w 400 34 = u 50 2) (h8 : 0 ≤ (u 50 2).toInt ∧ (u 50 2).toInt ≤ 8) (hO : RelO u w) (dy : Int32) : ∀ (n : Nat) (y2 y3 : Int32), -1 ≤ y2.toInt → y2.toInt < y3.toInt → 0 ≤ y3.toInt → y3.toInt ≤ 8 → (y2.toInt < (u 50 2).toInt) →
    g_X4_inForce_50_4 u dy n y2 y3 = g_X11_forceOn_400_4 w dy n y2 y3 := by
  have z1 : (1 : Int32).toInt = 1 := rfl
  have zm : (-1 : Int32).toInt = -1 := rfl
  have z0 : (0 : Int32).toInt = 0 := rfl
  have c8 := clampI h8.1
  intro n
  induction n with
  | zero => intros; rfl
  | succ n ih =>
    intro y2 y3 a1 a2 a3 a4 a5
    show b_X4_inForce_50_4 u dy (g_X4_inForce_50_4 u dy n) y2 y3 = b_X11_forceOn_400_4 w dy (g_X11_forceOn_400_4 w dy n) y2 y3
    simp only [b_X4_inForce_50_4, b_X11_forceOn_400_4, bnd]
    rw [hn]
    by_cases q1 : u 50 2 ≤ y3
    · rw [if_pos q1, if_pos q1]
    · have q1' := i_nle q1
      rw [if_neg q1, if_neg q1]
      have k1 : (y3 + 1).toInt = y3.toInt + 1 := by rw [i_add (by rw [z1]; omega) (by rw [z1]; omega), z1]
      have c3 := clampI a3
      have r3 : u (60 + y3.toNatClampNeg) 6 = w 436 y3.toNatClampNeg := (hO.1 y3.toNatClampNeg (by omega)).1
      have iA := ih y2 (y3 + 1) a1 (by omega) (by omega) (by omega) a5
      have iB := ih y3 (y3 + 1) (by omega) (by omega) (by omega) (by omega) (by omega)
      rw [r3, iA, iB]
      by_cases q2 : y2 = -1
      · rw [if_pos q2, if_pos (c := y2 < 0) (by rw [q2]; decide)]
      · have q2' : y2.toInt ≠ (-1 : Int32).toInt := i_ne q2
        rw [zm] at q2'
        have c2 := clampI (x := y2) (by omega)
        have r2 : u (60 + y2.toNatClampNeg) 6 = w 436 y2.toNatClampNeg := (hO.1 y2.toNatClampNeg (by omega)).1
        rw [if_neg q2, if_neg (c := y2 < 0) (fun z => by have := i_lt z; rw [z0] at this; omega), r2]
        by_cases q3 : dy < w 436 y3.toNatClampNeg
        · rw [if_pos q3, if_pos q3]
          split <;> rfl
        · rw [if_neg q3, if_neg q3]
theorem force_eq {u w : tV} (h : RelX u w) (hI : Inv u) (dy : Int32) : f_X4_inForce_50 u dy = f_X11_forceOn_400 w dy := by
  have hn : w 400 34 = u 50 2 := h.1.no.symm
  have h8 := hI 50 2 0 8 rfl
  exact force_step hn h8 h.2.2 dy 100000 (-1) 0 (by decide) (by decide) (by decide) (by decide) (by have : (-1 : Int32).toInt = -1 := rfl; have := h8.1; omega)
theorem force_rng {w : tV} (dy : Int32) (h8 : (w 400 34).toInt ≤ 8) : ∀ (n : Nat) (y2 y3 : Int32), -1 ≤ y2.toInt → y2.toInt ≤ 7 → 0 ≤ y3.toInt → y3.toInt ≤ 8 → (8 - y3.toInt).toNat < n → y2.toInt < (w 400 34).toInt → -1 ≤ (g_X11_forceOn_400_4 w dy n y2 y3).toInt ∧ (g_X11_forceOn_400_4 w dy n y2 y3).toInt < max 0 (w 400 34).toInt := by
  have z1 : (1 : Int32).toInt = 1 := rfl
  intro n
  induction n with
  | zero => intros; omega
  | succ n ih =>
    intro y2 y3 a1 a2 a3 a4 a5 a6
    show -1 ≤ (b_X11_forceOn_400_4 w dy (g_X11_forceOn_400_4 w dy n) y2 y3).toInt ∧ (b_X11_forceOn_400_4 w dy (g_X11_forceOn_400_4 w dy n) y2 y3).toInt < max 0 (w 400 34).toInt
    simp only [b_X11_forceOn_400_4, bnd]
    by_cases q1 : w 400 34 ≤ y3
    · rw [if_pos q1]; omega
    · have q1' := i_nle q1
      rw [if_neg q1]
      have k1 : (y3 + 1).toInt = y3.toInt + 1 := by rw [i_add (by rw [z1]; omega) (by rw [z1]; omega), z1]
      have iA := ih y2 (y3 + 1) a1 a2 (by omega) (by omega) (by omega) a6
      have iB := ih y3 (y3 + 1) (by omega) (by omega) (by omega) (by omega) (by omega) (by omega)
      repeat' split
      all_goals first | exact iA | exact iB
/-- a day below 0 has none -/
theorem force_neg {w : tV} (dy : Int32) (hd : dy.toInt < 0) (h8 : (w 400 34).toInt ≤ 8) (hd2 : ∀ o, o < (w 400 34).toNatClampNeg → 0 ≤ (w 436 o).toInt) : ∀ (n : Nat) (y3 : Int32), 0 ≤ y3.toInt → y3.toInt ≤ 8 → (8 - y3.toInt).toNat < n → g_X11_forceOn_400_4 w dy n (-1) y3 = -1 := by
  have z1 : (1 : Int32).toInt = 1 := rfl
  intro n
  induction n with
  | zero => intros; omega
  | succ n ih =>
    intro y3 a3 a4 a5
    show b_X11_forceOn_400_4 w dy (g_X11_forceOn_400_4 w dy n) (-1) y3 = -1
    simp only [b_X11_forceOn_400_4, bnd]
    by_cases q1 : w 400 34 ≤ y3
    · rw [if_pos q1]
    · have q1' := i_nle q1
      rw [if_neg q1]
      have k1 : (y3 + 1).toInt = y3.toInt + 1 := by rw [i_add (by rw [z1]; omega) (by rw [z1]; omega), z1]
      have c3 := clampI a3
      have c8 := clampI (x := w 400 34) (by omega)
      have := hd2 y3.toNatClampNeg (by omega)
      rw [if_pos (Int32.lt_iff_toInt_lt.mpr (by omega))]
      exact ih (y3 + 1) (by omega) (by omega) (by omega)
theorem eq_force {u w : tV} (h : RelX u w) (hI : Inv u) (dy : Int32) : f_X10_force_0 u dy = f_X11_force_400 w dy := by
  have hn : w 400 34 = u 50 2 := h.1.no.symm
  obtain ⟨h8a, h8b⟩ := hI 50 2 0 8 rfl
  have z0 : (0 : Int32).toInt = 0 := rfl
  show f_X4_inForce_50 u dy = f_X11_force_400 w dy
  rw [f_X11_force_400, bnd_eq]
  rw [force_eq h hI dy]
  by_cases q : (0 : Int32) ≤ dy
  · rw [if_pos q]
  · have q' := i_nle q
    rw [z0] at q'
    rw [if_neg q]
    exact force_neg dy q' (by rw [hn]; exact h8b) (fun o ho => by rw [hn] at ho; have := h.2.2.1 o ho; rw [← this.1]; exact this.2.1) 100000 0 (by decide) (by decide) (by decide)
/-- how many, by an order's row -/
theorem many_step {u w : tV} {o : Nat} {od : Int32} (hod : od.toInt = (o : Int)) (ho : o < 8) (hR : ROW o u w) (pr : Int32) : ∀ (n : Nat) (y3 : Int32), 0 ≤ y3.toInt → y3.toInt ≤ 3 →
    g_X3_sellers_2 u (60 + o) pr n y3 = g_X11_manyBy_400_9 w od pr n y3 := by
  have z1 : (1 : Int32).toInt = 1 := rfl
  have z3 : (3 : Int32).toInt = 3 := rfl
  have hodn : od.toNatClampNeg = o := by show od.toInt.toNat = o; rw [hod]; omega
  obtain ⟨a1, a2, a3, a4, a5, a6, a7, a8, a9⟩ := hR
  have c6 := clampI a6
  intro n
  induction n with
  | zero => intros; rfl
  | succ n ih =>
    intro y3 b1 b2
    show b_X3_sellers_2 u (60 + o) pr (g_X3_sellers_2 u (60 + o) pr n) y3 = b_X11_manyBy_400_9 w od pr (g_X11_manyBy_400_9 w od pr n) y3
    simp only [b_X3_sellers_2, b_X11_manyBy_400_9, bnd]
    rw [hodn, ← a5, ← a9]
    by_cases q1 : u (60 + o) 3 ≤ y3
    · rw [if_pos q1, if_pos q1]
    · have q1' := i_nle q1
      rw [if_neg q1, if_neg q1]
      have k1 : (y3 + 1).toInt = y3.toInt + 1 := by rw [i_add (by rw [z1]; omega) (by rw [z1]; omega), z1]
      have c3 := clampI b1
      have m1 : ((3 : Int32) * od).toInt = 3 * od.toInt := by rw [i_mul (by rw [z3]; omega) (by rw [z3]; omega), z3]
      have m2 : ((3 : Int32) * od + y3).toInt = 3 * od.toInt + y3.toInt := by rw [i_add (by rw [m1]; omega) (by rw [m1]; omega), m1]
      have m3 := clampI (x := (3 : Int32) * od + y3) (by omega)
      have m4 : ((3 : Int32) * od + y3).toNatClampNeg = 3 * o + y3.toNatClampNeg := by omega
      obtain ⟨e1, e2, e3⟩ := a8 y3.toNatClampNeg (by omega)
      rw [m4, show 60 + o + 10 = 70 + o from by omega, show 60 + o + 20 = 80 + o from by omega, show 60 + o + 30 = 90 + o from by omega, e1, e2, e3, ih (y3 + 1) (by omega) (by omega)]
theorem many_eq {u w : tV} {o : Nat} {od : Int32} (hod : od.toInt = (o : Int)) (ho : o < 8) (hR : ROW o u w) (pr : Int32) : f_X3_sellers u (60 + o) pr = f_X11_manyBy_400 w od pr := by
  unfold f_X11_manyBy_400
  rw [if_pos (Int32.le_iff_toInt_le.mpr (by have : (0 : Int32).toInt = 0 := rfl; omega))]
  exact many_step hod ho hR pr 100000 0 (by decide) (by decide)
theorem eq_many {u w : tV} (h : RelX u w) (hI : Inv u) (od pr : Int32) : f_X10_many_0 u od pr = f_X11_many_400 w od pr := by
  have hn : w 400 34 = u 50 2 := h.1.no.symm
  obtain ⟨h8a, h8b⟩ := hI 50 2 0 8 rfl
  have z1 : (1 : Int32).toInt = 1 := rfl
  have k1 : (u 50 2 - 1).toInt = (u 50 2).toInt - 1 := by rw [i_sub (by rw [z1]; omega) (by rw [z1]; omega), z1]
  simp only [f_X10_many_0, f_X11_many_400, bnd, hn, k1, z_0]
  by_cases c1 : 0 ≤ od.toInt ∧ od.toInt ≤ (u 50 2).toInt - 1
  · rw [if_pos c1, if_pos c1]
    have c3 := clampI c1.1
    have c8 := clampI h8a
    rw [many_eq (o := od.toNatClampNeg) (od := od) (by omega) (by omega) (h.2.2.1 _ (by omega))]
  · rw [if_neg c1, if_neg c1]
