/-! CALLS THAT CHANGE ONE SHIP, ONE BUYER, ONE WARD -/
theorem sim_wreck {u w : tV} (h : RelW u w) (hI : Inv u) (hst : ∀ s, s < 20 → 0 ≤ (u (100 + s) 7).toInt) (si sv : Int32) : RelW (f_X10_wreck_0 u si sv).2 (f_X11_wreck_400 w si sv).2 ∧ (f_X10_wreck_0 u si sv).1 = (f_X11_wreck_400 w si sv).1 := by
  have hn := h.n.symm
  obtain ⟨-, h21⟩ := hI 1 3 0 20 rfl
  have z2 : (2 : Int32).toInt = 2 := rfl
  simp only [f_X10_wreck_0, f_X11_wreck_400, f_X7_founder, f_X7_duesFor, f_X11_rate_400, bnd, bnd2, hn, z_0, z_2]
  by_cases c1 : 0 ≤ si.toInt ∧ si.toInt ≤ (u 1 3).toInt - 1
  · have hs := clampI c1.1
    rw [if_pos c1, if_pos c1]
    have e0 := h.ship si.toNatClampNeg 0 (by omega) (by omega)
    have e6 := h.ship si.toNatClampNeg 6 (by omega) (by omega)
    have e7 := h.ship si.toNatClampNeg 7 (by omega) (by omega)
    have e12 := h.ship si.toNatClampNeg 12 (by omega) (by omega)
    have e0 : w 403 si.toNatClampNeg = u (100 + si.toNatClampNeg) 0 := e0.symm
    have e6 : w 409 si.toNatClampNeg = u (100 + si.toNatClampNeg) 6 := e6.symm
    have e7 : w 410 si.toNatClampNeg = u (100 + si.toNatClampNeg) 7 := e7.symm
    have e12 : w 415 si.toNatClampNeg = u (100 + si.toNatClampNeg) 12 := e12.symm
    rw [e6, e7]
    by_cases c2 : 0 ≤ sv.toInt ∧ sv.toInt ≤ (u (100 + si.toNatClampNeg) 6).toInt
    · rw [if_pos c2, if_pos c2]
      have hst' := hst si.toNatClampNeg (by omega)
      by_cases c3 : (u (100 + si.toNatClampNeg) 7).toInt ≤ 2
      · rw [if_pos ⟨hst', c3⟩, if_pos (Int32.le_iff_toInt_le.mpr (by rw [z2]; exact c3))]
        have r1 : up2 w 410 si.toNatClampNeg 5 409 si.toNatClampNeg = u (100 + si.toNatClampNeg) 6 := by rw [up2_n _ _ (by omega)]; exact e6
        rw [r1]
        have r2 : ∀ x, up2 (up2 w 410 si.toNatClampNeg 5) 409 si.toNatClampNeg x 415 si.toNatClampNeg = u (100 + si.toNatClampNeg) 12 := fun x => by rw [up2_n _ _ (by omega), up2_n _ _ (by omega)]; exact e12
        have r3 : ∀ x, up2 (up2 w 410 si.toNatClampNeg 5) 409 si.toNatClampNeg x 403 si.toNatClampNeg = u (100 + si.toNatClampNeg) 0 := fun x => by rw [up2_n _ _ (by omega), up2_n _ _ (by omega)]; exact e0
        have r4 : ∀ x y, up2 (up2 (up2 w 410 si.toNatClampNeg 5) 409 si.toNatClampNeg x) 415 si.toNatClampNeg y 403 si.toNatClampNeg = u (100 + si.toNatClampNeg) 0 := fun x y => by rw [up2_n _ _ (by omega), up2_n _ _ (by omega), up2_n _ _ (by omega)]; exact e0
        have r5 : ∀ x, up2 u (100 + si.toNatClampNeg) 6 x (100 + si.toNatClampNeg) 12 = u (100 + si.toNatClampNeg) 12 := fun x => by rw [up2_n _ _ (by omega)]
        have r6 : (if u (100 + si.toNatClampNeg) 0 = 2 then (1 : Int32) else 2) * sv = if u (100 + si.toNatClampNeg) 0 = 2 then sv else 2 * sv := by
          by_cases q : u (100 + si.toNatClampNeg) 0 = 2
          · rw [if_pos q, if_pos q, Int32.one_mul]
          · rw [if_neg q, if_neg q]
        simp only [r2, r3, r4, r5, r6]
        refine ⟨?_, trivial⟩
        rw [up2_comm w 5 _ (by omega), up2_comm _ 5 _ (by omega)]
        exact ((h.put_ship _ (by omega) (by omega) rfl rfl).put_ship _ (by omega) (by omega) rfl rfl).put_ship _ (by omega) (by omega) rfl rfl
      · rw [if_neg (fun z => c3 z.2), if_neg (fun z => by have := i_le z; rw [z2] at this; exact c3 this)]; exact ⟨h, rfl⟩
    · rw [if_neg c2, if_neg c2]; exact ⟨h, rfl⟩
  · rw [if_neg c1, if_neg c1]; exact ⟨h, rfl⟩
theorem sim_goOn {u w : tV} (h : RelW u w) (hI : Inv u) (si : Int32) : RelW (f_X10_goOn_0 u si).2 (f_X11_goOn_400 w si).2 ∧ (f_X10_goOn_0 u si).1 = (f_X11_goOn_400 w si).1 := by
  have hn := h.n.symm
  obtain ⟨-, h21⟩ := hI 1 3 0 20 rfl
  simp only [f_X10_goOn_0, f_X11_goOn_400, f_X7_leave, bnd, bnd2, hn]
  by_cases c1 : 0 ≤ si.toInt ∧ si.toInt ≤ (u 1 3).toInt - 1
  · have hs := clampI c1.1
    rw [if_pos c1, if_pos c1]
    have e0 : w 403 si.toNatClampNeg = u (100 + si.toNatClampNeg) 0 := (h.ship si.toNatClampNeg 0 (by omega) (by omega)).symm
    have e2 : w 405 si.toNatClampNeg = u (100 + si.toNatClampNeg) 2 := (h.ship si.toNatClampNeg 2 (by omega) (by omega)).symm
    have e7 : w 410 si.toNatClampNeg = u (100 + si.toNatClampNeg) 7 := (h.ship si.toNatClampNeg 7 (by omega) (by omega)).symm
    have e12 : w 415 si.toNatClampNeg = u (100 + si.toNatClampNeg) 12 := (h.ship si.toNatClampNeg 12 (by omega) (by omega)).symm
    rw [e0, e7]
    by_cases c2 : u (100 + si.toNatClampNeg) 0 = 3
    · rw [if_pos c2, if_pos c2]
      by_cases c3 : u (100 + si.toNatClampNeg) 7 = 1
      · rw [if_pos c3, if_pos c3]
        have r1 : up2 w 410 si.toNatClampNeg 4 415 si.toNatClampNeg = u (100 + si.toNatClampNeg) 12 := by rw [up2_n _ _ (by omega)]; exact e12
        have r2 : up2 w 410 si.toNatClampNeg 4 405 si.toNatClampNeg = u (100 + si.toNatClampNeg) 2 := by rw [up2_n _ _ (by omega)]; exact e2
        have r3 : ∀ x, up2 (up2 w 410 si.toNatClampNeg 4) 415 si.toNatClampNeg x 405 si.toNatClampNeg = u (100 + si.toNatClampNeg) 2 := fun x => by rw [up2_n _ _ (by omega), up2_n _ _ (by omega)]; exact e2
        simp only [r1, r2, r3]
        refine ⟨?_, trivial⟩
        rw [up2_comm w 4 _ (by omega)]
        exact (h.put_ship _ (by omega) (by omega) rfl rfl).put_ship _ (by omega) (by omega) rfl rfl
      · rw [if_neg c3, if_neg c3]; exact ⟨h, rfl⟩
    · rw [if_neg c2, if_neg c2]; exact ⟨h, rfl⟩
  · rw [if_neg c1, if_neg c1]; exact ⟨h, rfl⟩
theorem sim_want {u w : tV} (h : RelW u w) (hI : Inv u) (bi wt bd : Int32) : RelW (f_X10_want_0 u bi wt bd).2 (f_X11_want_400 w bi wt bd).2 ∧ (f_X10_want_0 u bi wt bd).1 = (f_X11_want_400 w bi wt bd).1 := by
  have hn := h.nb.symm
  obtain ⟨h20, h21⟩ := hI 1 4 0 10 rfl
  have z1 : (1 : Int32).toInt = 1 := rfl
  have k1 : (u 1 4 - 1).toInt = (u 1 4).toInt - 1 := by rw [i_sub (by rw [z1]; omega) (by rw [z1]; omega), z1]
  simp only [f_X10_want_0, f_X11_want_400, bnd, hn, k1, z_0, z_1, z_120, z_2000]
  by_cases c1 : 0 ≤ bi.toInt ∧ bi.toInt ≤ (u 1 4).toInt - 1
  · have hs := clampI c1.1
    rw [if_pos c1, if_pos c1]
    by_cases c2 : 0 ≤ wt.toInt ∧ wt.toInt ≤ 2000
    · rw [if_pos c2, if_pos c2]
      by_cases c3 : 1 ≤ bd.toInt ∧ bd.toInt ≤ 120
      · rw [if_pos c3, if_pos c3]
        exact ⟨(h.put_buyer _ (by omega) (by omega) rfl rfl).put_buyer _ (by omega) (by omega) rfl rfl, h.buyer _ 2 (by omega) (by omega)⟩
      · rw [if_neg c3, if_neg c3]; exact ⟨h, rfl⟩
    · rw [if_neg c2, if_neg c2]; exact ⟨h, rfl⟩
  · rw [if_neg c1, if_neg c1]; exact ⟨h, rfl⟩
theorem sim_store {u w : tV} (h : RelW u w) (wd mo : Int32) : RelW (f_X10_store_0 u wd mo).2 (f_X11_store_400 w wd mo).2 ∧ (f_X10_store_0 u wd mo).1 = (f_X11_store_400 w wd mo).1 := by
  simp only [f_X10_store_0, f_X11_store_400, bnd, z_0, z_9999]
  by_cases c1 : 0 ≤ wd.toInt ∧ wd.toInt ≤ 5
  · have hs := clampI c1.1
    rw [if_pos c1, if_pos c1]
    by_cases c2 : 0 ≤ mo.toInt ∧ mo.toInt ≤ 9999
    · rw [if_pos c2, if_pos c2]
      have e1 : w 421 wd.toNatClampNeg = u (300 + wd.toNatClampNeg) 1 := (h.ward _ 1 (by omega) (by omega) (by omega)).symm
      rw [e1, up2_s, up2_s]
      exact ⟨h.put_ward _ (by omega) (by omega) (by omega) rfl rfl, rfl⟩
    · rw [if_neg c2, if_neg c2]; exact ⟨h, rfl⟩
  · rw [if_neg c1, if_neg c1]; exact ⟨h, rfl⟩
