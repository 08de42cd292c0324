/-! WHAT ANSWERS READ -/
def RelB (u w : tV) : Prop := ∀ i, i < (u 30 4).toNatClampNeg → u 32 i = w 429 i ∧ u 34 i = w 430 i ∧ u 36 i = w 431 i ∧ u 38 i = w 432 i
theorem eq_about {u w : tV} (h : RelW u w) (hI : Inv u) (si wh : Int32) : f_X10_about_0 u si wh = f_X11_about_400 w si wh := by
  have hn := h.n.symm
  obtain ⟨-, h21⟩ := hI 1 3 0 20 rfl
  simp only [f_X10_about_0, f_X11_about_400, f_X7_fact, bnd, hn]
  by_cases c1 : 0 ≤ si.toInt ∧ si.toInt ≤ (u 1 3).toInt - 1
  · have hs := clampI c1.1
    have e : ∀ f, f ≤ 12 → u (100 + si.toNatClampNeg) f = w (403 + f) si.toNatClampNeg := fun f hf => h.ship _ f (by omega) hf
    rw [if_pos c1, if_pos c1, e 0 (by omega), e 1 (by omega), e 2 (by omega), e 3 (by omega), e 4 (by omega), e 5 (by omega), e 6 (by omega), e 7 (by omega), e 8 (by omega), e 9 (by omega), e 10 (by omega), e 11 (by omega), e 12 (by omega)]
  · rw [if_neg c1, if_neg c1]
theorem eq_ward {u w : tV} (h : RelW u w) (wd wh : Int32) : f_X10_ward_0 u wd wh = f_X11_ward_400 w wd wh := by
  simp only [f_X10_ward_0, f_X11_ward_400, f_X9_fact, bnd]
  by_cases c1 : 0 ≤ wd.toInt ∧ wd.toInt ≤ 5
  · have hs := clampI c1.1
    have e : ∀ f, 1 ≤ f → f ≤ 4 → u (300 + wd.toNatClampNeg) f = w (420 + f) wd.toNatClampNeg := fun f h1 hf => h.ward _ f (by omega) h1 hf
    rw [if_pos c1, if_pos c1, e 1 (by omega) (by omega), e 2 (by omega) (by omega), e 3 (by omega) (by omega), e 4 (by omega) (by omega)]
  · rw [if_neg c1, if_neg c1]
theorem eq_lasts {u w : tV} (h : RelW u w) (hb : ∀ s f, s < 6 → f < 5 → 0 ≤ (u (320 + s) f).toInt) (wd co : Int32) : f_X10_lasts_0 u wd co = f_X11_lasts_400 w wd co := by
  have z0 : (0 : Int32).toInt = 0 := rfl
  have zk : (1000 : Int32).toInt = 1000 := rfl
  simp only [f_X10_lasts_0, f_X11_lasts_400, bnd, z_0, z_4]
  by_cases c1 : 0 ≤ wd.toInt ∧ wd.toInt ≤ 5
  · rw [if_pos c1, if_pos c1]
    by_cases c2 : 0 ≤ co.toInt ∧ co.toInt ≤ 4
    · rw [if_pos c2, if_pos c2]
      have e1 := clampI c1.1
      have e2 := clampI c2.1
      have e3 := idx5 c1 c2
      have e4 : ((5 : Int32) * wd + co).toNatClampNeg = 5 * wd.toNatClampNeg + co.toNatClampNeg := by omega
      have e5 : w 425 ((5 : Int32) * wd + co).toNatClampNeg = u (300 + wd.toNatClampNeg + 20) co.toNatClampNeg := by
        rw [e4, show 300 + wd.toNatClampNeg + 20 = 320 + wd.toNatClampNeg from by omega]; exact (h.burn _ _ (by omega) (by omega)).symm
      have e6 : w 421 wd.toNatClampNeg = u (300 + wd.toNatClampNeg) 1 := (h.ward _ 1 (by omega) (by omega) (by omega)).symm
      have e7 : 0 ≤ (u (300 + wd.toNatClampNeg + 20) co.toNatClampNeg).toInt := by
        rw [show 300 + wd.toNatClampNeg + 20 = 320 + wd.toNatClampNeg from by omega]; exact hb _ _ (by omega) (by omega)
      rw [e5, e6]
      by_cases q : u (300 + wd.toNatClampNeg + 20) co.toNatClampNeg = 0
      · rw [if_pos q, if_neg (by rw [q]; decide)]
      · have q' : (u (300 + wd.toNatClampNeg + 20) co.toNatClampNeg).toInt ≠ (0 : Int32).toInt := i_ne q
        rw [z0] at q'
        rw [if_neg q, if_pos (Int32.lt_iff_toInt_lt.mpr (by rw [z0]; omega))]
        generalize u (300 + wd.toNatClampNeg) 1 / u (300 + wd.toNatClampNeg + 20) co.toNatClampNeg = x
        by_cases q2 : x ≤ 1000
        · have := i_le q2
          rw [if_pos q2, if_neg (fun z => by have := i_lt z; omega)]
        · have := i_nle q2
          rw [if_neg q2, if_pos (Int32.lt_iff_toInt_lt.mpr (by omega))]
    · rw [if_neg c2, if_neg c2]
  · rw [if_neg c1, if_neg c1]
theorem dues_step {u w : tV} (h : RelW u w) (hI : Inv u) (wh : Int32) : ∀ (n : Nat) (y1 y2 : Int32), 0 ≤ y2.toInt → g_X6_duesOfAll_1_4 u n y1 y2 = g_X11_count_400_80 w wh n y1 y2 := by
  have hn := h.n.symm
  obtain ⟨-, h21⟩ := hI 1 3 0 20 rfl
  have z1 : (1 : Int32).toInt = 1 := rfl
  intro n
  induction n with
  | zero => intros; rfl
  | succ n ih =>
    intro y1 y2 h0
    show b_X6_duesOfAll_1_4 u (g_X6_duesOfAll_1_4 u n) y1 y2 = b_X11_count_400_80 w wh (g_X11_count_400_80 w wh n) y1 y2
    simp only [b_X6_duesOfAll_1_4, b_X11_count_400_80, bnd, hn]
    by_cases q : u 1 3 ≤ y2
    · rw [if_pos q, if_pos q]
    · have q' := i_nle q
      have hs := clampI h0
      have k1 : (y2 + 1).toInt = y2.toInt + 1 := by rw [i_add (by rw [z1]; omega) (by rw [z1]; omega), z1]
      rw [if_neg q, if_neg q, h.ship _ 12 (by omega) (by omega), ih _ _ (by omega)]
theorem took_step {u w : tV} (h : RelW u w) (hI : Inv u) (fi : Int32) : ∀ (n : Nat) (y1 y2 : Int32), 0 ≤ y2.toInt → g_X6_takenFor_1_4 u fi n y1 y2 = g_X11_factor_400_15 w fi n y1 y2 := by
  have hn := h.n.symm
  obtain ⟨-, h21⟩ := hI 1 3 0 20 rfl
  have z1 : (1 : Int32).toInt = 1 := rfl
  intro n
  induction n with
  | zero => intros; rfl
  | succ n ih =>
    intro y1 y2 h0
    show b_X6_takenFor_1_4 u fi (g_X6_takenFor_1_4 u fi n) y1 y2 = b_X11_factor_400_15 w fi (g_X11_factor_400_15 w fi n) y1 y2
    simp only [b_X6_takenFor_1_4, b_X11_factor_400_15, bnd, hn]
    by_cases q : u 1 3 ≤ y2
    · rw [if_pos q, if_pos q]
    · have q' := i_nle q
      have hs := clampI h0
      have k1 : (y2 + 1).toInt = y2.toInt + 1 := by rw [i_add (by rw [z1]; omega) (by rw [z1]; omega), z1]
      rw [if_neg q, if_neg q, h.ship _ 4 (by omega) (by omega), h.ship _ 11 (by omega) (by omega), ih _ _ (by omega), ih _ _ (by omega), Int32.add_zero]
theorem eq_count {u w : tV} (h : RelW u w) (hI : Inv u) (wh : Int32) : f_X10_count_0 u wh = f_X11_count_400 w wh := by
  have e : f_X6_duesOfAll_1 u = g_X11_count_400_80 w wh 100000 0 0 := by rw [f_X6_duesOfAll_1]; exact dues_step h hI wh 100000 0 0 (by decide)
  rw [f_X10_count_0, f_X11_count_400, e, h.n, h.nb, h.no, h.to, h.pr, h.bg, h.nt]
theorem eq_factor {u w : tV} (h : RelW u w) (hI : Inv u) (fi : Int32) : f_X10_factor_0 u fi = f_X11_factor_400 w fi := by
  have e : f_X6_takenFor_1 u fi = g_X11_factor_400_15 w fi 100000 0 0 := by rw [f_X6_takenFor_1]; exact took_step h hI fi 100000 0 0 (by decide)
  rw [f_X10_factor_0, f_X11_factor_400, e]
theorem eq_bargain {u w : tV} (h : RelW u w) (hI : Inv u) (hB : RelB u w) (bi wh : Int32) : f_X10_bargain_0 u bi wh = f_X11_bargain_400 w bi wh := by
  obtain ⟨g0, g1⟩ := hI 30 4 0 30 rfl
  have z1 : (1 : Int32).toInt = 1 := rfl
  have k1 : (u 30 4 - 1).toInt = (u 30 4).toInt - 1 := by rw [i_sub (by rw [z1]; omega) (by rw [z1]; omega), z1]
  simp only [f_X10_bargain_0, f_X11_bargain_400, f_X1_fact_30, bnd, ← h.bg, k1, z_0]
  by_cases c1 : 0 ≤ bi.toInt ∧ bi.toInt ≤ (u 30 4).toInt - 1
  · have hs := clampI c1.1
    have hg := clampI g0
    obtain ⟨e1, e2, e3, e4⟩ := hB bi.toNatClampNeg (by omega)
    rw [if_pos c1, if_pos c1, e1, e2, e3, e4]
  · rw [if_neg c1, if_neg c1]
