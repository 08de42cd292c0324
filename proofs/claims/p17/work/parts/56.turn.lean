/-! WHICH RULE, AND THE CALL turn -/
theorem rule_ot {u w : tV} (hn : w 400 34 = u 50 2) (h8 : 0 ≤ (u 50 2).toInt ∧ (u 50 2).toInt ≤ 8) (hO : RelO u w) (dy : Int32) : OT u w (f_X4_ruleOn_50 u dy) (f_X11_forceOn_400 w dy) := by
  obtain ⟨h8a, h8b⟩ := id h8
  have zm : (-1 : Int32).toInt = -1 := rfl
  have hf : f_X4_inForce_50 u dy = f_X11_forceOn_400 w dy := force_step hn h8 hO dy 100000 (-1) 0 (by decide) (by decide) (by decide) (by decide) (by rw [zm]; omega)
  have hr : f_X11_forceOn_400 w dy = -1 ∨ (0 ≤ (f_X11_forceOn_400 w dy).toInt ∧ (f_X11_forceOn_400 w dy).toInt < (u 50 2).toInt) := by
    by_cases hz : (-1 : Int) < (w 400 34).toInt
    · have hr2 := force_rng (w := w) dy (by rw [hn]; exact h8b) 100000 (-1) 0 (by decide) (by decide) (by decide) (by decide) (by decide) (by rw [zm]; exact hz)
      have e2 : g_X11_forceOn_400_4 w dy 100000 (-1) 0 = f_X11_forceOn_400 w dy := by rw [f_X11_forceOn_400]
      rw [e2, hn] at hr2
      by_cases q : f_X11_forceOn_400 w dy = -1
      · exact Or.inl q
      · have q' : (f_X11_forceOn_400 w dy).toInt ≠ (-1 : Int32).toInt := i_ne q
        rw [zm] at q'
        right; omega
    · rw [hn] at hz; omega
  have e : f_X4_ruleOn_50 u dy = if f_X11_forceOn_400 w dy = -1 then 68 else 60 + (f_X11_forceOn_400 w dy).toNatClampNeg := by
    rw [f_X4_ruleOn_50, bnd_eq, hf]
  rw [e]
  by_cases q : f_X11_forceOn_400 w dy = -1
  · rw [if_pos q, q]
    exact Or.inl ⟨by decide, rfl, hO.2.1, hO.2.2.1, hO.2.2.2⟩
  · rw [if_neg q]
    rcases hr with hr | hr
    · exact absurd hr q
    · have c := clampI hr.1
      have c8 := clampI h8a
      exact Or.inr ⟨(f_X11_forceOn_400 w dy).toNatClampNeg, by omega, by omega, rfl, hO.1 _ (by omega)⟩
theorem sim_turn {u w : tV} (h : RelX u w) (hI : Inv u) (hS : WS 5000 u) (hG : ∀ t, t < 20 → u (100 + t) 0 = 2 → u (100 + t) 7 ≠ 2) (ti : Int32) : (f_X10_turn_0 u ti).1 = (f_X11_turn_400 w ti).1 := by
  obtain ⟨hc0, hc1⟩ := hI 1 3 0 20 rfl
  have kc := clampI hc0
  have z1 : (1 : Int32).toInt = 1 := rfl
  have hc : u 1 3 = Int32.ofNat (u 1 3).toNatClampNeg := i32_ext (by rw [ofNat_int (by omega)]; omega)
  have hO := rule_ot h.1.no.symm (hI 50 2 0 8 rfl) h.2.2 (u 1 5)
  obtain ⟨sz, a, b, c, d, e, f, g⟩ := line_rel_20 h.1 (fun o p ho => hI _ _ 0 99 (RG_order4 (by omega) (by omega))) (fun o p ho => hI _ _ 0 99 (RG_osell (by omega) (by omega))) hS hO hG hc (by omega)
  have hkab := cKab (fun i => u (100 + i) 0) (u 1 3).toNatClampNeg
  rw [f_X10_turn_0, f_X11_turn_400, ← h.1.to]
  simp only [bnd_eq]
  generalize f_X5_line_20_1 u (f_X4_ruleOn_50 u (u 1 5)) = U at c f g
  generalize f_X11_findTurns_400 w (f_X11_forceOn_400 w (u 1 5)) = V at d f
  rw [c, d]
  have es := ofNat_int (n := sz) (by omega)
  have k1 : (Int32.ofNat sz - 1).toInt = (sz : Int) - 1 := by rw [i_sub (by rw [z1, es]; omega) (by rw [z1, es]; omega), z1, es]
  by_cases q : (0 : Int32).toInt ≤ ti.toInt ∧ ti.toInt ≤ (Int32.ofNat sz - 1).toInt
  · rw [if_pos q, if_pos q]
    have z0 : (0 : Int32).toInt = 0 := rfl
    rw [z0, k1] at q
    have ct := clampI q.1
    obtain ⟨t, -, -, t3, t4⟩ := f ti.toNatClampNeg (by omega)
    show U 22 ti.toNatClampNeg = V 446 ti.toNatClampNeg
    rw [t4]; exact t3
  · rw [if_neg q, if_neg q]
