/-! WHAT A WORLD AT REST KEEPS, BY CALL -/
theorem wf_ask {T : Int} {u : tV} (h : WF T u) (hI : Inv u) (si ak : Int32) : WF T (f_X10_ask_0 u si ak).2 := by
  obtain ⟨-, h21⟩ := hI 1 3 0 20 rfl
  simp only [f_X10_ask_0, bnd, z_0, z_1, z_99]
  split
  · rename_i c1
    have hs := clampI c1.1
    split
    · rename_i c2
      dsimp only
      obtain ⟨⟨a, a2, a3⟩, ⟨b, c, d⟩, e⟩ := h
      refine ⟨⟨fun s h1 => ?_, by rw [up2_n _ _ (by omega)]; exact a2, by rw [up2_n _ _ (by omega)]; exact a3⟩, ⟨fun t h1 => ?_, fun s h1 => ?_, fun s h1 => ?_⟩, fun s f h1 h2 => ?_⟩
      · rw [up2_n _ _ (a := 100 + s) (b := 6) (by omega), up2_n _ _ (a := 100 + s) (b := 8) (by omega)]
        obtain ⟨p1, p2, p3⟩ := a s h1
        by_cases q : s = si.toNatClampNeg
        · subst q; rw [up2_s]; exact ⟨by omega, by omega, p3⟩
        · rw [up2_n _ _ (by omega)]; exact ⟨p1, p2, p3⟩
      · rw [up2_n _ _ (by omega), up2_n _ _ (by omega), up2_n _ _ (by omega), up2_n _ _ (by omega)]; exact b t h1
      · rw [up2_n _ _ (by omega)]; exact c s h1
      · rw [up2_n _ _ (by omega)]; exact d s h1
      · rw [up2_n _ _ (by omega)]; exact e s f h1 h2
    · exact h
  · exact h
theorem wf_want {T : Int} {u : tV} (h : WF T u) (hI : Inv u) (bi wt bd : Int32) : WF T (f_X10_want_0 u bi wt bd).2 := by
  obtain ⟨h20, h21⟩ := hI 1 4 0 10 rfl
  have z1 : (1 : Int32).toInt = 1 := rfl
  have k1 : (u 1 4 - 1).toInt = (u 1 4).toInt - 1 := by rw [i_sub (by rw [z1]; omega) (by rw [z1]; omega), z1]
  simp only [f_X10_want_0, bnd, k1, z_0, z_1, z_120, z_2000]
  split
  · rename_i c1
    have hs := clampI c1.1
    split
    · rename_i c2
      split
      · dsimp only
        obtain ⟨⟨a, a2, a3⟩, ⟨b, c, d⟩, e⟩ := h
        have fr : ∀ p j, ¬ (200 ≤ p ∧ p < 210 ∧ (j = 2 ∨ j = 3)) → up2 (up2 u (200 + bi.toNatClampNeg) 2 wt) (200 + bi.toNatClampNeg) 3 bd p j = u p j := fun p j z => by rw [up2_n _ _ (by omega), up2_n _ _ (by omega)]
        refine ⟨⟨fun s h1 => ?_, by rw [fr _ _ (by omega)]; exact a2, by rw [fr _ _ (by omega)]; exact a3⟩, ⟨fun t h1 => ?_, fun s h1 => ?_, fun s h1 => ?_⟩, fun s f h1 h2 => ?_⟩
        · rw [fr _ _ (by omega), fr _ _ (by omega), fr _ _ (by omega)]; exact a s h1
        · rw [fr _ _ (by omega), fr _ _ (by omega), fr _ _ (by omega), fr _ _ (by omega)]; exact b t h1
        · rw [up2_n _ _ (by omega)]
          by_cases q : s = bi.toNatClampNeg
          · subst q; rw [up2_s]; exact c2
          · rw [up2_n _ _ (by omega)]; exact c s h1
        · rw [fr _ _ (by omega)]; exact d s h1
        · rw [fr _ _ (by omega)]; exact e s f h1 h2
      · exact h
    · exact h
  · exact h
theorem wf_store {T : Int} {u : tV} (h : WF T u) (wd mo : Int32) : WF T (f_X10_store_0 u wd mo).2 := by
  simp only [f_X10_store_0, bnd, z_0, z_9999]
  split
  · rename_i c1
    have hs := clampI c1.1
    split
    · exact h.of (fun s f hs => up2_n _ _ (by omega)) (fun s f hs => up2_n _ _ (by omega)) (fun s f hs => up2_n _ _ (by omega)) (up2_n _ _ (by omega)) (up2_n _ _ (by omega))
    · exact h
  · exact h
theorem wf_burn {T : Int} {u : tV} (h : WF T u) (wd co am : Int32) : WF T (f_X10_burn_0 u wd co am).2 := by
  simp only [f_X10_burn_0, bnd, z_0, z_4, z_500]
  split
  · rename_i c1
    have hs := clampI c1.1
    split
    · rename_i c2
      split
      · rename_i c3
        dsimp only
        obtain ⟨⟨a, a2, a3⟩, ⟨b, c, d⟩, e⟩ := h
        have hc2 := clampI c2.1
        have fr : ∀ p j, p < 300 → up2 u (300 + wd.toNatClampNeg + 20) co.toNatClampNeg am p j = u p j := fun p j z => up2_n _ _ (by omega)
        refine ⟨⟨fun s h1 => ?_, by rw [fr _ _ (by omega)]; exact a2, by rw [fr _ _ (by omega)]; exact a3⟩, ⟨fun t h1 => ?_, fun s h1 => ?_, fun s h1 => ?_⟩, fun s f h1 h2 => ?_⟩
        · rw [fr _ _ (by omega), fr _ _ (by omega), fr _ _ (by omega)]; exact a s h1
        · rw [fr _ _ (by omega), fr _ _ (by omega), fr _ _ (by omega), fr _ _ (by omega)]; exact b t h1
        · rw [fr _ _ (by omega)]; exact c s h1
        · rw [fr _ _ (by omega)]; exact d s h1
        · by_cases q : 320 + s = 300 + wd.toNatClampNeg + 20 ∧ f = co.toNatClampNeg
          · rw [q.1, q.2, up2_s]; exact c3.1
          · rw [up2_n _ _ q]; exact e s f h1 h2
      · exact h
    · exact h
  · exact h
/-- one ship changed: left and state (and what WF does not look at) -/
theorem WF.ship {T : Int} {u u1 : tV} (h : WF T u) {s : Nat} (hs : s < 20) (fr : ∀ p j, ¬ (p = 100 + s ∧ 6 ≤ j) → u1 p j = u p j) (h8 : u1 (100 + s) 8 = u (100 + s) 8)
    (n6 : 0 ≤ (u1 (100 + s) 6).toInt ∧ (u1 (100 + s) 6).toInt ≤ 400) (n7 : 3 ≤ (u1 (100 + s) 7).toInt ∧ (u1 (100 + s) 7).toInt ≤ 5) : WF T u1 := by
  obtain ⟨⟨a, a2, a3⟩, ⟨b, c, d⟩, e⟩ := h
  refine ⟨⟨fun t h1 => ?_, by rw [fr _ _ (by omega)]; exact a2, by rw [fr _ _ (by omega)]; exact a3⟩, ⟨fun t h1 => ?_, fun s h1 => ?_, fun s h1 => ?_⟩, fun s f h1 h2 => ?_⟩
  · rw [fr (100 + t) 3 (by omega)]
    obtain ⟨p1, p2, p3, p4, p5⟩ := a t h1
    by_cases q : t = s
    · subst q; rw [h8]; exact ⟨p1, p2, n6.1, n6.2, p5⟩
    · rw [fr _ _ (by omega), fr _ _ (by omega)]; exact ⟨p1, p2, p3, p4, p5⟩
  · rw [fr (100 + t) 0 (by omega), fr 1 3 (by omega)]
    by_cases q : t = s
    · subst q
      exact ⟨n6.1, n6.2, by omega, by omega, fun _ z => by rw [z] at n7; exact absurd n7.1 (by decide), fun _ z => by omega⟩
    · rw [fr _ _ (by omega), fr _ _ (by omega)]; exact b t h1
  · rw [fr _ _ (by omega)]; exact c s h1
  · rw [fr _ _ (by omega)]; exact d s h1
  · rw [fr _ _ (by omega)]; exact e s f h1 h2
theorem wf_wreck {T : Int} {u : tV} (h : WF T u) (hI : Inv u) (si sv : Int32) : WF T (f_X10_wreck_0 u si sv).2 := by
  obtain ⟨-, h21⟩ := hI 1 3 0 20 rfl
  simp only [f_X10_wreck_0, f_X7_founder, bnd, bnd2, z_0, z_2]
  split
  · rename_i c1
    have hs := clampI c1.1
    split
    · rename_i c2
      split
      · obtain ⟨l0, l4, -⟩ := h.2.1.1 si.toNatClampNeg (by omega)
        have e6 : (u (100 + si.toNatClampNeg) 6 - sv).toInt = (u (100 + si.toNatClampNeg) 6).toInt - sv.toInt := i_sub (by omega) (by omega)
        have z5 : (5 : Int32).toInt = 5 := rfl
        dsimp only
        refine h.ship (s := si.toNatClampNeg) (by omega) (fun p j z => ?_) ?_ ?_ ?_
        · repeat' split
          all_goals (repeat rw [up2_n _ _ (by omega)])
          all_goals rfl
        · repeat' split
          all_goals (repeat rw [up2_n _ _ (by omega)])
          all_goals rfl
        · repeat' split
          all_goals simp (disch := omega) only [up2_n, up2_s]
          all_goals first | omega | (have z0 : (0 : Int32).toInt = 0 := rfl; omega) | (rw [e6]; omega)
        · repeat' split
          all_goals simp (disch := omega) only [up2_n, up2_s]
          all_goals (rw [z5]; omega)
      · exact h
    · exact h
  · exact h
theorem wf_goOn {T : Int} {u : tV} (h : WF T u) (hI : Inv u) (si : Int32) : WF T (f_X10_goOn_0 u si).2 := by
  obtain ⟨-, h21⟩ := hI 1 3 0 20 rfl
  simp only [f_X10_goOn_0, f_X7_leave, bnd, bnd2, z_0]
  split
  · rename_i c1
    have hs := clampI c1.1
    split
    · split
      · obtain ⟨l0, l4, -⟩ := h.2.1.1 si.toNatClampNeg (by omega)
        have z4 : (4 : Int32).toInt = 4 := rfl
        dsimp only
        refine h.ship (s := si.toNatClampNeg) (by omega) (fun p j z => ?_) ?_ ?_ ?_
        · repeat rw [up2_n _ _ (by omega)]
        · repeat rw [up2_n _ _ (by omega)]
        · simp (disch := omega) only [up2_n, up2_s]
          exact ⟨l0, l4⟩
        · simp (disch := omega) only [up2_n, up2_s]
          rw [z4]; omega
      · exact h
    · exact h
  · exact h
theorem wf_ship {T : Int} {u : tV} (h : WF T u) (hI : Inv u) (kd so lo ak fa wy : Int32) : WF T (f_X10_ship_0 u kd so lo ak fa wy).2 := by
  obtain ⟨h19, h21⟩ := hI 1 3 0 20 rfl
  have hc := clampI h19
  have z1 : (1 : Int32).toInt = 1 := rfl
  have z20 : (20 : Int32).toInt = 20 := rfl
  have z0 : (0 : Int32).toInt = 0 := rfl
  have zm : (-1 : Int32).toInt = -1 := rfl
  rw [f_X10_ship_0]
  simp only [f_X7_begin, bnd_eq, z_1, z_400]
  split
  case isFalse => exact h
  split
  case isFalse => exact h
  split
  case isFalse => exact h
  rename_i clo
  split
  case isFalse => exact h
  rename_i cak
  split
  case isFalse => exact h
  split
  case isFalse => exact h
  split
  case isFalse => exact h
  rename_i c7
  have c8 := i_lt c7
  rw [z20] at c8
  obtain ⟨⟨a, a2, a3⟩, ⟨b, c, d⟩, e⟩ := h
  have k1 : (u 1 3 + 1).toInt = (u 1 3).toInt + 1 := by rw [i_add (by rw [z1]; omega) (by rw [z1]; omega), z1]
  have kc : (u 1 3 + 1).toNatClampNeg = (u 1 3).toNatClampNeg + 1 := by have := clampI (x := u 1 3 + 1) (by omega); omega
  generalize hn : (u 1 3).toNatClampNeg = n at *
  obtain ⟨u1, hu1⟩ : ∃ z, z = up2 (up2 (up2 (up2 (up2 (up2 (up2 (up2 (up2 (up2 u (100 + n) 0 kd) (100 + n) 1 so) (100 + n) 2 lo) (100 + n) 3 ak) (100 + n) 4 fa) (100 + n) 5 wy) (100 + n) 6 lo) (100 + n) 7 0) (100 + n) 8 (-1)) 1 3 (u 1 3 + 1) := ⟨_, rfl⟩
  show WF T (up2 (up2 (up2 (up2 (up2 (up2 (up2 (up2 (up2 (up2 u (100 + n) 0 kd) (100 + n) 1 so) (100 + n) 2 lo) (100 + n) 3 ak) (100 + n) 4 fa) (100 + n) 5 wy) (100 + n) 6 lo) (100 + n) 7 0) (100 + n) 8 (-1)) 1 3 (u 1 3 + 1))
  rw [← hu1]
  have fr : ∀ p j, ¬ (p = 100 + n) → ¬ (p = 1 ∧ j = 3) → u1 p j = u p j := fun p j x1 x2 => by
    rw [hu1]
    repeat rw [up2_n _ _ (by omega)]
  have v3 : u1 (100 + n) 3 = ak := by rw [hu1]; simp (disch := omega) only [up2_n, up2_s]
  have v6 : u1 (100 + n) 6 = lo := by rw [hu1]; simp (disch := omega) only [up2_n, up2_s]
  have v7 : u1 (100 + n) 7 = 0 := by rw [hu1]; simp (disch := omega) only [up2_n, up2_s]
  have v8 : u1 (100 + n) 8 = -1 := by rw [hu1]; simp (disch := omega) only [up2_n, up2_s]
  have v13 : u1 1 3 = u 1 3 + 1 := by rw [hu1]; simp (disch := omega) only [up2_n, up2_s]
  refine ⟨⟨fun s h1 => ?_, by rw [fr _ _ (by omega) (by omega)]; exact a2, by rw [fr _ _ (by omega) (by omega)]; exact a3⟩, ⟨fun t h1 => ?_, fun s h1 => ?_, fun s h1 => ?_⟩, fun s f h1 h2 => ?_⟩
  · by_cases q : s = n
    · subst q
      rw [v3, v6, v8, zm]
      exact ⟨by omega, by omega, by omega, by omega, by omega, by omega⟩
    · rw [fr _ _ (by omega) (by omega), fr _ _ (by omega) (by omega), fr _ _ (by omega) (by omega)]; exact a s h1
  · rw [v13, kc]
    by_cases q : t = n
    · subst q
      rw [v6, v7, z0]
      exact ⟨by omega, by omega, by omega, by omega, fun _ => by decide, fun _ _ => by omega⟩
    · rw [fr _ _ (by omega) (by omega), fr _ _ (by omega) (by omega), fr _ _ (by omega) (by omega)]
      obtain ⟨p1, p2, p3, p4, p5, p6⟩ := b t h1
      exact ⟨p1, p2, p3, p4, p5, fun z => p6 (by omega)⟩
  · rw [fr _ _ (by omega) (by omega)]; exact c s h1
  · rw [fr _ _ (by omega) (by omega)]; exact d s h1
  · rw [fr _ _ (by omega) (by omega)]; exact e s f h1 h2
theorem wf_buyer {T : Int} {u : tV} (h : WF T u) (hI : Inv u) (wd so wt bd : Int32) : WF T (f_X10_buyer_0 u wd so wt bd).2 := by
  obtain ⟨h19, h21⟩ := hI 1 4 0 10 rfl
  have hc := clampI h19
  have z10 : (10 : Int32).toInt = 10 := rfl
  rw [f_X10_buyer_0]
  simp only [f_X0_begin, bnd_eq]
  split
  case isFalse => exact h
  rename_i cwd
  split
  case isFalse => exact h
  split
  case isFalse => exact h
  rename_i cwt
  split
  case isFalse => exact h
  split
  case isFalse => exact h
  rename_i c7
  have c8 := i_lt c7
  rw [z10] at c8
  obtain ⟨⟨a, a2, a3⟩, ⟨b, c, d⟩, e⟩ := h
  generalize hn : (u 1 4).toNatClampNeg = n at *
  obtain ⟨u1, hu1⟩ : ∃ z, z = up2 (up2 (up2 (up2 (up2 u (200 + n) 0 wd) (200 + n) 1 so) (200 + n) 2 wt) (200 + n) 3 bd) 1 4 (u 1 4 + 1) := ⟨_, rfl⟩
  show WF T (up2 (up2 (up2 (up2 (up2 u (200 + n) 0 wd) (200 + n) 1 so) (200 + n) 2 wt) (200 + n) 3 bd) 1 4 (u 1 4 + 1))
  rw [← hu1]
  have fr : ∀ p j, ¬ (p = 200 + n) → ¬ (p = 1 ∧ j = 4) → u1 p j = u p j := fun p j x1 x2 => by
    rw [hu1]
    repeat rw [up2_n _ _ (by omega)]
  have v0 : u1 (200 + n) 0 = wd := by rw [hu1]; simp (disch := omega) only [up2_n, up2_s]
  have v2 : u1 (200 + n) 2 = wt := by rw [hu1]; simp (disch := omega) only [up2_n, up2_s]
  refine ⟨⟨fun s h1 => ?_, by rw [fr _ _ (by omega) (by omega)]; exact a2, by rw [fr _ _ (by omega) (by omega)]; exact a3⟩, ⟨fun t h1 => ?_, fun s h1 => ?_, fun s h1 => ?_⟩, fun s f h1 h2 => ?_⟩
  · rw [fr _ _ (by omega) (by omega), fr _ _ (by omega) (by omega), fr _ _ (by omega) (by omega)]; exact a s h1
  · rw [fr _ _ (by omega) (by omega), fr _ _ (by omega) (by omega), fr _ _ (by omega) (by omega), fr _ _ (by omega) (by omega)]; exact b t h1
  · by_cases q : s = n
    · subst q; rw [v2]; exact cwt
    · rw [fr _ _ (by omega) (by omega)]; exact c s h1
  · by_cases q : s = n
    · subst q; rw [v0]; exact cwd
    · rw [fr _ _ (by omega) (by omega)]; exact d s h1
  · rw [fr _ _ (by omega) (by omega)]; exact e s f h1 h2
