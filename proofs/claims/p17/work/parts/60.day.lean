/-! A DAY -/
/-- what a world at rest keeps -/
def WF (T : Int) (u : tV) : Prop := WS T u ∧ WT (u 1 3).toNatClampNeg u ∧ (∀ s f, s < 6 → f < 5 → 0 ≤ (u (320 + s) f).toInt)
/-- WF looks at these places alone -/
theorem WF.of {T : Int} {u u1 : tV} (h : WF T u) (hs : ∀ s f, s < 20 → u1 (100 + s) f = u (100 + s) f) (hb : ∀ s f, s < 10 → u1 (200 + s) f = u (200 + s) f) (hw : ∀ s f, s < 6 → u1 (320 + s) f = u (320 + s) f) (hn : u1 1 3 = u 1 3) (ht : u1 1 5 = u 1 5) : WF T u1 := by
  obtain ⟨⟨a, a2, a3⟩, ⟨b, c, d⟩, e⟩ := h
  refine ⟨⟨fun s h1 => ?_, by rw [ht]; exact a2, by rw [ht]; exact a3⟩, ⟨fun t h1 => ?_, fun s h1 => ?_, fun s h1 => ?_⟩, fun s f h1 h2 => ?_⟩
  · rw [hs s 3 h1, hs s 6 h1, hs s 8 h1]; exact a s h1
  · rw [hs t 6 h1, hs t 7 h1, hs t 0 h1, hn]; exact b t h1
  · rw [hb s 2 h1]; exact c s h1
  · rw [hb s 0 h1]; exact d s h1
  · rw [hw s f h1]; exact e s f h1 h2
/-! what a ship's sailing changes -/
theorem sail_val {u : tV} {k : Nat} {wi t : Int32} : (f_X7_sail u k wi t k 6 = u k 6) ∧ ((f_X7_sail u k wi t k 7 = u k 7 ∧ f_X7_sail u k wi t k 8 = u k 8) ∨ (u k 7 = 0 ∧ f_X7_sail u k wi t k 7 = 1 ∧ f_X7_sail u k wi t k 8 = t)) := by
  simp only [f_X7_sail, bnd]
  repeat' split
  all_goals simp (disch := omega) only [up2_n, up2_s]
  all_goals first
    | exact ⟨trivial, Or.inl ⟨trivial, trivial⟩⟩
    | (refine ⟨trivial, Or.inr ⟨?_, trivial, trivial⟩⟩; assumption)
    | simp_all
theorem sails_val {wi : Int32} {s : Nat} (hs : s < 20) : ∀ (n : Nat) (y : Int32) (u : tV), (u 1 3).toInt ≤ 20 → 0 ≤ y.toInt →
    (g_X6_sail_1_2 wi n y u (100 + s) 6 = u (100 + s) 6) ∧ ((g_X6_sail_1_2 wi n y u (100 + s) 7 = u (100 + s) 7 ∧ g_X6_sail_1_2 wi n y u (100 + s) 8 = u (100 + s) 8) ∨ (u (100 + s) 7 = 0 ∧ g_X6_sail_1_2 wi n y u (100 + s) 7 = 1 ∧ g_X6_sail_1_2 wi n y u (100 + s) 8 = u 1 5)) := by
  have z1 : (1 : Int32).toInt = 1 := rfl
  intro n
  induction n with
  | zero => intro y u _ _; exact ⟨rfl, Or.inl ⟨rfl, rfl⟩⟩
  | succ n ih =>
    intro y u hc h0
    have e : g_X6_sail_1_2 wi (n + 1) y u = b_X6_sail_1_2 wi (g_X6_sail_1_2 wi n) y u := rfl
    rw [e]
    simp only [b_X6_sail_1_2, bnd]
    by_cases q : u 1 3 ≤ y
    · rw [if_pos q]; exact ⟨rfl, Or.inl ⟨rfl, rfl⟩⟩
    · have q' := i_nle q
      have hy := clampI h0
      have k1 : (y + 1).toInt = y.toInt + 1 := by rw [i_add (by rw [z1]; omega) (by rw [z1]; omega), z1]
      rw [if_neg q]
      have hc' : (f_X7_sail u (100 + y.toNatClampNeg) wi (u 1 5) 1 3).toInt ≤ 20 := by rw [sail_fr (by omega)]; exact hc
      have i1 := ih (y + 1) (f_X7_sail u (100 + y.toNatClampNeg) wi (u 1 5)) hc' (by omega)
      have t5 : f_X7_sail u (100 + y.toNatClampNeg) wi (u 1 5) 1 5 = u 1 5 := sail_fr (by omega)
      rw [t5] at i1
      by_cases z : s = y.toNatClampNeg
      · subst z
        obtain ⟨v6, v⟩ := sail_val (u := u) (k := 100 + y.toNatClampNeg) (wi := wi) (t := u 1 5)
        rw [v6] at i1
        rcases v with ⟨v7, v8⟩ | ⟨v0, v7, v8⟩
        · rw [v7, v8] at i1; exact i1
        · refine ⟨i1.1, Or.inr ⟨v0, ?_⟩⟩
          rcases i1.2 with ⟨a, b⟩ | ⟨a, -, -⟩
          · rw [a, b, v7, v8]; exact ⟨rfl, rfl⟩
          · rw [v7] at a; exact absurd a (by decide)
      · have g : ∀ j, f_X7_sail u (100 + y.toNatClampNeg) wi (u 1 5) (100 + s) j = u (100 + s) j := fun j => sail_fr (by omega)
        rw [g 6, g 7, g 8] at i1
        exact i1
theorem WF.sail {T : Int} {u : tV} (h : WF T u) (hc : (u 1 3).toInt ≤ 20) (wi : Int32) : WF T (f_X6_sail_1 u wi) := by
  have z1 : (1 : Int32).toInt = 1 := rfl
  have e : f_X6_sail_1 u wi = g_X6_sail_1_2 wi 100000 0 u := rfl
  rw [e]
  have fr : ∀ a j, (a < 100 ∨ 120 ≤ a ∨ j ≤ 4) → g_X6_sail_1_2 wi 100000 0 u a j = u a j := fun a j z => sails_fr z 100000 0 u hc (by decide)
  have vl := fun s (hs : s < 20) => sails_val (wi := wi) hs 100000 0 u hc (by decide)
  generalize g_X6_sail_1_2 wi 100000 0 u = u1 at fr vl
  obtain ⟨⟨a, a2, a3⟩, ⟨b, c, d⟩, f⟩ := h
  refine ⟨⟨fun s h1 => ?_, by rw [fr 1 5 (by omega)]; exact a2, by rw [fr 1 5 (by omega)]; exact a3⟩, ⟨fun t h1 => ?_, fun s h1 => ?_, fun s h1 => ?_⟩, fun s g h1 h2 => ?_⟩
  · obtain ⟨v6, v⟩ := vl s h1
    obtain ⟨p1, p2, p3, p4, p5, p6⟩ := a s h1
    rw [fr (100 + s) 3 (by omega), v6]
    rcases v with ⟨-, v8⟩ | ⟨-, -, v8⟩
    · rw [v8]; exact ⟨p1, p2, p3, p4, p5, p6⟩
    · rw [v8]; exact ⟨p1, p2, p3, p4, by omega, a3⟩
  · obtain ⟨v6, v⟩ := vl t h1
    obtain ⟨p1, p2, p3, p4, p5, p6⟩ := b t h1
    rw [fr (100 + t) 0 (by omega), v6, fr 1 3 (by omega)]
    rcases v with ⟨v7, -⟩ | ⟨v0, v7, -⟩
    · rw [v7]; exact ⟨p1, p2, p3, p4, p5, p6⟩
    · rw [v7]
      have z0 : (0 : Int32).toInt = 0 := rfl
      exact ⟨p1, p2, by rw [z1]; omega, by rw [z1]; omega, fun _ => by decide, fun ht _ => p6 ht (by rw [v0, z0]; omega)⟩
  · rw [fr (200 + s) 2 (by omega)]; exact c s h1
  · rw [fr (200 + s) 0 (by omega)]; exact d s h1
  · rw [fr (320 + s) g (by omega)]; exact f s g h1 h2
theorem arrives_fr {wi : Int32} {a j : Nat} (h : a ≠ 408 ∧ a ≠ 410 ∧ a ≠ 411 ∧ a ≠ 415) : ∀ (n : Nat) (y : Int32) (w : tV), g_X11_arrive_400_2 wi n y w a j = w a j := by
  intro n
  induction n with
  | zero => intro y w; rfl
  | succ n ih =>
    intro y w
    show b_X11_arrive_400_2 wi (g_X11_arrive_400_2 wi n) y w a j = w a j
    rw [arrive_body]
    by_cases q : w 400 1 ≤ y
    · rw [if_pos q]
    · rw [if_neg q, ih]
      unfold arriveShip
      repeat' split
      all_goals (repeat rw [up2_n _ _ (by omega)])
      all_goals rfl
/-! what heat changes -/
theorem heat_fr {u : tV} {k a j : Nat} {co : Int32} (h : a ≠ k) : f_X9_heat u k co a j = u a j := by
  simp only [f_X9_heat, bnd]
  repeat' split
  all_goals (repeat rw [up2_n _ _ (by omega)])
  all_goals rfl
theorem heats_fr {co : Int32} {a j : Nat} (h : (a < 300 ∨ 306 ≤ a) ∧ ¬ (a = 1 ∧ j = 5)) : ∀ (n : Nat) (y : Int32) (u : tV), 0 ≤ y.toInt → g_X6_endDay_1_2 co n y u a j = u a j := by
  have z1 : (1 : Int32).toInt = 1 := rfl
  have z6 : (6 : Int32).toInt = 6 := rfl
  intro n
  induction n with
  | zero => intro y u _; rfl
  | succ n ih =>
    intro y u h0
    show b_X6_endDay_1_2 co (g_X6_endDay_1_2 co n) y u a j = u a j
    simp only [b_X6_endDay_1_2, bnd]
    by_cases q : (6 : Int32) ≤ y
    · rw [if_pos q, up2_n _ _ (by omega)]
    · have q' := i_nle q
      rw [z6] at q'
      have hy := clampI h0
      have k1 : (y + 1).toInt = y.toInt + 1 := by rw [i_add (by rw [z1]; omega) (by rw [z1]; omega), z1]
      rw [if_neg q, ih _ _ (by omega), heat_fr (by omega)]
theorem heats_day {co : Int32} : ∀ (d n : Nat) (y : Int32) (u : tV), y.toInt + (d : Int) = 6 → d < n → 0 ≤ y.toInt → g_X6_endDay_1_2 co n y u 1 5 = u 1 5 + 1 := by
  have z1 : (1 : Int32).toInt = 1 := rfl
  have z6 : (6 : Int32).toInt = 6 := rfl
  intro d
  induction d with
  | zero =>
    intro n y u hd hn h0
    obtain ⟨n, rfl⟩ : ∃ k, n = k + 1 := ⟨n - 1, by omega⟩
    show b_X6_endDay_1_2 co (g_X6_endDay_1_2 co n) y u 1 5 = u 1 5 + 1
    simp only [b_X6_endDay_1_2, bnd]
    rw [if_pos (Int32.le_iff_toInt_le.mpr (by omega)), up2_s]
  | succ d ih =>
    intro n y u hd hn h0
    obtain ⟨n, rfl⟩ : ∃ k, n = k + 1 := ⟨n - 1, by omega⟩
    show b_X6_endDay_1_2 co (g_X6_endDay_1_2 co n) y u 1 5 = u 1 5 + 1
    simp only [b_X6_endDay_1_2, bnd]
    have hy := clampI h0
    have k1 : (y + 1).toInt = y.toInt + 1 := by rw [i_add (by rw [z1]; omega) (by rw [z1]; omega), z1]
    rw [if_neg (fun z => by have := i_le z; omega), ih n _ _ (by omega) (by omega) (by omega), heat_fr (by omega)]
theorem burns_fr {wi co fr od nt : Int32} {a j : Nat} (h : a ≠ 421 ∧ a ≠ 422 ∧ a ≠ 423 ∧ ¬ (a = 400 ∧ j = 25)) : ∀ (n : Nat) (y : Int32) (w : tV), g_X11_go_400_35 wi co fr od nt n y w a j = w a j := by
  intro n
  induction n with
  | zero => intro y w; rfl
  | succ n ih =>
    intro y w
    show b_X11_go_400_35 wi co fr od nt (g_X11_go_400_35 wi co fr od nt n) y w a j = w a j
    rw [burn_body]
    by_cases q : (6 : Int32) ≤ y
    · rw [if_pos q, up2_n _ _ (by omega)]
    · rw [if_neg q, ih]
      unfold burnWard
      repeat' split
      all_goals (repeat rw [up2_n _ _ (by omega)])
      all_goals rfl
/-! the record of a market -/
theorem copy7_fr {u : tV} {k k2 a j : Nat} (h : a ≠ k) : f_X7_copy u k k2 a j = u a j := by
  simp only [f_X7_copy, bnd]
  repeat rw [up2_n _ _ (by omega)]
theorem copy0_fr {u : tV} {k k2 a j : Nat} (h : a ≠ k) : f_X0_copy u k k2 a j = u a j := by
  simp only [f_X0_copy, f_X0_begin, bnd]
  repeat rw [up2_n _ _ (by omega)]
theorem copy9_fr {u : tV} {k k2 a j : Nat} (h : a ≠ k) (h2 : a ≠ k + 20) : f_X9_copy_A u k k2 a j = u a j := by
  simp only [f_X9_copy_A, bnd]
  repeat rw [up2_n _ _ (by omega)]
  unfold cp5
  rw [if_neg (by omega)]
def CP (a : Nat) : Prop := a ≠ 2 ∧ (a < 120 ∨ 140 ≤ a) ∧ (a < 210 ∨ 220 ≤ a) ∧ (a < 306 ∨ 312 ≤ a) ∧ (a < 326 ∨ 332 ≤ a)
theorem copies_fr {a j : Nat} (h : CP a) : ∀ (n : Nat) (y : Int32) (u : tV), 0 ≤ y.toInt → (u 2 3).toInt ≤ 20 → (u 2 4).toInt ≤ 10 → g_X6_copy_2_1_34 n y u a j = u a j ∧ g_X6_copy_2_1_65 n y u a j = u a j ∧ g_X6_copy_2_1_96 n y u a j = u a j := by
  unfold CP at h
  have z1 : (1 : Int32).toInt = 1 := rfl
  have z0 : (0 : Int32).toInt = 0 := rfl
  have z6 : (6 : Int32).toInt = 6 := rfl
  intro n
  induction n with
  | zero => intro y u _ _ _; exact ⟨rfl, rfl, rfl⟩
  | succ n ih =>
    intro y u h0 c3 c4
    have hy := clampI h0
    refine ⟨?_, ?_, ?_⟩
    · show b_X6_copy_2_1_34 (g_X6_copy_2_1_34 n) (g_X6_copy_2_1_65 n) y u a j = u a j
      simp only [b_X6_copy_2_1_34, bnd]
      by_cases q : u 2 3 ≤ y
      · rw [if_pos q]; exact (ih 0 u (by decide) c3 c4).2.1
      · have q' := i_nle q
        have k1 : (y + 1).toInt = y.toInt + 1 := by rw [i_add (by rw [z1]; omega) (by rw [z1]; omega), z1]
        rw [if_neg q, (ih _ _ (by omega) (by rw [copy7_fr (by omega)]; exact c3) (by rw [copy7_fr (by omega)]; exact c4)).1, copy7_fr (by omega)]
    · show b_X6_copy_2_1_65 (g_X6_copy_2_1_65 n) (g_X6_copy_2_1_96 n) y u a j = u a j
      simp only [b_X6_copy_2_1_65, bnd]
      by_cases q : u 2 4 ≤ y
      · rw [if_pos q]; exact (ih 0 u (by decide) c3 c4).2.2
      · have q' := i_nle q
        have k1 : (y + 1).toInt = y.toInt + 1 := by rw [i_add (by rw [z1]; omega) (by rw [z1]; omega), z1]
        rw [if_neg q, (ih _ _ (by omega) (by rw [copy0_fr (by omega)]; exact c3) (by rw [copy0_fr (by omega)]; exact c4)).2.1, copy0_fr (by omega)]
    · show b_X6_copy_2_1_96 (g_X6_copy_2_1_96 n) y u a j = u a j
      simp only [b_X6_copy_2_1_96, bnd]
      by_cases q : (6 : Int32) ≤ y
      · rw [if_pos q]
      · have q' := i_nle q
        rw [z6] at q'
        have k1 : (y + 1).toInt = y.toInt + 1 := by rw [i_add (by rw [z1]; omega) (by rw [z1]; omega), z1]
        rw [if_neg q, (ih _ _ (by omega) (by rw [copy9_fr (by omega) (by omega)]; exact c3) (by rw [copy9_fr (by omega) (by omega)]; exact c4)).2.2, copy9_fr (by omega) (by omega)]
theorem copy_fr {u : tV} {a j : Nat} (h : CP a) (c3 : (u 1 3).toInt ≤ 20) (c4 : (u 1 4).toInt ≤ 10) : f_X6_copy_2_1 u a j = u a j := by
  have ha : a ≠ 2 := h.1
  simp only [f_X6_copy_2_1, bnd]
  rw [(copies_fr h 100000 0 _ (by decide) ?_ ?_).1]
  · repeat rw [up2_n _ _ (by omega)]
  · simp (disch := omega) only [up2_n, up2_s]; exact c3
  · simp (disch := omega) only [up2_n, up2_s]; exact c4
def NT (a j : Nat) : Prop := (a < 450 ∨ 453 < a) ∧ ¬ (a = 400 ∧ 53 ≤ j ∧ j ≤ 57)
theorem notes_fr {a j : Nat} (h : a < 450 ∨ 453 < a) : ∀ (n : Nat) (y : Int32) (w : tV), g_X11_note_400_39 n y w a j = w a j ∧ g_X11_note_400_101 n y w a j = w a j ∧ g_X11_note_400_141 n y w a j = w a j := by
  intro n
  induction n with
  | zero => intro y w; exact ⟨rfl, rfl, rfl⟩
  | succ n ih =>
    intro y w
    refine ⟨?_, ?_, ?_⟩
    · show b_X11_note_400_39 (g_X11_note_400_39 n) (g_X11_note_400_101 n) y w a j = w a j
      simp only [b_X11_note_400_39, bnd]
      split
      · exact (ih _ _).2.1
      · rw [(ih _ _).1]
        repeat rw [up2_n _ _ (by omega)]
    · show b_X11_note_400_101 (g_X11_note_400_101 n) (g_X11_note_400_141 n) y w a j = w a j
      simp only [b_X11_note_400_101, bnd]
      split
      · exact (ih _ _).2.2
      · rw [(ih _ _).2.1]
        repeat rw [up2_n _ _ (by omega)]
    · show b_X11_note_400_141 (g_X11_note_400_141 n) y w a j = w a j
      simp only [b_X11_note_400_141, bnd]
      split
      · rfl
      · rw [(ih _ _).2.2]
        repeat rw [up2_n _ _ (by omega)]
theorem note_fr {w : tV} {a j : Nat} (h : NT a j) : f_X11_note_400 w a j = w a j := by
  unfold NT at h
  simp only [f_X11_note_400, bnd]
  rw [(notes_fr h.1 100000 0 _).1]
  repeat rw [up2_n _ _ (by omega)]
theorem note_mk {w : tV} : f_X11_note_400 w 400 57 = 1 := by
  simp only [f_X11_note_400, bnd]
  rw [(notes_fr (by omega) 100000 0 _).1]
  simp (disch := omega) only [up2_n, up2_s]
