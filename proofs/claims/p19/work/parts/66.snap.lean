/-! THE RECORD OF A MARKET -/
theorem copy7_val {u : tV} {k k2 f : Nat} (hf : f ≤ 12) (hk : k2 ≠ k) : f_X7_copy u k k2 k f = u k2 f := by
  have hf2 : f = 0 ∨ f = 1 ∨ f = 2 ∨ f = 3 ∨ f = 4 ∨ f = 5 ∨ f = 6 ∨ f = 7 ∨ f = 8 ∨ f = 9 ∨ f = 10 ∨ f = 11 ∨ f = 12 := by omega
  simp only [f_X7_copy, bnd]
  rcases hf2 with rfl | rfl | rfl | rfl | rfl | rfl | rfl | rfl | rfl | rfl | rfl | rfl | rfl <;> simp (disch := omega) only [up2_n, up2_s]
theorem copy0_val {u : tV} {k k2 f : Nat} (hf : f ≤ 3) : f_X0_copy u k k2 k f = u k2 f := by
  have hf2 : f = 0 ∨ f = 1 ∨ f = 2 ∨ f = 3 := by omega
  simp only [f_X0_copy, f_X0_begin, bnd]
  rcases hf2 with rfl | rfl | rfl | rfl <;> simp (disch := omega) only [up2_n, up2_s]
theorem copy9_frB {u : tV} {k k2 a j : Nat} (h : a ≠ k) (h2 : a ≠ k + 20) : f_X9_copy_B u k k2 a j = u a j := by
  simp only [f_X9_copy_B, bnd]
  repeat rw [up2_n _ _ (by omega)]
  unfold cp5
  rw [if_neg (by omega)]
theorem cps34_2_1 (n : Nat) (y : Int32) (u : tV) : g_X6_copy_2_1_34 (n + 1) y u = b_X6_copy_2_1_34 (g_X6_copy_2_1_34 n) (g_X6_copy_2_1_65 n) y u := rfl
theorem cps65_2_1 (n : Nat) (y : Int32) (u : tV) : g_X6_copy_2_1_65 (n + 1) y u = b_X6_copy_2_1_65 (g_X6_copy_2_1_65 n) (g_X6_copy_2_1_96 n) y u := rfl
theorem cps96_2_1 (n : Nat) (y : Int32) (u : tV) : g_X6_copy_2_1_96 (n + 1) y u = b_X6_copy_2_1_96 (g_X6_copy_2_1_96 n) y u := rfl
theorem cpw_2_1 {a j : Nat} (h : (a < 306 ∨ 306 + 6 ≤ a) ∧ (a < 306 + 20 ∨ 306 + 26 ≤ a)) : ∀ (n : Nat) (y : Int32) (u : tV), 0 ≤ y.toInt → g_X6_copy_2_1_96 n y u a j = u a j := by
  have z1 : (1 : Int32).toInt = 1 := rfl
  have z6 : (6 : Int32).toInt = 6 := rfl
  intro n
  induction n with
  | zero => intro y u _; rfl
  | succ n ih =>
    intro y u h0
    have hy := clampI h0
    rw [cps96_2_1]
    simp only [b_X6_copy_2_1_96, bnd]
    by_cases q : (6 : Int32) ≤ y
    · rw [if_pos q]
    · have q' := i_nle q
      rw [z6] at q'
      have k1 : (y + 1).toInt = y.toInt + 1 := by rw [i_add (by rw [z1]; omega) (by rw [z1]; omega), z1]
      rw [if_neg q, ih _ _ (by omega), copy9_fr (by omega) (by omega)]
theorem cpb_2_1 {nb : Nat} (hnb : nb ≤ 10) : ∀ (d y n : Nat) (u : tV), y + d = nb → d < n → u 2 4 = Int32.ofNat nb →
    (∀ b f, y ≤ b → b < nb → f ≤ 3 → g_X6_copy_2_1_65 n (Int32.ofNat y) u (210 + b) f = u (200 + b) f) ∧ (∀ a j, ¬ (210 + y ≤ a ∧ a < 210 + nb) → (a < 306 ∨ 306 + 6 ≤ a) ∧ (a < 306 + 20 ∨ 306 + 26 ≤ a) → g_X6_copy_2_1_65 n (Int32.ofNat y) u a j = u a j) := by
  intro d
  induction d with
  | zero =>
    intro y n u hd hn hc
    obtain ⟨n, rfl⟩ : ∃ k, n = k + 1 := ⟨n - 1, by omega⟩
    have e : g_X6_copy_2_1_65 (n + 1) (Int32.ofNat y) u = g_X6_copy_2_1_96 n 0 u := by
      rw [cps65_2_1]
      simp only [b_X6_copy_2_1_65, bnd, hc]
      rw [if_pos ((le_ofNat (by omega) (by omega)).mpr (by omega))]
    rw [e]
    exact ⟨fun b f h1 h2 => by omega, fun a j _ h2 => cpw_2_1 h2 n 0 u (by decide)⟩
  | succ d ih =>
    intro y n u hd hn hc
    obtain ⟨n, rfl⟩ : ∃ k, n = k + 1 := ⟨n - 1, by omega⟩
    have e : g_X6_copy_2_1_65 (n + 1) (Int32.ofNat y) u = g_X6_copy_2_1_65 n (Int32.ofNat (y + 1)) (f_X0_copy u (210 + y) (200 + y)) := by
      rw [cps65_2_1]
      simp only [b_X6_copy_2_1_65, bnd, hc, clampN (n := y) (by omega), ofNat_succ (n := y) (by omega)]
      rw [if_neg (fun z => by have := (le_ofNat (by omega) (by omega)).mp z; omega)]
    rw [e]
    obtain ⟨i1, i2⟩ := ih (y + 1) n (f_X0_copy u (210 + y) (200 + y)) (by omega) (by omega) (by rw [copy0_fr (by omega)]; exact hc)
    refine ⟨fun b f h1 h2 h3 => ?_, fun a j h1 h2 => ?_⟩
    · by_cases q : b = y
      · subst q
        rw [i2 _ _ (by omega) (by omega), copy0_val h3]
      · rw [i1 b f (by omega) h2 h3, copy0_fr (by omega)]
    · rw [i2 a j (by omega) h2, copy0_fr (by omega)]
theorem cps_2_1 {cnt nb : Nat} (hcnt : cnt ≤ 20) (hnb : nb ≤ 10) : ∀ (d y n : Nat) (u : tV), y + d = cnt → d + 50 < n → u 2 3 = Int32.ofNat cnt → u 2 4 = Int32.ofNat nb →
    (∀ t f, y ≤ t → t < cnt → f ≤ 12 → g_X6_copy_2_1_34 n (Int32.ofNat y) u (120 + t) f = u (100 + t) f) ∧ (∀ b f, b < nb → f ≤ 3 → g_X6_copy_2_1_34 n (Int32.ofNat y) u (210 + b) f = u (200 + b) f) ∧
    (∀ a j, ¬ (120 + y ≤ a ∧ a < 120 + cnt) → ¬ (210 ≤ a ∧ a < 210 + nb) → (a < 306 ∨ 306 + 6 ≤ a) ∧ (a < 306 + 20 ∨ 306 + 26 ≤ a) → g_X6_copy_2_1_34 n (Int32.ofNat y) u a j = u a j) := by
  intro d
  induction d with
  | zero =>
    intro y n u hd hn hc hb
    obtain ⟨n, rfl⟩ : ∃ k, n = k + 1 := ⟨n - 1, by omega⟩
    have e : g_X6_copy_2_1_34 (n + 1) (Int32.ofNat y) u = g_X6_copy_2_1_65 n (Int32.ofNat 0) u := by
      rw [cps34_2_1]
      simp only [b_X6_copy_2_1_34, bnd, hc]
      rw [if_pos ((le_ofNat (by omega) (by omega)).mpr (by omega))]
      all_goals rfl
    rw [e]
    obtain ⟨b1, b2⟩ := cpb_2_1 hnb nb 0 n u (by omega) (by omega) hb
    exact ⟨fun t f h1 h2 => by omega, fun b f h1 h2 => b1 b f (by omega) h1 h2, fun a j _ h2 h3 => b2 a j (by omega) h3⟩
  | succ d ih =>
    intro y n u hd hn hc hb
    obtain ⟨n, rfl⟩ : ∃ k, n = k + 1 := ⟨n - 1, by omega⟩
    have e : g_X6_copy_2_1_34 (n + 1) (Int32.ofNat y) u = g_X6_copy_2_1_34 n (Int32.ofNat (y + 1)) (f_X7_copy u (120 + y) (100 + y)) := by
      rw [cps34_2_1]
      simp only [b_X6_copy_2_1_34, bnd, hc, clampN (n := y) (by omega), ofNat_succ (n := y) (by omega)]
      rw [if_neg (fun z => by have := (le_ofNat (by omega) (by omega)).mp z; omega)]
    rw [e]
    obtain ⟨i1, i2, i3⟩ := ih (y + 1) n (f_X7_copy u (120 + y) (100 + y)) (by omega) (by omega) (by rw [copy7_fr (by omega)]; exact hc) (by rw [copy7_fr (by omega)]; exact hb)
    refine ⟨fun t f h1 h2 h3 => ?_, fun b f h1 h2 => ?_, fun a j h1 h2 h3 => ?_⟩
    · by_cases q : t = y
      · subst q
        rw [i3 _ _ (by omega) (by omega) (by omega), copy7_val h3 (by omega)]
      · rw [i1 t f (by omega) h2 h3, copy7_fr (by omega)]
    · rw [i2 b f h1 h2, copy7_fr (by omega)]
    · rw [i3 a j (by omega) h2 h3, copy7_fr (by omega)]
theorem cpa_2_1 {u : tV} {cnt nb : Nat} (hcnt : cnt ≤ 20) (hnb : nb ≤ 10) (hc : u 1 3 = Int32.ofNat cnt) (hb : u 1 4 = Int32.ofNat nb) :
    (∀ t f, t < cnt → f ≤ 12 → f_X6_copy_2_1 u (120 + t) f = u (100 + t) f) ∧ (∀ b f, b < nb → f ≤ 3 → f_X6_copy_2_1 u (210 + b) f = u (200 + b) f) ∧
    (∀ a j, a ≠ 2 → ¬ (120 ≤ a ∧ a < 120 + 20) → ¬ (210 ≤ a ∧ a < 210 + 10) → (a < 306 ∨ 306 + 6 ≤ a) ∧ (a < 306 + 20 ∨ 306 + 26 ≤ a) → f_X6_copy_2_1 u a j = u a j) ∧
    f_X6_copy_2_1 u 2 3 = u 1 3 ∧ f_X6_copy_2_1 u 2 4 = u 1 4 ∧ f_X6_copy_2_1 u 2 6 = u 1 6 := by
  simp only [f_X6_copy_2_1, bnd]
  simp (disch := omega) only [up2_n]
  obtain ⟨U, hU⟩ : ∃ z, z = up2 (up2 (up2 (up2 u 2 3 (u 1 3)) 2 4 (u 1 4)) 2 5 (u 1 5)) 2 6 (u 1 6) := ⟨_, rfl⟩
  rw [← hU]
  have f0 : ∀ a j, a ≠ 2 → U a j = u a j := fun a j z => by
    rw [hU]; simp (disch := omega) only [up2_n]
  have e3 : U 2 3 = u 1 3 := by rw [hU]; simp (disch := omega) only [up2_n, up2_s]
  have e4 : U 2 4 = u 1 4 := by rw [hU]; simp (disch := omega) only [up2_n, up2_s]
  have e6 : U 2 6 = u 1 6 := by rw [hU]; simp (disch := omega) only [up2_n, up2_s]
  obtain ⟨i1, i2, i3⟩ := cps_2_1 hcnt hnb cnt 0 100000 U (by omega) (by omega) (e3.trans hc) (e4.trans hb)
  have eo : Int32.ofNat 0 = (0 : Int32) := rfl
  rw [eo] at i1 i2 i3
  generalize g_X6_copy_2_1_34 100000 0 U = V at i1 i2 i3
  refine ⟨fun t f h1 h2 => ?_, fun b f h1 h2 => ?_, fun a j h1 h2 h3 h4 => ?_, ?_, ?_, ?_⟩
  · rw [i1 t f (by omega) h1 h2]; exact f0 _ _ (by omega)
  · rw [i2 b f h1 h2]; exact f0 _ _ (by omega)
  · rw [i3 a j (by omega) (by omega) h4]; exact f0 a j h1
  · rw [i3 _ _ (by omega) (by omega) (by omega)]; exact e3
  · rw [i3 _ _ (by omega) (by omega) (by omega)]; exact e4
  · rw [i3 _ _ (by omega) (by omega) (by omega)]; exact e6
theorem cps34_3_2 (n : Nat) (y : Int32) (u : tV) : g_X6_copy_3_2_34 (n + 1) y u = b_X6_copy_3_2_34 (g_X6_copy_3_2_34 n) (g_X6_copy_3_2_65 n) y u := rfl
theorem cps65_3_2 (n : Nat) (y : Int32) (u : tV) : g_X6_copy_3_2_65 (n + 1) y u = b_X6_copy_3_2_65 (g_X6_copy_3_2_65 n) (g_X6_copy_3_2_96 n) y u := rfl
theorem cps96_3_2 (n : Nat) (y : Int32) (u : tV) : g_X6_copy_3_2_96 (n + 1) y u = b_X6_copy_3_2_96 (g_X6_copy_3_2_96 n) y u := rfl
theorem cpw_3_2 {a j : Nat} (h : (a < 312 ∨ 312 + 6 ≤ a) ∧ (a < 312 + 20 ∨ 312 + 26 ≤ a)) : ∀ (n : Nat) (y : Int32) (u : tV), 0 ≤ y.toInt → g_X6_copy_3_2_96 n y u a j = u a j := by
  have z1 : (1 : Int32).toInt = 1 := rfl
  have z6 : (6 : Int32).toInt = 6 := rfl
  intro n
  induction n with
  | zero => intro y u _; rfl
  | succ n ih =>
    intro y u h0
    have hy := clampI h0
    rw [cps96_3_2]
    simp only [b_X6_copy_3_2_96, bnd]
    by_cases q : (6 : Int32) ≤ y
    · rw [if_pos q]
    · have q' := i_nle q
      rw [z6] at q'
      have k1 : (y + 1).toInt = y.toInt + 1 := by rw [i_add (by rw [z1]; omega) (by rw [z1]; omega), z1]
      rw [if_neg q, ih _ _ (by omega), copy9_frB (by omega) (by omega)]
theorem cpb_3_2 {nb : Nat} (hnb : nb ≤ 10) : ∀ (d y n : Nat) (u : tV), y + d = nb → d < n → u 3 4 = Int32.ofNat nb →
    (∀ b f, y ≤ b → b < nb → f ≤ 3 → g_X6_copy_3_2_65 n (Int32.ofNat y) u (220 + b) f = u (210 + b) f) ∧ (∀ a j, ¬ (220 + y ≤ a ∧ a < 220 + nb) → (a < 312 ∨ 312 + 6 ≤ a) ∧ (a < 312 + 20 ∨ 312 + 26 ≤ a) → g_X6_copy_3_2_65 n (Int32.ofNat y) u a j = u a j) := by
  intro d
  induction d with
  | zero =>
    intro y n u hd hn hc
    obtain ⟨n, rfl⟩ : ∃ k, n = k + 1 := ⟨n - 1, by omega⟩
    have e : g_X6_copy_3_2_65 (n + 1) (Int32.ofNat y) u = g_X6_copy_3_2_96 n 0 u := by
      rw [cps65_3_2]
      simp only [b_X6_copy_3_2_65, bnd, hc]
      rw [if_pos ((le_ofNat (by omega) (by omega)).mpr (by omega))]
    rw [e]
    exact ⟨fun b f h1 h2 => by omega, fun a j _ h2 => cpw_3_2 h2 n 0 u (by decide)⟩
  | succ d ih =>
    intro y n u hd hn hc
    obtain ⟨n, rfl⟩ : ∃ k, n = k + 1 := ⟨n - 1, by omega⟩
    have e : g_X6_copy_3_2_65 (n + 1) (Int32.ofNat y) u = g_X6_copy_3_2_65 n (Int32.ofNat (y + 1)) (f_X0_copy u (220 + y) (210 + y)) := by
      rw [cps65_3_2]
      simp only [b_X6_copy_3_2_65, bnd, hc, clampN (n := y) (by omega), ofNat_succ (n := y) (by omega)]
      rw [if_neg (fun z => by have := (le_ofNat (by omega) (by omega)).mp z; omega)]
    rw [e]
    obtain ⟨i1, i2⟩ := ih (y + 1) n (f_X0_copy u (220 + y) (210 + y)) (by omega) (by omega) (by rw [copy0_fr (by omega)]; exact hc)
    refine ⟨fun b f h1 h2 h3 => ?_, fun a j h1 h2 => ?_⟩
    · by_cases q : b = y
      · subst q
        rw [i2 _ _ (by omega) (by omega), copy0_val h3]
      · rw [i1 b f (by omega) h2 h3, copy0_fr (by omega)]
    · rw [i2 a j (by omega) h2, copy0_fr (by omega)]
theorem cps_3_2 {cnt nb : Nat} (hcnt : cnt ≤ 20) (hnb : nb ≤ 10) : ∀ (d y n : Nat) (u : tV), y + d = cnt → d + 50 < n → u 3 3 = Int32.ofNat cnt → u 3 4 = Int32.ofNat nb →
    (∀ t f, y ≤ t → t < cnt → f ≤ 12 → g_X6_copy_3_2_34 n (Int32.ofNat y) u (140 + t) f = u (120 + t) f) ∧ (∀ b f, b < nb → f ≤ 3 → g_X6_copy_3_2_34 n (Int32.ofNat y) u (220 + b) f = u (210 + b) f) ∧
    (∀ a j, ¬ (140 + y ≤ a ∧ a < 140 + cnt) → ¬ (220 ≤ a ∧ a < 220 + nb) → (a < 312 ∨ 312 + 6 ≤ a) ∧ (a < 312 + 20 ∨ 312 + 26 ≤ a) → g_X6_copy_3_2_34 n (Int32.ofNat y) u a j = u a j) := by
  intro d
  induction d with
  | zero =>
    intro y n u hd hn hc hb
    obtain ⟨n, rfl⟩ : ∃ k, n = k + 1 := ⟨n - 1, by omega⟩
    have e : g_X6_copy_3_2_34 (n + 1) (Int32.ofNat y) u = g_X6_copy_3_2_65 n (Int32.ofNat 0) u := by
      rw [cps34_3_2]
      simp only [b_X6_copy_3_2_34, bnd, hc]
      rw [if_pos ((le_ofNat (by omega) (by omega)).mpr (by omega))]
      all_goals rfl
    rw [e]
    obtain ⟨b1, b2⟩ := cpb_3_2 hnb nb 0 n u (by omega) (by omega) hb
    exact ⟨fun t f h1 h2 => by omega, fun b f h1 h2 => b1 b f (by omega) h1 h2, fun a j _ h2 h3 => b2 a j (by omega) h3⟩
  | succ d ih =>
    intro y n u hd hn hc hb
    obtain ⟨n, rfl⟩ : ∃ k, n = k + 1 := ⟨n - 1, by omega⟩
    have e : g_X6_copy_3_2_34 (n + 1) (Int32.ofNat y) u = g_X6_copy_3_2_34 n (Int32.ofNat (y + 1)) (f_X7_copy u (140 + y) (120 + y)) := by
      rw [cps34_3_2]
      simp only [b_X6_copy_3_2_34, bnd, hc, clampN (n := y) (by omega), ofNat_succ (n := y) (by omega)]
      rw [if_neg (fun z => by have := (le_ofNat (by omega) (by omega)).mp z; omega)]
    rw [e]
    obtain ⟨i1, i2, i3⟩ := ih (y + 1) n (f_X7_copy u (140 + y) (120 + y)) (by omega) (by omega) (by rw [copy7_fr (by omega)]; exact hc) (by rw [copy7_fr (by omega)]; exact hb)
    refine ⟨fun t f h1 h2 h3 => ?_, fun b f h1 h2 => ?_, fun a j h1 h2 h3 => ?_⟩
    · by_cases q : t = y
      · subst q
        rw [i3 _ _ (by omega) (by omega) (by omega), copy7_val h3 (by omega)]
      · rw [i1 t f (by omega) h2 h3, copy7_fr (by omega)]
    · rw [i2 b f h1 h2, copy7_fr (by omega)]
    · rw [i3 a j (by omega) h2 h3, copy7_fr (by omega)]
theorem cpa_3_2 {u : tV} {cnt nb : Nat} (hcnt : cnt ≤ 20) (hnb : nb ≤ 10) (hc : u 2 3 = Int32.ofNat cnt) (hb : u 2 4 = Int32.ofNat nb) :
    (∀ t f, t < cnt → f ≤ 12 → f_X6_copy_3_2 u (140 + t) f = u (120 + t) f) ∧ (∀ b f, b < nb → f ≤ 3 → f_X6_copy_3_2 u (220 + b) f = u (210 + b) f) ∧
    (∀ a j, a ≠ 3 → ¬ (140 ≤ a ∧ a < 140 + 20) → ¬ (220 ≤ a ∧ a < 220 + 10) → (a < 312 ∨ 312 + 6 ≤ a) ∧ (a < 312 + 20 ∨ 312 + 26 ≤ a) → f_X6_copy_3_2 u a j = u a j) ∧
    f_X6_copy_3_2 u 3 3 = u 2 3 ∧ f_X6_copy_3_2 u 3 4 = u 2 4 ∧ f_X6_copy_3_2 u 3 6 = u 2 6 := by
  simp only [f_X6_copy_3_2, bnd]
  simp (disch := omega) only [up2_n]
  obtain ⟨U, hU⟩ : ∃ z, z = up2 (up2 (up2 (up2 u 3 3 (u 2 3)) 3 4 (u 2 4)) 3 5 (u 2 5)) 3 6 (u 2 6) := ⟨_, rfl⟩
  rw [← hU]
  have f0 : ∀ a j, a ≠ 3 → U a j = u a j := fun a j z => by
    rw [hU]; simp (disch := omega) only [up2_n]
  have e3 : U 3 3 = u 2 3 := by rw [hU]; simp (disch := omega) only [up2_n, up2_s]
  have e4 : U 3 4 = u 2 4 := by rw [hU]; simp (disch := omega) only [up2_n, up2_s]
  have e6 : U 3 6 = u 2 6 := by rw [hU]; simp (disch := omega) only [up2_n, up2_s]
  obtain ⟨i1, i2, i3⟩ := cps_3_2 hcnt hnb cnt 0 100000 U (by omega) (by omega) (e3.trans hc) (e4.trans hb)
  have eo : Int32.ofNat 0 = (0 : Int32) := rfl
  rw [eo] at i1 i2 i3
  generalize g_X6_copy_3_2_34 100000 0 U = V at i1 i2 i3
  refine ⟨fun t f h1 h2 => ?_, fun b f h1 h2 => ?_, fun a j h1 h2 h3 h4 => ?_, ?_, ?_, ?_⟩
  · rw [i1 t f (by omega) h1 h2]; exact f0 _ _ (by omega)
  · rw [i2 b f h1 h2]; exact f0 _ _ (by omega)
  · rw [i3 a j (by omega) (by omega) h4]; exact f0 a j h1
  · rw [i3 _ _ (by omega) (by omega) (by omega)]; exact e3
  · rw [i3 _ _ (by omega) (by omega) (by omega)]; exact e4
  · rw [i3 _ _ (by omega) (by omega) (by omega)]; exact e6
/-! the reference's record -/
theorem nts39 (n : Nat) (y : Int32) (w : tV) : g_X11_note_400_39 (n + 1) y w = b_X11_note_400_39 (g_X11_note_400_39 n) (g_X11_note_400_101 n) y w := rfl
theorem nts101 (n : Nat) (y : Int32) (w : tV) : g_X11_note_400_101 (n + 1) y w = b_X11_note_400_101 (g_X11_note_400_101 n) (g_X11_note_400_141 n) y w := rfl
theorem nts141 (n : Nat) (y : Int32) (w : tV) : g_X11_note_400_141 (n + 1) y w = b_X11_note_400_141 (g_X11_note_400_141 n) y w := rfl
theorem nt141 {sz : Nat} (hsz : sz ≤ 20) : ∀ (d y n : Nat) (w : tV), y + d = sz → d < n → w 400 44 = Int32.ofNat sz →
    (∀ i, y ≤ i → i < sz → g_X11_note_400_141 n (Int32.ofNat y) w 453 i = w 446 i) ∧ (∀ a j, ¬ (a = 453 ∧ y ≤ j) → g_X11_note_400_141 n (Int32.ofNat y) w a j = w a j) := by
  intro d
  induction d with
  | zero =>
    intro y n w hd hn hc
    obtain ⟨n, rfl⟩ : ∃ k, n = k + 1 := ⟨n - 1, by omega⟩
    have e : g_X11_note_400_141 (n + 1) (Int32.ofNat y) w = w := by
      rw [nts141]
      simp only [b_X11_note_400_141, bnd, hc]
      rw [if_pos ((le_ofNat (by omega) (by omega)).mpr (by omega))]
    rw [e]
    exact ⟨fun i h1 h2 => by omega, fun _ _ _ => rfl⟩
  | succ d ih =>
    intro y n w hd hn hc
    obtain ⟨n, rfl⟩ : ∃ k, n = k + 1 := ⟨n - 1, by omega⟩
    have e : g_X11_note_400_141 (n + 1) (Int32.ofNat y) w = g_X11_note_400_141 n (Int32.ofNat (y + 1)) (up2 w 453 y (w 446 y)) := by
      rw [nts141]
      simp only [b_X11_note_400_141, bnd, hc, clampN (n := y) (by omega), ofNat_succ (n := y) (by omega)]
      rw [if_neg (fun z => by have := (le_ofNat (by omega) (by omega)).mp z; omega)]
    rw [e]
    obtain ⟨i1, i2⟩ := ih (y + 1) n (up2 w 453 y (w 446 y)) (by omega) (by omega) (by rw [up2_n _ _ (by omega)]; exact hc)
    refine ⟨fun i h1 h2 => ?_, fun a j h1 => ?_⟩
    · by_cases q : i = y
      · subst q
        rw [i2 _ _ (by omega), up2_s]
      · rw [i1 i (by omega) h2, up2_n _ _ (by omega)]
    · rw [i2 a j (by omega), up2_n _ _ (by omega)]
theorem nt101 {nb sz : Nat} (hnb : nb ≤ 10) (hsz : sz ≤ 20) : ∀ (d y n : Nat) (w : tV), y + d = nb → d + 30 < n → w 400 15 = Int32.ofNat nb → w 400 44 = Int32.ofNat sz →
    (∀ i, y ≤ i → i < nb → g_X11_note_400_101 n (Int32.ofNat y) w 451 i = w 419 i ∧ g_X11_note_400_101 n (Int32.ofNat y) w 452 i = w 420 i) ∧ (∀ i, i < sz → g_X11_note_400_101 n (Int32.ofNat y) w 453 i = w 446 i) ∧
    (∀ a j, ¬ ((a = 451 ∨ a = 452) ∧ y ≤ j) → a ≠ 453 → g_X11_note_400_101 n (Int32.ofNat y) w a j = w a j) := by
  intro d
  induction d with
  | zero =>
    intro y n w hd hn hc hz
    obtain ⟨n, rfl⟩ : ∃ k, n = k + 1 := ⟨n - 1, by omega⟩
    have e : g_X11_note_400_101 (n + 1) (Int32.ofNat y) w = g_X11_note_400_141 n (Int32.ofNat 0) w := by
      rw [nts101]
      simp only [b_X11_note_400_101, bnd, hc]
      rw [if_pos ((le_ofNat (by omega) (by omega)).mpr (by omega))]
      all_goals rfl
    rw [e]
    obtain ⟨b1, b2⟩ := nt141 hsz sz 0 n w (by omega) (by omega) hz
    exact ⟨fun i h1 h2 => by omega, fun i h1 => b1 i (by omega) h1, fun a j _ h2 => b2 a j (by omega)⟩
  | succ d ih =>
    intro y n w hd hn hc hz
    obtain ⟨n, rfl⟩ : ∃ k, n = k + 1 := ⟨n - 1, by omega⟩
    have e : g_X11_note_400_101 (n + 1) (Int32.ofNat y) w = g_X11_note_400_101 n (Int32.ofNat (y + 1)) (up2 (up2 w 451 y (w 419 y)) 452 y (w 420 y)) := by
      rw [nts101]
      simp only [b_X11_note_400_101, bnd, hc, clampN (n := y) (by omega), ofNat_succ (n := y) (by omega)]
      rw [if_neg (fun z => by have := (le_ofNat (by omega) (by omega)).mp z; omega), up2_n _ _ (by omega)]
    rw [e]
    obtain ⟨i1, i2, i3⟩ := ih (y + 1) n (up2 (up2 w 451 y (w 419 y)) 452 y (w 420 y)) (by omega) (by omega) (by rw [up2_n _ _ (by omega), up2_n _ _ (by omega)]; exact hc) (by rw [up2_n _ _ (by omega), up2_n _ _ (by omega)]; exact hz)
    refine ⟨fun i h1 h2 => ?_, fun i h1 => ?_, fun a j h1 h2 => ?_⟩
    · by_cases q : i = y
      · subst q
        rw [i3 _ _ (by omega) (by omega), i3 _ _ (by omega) (by omega), up2_s, up2_n _ _ (by omega), up2_s]
        exact ⟨rfl, rfl⟩
      · obtain ⟨j1, j2⟩ := i1 i (by omega) h2
        rw [j1, j2, up2_n _ _ (by omega), up2_n _ _ (by omega), up2_n _ _ (by omega), up2_n _ _ (by omega)]
        exact ⟨rfl, rfl⟩
    · rw [i2 i h1, up2_n _ _ (by omega), up2_n _ _ (by omega)]
    · rw [i3 a j (by omega) h2, up2_n _ _ (by omega), up2_n _ _ (by omega)]
theorem nt39 {cnt nb sz : Nat} (hcnt : cnt ≤ 20) (hnb : nb ≤ 10) (hsz : sz ≤ 20) : ∀ (d y n : Nat) (w : tV), y + d = cnt → d + 100 < n → w 400 1 = Int32.ofNat cnt → w 400 15 = Int32.ofNat nb → w 400 44 = Int32.ofNat sz →
    (∀ t, y ≤ t → t < cnt → g_X11_note_400_39 n (Int32.ofNat y) w 450 (4 * t) = w 410 t ∧ g_X11_note_400_39 n (Int32.ofNat y) w 450 (4 * t + 1) = w 409 t ∧ g_X11_note_400_39 n (Int32.ofNat y) w 450 (4 * t + 2) = w 406 t) ∧
    (∀ i, i < nb → g_X11_note_400_39 n (Int32.ofNat y) w 451 i = w 419 i ∧ g_X11_note_400_39 n (Int32.ofNat y) w 452 i = w 420 i) ∧ (∀ i, i < sz → g_X11_note_400_39 n (Int32.ofNat y) w 453 i = w 446 i) ∧
    (∀ a j, ¬ (a = 450 ∧ 4 * y ≤ j) → a ≠ 451 ∧ a ≠ 452 ∧ a ≠ 453 → g_X11_note_400_39 n (Int32.ofNat y) w a j = w a j) := by
  intro d
  induction d with
  | zero =>
    intro y n w hd hn hc hb hz
    obtain ⟨n, rfl⟩ : ∃ k, n = k + 1 := ⟨n - 1, by omega⟩
    have e : g_X11_note_400_39 (n + 1) (Int32.ofNat y) w = g_X11_note_400_101 n (Int32.ofNat 0) w := by
      rw [nts39]
      simp only [b_X11_note_400_39, bnd, hc]
      rw [if_pos ((le_ofNat (by omega) (by omega)).mpr (by omega))]
      all_goals rfl
    rw [e]
    obtain ⟨b1, b2, b3⟩ := nt101 hnb hsz nb 0 n w (by omega) (by omega) hb hz
    exact ⟨fun i h1 h2 => by omega, fun i h1 => b1 i (by omega) h1, b2, fun a j _ h2 => b3 a j (by omega) (by omega)⟩
  | succ d ih =>
    intro y n w hd hn hc hb hz
    obtain ⟨n, rfl⟩ : ∃ k, n = k + 1 := ⟨n - 1, by omega⟩
    have h9 := ix40 (y := y) (by omega)
    have h1 := ix4 (k := 1) (y := y) (by omega) (by omega : 1 < 9) rfl
    have h2 := ix4 (k := 2) (y := y) (by omega) (by omega : 2 < 9) rfl
    obtain ⟨W, hW⟩ : ∃ z, z = up2 (up2 (up2 w 450 (4 * y) (w 410 y)) 450 (4 * y + 1) (w 409 y)) 450 (4 * y + 2) (w 406 y) := ⟨_, rfl⟩
    have e : g_X11_note_400_39 (n + 1) (Int32.ofNat y) w = g_X11_note_400_39 n (Int32.ofNat (y + 1)) W := by
      rw [nts39, hW]
      simp only [b_X11_note_400_39, bnd, hc, clampN (n := y) (by omega), ofNat_succ (n := y) (by omega), h9, h1, h2]
      rw [if_neg (fun z => by have := (le_ofNat (by omega) (by omega)).mp z; omega)]
      simp (disch := omega) only [up2_n]
    rw [e]
    have fW : ∀ a j, ¬ (a = 450 ∧ 4 * y ≤ j ∧ j < 4 * y + 4) → W a j = w a j := fun a j z => by
      rw [hW]; simp (disch := omega) only [up2_n]
    have v0 : W 450 (4 * y) = w 410 y := by rw [hW]; simp (disch := omega) only [up2_n, up2_s]
    have v1 : W 450 (4 * y + 1) = w 409 y := by rw [hW]; simp (disch := omega) only [up2_n, up2_s]
    have v2 : W 450 (4 * y + 2) = w 406 y := by rw [hW]; simp (disch := omega) only [up2_n, up2_s]
    obtain ⟨i1, i2, i3, i4⟩ := ih (y + 1) n W (by omega) (by omega) (by rw [fW _ _ (by omega)]; exact hc) (by rw [fW _ _ (by omega)]; exact hb) (by rw [fW _ _ (by omega)]; exact hz)
    refine ⟨fun t h1 h2 => ?_, fun i h1 => ?_, fun i h1 => ?_, fun a j h1 h2 => ?_⟩
    · by_cases q : t = y
      · subst q
        rw [i4 _ _ (by omega) (by omega), i4 _ _ (by omega) (by omega), i4 _ _ (by omega) (by omega)]
        exact ⟨v0, v1, v2⟩
      · obtain ⟨j1, j2, j3⟩ := i1 t (by omega) h2
        rw [j1, j2, j3]
        exact ⟨fW _ _ (by omega), fW _ _ (by omega), fW _ _ (by omega)⟩
    · obtain ⟨j1, j2⟩ := i2 i h1
      rw [j1, j2]
      exact ⟨fW _ _ (by omega), fW _ _ (by omega)⟩
    · rw [i3 i h1]; exact fW _ _ (by omega)
    · rw [i4 a j (by omega) h2]; exact fW _ _ (by omega)
theorem note_val {w : tV} {cnt nb sz : Nat} (hcnt : cnt ≤ 20) (hnb : nb ≤ 10) (hsz : sz ≤ 20) (hc : w 400 1 = Int32.ofNat cnt) (hb : w 400 15 = Int32.ofNat nb) (hz : w 400 44 = Int32.ofNat sz) :
    (∀ t, t < cnt → f_X11_note_400 w 450 (4 * t) = w 410 t ∧ f_X11_note_400 w 450 (4 * t + 1) = w 409 t ∧ f_X11_note_400 w 450 (4 * t + 2) = w 406 t) ∧
    (∀ i, i < nb → f_X11_note_400 w 451 i = w 419 i ∧ f_X11_note_400 w 452 i = w 420 i) ∧ (∀ i, i < sz → f_X11_note_400 w 453 i = w 446 i) ∧
    f_X11_note_400 w 400 53 = w 400 1 ∧ f_X11_note_400 w 400 54 = w 400 44 ∧ f_X11_note_400 w 400 55 = w 400 15 ∧ f_X11_note_400 w 400 56 = w 400 26 := by
  simp only [f_X11_note_400, bnd]
  simp (disch := omega) only [up2_n]
  obtain ⟨W, hW⟩ : ∃ z, z = up2 (up2 (up2 (up2 (up2 w 400 57 1) 400 53 (w 400 1)) 400 54 (w 400 44)) 400 55 (w 400 15)) 400 56 (w 400 26) := ⟨_, rfl⟩
  rw [← hW]
  have f0 : ∀ a j, ¬ (a = 400 ∧ 53 ≤ j ∧ j ≤ 57) → W a j = w a j := fun a j z => by
    rw [hW]; simp (disch := omega) only [up2_n]
  have e3 : W 400 53 = w 400 1 := by rw [hW]; simp (disch := omega) only [up2_n, up2_s]
  have e4 : W 400 54 = w 400 44 := by rw [hW]; simp (disch := omega) only [up2_n, up2_s]
  have e5 : W 400 55 = w 400 15 := by rw [hW]; simp (disch := omega) only [up2_n, up2_s]
  have e6 : W 400 56 = w 400 26 := by rw [hW]; simp (disch := omega) only [up2_n, up2_s]
  obtain ⟨i1, i2, i3, i4⟩ := nt39 hcnt hnb hsz cnt 0 100000 W (by omega) (by omega) (by rw [f0 _ _ (by omega)]; exact hc) (by rw [f0 _ _ (by omega)]; exact hb) (by rw [f0 _ _ (by omega)]; exact hz)
  have eo : Int32.ofNat 0 = (0 : Int32) := rfl
  rw [eo] at i1 i2 i3 i4
  generalize g_X11_note_400_39 100000 0 W = V at i1 i2 i3 i4
  refine ⟨fun t h1 => ?_, fun i h1 => ?_, fun i h1 => ?_, ?_, ?_, ?_, ?_⟩
  · obtain ⟨j1, j2, j3⟩ := i1 t (by omega) h1
    rw [j1, j2, j3]
    exact ⟨f0 _ _ (by omega), f0 _ _ (by omega), f0 _ _ (by omega)⟩
  · obtain ⟨j1, j2⟩ := i2 i h1
    rw [j1, j2]
    exact ⟨f0 _ _ (by omega), f0 _ _ (by omega)⟩
  · rw [i3 i h1]; exact f0 _ _ (by omega)
  · rw [i4 _ _ (by omega) (by omega)]; exact e3
  · rw [i4 _ _ (by omega) (by omega)]; exact e4
  · rw [i4 _ _ (by omega) (by omega)]; exact e5
  · rw [i4 _ _ (by omega) (by omega)]; exact e6
/-- what both keep of the latest market -/
def RelM (u w : tV) : Prop := u 0 10 = 0 ∨ ∃ cnt nb sz : Nat, cnt ≤ 20 ∧ nb ≤ 10 ∧ sz ≤ 20 ∧ u 2 3 = Int32.ofNat cnt ∧ w 400 53 = Int32.ofNat cnt ∧ u 2 4 = Int32.ofNat nb ∧ w 400 55 = Int32.ofNat nb ∧ u 21 2 = Int32.ofNat sz ∧ w 400 54 = Int32.ofNat sz ∧ u 2 6 = w 400 56 ∧ (cnt : Int) ≤ (u 1 3).toInt ∧ (nb : Int) ≤ (u 1 4).toInt ∧
  (∀ t, t < cnt → u (120 + t) 0 = u (100 + t) 0 ∧ u (120 + t) 1 = u (100 + t) 1 ∧ u (120 + t) 3 = w 450 (4 * t + 2) ∧ u (120 + t) 6 = w 450 (4 * t + 1) ∧ u (120 + t) 7 = w 450 (4 * t) ∧ 0 ≤ (u (120 + t) 6).toInt ∧ (u (120 + t) 6).toInt ≤ 400 ∧ 0 ≤ (u (120 + t) 7).toInt) ∧
  (∀ b, b < nb → u (210 + b) 1 = u (200 + b) 1 ∧ u (210 + b) 2 = w 451 b ∧ u (210 + b) 3 = w 452 b ∧ 0 ≤ (u (210 + b) 2).toInt ∧ (u (210 + b) 2).toInt ≤ 2000 ∧ 0 ≤ (u (210 + b) 0).toInt ∧ (u (210 + b) 0).toInt ≤ 5) ∧
  (∀ i, i < sz → ∃ t : Nat, t < cnt ∧ u 23 i = Int32.ofNat t ∧ w 453 i = Int32.ofNat t) ∧ (∀ i j, i < j → j < sz → u 23 i ≠ u 23 j)
theorem RelM.kp {u w u1 w1 : tV} (h : RelM u w) (hC : ∀ a j, (a = 0 ∧ j = 10) ∨ a = 2 ∨ (a = 21 ∧ j = 2) ∨ a = 23 ∨ (120 ≤ a ∧ a < 140) ∨ (210 ≤ a ∧ a < 220) → u1 a j = u a j) (hn : (u 1 3).toInt ≤ (u1 1 3).toInt) (hb : (u 1 4).toInt ≤ (u1 1 4).toInt)
    (hs : ∀ (t f : Nat), t < 20 → (t : Int) < (u 1 3).toInt → f ≤ 1 → u1 (100 + t) f = u (100 + t) f) (hbu : ∀ (t : Nat), t < 10 → (t : Int) < (u 1 4).toInt → u1 (200 + t) 1 = u (200 + t) 1) (hM : ∀ a j, (a = 400 ∧ 53 ≤ j ∧ j ≤ 56) ∨ (450 ≤ a ∧ a ≤ 453) → w1 a j = w a j) : RelM u1 w1 := by
  rcases h with h | ⟨cnt, nb, sz, a1, a2, a3, b1, b2, b3, b4, b5, b6, b7, c1, c2, d1, d2, d3, d4⟩
  · exact Or.inl (by rw [hC 0 10 (by omega)]; exact h)
  · refine Or.inr ⟨cnt, nb, sz, a1, a2, a3, by rw [hC _ _ (by omega)]; exact b1, by rw [hM _ _ (by omega)]; exact b2, by rw [hC _ _ (by omega)]; exact b3, by rw [hM _ _ (by omega)]; exact b4, by rw [hC _ _ (by omega)]; exact b5, by rw [hM _ _ (by omega)]; exact b6, by rw [hC _ _ (by omega), hM _ _ (by omega)]; exact b7, by omega, by omega, fun t ht => ?_, fun b ht => ?_, fun i hi => ?_, fun i j hij hj => ?_⟩
    · rw [hC (120 + t) 0 (by omega), hC (120 + t) 1 (by omega), hC (120 + t) 3 (by omega), hC (120 + t) 6 (by omega), hC (120 + t) 7 (by omega), hM _ _ (by omega), hM _ _ (by omega), hM _ _ (by omega), hs t 0 (by omega) (by omega) (by omega), hs t 1 (by omega) (by omega) (by omega)]
      exact d1 t ht
    · rw [hC (210 + b) 0 (by omega), hC (210 + b) 1 (by omega), hC (210 + b) 2 (by omega), hC (210 + b) 3 (by omega), hM _ _ (by omega), hM _ _ (by omega), hbu b (by omega) (by omega)]
      exact d2 b ht
    · rw [hC _ _ (by omega), hM _ _ (by omega)]; exact d3 i hi
    · rw [hC _ _ (by omega), hC _ _ (by omega)]; exact d4 i j hij hj
/-- the record at the opening of a market -/
theorem snap_rel {u w : tV} {cnt nb sz : Nat} (hcnt : cnt ≤ 20) (hnb : nb ≤ 10) (hsz : sz ≤ 20) (hW : RelW u w) (hc : u 1 3 = Int32.ofNat cnt) (hb : u 1 4 = Int32.ofNat nb) (hz : u 21 2 = Int32.ofNat sz) (hzm : w 400 44 = Int32.ofNat sz)
    (hT : ∀ t, t < 20 → 0 ≤ (u (100 + t) 6).toInt ∧ (u (100 + t) 6).toInt ≤ 400 ∧ 0 ≤ (u (100 + t) 7).toInt) (hT2 : ∀ b, b < 10 → 0 ≤ (u (200 + b) 2).toInt ∧ (u (200 + b) 2).toInt ≤ 2000) (hT3 : ∀ b, b < 10 → 0 ≤ (u (200 + b) 0).toInt ∧ (u (200 + b) 0).toInt ≤ 5)
    (hent : ∀ i, i < sz → ∃ t : Nat, t < cnt ∧ u 23 i = Int32.ofNat t ∧ w 446 i = Int32.ofNat t) (hinj : ∀ i j, i < j → j < sz → u 23 i ≠ u 23 j) : RelM (up2 (f_X6_copy_2_1 u) 0 10 1) (f_X11_note_400 w) := by
  have hcm : w 400 1 = Int32.ofNat cnt := hW.n.symm.trans hc
  have hbm : w 400 15 = Int32.ofNat nb := hW.nb.symm.trans hb
  obtain ⟨p1, p2, p3, p4, p5, p6⟩ := cpa_2_1 hcnt hnb hc hb
  obtain ⟨n1, n2, n3, n4, n5, n6, n7⟩ := note_val hcnt hnb hsz hcm hbm hzm
  have f : ∀ a j, a ≠ 0 → up2 (f_X6_copy_2_1 u) 0 10 1 a j = f_X6_copy_2_1 u a j := fun a j z => up2_n _ _ (fun q => z q.1)
  have ec := ofNat_int (n := cnt) (by omega)
  have eb := ofNat_int (n := nb) (by omega)
  refine Or.inr ⟨cnt, nb, sz, hcnt, hnb, hsz, by rw [f _ _ (by omega), p4]; exact hc, by rw [n4]; exact hcm, by rw [f _ _ (by omega), p5]; exact hb, by rw [n6]; exact hbm, by rw [f _ _ (by omega), p3 _ _ (by omega) (by omega) (by omega) (by omega)]; exact hz, by rw [n5]; exact hzm, by rw [f _ _ (by omega), p6, n7]; exact hW.pr, by rw [f _ _ (by omega), p3 _ _ (by omega) (by omega) (by omega) (by omega), hc, ec]; omega, by rw [f _ _ (by omega), p3 _ _ (by omega) (by omega) (by omega) (by omega), hb, eb]; omega, fun t ht => ?_, fun b ht => ?_, fun i hi => ?_, fun i j hij hj => ?_⟩
  · obtain ⟨m1, m2, m3⟩ := n1 t ht
    rw [f _ _ (by omega), f _ _ (by omega), f _ _ (by omega), f _ _ (by omega), f _ _ (by omega), f _ _ (by omega), f _ _ (by omega), p1 t 0 ht (by omega), p1 t 1 ht (by omega), p1 t 3 ht (by omega), p1 t 6 ht (by omega), p1 t 7 ht (by omega), p3 _ _ (by omega) (by omega) (by omega) (by omega), p3 _ _ (by omega) (by omega) (by omega) (by omega), m1, m2, m3]
    exact ⟨rfl, rfl, hW.ship t 3 (by omega) (by omega), hW.ship t 6 (by omega) (by omega), hW.ship t 7 (by omega) (by omega), hT t (by omega)⟩
  · obtain ⟨m1, m2⟩ := n2 b ht
    rw [f _ _ (by omega), f _ _ (by omega), f _ _ (by omega), f _ _ (by omega), f _ _ (by omega), p2 b 0 ht (by omega), p2 b 1 ht (by omega), p2 b 2 ht (by omega), p2 b 3 ht (by omega), p3 _ _ (by omega) (by omega) (by omega) (by omega), m1, m2]
    obtain ⟨q1, q2⟩ := hT2 b (by omega)
    exact ⟨rfl, hW.buyer b 2 (by omega) (by omega), hW.buyer b 3 (by omega) (by omega), q1, q2, hT3 b (by omega)⟩
  · rw [f _ _ (by omega), p3 _ _ (by omega) (by omega) (by omega) (by omega), n3 i hi]
    exact hent i hi
  · rw [f _ _ (by omega), f _ _ (by omega), p3 _ _ (by omega) (by omega) (by omega) (by omega), p3 _ _ (by omega) (by omega) (by omega) (by omega)]
    exact hinj i j hij hj
