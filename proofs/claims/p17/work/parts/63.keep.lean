/-! WHAT A TRIAL PUTS ASIDE AND PUTS BACK -/
theorem ix9 {y i : Nat} {k : Int32} (hy : y < 100) (hi : i < 9) (hk : k = Int32.ofNat i) : ((9 : Int32) * Int32.ofNat y + k).toNatClampNeg = 9 * y + i := by
  have z9 : (9 : Int32).toInt = 9 := rfl
  have ey := ofNat_int (n := y) (by omega)
  have ei := ofNat_int (n := i) (by omega)
  have e1 : ((9 : Int32) * Int32.ofNat y).toInt = 9 * (y : Int) := by rw [i_mul (by rw [z9, ey]; omega) (by rw [z9, ey]; omega), z9, ey]
  have e2 : ((9 : Int32) * Int32.ofNat y + Int32.ofNat i).toInt = 9 * (y : Int) + i := by rw [i_add (by rw [e1, ei]; omega) (by rw [e1, ei]; omega), e1, ei]
  have := clampI (x := (9 : Int32) * Int32.ofNat y + Int32.ofNat i) (by omega)
  rw [hk]; omega
theorem ix90 {y : Nat} (hy : y < 100) : ((9 : Int32) * Int32.ofNat y).toNatClampNeg = 9 * y := by
  have := ix9 (k := 0) hy (by omega : 0 < 9) rfl
  rw [Int32.add_zero] at this
  exact this
theorem ix4 {y i : Nat} {k : Int32} (hy : y < 100) (hi : i < 9) (hk : k = Int32.ofNat i) : ((4 : Int32) * Int32.ofNat y + k).toNatClampNeg = 4 * y + i := by
  have z9 : (4 : Int32).toInt = 4 := rfl
  have ey := ofNat_int (n := y) (by omega)
  have ei := ofNat_int (n := i) (by omega)
  have e1 : ((4 : Int32) * Int32.ofNat y).toInt = 4 * (y : Int) := by rw [i_mul (by rw [z9, ey]; omega) (by rw [z9, ey]; omega), z9, ey]
  have e2 : ((4 : Int32) * Int32.ofNat y + Int32.ofNat i).toInt = 4 * (y : Int) + i := by rw [i_add (by rw [e1, ei]; omega) (by rw [e1, ei]; omega), e1, ei]
  have := clampI (x := (4 : Int32) * Int32.ofNat y + Int32.ofNat i) (by omega)
  rw [hk]; omega
theorem ix40 {y : Nat} (hy : y < 100) : ((4 : Int32) * Int32.ofNat y).toNatClampNeg = 4 * y := by
  have := ix4 (k := 0) hy (by omega : 0 < 9) rfl
  rw [Int32.add_zero] at this
  exact this
theorem ixa {y i : Nat} {k : Int32} (hy : y < 100) (hi : i < 100) (hk : k = Int32.ofNat i) : (k + Int32.ofNat y).toNatClampNeg = i + y := by
  have ey := ofNat_int (n := y) (by omega)
  have ei := ofNat_int (n := i) (by omega)
  have e2 : (Int32.ofNat i + Int32.ofNat y).toInt = (i : Int) + y := by rw [i_add (by rw [ey, ei]; omega) (by rw [ey, ei]; omega), ey, ei]
  have := clampI (x := Int32.ofNat i + Int32.ofNat y) (by omega)
  rw [hk]; omega
theorem le_ofNat {c y : Nat} (hc : c < 1000) (hy : y < 1000) : (Int32.ofNat c ≤ Int32.ofNat y) ↔ c ≤ y := by
  rw [Int32.le_iff_toInt_le, ofNat_int (by omega), ofNat_int (by omega)]
  omega
/-! putting aside -/
def keepShip (y : Nat) (v : tV) : tV := up2 (up2 (up2 (up2 (up2 (up2 (up2 (up2 v 447 (9 * y) (v 408 y)) 447 (9 * y + 1) (v 409 y)) 447 (9 * y + 2) (v 410 y)) 447 (9 * y + 3) (v 411 y)) 447 (9 * y + 4) (v 412 y)) 447 (9 * y + 5) (v 413 y)) 447 (9 * y + 6) (v 414 y)) 447 (9 * y + 7) (v 415 y)
def backShip (y : Nat) (v : tV) : tV := up2 (up2 (up2 (up2 (up2 (up2 (up2 (up2 v 408 y (v 447 (9 * y))) 409 y (v 447 (9 * y + 1))) 410 y (v 447 (9 * y + 2))) 411 y (v 447 (9 * y + 3))) 412 y (v 447 (9 * y + 4))) 413 y (v 447 (9 * y + 5))) 414 y (v 447 (9 * y + 6))) 415 y (v 447 (9 * y + 7))
def keepWard (y : Nat) (v : tV) : tV := up2 (up2 (up2 (up2 v 448 y (v 421 y)) 448 (6 + y) (v 422 y)) 448 (12 + y) (v 423 y)) 448 (18 + y) (v 424 y)
def backWard (y : Nat) (v : tV) : tV := up2 (up2 (up2 (up2 v 421 y (v 448 y)) 422 y (v 448 (6 + y))) 423 y (v 448 (12 + y))) 424 y (v 448 (18 + y))
def keepBar (y : Nat) (v : tV) : tV := up2 (up2 (up2 (up2 v 449 (4 * y) (v 429 y)) 449 (4 * y + 1) (v 430 y)) 449 (4 * y + 2) (v 431 y)) 449 (4 * y + 3) (v 432 y)
def backBar (y : Nat) (v : tV) : tV := up2 (up2 (up2 (up2 v 429 y (v 449 (4 * y))) 430 y (v 449 (4 * y + 1))) 431 y (v 449 (4 * y + 2))) 432 y (v 449 (4 * y + 3))
def keepSc (v : tV) : tV := up2 (up2 (up2 (up2 (up2 v 448 34 (v 400 25)) 448 35 (v 400 26)) 448 36 (v 400 27)) 448 37 (v 400 58)) 448 38 (v 400 59)
def backSc (v : tV) : tV := up2 (up2 (up2 (up2 (up2 v 400 25 (v 448 34)) 400 26 (v 448 35)) 400 27 (v 448 36)) 400 58 (v 448 37)) 400 59 (v 448 38)
theorem c34 : ((34 : Int32).toNatClampNeg = 34) ∧ ((35 : Int32).toNatClampNeg = 35) ∧ ((36 : Int32).toNatClampNeg = 36) ∧ ((37 : Int32).toNatClampNeg = 37) ∧ ((38 : Int32).toNatClampNeg = 38) := by decide
theorem keep_b2 {rc rd : Int32 → tV → tV} {y : Nat} {v : tV} (hy : y < 99) : b_X11_keep_400_2 rc rd (Int32.ofNat y) v = if v 400 1 ≤ Int32.ofNat y then rd 0 v else rc (Int32.ofNat (y + 1)) (keepShip y v) := by
  have h9 := ix90 (y := y) (by omega)
  have h1 := ix9 (k := 1) (y := y) (by omega) (by omega : 1 < 9) rfl
  have h2 := ix9 (k := 2) (y := y) (by omega) (by omega : 2 < 9) rfl
  have h3 := ix9 (k := 3) (y := y) (by omega) (by omega : 3 < 9) rfl
  have h4 := ix9 (k := 4) (y := y) (by omega) (by omega : 4 < 9) rfl
  have h5 := ix9 (k := 5) (y := y) (by omega) (by omega : 5 < 9) rfl
  have h6 := ix9 (k := 6) (y := y) (by omega) (by omega : 6 < 9) rfl
  have h7 := ix9 (k := 7) (y := y) (by omega) (by omega : 7 < 9) rfl
  simp (disch := omega) only [b_X11_keep_400_2, bnd_eq, h9, h1, h2, h3, h4, h5, h6, h7, clampN, ofNat_succ, up2_n, keepShip]
theorem back_b2 {rc rd : Int32 → tV → tV} {y : Nat} {v : tV} (hy : y < 99) : b_X11_putBack_400_2 rc rd (Int32.ofNat y) v = if v 400 1 ≤ Int32.ofNat y then rd 0 v else rc (Int32.ofNat (y + 1)) (backShip y v) := by
  have h9 := ix90 (y := y) (by omega)
  have h1 := ix9 (k := 1) (y := y) (by omega) (by omega : 1 < 9) rfl
  have h2 := ix9 (k := 2) (y := y) (by omega) (by omega : 2 < 9) rfl
  have h3 := ix9 (k := 3) (y := y) (by omega) (by omega : 3 < 9) rfl
  have h4 := ix9 (k := 4) (y := y) (by omega) (by omega : 4 < 9) rfl
  have h5 := ix9 (k := 5) (y := y) (by omega) (by omega : 5 < 9) rfl
  have h6 := ix9 (k := 6) (y := y) (by omega) (by omega : 6 < 9) rfl
  have h7 := ix9 (k := 7) (y := y) (by omega) (by omega : 7 < 9) rfl
  simp (disch := omega) only [b_X11_putBack_400_2, bnd_eq, h9, h1, h2, h3, h4, h5, h6, h7, clampN, ofNat_succ, up2_n, backShip]
theorem keep_b154 {rc rd : Int32 → tV → tV} {y : Nat} {v : tV} (hy : y < 50) : b_X11_keep_400_154 rc rd (Int32.ofNat y) v = if (6 : Int32) ≤ Int32.ofNat y then rd 0 v else rc (Int32.ofNat (y + 1)) (keepWard y v) := by
  have h1 := ixa (k := 6) (y := y) (by omega) (by omega : 6 < 100) rfl
  have h2 := ixa (k := 12) (y := y) (by omega) (by omega : 12 < 100) rfl
  have h3 := ixa (k := 18) (y := y) (by omega) (by omega : 18 < 100) rfl
  simp (disch := omega) only [b_X11_keep_400_154, bnd_eq, h1, h2, h3, clampN, ofNat_succ, up2_n, keepWard]
theorem back_b154 {rc rd : Int32 → tV → tV} {y : Nat} {v : tV} (hy : y < 50) : b_X11_putBack_400_154 rc rd (Int32.ofNat y) v = if (6 : Int32) ≤ Int32.ofNat y then rd 0 v else rc (Int32.ofNat (y + 1)) (backWard y v) := by
  have h1 := ixa (k := 6) (y := y) (by omega) (by omega : 6 < 100) rfl
  have h2 := ixa (k := 12) (y := y) (by omega) (by omega : 12 < 100) rfl
  have h3 := ixa (k := 18) (y := y) (by omega) (by omega : 18 < 100) rfl
  simp (disch := omega) only [b_X11_putBack_400_154, bnd_eq, h1, h2, h3, clampN, ofNat_succ, up2_n, backWard]
theorem keep_b225 {rc rd : Int32 → tV → tV} {y : Nat} {v : tV} (hy : y < 50) : b_X11_keep_400_225 rc rd (Int32.ofNat y) v = if v 400 15 ≤ Int32.ofNat y then rd 0 (keepSc v) else rc (Int32.ofNat (y + 1)) (up2 v 448 (24 + y) (v 419 y)) := by
  have h1 := ixa (k := 24) (y := y) (by omega) (by omega : 24 < 100) rfl
  obtain ⟨a, b, c, d, e⟩ := c34
  simp (disch := omega) only [b_X11_keep_400_225, bnd_eq, h1, a, b, c, d, e, clampN, ofNat_succ, up2_n, keepSc]
theorem back_b225 {rc rd : Int32 → tV → tV} {y : Nat} {v : tV} (hy : y < 50) : b_X11_putBack_400_225 rc rd (Int32.ofNat y) v = if v 400 15 ≤ Int32.ofNat y then rd 0 (backSc v) else rc (Int32.ofNat (y + 1)) (up2 v 419 y (v 448 (24 + y))) := by
  have h1 := ixa (k := 24) (y := y) (by omega) (by omega : 24 < 100) rfl
  obtain ⟨a, b, c, d, e⟩ := c34
  simp (disch := omega) only [b_X11_putBack_400_225, bnd_eq, h1, a, b, c, d, e, clampN, ofNat_succ, up2_n, backSc]
theorem keep_b311 {rc : Int32 → tV → tV} {y : Nat} {v : tV} (hy : y < 50) : b_X11_keep_400_311 rc (Int32.ofNat y) v = if v 400 27 ≤ Int32.ofNat y then v else rc (Int32.ofNat (y + 1)) (keepBar y v) := by
  have h9 := ix40 (y := y) (by omega)
  have h1 := ix4 (k := 1) (y := y) (by omega) (by omega : 1 < 9) rfl
  have h2 := ix4 (k := 2) (y := y) (by omega) (by omega : 2 < 9) rfl
  have h3 := ix4 (k := 3) (y := y) (by omega) (by omega : 3 < 9) rfl
  simp (disch := omega) only [b_X11_keep_400_311, bnd_eq, h9, h1, h2, h3, clampN, ofNat_succ, up2_n, keepBar]
theorem back_b311 {rc : Int32 → tV → tV} {y : Nat} {v : tV} (hy : y < 50) : b_X11_putBack_400_311 rc (Int32.ofNat y) v = if v 400 27 ≤ Int32.ofNat y then v else rc (Int32.ofNat (y + 1)) (backBar y v) := by
  have h9 := ix40 (y := y) (by omega)
  have h1 := ix4 (k := 1) (y := y) (by omega) (by omega : 1 < 9) rfl
  have h2 := ix4 (k := 2) (y := y) (by omega) (by omega : 2 < 9) rfl
  have h3 := ix4 (k := 3) (y := y) (by omega) (by omega : 3 < 9) rfl
  simp (disch := omega) only [b_X11_putBack_400_311, bnd_eq, h9, h1, h2, h3, clampN, ofNat_succ, up2_n, backBar]
/-! what lies aside: of ships below y1, wards below y2, buyers below y3, scalars, bargains below y4 -/
def KS (y1 y2 y3 : Nat) (sc : Prop) (y4 : Nat) (w v : tV) : Prop := (∀ s i, s < y1 → i < 8 → v 447 (9 * s + i) = w (408 + i) s) ∧ (∀ s i, s < y2 → i < 4 → v 448 (6 * i + s) = w (421 + i) s) ∧ (∀ s, s < y3 → v 448 (24 + s) = w 419 s) ∧ (sc → v 448 34 = w 400 25 ∧ v 448 35 = w 400 26 ∧ v 448 36 = w 400 27) ∧ (∀ s i, s < y4 → i < 4 → v 449 (4 * s + i) = w (429 + i) s)
def K0 (w v : tV) : Prop := ∀ a j, a < 447 → v a j = w a j
theorem KS.ship {y : Nat} {w v : tV} (h0 : K0 w v) (h : KS y 0 0 False 0 w v) : K0 w (keepShip y v) ∧ KS (y + 1) 0 0 False 0 w (keepShip y v) := by
  refine ⟨fun a j ha => ?_, fun s i hs hi => ?_, fun s i hs => absurd hs (Nat.not_lt_zero s), fun s hs => absurd hs (Nat.not_lt_zero s), False.elim, fun s i hs => absurd hs (Nat.not_lt_zero s)⟩
  · simp (disch := omega) only [keepShip, up2_n]; exact h0 a j ha
  · by_cases q : s = y
    · subst q
      have : i = 0 ∨ i = 1 ∨ i = 2 ∨ i = 3 ∨ i = 4 ∨ i = 5 ∨ i = 6 ∨ i = 7 := by omega
      rcases this with rfl | rfl | rfl | rfl | rfl | rfl | rfl | rfl <;> (simp (disch := omega) only [keepShip, up2_n, up2_s, Nat.add_zero]; exact h0 _ _ (by omega))
    · simp (disch := omega) only [keepShip, up2_n]; exact h.1 s i (by omega) hi
theorem KS.ward {c y : Nat} {w v : tV} (hy : y < 6) (h0 : K0 w v) (h : KS c y 0 False 0 w v) : K0 w (keepWard y v) ∧ KS c (y + 1) 0 False 0 w (keepWard y v) := by
  refine ⟨fun a j ha => ?_, fun s i hs hi => ?_, fun s i hs hi => ?_, fun s hs => absurd hs (Nat.not_lt_zero s), False.elim, fun s i hs => absurd hs (Nat.not_lt_zero s)⟩
  · simp (disch := omega) only [keepWard, up2_n]; exact h0 a j ha
  · simp (disch := omega) only [keepWard, up2_n]; exact h.1 s i hs hi
  · by_cases q : s = y
    · subst q
      have : i = 0 ∨ i = 1 ∨ i = 2 ∨ i = 3 := by omega
      rcases this with rfl | rfl | rfl | rfl <;> (simp (disch := omega) only [keepWard, up2_n, up2_s, Nat.mul_zero, Nat.zero_add, Nat.mul_one, Nat.reduceMul]; exact h0 _ _ (by omega))
    · simp (disch := omega) only [keepWard, up2_n]; exact h.2.1 s i (by omega) hi
theorem KS.buyer {c y : Nat} {w v : tV} (hy : y < 10) (h0 : K0 w v) (h : KS c 6 y False 0 w v) : K0 w (up2 v 448 (24 + y) (v 419 y)) ∧ KS c 6 (y + 1) False 0 w (up2 v 448 (24 + y) (v 419 y)) := by
  refine ⟨fun a j ha => ?_, fun s i hs hi => ?_, fun s i hs hi => ?_, fun s hs => ?_, False.elim, fun s i hs => absurd hs (Nat.not_lt_zero s)⟩
  · rw [up2_n _ _ (by omega)]; exact h0 a j ha
  · rw [up2_n _ _ (by omega)]; exact h.1 s i hs hi
  · rw [up2_n _ _ (by omega)]; exact h.2.1 s i hs hi
  · by_cases q : s = y
    · subst q; rw [up2_s]; exact h0 _ _ (by omega)
    · rw [up2_n _ _ (by omega)]; exact h.2.2.1 s (by omega)
theorem KS.sc {c b : Nat} {w v : tV} (hb : b ≤ 10) (h0 : K0 w v) (h : KS c 6 b False 0 w v) : K0 w (keepSc v) ∧ KS c 6 b True 0 w (keepSc v) := by
  refine ⟨fun a j ha => ?_, fun s i hs hi => ?_, fun s i hs hi => ?_, fun s hs => ?_, fun _ => ⟨?_, ?_, ?_⟩, fun s i hs => absurd hs (Nat.not_lt_zero s)⟩
  · simp (disch := omega) only [keepSc, up2_n]; exact h0 a j ha
  · simp (disch := omega) only [keepSc, up2_n]; exact h.1 s i hs hi
  · simp (disch := omega) only [keepSc, up2_n]; exact h.2.1 s i hs hi
  · simp (disch := omega) only [keepSc, up2_n]; exact h.2.2.1 s hs
  · simp (disch := omega) only [keepSc, up2_n, up2_s]; exact h0 _ _ (by omega)
  · simp (disch := omega) only [keepSc, up2_n, up2_s]; exact h0 _ _ (by omega)
  · simp (disch := omega) only [keepSc, up2_n, up2_s]; exact h0 _ _ (by omega)
theorem KS.bar {c b y : Nat} {w v : tV} (h0 : K0 w v) (h : KS c 6 b True y w v) : K0 w (keepBar y v) ∧ KS c 6 b True (y + 1) w (keepBar y v) := by
  refine ⟨fun a j ha => ?_, fun s i hs hi => ?_, fun s i hs hi => ?_, fun s hs => ?_, fun _ => ?_, fun s i hs hi => ?_⟩
  · simp (disch := omega) only [keepBar, up2_n]; exact h0 a j ha
  · simp (disch := omega) only [keepBar, up2_n]; exact h.1 s i hs hi
  · simp (disch := omega) only [keepBar, up2_n]; exact h.2.1 s i hs hi
  · simp (disch := omega) only [keepBar, up2_n]; exact h.2.2.1 s hs
  · simp (disch := omega) only [keepBar, up2_n]; exact h.2.2.2.1 trivial
  · by_cases q : s = y
    · subst q
      have : i = 0 ∨ i = 1 ∨ i = 2 ∨ i = 3 := by omega
      rcases this with rfl | rfl | rfl | rfl <;> (simp (disch := omega) only [keepBar, up2_n, up2_s, Nat.add_zero]; exact h0 _ _ (by omega))
    · simp (disch := omega) only [keepBar, up2_n]; exact h.2.2.2.2 s i (by omega) hi
theorem kp311_s (n : Nat) (y : Int32) (v : tV) : g_X11_keep_400_311 (n + 1) y v = b_X11_keep_400_311 (g_X11_keep_400_311 n) y v := rfl
theorem kp225_s (n : Nat) (y : Int32) (v : tV) : g_X11_keep_400_225 (n + 1) y v = b_X11_keep_400_225 (g_X11_keep_400_225 n) (g_X11_keep_400_311 n) y v := rfl
theorem kp154_s (n : Nat) (y : Int32) (v : tV) : g_X11_keep_400_154 (n + 1) y v = b_X11_keep_400_154 (g_X11_keep_400_154 n) (g_X11_keep_400_225 n) y v := rfl
theorem kp2_s (n : Nat) (y : Int32) (v : tV) : g_X11_keep_400_2 (n + 1) y v = b_X11_keep_400_2 (g_X11_keep_400_2 n) (g_X11_keep_400_154 n) y v := rfl
theorem keep311 {w : tV} {c b g : Nat} (hg : w 400 27 = Int32.ofNat g) (hg30 : g ≤ 30) : ∀ (d y n : Nat) (v : tV), y + d = g → d < n → K0 w v → KS c 6 b True y w v → K0 w (g_X11_keep_400_311 n (Int32.ofNat y) v) ∧ KS c 6 b True g w (g_X11_keep_400_311 n (Int32.ofNat y) v) := by
  intro d
  induction d with
  | zero =>
    intro y n v hd hn h0 h
    obtain ⟨n, rfl⟩ : ∃ k, n = k + 1 := ⟨n - 1, by omega⟩
    have hy : y = g := by omega
    subst hy
    rw [kp311_s, keep_b311 (by omega), h0 400 27 (by omega), hg, if_pos (i_refl _)]
    exact ⟨h0, h⟩
  | succ d ih =>
    intro y n v hd hn h0 h
    obtain ⟨n, rfl⟩ : ∃ k, n = k + 1 := ⟨n - 1, by omega⟩
    rw [kp311_s, keep_b311 (by omega), h0 400 27 (by omega), hg, if_neg (fun z => by have := (le_ofNat (by omega) (by omega)).mp z; omega)]
    obtain ⟨a1, a2⟩ := KS.bar h0 h
    exact ih (y + 1) n _ (by omega) (by omega) a1 a2
theorem keep225 {w : tV} {c b g : Nat} (hb : w 400 15 = Int32.ofNat b) (hb10 : b ≤ 10) (hg : w 400 27 = Int32.ofNat g) (hg30 : g ≤ 30) : ∀ (d y n : Nat) (v : tV), y + d = b → d + 50 < n → K0 w v → KS c 6 y False 0 w v → K0 w (g_X11_keep_400_225 n (Int32.ofNat y) v) ∧ KS c 6 b True g w (g_X11_keep_400_225 n (Int32.ofNat y) v) := by
  intro d
  induction d with
  | zero =>
    intro y n v hd hn h0 h
    obtain ⟨n, rfl⟩ : ∃ k, n = k + 1 := ⟨n - 1, by omega⟩
    have hy : y = b := by omega
    subst hy
    rw [kp225_s, keep_b225 (by omega), h0 400 15 (by omega), hb, if_pos (i_refl _)]
    obtain ⟨a1, a2⟩ := KS.sc hb10 h0 h
    exact keep311 hg hg30 g 0 n _ (by omega) (by omega) a1 a2
  | succ d ih =>
    intro y n v hd hn h0 h
    obtain ⟨n, rfl⟩ : ∃ k, n = k + 1 := ⟨n - 1, by omega⟩
    rw [kp225_s, keep_b225 (by omega), h0 400 15 (by omega), hb, if_neg (fun z => by have := (le_ofNat (by omega) (by omega)).mp z; omega)]
    obtain ⟨a1, a2⟩ := KS.buyer (by omega) h0 h
    exact ih (y + 1) n _ (by omega) (by omega) a1 a2
theorem keep154 {w : tV} {c b g : Nat} (hb : w 400 15 = Int32.ofNat b) (hb10 : b ≤ 10) (hg : w 400 27 = Int32.ofNat g) (hg30 : g ≤ 30) : ∀ (d y n : Nat) (v : tV), y + d = 6 → d + 100 < n → K0 w v → KS c y 0 False 0 w v → K0 w (g_X11_keep_400_154 n (Int32.ofNat y) v) ∧ KS c 6 b True g w (g_X11_keep_400_154 n (Int32.ofNat y) v) := by
  have e6 : (6 : Int32) = Int32.ofNat 6 := rfl
  intro d
  induction d with
  | zero =>
    intro y n v hd hn h0 h
    obtain ⟨n, rfl⟩ : ∃ k, n = k + 1 := ⟨n - 1, by omega⟩
    have hy : y = 6 := by omega
    subst hy
    rw [kp154_s, keep_b154 (by omega), e6, if_pos (i_refl _)]
    exact keep225 hb hb10 hg hg30 b 0 n _ (by omega) (by omega) h0 h
  | succ d ih =>
    intro y n v hd hn h0 h
    obtain ⟨n, rfl⟩ : ∃ k, n = k + 1 := ⟨n - 1, by omega⟩
    rw [kp154_s, keep_b154 (by omega), e6, if_neg (fun z => by have := (le_ofNat (by omega) (by omega)).mp z; omega)]
    obtain ⟨a1, a2⟩ := KS.ward (by omega) h0 h
    exact ih (y + 1) n _ (by omega) (by omega) a1 a2
theorem keep2 {w : tV} {c b g : Nat} (hc : w 400 1 = Int32.ofNat c) (hc20 : c ≤ 20) (hb : w 400 15 = Int32.ofNat b) (hb10 : b ≤ 10) (hg : w 400 27 = Int32.ofNat g) (hg30 : g ≤ 30) : ∀ (d y n : Nat) (v : tV), y + d = c → d + 200 < n → K0 w v → KS y 0 0 False 0 w v → K0 w (g_X11_keep_400_2 n (Int32.ofNat y) v) ∧ KS c 6 b True g w (g_X11_keep_400_2 n (Int32.ofNat y) v) := by
  intro d
  induction d with
  | zero =>
    intro y n v hd hn h0 h
    obtain ⟨n, rfl⟩ : ∃ k, n = k + 1 := ⟨n - 1, by omega⟩
    have hy : y = c := by omega
    subst hy
    rw [kp2_s, keep_b2 (by omega), h0 400 1 (by omega), hc, if_pos (i_refl _)]
    exact keep154 hb hb10 hg hg30 6 0 n _ (by omega) (by omega) h0 h
  | succ d ih =>
    intro y n v hd hn h0 h
    obtain ⟨n, rfl⟩ : ∃ k, n = k + 1 := ⟨n - 1, by omega⟩
    rw [kp2_s, keep_b2 (by omega), h0 400 1 (by omega), hc, if_neg (fun z => by have := (le_ofNat (by omega) (by omega)).mp z; omega)]
    obtain ⟨a1, a2⟩ := KS.ship h0 h
    exact ih (y + 1) n _ (by omega) (by omega) a1 a2
theorem keep_all {w : tV} {c b g : Nat} (hc : w 400 1 = Int32.ofNat c) (hc20 : c ≤ 20) (hb : w 400 15 = Int32.ofNat b) (hb10 : b ≤ 10) (hg : w 400 27 = Int32.ofNat g) (hg30 : g ≤ 30) : K0 w (f_X11_keep_400 w) ∧ KS c 6 b True g w (f_X11_keep_400 w) := by
  rw [f_X11_keep_400]
  exact keep2 hc hc20 hb hb10 hg hg30 c 0 100000 w (by omega) (by omega) (fun _ _ _ => rfl) ⟨fun s i hs => absurd hs (Nat.not_lt_zero s), fun s i hs => absurd hs (Nat.not_lt_zero s), fun s hs => absurd hs (Nat.not_lt_zero s), False.elim, fun s i hs => absurd hs (Nat.not_lt_zero s)⟩
