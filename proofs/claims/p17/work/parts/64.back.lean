/-! PUTTING BACK -/
def BS (y1 y2 y3 : Nat) (sc : Prop) (y4 : Nat) (w W v : tV) : Prop :=
  (∀ a j, ¬ (408 ≤ a ∧ a ≤ 415) → a ≠ 419 → ¬ (421 ≤ a ∧ a ≤ 424) → ¬ (429 ≤ a ∧ a ≤ 432) → ¬ (a = 400 ∧ (j = 25 ∨ j = 26 ∨ j = 27 ∨ j = 58 ∨ j = 59)) → v a j = W a j) ∧
  (∀ i s, i < 8 → v (408 + i) s = if s < y1 then w (408 + i) s else W (408 + i) s) ∧ (∀ i s, i < 4 → v (421 + i) s = if s < y2 then w (421 + i) s else W (421 + i) s) ∧
  (∀ s, v 419 s = if s < y3 then w 419 s else W 419 s) ∧ (sc → v 400 25 = w 400 25 ∧ v 400 26 = w 400 26 ∧ v 400 27 = w 400 27) ∧ (∀ i s, i < 4 → v (429 + i) s = if s < y4 then w (429 + i) s else W (429 + i) s)
theorem BS.ship {c b g y : Nat} {w W v : tV} (hK : KS c 6 b True g w W) (hy : y < c) (h : BS y 0 0 False 0 w W v) : BS (y + 1) 0 0 False 0 w W (backShip y v) := by
  obtain ⟨p0, p1, p2, p3, p4, p5⟩ := h
  refine ⟨fun a j q1 q2 q3 q4 q5 => ?_, fun i s hi => ?_, fun i s hi => ?_, fun s => ?_, False.elim, fun i s hi => ?_⟩
  · simp (disch := omega) only [backShip, up2_n]; exact p0 a j q1 q2 q3 q4 q5
  · by_cases q : s = y
    · subst q
      rw [if_pos (by omega)]
      have k : ∀ e, e < 8 → v 447 (9 * s + e) = w (408 + e) s := fun e he => by rw [p0 447 _ (by omega) (by omega) (by omega) (by omega) (by omega)]; exact hK.1 s e hy he
      have : i = 0 ∨ i = 1 ∨ i = 2 ∨ i = 3 ∨ i = 4 ∨ i = 5 ∨ i = 6 ∨ i = 7 := by omega
      rcases this with rfl | rfl | rfl | rfl | rfl | rfl | rfl | rfl
      · have := k 0 (by omega); simp (disch := omega) only [backShip, up2_n, up2_s, Nat.add_zero] at this ⊢; exact this
      · have := k 1 (by omega); simp (disch := omega) only [backShip, up2_n, up2_s] at this ⊢; exact this
      · have := k 2 (by omega); simp (disch := omega) only [backShip, up2_n, up2_s] at this ⊢; exact this
      · have := k 3 (by omega); simp (disch := omega) only [backShip, up2_n, up2_s] at this ⊢; exact this
      · have := k 4 (by omega); simp (disch := omega) only [backShip, up2_n, up2_s] at this ⊢; exact this
      · have := k 5 (by omega); simp (disch := omega) only [backShip, up2_n, up2_s] at this ⊢; exact this
      · have := k 6 (by omega); simp (disch := omega) only [backShip, up2_n, up2_s] at this ⊢; exact this
      · have := k 7 (by omega); simp (disch := omega) only [backShip, up2_n, up2_s] at this ⊢; exact this
    · simp (disch := omega) only [backShip, up2_n]
      rw [p1 i s hi]
      by_cases q2 : s < y
      · rw [if_pos q2, if_pos (by omega)]
      · rw [if_neg q2, if_neg (by omega)]
  · simp (disch := omega) only [backShip, up2_n]; exact p2 i s hi
  · simp (disch := omega) only [backShip, up2_n]; exact p3 s
  · simp (disch := omega) only [backShip, up2_n]; exact p5 i s hi
theorem BS.ward {c b g y : Nat} {w W v : tV} (hK : KS c 6 b True g w W) (hy : y < 6) (h : BS c y 0 False 0 w W v) : BS c (y + 1) 0 False 0 w W (backWard y v) := by
  obtain ⟨p0, p1, p2, p3, p4, p5⟩ := h
  refine ⟨fun a j q1 q2 q3 q4 q5 => ?_, fun i s hi => ?_, fun i s hi => ?_, fun s => ?_, False.elim, fun i s hi => ?_⟩
  · simp (disch := omega) only [backWard, up2_n]; exact p0 a j q1 q2 q3 q4 q5
  · simp (disch := omega) only [backWard, up2_n]; exact p1 i s hi
  · by_cases q : s = y
    · subst q
      rw [if_pos (by omega)]
      have k : ∀ e d, e < 4 → d = 6 * e + s → v 448 d = w (421 + e) s := fun e d he hd => by rw [hd, p0 448 _ (by omega) (by omega) (by omega) (by omega) (by omega)]; exact hK.2.1 s e hy he
      have : i = 0 ∨ i = 1 ∨ i = 2 ∨ i = 3 := by omega
      rcases this with rfl | rfl | rfl | rfl
      · have := k 0 s (by omega) (by omega); simp (disch := omega) only [backWard, up2_n, up2_s] at this ⊢; exact this
      · have := k 1 (6 + s) (by omega) (by omega); simp (disch := omega) only [backWard, up2_n, up2_s] at this ⊢; exact this
      · have := k 2 (12 + s) (by omega) (by omega); simp (disch := omega) only [backWard, up2_n, up2_s] at this ⊢; exact this
      · have := k 3 (18 + s) (by omega) (by omega); simp (disch := omega) only [backWard, up2_n, up2_s] at this ⊢; exact this
    · simp (disch := omega) only [backWard, up2_n]
      rw [p2 i s hi]
      by_cases q2 : s < y
      · rw [if_pos q2, if_pos (by omega)]
      · rw [if_neg q2, if_neg (by omega)]
  · simp (disch := omega) only [backWard, up2_n]; exact p3 s
  · simp (disch := omega) only [backWard, up2_n]; exact p5 i s hi
theorem BS.buyer {c b g y : Nat} {w W v : tV} (hK : KS c 6 b True g w W) (hy : y < b) (h : BS c 6 y False 0 w W v) : BS c 6 (y + 1) False 0 w W (up2 v 419 y (v 448 (24 + y))) := by
  obtain ⟨p0, p1, p2, p3, p4, p5⟩ := h
  refine ⟨fun a j q1 q2 q3 q4 q5 => ?_, fun i s hi => ?_, fun i s hi => ?_, fun s => ?_, False.elim, fun i s hi => ?_⟩
  · rw [up2_n _ _ (by omega)]; exact p0 a j q1 q2 q3 q4 q5
  · rw [up2_n _ _ (by omega)]; exact p1 i s hi
  · rw [up2_n _ _ (by omega)]; exact p2 i s hi
  · by_cases q : s = y
    · subst q
      rw [up2_s, if_pos (by omega), p0 448 _ (by omega) (by omega) (by omega) (by omega) (by omega)]
      exact hK.2.2.1 s hy
    · rw [up2_n _ _ (by omega), p3 s]
      by_cases q2 : s < y
      · rw [if_pos q2, if_pos (by omega)]
      · rw [if_neg q2, if_neg (by omega)]
  · rw [up2_n _ _ (by omega)]; exact p5 i s hi
theorem BS.sc {c b g : Nat} {w W v : tV} (hK : KS c 6 b True g w W) (h : BS c 6 b False 0 w W v) : BS c 6 b True 0 w W (backSc v) := by
  obtain ⟨p0, p1, p2, p3, p4, p5⟩ := h
  obtain ⟨k1, k2, k3⟩ := hK.2.2.2.1 trivial
  have k : ∀ j, v 448 j = W 448 j := fun j => p0 448 _ (by omega) (by omega) (by omega) (by omega) (by omega)
  refine ⟨fun a j q1 q2 q3 q4 q5 => ?_, fun i s hi => ?_, fun i s hi => ?_, fun s => ?_, fun _ => ⟨?_, ?_, ?_⟩, fun i s hi => ?_⟩
  · simp (disch := omega) only [backSc, up2_n]; exact p0 a j q1 q2 q3 q4 q5
  · simp (disch := omega) only [backSc, up2_n]; exact p1 i s hi
  · simp (disch := omega) only [backSc, up2_n]; exact p2 i s hi
  · simp (disch := omega) only [backSc, up2_n]; exact p3 s
  · simp (disch := omega) only [backSc, up2_n, up2_s]; rw [k]; exact k1
  · simp (disch := omega) only [backSc, up2_n, up2_s]; rw [k]; exact k2
  · simp (disch := omega) only [backSc, up2_n, up2_s]; rw [k]; exact k3
  · simp (disch := omega) only [backSc, up2_n]; exact p5 i s hi
theorem BS.bar {c b g y : Nat} {w W v : tV} (hK : KS c 6 b True g w W) (hy : y < g) (h : BS c 6 b True y w W v) : BS c 6 b True (y + 1) w W (backBar y v) := by
  obtain ⟨p0, p1, p2, p3, p4, p5⟩ := h
  refine ⟨fun a j q1 q2 q3 q4 q5 => ?_, fun i s hi => ?_, fun i s hi => ?_, fun s => ?_, fun _ => ?_, fun i s hi => ?_⟩
  · simp (disch := omega) only [backBar, up2_n]; exact p0 a j q1 q2 q3 q4 q5
  · simp (disch := omega) only [backBar, up2_n]; exact p1 i s hi
  · simp (disch := omega) only [backBar, up2_n]; exact p2 i s hi
  · simp (disch := omega) only [backBar, up2_n]; exact p3 s
  · simp (disch := omega) only [backBar, up2_n]; exact p4 trivial
  · by_cases q : s = y
    · subst q
      rw [if_pos (by omega)]
      have k : ∀ e, e < 4 → v 449 (4 * s + e) = w (429 + e) s := fun e he => by rw [p0 449 _ (by omega) (by omega) (by omega) (by omega) (by omega)]; exact hK.2.2.2.2 s e hy he
      have : i = 0 ∨ i = 1 ∨ i = 2 ∨ i = 3 := by omega
      rcases this with rfl | rfl | rfl | rfl
      · have := k 0 (by omega); simp (disch := omega) only [backBar, up2_n, up2_s, Nat.add_zero] at this ⊢; exact this
      · have := k 1 (by omega); simp (disch := omega) only [backBar, up2_n, up2_s] at this ⊢; exact this
      · have := k 2 (by omega); simp (disch := omega) only [backBar, up2_n, up2_s] at this ⊢; exact this
      · have := k 3 (by omega); simp (disch := omega) only [backBar, up2_n, up2_s] at this ⊢; exact this
    · simp (disch := omega) only [backBar, up2_n]
      rw [p5 i s hi]
      by_cases q2 : s < y
      · rw [if_pos q2, if_pos (by omega)]
      · rw [if_neg q2, if_neg (by omega)]
theorem bk311_s (n : Nat) (y : Int32) (v : tV) : g_X11_putBack_400_311 (n + 1) y v = b_X11_putBack_400_311 (g_X11_putBack_400_311 n) y v := rfl
theorem bk225_s (n : Nat) (y : Int32) (v : tV) : g_X11_putBack_400_225 (n + 1) y v = b_X11_putBack_400_225 (g_X11_putBack_400_225 n) (g_X11_putBack_400_311 n) y v := rfl
theorem bk154_s (n : Nat) (y : Int32) (v : tV) : g_X11_putBack_400_154 (n + 1) y v = b_X11_putBack_400_154 (g_X11_putBack_400_154 n) (g_X11_putBack_400_225 n) y v := rfl
theorem bk2_s (n : Nat) (y : Int32) (v : tV) : g_X11_putBack_400_2 (n + 1) y v = b_X11_putBack_400_2 (g_X11_putBack_400_2 n) (g_X11_putBack_400_154 n) y v := rfl
theorem back311 {w W : tV} {c b g : Nat} (hK : KS c 6 b True g w W) (hg : w 400 27 = Int32.ofNat g) (hg30 : g ≤ 30) : ∀ (d y n : Nat) (v : tV), y + d = g → d < n → BS c 6 b True y w W v → BS c 6 b True g w W (g_X11_putBack_400_311 n (Int32.ofNat y) v) := by
  intro d
  induction d with
  | zero =>
    intro y n v hd hn h
    obtain ⟨n, rfl⟩ : ∃ k, n = k + 1 := ⟨n - 1, by omega⟩
    have hy : y = g := by omega
    subst hy
    rw [bk311_s, back_b311 (by omega), (h.2.2.2.2.1 trivial).2.2, hg, if_pos (i_refl _)]
    exact h
  | succ d ih =>
    intro y n v hd hn h
    obtain ⟨n, rfl⟩ : ∃ k, n = k + 1 := ⟨n - 1, by omega⟩
    rw [bk311_s, back_b311 (by omega), (h.2.2.2.2.1 trivial).2.2, hg, if_neg (fun z => by have := (le_ofNat (by omega) (by omega)).mp z; omega)]
    exact ih (y + 1) n _ (by omega) (by omega) (h.bar hK (by omega))
theorem back225 {w W : tV} {c b g : Nat} (hK : KS c 6 b True g w W) (hb : W 400 15 = Int32.ofNat b) (hb10 : b ≤ 10) (hg : w 400 27 = Int32.ofNat g) (hg30 : g ≤ 30) : ∀ (d y n : Nat) (v : tV), y + d = b → d + 50 < n → BS c 6 y False 0 w W v → BS c 6 b True g w W (g_X11_putBack_400_225 n (Int32.ofNat y) v) := by
  intro d
  induction d with
  | zero =>
    intro y n v hd hn h
    obtain ⟨n, rfl⟩ : ∃ k, n = k + 1 := ⟨n - 1, by omega⟩
    have hy : y = b := by omega
    subst hy
    rw [bk225_s, back_b225 (by omega), h.1 400 15 (by omega) (by omega) (by omega) (by omega) (by omega), hb, if_pos (i_refl _)]
    exact back311 hK hg hg30 g 0 n _ (by omega) (by omega) (h.sc hK)
  | succ d ih =>
    intro y n v hd hn h
    obtain ⟨n, rfl⟩ : ∃ k, n = k + 1 := ⟨n - 1, by omega⟩
    rw [bk225_s, back_b225 (by omega), h.1 400 15 (by omega) (by omega) (by omega) (by omega) (by omega), hb, if_neg (fun z => by have := (le_ofNat (by omega) (by omega)).mp z; omega)]
    exact ih (y + 1) n _ (by omega) (by omega) (h.buyer hK (by omega))
theorem back154 {w W : tV} {c b g : Nat} (hK : KS c 6 b True g w W) (hb : W 400 15 = Int32.ofNat b) (hb10 : b ≤ 10) (hg : w 400 27 = Int32.ofNat g) (hg30 : g ≤ 30) : ∀ (d y n : Nat) (v : tV), y + d = 6 → d + 100 < n → BS c y 0 False 0 w W v → BS c 6 b True g w W (g_X11_putBack_400_154 n (Int32.ofNat y) v) := by
  have e6 : (6 : Int32) = Int32.ofNat 6 := rfl
  intro d
  induction d with
  | zero =>
    intro y n v hd hn h
    obtain ⟨n, rfl⟩ : ∃ k, n = k + 1 := ⟨n - 1, by omega⟩
    have hy : y = 6 := by omega
    subst hy
    rw [bk154_s, back_b154 (by omega), e6, if_pos (i_refl _)]
    exact back225 hK hb hb10 hg hg30 b 0 n _ (by omega) (by omega) h
  | succ d ih =>
    intro y n v hd hn h
    obtain ⟨n, rfl⟩ : ∃ k, n = k + 1 := ⟨n - 1, by omega⟩
    rw [bk154_s, back_b154 (by omega), e6, if_neg (fun z => by have := (le_ofNat (by omega) (by omega)).mp z; omega)]
    exact ih (y + 1) n _ (by omega) (by omega) (h.ward hK (by omega))
theorem back2 {w W : tV} {c b g : Nat} (hK : KS c 6 b True g w W) (hc : W 400 1 = Int32.ofNat c) (hc20 : c ≤ 20) (hb : W 400 15 = Int32.ofNat b) (hb10 : b ≤ 10) (hg : w 400 27 = Int32.ofNat g) (hg30 : g ≤ 30) : ∀ (d y n : Nat) (v : tV), y + d = c → d + 200 < n → BS y 0 0 False 0 w W v → BS c 6 b True g w W (g_X11_putBack_400_2 n (Int32.ofNat y) v) := by
  intro d
  induction d with
  | zero =>
    intro y n v hd hn h
    obtain ⟨n, rfl⟩ : ∃ k, n = k + 1 := ⟨n - 1, by omega⟩
    have hy : y = c := by omega
    subst hy
    rw [bk2_s, back_b2 (by omega), h.1 400 1 (by omega) (by omega) (by omega) (by omega) (by omega), hc, if_pos (i_refl _)]
    exact back154 hK hb hb10 hg hg30 6 0 n _ (by omega) (by omega) h
  | succ d ih =>
    intro y n v hd hn h
    obtain ⟨n, rfl⟩ : ∃ k, n = k + 1 := ⟨n - 1, by omega⟩
    rw [bk2_s, back_b2 (by omega), h.1 400 1 (by omega) (by omega) (by omega) (by omega) (by omega), hc, if_neg (fun z => by have := (le_ofNat (by omega) (by omega)).mp z; omega)]
    exact ih (y + 1) n _ (by omega) (by omega) (h.ship hK (by omega))
theorem back_all {w W : tV} {c b g : Nat} (hK : KS c 6 b True g w W) (hc : W 400 1 = Int32.ofNat c) (hc20 : c ≤ 20) (hb : W 400 15 = Int32.ofNat b) (hb10 : b ≤ 10) (hg : w 400 27 = Int32.ofNat g) (hg30 : g ≤ 30) : BS c 6 b True g w W (f_X11_putBack_400 W) := by
  rw [f_X11_putBack_400]
  refine back2 hK hc hc20 hb hb10 hg hg30 c 0 100000 W (by omega) (by omega) ⟨fun _ _ _ _ _ _ _ => rfl, fun i s _ => ?_, fun i s _ => ?_, fun s => ?_, False.elim, fun i s _ => ?_⟩
  all_goals rw [if_neg (Nat.not_lt_zero s)]
