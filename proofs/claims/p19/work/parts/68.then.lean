/-! A SALE ON THE TRIAL RIVER -/
/-- the class's world behind a bargain -/
def str3 (u : tV) (s b wd : Nat) (si bi n p : Int32) : tV :=
  up2 (up2 (up2 (up2 (up2 (up2 (up2 (up2 (up2 (up2 (if u (140 + s) 6 - n = 0 then up2 (up2 (up2 (up2 (up2 u (140 + s) 6 (u (140 + s) 6 - n)) (140 + s) 10 (u (140 + s) 10 + n)) (140 + s) 11 (u (140 + s) 11 + n * p)) (140 + s) 12 (u (140 + s) 12 + (if u (140 + s) 0 = 2 then n else 2 * n))) (140 + s) 7 3 else up2 (up2 (up2 (up2 u (140 + s) 6 (u (140 + s) 6 - n)) (140 + s) 10 (u (140 + s) 10 + n)) (140 + s) 11 (u (140 + s) 11 + n * p)) (140 + s) 12 (u (140 + s) 12 + (if u (140 + s) 0 = 2 then n else 2 * n)))
    (220 + b) 2 (u (220 + b) 2 - n)) (312 + wd) 1 (u (312 + wd) 1 + n)) (312 + wd) 4 (u (312 + wd) 4 + n)) 33 (u 31 4).toNatClampNeg si) 35 (u 31 4).toNatClampNeg bi) 37 (u 31 4).toNatClampNeg n) 39 (u 31 4).toNatClampNeg p) 31 4 (u 31 4 + 1)) 31 5 (u 31 5 + n)) 31 6 (u 31 6 + n * p)
theorem str3_eq {u : tV} {s b wd : Nat} {si bi : Int32} (hs : s < 20) (hb : b < 10) (hwd : wd < 6) (hsi : si.toNatClampNeg = s) (hbi : bi.toNatClampNeg = b) (hw : (u (220 + b) 0).toNatClampNeg = wd) (hc : u 31 4 < 30) {n p : Int32} (hn : (if u (220 + b) 2 < u (140 + s) 6 then u (220 + b) 2 else u (140 + s) 6) = n) (hp : (u (140 + s) 3 + u (220 + b) 3) / 2 = p) :
    f_X6_strike_3_31 u si bi = str3 u s b wd si bi n p := by
  simp only [f_X6_strike_3_31, f_X7_deliver, f_X7_duesFor, f_X9_receive, f_X1_enter_31, bnd, hsi, hbi, hn, hp, str3]
  by_cases q : u (140 + s) 6 - n = 0
  · simp (disch := omega) only [up2_n, up2_s, if_pos q, hw, if_pos hc]
  · simp (disch := omega) only [up2_n, up2_s, if_neg q, hw, if_pos hc]
theorem str3_fr {u : tV} {s b wd : Nat} {si bi n p : Int32} {a j : Nat} (h1 : ¬ (a = 140 + s ∧ (j = 6 ∨ j = 7 ∨ j = 10 ∨ j = 11 ∨ j = 12))) (h2 : ¬ (a = 220 + b ∧ j = 2)) (h3 : ¬ (a = 312 + wd ∧ (j = 1 ∨ j = 4))) (h4 : a ≠ 31 ∨ j < 4) (h5 : a ≠ 33 ∧ a ≠ 35 ∧ a ≠ 37 ∧ a ≠ 39) : str3 u s b wd si bi n p a j = u a j := by
  unfold str3
  rw [up2_n _ _ (by omega), up2_n _ _ (by omega), up2_n _ _ (by omega), up2_n _ _ (by omega), up2_n _ _ (by omega), up2_n _ _ (by omega), up2_n _ _ (by omega), up2_n _ _ (by omega), up2_n _ _ (by omega), up2_n _ _ (by omega)]
  split
  · rw [up2_n _ _ (by omega), up2_n _ _ (by omega), up2_n _ _ (by omega), up2_n _ _ (by omega), up2_n _ _ (by omega)]
  · rw [up2_n _ _ (by omega), up2_n _ _ (by omega), up2_n _ _ (by omega), up2_n _ _ (by omega)]
theorem str3_left {u : tV} {s b wd : Nat} {si bi n p : Int32} (hs : s < 20) : str3 u s b wd si bi n p (140 + s) 6 = u (140 + s) 6 - n := by
  unfold str3
  split <;> simp (disch := omega) only [up2_n, up2_s]
theorem str3_want {u : tV} {s b wd : Nat} {si bi n p : Int32} (hb : b < 10) : str3 u s b wd si bi n p (220 + b) 2 = u (220 + b) 2 - n := by
  unfold str3
  simp (disch := omega) only [up2_n, up2_s]
theorem str3_314 {u : tV} {s b wd : Nat} {si bi n p : Int32} : str3 u s b wd si bi n p 31 4 = u 31 4 + 1 ∧ str3 u s b wd si bi n p 31 5 = u 31 5 + n ∧ str3 u s b wd si bi n p 31 6 = u 31 6 + n * p := by
  unfold str3
  refine ⟨?_, ?_, ?_⟩ <;> simp (disch := omega) only [up2_n, up2_s]
/-- while held goes on: cnt ships, nb buyers, c bargains so far -/
def HI (cnt nb c : Nat) (u w : tV) : Prop := (∀ t, t < cnt → u (140 + t) 1 = w 404 t ∧ u (140 + t) 3 = w 450 (4 * t + 2) ∧ u (140 + t) 6 = w 464 t ∧ 0 ≤ (u (140 + t) 6).toInt ∧ (u (140 + t) 6).toInt ≤ 400) ∧
  (∀ b, b < nb → u (220 + b) 1 = w 418 b ∧ u (220 + b) 2 = w 465 b ∧ u (220 + b) 3 = w 452 b ∧ 0 ≤ (u (220 + b) 2).toInt ∧ (u (220 + b) 2).toInt ≤ 2000 ∧ 0 ≤ (u (220 + b) 0).toInt ∧ (u (220 + b) 0).toInt ≤ 5) ∧
  u 3 4 = Int32.ofNat nb ∧ w 400 55 = Int32.ofNat nb ∧ u 31 4 = Int32.ofNat c ∧ u 31 5 = w 400 58 ∧ u 31 6 = w 400 59 ∧ u 3 6 = w 400 56 ∧ 0 ≤ (u 31 5).toInt ∧ (u 31 5).toInt ≤ 400 * (c : Int)
theorem bb3_s (u : tV) (k n : Nat) (y2 y3 : Int32) : g_X6_bestBuyer_3_4 u k (n + 1) y2 y3 = b_X6_bestBuyer_3_4 u k (g_X6_bestBuyer_3_4 u k n) y2 y3 := rfl
theorem st_s1 (si : Int32) (n : Nat) (y2 y3 : Int32) (w : tV) : g_X11_sellThen_400 si (n + 1) 1 y2 y3 w = b_X11_sellThen_400_13 si (fun w1 => g_X11_sellThen_400 si n 0 0 0 w1) (fun y2 y3 w1 => g_X11_sellThen_400 si n 1 y2 y3 w1) y2 y3 w := rfl
theorem st_s0 (si : Int32) (n : Nat) (y2 y3 : Int32) (w : tV) : g_X11_sellThen_400 si (n + 1) 0 y2 y3 w = b_X11_sellThen_400_0 si (fun y2 y3 w1 => g_X11_sellThen_400 si n 1 y2 y3 w1) w := rfl
/-- the search for the best buyer, a step on both sides -/
theorem best3_one {u w : tV} {nb s y : Nat} {si y2 : Int32} (hnb : nb ≤ 10) (hsi : si.toNatClampNeg = s) (h4 : u 3 4 = Int32.ofNat nb) (m55 : w 400 55 = Int32.ofNat nb) (hix : ((4 : Int32) * si + 2).toNatClampNeg = 4 * s + 2) (e1 : u (140 + s) 1 = w 404 s) (e3 : u (140 + s) 3 = w 450 (4 * s + 2))
    (hb : ∀ b, b < nb → u (220 + b) 1 = w 418 b ∧ u (220 + b) 2 = w 465 b ∧ u (220 + b) 3 = w 452 b) (hy : y < nb) (h2 : -1 ≤ y2.toInt) (h3 : y2.toInt < (nb : Int)) (n m : Nat) :
    ∃ z, (z = y2 ∨ (z = Int32.ofNat y ∧ 0 < (u (220 + y) 2).toInt)) ∧ g_X6_bestBuyer_3_4 u (140 + s) (n + 1) y2 (Int32.ofNat y) = g_X6_bestBuyer_3_4 u (140 + s) n z (Int32.ofNat (y + 1)) ∧ g_X11_sellThen_400 si (m + 1) 1 y2 (Int32.ofNat y) w = g_X11_sellThen_400 si m 1 z (Int32.ofNat (y + 1)) w := by
  have z0 : (0 : Int32).toInt = 0 := rfl
  have zm : (-1 : Int32).toInt = -1 := rfl
  have hlt : ¬ Int32.ofNat nb ≤ Int32.ofNat y := fun z => by have := (le_ofNat (by omega) (by omega)).mp z; omega
  obtain ⟨g1, g2, g3⟩ := hb y hy
  rw [bb3_s, st_s1]
  simp only [b_X6_bestBuyer_3_4, b_X11_sellThen_400_13, f_X0_takes, bnd, h4, m55, clampN (n := y) (by omega), hsi, hix, ofNat_succ (n := y) (by omega), ← e1, ← e3, ← g1, ← g2, ← g3, if_neg hlt]
  generalize u (220 + y) 1 = b1
  obtain ⟨b2, hb2⟩ : ∃ z, z = u (220 + y) 2 := ⟨_, rfl⟩
  rw [← hb2]
  generalize u (220 + y) 3 = b3
  generalize u (140 + s) 1 = s1
  generalize u (140 + s) 3 = s3
  have no : (0 : Int32) = 0 := rfl
  have n1 : ¬ (1 : Int32) = 0 := by decide
  have pos : ¬ b2 ≤ 0 → 0 < b2.toInt := fun z => by have := i_nle z; rw [z0] at this; exact this
  by_cases q2 : y2 = -1
  · have q3 : y2 < 0 := by rw [q2]; decide
    by_cases p1 : b1 = s1
    · by_cases p2 : b2 ≤ 0
      · exact ⟨y2, Or.inl rfl, by simp only [if_pos q2, if_pos p2]; rw [if_pos trivial], by simp only [if_pos p1, if_pos p2]⟩
      · by_cases p3 : b3 < s3
        · exact ⟨y2, Or.inl rfl, by simp only [if_pos q2, if_neg p2, if_pos p1, if_pos p3]; rw [if_pos trivial], by simp only [if_pos p1, if_neg p2, if_pos p3]⟩
        · exact ⟨Int32.ofNat y, Or.inr ⟨rfl, pos p2⟩, by simp only [if_pos q2, if_neg p2, if_pos p1, if_neg p3, if_neg n1], by simp only [if_pos p1, if_neg p2, if_neg p3, if_pos q3]⟩
    · by_cases p2 : b2 ≤ 0
      · exact ⟨y2, Or.inl rfl, by simp only [if_pos q2, if_pos p2]; rw [if_pos trivial], by simp only [if_neg p1]⟩
      · exact ⟨y2, Or.inl rfl, by simp only [if_pos q2, if_neg p2, if_neg p1]; rw [if_pos trivial], by simp only [if_neg p1]⟩
  · have q2' : y2.toInt ≠ (-1 : Int32).toInt := i_ne q2
    rw [zm] at q2'
    have c2 := clampI (x := y2) (by omega)
    have q3 : ¬ y2 < 0 := fun z => by have := i_lt z; rw [z0] at this; omega
    have g4 := (hb y2.toNatClampNeg (by omega)).2.2
    rw [← g4]
    generalize u (220 + y2.toNatClampNeg) 3 = b4
    by_cases p4 : b3 ≤ b4
    · by_cases p1 : b1 = s1
      · by_cases p2 : b2 ≤ 0
        · exact ⟨y2, Or.inl rfl, by simp only [if_neg q2, if_pos p4], by simp only [if_pos p1, if_pos p2]⟩
        · by_cases p3 : b3 < s3
          · exact ⟨y2, Or.inl rfl, by simp only [if_neg q2, if_pos p4], by simp only [if_pos p1, if_neg p2, if_pos p3]⟩
          · exact ⟨y2, Or.inl rfl, by simp only [if_neg q2, if_pos p4], by simp only [if_pos p1, if_neg p2, if_neg p3, if_neg q3, if_pos p4]⟩
      · exact ⟨y2, Or.inl rfl, by simp only [if_neg q2, if_pos p4], by simp only [if_neg p1]⟩
    · by_cases p1 : b1 = s1
      · by_cases p2 : b2 ≤ 0
        · exact ⟨y2, Or.inl rfl, by simp only [if_neg q2, if_neg p4, if_pos p2]; rw [if_pos trivial], by simp only [if_pos p1, if_pos p2]⟩
        · by_cases p3 : b3 < s3
          · exact ⟨y2, Or.inl rfl, by simp only [if_neg q2, if_neg p4, if_neg p2, if_pos p1, if_pos p3]; rw [if_pos trivial], by simp only [if_pos p1, if_neg p2, if_pos p3]⟩
          · exact ⟨Int32.ofNat y, Or.inr ⟨rfl, pos p2⟩, by simp only [if_neg q2, if_neg p4, if_neg p2, if_pos p1, if_neg p3, if_neg n1], by simp only [if_pos p1, if_neg p2, if_neg p3, if_neg q3, if_neg p4]⟩
      · by_cases p2 : b2 ≤ 0
        · exact ⟨y2, Or.inl rfl, by simp only [if_neg q2, if_neg p4, if_pos p2]; rw [if_pos trivial], by simp only [if_neg p1]⟩
        · exact ⟨y2, Or.inl rfl, by simp only [if_neg q2, if_neg p4, if_neg p2, if_neg p1]; rw [if_pos trivial], by simp only [if_neg p1]⟩
theorem best3 {u w : tV} {nb s : Nat} {si : Int32} (hnb : nb ≤ 10) (hsi : si.toNatClampNeg = s) (h4 : u 3 4 = Int32.ofNat nb) (m55 : w 400 55 = Int32.ofNat nb) (hix : ((4 : Int32) * si + 2).toNatClampNeg = 4 * s + 2) (e1 : u (140 + s) 1 = w 404 s) (e3 : u (140 + s) 3 = w 450 (4 * s + 2))
    (hb : ∀ b, b < nb → u (220 + b) 1 = w 418 b ∧ u (220 + b) 2 = w 465 b ∧ u (220 + b) 3 = w 452 b) :
    ∀ (d y n m : Nat) (y2 : Int32), y + d = nb → d < n → -1 ≤ y2.toInt → y2.toInt < (nb : Int) → (0 ≤ y2.toInt → 0 < (u (220 + y2.toNatClampNeg) 2).toInt) →
      ∃ z, g_X6_bestBuyer_3_4 u (140 + s) n y2 (Int32.ofNat y) = z ∧ g_X11_sellThen_400 si (m + d) 1 y2 (Int32.ofNat y) w = g_X11_sellThen_400 si m 1 z (Int32.ofNat nb) w ∧ -1 ≤ z.toInt ∧ z.toInt < (nb : Int) ∧ (0 ≤ z.toInt → 0 < (u (220 + z.toNatClampNeg) 2).toInt) := by
  intro d
  induction d with
  | zero =>
    intro y n m y2 hd hn a1 a2 a3
    obtain ⟨n, rfl⟩ : ∃ k, n = k + 1 := ⟨n - 1, by omega⟩
    have hy : y = nb := by omega
    subst hy
    refine ⟨y2, ?_, rfl, a1, a2, a3⟩
    rw [bb3_s]
    simp only [b_X6_bestBuyer_3_4, bnd, h4]
    rw [if_pos (i_refl _)]
  | succ d ih =>
    intro y n m y2 hd hn a1 a2 a3
    obtain ⟨n, rfl⟩ : ∃ k, n = k + 1 := ⟨n - 1, by omega⟩
    obtain ⟨z, z1, z2, z3⟩ := best3_one hnb hsi h4 m55 hix e1 e3 hb (y := y) (by omega) a1 a2 n (m + d)
    have ey := ofNat_int (n := y) (by omega)
    have hz : -1 ≤ z.toInt ∧ z.toInt < (nb : Int) ∧ (0 ≤ z.toInt → 0 < (u (220 + z.toNatClampNeg) 2).toInt) := by
      rcases z1 with rfl | ⟨rfl, z4⟩
      · exact ⟨a1, a2, a3⟩
      · rw [ey, clampN (by omega)]; exact ⟨by omega, by omega, fun _ => z4⟩
    obtain ⟨x, x1, x2, x3⟩ := ih (y + 1) n m z (by omega) (by omega) hz.1 hz.2.1 hz.2.2
    refine ⟨x, by rw [z2]; exact x1, ?_, x3⟩
    have : m + (d + 1) = m + d + 1 := by omega
    rw [this, z3]; exact x2
/-- one bargain of sellThen -/
def thenM (w : tV) (s b : Nat) (n p : Int32) : tV := up2 (up2 (up2 (up2 w 464 s (w 464 s - n)) 465 b (w 465 b - n)) 400 58 (w 400 58 + n)) 400 59 (w 400 59 + n * p)
theorem then_one {w : tV} {nb s b : Nat} {si bi n p : Int32} (hsi : si.toNatClampNeg = s) (hbi : bi.toNatClampNeg = b) (h0 : 0 ≤ bi.toInt) (m55 : w 400 55 = Int32.ofNat nb) (hix : ((4 : Int32) * si + 2).toNatClampNeg = 4 * s + 2) (hn : (if w 465 b ≤ w 464 s then w 465 b else w 464 s) = n) (hp : (w 450 (4 * s + 2) + w 452 b) / 2 = p) (m : Nat) :
    g_X11_sellThen_400 si (m + 1) 1 bi (Int32.ofNat nb) w = g_X11_sellThen_400 si m 0 0 0 (thenM w s b n p) := by
  have z0 : (0 : Int32).toInt = 0 := rfl
  have hb0 : (0 : Int32) ≤ bi := Int32.le_iff_toInt_le.mpr (by rw [z0]; exact h0)
  rw [st_s1]
  simp only [b_X11_sellThen_400_13, bnd, m55, hsi, hbi, hix, thenM]
  rw [if_pos (i_refl _), if_pos hb0]
  by_cases q : w 465 b ≤ w 464 s
  · rw [if_pos q] at hn ⊢
    simp (disch := omega) only [up2_n, up2_s, hn, hp]
  · rw [if_neg q] at hn ⊢
    simp (disch := omega) only [up2_n, up2_s, hn, hp]
theorem then_none {w : tV} {nb : Nat} {si bi : Int32} (h0 : bi.toInt < 0) (m55 : w 400 55 = Int32.ofNat nb) (m : Nat) : g_X11_sellThen_400 si (m + 1) 1 bi (Int32.ofNat nb) w = w := by
  have z0 : (0 : Int32).toInt = 0 := rfl
  rw [st_s1]
  simp only [b_X11_sellThen_400_13, bnd, m55]
  rw [if_pos (i_refl _), if_neg (fun z => by have := i_le z; rw [z0] at this; omega)]
def FH (u u1 : tV) : Prop := ∀ a j, ¬ (140 ≤ a ∧ a < 160) → ¬ (220 ≤ a ∧ a < 230) → ¬ (312 ≤ a ∧ a < 318) → a ≠ 31 ∧ a ≠ 33 ∧ a ≠ 35 ∧ a ≠ 37 ∧ a ≠ 39 → u1 a j = u a j
def FHm (w w1 : tV) : Prop := ∀ a j, a ≠ 464 ∧ a ≠ 465 → ¬ (a = 400 ∧ (j = 58 ∨ j = 59)) → w1 a j = w a j
theorem FH.rf (u : tV) : FH u u := fun _ _ _ _ _ _ => rfl
theorem FHm.rf (u : tV) : FHm u u := fun _ _ _ _ => rfl
theorem FH.tr {u v w : tV} (h1 : FH u v) (h2 : FH v w) : FH u w := fun a j p1 p2 p3 p4 => (h2 a j p1 p2 p3 p4).trans (h1 a j p1 p2 p3 p4)
theorem FHm.tr {u v w : tV} (h1 : FHm u v) (h2 : FHm v w) : FHm u w := fun a j p1 p2 => (h2 a j p1 p2).trans (h1 a j p1 p2)
/-- one bargain on both sides -/
theorem strike3 {cnt nb c s b : Nat} {si bi : Int32} {u w : tV} (hcnt : cnt ≤ 20) (hnb : nb ≤ 10) (hs : s < cnt) (hb : b < nb) (hsi : si = Int32.ofNat s) (hbi : bi = Int32.ofNat b) (h : HI cnt nb c u w) (hc : c < 30) (hl : 0 < (u (140 + s) 6).toInt) (hw : 0 < (u (220 + b) 2).toInt) :
    ∃ n p : Int32, (if w 465 b ≤ w 464 s then w 465 b else w 464 s) = n ∧ (w 450 (4 * s + 2) + w 452 b) / 2 = p ∧ HI cnt nb (c + 1) (f_X6_strike_3_31 u si bi) (thenM w s b n p) ∧ FH u (f_X6_strike_3_31 u si bi) ∧ FHm w (thenM w s b n p) ∧
      (∀ t, t < 10 → t ≠ b → (f_X6_strike_3_31 u si bi) (220 + t) 2 = u (220 + t) 2) ∧ (((f_X6_strike_3_31 u si bi) (220 + b) 2).toInt = 0 ∨ ((f_X6_strike_3_31 u si bi) (140 + s) 6).toInt = 0) ∧ (∀ t, t ≠ s → t < 20 → (f_X6_strike_3_31 u si bi) (140 + t) 6 = u (140 + t) 6) := by
  obtain ⟨hS, hBu, h34, m55, h4, h5, h6, hpr, hm0, hm4⟩ := h
  obtain ⟨s1, s3, s6, s60, s64⟩ := hS s hs
  obtain ⟨b1, b2, b3, b20, b24, b00, b05⟩ := hBu b hb
  have hs20 : s < 20 := by omega
  have hb10 : b < 10 := by omega
  have z30 : (30 : Int32).toInt = 30 := rfl
  have esi : si.toNatClampNeg = s := by rw [hsi]; exact clampN (by omega)
  have ebi : bi.toNatClampNeg = b := by rw [hbi]; exact clampN (by omega)
  have ec := ofNat_int (n := c) (by omega)
  obtain ⟨wd, ewd⟩ : ∃ z, z = (u (220 + b) 0).toNatClampNeg := ⟨_, rfl⟩
  have cwd := clampI b00
  have hwd6 : wd < 6 := by omega
  obtain ⟨n, en⟩ : ∃ z, z = if u (220 + b) 2 < u (140 + s) 6 then u (220 + b) 2 else u (140 + s) 6 := ⟨_, rfl⟩
  obtain ⟨p, ep⟩ : ∃ z, z = (u (140 + s) 3 + u (220 + b) 3) / 2 := ⟨_, rfl⟩
  have hC : f_X6_strike_3_31 u si bi = str3 u s b wd si bi n p := str3_eq hs20 hb10 hwd6 esi ebi ewd.symm (Int32.lt_iff_toInt_lt.mpr (by rw [h4, z30, ec]; omega)) en.symm ep.symm
  have nv : (u (220 + b) 2).toInt < (u (140 + s) 6).toInt ∧ n = u (220 + b) 2 ∨ (u (140 + s) 6).toInt ≤ (u (220 + b) 2).toInt ∧ n = u (140 + s) 6 := by
    by_cases q : u (220 + b) 2 < u (140 + s) 6
    · rw [if_pos q] at en; exact Or.inl ⟨i_lt q, en⟩
    · rw [if_neg q] at en; exact Or.inr ⟨i_nlt q, en⟩
  have hM : (if w 465 b ≤ w 464 s then w 465 b else w 464 s) = n := by
    rw [← b2, ← s6]
    by_cases q : u (220 + b) 2 ≤ u (140 + s) 6
    · have q' := i_le q
      rw [if_pos q]
      rcases nv with ⟨y1, y2⟩ | ⟨y1, y2⟩
      · exact y2.symm
      · rw [y2]; exact i32_ext (by omega)
    · have q' := i_nle q
      rw [if_neg q]
      rcases nv with ⟨y1, y2⟩ | ⟨y1, y2⟩
      · omega
      · exact y2.symm
  have nr : 1 ≤ n.toInt ∧ n.toInt ≤ 400 ∧ n.toInt ≤ (u (140 + s) 6).toInt ∧ n.toInt ≤ (u (220 + b) 2).toInt := by
    rcases nv with ⟨y1, y2⟩ | ⟨y1, y2⟩ <;> (rw [y2]; exact ⟨by omega, by omega, by omega, by omega⟩)
  obtain ⟨n1, n2, n3, n4⟩ := nr
  have l1 : (u (140 + s) 6 - n).toInt = (u (140 + s) 6).toInt - n.toInt := i_sub (by omega) (by omega)
  have l2 : (u (220 + b) 2 - n).toInt = (u (220 + b) 2).toInt - n.toInt := i_sub (by omega) (by omega)
  have l3 : (u 31 5 + n).toInt = (u 31 5).toInt + n.toInt := i_add (by omega) (by omega)
  obtain ⟨t4, t5, t6⟩ := str3_314 (u := u) (s := s) (b := b) (wd := wd) (si := si) (bi := bi) (n := n) (p := p)
  have tl := str3_left (u := u) (b := b) (wd := wd) (si := si) (bi := bi) (n := n) (p := p) hs20
  have tw := str3_want (u := u) (s := s) (wd := wd) (si := si) (bi := bi) (n := n) (p := p) hb10
  have fr : ∀ a j, ¬ (a = 140 + s ∧ (j = 6 ∨ j = 7 ∨ j = 10 ∨ j = 11 ∨ j = 12)) → ¬ (a = 220 + b ∧ j = 2) → ¬ (a = 312 + wd ∧ (j = 1 ∨ j = 4)) → (a ≠ 31 ∨ j < 4) → (a ≠ 33 ∧ a ≠ 35 ∧ a ≠ 37 ∧ a ≠ 39) → str3 u s b wd si bi n p a j = u a j := fun a j q1 q2 q3 q4 q5 => str3_fr q1 q2 q3 q4 q5
  rw [hC]
  generalize str3 u s b wd si bi n p = U at t4 t5 t6 tl tw fr
  have m464 : ∀ t, thenM w s b n p 464 t = if t = s then w 464 s - n else w 464 t := fun t => by
    unfold thenM
    by_cases q : t = s
    · rw [if_pos q, q]; simp (disch := omega) only [up2_n, up2_s]
    · rw [if_neg q]; simp (disch := omega) only [up2_n]
  have m465 : ∀ t, thenM w s b n p 465 t = if t = b then w 465 b - n else w 465 t := fun t => by
    unfold thenM
    by_cases q : t = b
    · rw [if_pos q, q]; simp (disch := omega) only [up2_n, up2_s]
    · rw [if_neg q]; simp (disch := omega) only [up2_n]
  have m58 : thenM w s b n p 400 58 = w 400 58 + n := by unfold thenM; simp (disch := omega) only [up2_n, up2_s]
  have m59 : thenM w s b n p 400 59 = w 400 59 + n * p := by unfold thenM; simp (disch := omega) only [up2_s]
  have fm : ∀ a j, a ≠ 464 ∧ a ≠ 465 → ¬ (a = 400 ∧ (j = 58 ∨ j = 59)) → thenM w s b n p a j = w a j := fun a j q1 q2 => by
    unfold thenM; simp (disch := omega) only [up2_n]
  refine ⟨n, p, hM, by rw [← s3, ← b3]; exact ep.symm, ?_⟩
  generalize thenM w s b n p = W at m464 m465 m58 m59 fm ⊢
  refine ⟨⟨fun t ht => ?_, fun t ht => ?_, ?_, ?_, ?_, ?_, ?_, ?_, ?_, ?_⟩, fun a j q1 q2 q3 q4 => ?_, fm, fun t ht hne => ?_, ?_, fun t hne ht => ?_⟩
  · by_cases q : t = s
    · rw [q, fr (140 + s) 1 (by omega) (by omega) (by omega) (by omega) (by omega), fr (140 + s) 3 (by omega) (by omega) (by omega) (by omega) (by omega), tl, m464, if_pos rfl, fm 404 _ (by omega) (by omega), fm 450 _ (by omega) (by omega), l1]
      exact ⟨s1, s3, by rw [s6], by omega, by omega⟩
    · rw [fr (140 + t) 1 (by omega) (by omega) (by omega) (by omega) (by omega), fr (140 + t) 3 (by omega) (by omega) (by omega) (by omega) (by omega), fr (140 + t) 6 (by omega) (by omega) (by omega) (by omega) (by omega), m464, if_neg q, fm 404 _ (by omega) (by omega), fm 450 _ (by omega) (by omega)]
      exact hS t ht
  · by_cases q : t = b
    · rw [q, fr (220 + b) 1 (by omega) (by omega) (by omega) (by omega) (by omega), tw, fr (220 + b) 3 (by omega) (by omega) (by omega) (by omega) (by omega), fr (220 + b) 0 (by omega) (by omega) (by omega) (by omega) (by omega), m465, if_pos rfl, fm 418 _ (by omega) (by omega), fm 452 _ (by omega) (by omega), l2]
      exact ⟨b1, by rw [b2], b3, by omega, by omega, b00, b05⟩
    · rw [fr (220 + t) 1 (by omega) (by omega) (by omega) (by omega) (by omega), fr (220 + t) 2 (by omega) (by omega) (by omega) (by omega) (by omega), fr (220 + t) 3 (by omega) (by omega) (by omega) (by omega) (by omega), fr (220 + t) 0 (by omega) (by omega) (by omega) (by omega) (by omega), m465, if_neg q, fm 418 _ (by omega) (by omega), fm 452 _ (by omega) (by omega)]
      exact hBu t ht
  · rw [fr _ _ (by omega) (by omega) (by omega) (by omega) (by omega)]; exact h34
  · rw [fm _ _ (by omega) (by omega)]; exact m55
  · rw [t4, h4, ofNat_succ (by omega)]
  · rw [t5, m58, h5]
  · rw [t6, m59, h6]
  · rw [fr _ _ (by omega) (by omega) (by omega) (by omega) (by omega), fm _ _ (by omega) (by omega)]; exact hpr
  · rw [t5, l3]; omega
  · rw [t5, l3]; omega
  · exact fr a j (by omega) (by omega) (by omega) (by omega) (by omega)
  · exact fr _ _ (by omega) (by omega) (by omega) (by omega) (by omega)
  · rw [tw, tl, l1, l2]
    rcases nv with ⟨y1, y2⟩ | ⟨y1, y2⟩
    · left; rw [y2]; omega
    · right; rw [y2]; omega
  · exact fr _ _ (by omega) (by omega) (by omega) (by omega) (by omega)
theorem sg3_s (si : Int32) (n q : Nat) (y4 y5 : Int32) (u : tV) : g_X6_sell_3_31_13 si (n + 1) q y4 y5 u = b_X6_sell_3_31_13 si (g_X6_sell_3_31_13 si n) q y4 y5 u := rfl
theorem then_stop {w : tV} {si : Int32} {s : Nat} (hsi : si.toNatClampNeg = s) (h : (w 464 s).toInt ≤ 0) (m : Nat) : g_X11_sellThen_400 si (m + 1) 0 0 0 w = w := by
  have z0 : (0 : Int32).toInt = 0 := rfl
  rw [st_s0]
  simp only [b_X11_sellThen_400_0, bnd, hsi]
  rw [if_pos (Int32.le_iff_toInt_le.mpr (by rw [z0]; exact h))]
theorem then_go {w : tV} {si : Int32} {s : Nat} (hsi : si.toNatClampNeg = s) (h : 0 < (w 464 s).toInt) (m : Nat) : g_X11_sellThen_400 si (m + 1) 0 0 0 w = g_X11_sellThen_400 si m 1 (-1) 0 w := by
  have z0 : (0 : Int32).toInt = 0 := rfl
  rw [st_s0]
  simp only [b_X11_sellThen_400_0, bnd, hsi]
  rw [if_neg (fun z => by have := i_le z; rw [z0] at this; omega)]
theorem sell3 {cnt nb s : Nat} {si : Int32} (hcnt : cnt ≤ 20) (hnb : nb ≤ 10) (hs : s < cnt) (hsi : si = Int32.ofNat s) :
    ∀ (e k c n m : Nat) (y4 : Int32) (u w : tV), cW (fun b => u (220 + b) 2) nb = e → k + e ≤ nb → e < n → HI cnt nb c u w → c + e ≤ 29 →
      ∃ (c1 : Nat) (y : Int32) (u1 w1 : tV), g_X6_sell_3_31_13 si (n + 1) (140 + s) y4 (Int32.ofNat k) u = (y, u1) ∧ g_X11_sellThen_400 si (m + 12 * (e + 1) + 1) 0 0 0 w = w1 ∧ HI cnt nb c1 u1 w1 ∧ FH u u1 ∧ FHm w w1 ∧ c1 + cW (fun b => u1 (220 + b) 2) nb ≤ c + e + 1 := by
  have z0 : (0 : Int32).toInt = 0 := rfl
  have zm : (-1 : Int32).toInt = -1 := rfl
  have hsn : si.toNatClampNeg = s := by rw [hsi]; exact clampN (by omega)
  have hix : ((4 : Int32) * si + 2).toNatClampNeg = 4 * s + 2 := by rw [hsi]; exact ix4 (k := 2) (by omega) (by omega : 2 < 9) rfl
  intro e
  induction e with
  | zero =>
    intro k c n m y4 u w he hk hn h hc
    obtain ⟨hS, hBu, h34, m55, -⟩ := id h
    obtain ⟨s1, s3, s6, s60, s64⟩ := hS s hs
    by_cases hl : 0 < (u (140 + s) 6).toInt
    · obtain ⟨z, x1, x2, x3, x4, x5⟩ := best3 hnb hsn h34 m55 hix s1 s3 (fun b hb => ⟨(hBu b hb).1, (hBu b hb).2.1, (hBu b hb).2.2.1⟩) nb 0 100000 (m + 12 - nb) (-1) (by omega) (by omega) (by decide) (by rw [zm]; omega) (fun q => absurd q (by decide))
      have hz : z.toInt = -1 := by
        by_cases q : 0 ≤ z.toInt
        · have cq := clampI q
          have y1 := x5 q
          have y2 := cW_zero _ _ he z.toNatClampNeg (by omega)
          have y3 : (u (220 + z.toNatClampNeg) 2).toInt ≤ 0 := y2
          omega
        · omega
      have hbest : f_X6_bestBuyer_3 u (140 + s) = -1 := by
        rw [f_X6_bestBuyer_3]; exact x1.trans (i32_ext (by rw [hz, zm]))
      refine ⟨c, y4, u, w, ?_, ?_, h, FH.rf u, FHm.rf w, by rw [he]; omega⟩
      · rw [sg3_s]
        simp only [b_X6_sell_3_31_13, bnd, hbest]
        rw [if_neg (c := u (140 + s) 6 ≤ 0) (fun z => by have := i_le z; rw [z0] at this; omega), if_pos trivial]
        split <;> rfl
      · rw [then_go hsn (by rw [← s6]; exact hl), show m + 12 * (0 + 1) = m + 12 - nb + nb from by omega]
        have eo : (0 : Int32) = Int32.ofNat 0 := rfl
        rw [eo, x2, show m + 12 - nb = m + 11 - nb + 1 from by omega]
        exact then_none (by omega) m55 _
    · refine ⟨c, y4, u, w, ?_, then_stop hsn (by rw [← s6]; omega) _, h, FH.rf u, FHm.rf w, by rw [he]; omega⟩
      rw [sg3_s]
      simp only [b_X6_sell_3_31_13, bnd]
      rw [if_pos (c := u (140 + s) 6 ≤ 0) (Int32.le_iff_toInt_le.mpr (by rw [z0]; omega))]
      split <;> rfl
  | succ e ih =>
    intro k c n m y4 u w he hk hn h hc
    obtain ⟨n, rfl⟩ : ∃ z, n = z + 1 := ⟨n - 1, by omega⟩
    obtain ⟨hS, hBu, h34, m55, -⟩ := id h
    obtain ⟨s1, s3, s6, s60, s64⟩ := hS s hs
    have hkn : ¬ Int32.ofNat nb ≤ Int32.ofNat k := fun z => by have := (le_ofNat (by omega) (by omega)).mp z; omega
    by_cases hl : 0 < (u (140 + s) 6).toInt
    · obtain ⟨z, x1, x2, x3, x4, x5⟩ := best3 hnb hsn h34 m55 hix s1 s3 (fun b hb => ⟨(hBu b hb).1, (hBu b hb).2.1, (hBu b hb).2.2.1⟩) nb 0 100000 (m + 12 * (e + 1 + 1) - nb) (-1) (by omega) (by omega) (by decide) (by rw [zm]; omega) (fun q => absurd q (by decide))
      have hbest : f_X6_bestBuyer_3 u (140 + s) = z := by
        rw [f_X6_bestBuyer_3]; exact x1
      have eo : (0 : Int32) = Int32.ofNat 0 := rfl
      have hM : g_X11_sellThen_400 si (m + 12 * (e + 1 + 1) + 1) 0 0 0 w = g_X11_sellThen_400 si (m + 12 * (e + 1 + 1) - nb) 1 z (Int32.ofNat nb) w := by
        rw [then_go hsn (by rw [← s6]; exact hl), show m + 12 * (e + 1 + 1) = m + 12 * (e + 1 + 1) - nb + nb from by omega, eo, x2, show m + 12 * (e + 1 + 1) - nb + nb - nb = m + 12 * (e + 1 + 1) - nb from by omega]
      rw [hM, sg3_s]
      simp only [b_X6_sell_3_31_13, bnd, h34, hbest]
      rw [if_neg hkn, if_neg (c := u (140 + s) 6 ≤ 0) (fun z => by have := i_le z; rw [z0] at this; omega)]
      by_cases q : 0 ≤ z.toInt
      · rw [if_neg (c := z = -1) (fun y => by rw [y, zm] at q; omega)]
        have cq := clampI q
        have hbi : z = Int32.ofNat z.toNatClampNeg := i32_ext (by rw [ofNat_int (by omega)]; omega)
        obtain ⟨nn, pp, y1, y2, y3, y4', y5, y6, y7, y8⟩ := strike3 hcnt hnb hs (b := z.toNatClampNeg) (by omega) hsi hbi h (by omega) hl (x5 q)
        rw [show m + 12 * (e + 1 + 1) - nb = m + 12 * (e + 1 + 1) - nb - 1 + 1 from by omega, then_one hsn rfl q m55 hix y1 y2]
        generalize f_X6_strike_3_31 u si z = U at y3 y4' y6 y7 y8 ⊢
        generalize thenM w s z.toNatClampNeg nn pp = W at y3 y5 ⊢
        obtain ⟨hS2, -⟩ := id y3
        obtain ⟨_, _, t6, t60, t64⟩ := hS2 s hs
        rw [ofNat_succ (by omega)]
        by_cases qw : (U (220 + z.toNatClampNeg) 2).toInt ≤ 0
        · have hcW := cW_dec2 (fun b => u (220 + b) 2) (fun b => U (220 + b) 2) (j := z.toNatClampNeg) (n := nb) (fun i hi hne => y6 i (by omega) hne) (by omega) (x5 q) qw
          obtain ⟨c1, y, u1, w1, g1, g2, g3, g4, g5, g6⟩ := ih (k + 1) (c + 1) n (m + 10 - nb) 1 U W (by omega) (by omega) (by omega) y3 (by omega)
          rw [show m + 12 * (e + 1 + 1) - nb - 1 = m + 10 - nb + 12 * (e + 1) + 1 from by omega]
          exact ⟨c1, y, u1, w1, g1, g2, g3, y4'.tr g4, y5.tr g5, by omega⟩
        · have hl0 : (U (140 + s) 6).toInt = 0 := by
            rcases y7 with y7 | y7
            · omega
            · exact y7
          have hle : ∀ n, n ≤ nb → cW (fun b => U (220 + b) 2) n ≤ cW (fun b => u (220 + b) 2) n := by
            intro n hn9
            induction n with
            | zero => exact Nat.le_refl _
            | succ n ih9 =>
              have := ih9 (by omega)
              show cW (fun b => U (220 + b) 2) n + (if 0 < (U (220 + n) 2).toInt then 1 else 0) ≤ cW (fun b => u (220 + b) 2) n + (if 0 < (u (220 + n) 2).toInt then 1 else 0)
              by_cases qn : n = z.toNatClampNeg
              · rw [qn] at this ⊢; rw [if_pos (x5 q)]; split <;> omega
              · rw [y6 n (by omega) qn]; omega
          have h9 := hle nb (Nat.le_refl _)
          refine ⟨c + 1, 1, U, W, ?_, ?_, y3, y4', y5, by omega⟩
          · rw [sg3_s]
            simp only [b_X6_sell_3_31_13, bnd]
            rw [if_pos (c := U (140 + s) 6 ≤ 0) (Int32.le_iff_toInt_le.mpr (by rw [z0]; omega))]
            split <;> rfl
          · rw [show m + 12 * (e + 1 + 1) - nb - 1 = m + 12 * (e + 1 + 1) - nb - 2 + 1 from by omega]
            exact then_stop hsn (by rw [← t6]; omega) _
      · have hz : z = -1 := i32_ext (by rw [zm]; omega)
        rw [if_pos (c := z = -1) hz, show m + 12 * (e + 1 + 1) - nb = m + 12 * (e + 1 + 1) - nb - 1 + 1 from by omega, then_none (by omega) m55]
        exact ⟨c, y4, u, w, rfl, rfl, h, FH.rf u, FHm.rf w, by omega⟩
    · refine ⟨c, y4, u, w, ?_, then_stop hsn (by rw [← s6]; omega) _, h, FH.rf u, FHm.rf w, by omega⟩
      rw [sg3_s]
      simp only [b_X6_sell_3_31_13, bnd]
      rw [if_pos (c := u (140 + s) 6 ≤ 0) (Int32.le_iff_toInt_le.mpr (by rw [z0]; omega))]
      split <;> rfl
def turn3C (u : tV) (si : Int32) : tV := if (f_X6_sell_3_31 u si).1 = 0 then f_X7_miss (f_X6_sell_3_31 u si).2 (140 + si.toNatClampNeg) else (f_X6_sell_3_31 u si).2
theorem turn3 {cnt nb s c : Nat} {si : Int32} {u w : tV} (hcnt : cnt ≤ 20) (hnb : nb ≤ 10) (hs : s < cnt) (hsi : si = Int32.ofNat s) (h : HI cnt nb c u w) (hc : c + cW (fun b => u (220 + b) 2) nb ≤ 29) :
    ∃ c1, HI cnt nb c1 (turn3C u si) (f_X11_sellThen_400 w si) ∧ FH u (turn3C u si) ∧ FHm w (f_X11_sellThen_400 w si) ∧ c1 + cW (fun b => (turn3C u si) (220 + b) 2) nb ≤ c + cW (fun b => u (220 + b) 2) nb + 1 := by
  have hsn : si.toNatClampNeg = s := by rw [hsi]; exact clampN (by omega)
  have hcl := cW_le (fun b => u (220 + b) 2) nb
  obtain ⟨m, hm⟩ : ∃ m, 300000000000 = m + 12 * (cW (fun b => u (220 + b) 2) nb + 1) + 1 := ⟨300000000000 - 12 * (cW (fun b => u (220 + b) 2) nb + 1) - 1, by omega⟩
  obtain ⟨c1, y, u1, w1, g1, g2, g3, g4, g5, g6⟩ := sell3 hcnt hnb hs hsi (cW (fun b => u (220 + b) 2) nb) 0 c 99999 m 0 u w rfl (by omega) (by omega) h (by omega)
  have e1 : f_X6_sell_3_31 u si = (y, u1) := by
    rw [f_X6_sell_3_31, bnd_eq, hsn]; exact g1
  have e2 : f_X11_sellThen_400 w si = w1 := by
    rw [f_X11_sellThen_400, g_X11_sellThen_400_0, hm]; exact g2
  rw [e2]
  have fr : ∀ a j, ¬ (a = 140 + s ∧ (j = 7 ∨ j = 9)) → turn3C u si a j = u1 a j := fun a j z => by
    unfold turn3C
    rw [e1, hsn]
    split
    · exact miss_fr z
    · rfl
  generalize turn3C u si = U at fr
  obtain ⟨hS, hBu, h34, m55, h4, h5, h6, hpr, hm0, hm4⟩ := g3
  refine ⟨c1, ⟨fun t ht => ?_, fun t ht => ?_, ?_, m55, ?_, ?_, ?_, ?_, ?_, ?_⟩, fun a j q1 q2 q3 q4 => ?_, g5, ?_⟩
  · rw [fr _ _ (by omega), fr _ _ (by omega), fr _ _ (by omega)]; exact hS t ht
  · rw [fr _ _ (by omega), fr _ _ (by omega), fr _ _ (by omega), fr _ _ (by omega)]; exact hBu t ht
  · rw [fr _ _ (by omega)]; exact h34
  · rw [fr _ _ (by omega)]; exact h4
  · rw [fr _ _ (by omega)]; exact h5
  · rw [fr _ _ (by omega)]; exact h6
  · rw [fr _ _ (by omega)]; exact hpr
  · rw [fr _ _ (by omega)]; exact hm0
  · rw [fr _ _ (by omega)]; exact hm4
  · rw [fr a j (by omega)]; exact g4 a j q1 q2 q3 q4
  · rw [cW_ext (fun b => u1 (220 + b) 2) (fun b => U (220 + b) 2) nb (fun b hb => fr _ _ (by omega))]; exact g6
