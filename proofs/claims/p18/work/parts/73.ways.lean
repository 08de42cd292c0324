/-! THE REFERENCE'S WAY: all ways, one behind another -/
/-- what lies on a gang: the sum -/
def LSm (d : Nat → Nat) (h : Nat → Int) : Nat → Nat → Int
  | 0, _ => 0
  | n + 1, g => LSm d h n g + (if g = d n then h n else 0)
theorem asg_sum (d : Nat → Nat) (h : Nat → Int) : ∀ (n : Nat) (b : Nat → Int) (g : Nat), asg d h n b g = b g + LSm d h n g := by
  intro n
  induction n with
  | zero =>
    intro b g
    show b g = b g + 0
    omega
  | succ n ih =>
    intro b g
    show asg d h n (AL b (d n) (h n)) g = b g + (LSm d h n g + (if g = d n then h n else 0))
    rw [ih]
    unfold AL
    split <;> omega
theorem LSm_ext (d d2 : Nat → Nat) (h : Nat → Int) : ∀ (n : Nat), (∀ i, i < n → d i = d2 i) → ∀ g, LSm d2 h n g = LSm d h n g := by
  intro n
  induction n with
  | zero => intro _ g; rfl
  | succ n ih =>
    intro hd g
    show LSm d2 h n g + (if g = d2 n then h n else 0) = LSm d h n g + (if g = d n then h n else 0)
    rw [ih (fun i hi => hd i (by omega)), ← hd n (by omega)]
theorem LSm_ge (d : Nat → Nat) (h : Nat → Int) : ∀ (n : Nat), (∀ i, i < n → 0 ≤ h i) → ∀ g, 0 ≤ LSm d h n g := by
  intro n
  induction n with
  | zero => intro _ g; exact Int.le_refl _
  | succ n ih =>
    intro hh g
    have h1 := ih (fun i hi => hh i (by omega)) g
    have h2 := hh n (by omega)
    show 0 ≤ LSm d h n g + (if g = d n then h n else 0)
    split <;> omega
theorem LSm_no (d : Nat → Nat) (h : Nat → Int) {G g : Nat} (hg : G ≤ g) : ∀ (n : Nat), (∀ i, i < n → d i < G) → LSm d h n g = 0 := by
  intro n
  induction n with
  | zero => intro _; rfl
  | succ n ih =>
    intro hd
    have h1 := hd n (by omega)
    show LSm d h n g + (if g = d n then h n else 0) = 0
    rw [ih (fun i hi => hd i (by omega)), if_neg (by omega)]
    all_goals rfl
theorem LSm_le (d : Nat → Nat) (h : Nat → Int) : ∀ (n : Nat), (∀ i, i < n → 0 ≤ h i ∧ h i ≤ 2000) → ∀ g, LSm d h n g ≤ 2000 * (n : Int) := by
  intro n
  induction n with
  | zero => intro _ g; exact Int.le_refl _
  | succ n ih =>
    intro hh g
    have h1 := ih (fun i hi => hh i (by omega)) g
    have h2 := hh n (by omega)
    show LSm d h n g + (if g = d n then h n else 0) ≤ 2000 * ((n + 1 : Nat) : Int)
    split <;> omega
def max3 (a b c : Int) : Int := if (if a ≤ b then b else a) ≤ c then c else (if a ≤ b then b else a)
/-- the longest of all three gangs is that of the G there are -/
theorem MX_max3 {G : Nat} (hG1 : 1 ≤ G) (hG3 : G ≤ 3) {d : Nat → Nat} {h : Nat → Int} {n : Nat} (hh : ∀ i, i < n → 0 ≤ h i) (hd : ∀ i, i < n → d i < G) : MX (asg d h n (fun _ => 0)) G = max3 (LSm d h n 0) (LSm d h n 1) (LSm d h n 2) := by
  have e : ∀ g, asg d h n (fun _ => 0) g = LSm d h n g := fun g => by rw [asg_sum]; omega
  have p := fun g => LSm_ge d h n hh g
  have p0 := p 0
  have p1 := p 1
  have p2 := p 2
  have hG : G = 1 ∨ G = 2 ∨ G = 3 := by omega
  rcases hG with rfl | rfl | rfl
  · have n1 := LSm_no d h (G := 1) (g := 1) (by omega) n hd
    have n2 := LSm_no d h (G := 1) (g := 2) (by omega) n hd
    rw [n1, n2]
    show (if (0 : Int) < asg d h n (fun _ => 0) 0 then asg d h n (fun _ => 0) 0 else 0) = _
    rw [e]
    unfold max3
    repeat' split
    all_goals omega
  · have n2 := LSm_no d h (G := 2) (g := 2) (by omega) n hd
    rw [n2]
    show (if (if (0 : Int) < asg d h n (fun _ => 0) 0 then asg d h n (fun _ => 0) 0 else 0) < asg d h n (fun _ => 0) 1 then asg d h n (fun _ => 0) 1 else (if (0 : Int) < asg d h n (fun _ => 0) 0 then asg d h n (fun _ => 0) 0 else 0)) = _
    rw [e, e]
    unfold max3
    repeat' split
    all_goals omega
  · show (if (if (if (0 : Int) < asg d h n (fun _ => 0) 0 then asg d h n (fun _ => 0) 0 else 0) < asg d h n (fun _ => 0) 1 then asg d h n (fun _ => 0) 1 else (if (0 : Int) < asg d h n (fun _ => 0) 0 then asg d h n (fun _ => 0) 0 else 0)) < asg d h n (fun _ => 0) 2 then asg d h n (fun _ => 0) 2 else (if (if (0 : Int) < asg d h n (fun _ => 0) 0 then asg d h n (fun _ => 0) 0 else 0) < asg d h n (fun _ => 0) 1 then asg d h n (fun _ => 0) 1 else (if (0 : Int) < asg d h n (fun _ => 0) 0 then asg d h n (fun _ => 0) 0 else 0))) = _
    rw [e, e, e]
    unfold max3
    repeat' split
    all_goals omega
/-! a way as a number -/
def lft (G w : Nat) : Nat → Nat
  | 0 => w
  | k + 1 => lft G w k / G
theorem lft_s (G w : Nat) : ∀ k, lft G w (k + 1) = lft G (w / G) k := by
  intro k
  induction k with
  | zero => rfl
  | succ k ih =>
    show lft G w (k + 1) / G = lft G (w / G) k / G
    rw [ih]
theorem lft_le (G w : Nat) : ∀ k, lft G w k ≤ w := by
  intro k
  induction k with
  | zero => exact Nat.le_refl _
  | succ k ih =>
    have : lft G w k / G ≤ lft G w k := Nat.div_le_self _ _
    show lft G w k / G ≤ w
    omega
def pw (G : Nat) : Nat → Nat
  | 0 => 1
  | n + 1 => G * pw G n
theorem pw_1 {G : Nat} (hG : 1 ≤ G) (hG3 : G ≤ 3) : ∀ n, 1 ≤ pw G n := by
  intro n
  have hG : G = 1 ∨ G = 2 ∨ G = 3 := by omega
  induction n with
  | zero => exact Nat.le_refl _
  | succ n ih =>
    rcases hG with rfl | rfl | rfl
    · show 1 ≤ 1 * pw 1 n; omega
    · show 1 ≤ 2 * pw 2 n; omega
    · show 1 ≤ 3 * pw 3 n; omega
theorem pw_7 {G : Nat} (hG1 : 1 ≤ G) (hG3 : G ≤ 3) {n : Nat} (hn : n ≤ 7) : pw G n ≤ 2187 := by
  have hG : G = 1 ∨ G = 2 ∨ G = 3 := by omega
  have hn' : n = 0 ∨ n = 1 ∨ n = 2 ∨ n = 3 ∨ n = 4 ∨ n = 5 ∨ n = 6 ∨ n = 7 := by omega
  rcases hG with rfl | rfl | rfl <;> rcases hn' with rfl | rfl | rfl | rfl | rfl | rfl | rfl | rfl <;> decide
theorem enc {G : Nat} (hG1 : 1 ≤ G) (hG3 : G ≤ 3) : ∀ (n : Nat) (d : Nat → Nat), (∀ i, i < n → d i < G) → ∃ w, w < pw G n ∧ ∀ k, k < n → lft G w k % G = d k := by
  have hG : G = 1 ∨ G = 2 ∨ G = 3 := by omega
  intro n
  induction n with
  | zero => intro d _; exact ⟨0, by show 0 < 1; omega, fun k hk => absurd hk (Nat.not_lt_zero k)⟩
  | succ n ih =>
    intro d hd
    obtain ⟨w, w1, w2⟩ := ih (fun k => d (k + 1)) (fun i hi => hd (i + 1) (by omega))
    have d0 := hd 0 (by omega)
    rcases hG with rfl | rfl | rfl
    · refine ⟨d 0 + 1 * w, by show d 0 + 1 * w < 1 * pw 1 n; omega, fun k hk => ?_⟩
      cases k with
      | zero => show (d 0 + 1 * w) % 1 = d 0; omega
      | succ k => rw [lft_s, show (d 0 + 1 * w) / 1 = w from by omega]; exact w2 k (by omega)
    · refine ⟨d 0 + 2 * w, by show d 0 + 2 * w < 2 * pw 2 n; omega, fun k hk => ?_⟩
      cases k with
      | zero => show (d 0 + 2 * w) % 2 = d 0; omega
      | succ k => rw [lft_s, show (d 0 + 2 * w) / 2 = w from by omega]; exact w2 k (by omega)
    · refine ⟨d 0 + 3 * w, by show d 0 + 3 * w < 3 * pw 3 n; omega, fun k hk => ?_⟩
      cases k with
      | zero => show (d 0 + 3 * w) % 3 = d 0; omega
      | succ k => rw [lft_s, show (d 0 + 3 * w) / 3 = w from by omega]; exact w2 k (by omega)
/-! the loops -/
theorem cl_s0 (gg : Int32) (n : Nat) (y2 y3 y4 y5 y6 y7 : Int32) (v : tV) : g_X11_clear_400 gg (n + 1) 0 y2 y3 y4 y5 y6 y7 v = b_X11_clear_400_22 gg (fun y2 y3 y4 w1 => g_X11_clear_400 gg n 0 y2 y3 y4 0 0 0 w1) (fun y2 y3 y4 y5 w1 => g_X11_clear_400 gg n 1 y2 y3 y4 y5 0 0 w1) y2 y3 y4 v := rfl
theorem cl_s1 (gg : Int32) (n : Nat) (y2 y3 y4 y5 y6 y7 : Int32) (v : tV) : g_X11_clear_400 gg (n + 1) 1 y2 y3 y4 y5 y6 y7 v = b_X11_clear_400_44 gg (fun y2 y3 y4 y5 y6 y7 w1 => g_X11_clear_400 gg n 2 y2 y3 y4 y5 y6 y7 w1) y2 y3 y4 y5 v := rfl
theorem cl_s2 (gg : Int32) (n : Nat) (y2 y3 y4 y5 y6 y7 : Int32) (v : tV) : g_X11_clear_400 gg (n + 1) 2 y2 y3 y4 y5 y6 y7 v = b_X11_clear_400_57 gg (fun y2 y3 y4 y5 y6 y7 w1 => g_X11_clear_400 gg n 2 y2 y3 y4 y5 y6 y7 w1) (fun y2 y3 y4 y5 y6 y7 w1 => g_X11_clear_400 gg n 3 y2 y3 y4 y5 y6 y7 w1) y2 y3 y4 y5 y6 y7 v := rfl
theorem cl_s3 (gg : Int32) (n : Nat) (y2 y3 y4 y5 y6 y7 : Int32) (v : tV) : g_X11_clear_400 gg (n + 1) 3 y2 y3 y4 y5 y6 y7 v = b_X11_clear_400_80 gg (fun y2 y3 y4 y5 w1 => g_X11_clear_400 gg n 1 y2 y3 y4 y5 0 0 w1) (fun y2 y3 y4 y5 y6 y7 w1 => g_X11_clear_400 gg n 3 y2 y3 y4 y5 y6 y7 w1) y2 y3 y4 y5 y6 y7 v := rfl
/-- the number of ways -/
theorem ways {G : Nat} (hG1 : 1 ≤ G) (hG3 : G ≤ 3) {n : Nat} (hn : n ≤ 7) (m : Nat) (v : tV) : ∀ (e k : Nat), k + e = n → g_X11_clear_400 (Int32.ofNat G) (m + e + 1) 0 (Int32.ofNat n) (Int32.ofNat (pw G k)) (Int32.ofNat k) 0 0 0 v = g_X11_clear_400 (Int32.ofNat G) m 1 (Int32.ofNat n) (Int32.ofNat (pw G n)) (-1) 0 0 0 v := by
  intro e
  induction e with
  | zero =>
    intro k hk
    have hk' : k = n := by omega
    subst hk'
    rw [show m + 0 + 1 = m + 1 from rfl, cl_s0]
    simp only [b_X11_clear_400_22, bnd]
    rw [if_pos (i_refl _)]
  | succ e ih =>
    intro k hk
    have e1 : m + (e + 1) + 1 = (m + e + 1) + 1 := by omega
    have hp := pw_7 hG1 hG3 (n := k) (by omega)
    have hp2 := pw_7 hG1 hG3 (n := k + 1) (by omega)
    have em : Int32.ofNat (pw G k) * Int32.ofNat G = Int32.ofNat (pw G (k + 1)) := by
      have a := ofNat_int (n := pw G k) (by omega)
      have b := ofNat_int (n := G) (by omega)
      have c := ofNat_int (n := pw G (k + 1)) (by omega)
      have hG : G = 1 ∨ G = 2 ∨ G = 3 := by omega
      have d : (pw G k : Int) * (G : Int) = (pw G (k + 1) : Int) := by
        rcases hG with rfl | rfl | rfl
        · show (pw 1 k : Int) * ((1 : Nat) : Int) = ((1 * pw 1 k : Nat) : Int); omega
        · show (pw 2 k : Int) * ((2 : Nat) : Int) = ((2 * pw 2 k : Nat) : Int); omega
        · show (pw 3 k : Int) * ((3 : Nat) : Int) = ((3 * pw 3 k : Nat) : Int); omega
      exact i32_ext (by rw [i_mul (by rw [a, b, d]; omega) (by rw [a, b, d]; omega), a, b, c, d])
    have x := ih (k + 1) (by omega)
    rw [e1, cl_s0]
    simp only [b_X11_clear_400_22, bnd, em, ofNat_succ (n := k) (by omega)]
    rw [if_neg (fun z => by have := (le_ofNat (by omega) (by omega)).mp z; omega)]
    exact x
/-- the gangs begin with nothing -/
theorem gang0 {gg y2 y3 y4 y5 y6 : Int32} (m : Nat) (v : tV) : g_X11_clear_400 gg (m + 4) 2 y2 y3 y4 y5 y6 0 v = g_X11_clear_400 gg m 3 y2 y3 y4 y5 y6 0 (up2 (up2 (up2 v 462 0 0) 462 1 0) 462 2 0) := by
  have e1 : (0 : Int32) + 1 = 1 := rfl
  have e2 : (1 : Int32) + 1 = 2 := rfl
  have e3 : (2 : Int32) + 1 = 3 := rfl
  have c0 : (0 : Int32).toNatClampNeg = 0 := rfl
  have c1 : (1 : Int32).toNatClampNeg = 1 := rfl
  have c2 : (2 : Int32).toNatClampNeg = 2 := rfl
  rw [show m + 4 = m + 3 + 1 from rfl, cl_s2]
  simp only [b_X11_clear_400_57, bnd]
  rw [if_neg (by decide), e1, c0, show m + 3 = m + 2 + 1 from rfl, cl_s2]
  simp only [b_X11_clear_400_57, bnd]
  rw [if_neg (by decide), e2, c1, show m + 2 = m + 1 + 1 from rfl, cl_s2]
  simp only [b_X11_clear_400_57, bnd]
  rw [if_neg (by decide), e3, c2, cl_s2]
  simp only [b_X11_clear_400_57, bnd]
  rw [if_pos (by decide)]
theorem div_ofNat {a G : Nat} (hG1 : 1 ≤ G) (hG3 : G ≤ 3) (ha : a < 10000) : Int32.ofNat a / Int32.ofNat G = Int32.ofNat (a / G) ∧ Int32.ofNat a - Int32.ofNat (a / G) * Int32.ofNat G = Int32.ofNat (a % G) := by
  have h1 : Int32.ofNat a / Int32.ofNat G = Int32.ofNat (a / G) := pk_div (by omega) (by omega) (by omega)
  have h2 : Int32.ofNat a - Int32.ofNat a / Int32.ofNat G * Int32.ofNat G = Int32.ofNat (a % G) := pk_rem (by omega) (by omega) (by omega)
  rw [h1] at h2
  exact ⟨h1, h2⟩
/-- the hours of a way, gang by gang -/
theorem inner {G n w : Nat} {h : Nat → Int} {y3 y4 y5 : Int32} (hG1 : 1 ≤ G) (hG3 : G ≤ 3) (hn : n ≤ 7) (hw : w < 10000) (hh : ∀ i, i < n → 0 ≤ h i ∧ h i ≤ 2000) (m : Nat) : ∀ (e k : Nat) (v : tV), k + e = n → (∀ i, i < n → (v 461 i).toInt = h i) → (∀ g, g < 3 → (v 462 g).toInt = LSm (fun i => lft G w i % G) h k g) →
    ∃ V, (∀ a j, a ≠ 462 → V a j = v a j) ∧ (∀ g, g < 3 → (V 462 g).toInt = LSm (fun i => lft G w i % G) h n g) ∧ g_X11_clear_400 (Int32.ofNat G) (m + e) 3 (Int32.ofNat n) y3 y4 y5 (Int32.ofNat (lft G w k)) (Int32.ofNat k) v = g_X11_clear_400 (Int32.ofNat G) m 3 (Int32.ofNat n) y3 y4 y5 (Int32.ofNat (lft G w n)) (Int32.ofNat n) V := by
  intro e
  induction e with
  | zero =>
    intro k v hk _ h2
    have hk' : k = n := by omega
    subst hk'
    exact ⟨v, fun _ _ _ => rfl, h2, rfl⟩
  | succ e ih =>
    intro k v hk h1 h2
    have hl := lft_le G w k
    obtain ⟨d1, d2⟩ := div_ofNat (a := lft G w k) hG1 hG3 (by omega)
    have hr : lft G w k % G < G := Nat.mod_lt _ (by omega)
    have e0 := hh k (by omega)
    have l0 := LSm_ge (fun i => lft G w i % G) h k (fun i hi => (hh i (by omega)).1) (lft G w k % G)
    have l1 := LSm_le (fun i => lft G w i % G) h k (fun i hi => hh i (by omega)) (lft G w k % G)
    have b1 := h1 k (by omega)
    have b2 := h2 (lft G w k % G) (by omega)
    have ea : (v 462 (lft G w k % G) + v 461 k).toInt = (v 462 (lft G w k % G)).toInt + (v 461 k).toInt := i_add (by rw [b1, b2]; omega) (by rw [b1, b2]; omega)
    have cl : (Int32.ofNat (lft G w k % G)).toNatClampNeg = lft G w k % G := clampN (by omega)
    obtain ⟨V, v1, v2, v3⟩ := ih (k + 1) (up2 v 462 (lft G w k % G) (v 462 (lft G w k % G) + v 461 k)) (by omega) (fun i hi => by rw [up2_n _ _ (by omega)]; exact h1 i hi) (fun g hg => by
      show _ = LSm (fun i => lft G w i % G) h k g + (if g = lft G w k % G then h k else 0)
      by_cases q : g = lft G w k % G
      · rw [if_pos q, q, up2_s, ea, b1, b2]
      · rw [if_neg q, up2_n _ _ (by omega), h2 g hg]; omega)
    refine ⟨V, fun a j z => by rw [v1 a j z, up2_n _ _ (by omega)], v2, ?_⟩
    rw [show m + (e + 1) = m + e + 1 from by omega, cl_s3]
    simp only [b_X11_clear_400_80, bnd, d1, d2, cl, clampN (n := k) (by omega), ofNat_succ (n := k) (by omega)]
    rw [if_neg (fun z => by have := (le_ofNat (by omega) (by omega)).mp z; omega)]
    exact v3
def max3I (a b c : Int32) : Int32 := if a ≤ b then (if b ≤ c then c else b) else (if a ≤ c then c else a)
theorem max3I_int (a b c : Int32) : (max3I a b c).toInt = max3 a.toInt b.toInt c.toInt := by
  unfold max3I max3
  by_cases q : a ≤ b
  · rw [if_pos q, if_pos (i_le q)]
    by_cases q2 : b ≤ c
    · rw [if_pos q2, if_pos (i_le q2)]
    · rw [if_neg q2, if_neg (c := b.toInt ≤ c.toInt) (by have := i_nle q2; omega)]
  · rw [if_neg q, if_neg (c := a.toInt ≤ b.toInt) (by have := i_nle q; omega)]
    by_cases q2 : a ≤ c
    · rw [if_pos q2, if_pos (i_le q2)]
    · rw [if_neg q2, if_neg (c := a.toInt ≤ c.toInt) (by have := i_nle q2; omega)]
theorem last3 {gg y2 y3 y4 y5 y6 y7 : Int32} (hle : y2 ≤ y7) (m : Nat) (v : tV) : g_X11_clear_400 gg (m + 1) 3 y2 y3 y4 y5 y6 y7 v = g_X11_clear_400 gg m 1 y2 y3 (if y4 < 0 then max3I (v 462 0) (v 462 1) (v 462 2) else if y4 ≤ max3I (v 462 0) (v 462 1) (v 462 2) then y4 else max3I (v 462 0) (v 462 1) (v 462 2)) (y5 + 1) 0 0 v := by
  have c0 : (0 : Int32).toNatClampNeg = 0 := rfl
  have c1 : (1 : Int32).toNatClampNeg = 1 := rfl
  have c2 : (2 : Int32).toNatClampNeg = 2 := rfl
  rw [cl_s3]
  simp only [b_X11_clear_400_80, bnd, c0, c1, c2, max3I]
  rw [if_pos hle]
  generalize v 462 0 = a
  generalize v 462 1 = b
  generalize v 462 2 = c
  by_cases q1 : a ≤ b
  · simp only [if_pos q1]
    by_cases q2 : b ≤ c
    · simp only [if_pos q2]
      by_cases q3 : y4 < 0
      · simp only [if_pos q3]
      · simp only [if_neg q3]
        by_cases q4 : y4 ≤ c
        · simp only [if_pos q4]
        · simp only [if_neg q4]
    · simp only [if_neg q2]
      by_cases q3 : y4 < 0
      · simp only [if_pos q3]
      · simp only [if_neg q3]
        by_cases q4 : y4 ≤ b
        · simp only [if_pos q4]
        · simp only [if_neg q4]
  · simp only [if_neg q1]
    by_cases q2 : a ≤ c
    · simp only [if_pos q2]
      by_cases q3 : y4 < 0
      · simp only [if_pos q3]
      · simp only [if_neg q3]
        by_cases q4 : y4 ≤ c
        · simp only [if_pos q4]
        · simp only [if_neg q4]
    · simp only [if_neg q2]
      by_cases q3 : y4 < 0
      · simp only [if_pos q3]
      · simp only [if_neg q3]
        by_cases q4 : y4 ≤ a
        · simp only [if_pos q4]
        · simp only [if_neg q4]
/-- what a way costs -/
def XW (G : Nat) (h : Nat → Int) (n w : Nat) : Int := max3 (LSm (fun i => lft G w i % G) h n 0) (LSm (fun i => lft G w i % G) h n 1) (LSm (fun i => lft G w i % G) h n 2)
theorem XW_0 {G n w : Nat} {h : Nat → Int} (hh : ∀ i, i < n → 0 ≤ h i) : 0 ≤ XW G h n w := by
  have p0 := LSm_ge (fun i => lft G w i % G) h n hh 0
  have p1 := LSm_ge (fun i => lft G w i % G) h n hh 1
  have p2 := LSm_ge (fun i => lft G w i % G) h n hh 2
  unfold XW max3
  repeat' split
  all_goals omega
theorem le_ofNat2 {c y : Nat} (hc : c < 100000) (hy : y < 100000) : (Int32.ofNat c ≤ Int32.ofNat y) ↔ c ≤ y := by
  rw [Int32.le_iff_toInt_le, ofNat_int (by omega), ofNat_int (by omega)]
  omega
theorem outer {G n : Nat} {h : Nat → Int} (hG1 : 1 ≤ G) (hG3 : G ≤ 3) (hn : n ≤ 7) (hh : ∀ i, i < n → 0 ≤ h i ∧ h i ≤ 2000) : ∀ (e w m : Nat) (be : Int32) (v : tV), w + e = pw G n → (∀ i, i < n → (v 461 i).toInt = h i) → ((w = 0 ∧ be = -1) ∨ (0 < w ∧ (∀ x, x < w → be.toInt ≤ XW G h n x) ∧ ∃ x, x < w ∧ be.toInt = XW G h n x)) →
    ∃ (r : Int32) (V : tV), g_X11_clear_400 (Int32.ofNat G) (m + 13 * e + 1) 1 (Int32.ofNat n) (Int32.ofNat (pw G n)) be (Int32.ofNat w) 0 0 v = (r, V) ∧ (∀ x, x < pw G n → r.toInt ≤ XW G h n x) ∧ ∃ x, x < pw G n ∧ r.toInt = XW G h n x := by
  have hp1 := pw_1 hG1 hG3 n
  have hp7 := pw_7 hG1 hG3 hn
  have z0 : (0 : Int32).toInt = 0 := rfl
  intro e
  induction e with
  | zero =>
    intro w m be v hw h1 hI
    have hw' : w = pw G n := by omega
    refine ⟨be, v, ?_, ?_⟩
    · rw [cl_s1]
      simp only [b_X11_clear_400_44]
      rw [if_pos ((le_ofNat2 (by omega) (by omega)).mpr (by omega))]
    · rcases hI with ⟨q, _⟩ | ⟨_, q2, q3⟩
      · omega
      · rw [← hw']; exact ⟨q2, q3⟩
  | succ e ih =>
    intro w m be v hw h1 hI
    obtain ⟨V0, hV0⟩ : ∃ z, z = up2 (up2 (up2 v 462 0 0) 462 1 0) 462 2 0 := ⟨_, rfl⟩
    have f0 : ∀ a j, a ≠ 462 → V0 a j = v a j := fun a j z => by rw [hV0, up2_n _ _ (by omega), up2_n _ _ (by omega), up2_n _ _ (by omega)]
    have g0 : ∀ g, g < 3 → (V0 462 g).toInt = LSm (fun i => lft G w i % G) h 0 g := fun g hg => by
      have hg' : g = 0 ∨ g = 1 ∨ g = 2 := by omega
      show _ = (0 : Int)
      rcases hg' with rfl | rfl | rfl
      · rw [hV0]; simp (disch := omega) only [up2_n, up2_s]; exact z0
      · rw [hV0]; simp (disch := omega) only [up2_n, up2_s]; exact z0
      · rw [hV0]; simp (disch := omega) only [up2_n, up2_s]; exact z0
    obtain ⟨V, v1, v2, v3⟩ := inner (G := G) (n := n) (w := w) (h := h) (y3 := Int32.ofNat (pw G n)) (y4 := be) (y5 := Int32.ofNat w) hG1 hG3 hn (by omega) hh (m + 13 * e + 1 + (7 - n) + 1) n 0 V0 (by omega) (fun i hi => by rw [f0 _ _ (by omega)]; exact h1 i hi) g0
    have e1 : m + 13 * (e + 1) + 1 = (m + 13 * e + 1 + (7 - n) + 1 + n + 4) + 1 := by omega
    have eo : Int32.ofNat 0 = (0 : Int32) := rfl
    have el : lft G w 0 = w := rfl
    rw [eo, el] at v3
    have hX : (max3I (V 462 0) (V 462 1) (V 462 2)).toInt = XW G h n w := by
      rw [max3I_int, v2 0 (by omega), v2 1 (by omega), v2 2 (by omega)]
      all_goals rfl
    have hX0 := XW_0 (G := G) (w := w) (fun i hi => (hh i hi).1)
    obtain ⟨M, hM⟩ : ∃ z, z = max3I (V 462 0) (V 462 1) (V 462 2) := ⟨_, rfl⟩
    rw [← hM] at hX
    obtain ⟨b2, hb2⟩ : ∃ z, z = if be < 0 then M else if be ≤ M then be else M := ⟨_, rfl⟩
    have hstep : g_X11_clear_400 (Int32.ofNat G) (m + 13 * (e + 1) + 1) 1 (Int32.ofNat n) (Int32.ofNat (pw G n)) be (Int32.ofNat w) 0 0 v = g_X11_clear_400 (Int32.ofNat G) (m + (7 - n) + 13 * e + 1) 1 (Int32.ofNat n) (Int32.ofNat (pw G n)) b2 (Int32.ofNat (w + 1)) 0 0 V := by
      rw [e1, cl_s1]
      simp only [b_X11_clear_400_44]
      rw [if_neg (fun z => by have := (le_ofNat2 (by omega) (by omega)).mp z; omega), gang0, ← hV0, v3, last3 (i_refl _), ← hM, ← hb2, ofNat_succ (by omega), show m + 13 * e + 1 + (7 - n) = m + (7 - n) + 13 * e + 1 from by omega]
    rw [hstep]
    refine ih (w + 1) (m + (7 - n)) b2 V (by omega) (fun i hi => by rw [v1 _ _ (by omega), f0 _ _ (by omega)]; exact h1 i hi) (Or.inr ⟨by omega, ?_⟩)
    rcases hI with ⟨q1, q2⟩ | ⟨q1, q2, x, q3, q4⟩
    · have hb : b2 = M := by rw [hb2, if_pos (by rw [q2]; decide)]
      rw [hb, hX]
      refine ⟨fun x hx => ?_, w, by omega, rfl⟩
      have : x = w := by omega
      rw [this]; exact Int.le_refl _
    · have hbe : 0 ≤ be.toInt := by rw [q4]; exact XW_0 (fun i hi => (hh i hi).1)
      have hn0 : ¬ be < 0 := fun z => by have := i_lt z; rw [z0] at this; omega
      rw [if_neg hn0] at hb2
      by_cases q : be ≤ M
      · have q' := i_le q
        rw [if_pos q] at hb2
        rw [hb2]
        refine ⟨fun y hy => ?_, x, by omega, q4⟩
        by_cases z : y = w
        · rw [z, ← hX]; exact q'
        · exact q2 y (by omega)
      · have q' := i_nle q
        rw [if_neg q] at hb2
        rw [hb2, hX]
        refine ⟨fun y hy => ?_, w, by omega, rfl⟩
        by_cases z : y = w
        · rw [z]; exact Int.le_refl _
        · have := q2 y (by omega)
          omega
/-- both find the least -/
theorem least_eq {G n : Nat} {h : Nat → Int} (hG1 : 1 ≤ G) (hG3 : G ≤ 3) (hh : ∀ i, i < n → 0 ≤ h i) {a b all : Int}
    (c1 : ∀ d : Nat → Nat, (∀ i, i < n → d i < G) → a ≤ MX (asg d h n (fun _ => 0)) G ∨ all ≤ MX (asg d h n (fun _ => 0)) G) (c2 : a = all ∨ ∃ d : Nat → Nat, (∀ i, i < n → d i < G) ∧ a = MX (asg d h n (fun _ => 0)) G) (c3 : 1 ≤ n → a ≤ all) (hall : all = LSm (fun _ => 0) h n 0)
    (m1 : ∀ x, x < pw G n → b ≤ XW G h n x) (m2 : ∃ x, x < pw G n ∧ b = XW G h n x) : a = b := by
  have e : ∀ d : Nat → Nat, (∀ i, i < n → d i < G) → ∃ x, x < pw G n ∧ MX (asg d h n (fun _ => 0)) G = XW G h n x := fun d hd => by
    obtain ⟨x, x1, x2⟩ := enc hG1 hG3 n d hd
    refine ⟨x, x1, ?_⟩
    rw [MX_max3 hG1 hG3 hh hd]
    unfold XW
    rw [LSm_ext d (fun i => lft G x i % G) h n (fun i hi => (x2 i hi).symm), LSm_ext d (fun i => lft G x i % G) h n (fun i hi => (x2 i hi).symm), LSm_ext d (fun i => lft G x i % G) h n (fun i hi => (x2 i hi).symm)]
  have e2 : ∀ x, XW G h n x = MX (asg (fun i => lft G x i % G) h n (fun _ => 0)) G := fun x => (MX_max3 hG1 hG3 hh (fun i _ => Nat.mod_lt _ (by omega))).symm
  have p0 := LSm_ge (fun _ => 0) h n hh 0
  -- all on the first gang
  have hone : b ≤ all := by
    obtain ⟨x, x1, x2⟩ := e (fun _ => 0) (fun _ _ => by omega)
    have y1 := m1 x x1
    have y2 : MX (asg (fun _ => 0) h n (fun _ => 0)) G ≤ all := by
      refine MX_le _ (by omega) (fun g hg => ?_)
      rw [asg_sum]
      by_cases z : g = 0
      · rw [z]; omega
      · have := LSm_no (fun _ => 0) h (G := 1) (g := g) (by omega) n (fun _ _ => by omega)
        rw [this]; omega
    omega
  have ab : b ≤ a := by
    rcases c2 with c2 | ⟨d, d1, d2⟩
    · omega
    · obtain ⟨x, x1, x2⟩ := e d d1
      have := m1 x x1
      omega
  have ba : a ≤ b := by
    obtain ⟨x, x1, x2⟩ := m2
    have y := c1 (fun i => lft G x i % G) (fun i _ => Nat.mod_lt _ (by omega))
    rw [← e2 x] at y
    rcases y with y | y
    · omega
    · by_cases z : n = 0
      · subst z
        have w1 : MX (asg (fun i => lft G x i % G) h 0 (fun _ => 0)) G ≤ 0 := MX_le _ (Int.le_refl _) (fun g _ => Int.le_refl _)
        rcases c2 with c2 | ⟨d, d1, d2⟩
        · have : all = 0 := hall
          have y3 := XW_0 (G := G) (w := x) (n := 0) hh
          omega
        · have w2 : MX (asg d h 0 (fun _ => 0)) G ≤ 0 := MX_le _ (Int.le_refl _) (fun g _ => Int.le_refl _)
          have y3 := XW_0 (G := G) (w := x) (n := 0) hh
          omega
      · have := c3 (by omega)
        omega
  omega
