/-! GANGS: loads, the longest, the least -/
def MX (b : Nat → Int) : Nat → Int
  | 0 => 0
  | G + 1 => if MX b G < b G then b G else MX b G
theorem MX_ge (b : Nat → Int) {g G : Nat} (h : g < G) : b g ≤ MX b G := by
  induction G with
  | zero => omega
  | succ G ih =>
    show b g ≤ if MX b G < b G then b G else MX b G
    by_cases q : g = G
    · rw [q]; split <;> omega
    · have := ih (by omega)
      split <;> omega
theorem MX_0 (b : Nat → Int) (G : Nat) : 0 ≤ MX b G := by
  induction G with
  | zero => exact Int.le_refl _
  | succ G ih =>
    show 0 ≤ if MX b G < b G then b G else MX b G
    split <;> omega
theorem MX_le (b : Nat → Int) {c : Int} (hc : 0 ≤ c) {G : Nat} (h : ∀ g, g < G → b g ≤ c) : MX b G ≤ c := by
  induction G with
  | zero => exact hc
  | succ G ih =>
    show (if MX b G < b G then b G else MX b G) ≤ c
    have h1 := ih (fun g hg => h g (by omega))
    have h2 := h G (by omega)
    split <;> omega
def AL (b : Nat → Int) (g0 : Nat) (x : Int) : Nat → Int := fun g => if g = g0 then b g + x else b g
def asg (d : Nat → Nat) (h : Nat → Int) : Nat → (Nat → Int) → Nat → Int
  | 0, b => b
  | n + 1, b => asg d h n (AL b (d n) (h n))
theorem asg_ge (d : Nat → Nat) (h : Nat → Int) : ∀ (n : Nat) (b : Nat → Int) (g : Nat), (∀ k, k < n → 0 ≤ h k) → b g ≤ asg d h n b g := by
  intro n
  induction n with
  | zero => intro b g _; exact Int.le_refl _
  | succ n ih =>
    intro b g hh
    show b g ≤ asg d h n (AL b (d n) (h n)) g
    have h1 := ih (AL b (d n) (h n)) g (fun k hk => hh k (by omega))
    have h2 := hh n (by omega)
    have h3 : b g ≤ AL b (d n) (h n) g := by
      unfold AL
      split <;> omega
    omega
theorem asg_ext (d d2 : Nat → Nat) (h : Nat → Int) : ∀ (n : Nat), (∀ i, i < n → d i = d2 i) → ∀ b : Nat → Int, asg d2 h n b = asg d h n b := by
  intro n
  induction n with
  | zero => intro _ b; rfl
  | succ n ih =>
    intro hd b
    show asg d2 h n (AL b (d2 n) (h n)) = asg d h n (AL b (d n) (h n))
    rw [← hd n (by omega)]
    exact ih (fun i hi => hd i (by omega)) _
theorem lg_s (v : tV) (gg : Int32) (n : Nat) (y2 y3 : Int32) : g_X2_longest_42_4 v gg (n + 1) y2 y3 = b_X2_longest_42_4 v gg (g_X2_longest_42_4 v gg n) y2 y3 := rfl
theorem longest_loop {v : tV} {G : Nat} (hG : G ≤ 3) : ∀ (d y n : Nat) (y2 : Int32), y + d = G → d < n → y2.toInt = MX (fun g => (v 42 g).toInt) y → (g_X2_longest_42_4 v (Int32.ofNat G) n y2 (Int32.ofNat y)).toInt = MX (fun g => (v 42 g).toInt) G := by
  intro d
  induction d with
  | zero =>
    intro y n y2 hd hn h
    obtain ⟨n, rfl⟩ : ∃ k, n = k + 1 := ⟨n - 1, by omega⟩
    have hy : y = G := by omega
    subst hy
    rw [lg_s]
    simp only [b_X2_longest_42_4, bnd]
    rw [if_pos (i_refl _)]
    exact h
  | succ d ih =>
    intro y n y2 hd hn h
    obtain ⟨n, rfl⟩ : ∃ k, n = k + 1 := ⟨n - 1, by omega⟩
    rw [lg_s]
    simp only [b_X2_longest_42_4, bnd, clampN (n := y) (by omega), ofNat_succ (n := y) (by omega)]
    rw [if_neg (fun z => by have := (le_ofNat (by omega) (by omega)).mp z; omega)]
    refine ih (y + 1) n _ (by omega) (by omega) ?_
    show _ = if MX (fun g => (v 42 g).toInt) y < (v 42 y).toInt then (v 42 y).toInt else MX (fun g => (v 42 g).toInt) y
    rw [← h]
    by_cases q : y2 < v 42 y
    · rw [if_pos q, if_pos (i_lt q)]
    · have := i_nlt q
      rw [if_neg q, if_neg (by omega)]
theorem longest_val {v : tV} {G : Nat} (hG : G ≤ 3) : (f_X2_longest_42 v (Int32.ofNat G)).toInt = MX (fun g => (v 42 g).toInt) G := by
  rw [f_X2_longest_42]
  exact longest_loop hG G 0 100000 0 (by omega) (by omega) rfl
/-- what a search for the least does: the world is as before; what it finds is the least, or not below what was known -/
def LH (F : tV → Int32 → Int32 → Int32 → Int32 × tV) (k : Nat) : Prop := ∀ (n G : Nat) (be : Int32) (v : tV), n ≤ k → 1 ≤ G → G ≤ 3 → (∀ i, i < n → 0 ≤ (v 41 i).toInt ∧ (v 41 i).toInt ≤ 2000) → (∀ g, g < 3 → 0 ≤ (v 42 g).toInt ∧ (v 42 g).toInt ≤ 2000 * (7 - (n : Int))) →
  (F v (Int32.ofNat n) (Int32.ofNat G) be).2 = v ∧
  (∀ d : Nat → Nat, (∀ i, i < n → d i < G) → (F v (Int32.ofNat n) (Int32.ofNat G) be).1.toInt ≤ MX (asg d (fun i => (v 41 i).toInt) n (fun g => (v 42 g).toInt)) G ∨ be.toInt ≤ MX (asg d (fun i => (v 41 i).toInt) n (fun g => (v 42 g).toInt)) G) ∧
  ((F v (Int32.ofNat n) (Int32.ofNat G) be).1.toInt = be.toInt ∨ ∃ d : Nat → Nat, (∀ i, i < n → d i < G) ∧ (F v (Int32.ofNat n) (Int32.ofNat G) be).1.toInt = MX (asg d (fun i => (v 41 i).toInt) n (fun g => (v 42 g).toInt)) G) ∧
  (1 ≤ n → (F v (Int32.ofNat n) (Int32.ofNat G) be).1.toInt ≤ be.toInt)
theorem lh_0 : LH f_X2_leastHours_0 0 := by
  intro n G be v hn hG1 hG3 _ _
  have hn0 : n = 0 := by omega
  subst hn0
  have e : f_X2_leastHours_0 v (Int32.ofNat 0) (Int32.ofNat G) be = (f_X2_longest_42 v (Int32.ofNat G), v) := by rw [f_X2_leastHours_0, bnd_eq]
  rw [e]
  have hl := longest_val (v := v) hG3
  exact ⟨rfl, fun d _ => Or.inl (by rw [hl]; exact Int.le_refl _), Or.inr ⟨fun _ => 0, fun i hi => absurd hi (Nat.not_lt_zero i), hl⟩, fun h => absurd h (by omega)⟩

theorem lhs_1 (up gg be : Int32) (n : Nat) (y5 y6 y7 : Int32) (v : tV) : g_X2_leastHours_1_24 up gg be (n + 1) y5 y6 y7 v = b_X2_leastHours_1_24 up gg be (g_X2_leastHours_1_24 up gg be n) y5 y6 y7 v := rfl
theorem lhl_1 {m G : Nat} {be : Int32} {v : tV} (hm : m ≤ 0) (hG1 : 1 ≤ G) (hG3 : G ≤ 3) (hh : ∀ i, i < m + 1 → 0 ≤ (v 41 i).toInt ∧ (v 41 i).toInt ≤ 2000) (hb : ∀ g, g < 3 → 0 ≤ (v 42 g).toInt ∧ (v 42 g).toInt ≤ 2000 * (7 - ((m + 1 : Nat) : Int))) :
    ∀ (e y n : Nat) (y6 : Int32), y + e = G → e < n → y6.toInt ≤ be.toInt → (∀ d : Nat → Nat, (∀ i, i < m + 1 → d i < G) → d m < y → y6.toInt ≤ MX (asg d (fun i => (v 41 i).toInt) (m + 1) (fun g => (v 42 g).toInt)) G) →
      (y6.toInt = be.toInt ∨ ∃ d : Nat → Nat, (∀ i, i < m + 1 → d i < G) ∧ y6.toInt = MX (asg d (fun i => (v 41 i).toInt) (m + 1) (fun g => (v 42 g).toInt)) G) →
      ∃ r : Int32, g_X2_leastHours_1_24 (Int32.ofNat (m + 1)) (Int32.ofNat G) be n (v 41 m) y6 (Int32.ofNat y) v = (r, v) ∧ r.toInt ≤ be.toInt ∧ (∀ d : Nat → Nat, (∀ i, i < m + 1 → d i < G) → r.toInt ≤ MX (asg d (fun i => (v 41 i).toInt) (m + 1) (fun g => (v 42 g).toInt)) G) ∧
        (r.toInt = be.toInt ∨ ∃ d : Nat → Nat, (∀ i, i < m + 1 → d i < G) ∧ r.toInt = MX (asg d (fun i => (v 41 i).toInt) (m + 1) (fun g => (v 42 g).toInt)) G) := by
  intro e
  induction e with
  | zero =>
    intro y n y6 he hn h1 h2 h3
    obtain ⟨n, rfl⟩ : ∃ k, n = k + 1 := ⟨n - 1, by omega⟩
    have hy : y = G := by omega
    subst hy
    refine ⟨y6, ?_, h1, fun d hd => h2 d hd (hd m (by omega)), h3⟩
    rw [lhs_1]
    simp only [b_X2_leastHours_1_24, bnd, bnd2]
    rw [if_pos (i_refl _)]
  | succ e ih =>
    intro y n y6 he hn h1 h2 h3
    obtain ⟨n, rfl⟩ : ∃ k, n = k + 1 := ⟨n - 1, by omega⟩
    obtain ⟨n0, n1⟩ := hh m (by omega)
    obtain ⟨b0, b1⟩ := hb y (by omega)
    have ea : (v 42 y + v 41 m).toInt = (v 42 y).toInt + (v 41 m).toInt := i_add (by omega) (by omega)
    rw [lhs_1]
    simp only [b_X2_leastHours_1_24, bnd, bnd2, clampN (n := y) (by omega), ofNat_succ (n := y) (by omega), (ofNat_pred (n := m) (by omega)).1]
    rw [if_neg (fun z => by have := (le_ofNat (by omega) (by omega)).mp z; omega)]
    by_cases q : v 42 y + v 41 m < y6
    · rw [if_pos q]
      obtain ⟨V, hV⟩ : ∃ z, z = up2 v 42 y (v 42 y + v 41 m) := ⟨_, rfl⟩
      rw [← hV]
      have v41 : ∀ i, V 41 i = v 41 i := fun i => by rw [hV, up2_n _ _ (by omega)]
      have v42 : ∀ g, (V 42 g).toInt = AL (fun g => (v 42 g).toInt) y (v 41 m).toInt g := fun g => by
        unfold AL
        by_cases z : g = y
        · rw [hV, if_pos z, z, up2_s]; exact ea
        · rw [hV, if_neg z, up2_n _ _ (by omega)]
      have e41 : (fun i => (V 41 i).toInt) = (fun i => (v 41 i).toInt) := funext (fun i => by rw [v41 i])
      have e42 : (fun g => (V 42 g).toInt) = AL (fun g => (v 42 g).toInt) y (v 41 m).toInt := funext v42
      obtain ⟨r1, r2, r3, r4⟩ := lh_0 m G y6 V hm hG1 hG3 (fun i hi => by rw [v41]; exact hh i (by omega)) (fun g hg => by
        have e9 : AL (fun g => (v 42 g).toInt) y (v 41 m).toInt g = if g = y then (v 42 g).toInt + (v 41 m).toInt else (v 42 g).toInt := rfl
        rw [v42 g, e9]
        obtain ⟨c0, c1⟩ := hb g hg
        split <;> constructor <;> omega)
      rw [e41, e42] at r2 r3
      obtain ⟨R, hR⟩ : ∃ z, z = f_X2_leastHours_0 V (Int32.ofNat m) (Int32.ofNat G) y6 := ⟨_, rfl⟩
      rw [← hR] at r1 r2 r3 r4 ⊢
      rw [r1]
      have back : up2 V 42 y (V 42 y - v 41 m) = v := by
        have e1 : V 42 y - v 41 m = v 42 y := by
          have e0 : V 42 y = v 42 y + v 41 m := by rw [hV, up2_s]
          rw [e0]
          exact i32_ext (by rw [i_sub (by rw [ea]; omega) (by rw [ea]; omega), ea]; omega)
        rw [e1, hV, up2_up2, up2_id]
      rw [back]
      obtain ⟨x, hx⟩ : ∃ z, z = if R.1 < y6 then R.1 else y6 := ⟨_, rfl⟩
      rw [← hx]
      have xv : (R.1.toInt < y6.toInt ∧ x = R.1) ∨ (y6.toInt ≤ R.1.toInt ∧ x = y6) := by
        by_cases z : R.1 < y6
        · rw [if_pos z] at hx; exact Or.inl ⟨i_lt z, hx⟩
        · rw [if_neg z] at hx; exact Or.inr ⟨i_nlt z, hx⟩
      have xl : x.toInt ≤ y6.toInt ∧ x.toInt ≤ R.1.toInt := by
        rcases xv with ⟨z1, z2⟩ | ⟨z1, z2⟩ <;> (rw [z2]; constructor <;> omega)
      refine ih (y + 1) n x (by omega) (by omega) (by omega) (fun d hd hlt => ?_) ?_
      · by_cases z : d m = y
        · have := r2 d (fun i hi => hd i (by omega))
          show x.toInt ≤ MX (asg d (fun i => (v 41 i).toInt) m (AL (fun g => (v 42 g).toInt) (d m) (v 41 m).toInt)) G
          rw [z]
          rcases this with this | this <;> omega
        · have := h2 d hd (by omega)
          omega
      · rcases xv with ⟨z1, z2⟩ | ⟨z1, z2⟩
        · rcases r3 with r3 | ⟨d, d1, d2⟩
          · omega
          · refine Or.inr ⟨fun i => if i = m then y else d i, fun i hi => ?_, ?_⟩
            · show (if i = m then y else d i) < G
              split
              · omega
              · exact d1 i (by omega)
            · show x.toInt = MX (asg (fun i => if i = m then y else d i) (fun i => (v 41 i).toInt) m (AL (fun g => (v 42 g).toInt) (if m = m then y else d m) (v 41 m).toInt)) G
              rw [if_pos rfl, z2, d2, asg_ext d (fun i => if i = m then y else d i) (fun i => (v 41 i).toInt) m (fun i hi => by show _ = (if i = m then y else d i); rw [if_neg (by omega)])]
        · rw [z2]; exact h3
    · have q' := i_nlt q
      rw [if_neg q]
      refine ih (y + 1) n y6 (by omega) (by omega) h1 (fun d hd hlt => ?_) h3
      by_cases z : d m = y
      · show y6.toInt ≤ MX (asg d (fun i => (v 41 i).toInt) m (AL (fun g => (v 42 g).toInt) (d m) (v 41 m).toInt)) G
        have a1 := asg_ge d (fun i => (v 41 i).toInt) m (AL (fun g => (v 42 g).toInt) (d m) (v 41 m).toInt) y (fun k hk => (hh k (by omega)).1)
        have a2 := MX_ge (asg d (fun i => (v 41 i).toInt) m (AL (fun g => (v 42 g).toInt) (d m) (v 41 m).toInt)) (g := y) (G := G) (by omega)
        have a3 : AL (fun g => (v 42 g).toInt) (d m) (v 41 m).toInt y = (v 42 y).toInt + (v 41 m).toInt := by
          unfold AL
          rw [if_pos z.symm]
        omega
      · exact h2 d hd (by omega)
theorem lh_1 : LH f_X2_leastHours_1 1 := by
  intro n G be v hn hG1 hG3 hh hb
  by_cases q : n = 0
  · subst q
    have e : f_X2_leastHours_1 v (Int32.ofNat 0) (Int32.ofNat G) be = (f_X2_longest_42 v (Int32.ofNat G), v) := by
      rw [f_X2_leastHours_1, if_neg (by decide), bnd_eq]
    rw [e]
    have hl := longest_val (v := v) hG3
    exact ⟨rfl, fun d _ => Or.inl (by rw [hl]; exact Int.le_refl _), Or.inr ⟨fun _ => 0, fun i hi => absurd hi (Nat.not_lt_zero i), hl⟩, fun h => absurd h (by omega)⟩
  · obtain ⟨m, rfl⟩ : ∃ k, n = k + 1 := ⟨n - 1, by omega⟩
    have e : f_X2_leastHours_1 v (Int32.ofNat (m + 1)) (Int32.ofNat G) be = g_X2_leastHours_1_24 (Int32.ofNat (m + 1)) (Int32.ofNat G) be 100000 (v 41 m) be (Int32.ofNat 0) v := by
      rw [f_X2_leastHours_1, if_pos (Int32.lt_iff_toInt_lt.mpr (by rw [ofNat_int (by omega)]; have z0 : (0 : Int32).toInt = 0 := rfl; omega)), bnd_eq, bnd_eq, (ofNat_pred (n := m) (by omega)).1, clampN (by omega)]
      rfl
    rw [e]
    obtain ⟨r, r1, r2, r3, r4⟩ := lhl_1 (be := be) (m := m) (by omega) hG1 hG3 hh hb G 0 100000 be (by omega) (by omega) (Int.le_refl _) (fun d _ z => absurd z (Nat.not_lt_zero _)) (Or.inl rfl)
    rw [r1]
    exact ⟨rfl, fun d hd => Or.inl (r3 d hd), r4, fun _ => r2⟩
theorem lhs_2 (up gg be : Int32) (n : Nat) (y5 y6 y7 : Int32) (v : tV) : g_X2_leastHours_2_24 up gg be (n + 1) y5 y6 y7 v = b_X2_leastHours_2_24 up gg be (g_X2_leastHours_2_24 up gg be n) y5 y6 y7 v := rfl
theorem lhl_2 {m G : Nat} {be : Int32} {v : tV} (hm : m ≤ 1) (hG1 : 1 ≤ G) (hG3 : G ≤ 3) (hh : ∀ i, i < m + 1 → 0 ≤ (v 41 i).toInt ∧ (v 41 i).toInt ≤ 2000) (hb : ∀ g, g < 3 → 0 ≤ (v 42 g).toInt ∧ (v 42 g).toInt ≤ 2000 * (7 - ((m + 1 : Nat) : Int))) :
    ∀ (e y n : Nat) (y6 : Int32), y + e = G → e < n → y6.toInt ≤ be.toInt → (∀ d : Nat → Nat, (∀ i, i < m + 1 → d i < G) → d m < y → y6.toInt ≤ MX (asg d (fun i => (v 41 i).toInt) (m + 1) (fun g => (v 42 g).toInt)) G) →
      (y6.toInt = be.toInt ∨ ∃ d : Nat → Nat, (∀ i, i < m + 1 → d i < G) ∧ y6.toInt = MX (asg d (fun i => (v 41 i).toInt) (m + 1) (fun g => (v 42 g).toInt)) G) →
      ∃ r : Int32, g_X2_leastHours_2_24 (Int32.ofNat (m + 1)) (Int32.ofNat G) be n (v 41 m) y6 (Int32.ofNat y) v = (r, v) ∧ r.toInt ≤ be.toInt ∧ (∀ d : Nat → Nat, (∀ i, i < m + 1 → d i < G) → r.toInt ≤ MX (asg d (fun i => (v 41 i).toInt) (m + 1) (fun g => (v 42 g).toInt)) G) ∧
        (r.toInt = be.toInt ∨ ∃ d : Nat → Nat, (∀ i, i < m + 1 → d i < G) ∧ r.toInt = MX (asg d (fun i => (v 41 i).toInt) (m + 1) (fun g => (v 42 g).toInt)) G) := by
  intro e
  induction e with
  | zero =>
    intro y n y6 he hn h1 h2 h3
    obtain ⟨n, rfl⟩ : ∃ k, n = k + 1 := ⟨n - 1, by omega⟩
    have hy : y = G := by omega
    subst hy
    refine ⟨y6, ?_, h1, fun d hd => h2 d hd (hd m (by omega)), h3⟩
    rw [lhs_2]
    simp only [b_X2_leastHours_2_24, bnd, bnd2]
    rw [if_pos (i_refl _)]
  | succ e ih =>
    intro y n y6 he hn h1 h2 h3
    obtain ⟨n, rfl⟩ : ∃ k, n = k + 1 := ⟨n - 1, by omega⟩
    obtain ⟨n0, n1⟩ := hh m (by omega)
    obtain ⟨b0, b1⟩ := hb y (by omega)
    have ea : (v 42 y + v 41 m).toInt = (v 42 y).toInt + (v 41 m).toInt := i_add (by omega) (by omega)
    rw [lhs_2]
    simp only [b_X2_leastHours_2_24, bnd, bnd2, clampN (n := y) (by omega), ofNat_succ (n := y) (by omega), (ofNat_pred (n := m) (by omega)).1]
    rw [if_neg (fun z => by have := (le_ofNat (by omega) (by omega)).mp z; omega)]
    by_cases q : v 42 y + v 41 m < y6
    · rw [if_pos q]
      obtain ⟨V, hV⟩ : ∃ z, z = up2 v 42 y (v 42 y + v 41 m) := ⟨_, rfl⟩
      rw [← hV]
      have v41 : ∀ i, V 41 i = v 41 i := fun i => by rw [hV, up2_n _ _ (by omega)]
      have v42 : ∀ g, (V 42 g).toInt = AL (fun g => (v 42 g).toInt) y (v 41 m).toInt g := fun g => by
        unfold AL
        by_cases z : g = y
        · rw [hV, if_pos z, z, up2_s]; exact ea
        · rw [hV, if_neg z, up2_n _ _ (by omega)]
      have e41 : (fun i => (V 41 i).toInt) = (fun i => (v 41 i).toInt) := funext (fun i => by rw [v41 i])
      have e42 : (fun g => (V 42 g).toInt) = AL (fun g => (v 42 g).toInt) y (v 41 m).toInt := funext v42
      obtain ⟨r1, r2, r3, r4⟩ := lh_1 m G y6 V hm hG1 hG3 (fun i hi => by rw [v41]; exact hh i (by omega)) (fun g hg => by
        have e9 : AL (fun g => (v 42 g).toInt) y (v 41 m).toInt g = if g = y then (v 42 g).toInt + (v 41 m).toInt else (v 42 g).toInt := rfl
        rw [v42 g, e9]
        obtain ⟨c0, c1⟩ := hb g hg
        split <;> constructor <;> omega)
      rw [e41, e42] at r2 r3
      obtain ⟨R, hR⟩ : ∃ z, z = f_X2_leastHours_1 V (Int32.ofNat m) (Int32.ofNat G) y6 := ⟨_, rfl⟩
      rw [← hR] at r1 r2 r3 r4 ⊢
      rw [r1]
      have back : up2 V 42 y (V 42 y - v 41 m) = v := by
        have e1 : V 42 y - v 41 m = v 42 y := by
          have e0 : V 42 y = v 42 y + v 41 m := by rw [hV, up2_s]
          rw [e0]
          exact i32_ext (by rw [i_sub (by rw [ea]; omega) (by rw [ea]; omega), ea]; omega)
        rw [e1, hV, up2_up2, up2_id]
      rw [back]
      obtain ⟨x, hx⟩ : ∃ z, z = if R.1 < y6 then R.1 else y6 := ⟨_, rfl⟩
      rw [← hx]
      have xv : (R.1.toInt < y6.toInt ∧ x = R.1) ∨ (y6.toInt ≤ R.1.toInt ∧ x = y6) := by
        by_cases z : R.1 < y6
        · rw [if_pos z] at hx; exact Or.inl ⟨i_lt z, hx⟩
        · rw [if_neg z] at hx; exact Or.inr ⟨i_nlt z, hx⟩
      have xl : x.toInt ≤ y6.toInt ∧ x.toInt ≤ R.1.toInt := by
        rcases xv with ⟨z1, z2⟩ | ⟨z1, z2⟩ <;> (rw [z2]; constructor <;> omega)
      refine ih (y + 1) n x (by omega) (by omega) (by omega) (fun d hd hlt => ?_) ?_
      · by_cases z : d m = y
        · have := r2 d (fun i hi => hd i (by omega))
          show x.toInt ≤ MX (asg d (fun i => (v 41 i).toInt) m (AL (fun g => (v 42 g).toInt) (d m) (v 41 m).toInt)) G
          rw [z]
          rcases this with this | this <;> omega
        · have := h2 d hd (by omega)
          omega
      · rcases xv with ⟨z1, z2⟩ | ⟨z1, z2⟩
        · rcases r3 with r3 | ⟨d, d1, d2⟩
          · omega
          · refine Or.inr ⟨fun i => if i = m then y else d i, fun i hi => ?_, ?_⟩
            · show (if i = m then y else d i) < G
              split
              · omega
              · exact d1 i (by omega)
            · show x.toInt = MX (asg (fun i => if i = m then y else d i) (fun i => (v 41 i).toInt) m (AL (fun g => (v 42 g).toInt) (if m = m then y else d m) (v 41 m).toInt)) G
              rw [if_pos rfl, z2, d2, asg_ext d (fun i => if i = m then y else d i) (fun i => (v 41 i).toInt) m (fun i hi => by show _ = (if i = m then y else d i); rw [if_neg (by omega)])]
        · rw [z2]; exact h3
    · have q' := i_nlt q
      rw [if_neg q]
      refine ih (y + 1) n y6 (by omega) (by omega) h1 (fun d hd hlt => ?_) h3
      by_cases z : d m = y
      · show y6.toInt ≤ MX (asg d (fun i => (v 41 i).toInt) m (AL (fun g => (v 42 g).toInt) (d m) (v 41 m).toInt)) G
        have a1 := asg_ge d (fun i => (v 41 i).toInt) m (AL (fun g => (v 42 g).toInt) (d m) (v 41 m).toInt) y (fun k hk => (hh k (by omega)).1)
        have a2 := MX_ge (asg d (fun i => (v 41 i).toInt) m (AL (fun g => (v 42 g).toInt) (d m) (v 41 m).toInt)) (g := y) (G := G) (by omega)
        have a3 : AL (fun g => (v 42 g).toInt) (d m) (v 41 m).toInt y = (v 42 y).toInt + (v 41 m).toInt := by
          unfold AL
          rw [if_pos z.symm]
        omega
      · exact h2 d hd (by omega)
theorem lh_2 : LH f_X2_leastHours_2 2 := by
  intro n G be v hn hG1 hG3 hh hb
  by_cases q : n = 0
  · subst q
    have e : f_X2_leastHours_2 v (Int32.ofNat 0) (Int32.ofNat G) be = (f_X2_longest_42 v (Int32.ofNat G), v) := by
      rw [f_X2_leastHours_2, if_neg (by decide), bnd_eq]
    rw [e]
    have hl := longest_val (v := v) hG3
    exact ⟨rfl, fun d _ => Or.inl (by rw [hl]; exact Int.le_refl _), Or.inr ⟨fun _ => 0, fun i hi => absurd hi (Nat.not_lt_zero i), hl⟩, fun h => absurd h (by omega)⟩
  · obtain ⟨m, rfl⟩ : ∃ k, n = k + 1 := ⟨n - 1, by omega⟩
    have e : f_X2_leastHours_2 v (Int32.ofNat (m + 1)) (Int32.ofNat G) be = g_X2_leastHours_2_24 (Int32.ofNat (m + 1)) (Int32.ofNat G) be 100000 (v 41 m) be (Int32.ofNat 0) v := by
      rw [f_X2_leastHours_2, if_pos (Int32.lt_iff_toInt_lt.mpr (by rw [ofNat_int (by omega)]; have z0 : (0 : Int32).toInt = 0 := rfl; omega)), bnd_eq, bnd_eq, (ofNat_pred (n := m) (by omega)).1, clampN (by omega)]
      rfl
    rw [e]
    obtain ⟨r, r1, r2, r3, r4⟩ := lhl_2 (be := be) (m := m) (by omega) hG1 hG3 hh hb G 0 100000 be (by omega) (by omega) (Int.le_refl _) (fun d _ z => absurd z (Nat.not_lt_zero _)) (Or.inl rfl)
    rw [r1]
    exact ⟨rfl, fun d hd => Or.inl (r3 d hd), r4, fun _ => r2⟩
theorem lhs_3 (up gg be : Int32) (n : Nat) (y5 y6 y7 : Int32) (v : tV) : g_X2_leastHours_3_24 up gg be (n + 1) y5 y6 y7 v = b_X2_leastHours_3_24 up gg be (g_X2_leastHours_3_24 up gg be n) y5 y6 y7 v := rfl
theorem lhl_3 {m G : Nat} {be : Int32} {v : tV} (hm : m ≤ 2) (hG1 : 1 ≤ G) (hG3 : G ≤ 3) (hh : ∀ i, i < m + 1 → 0 ≤ (v 41 i).toInt ∧ (v 41 i).toInt ≤ 2000) (hb : ∀ g, g < 3 → 0 ≤ (v 42 g).toInt ∧ (v 42 g).toInt ≤ 2000 * (7 - ((m + 1 : Nat) : Int))) :
    ∀ (e y n : Nat) (y6 : Int32), y + e = G → e < n → y6.toInt ≤ be.toInt → (∀ d : Nat → Nat, (∀ i, i < m + 1 → d i < G) → d m < y → y6.toInt ≤ MX (asg d (fun i => (v 41 i).toInt) (m + 1) (fun g => (v 42 g).toInt)) G) →
      (y6.toInt = be.toInt ∨ ∃ d : Nat → Nat, (∀ i, i < m + 1 → d i < G) ∧ y6.toInt = MX (asg d (fun i => (v 41 i).toInt) (m + 1) (fun g => (v 42 g).toInt)) G) →
      ∃ r : Int32, g_X2_leastHours_3_24 (Int32.ofNat (m + 1)) (Int32.ofNat G) be n (v 41 m) y6 (Int32.ofNat y) v = (r, v) ∧ r.toInt ≤ be.toInt ∧ (∀ d : Nat → Nat, (∀ i, i < m + 1 → d i < G) → r.toInt ≤ MX (asg d (fun i => (v 41 i).toInt) (m + 1) (fun g => (v 42 g).toInt)) G) ∧
        (r.toInt = be.toInt ∨ ∃ d : Nat → Nat, (∀ i, i < m + 1 → d i < G) ∧ r.toInt = MX (asg d (fun i => (v 41 i).toInt) (m + 1) (fun g => (v 42 g).toInt)) G) := by
  intro e
  induction e with
  | zero =>
    intro y n y6 he hn h1 h2 h3
    obtain ⟨n, rfl⟩ : ∃ k, n = k + 1 := ⟨n - 1, by omega⟩
    have hy : y = G := by omega
    subst hy
    refine ⟨y6, ?_, h1, fun d hd => h2 d hd (hd m (by omega)), h3⟩
    rw [lhs_3]
    simp only [b_X2_leastHours_3_24, bnd, bnd2]
    rw [if_pos (i_refl _)]
  | succ e ih =>
    intro y n y6 he hn h1 h2 h3
    obtain ⟨n, rfl⟩ : ∃ k, n = k + 1 := ⟨n - 1, by omega⟩
    obtain ⟨n0, n1⟩ := hh m (by omega)
    obtain ⟨b0, b1⟩ := hb y (by omega)
    have ea : (v 42 y + v 41 m).toInt = (v 42 y).toInt + (v 41 m).toInt := i_add (by omega) (by omega)
    rw [lhs_3]
    simp only [b_X2_leastHours_3_24, bnd, bnd2, clampN (n := y) (by omega), ofNat_succ (n := y) (by omega), (ofNat_pred (n := m) (by omega)).1]
    rw [if_neg (fun z => by have := (le_ofNat (by omega) (by omega)).mp z; omega)]
    by_cases q : v 42 y + v 41 m < y6
    · rw [if_pos q]
      obtain ⟨V, hV⟩ : ∃ z, z = up2 v 42 y (v 42 y + v 41 m) := ⟨_, rfl⟩
      rw [← hV]
      have v41 : ∀ i, V 41 i = v 41 i := fun i => by rw [hV, up2_n _ _ (by omega)]
      have v42 : ∀ g, (V 42 g).toInt = AL (fun g => (v 42 g).toInt) y (v 41 m).toInt g := fun g => by
        unfold AL
        by_cases z : g = y
        · rw [hV, if_pos z, z, up2_s]; exact ea
        · rw [hV, if_neg z, up2_n _ _ (by omega)]
      have e41 : (fun i => (V 41 i).toInt) = (fun i => (v 41 i).toInt) := funext (fun i => by rw [v41 i])
      have e42 : (fun g => (V 42 g).toInt) = AL (fun g => (v 42 g).toInt) y (v 41 m).toInt := funext v42
      obtain ⟨r1, r2, r3, r4⟩ := lh_2 m G y6 V hm hG1 hG3 (fun i hi => by rw [v41]; exact hh i (by omega)) (fun g hg => by
        have e9 : AL (fun g => (v 42 g).toInt) y (v 41 m).toInt g = if g = y then (v 42 g).toInt + (v 41 m).toInt else (v 42 g).toInt := rfl
        rw [v42 g, e9]
        obtain ⟨c0, c1⟩ := hb g hg
        split <;> constructor <;> omega)
      rw [e41, e42] at r2 r3
      obtain ⟨R, hR⟩ : ∃ z, z = f_X2_leastHours_2 V (Int32.ofNat m) (Int32.ofNat G) y6 := ⟨_, rfl⟩
      rw [← hR] at r1 r2 r3 r4 ⊢
      rw [r1]
      have back : up2 V 42 y (V 42 y - v 41 m) = v := by
        have e1 : V 42 y - v 41 m = v 42 y := by
          have e0 : V 42 y = v 42 y + v 41 m := by rw [hV, up2_s]
          rw [e0]
          exact i32_ext (by rw [i_sub (by rw [ea]; omega) (by rw [ea]; omega), ea]; omega)
        rw [e1, hV, up2_up2, up2_id]
      rw [back]
      obtain ⟨x, hx⟩ : ∃ z, z = if R.1 < y6 then R.1 else y6 := ⟨_, rfl⟩
      rw [← hx]
      have xv : (R.1.toInt < y6.toInt ∧ x = R.1) ∨ (y6.toInt ≤ R.1.toInt ∧ x = y6) := by
        by_cases z : R.1 < y6
        · rw [if_pos z] at hx; exact Or.inl ⟨i_lt z, hx⟩
        · rw [if_neg z] at hx; exact Or.inr ⟨i_nlt z, hx⟩
      have xl : x.toInt ≤ y6.toInt ∧ x.toInt ≤ R.1.toInt := by
        rcases xv with ⟨z1, z2⟩ | ⟨z1, z2⟩ <;> (rw [z2]; constructor <;> omega)
      refine ih (y + 1) n x (by omega) (by omega) (by omega) (fun d hd hlt => ?_) ?_
      · by_cases z : d m = y
        · have := r2 d (fun i hi => hd i (by omega))
          show x.toInt ≤ MX (asg d (fun i => (v 41 i).toInt) m (AL (fun g => (v 42 g).toInt) (d m) (v 41 m).toInt)) G
          rw [z]
          rcases this with this | this <;> omega
        · have := h2 d hd (by omega)
          omega
      · rcases xv with ⟨z1, z2⟩ | ⟨z1, z2⟩
        · rcases r3 with r3 | ⟨d, d1, d2⟩
          · omega
          · refine Or.inr ⟨fun i => if i = m then y else d i, fun i hi => ?_, ?_⟩
            · show (if i = m then y else d i) < G
              split
              · omega
              · exact d1 i (by omega)
            · show x.toInt = MX (asg (fun i => if i = m then y else d i) (fun i => (v 41 i).toInt) m (AL (fun g => (v 42 g).toInt) (if m = m then y else d m) (v 41 m).toInt)) G
              rw [if_pos rfl, z2, d2, asg_ext d (fun i => if i = m then y else d i) (fun i => (v 41 i).toInt) m (fun i hi => by show _ = (if i = m then y else d i); rw [if_neg (by omega)])]
        · rw [z2]; exact h3
    · have q' := i_nlt q
      rw [if_neg q]
      refine ih (y + 1) n y6 (by omega) (by omega) h1 (fun d hd hlt => ?_) h3
      by_cases z : d m = y
      · show y6.toInt ≤ MX (asg d (fun i => (v 41 i).toInt) m (AL (fun g => (v 42 g).toInt) (d m) (v 41 m).toInt)) G
        have a1 := asg_ge d (fun i => (v 41 i).toInt) m (AL (fun g => (v 42 g).toInt) (d m) (v 41 m).toInt) y (fun k hk => (hh k (by omega)).1)
        have a2 := MX_ge (asg d (fun i => (v 41 i).toInt) m (AL (fun g => (v 42 g).toInt) (d m) (v 41 m).toInt)) (g := y) (G := G) (by omega)
        have a3 : AL (fun g => (v 42 g).toInt) (d m) (v 41 m).toInt y = (v 42 y).toInt + (v 41 m).toInt := by
          unfold AL
          rw [if_pos z.symm]
        omega
      · exact h2 d hd (by omega)
theorem lh_3 : LH f_X2_leastHours_3 3 := by
  intro n G be v hn hG1 hG3 hh hb
  by_cases q : n = 0
  · subst q
    have e : f_X2_leastHours_3 v (Int32.ofNat 0) (Int32.ofNat G) be = (f_X2_longest_42 v (Int32.ofNat G), v) := by
      rw [f_X2_leastHours_3, if_neg (by decide), bnd_eq]
    rw [e]
    have hl := longest_val (v := v) hG3
    exact ⟨rfl, fun d _ => Or.inl (by rw [hl]; exact Int.le_refl _), Or.inr ⟨fun _ => 0, fun i hi => absurd hi (Nat.not_lt_zero i), hl⟩, fun h => absurd h (by omega)⟩
  · obtain ⟨m, rfl⟩ : ∃ k, n = k + 1 := ⟨n - 1, by omega⟩
    have e : f_X2_leastHours_3 v (Int32.ofNat (m + 1)) (Int32.ofNat G) be = g_X2_leastHours_3_24 (Int32.ofNat (m + 1)) (Int32.ofNat G) be 100000 (v 41 m) be (Int32.ofNat 0) v := by
      rw [f_X2_leastHours_3, if_pos (Int32.lt_iff_toInt_lt.mpr (by rw [ofNat_int (by omega)]; have z0 : (0 : Int32).toInt = 0 := rfl; omega)), bnd_eq, bnd_eq, (ofNat_pred (n := m) (by omega)).1, clampN (by omega)]
      rfl
    rw [e]
    obtain ⟨r, r1, r2, r3, r4⟩ := lhl_3 (be := be) (m := m) (by omega) hG1 hG3 hh hb G 0 100000 be (by omega) (by omega) (Int.le_refl _) (fun d _ z => absurd z (Nat.not_lt_zero _)) (Or.inl rfl)
    rw [r1]
    exact ⟨rfl, fun d hd => Or.inl (r3 d hd), r4, fun _ => r2⟩
theorem lhs_4 (up gg be : Int32) (n : Nat) (y5 y6 y7 : Int32) (v : tV) : g_X2_leastHours_4_24 up gg be (n + 1) y5 y6 y7 v = b_X2_leastHours_4_24 up gg be (g_X2_leastHours_4_24 up gg be n) y5 y6 y7 v := rfl
theorem lhl_4 {m G : Nat} {be : Int32} {v : tV} (hm : m ≤ 3) (hG1 : 1 ≤ G) (hG3 : G ≤ 3) (hh : ∀ i, i < m + 1 → 0 ≤ (v 41 i).toInt ∧ (v 41 i).toInt ≤ 2000) (hb : ∀ g, g < 3 → 0 ≤ (v 42 g).toInt ∧ (v 42 g).toInt ≤ 2000 * (7 - ((m + 1 : Nat) : Int))) :
    ∀ (e y n : Nat) (y6 : Int32), y + e = G → e < n → y6.toInt ≤ be.toInt → (∀ d : Nat → Nat, (∀ i, i < m + 1 → d i < G) → d m < y → y6.toInt ≤ MX (asg d (fun i => (v 41 i).toInt) (m + 1) (fun g => (v 42 g).toInt)) G) →
      (y6.toInt = be.toInt ∨ ∃ d : Nat → Nat, (∀ i, i < m + 1 → d i < G) ∧ y6.toInt = MX (asg d (fun i => (v 41 i).toInt) (m + 1) (fun g => (v 42 g).toInt)) G) →
      ∃ r : Int32, g_X2_leastHours_4_24 (Int32.ofNat (m + 1)) (Int32.ofNat G) be n (v 41 m) y6 (Int32.ofNat y) v = (r, v) ∧ r.toInt ≤ be.toInt ∧ (∀ d : Nat → Nat, (∀ i, i < m + 1 → d i < G) → r.toInt ≤ MX (asg d (fun i => (v 41 i).toInt) (m + 1) (fun g => (v 42 g).toInt)) G) ∧
        (r.toInt = be.toInt ∨ ∃ d : Nat → Nat, (∀ i, i < m + 1 → d i < G) ∧ r.toInt = MX (asg d (fun i => (v 41 i).toInt) (m + 1) (fun g => (v 42 g).toInt)) G) := by
  intro e
  induction e with
  | zero =>
    intro y n y6 he hn h1 h2 h3
    obtain ⟨n, rfl⟩ : ∃ k, n = k + 1 := ⟨n - 1, by omega⟩
    have hy : y = G := by omega
    subst hy
    refine ⟨y6, ?_, h1, fun d hd => h2 d hd (hd m (by omega)), h3⟩
    rw [lhs_4]
    simp only [b_X2_leastHours_4_24, bnd, bnd2]
    rw [if_pos (i_refl _)]
  | succ e ih =>
    intro y n y6 he hn h1 h2 h3
    obtain ⟨n, rfl⟩ : ∃ k, n = k + 1 := ⟨n - 1, by omega⟩
    obtain ⟨n0, n1⟩ := hh m (by omega)
    obtain ⟨b0, b1⟩ := hb y (by omega)
    have ea : (v 42 y + v 41 m).toInt = (v 42 y).toInt + (v 41 m).toInt := i_add (by omega) (by omega)
    rw [lhs_4]
    simp only [b_X2_leastHours_4_24, bnd, bnd2, clampN (n := y) (by omega), ofNat_succ (n := y) (by omega), (ofNat_pred (n := m) (by omega)).1]
    rw [if_neg (fun z => by have := (le_ofNat (by omega) (by omega)).mp z; omega)]
    by_cases q : v 42 y + v 41 m < y6
    · rw [if_pos q]
      obtain ⟨V, hV⟩ : ∃ z, z = up2 v 42 y (v 42 y + v 41 m) := ⟨_, rfl⟩
      rw [← hV]
      have v41 : ∀ i, V 41 i = v 41 i := fun i => by rw [hV, up2_n _ _ (by omega)]
      have v42 : ∀ g, (V 42 g).toInt = AL (fun g => (v 42 g).toInt) y (v 41 m).toInt g := fun g => by
        unfold AL
        by_cases z : g = y
        · rw [hV, if_pos z, z, up2_s]; exact ea
        · rw [hV, if_neg z, up2_n _ _ (by omega)]
      have e41 : (fun i => (V 41 i).toInt) = (fun i => (v 41 i).toInt) := funext (fun i => by rw [v41 i])
      have e42 : (fun g => (V 42 g).toInt) = AL (fun g => (v 42 g).toInt) y (v 41 m).toInt := funext v42
      obtain ⟨r1, r2, r3, r4⟩ := lh_3 m G y6 V hm hG1 hG3 (fun i hi => by rw [v41]; exact hh i (by omega)) (fun g hg => by
        have e9 : AL (fun g => (v 42 g).toInt) y (v 41 m).toInt g = if g = y then (v 42 g).toInt + (v 41 m).toInt else (v 42 g).toInt := rfl
        rw [v42 g, e9]
        obtain ⟨c0, c1⟩ := hb g hg
        split <;> constructor <;> omega)
      rw [e41, e42] at r2 r3
      obtain ⟨R, hR⟩ : ∃ z, z = f_X2_leastHours_3 V (Int32.ofNat m) (Int32.ofNat G) y6 := ⟨_, rfl⟩
      rw [← hR] at r1 r2 r3 r4 ⊢
      rw [r1]
      have back : up2 V 42 y (V 42 y - v 41 m) = v := by
        have e1 : V 42 y - v 41 m = v 42 y := by
          have e0 : V 42 y = v 42 y + v 41 m := by rw [hV, up2_s]
          rw [e0]
          exact i32_ext (by rw [i_sub (by rw [ea]; omega) (by rw [ea]; omega), ea]; omega)
        rw [e1, hV, up2_up2, up2_id]
      rw [back]
      obtain ⟨x, hx⟩ : ∃ z, z = if R.1 < y6 then R.1 else y6 := ⟨_, rfl⟩
      rw [← hx]
      have xv : (R.1.toInt < y6.toInt ∧ x = R.1) ∨ (y6.toInt ≤ R.1.toInt ∧ x = y6) := by
        by_cases z : R.1 < y6
        · rw [if_pos z] at hx; exact Or.inl ⟨i_lt z, hx⟩
        · rw [if_neg z] at hx; exact Or.inr ⟨i_nlt z, hx⟩
      have xl : x.toInt ≤ y6.toInt ∧ x.toInt ≤ R.1.toInt := by
        rcases xv with ⟨z1, z2⟩ | ⟨z1, z2⟩ <;> (rw [z2]; constructor <;> omega)
      refine ih (y + 1) n x (by omega) (by omega) (by omega) (fun d hd hlt => ?_) ?_
      · by_cases z : d m = y
        · have := r2 d (fun i hi => hd i (by omega))
          show x.toInt ≤ MX (asg d (fun i => (v 41 i).toInt) m (AL (fun g => (v 42 g).toInt) (d m) (v 41 m).toInt)) G
          rw [z]
          rcases this with this | this <;> omega
        · have := h2 d hd (by omega)
          omega
      · rcases xv with ⟨z1, z2⟩ | ⟨z1, z2⟩
        · rcases r3 with r3 | ⟨d, d1, d2⟩
          · omega
          · refine Or.inr ⟨fun i => if i = m then y else d i, fun i hi => ?_, ?_⟩
            · show (if i = m then y else d i) < G
              split
              · omega
              · exact d1 i (by omega)
            · show x.toInt = MX (asg (fun i => if i = m then y else d i) (fun i => (v 41 i).toInt) m (AL (fun g => (v 42 g).toInt) (if m = m then y else d m) (v 41 m).toInt)) G
              rw [if_pos rfl, z2, d2, asg_ext d (fun i => if i = m then y else d i) (fun i => (v 41 i).toInt) m (fun i hi => by show _ = (if i = m then y else d i); rw [if_neg (by omega)])]
        · rw [z2]; exact h3
    · have q' := i_nlt q
      rw [if_neg q]
      refine ih (y + 1) n y6 (by omega) (by omega) h1 (fun d hd hlt => ?_) h3
      by_cases z : d m = y
      · show y6.toInt ≤ MX (asg d (fun i => (v 41 i).toInt) m (AL (fun g => (v 42 g).toInt) (d m) (v 41 m).toInt)) G
        have a1 := asg_ge d (fun i => (v 41 i).toInt) m (AL (fun g => (v 42 g).toInt) (d m) (v 41 m).toInt) y (fun k hk => (hh k (by omega)).1)
        have a2 := MX_ge (asg d (fun i => (v 41 i).toInt) m (AL (fun g => (v 42 g).toInt) (d m) (v 41 m).toInt)) (g := y) (G := G) (by omega)
        have a3 : AL (fun g => (v 42 g).toInt) (d m) (v 41 m).toInt y = (v 42 y).toInt + (v 41 m).toInt := by
          unfold AL
          rw [if_pos z.symm]
        omega
      · exact h2 d hd (by omega)
theorem lh_4 : LH f_X2_leastHours_4 4 := by
  intro n G be v hn hG1 hG3 hh hb
  by_cases q : n = 0
  · subst q
    have e : f_X2_leastHours_4 v (Int32.ofNat 0) (Int32.ofNat G) be = (f_X2_longest_42 v (Int32.ofNat G), v) := by
      rw [f_X2_leastHours_4, if_neg (by decide), bnd_eq]
    rw [e]
    have hl := longest_val (v := v) hG3
    exact ⟨rfl, fun d _ => Or.inl (by rw [hl]; exact Int.le_refl _), Or.inr ⟨fun _ => 0, fun i hi => absurd hi (Nat.not_lt_zero i), hl⟩, fun h => absurd h (by omega)⟩
  · obtain ⟨m, rfl⟩ : ∃ k, n = k + 1 := ⟨n - 1, by omega⟩
    have e : f_X2_leastHours_4 v (Int32.ofNat (m + 1)) (Int32.ofNat G) be = g_X2_leastHours_4_24 (Int32.ofNat (m + 1)) (Int32.ofNat G) be 100000 (v 41 m) be (Int32.ofNat 0) v := by
      rw [f_X2_leastHours_4, if_pos (Int32.lt_iff_toInt_lt.mpr (by rw [ofNat_int (by omega)]; have z0 : (0 : Int32).toInt = 0 := rfl; omega)), bnd_eq, bnd_eq, (ofNat_pred (n := m) (by omega)).1, clampN (by omega)]
      rfl
    rw [e]
    obtain ⟨r, r1, r2, r3, r4⟩ := lhl_4 (be := be) (m := m) (by omega) hG1 hG3 hh hb G 0 100000 be (by omega) (by omega) (Int.le_refl _) (fun d _ z => absurd z (Nat.not_lt_zero _)) (Or.inl rfl)
    rw [r1]
    exact ⟨rfl, fun d hd => Or.inl (r3 d hd), r4, fun _ => r2⟩
theorem lhs_5 (up gg be : Int32) (n : Nat) (y5 y6 y7 : Int32) (v : tV) : g_X2_leastHours_5_24 up gg be (n + 1) y5 y6 y7 v = b_X2_leastHours_5_24 up gg be (g_X2_leastHours_5_24 up gg be n) y5 y6 y7 v := rfl
theorem lhl_5 {m G : Nat} {be : Int32} {v : tV} (hm : m ≤ 4) (hG1 : 1 ≤ G) (hG3 : G ≤ 3) (hh : ∀ i, i < m + 1 → 0 ≤ (v 41 i).toInt ∧ (v 41 i).toInt ≤ 2000) (hb : ∀ g, g < 3 → 0 ≤ (v 42 g).toInt ∧ (v 42 g).toInt ≤ 2000 * (7 - ((m + 1 : Nat) : Int))) :
    ∀ (e y n : Nat) (y6 : Int32), y + e = G → e < n → y6.toInt ≤ be.toInt → (∀ d : Nat → Nat, (∀ i, i < m + 1 → d i < G) → d m < y → y6.toInt ≤ MX (asg d (fun i => (v 41 i).toInt) (m + 1) (fun g => (v 42 g).toInt)) G) →
      (y6.toInt = be.toInt ∨ ∃ d : Nat → Nat, (∀ i, i < m + 1 → d i < G) ∧ y6.toInt = MX (asg d (fun i => (v 41 i).toInt) (m + 1) (fun g => (v 42 g).toInt)) G) →
      ∃ r : Int32, g_X2_leastHours_5_24 (Int32.ofNat (m + 1)) (Int32.ofNat G) be n (v 41 m) y6 (Int32.ofNat y) v = (r, v) ∧ r.toInt ≤ be.toInt ∧ (∀ d : Nat → Nat, (∀ i, i < m + 1 → d i < G) → r.toInt ≤ MX (asg d (fun i => (v 41 i).toInt) (m + 1) (fun g => (v 42 g).toInt)) G) ∧
        (r.toInt = be.toInt ∨ ∃ d : Nat → Nat, (∀ i, i < m + 1 → d i < G) ∧ r.toInt = MX (asg d (fun i => (v 41 i).toInt) (m + 1) (fun g => (v 42 g).toInt)) G) := by
  intro e
  induction e with
  | zero =>
    intro y n y6 he hn h1 h2 h3
    obtain ⟨n, rfl⟩ : ∃ k, n = k + 1 := ⟨n - 1, by omega⟩
    have hy : y = G := by omega
    subst hy
    refine ⟨y6, ?_, h1, fun d hd => h2 d hd (hd m (by omega)), h3⟩
    rw [lhs_5]
    simp only [b_X2_leastHours_5_24, bnd, bnd2]
    rw [if_pos (i_refl _)]
  | succ e ih =>
    intro y n y6 he hn h1 h2 h3
    obtain ⟨n, rfl⟩ : ∃ k, n = k + 1 := ⟨n - 1, by omega⟩
    obtain ⟨n0, n1⟩ := hh m (by omega)
    obtain ⟨b0, b1⟩ := hb y (by omega)
    have ea : (v 42 y + v 41 m).toInt = (v 42 y).toInt + (v 41 m).toInt := i_add (by omega) (by omega)
    rw [lhs_5]
    simp only [b_X2_leastHours_5_24, bnd, bnd2, clampN (n := y) (by omega), ofNat_succ (n := y) (by omega), (ofNat_pred (n := m) (by omega)).1]
    rw [if_neg (fun z => by have := (le_ofNat (by omega) (by omega)).mp z; omega)]
    by_cases q : v 42 y + v 41 m < y6
    · rw [if_pos q]
      obtain ⟨V, hV⟩ : ∃ z, z = up2 v 42 y (v 42 y + v 41 m) := ⟨_, rfl⟩
      rw [← hV]
      have v41 : ∀ i, V 41 i = v 41 i := fun i => by rw [hV, up2_n _ _ (by omega)]
      have v42 : ∀ g, (V 42 g).toInt = AL (fun g => (v 42 g).toInt) y (v 41 m).toInt g := fun g => by
        unfold AL
        by_cases z : g = y
        · rw [hV, if_pos z, z, up2_s]; exact ea
        · rw [hV, if_neg z, up2_n _ _ (by omega)]
      have e41 : (fun i => (V 41 i).toInt) = (fun i => (v 41 i).toInt) := funext (fun i => by rw [v41 i])
      have e42 : (fun g => (V 42 g).toInt) = AL (fun g => (v 42 g).toInt) y (v 41 m).toInt := funext v42
      obtain ⟨r1, r2, r3, r4⟩ := lh_4 m G y6 V hm hG1 hG3 (fun i hi => by rw [v41]; exact hh i (by omega)) (fun g hg => by
        have e9 : AL (fun g => (v 42 g).toInt) y (v 41 m).toInt g = if g = y then (v 42 g).toInt + (v 41 m).toInt else (v 42 g).toInt := rfl
        rw [v42 g, e9]
        obtain ⟨c0, c1⟩ := hb g hg
        split <;> constructor <;> omega)
      rw [e41, e42] at r2 r3
      obtain ⟨R, hR⟩ : ∃ z, z = f_X2_leastHours_4 V (Int32.ofNat m) (Int32.ofNat G) y6 := ⟨_, rfl⟩
      rw [← hR] at r1 r2 r3 r4 ⊢
      rw [r1]
      have back : up2 V 42 y (V 42 y - v 41 m) = v := by
        have e1 : V 42 y - v 41 m = v 42 y := by
          have e0 : V 42 y = v 42 y + v 41 m := by rw [hV, up2_s]
          rw [e0]
          exact i32_ext (by rw [i_sub (by rw [ea]; omega) (by rw [ea]; omega), ea]; omega)
        rw [e1, hV, up2_up2, up2_id]
      rw [back]
      obtain ⟨x, hx⟩ : ∃ z, z = if R.1 < y6 then R.1 else y6 := ⟨_, rfl⟩
      rw [← hx]
      have xv : (R.1.toInt < y6.toInt ∧ x = R.1) ∨ (y6.toInt ≤ R.1.toInt ∧ x = y6) := by
        by_cases z : R.1 < y6
        · rw [if_pos z] at hx; exact Or.inl ⟨i_lt z, hx⟩
        · rw [if_neg z] at hx; exact Or.inr ⟨i_nlt z, hx⟩
      have xl : x.toInt ≤ y6.toInt ∧ x.toInt ≤ R.1.toInt := by
        rcases xv with ⟨z1, z2⟩ | ⟨z1, z2⟩ <;> (rw [z2]; constructor <;> omega)
      refine ih (y + 1) n x (by omega) (by omega) (by omega) (fun d hd hlt => ?_) ?_
      · by_cases z : d m = y
        · have := r2 d (fun i hi => hd i (by omega))
          show x.toInt ≤ MX (asg d (fun i => (v 41 i).toInt) m (AL (fun g => (v 42 g).toInt) (d m) (v 41 m).toInt)) G
          rw [z]
          rcases this with this | this <;> omega
        · have := h2 d hd (by omega)
          omega
      · rcases xv with ⟨z1, z2⟩ | ⟨z1, z2⟩
        · rcases r3 with r3 | ⟨d, d1, d2⟩
          · omega
          · refine Or.inr ⟨fun i => if i = m then y else d i, fun i hi => ?_, ?_⟩
            · show (if i = m then y else d i) < G
              split
              · omega
              · exact d1 i (by omega)
            · show x.toInt = MX (asg (fun i => if i = m then y else d i) (fun i => (v 41 i).toInt) m (AL (fun g => (v 42 g).toInt) (if m = m then y else d m) (v 41 m).toInt)) G
              rw [if_pos rfl, z2, d2, asg_ext d (fun i => if i = m then y else d i) (fun i => (v 41 i).toInt) m (fun i hi => by show _ = (if i = m then y else d i); rw [if_neg (by omega)])]
        · rw [z2]; exact h3
    · have q' := i_nlt q
      rw [if_neg q]
      refine ih (y + 1) n y6 (by omega) (by omega) h1 (fun d hd hlt => ?_) h3
      by_cases z : d m = y
      · show y6.toInt ≤ MX (asg d (fun i => (v 41 i).toInt) m (AL (fun g => (v 42 g).toInt) (d m) (v 41 m).toInt)) G
        have a1 := asg_ge d (fun i => (v 41 i).toInt) m (AL (fun g => (v 42 g).toInt) (d m) (v 41 m).toInt) y (fun k hk => (hh k (by omega)).1)
        have a2 := MX_ge (asg d (fun i => (v 41 i).toInt) m (AL (fun g => (v 42 g).toInt) (d m) (v 41 m).toInt)) (g := y) (G := G) (by omega)
        have a3 : AL (fun g => (v 42 g).toInt) (d m) (v 41 m).toInt y = (v 42 y).toInt + (v 41 m).toInt := by
          unfold AL
          rw [if_pos z.symm]
        omega
      · exact h2 d hd (by omega)
theorem lh_5 : LH f_X2_leastHours_5 5 := by
  intro n G be v hn hG1 hG3 hh hb
  by_cases q : n = 0
  · subst q
    have e : f_X2_leastHours_5 v (Int32.ofNat 0) (Int32.ofNat G) be = (f_X2_longest_42 v (Int32.ofNat G), v) := by
      rw [f_X2_leastHours_5, if_neg (by decide), bnd_eq]
    rw [e]
    have hl := longest_val (v := v) hG3
    exact ⟨rfl, fun d _ => Or.inl (by rw [hl]; exact Int.le_refl _), Or.inr ⟨fun _ => 0, fun i hi => absurd hi (Nat.not_lt_zero i), hl⟩, fun h => absurd h (by omega)⟩
  · obtain ⟨m, rfl⟩ : ∃ k, n = k + 1 := ⟨n - 1, by omega⟩
    have e : f_X2_leastHours_5 v (Int32.ofNat (m + 1)) (Int32.ofNat G) be = g_X2_leastHours_5_24 (Int32.ofNat (m + 1)) (Int32.ofNat G) be 100000 (v 41 m) be (Int32.ofNat 0) v := by
      rw [f_X2_leastHours_5, if_pos (Int32.lt_iff_toInt_lt.mpr (by rw [ofNat_int (by omega)]; have z0 : (0 : Int32).toInt = 0 := rfl; omega)), bnd_eq, bnd_eq, (ofNat_pred (n := m) (by omega)).1, clampN (by omega)]
      rfl
    rw [e]
    obtain ⟨r, r1, r2, r3, r4⟩ := lhl_5 (be := be) (m := m) (by omega) hG1 hG3 hh hb G 0 100000 be (by omega) (by omega) (Int.le_refl _) (fun d _ z => absurd z (Nat.not_lt_zero _)) (Or.inl rfl)
    rw [r1]
    exact ⟨rfl, fun d hd => Or.inl (r3 d hd), r4, fun _ => r2⟩
theorem lhs_6 (up gg be : Int32) (n : Nat) (y5 y6 y7 : Int32) (v : tV) : g_X2_leastHours_6_24 up gg be (n + 1) y5 y6 y7 v = b_X2_leastHours_6_24 up gg be (g_X2_leastHours_6_24 up gg be n) y5 y6 y7 v := rfl
theorem lhl_6 {m G : Nat} {be : Int32} {v : tV} (hm : m ≤ 5) (hG1 : 1 ≤ G) (hG3 : G ≤ 3) (hh : ∀ i, i < m + 1 → 0 ≤ (v 41 i).toInt ∧ (v 41 i).toInt ≤ 2000) (hb : ∀ g, g < 3 → 0 ≤ (v 42 g).toInt ∧ (v 42 g).toInt ≤ 2000 * (7 - ((m + 1 : Nat) : Int))) :
    ∀ (e y n : Nat) (y6 : Int32), y + e = G → e < n → y6.toInt ≤ be.toInt → (∀ d : Nat → Nat, (∀ i, i < m + 1 → d i < G) → d m < y → y6.toInt ≤ MX (asg d (fun i => (v 41 i).toInt) (m + 1) (fun g => (v 42 g).toInt)) G) →
      (y6.toInt = be.toInt ∨ ∃ d : Nat → Nat, (∀ i, i < m + 1 → d i < G) ∧ y6.toInt = MX (asg d (fun i => (v 41 i).toInt) (m + 1) (fun g => (v 42 g).toInt)) G) →
      ∃ r : Int32, g_X2_leastHours_6_24 (Int32.ofNat (m + 1)) (Int32.ofNat G) be n (v 41 m) y6 (Int32.ofNat y) v = (r, v) ∧ r.toInt ≤ be.toInt ∧ (∀ d : Nat → Nat, (∀ i, i < m + 1 → d i < G) → r.toInt ≤ MX (asg d (fun i => (v 41 i).toInt) (m + 1) (fun g => (v 42 g).toInt)) G) ∧
        (r.toInt = be.toInt ∨ ∃ d : Nat → Nat, (∀ i, i < m + 1 → d i < G) ∧ r.toInt = MX (asg d (fun i => (v 41 i).toInt) (m + 1) (fun g => (v 42 g).toInt)) G) := by
  intro e
  induction e with
  | zero =>
    intro y n y6 he hn h1 h2 h3
    obtain ⟨n, rfl⟩ : ∃ k, n = k + 1 := ⟨n - 1, by omega⟩
    have hy : y = G := by omega
    subst hy
    refine ⟨y6, ?_, h1, fun d hd => h2 d hd (hd m (by omega)), h3⟩
    rw [lhs_6]
    simp only [b_X2_leastHours_6_24, bnd, bnd2]
    rw [if_pos (i_refl _)]
  | succ e ih =>
    intro y n y6 he hn h1 h2 h3
    obtain ⟨n, rfl⟩ : ∃ k, n = k + 1 := ⟨n - 1, by omega⟩
    obtain ⟨n0, n1⟩ := hh m (by omega)
    obtain ⟨b0, b1⟩ := hb y (by omega)
    have ea : (v 42 y + v 41 m).toInt = (v 42 y).toInt + (v 41 m).toInt := i_add (by omega) (by omega)
    rw [lhs_6]
    simp only [b_X2_leastHours_6_24, bnd, bnd2, clampN (n := y) (by omega), ofNat_succ (n := y) (by omega), (ofNat_pred (n := m) (by omega)).1]
    rw [if_neg (fun z => by have := (le_ofNat (by omega) (by omega)).mp z; omega)]
    by_cases q : v 42 y + v 41 m < y6
    · rw [if_pos q]
      obtain ⟨V, hV⟩ : ∃ z, z = up2 v 42 y (v 42 y + v 41 m) := ⟨_, rfl⟩
      rw [← hV]
      have v41 : ∀ i, V 41 i = v 41 i := fun i => by rw [hV, up2_n _ _ (by omega)]
      have v42 : ∀ g, (V 42 g).toInt = AL (fun g => (v 42 g).toInt) y (v 41 m).toInt g := fun g => by
        unfold AL
        by_cases z : g = y
        · rw [hV, if_pos z, z, up2_s]; exact ea
        · rw [hV, if_neg z, up2_n _ _ (by omega)]
      have e41 : (fun i => (V 41 i).toInt) = (fun i => (v 41 i).toInt) := funext (fun i => by rw [v41 i])
      have e42 : (fun g => (V 42 g).toInt) = AL (fun g => (v 42 g).toInt) y (v 41 m).toInt := funext v42
      obtain ⟨r1, r2, r3, r4⟩ := lh_5 m G y6 V hm hG1 hG3 (fun i hi => by rw [v41]; exact hh i (by omega)) (fun g hg => by
        have e9 : AL (fun g => (v 42 g).toInt) y (v 41 m).toInt g = if g = y then (v 42 g).toInt + (v 41 m).toInt else (v 42 g).toInt := rfl
        rw [v42 g, e9]
        obtain ⟨c0, c1⟩ := hb g hg
        split <;> constructor <;> omega)
      rw [e41, e42] at r2 r3
      obtain ⟨R, hR⟩ : ∃ z, z = f_X2_leastHours_5 V (Int32.ofNat m) (Int32.ofNat G) y6 := ⟨_, rfl⟩
      rw [← hR] at r1 r2 r3 r4 ⊢
      rw [r1]
      have back : up2 V 42 y (V 42 y - v 41 m) = v := by
        have e1 : V 42 y - v 41 m = v 42 y := by
          have e0 : V 42 y = v 42 y + v 41 m := by rw [hV, up2_s]
          rw [e0]
          exact i32_ext (by rw [i_sub (by rw [ea]; omega) (by rw [ea]; omega), ea]; omega)
        rw [e1, hV, up2_up2, up2_id]
      rw [back]
      obtain ⟨x, hx⟩ : ∃ z, z = if R.1 < y6 then R.1 else y6 := ⟨_, rfl⟩
      rw [← hx]
      have xv : (R.1.toInt < y6.toInt ∧ x = R.1) ∨ (y6.toInt ≤ R.1.toInt ∧ x = y6) := by
        by_cases z : R.1 < y6
        · rw [if_pos z] at hx; exact Or.inl ⟨i_lt z, hx⟩
        · rw [if_neg z] at hx; exact Or.inr ⟨i_nlt z, hx⟩
      have xl : x.toInt ≤ y6.toInt ∧ x.toInt ≤ R.1.toInt := by
        rcases xv with ⟨z1, z2⟩ | ⟨z1, z2⟩ <;> (rw [z2]; constructor <;> omega)
      refine ih (y + 1) n x (by omega) (by omega) (by omega) (fun d hd hlt => ?_) ?_
      · by_cases z : d m = y
        · have := r2 d (fun i hi => hd i (by omega))
          show x.toInt ≤ MX (asg d (fun i => (v 41 i).toInt) m (AL (fun g => (v 42 g).toInt) (d m) (v 41 m).toInt)) G
          rw [z]
          rcases this with this | this <;> omega
        · have := h2 d hd (by omega)
          omega
      · rcases xv with ⟨z1, z2⟩ | ⟨z1, z2⟩
        · rcases r3 with r3 | ⟨d, d1, d2⟩
          · omega
          · refine Or.inr ⟨fun i => if i = m then y else d i, fun i hi => ?_, ?_⟩
            · show (if i = m then y else d i) < G
              split
              · omega
              · exact d1 i (by omega)
            · show x.toInt = MX (asg (fun i => if i = m then y else d i) (fun i => (v 41 i).toInt) m (AL (fun g => (v 42 g).toInt) (if m = m then y else d m) (v 41 m).toInt)) G
              rw [if_pos rfl, z2, d2, asg_ext d (fun i => if i = m then y else d i) (fun i => (v 41 i).toInt) m (fun i hi => by show _ = (if i = m then y else d i); rw [if_neg (by omega)])]
        · rw [z2]; exact h3
    · have q' := i_nlt q
      rw [if_neg q]
      refine ih (y + 1) n y6 (by omega) (by omega) h1 (fun d hd hlt => ?_) h3
      by_cases z : d m = y
      · show y6.toInt ≤ MX (asg d (fun i => (v 41 i).toInt) m (AL (fun g => (v 42 g).toInt) (d m) (v 41 m).toInt)) G
        have a1 := asg_ge d (fun i => (v 41 i).toInt) m (AL (fun g => (v 42 g).toInt) (d m) (v 41 m).toInt) y (fun k hk => (hh k (by omega)).1)
        have a2 := MX_ge (asg d (fun i => (v 41 i).toInt) m (AL (fun g => (v 42 g).toInt) (d m) (v 41 m).toInt)) (g := y) (G := G) (by omega)
        have a3 : AL (fun g => (v 42 g).toInt) (d m) (v 41 m).toInt y = (v 42 y).toInt + (v 41 m).toInt := by
          unfold AL
          rw [if_pos z.symm]
        omega
      · exact h2 d hd (by omega)
theorem lh_6 : LH f_X2_leastHours_6 6 := by
  intro n G be v hn hG1 hG3 hh hb
  by_cases q : n = 0
  · subst q
    have e : f_X2_leastHours_6 v (Int32.ofNat 0) (Int32.ofNat G) be = (f_X2_longest_42 v (Int32.ofNat G), v) := by
      rw [f_X2_leastHours_6, if_neg (by decide), bnd_eq]
    rw [e]
    have hl := longest_val (v := v) hG3
    exact ⟨rfl, fun d _ => Or.inl (by rw [hl]; exact Int.le_refl _), Or.inr ⟨fun _ => 0, fun i hi => absurd hi (Nat.not_lt_zero i), hl⟩, fun h => absurd h (by omega)⟩
  · obtain ⟨m, rfl⟩ : ∃ k, n = k + 1 := ⟨n - 1, by omega⟩
    have e : f_X2_leastHours_6 v (Int32.ofNat (m + 1)) (Int32.ofNat G) be = g_X2_leastHours_6_24 (Int32.ofNat (m + 1)) (Int32.ofNat G) be 100000 (v 41 m) be (Int32.ofNat 0) v := by
      rw [f_X2_leastHours_6, if_pos (Int32.lt_iff_toInt_lt.mpr (by rw [ofNat_int (by omega)]; have z0 : (0 : Int32).toInt = 0 := rfl; omega)), bnd_eq, bnd_eq, (ofNat_pred (n := m) (by omega)).1, clampN (by omega)]
      rfl
    rw [e]
    obtain ⟨r, r1, r2, r3, r4⟩ := lhl_6 (be := be) (m := m) (by omega) hG1 hG3 hh hb G 0 100000 be (by omega) (by omega) (Int.le_refl _) (fun d _ z => absurd z (Nat.not_lt_zero _)) (Or.inl rfl)
    rw [r1]
    exact ⟨rfl, fun d hd => Or.inl (r3 d hd), r4, fun _ => r2⟩
theorem lhs_7 (up gg be : Int32) (n : Nat) (y5 y6 y7 : Int32) (v : tV) : g_X2_leastHours_7_24 up gg be (n + 1) y5 y6 y7 v = b_X2_leastHours_7_24 up gg be (g_X2_leastHours_7_24 up gg be n) y5 y6 y7 v := rfl
theorem lhl_7 {m G : Nat} {be : Int32} {v : tV} (hm : m ≤ 6) (hG1 : 1 ≤ G) (hG3 : G ≤ 3) (hh : ∀ i, i < m + 1 → 0 ≤ (v 41 i).toInt ∧ (v 41 i).toInt ≤ 2000) (hb : ∀ g, g < 3 → 0 ≤ (v 42 g).toInt ∧ (v 42 g).toInt ≤ 2000 * (7 - ((m + 1 : Nat) : Int))) :
    ∀ (e y n : Nat) (y6 : Int32), y + e = G → e < n → y6.toInt ≤ be.toInt → (∀ d : Nat → Nat, (∀ i, i < m + 1 → d i < G) → d m < y → y6.toInt ≤ MX (asg d (fun i => (v 41 i).toInt) (m + 1) (fun g => (v 42 g).toInt)) G) →
      (y6.toInt = be.toInt ∨ ∃ d : Nat → Nat, (∀ i, i < m + 1 → d i < G) ∧ y6.toInt = MX (asg d (fun i => (v 41 i).toInt) (m + 1) (fun g => (v 42 g).toInt)) G) →
      ∃ r : Int32, g_X2_leastHours_7_24 (Int32.ofNat (m + 1)) (Int32.ofNat G) be n (v 41 m) y6 (Int32.ofNat y) v = (r, v) ∧ r.toInt ≤ be.toInt ∧ (∀ d : Nat → Nat, (∀ i, i < m + 1 → d i < G) → r.toInt ≤ MX (asg d (fun i => (v 41 i).toInt) (m + 1) (fun g => (v 42 g).toInt)) G) ∧
        (r.toInt = be.toInt ∨ ∃ d : Nat → Nat, (∀ i, i < m + 1 → d i < G) ∧ r.toInt = MX (asg d (fun i => (v 41 i).toInt) (m + 1) (fun g => (v 42 g).toInt)) G) := by
  intro e
  induction e with
  | zero =>
    intro y n y6 he hn h1 h2 h3
    obtain ⟨n, rfl⟩ : ∃ k, n = k + 1 := ⟨n - 1, by omega⟩
    have hy : y = G := by omega
    subst hy
    refine ⟨y6, ?_, h1, fun d hd => h2 d hd (hd m (by omega)), h3⟩
    rw [lhs_7]
    simp only [b_X2_leastHours_7_24, bnd, bnd2]
    rw [if_pos (i_refl _)]
  | succ e ih =>
    intro y n y6 he hn h1 h2 h3
    obtain ⟨n, rfl⟩ : ∃ k, n = k + 1 := ⟨n - 1, by omega⟩
    obtain ⟨n0, n1⟩ := hh m (by omega)
    obtain ⟨b0, b1⟩ := hb y (by omega)
    have ea : (v 42 y + v 41 m).toInt = (v 42 y).toInt + (v 41 m).toInt := i_add (by omega) (by omega)
    rw [lhs_7]
    simp only [b_X2_leastHours_7_24, bnd, bnd2, clampN (n := y) (by omega), ofNat_succ (n := y) (by omega), (ofNat_pred (n := m) (by omega)).1]
    rw [if_neg (fun z => by have := (le_ofNat (by omega) (by omega)).mp z; omega)]
    by_cases q : v 42 y + v 41 m < y6
    · rw [if_pos q]
      obtain ⟨V, hV⟩ : ∃ z, z = up2 v 42 y (v 42 y + v 41 m) := ⟨_, rfl⟩
      rw [← hV]
      have v41 : ∀ i, V 41 i = v 41 i := fun i => by rw [hV, up2_n _ _ (by omega)]
      have v42 : ∀ g, (V 42 g).toInt = AL (fun g => (v 42 g).toInt) y (v 41 m).toInt g := fun g => by
        unfold AL
        by_cases z : g = y
        · rw [hV, if_pos z, z, up2_s]; exact ea
        · rw [hV, if_neg z, up2_n _ _ (by omega)]
      have e41 : (fun i => (V 41 i).toInt) = (fun i => (v 41 i).toInt) := funext (fun i => by rw [v41 i])
      have e42 : (fun g => (V 42 g).toInt) = AL (fun g => (v 42 g).toInt) y (v 41 m).toInt := funext v42
      obtain ⟨r1, r2, r3, r4⟩ := lh_6 m G y6 V hm hG1 hG3 (fun i hi => by rw [v41]; exact hh i (by omega)) (fun g hg => by
        have e9 : AL (fun g => (v 42 g).toInt) y (v 41 m).toInt g = if g = y then (v 42 g).toInt + (v 41 m).toInt else (v 42 g).toInt := rfl
        rw [v42 g, e9]
        obtain ⟨c0, c1⟩ := hb g hg
        split <;> constructor <;> omega)
      rw [e41, e42] at r2 r3
      obtain ⟨R, hR⟩ : ∃ z, z = f_X2_leastHours_6 V (Int32.ofNat m) (Int32.ofNat G) y6 := ⟨_, rfl⟩
      rw [← hR] at r1 r2 r3 r4 ⊢
      rw [r1]
      have back : up2 V 42 y (V 42 y - v 41 m) = v := by
        have e1 : V 42 y - v 41 m = v 42 y := by
          have e0 : V 42 y = v 42 y + v 41 m := by rw [hV, up2_s]
          rw [e0]
          exact i32_ext (by rw [i_sub (by rw [ea]; omega) (by rw [ea]; omega), ea]; omega)
        rw [e1, hV, up2_up2, up2_id]
      rw [back]
      obtain ⟨x, hx⟩ : ∃ z, z = if R.1 < y6 then R.1 else y6 := ⟨_, rfl⟩
      rw [← hx]
      have xv : (R.1.toInt < y6.toInt ∧ x = R.1) ∨ (y6.toInt ≤ R.1.toInt ∧ x = y6) := by
        by_cases z : R.1 < y6
        · rw [if_pos z] at hx; exact Or.inl ⟨i_lt z, hx⟩
        · rw [if_neg z] at hx; exact Or.inr ⟨i_nlt z, hx⟩
      have xl : x.toInt ≤ y6.toInt ∧ x.toInt ≤ R.1.toInt := by
        rcases xv with ⟨z1, z2⟩ | ⟨z1, z2⟩ <;> (rw [z2]; constructor <;> omega)
      refine ih (y + 1) n x (by omega) (by omega) (by omega) (fun d hd hlt => ?_) ?_
      · by_cases z : d m = y
        · have := r2 d (fun i hi => hd i (by omega))
          show x.toInt ≤ MX (asg d (fun i => (v 41 i).toInt) m (AL (fun g => (v 42 g).toInt) (d m) (v 41 m).toInt)) G
          rw [z]
          rcases this with this | this <;> omega
        · have := h2 d hd (by omega)
          omega
      · rcases xv with ⟨z1, z2⟩ | ⟨z1, z2⟩
        · rcases r3 with r3 | ⟨d, d1, d2⟩
          · omega
          · refine Or.inr ⟨fun i => if i = m then y else d i, fun i hi => ?_, ?_⟩
            · show (if i = m then y else d i) < G
              split
              · omega
              · exact d1 i (by omega)
            · show x.toInt = MX (asg (fun i => if i = m then y else d i) (fun i => (v 41 i).toInt) m (AL (fun g => (v 42 g).toInt) (if m = m then y else d m) (v 41 m).toInt)) G
              rw [if_pos rfl, z2, d2, asg_ext d (fun i => if i = m then y else d i) (fun i => (v 41 i).toInt) m (fun i hi => by show _ = (if i = m then y else d i); rw [if_neg (by omega)])]
        · rw [z2]; exact h3
    · have q' := i_nlt q
      rw [if_neg q]
      refine ih (y + 1) n y6 (by omega) (by omega) h1 (fun d hd hlt => ?_) h3
      by_cases z : d m = y
      · show y6.toInt ≤ MX (asg d (fun i => (v 41 i).toInt) m (AL (fun g => (v 42 g).toInt) (d m) (v 41 m).toInt)) G
        have a1 := asg_ge d (fun i => (v 41 i).toInt) m (AL (fun g => (v 42 g).toInt) (d m) (v 41 m).toInt) y (fun k hk => (hh k (by omega)).1)
        have a2 := MX_ge (asg d (fun i => (v 41 i).toInt) m (AL (fun g => (v 42 g).toInt) (d m) (v 41 m).toInt)) (g := y) (G := G) (by omega)
        have a3 : AL (fun g => (v 42 g).toInt) (d m) (v 41 m).toInt y = (v 42 y).toInt + (v 41 m).toInt := by
          unfold AL
          rw [if_pos z.symm]
        omega
      · exact h2 d hd (by omega)
theorem lh_7 : LH f_X2_leastHours_7 7 := by
  intro n G be v hn hG1 hG3 hh hb
  by_cases q : n = 0
  · subst q
    have e : f_X2_leastHours_7 v (Int32.ofNat 0) (Int32.ofNat G) be = (f_X2_longest_42 v (Int32.ofNat G), v) := by
      rw [f_X2_leastHours_7, if_neg (by decide), bnd_eq]
    rw [e]
    have hl := longest_val (v := v) hG3
    exact ⟨rfl, fun d _ => Or.inl (by rw [hl]; exact Int.le_refl _), Or.inr ⟨fun _ => 0, fun i hi => absurd hi (Nat.not_lt_zero i), hl⟩, fun h => absurd h (by omega)⟩
  · obtain ⟨m, rfl⟩ : ∃ k, n = k + 1 := ⟨n - 1, by omega⟩
    have e : f_X2_leastHours_7 v (Int32.ofNat (m + 1)) (Int32.ofNat G) be = g_X2_leastHours_7_24 (Int32.ofNat (m + 1)) (Int32.ofNat G) be 100000 (v 41 m) be (Int32.ofNat 0) v := by
      rw [f_X2_leastHours_7, if_pos (Int32.lt_iff_toInt_lt.mpr (by rw [ofNat_int (by omega)]; have z0 : (0 : Int32).toInt = 0 := rfl; omega)), bnd_eq, bnd_eq, (ofNat_pred (n := m) (by omega)).1, clampN (by omega)]
      rfl
    rw [e]
    obtain ⟨r, r1, r2, r3, r4⟩ := lhl_7 (be := be) (m := m) (by omega) hG1 hG3 hh hb G 0 100000 be (by omega) (by omega) (Int.le_refl _) (fun d _ z => absurd z (Nat.not_lt_zero _)) (Or.inl rfl)
    rw [r1]
    exact ⟨rfl, fun d hd => Or.inl (r3 d hd), r4, fun _ => r2⟩
