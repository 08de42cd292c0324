/-! HELD -/
theorem pig : ∀ (n sz : Nat) (f : Nat → Nat), (∀ i, i < sz → f i < n) → (∀ i j, i < j → j < sz → f i ≠ f j) → sz ≤ n := by
  intro n
  induction n with
  | zero =>
    intro sz f h _
    by_cases q : sz = 0
    · omega
    · have := h 0 (by omega)
      omega
  | succ n ih =>
    intro sz f h hi
    by_cases q : ∃ i, i < sz ∧ f i = n
    · obtain ⟨i0, q1, q2⟩ := q
      have := ih (sz - 1) (fun i => if i = i0 then f (sz - 1) else f i) (fun i hi1 => by
        show (if i = i0 then f (sz - 1) else f i) < n
        by_cases z : i = i0
        · rw [if_pos z]
          have a := h (sz - 1) (by omega)
          have b := hi i0 (sz - 1) (by omega) (by omega)
          rw [q2] at b
          omega
        · rw [if_neg z]
          have a := h i (by omega)
          have b : f i ≠ n := fun e => by
            by_cases z2 : i < i0
            · exact hi i i0 z2 q1 (by rw [e, q2])
            · exact hi i0 i (by omega) (by omega) (by rw [e, q2])
          omega) (fun i j hij hj => by
        show (if i = i0 then f (sz - 1) else f i) ≠ (if j = i0 then f (sz - 1) else f j)
        by_cases z : i = i0
        · rw [if_pos z, if_neg (by omega)]
          exact fun e => hi j (sz - 1) (by omega) (by omega) e.symm
        · rw [if_neg z]
          by_cases z2 : j = i0
          · rw [if_pos z2]; exact hi i (sz - 1) (by omega) (by omega)
          · rw [if_neg z2]; exact hi i j hij (by omega))
      omega
    · have := ih sz f (fun i hi1 => by
        have a := h i hi1
        have b : f i ≠ n := fun e => q ⟨i, hi1, e⟩
        omega) hi
      omega
def nf (u : tV) (si : Int32) : Nat → Nat
  | 0 => 0
  | k + 1 => nf u si k + (if u 23 k = si then 0 else 1)
theorem nf_up (u : tV) (si : Int32) {a b : Nat} (h : a ≤ b) : nf u si a ≤ nf u si b := by
  induction b with
  | zero =>
    have : a = 0 := by omega
    rw [this]; exact Nat.le_refl _
  | succ b ih =>
    by_cases q : a = b + 1
    · rw [q]; exact Nat.le_refl _
    · have := ih (by omega)
      show nf u si a ≤ nf u si b + (if u 23 b = si then 0 else 1)
      omega
theorem nf_le (u : tV) (si : Int32) (n : Nat) : nf u si n ≤ n := by
  induction n with
  | zero => exact Nat.le_refl _
  | succ n ih =>
    show nf u si n + (if u 23 n = si then 0 else 1) ≤ n + 1
    split <;> omega
theorem nf_lt (u : tV) (si : Int32) {j n : Nat} (hj : j < n) (h : u 23 j = si) : nf u si n + 1 ≤ n := by
  induction n with
  | zero => omega
  | succ n ih =>
    show nf u si n + (if u 23 n = si then 0 else 1) + 1 ≤ n + 1
    by_cases q : j = n
    · rw [← q, if_pos h]
      have := nf_le u si j
      omega
    · have := ih (by omega)
      split <;> omega
theorem nf_s (u : tV) (si : Int32) {k : Nat} (h : ¬ u 23 k = si) : nf u si (k + 1) = nf u si k + 1 := by
  show nf u si k + (if u 23 k = si then 0 else 1) = _
  rw [if_neg h]
theorem nf_e (u : tV) (si : Int32) {k : Nat} (h : u 23 k = si) : nf u si (k + 1) = nf u si k := by
  show nf u si k + (if u 23 k = si then 0 else 1) = _
  rw [if_pos h]; rfl
theorem nf_20 {u : tV} {si : Int32} {cnt sz s : Nat} (hcnt : cnt ≤ 20) (hsz : sz ≤ 20) (hs : s < cnt) (hsi : si = Int32.ofNat s) (hent : ∀ i, i < sz → ∃ t : Nat, t < cnt ∧ u 23 i = Int32.ofNat t) (hinj : ∀ i j, i < j → j < sz → u 23 i ≠ u 23 j) : 1 + nf u si sz ≤ 20 := by
  by_cases q : ∃ j, j < sz ∧ u 23 j = si
  · obtain ⟨j, q1, q2⟩ := q
    have := nf_lt u si q1 q2
    omega
  · have h1 := nf_le u si sz
    have h2 := pig 20 (sz + 1) (fun i => if i < sz then (u 23 i).toNatClampNeg else s) (fun i hi => by
      show (if i < sz then (u 23 i).toNatClampNeg else s) < 20
      by_cases z : i < sz
      · rw [if_pos z]
        obtain ⟨t, t1, t2⟩ := hent i z
        rw [t2, clampN (by omega)]; omega
      · rw [if_neg z]; omega) (fun i j hij hj => by
      show (if i < sz then (u 23 i).toNatClampNeg else s) ≠ (if j < sz then (u 23 j).toNatClampNeg else s)
      rw [if_pos (by omega)]
      obtain ⟨t, t1, t2⟩ := hent i (by omega)
      by_cases z : j < sz
      · rw [if_pos z]
        obtain ⟨t', t1', t2'⟩ := hent j z
        have := hinj i j hij z
        rw [t2, t2', clampN (by omega), clampN (by omega)]
        intro e
        rw [t2, t2', e] at this
        exact this rfl
      · rw [if_neg z, t2, clampN (by omega)]
        intro e
        exact q ⟨i, by omega, by rw [t2, hsi, e]⟩)
    omega
theorem pf_s (si : Int32) (n : Nat) (y : Int32) (v : tV) : g_X5_putFirst_20_21_14 si (n + 1) y v = b_X5_putFirst_20_21_14 si (g_X5_putFirst_20_21_14 si n) y v := rfl
theorem pf_loop {u : tV} {si : Int32} {sz : Nat} (hsz : sz ≤ 20) (h20 : 1 + nf u si sz ≤ 20) : ∀ (d k n : Nat) (v : tV), k + d = sz → d < n → v 21 2 = Int32.ofNat sz → v 20 2 = Int32.ofNat (1 + nf u si k) → (∀ j, v 23 j = u 23 j) →
    g_X5_putFirst_20_21_14 si n (Int32.ofNat k) v 20 2 = Int32.ofNat (1 + nf u si sz) ∧ (∀ j, k ≤ j → j < sz → ¬ u 23 j = si → g_X5_putFirst_20_21_14 si n (Int32.ofNat k) v 22 (1 + nf u si j) = u 23 j) ∧ (∀ j, j < 1 + nf u si k → g_X5_putFirst_20_21_14 si n (Int32.ofNat k) v 22 j = v 22 j) ∧ (∀ a j, a ≠ 20 → a ≠ 22 → g_X5_putFirst_20_21_14 si n (Int32.ofNat k) v a j = v a j) := by
  have z20 : (20 : Int32) = Int32.ofNat 20 := rfl
  intro d
  induction d with
  | zero =>
    intro k n v hd hn h21 h20' h23
    obtain ⟨n, rfl⟩ : ∃ z, n = z + 1 := ⟨n - 1, by omega⟩
    have hk : k = sz := by omega
    subst hk
    have e : g_X5_putFirst_20_21_14 si (n + 1) (Int32.ofNat k) v = v := by
      rw [pf_s]
      simp only [b_X5_putFirst_20_21_14, bnd, h21]
      rw [if_pos (i_refl _)]
    rw [e]
    exact ⟨h20', fun j h1 h2 => by omega, fun _ _ => rfl, fun _ _ _ _ => rfl⟩
  | succ d ih =>
    intro k n v hd hn h21 h20' h23
    obtain ⟨n, rfl⟩ : ∃ z, n = z + 1 := ⟨n - 1, by omega⟩
    have hup := nf_up u si (a := k) (b := sz) (by omega)
    have hlt : ¬ Int32.ofNat sz ≤ Int32.ofNat k := fun z => by have := (le_ofNat (by omega) (by omega)).mp z; omega
    by_cases q : 20 ≤ 1 + nf u si k
    · have e : g_X5_putFirst_20_21_14 si (n + 1) (Int32.ofNat k) v = v := by
        rw [pf_s]
        simp only [b_X5_putFirst_20_21_14, bnd, h21, h20']
        rw [if_neg hlt, z20, if_pos ((le_ofNat (by omega) (by omega)).mpr (by omega))]
      rw [e]
      have e2 : nf u si sz = nf u si k := by omega
      refine ⟨by rw [e2]; exact h20', fun j h1 h2 h3 => ?_, fun _ _ => rfl, fun _ _ _ _ => rfl⟩
      have a := nf_s u si h3
      have b := nf_up u si (a := j + 1) (b := sz) (by omega)
      have c := nf_up u si (a := k) (b := j) (by omega)
      omega
    · have hlt2 : ¬ (20 : Int32) ≤ Int32.ofNat (1 + nf u si k) := fun z => by rw [z20] at z; have := (le_ofNat (by omega) (by omega)).mp z; omega
      by_cases qs : u 23 k = si
      · have e : g_X5_putFirst_20_21_14 si (n + 1) (Int32.ofNat k) v = g_X5_putFirst_20_21_14 si n (Int32.ofNat (k + 1)) v := by
          rw [pf_s]
          simp only [b_X5_putFirst_20_21_14, bnd, h21, h20', clampN (n := k) (by omega), h23, ofNat_succ (n := k) (by omega)]
          rw [if_neg hlt, if_neg hlt2, if_pos qs]
        rw [e]
        have en := nf_e u si qs
        obtain ⟨i1, i2, i3, i4⟩ := ih (k + 1) n v (by omega) (by omega) h21 (by rw [en]; exact h20') h23
        refine ⟨i1, fun j h1 h2 h3 => ?_, fun j h1 => i3 j (by rw [en]; exact h1), i4⟩
        by_cases z : j = k
        · rw [z] at h3; exact absurd qs h3
        · exact i2 j (by omega) h2 h3
      · obtain ⟨V, hV⟩ : ∃ z, z = up2 (up2 v 20 2 (Int32.ofNat (1 + nf u si k + 1))) 22 (1 + nf u si k) (u 23 k) := ⟨_, rfl⟩
        have e : g_X5_putFirst_20_21_14 si (n + 1) (Int32.ofNat k) v = g_X5_putFirst_20_21_14 si n (Int32.ofNat (k + 1)) V := by
          rw [pf_s, hV]
          simp only [b_X5_putFirst_20_21_14, bnd, h21, h20', clampN (n := k) (by omega), clampN (n := 1 + nf u si k) (by omega), h23, ofNat_succ (n := k) (by omega), ofNat_succ (n := 1 + nf u si k) (by omega)]
          rw [if_neg hlt, if_neg hlt2, if_neg qs, up2_n _ _ (by omega), h23]
        rw [e]
        have en := nf_s u si qs
        have f : ∀ a j, a ≠ 20 → a ≠ 22 → V a j = v a j := fun a j z1 z2 => by rw [hV, up2_n _ _ (by omega), up2_n _ _ (by omega)]
        obtain ⟨i1, i2, i3, i4⟩ := ih (k + 1) n V (by omega) (by omega) (by rw [f _ _ (by omega) (by omega)]; exact h21) (by rw [en, hV, up2_n _ _ (by omega), up2_s]; congr 1) (fun j => by rw [f _ _ (by omega) (by omega)]; exact h23 j)
        refine ⟨i1, fun j h1 h2 h3 => ?_, fun j h1 => ?_, fun a j z1 z2 => by rw [i4 a j z1 z2]; exact f a j z1 z2⟩
        · by_cases z : j = k
          · rw [z, i3 _ (by omega), hV, up2_s]
          · exact i2 j (by omega) h2 h3
        · rw [i3 j (by omega), hV, up2_n _ _ (by omega), up2_n _ _ (by omega)]
theorem tr3_s (n : Nat) (y : Int32) (u : tV) : g_X6_trade_3_20_31_2 (n + 1) y u = b_X6_trade_3_20_31_2 (g_X6_trade_3_20_31_2 n) y u := rfl
theorem hd135_s (si : Int32) (n : Nat) (y2 y3 y4 : Int32) (w : tV) : g_X11_held_400_135 si (n + 1) y2 y3 y4 w = b_X11_held_400_135 si (g_X11_held_400_135 si n) y2 y3 y4 w := rfl
theorem hd81_s (si : Int32) (n : Nat) (y : Int32) (w : tV) : g_X11_held_400_81 si (n + 1) y w = b_X11_held_400_81 si (g_X11_held_400_81 si n) (g_X11_held_400_135 si n) y w := rfl
theorem hd49_s (si : Int32) (n : Nat) (y : Int32) (w : tV) : g_X11_held_400_49 si (n + 1) y w = b_X11_held_400_49 si (g_X11_held_400_49 si n) (g_X11_held_400_81 si n) y w := rfl
/-- a ship of the row, on the class's side -/
theorem tr3_go {u : tV} {i N t : Nat} (hN : N < 50) (hi : i < N) (h20 : u 20 2 = Int32.ofNat N) (h22 : u 22 i = Int32.ofNat t) (n : Nat) : g_X6_trade_3_20_31_2 (n + 1) (Int32.ofNat i) u = g_X6_trade_3_20_31_2 n (Int32.ofNat (i + 1)) (turn3C u (Int32.ofNat t)) := by
  have hlt : ¬ Int32.ofNat N ≤ Int32.ofNat i := fun z => by have := (le_ofNat (by omega) (by omega)).mp z; omega
  rw [tr3_s]
  simp only [b_X6_trade_3_20_31_2, bnd, bnd2, h20, clampN (n := i) (by omega), h22, ofNat_succ (n := i) (by omega)]
  rw [if_neg hlt]
  unfold turn3C
  split <;> rfl
theorem held_loop {u0 : tV} {cnt nb sz : Nat} {si y2 y3 : Int32} (hcnt : cnt ≤ 20) (hnb : nb ≤ 10) (hsz : sz ≤ 20) (h20 : 1 + nf u0 si sz ≤ 20) (hent : ∀ i, i < sz → ∃ t : Nat, t < cnt ∧ u0 23 i = Int32.ofNat t) :
    ∀ (d k c n m : Nat) (u w : tV), k + d = sz → d < n → d < m → HI cnt nb c u w → c + cW (fun b => u (220 + b) 2) nb + (nf u0 si sz - nf u0 si k) ≤ 30 → u 20 2 = Int32.ofNat (1 + nf u0 si sz) → (∀ j, j < sz → ¬ u0 23 j = si → u 22 (1 + nf u0 si j) = u0 23 j) → w 400 54 = Int32.ofNat sz → (∀ j, j < sz → w 453 j = u0 23 j) →
      (g_X6_trade_3_20_31_2 n (Int32.ofNat (1 + nf u0 si k)) u) 3 6 = (g_X11_held_400_135 si m y2 y3 (Int32.ofNat k) w).1 := by
  have z0 : (0 : Int32).toInt = 0 := rfl
  intro d
  induction d with
  | zero =>
    intro k c n m u w hd hn hm h hc g20 g22 m54 m453
    obtain ⟨n, rfl⟩ : ∃ z, n = z + 1 := ⟨n - 1, by omega⟩
    obtain ⟨m, rfl⟩ : ∃ z, m = z + 1 := ⟨m - 1, by omega⟩
    have hk : k = sz := by omega
    subst hk
    obtain ⟨hS, hBu, h34, m55, h4, h5, h6, hpr, hm0, hm4⟩ := h
    rw [tr3_s, hd135_s]
    simp only [b_X6_trade_3_20_31_2, b_X11_held_400_135, bnd, g20, m54, ← h5, ← h6]
    rw [if_pos (i_refl _), if_pos (i_refl _)]
    by_cases q : u 31 5 = 0
    · rw [if_pos q, if_pos (c := u 31 5 ≤ 0) (by rw [q]; decide)]
      exact hpr
    · have q' : (u 31 5).toInt ≠ (0 : Int32).toInt := i_ne q
      rw [if_neg q, if_neg (c := u 31 5 ≤ 0) (fun z => by have := i_le z; omega), up2_s]
  | succ d ih =>
    intro k c n m u w hd hn hm h hc g20 g22 m54 m453
    obtain ⟨m, rfl⟩ : ∃ z, m = z + 1 := ⟨m - 1, by omega⟩
    have hlt : ¬ Int32.ofNat sz ≤ Int32.ofNat k := fun z => by have := (le_ofNat (by omega) (by omega)).mp z; omega
    obtain ⟨t, t1, t2⟩ := hent k (by omega)
    rw [hd135_s]
    simp only [b_X11_held_400_135, bnd, m54, clampN (n := k) (by omega), m453 k (by omega), ofNat_succ (n := k) (by omega)]
    rw [if_neg hlt]
    by_cases qs : u0 23 k = si
    · rw [if_pos qs]
      have en := nf_e u0 si qs
      have := ih (k + 1) c n m u w (by omega) (by omega) (by omega) h (by rw [en]; exact hc) g20 g22 m54 m453
      rw [en] at this
      exact this
    · rw [if_neg qs]
      have en := nf_s u0 si qs
      have hup := nf_up u0 si (a := k + 1) (b := sz) (by omega)
      obtain ⟨n, rfl⟩ : ∃ z, n = z + 1 := ⟨n - 1, by omega⟩
      rw [tr3_go (by omega) (by omega) g20 ((g22 k (by omega) qs).trans t2), t2]
      obtain ⟨c1, r1, r2, r3, r4⟩ := turn3 hcnt hnb t1 rfl h (by omega)
      have := ih (k + 1) c1 n m (turn3C u (Int32.ofNat t)) (f_X11_sellThen_400 w (Int32.ofNat t)) (by omega) (by omega) (by omega) r1 (by omega) (by rw [r2 _ _ (by omega) (by omega) (by omega) (by omega)]; exact g20) (fun j hj hne => by rw [r2 _ _ (by omega) (by omega) (by omega) (by omega)]; exact g22 j hj hne) (by rw [r3 _ _ (by omega) (by omega)]; exact m54) (fun j hj => by rw [r3 _ _ (by omega) (by omega)]; exact m453 j hj)
      rw [en] at this
      have e3 : 1 + nf u0 si k + 1 = 1 + (nf u0 si k + 1) := by omega
      rw [e3]
      exact this
theorem hd49 {cnt : Nat} {si : Int32} (hcnt : cnt ≤ 20) : ∀ (d y n : Nat) (w : tV), y + d = cnt → d < n → w 400 53 = Int32.ofNat cnt →
    ∃ (n2 : Nat) (W : tV), n ≤ n2 + d + 1 ∧ g_X11_held_400_49 si n (Int32.ofNat y) w = g_X11_held_400_81 si n2 (Int32.ofNat 0) W ∧ (∀ t, y ≤ t → t < cnt → W 464 t = w 450 (4 * t + 1)) ∧ (∀ a j, a ≠ 464 → W a j = w a j) ∧ (∀ j, j < y → W 464 j = w 464 j) := by
  intro d
  induction d with
  | zero =>
    intro y n w hd hn hc
    obtain ⟨n, rfl⟩ : ∃ k, n = k + 1 := ⟨n - 1, by omega⟩
    refine ⟨n, w, by omega, ?_, fun t h1 h2 => by omega, fun _ _ _ => rfl, fun _ _ => rfl⟩
    rw [hd49_s]
    simp only [b_X11_held_400_49, bnd, hc]
    rw [if_pos ((le_ofNat (by omega) (by omega)).mpr (by omega))]
    all_goals rfl
  | succ d ih =>
    intro y n w hd hn hc
    obtain ⟨n, rfl⟩ : ∃ k, n = k + 1 := ⟨n - 1, by omega⟩
    have h1 := ix4 (k := 1) (y := y) (by omega) (by omega : 1 < 9) rfl
    have e : g_X11_held_400_49 si (n + 1) (Int32.ofNat y) w = g_X11_held_400_49 si n (Int32.ofNat (y + 1)) (up2 w 464 y (w 450 (4 * y + 1))) := by
      rw [hd49_s]
      simp only [b_X11_held_400_49, bnd, hc, h1, clampN (n := y) (by omega), ofNat_succ (n := y) (by omega)]
      rw [if_neg (fun z => by have := (le_ofNat (by omega) (by omega)).mp z; omega)]
    rw [e]
    obtain ⟨n2, W, i1, i2, i3, i4, i5⟩ := ih (y + 1) n (up2 w 464 y (w 450 (4 * y + 1))) (by omega) (by omega) (by rw [up2_n _ _ (by omega)]; exact hc)
    refine ⟨n2, W, by omega, i2, fun t h1 h2 => ?_, fun a j z => by rw [i4 a j z, up2_n _ _ (by omega)], fun j hj => by rw [i5 j (by omega), up2_n _ _ (by omega)]⟩
    by_cases q : t = y
    · rw [q, i5 y (by omega), up2_s]
    · rw [i3 t (by omega) h2, up2_n _ _ (by omega)]
theorem hd81 {nb : Nat} {si : Int32} (hnb : nb ≤ 10) : ∀ (d y n : Nat) (w : tV), y + d = nb → d < n → w 400 55 = Int32.ofNat nb →
    ∃ (n2 : Nat) (W : tV), n ≤ n2 + d + 1 ∧ g_X11_held_400_81 si n (Int32.ofNat y) w = g_X11_held_400_135 si n2 (W 400 58) (W 400 59) (Int32.ofNat 0) (f_X11_sellThen_400 (up2 (up2 W 400 58 0) 400 59 0) si) ∧ (∀ t, y ≤ t → t < nb → W 465 t = w 451 t) ∧ (∀ a j, a ≠ 465 → W a j = w a j) ∧ (∀ j, j < y → W 465 j = w 465 j) := by
  intro d
  induction d with
  | zero =>
    intro y n w hd hn hc
    obtain ⟨n, rfl⟩ : ∃ k, n = k + 1 := ⟨n - 1, by omega⟩
    refine ⟨n, w, by omega, ?_, fun t h1 h2 => by omega, fun _ _ _ => rfl, fun _ _ => rfl⟩
    rw [hd81_s]
    generalize g_X11_held_400_135 si n = rc
    simp only [b_X11_held_400_81, bnd, hc]
    rw [if_pos ((le_ofNat (by omega) (by omega)).mpr (by omega))]
    all_goals rfl
  | succ d ih =>
    intro y n w hd hn hc
    obtain ⟨n, rfl⟩ : ∃ k, n = k + 1 := ⟨n - 1, by omega⟩
    have e : g_X11_held_400_81 si (n + 1) (Int32.ofNat y) w = g_X11_held_400_81 si n (Int32.ofNat (y + 1)) (up2 w 465 y (w 451 y)) := by
      rw [hd81_s]
      simp only [b_X11_held_400_81, bnd, hc, clampN (n := y) (by omega), ofNat_succ (n := y) (by omega)]
      rw [if_neg (fun z => by have := (le_ofNat (by omega) (by omega)).mp z; omega)]
    rw [e]
    obtain ⟨n2, W, i1, i2, i3, i4, i5⟩ := ih (y + 1) n (up2 w 465 y (w 451 y)) (by omega) (by omega) (by rw [up2_n _ _ (by omega)]; exact hc)
    refine ⟨n2, W, by omega, i2, fun t h1 h2 => ?_, fun a j z => by rw [i4 a j z, up2_n _ _ (by omega)], fun j hj => by rw [i5 j (by omega), up2_n _ _ (by omega)]⟩
    by_cases q : t = y
    · rw [q, i5 y (by omega), up2_s]
    · rw [i3 t (by omega) h2, up2_n _ _ (by omega)]
theorem sim_held {u w : tV} (hW : RelW u w) (hI : Inv u) (hM : RelM u w) (si : Int32) : (f_X10_held_0 u si).1 = (f_X11_held_400 w si).1 := by
  have z0 : (0 : Int32).toInt = 0 := rfl
  have z1 : (1 : Int32).toInt = 1 := rfl
  obtain ⟨hc0, hc1⟩ := hI 1 3 0 20 rfl
  rcases hM with hM | ⟨cnt, nb, sz, a1, a2, a3, b1, b2, b3, b4, b5, b6, b7, c1, c2, d1, d2, d3, d4⟩
  · have e57 : w 400 57 = 0 := hW.mk.symm.trans hM
    simp only [f_X10_held_0, f_X11_held_400, bnd, hM, e57]
    rw [if_pos trivial, if_pos trivial]
    split <;> rfl
  by_cases qm : u 0 10 = 0
  · have e57 : w 400 57 = 0 := hW.mk.symm.trans qm
    simp only [f_X10_held_0, f_X11_held_400, bnd, qm, e57]
    rw [if_pos trivial, if_pos trivial]
    split <;> rfl
  have ec := ofNat_int (n := cnt) (by omega)
  have qm2 : ¬ w 400 57 = 0 := by rw [← hW.mk]; exact qm
  rw [f_X10_held_0, f_X11_held_400]
  simp only [bnd_eq, z_0, z_1, b1, b2, ec, ← hW.n]
  rw [if_neg qm]
  by_cases q1 : 0 ≤ si.toInt ∧ si.toInt ≤ (cnt : Int) - 1
  · have cs := clampI q1.1
    obtain ⟨s, es⟩ : ∃ z, z = si.toNatClampNeg := ⟨_, rfl⟩
    rw [← es] at cs ⊢
    have hs : s < cnt := by omega
    have hsi : si = Int32.ofNat s := i32_ext (by rw [ofNat_int (by omega)]; omega)
    have i4 : ((4 : Int32) * si).toNatClampNeg = 4 * s := by rw [hsi]; exact ix40 (by omega)
    obtain ⟨k0, k1, k3, k6, k7, k60, k64, k70⟩ := d1 s hs
    have e403 : w 403 s = u (100 + s) 0 := (hW.ship s 0 (by omega) (by omega)).symm
    rw [if_pos q1, if_pos (c := 0 ≤ si.toInt ∧ si.toInt ≤ (u 1 3).toInt - 1) ⟨q1.1, by omega⟩, if_neg qm2, if_neg (c := Int32.ofNat cnt ≤ si) (fun z => by have := i_le z; omega), i4, k0, e403]
    by_cases q2 : u (100 + s) 0 = 3
    · rw [if_pos q2, if_pos q2]
    · rw [if_neg q2, if_neg q2, ← k7]
      by_cases q3 : (u (120 + s) 7).toInt ≤ 1
      · rw [if_pos ⟨k70, q3⟩, if_pos (c := u (120 + s) 7 ≤ 1) (Int32.le_iff_toInt_le.mpr (by rw [z1]; exact q3))]
        -- the class: the copy, the row, the open book
        obtain ⟨p1, p2, p3, p4, p5, p6⟩ := cpa_3_2 a1 a2 b1 b3
        have hent : ∀ i, i < sz → ∃ t : Nat, t < cnt ∧ u 23 i = Int32.ofNat t := fun i hi => by obtain ⟨t, t1, t2, -⟩ := d3 i hi; exact ⟨t, t1, t2⟩
        have h20 := nf_20 a1 a3 hs hsi hent d4
        generalize f_X6_copy_3_2 u = U1 at p1 p2 p3 p4 p5 p6 ⊢
        have g23 : ∀ j, U1 23 j = u 23 j := fun j => p3 _ _ (by omega) (by omega) (by omega) (by omega)
        have epf : f_X5_putFirst_20_21 U1 si = g_X5_putFirst_20_21_14 si 100000 0 (up2 (up2 U1 22 0 si) 20 2 1) := by
          rw [f_X5_putFirst_20_21]
          all_goals simp only [bnd_eq]
          all_goals rfl
        obtain ⟨r1, r2, r3, r4⟩ := pf_loop (u := u) (si := si) a3 h20 sz 0 100000 (up2 (up2 U1 22 0 si) 20 2 1) (by omega) (by omega) (by rw [up2_n _ _ (by omega), up2_n _ _ (by omega), p3 _ _ (by omega) (by omega) (by omega) (by omega)]; exact b5) (by rw [up2_s]; rfl) (fun j => by rw [up2_n _ _ (by omega), up2_n _ _ (by omega)]; exact g23 j)
        have eo : Int32.ofNat 0 = (0 : Int32) := rfl
        rw [eo, ← epf] at r1 r2 r3 r4
        generalize f_X5_putFirst_20_21 U1 si = U2 at r1 r2 r3 r4 ⊢
        have f2 : ∀ a j, a ≠ 20 → a ≠ 22 → U2 a j = U1 a j := fun a j x1 x2 => by rw [r4 a j x1 x2, up2_n _ _ (by omega), up2_n _ _ (by omega)]
        have v0 : U2 22 0 = si := by rw [r3 0 (by omega), up2_n _ _ (by omega), up2_s]
        have eop : f_X1_open_31 U2 = up2 (up2 (up2 U2 31 4 0) 31 5 0) 31 6 0 := by rw [f_X1_open_31]
        obtain ⟨U3, hU3⟩ : ∃ z, z = f_X1_open_31 U2 := ⟨_, rfl⟩
        have f3 : ∀ a j, a ≠ 31 → U3 a j = U2 a j := fun a j x => by rw [hU3, eop, up2_n _ _ (by omega), up2_n _ _ (by omega), up2_n _ _ (by omega)]
        have o4 : U3 31 4 = 0 := by rw [hU3, eop]; simp (disch := omega) only [up2_n, up2_s]
        have o5 : U3 31 5 = 0 := by rw [hU3, eop]; simp (disch := omega) only [up2_n, up2_s]
        have o6 : U3 31 6 = 0 := by rw [hU3, eop]; simp (disch := omega) only [up2_n, up2_s]
        rw [← hU3, f_X6_trade_3_20_31]
        -- the reference: what is tried
        obtain ⟨n2, W1, w1, w2, w3, w4, w5⟩ := hd49 (si := si) a1 cnt 0 100000 w (by omega) (by omega) b2
        obtain ⟨n3, W2, x1, x2, x3, x4, x5⟩ := hd81 (si := si) a2 nb 0 n2 W1 (by omega) (by omega) (by rw [w4 _ _ (by omega)]; exact b4)
        rw [eo] at w2 x2
        rw [w2, x2]
        obtain ⟨W3, hW3⟩ : ∃ z, z = up2 (up2 W2 400 58 0) 400 59 0 := ⟨_, rfl⟩
        rw [← hW3]
        have fW : ∀ a j, a ≠ 464 → a ≠ 465 → ¬ (a = 400 ∧ (j = 58 ∨ j = 59)) → W3 a j = w a j := fun a j y1 y2 y3 => by rw [hW3, up2_n _ _ (by omega), up2_n _ _ (by omega), x4 a j y2, w4 a j y1]
        have m58 : W3 400 58 = 0 := by rw [hW3]; simp (disch := omega) only [up2_n, up2_s]
        have m59 : W3 400 59 = 0 := by rw [hW3, up2_s]
        have m464 : ∀ t, t < cnt → W3 464 t = w 450 (4 * t + 1) := fun t ht => by rw [hW3, up2_n _ _ (by omega), up2_n _ _ (by omega), x4 _ _ (by omega)]; exact w3 t (by omega) ht
        have m465 : ∀ t, t < nb → W3 465 t = w 451 t := fun t ht => by rw [hW3, up2_n _ _ (by omega), up2_n _ _ (by omega), x3 t (by omega) ht]; exact w4 _ _ (by omega)
        generalize W2 400 58 = y58
        generalize W2 400 59 = y59
        have fA : ∀ a j, a ≠ 31 → a ≠ 20 → a ≠ 22 → U3 a j = U1 a j := fun a j y1 y2 y3 => (f3 a j y1).trans (f2 a j y2 y3)
        have hH : HI cnt nb 0 U3 W3 := by
          refine ⟨fun t ht => ?_, fun b hb => ?_, ?_, ?_, by rw [o4]; rfl, by rw [o5, m58], by rw [o6, m59], ?_, by rw [o5, z0]; omega, by rw [o5, z0]; omega⟩
          · obtain ⟨k0, k1, k3, k6, k7, k60, k64, k70⟩ := d1 t ht
            rw [fA _ _ (by omega) (by omega) (by omega), fA _ _ (by omega) (by omega) (by omega), fA _ _ (by omega) (by omega) (by omega), p1 t 1 ht (by omega), p1 t 3 ht (by omega), p1 t 6 ht (by omega), m464 t ht, fW _ _ (by omega) (by omega) (by omega), fW _ _ (by omega) (by omega) (by omega)]
            exact ⟨k1.trans (hW.ship t 1 (by omega) (by omega)), k3, k6, k60, k64⟩
          · obtain ⟨k1, k2, k3, k20, k24, k00, k05⟩ := d2 b hb
            rw [fA _ _ (by omega) (by omega) (by omega), fA _ _ (by omega) (by omega) (by omega), fA _ _ (by omega) (by omega) (by omega), fA _ _ (by omega) (by omega) (by omega), p2 b 0 hb (by omega), p2 b 1 hb (by omega), p2 b 2 hb (by omega), p2 b 3 hb (by omega), m465 b hb, fW _ _ (by omega) (by omega) (by omega), fW _ _ (by omega) (by omega) (by omega)]
            exact ⟨k1.trans (hW.buyer b 1 (by omega) (by omega)), k2, k3, k20, k24, k00, k05⟩
          · rw [fA _ _ (by omega) (by omega) (by omega), p5]; exact b3
          · rw [fW _ _ (by omega) (by omega) (by omega)]; exact b4
          · rw [fA _ _ (by omega) (by omega) (by omega), p6, fW _ _ (by omega) (by omega) (by omega)]; exact b7
        have hcw := cW_le (fun b => U3 (220 + b) 2) nb
        obtain ⟨cc, t1, t2, t3, t4⟩ := turn3 a1 a2 hs hsi hH (by omega)
        have hN : U3 20 2 = Int32.ofNat (1 + nf u si sz) := by rw [f3 _ _ (by omega)]; exact r1
        have hst := tr3_go (u := U3) (i := 0) (N := 1 + nf u si sz) (t := s) (by omega) (by omega) hN (by rw [f3 _ _ (by omega), v0]; exact hsi) 99999
        have e100 : g_X6_trade_3_20_31_2 100000 0 U3 = g_X6_trade_3_20_31_2 99999 (Int32.ofNat (1 + nf u si 0)) (turn3C U3 (Int32.ofNat s)) := hst
        show (g_X6_trade_3_20_31_2 100000 0 U3) 3 6 = _
        rw [e100, ← hsi]
        exact held_loop a1 a2 a3 h20 hent sz 0 cc 99999 n3 (turn3C U3 si) (f_X11_sellThen_400 W3 si) (by omega) (by omega) (by omega) t1 (by have := nf_le u si 0; omega)
          (by rw [t2 _ _ (by omega) (by omega) (by omega) (by omega)]; exact hN)
          (fun j hj hne => by rw [t2 _ _ (by omega) (by omega) (by omega) (by omega), f3 _ _ (by omega)]; exact r2 j (by omega) hj hne)
          (by rw [t3 _ _ (by omega) (by omega), fW _ _ (by omega) (by omega) (by omega)]; exact b6)
          (fun j hj => by obtain ⟨t, -, y1, y2⟩ := d3 j hj; rw [t3 _ _ (by omega) (by omega), fW _ _ (by omega) (by omega) (by omega), y1]; exact y2)
      · rw [if_neg (fun z => q3 z.2), if_neg (c := u (120 + s) 7 ≤ 1) (fun z => by have := i_le z; rw [z1] at this; exact q3 this)]
  · rw [if_neg q1]
    by_cases q2 : 0 ≤ si.toInt ∧ si.toInt ≤ (u 1 3).toInt - 1
    · rw [if_pos q2, if_neg qm2, if_pos (c := Int32.ofNat cnt ≤ si) (Int32.le_iff_toInt_le.mpr (by rw [ec]; omega))]
    · rw [if_neg q2]
