/-! WHAT EACH SHIP SOLD, on both sides -/
theorem add_ofNat {a b : Nat} (h : a + b < 2 ^ 31) : Int32.ofNat a + Int32.ofNat b = Int32.ofNat (a + b) := by
  have ea := ofNat_int (n := a) (by omega)
  have eb := ofNat_int (n := b) (by omega)
  have ec := ofNat_int (n := a + b) h
  exact i32_ext (by rw [i_add (by rw [ea, eb]; omega) (by rw [ea, eb]; omega), ea, eb, ec]; omega)
def stB (sh : Nat → Int32) (i : Nat) : Nat := if i = 0 then 1 else if sh i = sh (i - 1) then 0 else 1
def nbl (sh : Nat → Int32) : Nat → Nat
  | 0 => 0
  | i + 1 => nbl sh i + stB sh i
/-- the measures of block m among the first i bargains -/
def bSm (sh : Nat → Int32) (am : Nat → Nat) (m : Nat) : Nat → Nat
  | 0 => 0
  | i + 1 => bSm sh am m i + (if nbl sh (i + 1) = m + 1 then am i else 0)
theorem nbl_up (sh : Nat → Int32) {a b : Nat} (h : a ≤ b) : nbl sh a ≤ nbl sh b := by
  induction b with
  | zero =>
    have : a = 0 := by omega
    rw [this]; exact Nat.le_refl _
  | succ b ih =>
    by_cases q : a = b + 1
    · rw [q]; exact Nat.le_refl _
    · have := ih (by omega)
      show nbl sh a ≤ nbl sh b + stB sh b
      omega
theorem nbl_1 (sh : Nat → Int32) {i : Nat} (h : 0 < i) : 1 ≤ nbl sh i := by
  have h1 := nbl_up sh (a := 1) (b := i) (by omega)
  have h2 : nbl sh 1 = 1 := rfl
  omega
theorem bSm_le (sh : Nat → Int32) {am : Nat → Nat} (m : Nat) {c : Nat} (ha : ∀ i, i < c → am i ≤ 400) : ∀ i, i ≤ c → bSm sh am m i ≤ 400 * i := by
  intro i
  induction i with
  | zero => intro _; exact Nat.le_refl _
  | succ i ih =>
    intro hi
    have h1 := ih (by omega)
    have h2 := ha i (by omega)
    show bSm sh am m i + (if nbl sh (i + 1) = m + 1 then am i else 0) ≤ 400 * (i + 1)
    split <;> omega
theorem bSm_zero (sh : Nat → Int32) (am : Nat → Nat) {m : Nat} : ∀ i, nbl sh i ≤ m → bSm sh am m i = 0 := by
  intro i
  induction i with
  | zero => intro _; rfl
  | succ i ih =>
    intro hi
    have h1 : nbl sh (i + 1) = nbl sh i + stB sh i := rfl
    show bSm sh am m i + (if nbl sh (i + 1) = m + 1 then am i else 0) = 0
    rw [ih (by omega), if_neg (by omega)]
    all_goals rfl
theorem bSm_stay (sh : Nat → Int32) (am : Nat → Nat) {m i : Nat} (hm : m + 1 < nbl sh (i + 1)) : ∀ k, i ≤ k → bSm sh am m k = bSm sh am m i := by
  intro k
  induction k with
  | zero =>
    intro hk
    have : i = 0 := by omega
    rw [this]
  | succ k ih =>
    intro hk
    by_cases q : i = k + 1
    · rw [q]
    · have h1 := nbl_up sh (a := i + 1) (b := k + 1) (by omega)
      show bSm sh am m k + (if nbl sh (k + 1) = m + 1 then am k else 0) = bSm sh am m i
      rw [ih (by omega), if_neg (by omega)]
      all_goals rfl
/-- how many ships are cleared -/
def cut7 (n : Nat) : Nat := if n ≤ 7 then n else 7
theorem ga_s (n : Nat) (y2 y3 : Int32) (v : tV) : g_X2_gather_40_30_4 (n + 1) y2 y3 v = b_X2_gather_40_30_4 (g_X2_gather_40_30_4 n) y2 y3 v := rfl
theorem gath {c : Nat} {sh : Nat → Int32} {am : Nat → Nat} (hc : c ≤ 30) (ha : ∀ i, i < c → am i ≤ 400) : ∀ (e i n : Nat) (v : tV), i + e = c → e < n → v 30 4 = Int32.ofNat c → (∀ j, j < c → v 32 j = sh j) → (∀ j, j < c → v 36 j = Int32.ofNat (am j)) → nbl sh i ≤ 7 → (∀ m, m < nbl sh i → v 41 m = Int32.ofNat (bSm sh am m i)) →
    ∃ V : tV, g_X2_gather_40_30_4 n (Int32.ofNat (nbl sh i)) (Int32.ofNat i) v = (Int32.ofNat (cut7 (nbl sh c)), V) ∧ (∀ m, m < cut7 (nbl sh c) → V 41 m = Int32.ofNat (bSm sh am m c)) ∧ (∀ a j, a ≠ 41 → V a j = v a j) := by
  have z0 : (0 : Int32) = Int32.ofNat 0 := rfl
  have z7 : (7 : Int32) = Int32.ofNat 7 := rfl
  intro e
  induction e with
  | zero =>
    intro i n v hi hn h4 _ _ h7 hm
    obtain ⟨n, rfl⟩ : ∃ k, n = k + 1 := ⟨n - 1, by omega⟩
    have hi' : i = c := by omega
    subst hi'
    have e7 : cut7 (nbl sh i) = nbl sh i := if_pos h7
    rw [e7]
    refine ⟨v, ?_, hm, fun _ _ _ => rfl⟩
    rw [ga_s]
    simp only [b_X2_gather_40_30_4, bnd, h4]
    rw [if_pos (i_refl _)]
  | succ e ih =>
    intro i n v hi hn h4 hsh ham h7 hm
    obtain ⟨n, rfl⟩ : ∃ k, n = k + 1 := ⟨n - 1, by omega⟩
    have hlt : ¬ Int32.ofNat c ≤ Int32.ofNat i := fun z => by have := (le_ofNat (by omega) (by omega)).mp z; omega
    have hai := ha i (by omega)
    have hs1 : nbl sh (i + 1) = nbl sh i + stB sh i := rfl
    have hb : ∀ m, bSm sh am m (i + 1) = bSm sh am m i + (if nbl sh (i + 1) = m + 1 then am i else 0) := fun m => rfl
    -- a block begins
    have new : stB sh i = 1 → nbl sh i < 7 → ∃ V : tV, g_X2_gather_40_30_4 n (Int32.ofNat (nbl sh i + 1)) (Int32.ofNat (i + 1)) (up2 (up2 v 41 (nbl sh i) 0) 41 (nbl sh i) (0 + Int32.ofNat (am i))) = (Int32.ofNat (cut7 (nbl sh c)), V) ∧ (∀ m, m < cut7 (nbl sh c) → V 41 m = Int32.ofNat (bSm sh am m c)) ∧ (∀ a j, a ≠ 41 → V a j = v a j) := by
      intro hst h6
      have x := ih (i + 1) n (up2 (up2 v 41 (nbl sh i) 0) 41 (nbl sh i) (0 + Int32.ofNat (am i))) (by omega) (by omega) (by rw [up2_n _ _ (by omega), up2_n _ _ (by omega)]; exact h4) (fun j hj => by rw [up2_n _ _ (by omega), up2_n _ _ (by omega)]; exact hsh j hj) (fun j hj => by rw [up2_n _ _ (by omega), up2_n _ _ (by omega)]; exact ham j hj) (by omega) (fun m hm2 => by
        rw [hb m]
        by_cases q : m = nbl sh i
        · rw [q, up2_s, if_pos (by omega), bSm_zero sh am i (Nat.le_refl _), z0, add_ofNat (by omega)]
        · rw [up2_n _ _ (by omega), up2_n _ _ (by omega), if_neg (by omega)]; exact hm m (by omega))
      rw [hs1, hst] at x
      obtain ⟨V, x1, x2, x3⟩ := x
      exact ⟨V, x1, x2, fun a j z => by rw [x3 a j z, up2_n _ _ (by omega), up2_n _ _ (by omega)]⟩
    rw [ga_s]
    simp only [b_X2_gather_40_30_4, bnd, h4]
    rw [if_neg hlt]
    by_cases q0 : i = 0
    · have hi0 : Int32.ofNat i = 0 := by rw [q0]; rfl
      have hst : stB sh i = 1 := by unfold stB; rw [if_pos q0]
      have hn0 : nbl sh i = 0 := by rw [q0]; rfl
      rw [if_pos hi0, if_neg (c := Int32.ofNat (nbl sh i) = 7) (fun z => by rw [hn0] at z; exact absurd z (by decide))]
      simp (disch := omega) only [ofNat_succ, (ofNat_pred (n := nbl sh i) (by omega)).1, clampN, up2_n, up2_s, ham i (by omega)]
      exact new hst (by omega)
    · have hi0 : ¬ Int32.ofNat i = 0 := fun z => q0 (ofNat_inj (by omega) (by omega) (by rw [z, z0]))
      obtain ⟨k, hk⟩ : ∃ k, i = k + 1 := ⟨i - 1, by omega⟩
      have hp : Int32.ofNat i - 1 = Int32.ofNat (i - 1) := by rw [hk]; exact (ofNat_pred (n := k) (by omega)).1
      rw [if_neg hi0]
      simp only [hp, clampN (n := i) (by omega), clampN (n := i - 1) (by omega), hsh i (by omega), hsh (i - 1) (by omega)]
      have hb1 := nbl_1 sh (i := i) (by omega)
      by_cases qs : sh i = sh (i - 1)
      · have hst : stB sh i = 0 := by unfold stB; rw [if_neg q0, if_pos qs]
        rw [if_pos qs, if_neg (c := Int32.ofNat (nbl sh i) ≤ 0) (fun z => by rw [z0] at z; have := (le_ofNat (by omega) (by omega)).mp z; omega)]
        obtain ⟨l, hl⟩ : ∃ l, nbl sh i = l + 1 := ⟨nbl sh i - 1, by omega⟩
        have hp2 : Int32.ofNat (nbl sh i) - 1 = Int32.ofNat l := by rw [hl]; exact (ofNat_pred (n := l) (by omega)).1
        have hbl := bSm_le sh l ha i (by omega)
        simp only [hp2, clampN (n := l) (by omega), hm l (by omega), ham i (by omega), add_ofNat (a := bSm sh am l i) (b := am i) (by omega), ofNat_succ (n := i) (by omega)]
        have x := ih (i + 1) n (up2 v 41 l (Int32.ofNat (bSm sh am l i + am i))) (by omega) (by omega) (by rw [up2_n _ _ (by omega)]; exact h4) (fun j hj => by rw [up2_n _ _ (by omega)]; exact hsh j hj) (fun j hj => by rw [up2_n _ _ (by omega)]; exact ham j hj) (by omega) (fun m hm2 => by
          rw [hb m]
          by_cases q : m = l
          · rw [q, up2_s, if_pos (by omega)]
          · rw [up2_n _ _ (by omega), if_neg (by omega)]; exact hm m (by omega))
        rw [hs1, hst] at x
        obtain ⟨V, x1, x2, x3⟩ := x
        exact ⟨V, x1, x2, fun a j z => by rw [x3 a j z, up2_n _ _ (by omega)]⟩
      · have hst : stB sh i = 1 := by unfold stB; rw [if_neg q0, if_neg qs]
        rw [if_neg qs]
        by_cases q7 : nbl sh i = 7
        · rw [if_pos (c := Int32.ofNat (nbl sh i) = 7) (by rw [q7]; rfl)]
          have h8 := nbl_up sh (a := i + 1) (b := c) (by omega)
          have e7 : cut7 (nbl sh c) = 7 := if_neg (by omega)
          rw [e7]
          refine ⟨v, by rw [q7], fun m hm2 => ?_, fun _ _ _ => rfl⟩
          rw [hm m (by omega), bSm_stay sh am (i := i) (by omega) c (by omega)]
        · rw [if_neg (c := Int32.ofNat (nbl sh i) = 7) (fun z => q7 (ofNat_inj (by omega) (by omega) (by rw [z, z7])))]
          simp (disch := omega) only [ofNat_succ, (ofNat_pred (n := nbl sh i) (by omega)).1, clampN, up2_n, up2_s, ham i (by omega)]
          exact new hst (by omega)
/-! the reference's -/
/-- a ship's bargains stand together -/
def TG (c : Nat) (sh : Nat → Int32) : Prop := ∀ a b d, a < b → b < d → d < c → sh a = sh d → sh b = sh a
theorem same_blk {c : Nat} {sh : Nat → Int32} (h : TG c sh) {i : Nat} : ∀ y, i ≤ y → y < c → (nbl sh (y + 1) = nbl sh (i + 1) ↔ sh y = sh i) := by
  intro y
  induction y with
  | zero =>
    intro hy _
    have : i = 0 := by omega
    rw [this]
    exact ⟨fun _ => rfl, fun _ => rfl⟩
  | succ y ih =>
    intro hy hc
    by_cases q : i = y + 1
    · rw [q]; exact ⟨fun _ => rfl, fun _ => rfl⟩
    · have i1 := ih (by omega) (by omega)
      have hup := nbl_up sh (a := i + 1) (b := y + 1) (by omega)
      have hs : nbl sh (y + 1 + 1) = nbl sh (y + 1) + stB sh (y + 1) := rfl
      have hst : stB sh (y + 1) = if sh (y + 1) = sh y then 0 else 1 := by
        show (if y + 1 = 0 then 1 else if sh (y + 1) = sh y then 0 else 1) = _
        rw [if_neg (by omega)]
      constructor
      · intro z
        by_cases q2 : sh (y + 1) = sh y
        · rw [q2]; exact i1.mp (by omega)
        · rw [hst, if_neg q2] at hs
          omega
      · intro z
        have e1 : sh y = sh i := by
          by_cases q2 : i = y
          · rw [q2]
          · exact h i y (y + 1) (by omega) (by omega) hc z.symm
        have e2 := i1.mpr e1
        rw [hst, if_pos (by rw [z, e1])] at hs
        omega
/-- a block begins where its ship was not seen before -/
theorem new_blk {c : Nat} {sh : Nat → Int32} (h : TG c sh) {i : Nat} (hi : i < c) : stB sh i = 1 ↔ ∀ j, j < i → sh j ≠ sh i := by
  unfold stB
  by_cases q : i = 0
  · rw [if_pos q]; exact ⟨fun _ j hj => by omega, fun _ => rfl⟩
  · rw [if_neg q]
    by_cases q2 : sh i = sh (i - 1)
    · rw [if_pos q2]
      exact ⟨fun z => absurd z (by decide), fun z => absurd q2.symm (z (i - 1) (by omega))⟩
    · rw [if_neg q2]
      refine ⟨fun _ j hj e => ?_, fun _ => rfl⟩
      by_cases q3 : j = i - 1
      · rw [q3] at e; exact q2 e.symm
      · have := h j (i - 1) i (by omega) (by omega) hi e
        exact q2 (by rw [this, e])
theorem fh_s0 (n : Nat) (y1 y2 y3 y4 y5 : Int32) (v : tV) : g_X11_findHours_400 (n + 1) 0 y1 y2 y3 y4 y5 v = b_X11_findHours_400_4 (fun y1 y2 w1 => g_X11_findHours_400 n 0 y1 y2 0 0 0 w1) (fun y1 y2 w1 => g_X11_findHours_400 n 1 y1 y2 0 0 0 w1) y1 y2 v := rfl
theorem fh_s1 (n : Nat) (y1 y2 y3 y4 y5 : Int32) (v : tV) : g_X11_findHours_400 (n + 1) 1 y1 y2 y3 y4 y5 v = b_X11_findHours_400_27 (fun y1 y2 w1 => g_X11_findHours_400 n 1 y1 y2 0 0 0 w1) (fun y1 y2 y3 y4 y5 w1 => g_X11_findHours_400 n 2 y1 y2 y3 y4 y5 w1) y1 y2 v := rfl
theorem fh_s2 (n : Nat) (y1 y2 y3 y4 y5 : Int32) (v : tV) : g_X11_findHours_400 (n + 1) 2 y1 y2 y3 y4 y5 v = b_X11_findHours_400_73 (fun y1 y2 w1 => g_X11_findHours_400 n 1 y1 y2 0 0 0 w1) (fun y1 y2 y3 y4 y5 w1 => g_X11_findHours_400 n 2 y1 y2 y3 y4 y5 w1) y1 y2 y3 y4 y5 v := rfl
/-- nothing is seen yet -/
theorem seen0 {cnt : Nat} (hcnt : cnt ≤ 20) (m : Nat) : ∀ (e y : Nat) (v : tV), y + e = cnt → v 400 1 = Int32.ofNat cnt → (∀ t, t < y → v 463 t = 0) →
    ∃ V, g_X11_findHours_400 (m + e + 1) 0 0 (Int32.ofNat y) 0 0 0 v = g_X11_findHours_400 m 1 0 0 0 0 0 V ∧ (∀ t, t < cnt → V 463 t = 0) ∧ (∀ a j, a ≠ 463 → V a j = v a j) := by
  intro e
  induction e with
  | zero =>
    intro y v hy hc h
    have hy' : y = cnt := by omega
    subst hy'
    refine ⟨v, ?_, h, fun _ _ _ => rfl⟩
    rw [show m + 0 + 1 = m + 1 from rfl, fh_s0]
    simp only [b_X11_findHours_400_4, bnd, hc]
    rw [if_pos (i_refl _)]
  | succ e ih =>
    intro y v hy hc h
    obtain ⟨V, v1, v2, v3⟩ := ih (y + 1) (up2 v 463 y 0) (by omega) (by rw [up2_n _ _ (by omega)]; exact hc) (fun t ht => by
      by_cases q : t = y
      · rw [q, up2_s]
      · rw [up2_n _ _ (by omega)]; exact h t (by omega))
    refine ⟨V, ?_, v2, fun a j z => by rw [v3 a j z, up2_n _ _ (by omega)]⟩
    rw [show m + (e + 1) + 1 = m + e + 1 + 1 from by omega, fh_s0]
    simp only [b_X11_findHours_400_4, bnd, hc, clampN (n := y) (by omega), ofNat_succ (n := y) (by omega)]
    rw [if_neg (fun z => by have := (le_ofNat (by omega) (by omega)).mp z; omega)]
    exact v1
/-- all of one ship's -/
theorem sumS {c k i : Nat} {sh : Nat → Int32} {am : Nat → Nat} (hc : c ≤ 30) (ha : ∀ i, i < c → am i ≤ 400) (hTG : TG c sh) (hi : i < c) (hk : nbl sh (i + 1) = k + 1) (h7 : k < 7) (m : Nat) : ∀ (e y : Nat) (v : tV), y + e = c → i ≤ y → v 400 27 = Int32.ofNat c → (∀ j, j < c → v 429 j = sh j) → (∀ j, j < c → v 431 j = Int32.ofNat (am j)) →
    g_X11_findHours_400 (m + e + 1) 2 (Int32.ofNat k) (Int32.ofNat i) (sh i) (Int32.ofNat (bSm sh am k y)) (Int32.ofNat y) v = g_X11_findHours_400 m 1 (Int32.ofNat (k + 1)) (Int32.ofNat (i + 1)) 0 0 0 (up2 v 461 k (Int32.ofNat ((bSm sh am k c + 9) / 10))) := by
  intro e
  induction e with
  | zero =>
    intro y v hy _ h4 _ _
    have hy' : y = c := by omega
    subst hy'
    have hbl := bSm_le sh k ha y (Nat.le_refl _)
    have e10 : (10 : Int32) = Int32.ofNat 10 := rfl
    have e1 : Int32.ofNat (bSm sh am k y) + 10 - 1 = Int32.ofNat (bSm sh am k y + 9) := by
      rw [e10, add_ofNat (by omega)]
      exact (ofNat_pred (n := bSm sh am k y + 9) (by omega)).1
    have e2 : Int32.ofNat (bSm sh am k y + 9) / 10 = Int32.ofNat ((bSm sh am k y + 9) / 10) := pk_div (a := bSm sh am k y + 9) (d := 10) (by omega) (by omega) (by omega)
    rw [show m + 0 + 1 = m + 1 from rfl, fh_s2]
    simp only [b_X11_findHours_400_73, bnd, h4, e1, e2, clampN (n := k) (by omega), ofNat_succ (n := k) (by omega), ofNat_succ (n := i) (by omega)]
    rw [if_pos (i_refl _)]
  | succ e ih =>
    intro y v hy hiy h4 hsh ham
    have hbl := bSm_le sh k ha y (by omega)
    have hay := ha y (by omega)
    have hsb := same_blk hTG y hiy (by omega)
    rw [hk] at hsb
    have hb : bSm sh am k (y + 1) = bSm sh am k y + (if nbl sh (y + 1) = k + 1 then am y else 0) := rfl
    have x := ih (y + 1) v (by omega) (by omega) h4 hsh ham
    rw [show m + (e + 1) + 1 = m + e + 1 + 1 from by omega, fh_s2]
    simp only [b_X11_findHours_400_73, bnd, h4, clampN (n := y) (by omega), hsh y (by omega), ham y (by omega), ofNat_succ (n := y) (by omega), add_ofNat (a := bSm sh am k y) (b := am y) (by omega), Int32.add_zero]
    rw [if_neg (fun z => by have := (le_ofNat (by omega) (by omega)).mp z; omega)]
    by_cases q : sh y = sh i
    · rw [if_pos q]
      rw [hb, if_pos (hsb.mpr q)] at x
      exact x
    · rw [if_neg q]
      rw [hb, if_neg (fun z => q (hsb.mp z))] at x
      exact x
theorem hoursM {c cnt : Nat} {sh : Nat → Int32} {am : Nat → Nat} (hc : c ≤ 30) (hcnt : cnt ≤ 20) (ha : ∀ i, i < c → am i ≤ 400) (hTG : TG c sh) (hS : ∀ i, i < c → ∃ t : Nat, t < cnt ∧ sh i = Int32.ofNat t) : ∀ (e i m : Nat) (v : tV), i + e = c → nbl sh i ≤ 7 → v 400 27 = Int32.ofNat c → (∀ j, j < c → v 429 j = sh j) → (∀ j, j < c → v 431 j = Int32.ofNat (am j)) → (∀ t, t < cnt → (v 463 t = 0 ↔ ∀ j, j < i → sh j ≠ Int32.ofNat t)) → (∀ k, k < nbl sh i → v 461 k = Int32.ofNat ((bSm sh am k c + 9) / 10)) →
    ∃ V, g_X11_findHours_400 (m + 40 * e + 1) 1 (Int32.ofNat (nbl sh i)) (Int32.ofNat i) 0 0 0 v = (Int32.ofNat (cut7 (nbl sh c)), V) ∧ (∀ k, k < cut7 (nbl sh c) → V 461 k = Int32.ofNat ((bSm sh am k c + 9) / 10)) := by
  have z7 : (7 : Int32) = Int32.ofNat 7 := rfl
  intro e
  induction e with
  | zero =>
    intro i m v hi h7 h4 _ _ _ hm
    have hi' : i = c := by omega
    subst hi'
    have e7 : cut7 (nbl sh i) = nbl sh i := if_pos h7
    rw [e7]
    refine ⟨v, ?_, hm⟩
    rw [show m + 40 * 0 + 1 = m + 1 from rfl, fh_s1]
    simp only [b_X11_findHours_400_27, bnd, h4]
    rw [if_pos (i_refl _)]
  | succ e ih =>
    intro i m v hi h7 h4 hsh ham hseen hm
    have hs1 : nbl sh (i + 1) = nbl sh i + stB sh i := rfl
    rw [show m + 40 * (e + 1) + 1 = m + 40 * e + 40 + 1 from by omega, fh_s1]
    simp only [b_X11_findHours_400_27, bnd, h4, clampN (n := i) (by omega), hsh i (by omega), ofNat_succ (n := i) (by omega)]
    rw [if_neg (fun z => by have := (le_ofNat (by omega) (by omega)).mp z; omega)]
    by_cases q7 : nbl sh i = 7
    · rw [if_pos (c := (7 : Int32) ≤ Int32.ofNat (nbl sh i)) (by rw [z7]; exact (le_ofNat (by omega) (by omega)).mpr (by omega))]
      have h8 := nbl_up sh (a := i) (b := c) (by omega)
      have e7 : cut7 (nbl sh c) = 7 := by
        unfold cut7
        split <;> omega
      rw [e7]
      exact ⟨v, by rw [q7], fun k hk => hm k (by omega)⟩
    · rw [if_neg (c := (7 : Int32) ≤ Int32.ofNat (nbl sh i)) (fun z => by rw [z7] at z; have := (le_ofNat (by omega) (by omega)).mp z; omega)]
      obtain ⟨t, t1, t2⟩ := hS i (by omega)
      have hnb := new_blk hTG (i := i) (by omega)
      have hst : stB sh i = 1 ∨ stB sh i = 0 := by
        unfold stB
        repeat' split
        all_goals omega
      simp only [t2, clampN (n := t) (by omega)]
      rw [t2] at hnb
      rcases hst with hst | hst
      · have h0 : v 463 t = 0 := (hseen t t1).mpr (hnb.mp hst)
        rw [if_pos h0]
        have hbz := bSm_zero sh am i (Nat.le_refl (nbl sh i))
        have sm := sumS (k := nbl sh i) (i := i) hc ha hTG (by omega) (by rw [hs1, hst]) (by omega) (m + 40 * e + 39 - (c - i)) (c - i) i (up2 v 463 t 1) (by omega) (Nat.le_refl _) (by rw [up2_n _ _ (by omega)]; exact h4) (fun j hj => by rw [up2_n _ _ (by omega)]; exact hsh j hj) (fun j hj => by rw [up2_n _ _ (by omega)]; exact ham j hj)
        rw [hbz, t2, show m + 40 * e + 39 - (c - i) + (c - i) + 1 = m + 40 * e + 40 from by omega] at sm
        have z0 : (0 : Int32) = Int32.ofNat 0 := rfl
        rw [z0, sm]
        have x := ih (i + 1) (m + 38 - (c - i)) (up2 (up2 v 463 t 1) 461 (nbl sh i) (Int32.ofNat ((bSm sh am (nbl sh i) c + 9) / 10))) (by omega) (by omega) (by rw [up2_n _ _ (by omega), up2_n _ _ (by omega)]; exact h4) (fun j hj => by rw [up2_n _ _ (by omega), up2_n _ _ (by omega)]; exact hsh j hj) (fun j hj => by rw [up2_n _ _ (by omega), up2_n _ _ (by omega)]; exact ham j hj) (fun t' ht' => by
          rw [up2_n _ _ (by omega)]
          by_cases q : t' = t
          · rw [q, up2_s]
            exact ⟨fun z => absurd z (by decide), fun z => absurd t2 (z i (by omega))⟩
          · rw [up2_n _ _ (by omega), hseen t' ht']
            constructor
            · intro z j hj
              by_cases q2 : j = i
              · rw [q2, t2]; exact fun e9 => q (ofNat_inj (by omega) (by omega) e9).symm
              · exact z j (by omega)
            · intro z j hj; exact z j (by omega)) (fun k hk => by
          by_cases q : k = nbl sh i
          · rw [q, up2_s]
          · rw [up2_n _ _ (by omega), up2_n _ _ (by omega)]; exact hm k (by omega))
        rw [hs1, hst] at x
        rw [show m + 40 * e + 39 - (c - i) = m + 38 - (c - i) + 40 * e + 1 from by omega]
        exact x
      · have h0 : ¬ v 463 t = 0 := fun z => by
          have := hnb.mpr ((hseen t t1).mp z)
          omega
        rw [if_neg h0]
        have x := ih (i + 1) (m + 39) v (by omega) (by omega) h4 hsh ham (fun t' ht' => by
          rw [hseen t' ht']
          constructor
          · intro z j hj
            by_cases q2 : j = i
            · intro e9
              rw [q2] at e9
              have hne : ∀ j, j < i → sh j ≠ sh i := fun j hj e8 => z j hj (by rw [e8]; exact e9)
              rw [t2] at hne
              have := hnb.mpr hne
              omega
            · exact z j (by omega)
          · intro z j hj; exact z j (by omega)) (fun k hk => hm k (by omega))
        rw [hs1, hst] at x
        rw [show m + 40 * e + 40 = m + 39 + 40 * e + 1 from by omega]
        exact x
