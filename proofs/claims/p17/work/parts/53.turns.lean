/-! THE TURN: ranks and keys -/
/-- the order that both sides go by -/
def OT (u w : tV) (k : Nat) (od : Int32) : Prop := (od.toInt < 0 ∧ k = 68 ∧ u 68 3 = 0 ∧ u 68 4 = 99 ∧ u 68 5 = 0) ∨ (∃ o : Nat, od.toInt = (o : Int) ∧ o < 8 ∧ k = 60 + o ∧ ROW o u w)
/-- numbers of ships, as they must be -/
def WS (T : Int) (u : tV) : Prop := (∀ s, s < 20 → 0 ≤ (u (100 + s) 3).toInt ∧ (u (100 + s) 3).toInt ≤ 99 ∧ 0 ≤ (u (100 + s) 6).toInt ∧ (u (100 + s) 6).toInt ≤ 400 ∧ -1 ≤ (u (100 + s) 8).toInt ∧ (u (100 + s) 8).toInt ≤ T) ∧ 0 ≤ (u 1 5).toInt ∧ (u 1 5).toInt ≤ T
theorem WS.up {T T2 : Int} {u : tV} (h : WS T u) (hT : T ≤ T2) : WS T2 u := ⟨fun s hs => by obtain ⟨a, b, c, d, e, f⟩ := h.1 s hs; exact ⟨a, b, c, d, e, by omega⟩, h.2.1, by have := h.2.2; omega⟩
def rankM (w : tV) (od : Int32) (s : Nat) : Int32 := f_X11_keyOf_400 w (Int32.ofNat s) od + (if w 410 s = 2 then 1000000 else 0)
theorem key_eq {u w : tV} (h : RelW u w) {k : Nat} {od : Int32} (hO : OT u w k od) {s : Nat} (hs : s < 20) : f_X3_keyOf u k (Int32.ofNat s) (100 + s) (u 1 5) = f_X11_keyOf_400 w (Int32.ofNat s) od := by
  have z0 : (0 : Int32).toInt = 0 := rfl
  have e3 : w 406 s = u (100 + s) 3 := (h.ship s 3 hs (by omega)).symm
  have e6 : w 409 s = u (100 + s) 6 := (h.ship s 6 hs (by omega)).symm
  have e8 : w 411 s = u (100 + s) 8 := (h.ship s 8 hs (by omega)).symm
  simp only [f_X3_keyOf, f_X11_keyOf_400, bnd, clampN (n := s) (by omega), e3, e6, e8, ← h.to]
  rcases hO with ⟨q, rfl, -, -, q5⟩ | ⟨o, q, ho, rfl, hR⟩
  · rw [if_neg (c := (0 : Int32) ≤ od) (fun z => by have := i_le z; omega), q5, if_pos (Or.inl (by decide))]
  · have hodn : od.toNatClampNeg = o := by show od.toInt.toNat = o; rw [q]; omega
    obtain ⟨-, -, -, ⟨k1, k2, k3⟩, -⟩ := hR
    rw [if_pos (c := (0 : Int32) ≤ od) (Int32.le_iff_toInt_le.mpr (by omega)), hodn, ← k1]
    generalize u (60 + o) 5 = x at k2 k3
    by_cases c0 : x.toInt = 0
    · rw [if_pos (Or.inl (by omega)), if_neg (by omega), if_pos c0]
    · by_cases c1 : x.toInt = 1
      · rw [if_neg (by omega), if_pos c1, if_neg (by omega), if_neg c0, if_pos c1]
      · by_cases c2 : x.toInt = 2
        · rw [if_neg (by omega), if_neg c1, if_pos c2, if_neg (by omega), if_neg c0, if_neg c1]
        · rw [if_neg (by omega), if_neg c1, if_neg c2, if_pos (Or.inr (by omega))]
theorem key_rng {u w : tV} (h : RelW u w) (hS : WS 5000 u) {k : Nat} {od : Int32} (hO : OT u w k od) {s : Nat} (hs : s < 20) : -1 ≤ (f_X11_keyOf_400 w (Int32.ofNat s) od).toInt ∧ (f_X11_keyOf_400 w (Int32.ofNat s) od).toInt ≤ 5000 := by
  rw [← key_eq h hO hs]
  obtain ⟨g, t0, t1⟩ := hS
  obtain ⟨a1, a2, a3, a4, a5, a6⟩ := g s hs
  have es := ofNat_int (n := s) (by omega)
  have z7 : (7 : Int32).toInt = 7 := rfl
  have z5 : (5 : Int32).toInt = 5 := rfl
  have z23 : (23 : Int32).toInt = 23 := rfl
  have m1 : ((7 : Int32) * Int32.ofNat s).toInt = 7 * (s : Int) := by rw [i_mul (by rw [z7, es]; omega) (by rw [z7, es]; omega), z7, es]
  have m2 : ((5 : Int32) * u 1 5).toInt = 5 * (u 1 5).toInt := by rw [i_mul (by rw [z5]; omega) (by rw [z5]; omega), z5]
  have m3 : ((7 : Int32) * Int32.ofNat s + (5 : Int32) * u 1 5).toInt = 7 * (s : Int) + 5 * (u 1 5).toInt := by rw [i_add (by rw [m1, m2]; omega) (by rw [m1, m2]; omega), m1, m2]
  simp only [f_X3_keyOf, bnd]
  split
  · exact ⟨by omega, by omega⟩
  · split
    · exact ⟨by omega, by omega⟩
    · split
      · exact ⟨by omega, by omega⟩
      · obtain ⟨r1, r2⟩ := rg_rem (x := (7 : Int32) * Int32.ofNat s + (5 : Int32) * u 1 5 - ((7 : Int32) * Int32.ofNat s + (5 : Int32) * u 1 5) / 23 * 23) (M := 100000) (L := 23) (N := 23) rfl ⟨by rw [m3]; omega, by rw [m3]; omega⟩ ⟨by rw [z23]; omega, by rw [z23]; omega⟩ (by decide) trivial
        exact ⟨by omega, by omega⟩
theorem rank_val {w : tV} {od : Int32} {s : Nat} (hk : -1 ≤ (f_X11_keyOf_400 w (Int32.ofNat s) od).toInt ∧ (f_X11_keyOf_400 w (Int32.ofNat s) od).toInt ≤ 5000) : (rankM w od s).toInt = (f_X11_keyOf_400 w (Int32.ofNat s) od).toInt + (if w 410 s = 2 then 1000000 else 0) := by
  have zk : (1000000 : Int32).toInt = 1000000 := rfl
  have z0 : (0 : Int32).toInt = 0 := rfl
  unfold rankM
  split
  · rw [i_add (by rw [zk]; omega) (by rw [zk]; omega), zk]
  · rw [i_add (by rw [z0]; omega) (by rw [z0]; omega), z0]
theorem rank_eq {u w : tV} (h : RelW u w) {k : Nat} {od : Int32} (hO : OT u w k od) {s : Nat} (hs : s < 20) : f_X5_rank u (Int32.ofNat s) (100 + s) k (u 1 5) = rankM w od s := by
  have e7 : w 410 s = u (100 + s) 7 := (h.ship s 7 hs (by omega)).symm
  simp only [f_X5_rank, bnd, key_eq h hO hs, rankM, e7]
  split <;> rfl
/-- who stands ahead: the lesser rank, of like ones the lesser number -/
theorem ahead_rank {w : tV} {od : Int32} {s t : Nat} (hs : s < 20) (ht : t < s) (ks : -1 ≤ (f_X11_keyOf_400 w (Int32.ofNat s) od).toInt ∧ (f_X11_keyOf_400 w (Int32.ofNat s) od).toInt ≤ 5000) (kt : -1 ≤ (f_X11_keyOf_400 w (Int32.ofNat t) od).toInt ∧ (f_X11_keyOf_400 w (Int32.ofNat t) od).toInt ≤ 5000) :
    f_X11_isAhead_400 w (Int32.ofNat s) (Int32.ofNat t) od = 0 ↔ rankM w od t ≤ rankM w od s := by
  rw [Int32.le_iff_toInt_le, rank_val ks, rank_val kt]
  have es := ofNat_int (n := s) (by omega)
  have et := ofNat_int (n := t) (by omega)
  simp only [f_X11_isAhead_400, bnd, clampN (n := s) (by omega), clampN (n := t) (by omega)]
  have hts : Int32.ofNat t ≤ Int32.ofNat s := Int32.le_iff_toInt_le.mpr (by omega)
  generalize f_X11_keyOf_400 w (Int32.ofNat s) od = a at ks
  generalize f_X11_keyOf_400 w (Int32.ofNat t) od = b at kt
  have core : (if a < b then (1 : Int32) else if a = b then (if Int32.ofNat t ≤ Int32.ofNat s then 0 else 1) else 0) = 0 ↔ b.toInt ≤ a.toInt := by
    by_cases q : a < b
    · have := i_lt q
      rw [if_pos q]
      constructor
      · intro z; exact absurd z (by decide)
      · intro z; omega
    · have := i_nlt q
      rw [if_neg q, if_pos hts]
      constructor
      · intro _; omega
      · intro _; split <;> rfl
  by_cases c1 : w 410 s = 2
  · rw [if_pos c1, if_pos c1]
    by_cases c2 : w 410 t = 2
    · rw [if_pos c2, if_pos c2, core]
      constructor <;> intro _ <;> omega
    · rw [if_neg c2, if_neg c2, if_neg c2]
      constructor
      · intro _; omega
      · intro _; rfl
  · rw [if_neg c1, if_neg c1]
    by_cases c2 : w 410 t = 2
    · rw [if_pos c2, if_pos c2, if_pos c2]
      constructor
      · intro z; exact absurd z (by decide)
      · intro z; omega
    · rw [if_neg c2, if_neg c2, core]
      constructor <;> intro _ <;> omega
/-! one ship comes into the row -/
def insM (od s : Int32) : Nat → tV → tV
  | 0, w => up2 (up2 w 446 0 s) 400 44 (w 400 44 + 1)
  | m + 1, w => if f_X11_isAhead_400 w s (w 446 m) od = 0 then up2 (up2 w 446 (m + 1) s) 400 44 (w 400 44 + 1) else insM od s m (up2 w 446 (m + 1) (w 446 m))
def insC (q : Nat) (s rk : Int32) : Nat → tV → tV
  | 0, u => up2 (up2 (up2 u (q + 2) 0 s) (q + 4) 0 rk) q 2 (u q 2 + 1)
  | m + 1, u => if u (q + 4) m ≤ rk then up2 (up2 (up2 u (q + 2) (m + 1) s) (q + 4) (m + 1) rk) q 2 (u q 2 + 1) else insC q s rk m (up2 (up2 u (q + 2) (m + 1) (u (q + 2) m)) (q + 4) (m + 1) (u (q + 4) m))
theorem ofNat_pred {n : Nat} (h : n + 1 < 2 ^ 31) : Int32.ofNat (n + 1) - 1 = Int32.ofNat n ∧ Int32.ofNat (n + 1) + -1 = Int32.ofNat n := by
  have e1 : (1 : Int32).toInt = 1 := rfl
  have e2 : (-1 : Int32).toInt = -1 := rfl
  have e3 := ofNat_int h
  have e4 := ofNat_int (n := n) (by omega)
  constructor
  · apply Int32.toInt_inj.mp
    rw [i_sub (by rw [e1, e3]; omega) (by rw [e1, e3]; omega), e1, e3, e4]; omega
  · apply Int32.toInt_inj.mp
    rw [i_add (by rw [e2, e3]; omega) (by rw [e2, e3]; omega), e2, e3, e4]; omega
theorem ofNat_pos {n : Nat} (h : n + 1 < 2 ^ 31) : ¬ Int32.ofNat (n + 1) ≤ 0 := fun z => by
  have := i_le z
  rw [ofNat_int h] at this
  have z0 : (0 : Int32).toInt = 0 := rfl
  omega
theorem insC_20 (s rk : Int32) : ∀ (m n : Nat) (u : tV), m < n → m ≤ 20 → g_X5_insert_20_15 s rk n (Int32.ofNat m) u = insC 20 s rk m u := by
  intro m
  induction m with
  | zero =>
    intro n u hn _
    obtain ⟨n, rfl⟩ : ∃ k, n = k + 1 := ⟨n - 1, by omega⟩
    show b_X5_insert_20_15 s rk (g_X5_insert_20_15 s rk n) (Int32.ofNat 0) u = _
    simp only [b_X5_insert_20_15, bnd, clampN (n := 0) (by omega), insC]
    rw [if_pos (by decide)]
  | succ m ih =>
    intro n u hn hm
    obtain ⟨n, rfl⟩ : ∃ k, n = k + 1 := ⟨n - 1, by omega⟩
    show b_X5_insert_20_15 s rk (g_X5_insert_20_15 s rk n) (Int32.ofNat (m + 1)) u = _
    simp only [b_X5_insert_20_15, bnd, clampN (n := m + 1) (by omega), clampN (n := m) (by omega), insC, (ofNat_pred (n := m) (by omega)).1, (ofNat_pred (n := m) (by omega)).2]
    rw [if_neg (ofNat_pos (by omega)), up2_n _ _ (by omega)]
    by_cases q : u 24 m ≤ rk
    · rw [if_pos q, if_pos q]
    · rw [if_neg q, if_neg q, ih n _ (by omega) (by omega)]
theorem insC_21 (s rk : Int32) : ∀ (m n : Nat) (u : tV), m < n → m ≤ 20 → g_X5_insert_21_15 s rk n (Int32.ofNat m) u = insC 21 s rk m u := by
  intro m
  induction m with
  | zero =>
    intro n u hn _
    obtain ⟨n, rfl⟩ : ∃ k, n = k + 1 := ⟨n - 1, by omega⟩
    show b_X5_insert_21_15 s rk (g_X5_insert_21_15 s rk n) (Int32.ofNat 0) u = _
    simp only [b_X5_insert_21_15, bnd, clampN (n := 0) (by omega), insC]
    rw [if_pos (by decide)]
  | succ m ih =>
    intro n u hn hm
    obtain ⟨n, rfl⟩ : ∃ k, n = k + 1 := ⟨n - 1, by omega⟩
    show b_X5_insert_21_15 s rk (g_X5_insert_21_15 s rk n) (Int32.ofNat (m + 1)) u = _
    simp only [b_X5_insert_21_15, bnd, clampN (n := m + 1) (by omega), clampN (n := m) (by omega), insC, (ofNat_pred (n := m) (by omega)).1, (ofNat_pred (n := m) (by omega)).2]
    rw [if_neg (ofNat_pos (by omega)), up2_n _ _ (by omega)]
    by_cases q : u 25 m ≤ rk
    · rw [if_pos q, if_pos q]
    · rw [if_neg q, if_neg q, ih n _ (by omega) (by omega)]
theorem ft_s1 (od : Int32) (n : Nat) (y2 y3 : Int32) (w : tV) : g_X11_findTurns_400 od (n + 1) 1 y2 y3 w = b_X11_findTurns_400_53 od (fun y2 w1 => g_X11_findTurns_400 od n 0 y2 0 w1) (fun y2 y3 w1 => g_X11_findTurns_400 od n 1 y2 y3 w1) y2 y3 w := rfl
theorem ft_s0 (od : Int32) (n : Nat) (y2 y3 : Int32) (w : tV) : g_X11_findTurns_400 od (n + 1) 0 y2 y3 w = b_X11_findTurns_400_7 od (fun y2 w1 => g_X11_findTurns_400 od n 0 y2 0 w1) (fun y2 y3 w1 => g_X11_findTurns_400 od n 1 y2 y3 w1) (g_X11_findTurns_400_149 od n) y2 w := rfl
theorem insM_eq (od s : Int32) : ∀ (m n : Nat) (w : tV), m < n → m ≤ 20 → ∃ n2, n ≤ n2 + m + 1 ∧ g_X11_findTurns_400 od n 1 s (Int32.ofNat m) w = g_X11_findTurns_400 od n2 0 (s + 1) 0 (insM od s m w) := by
  intro m
  induction m with
  | zero =>
    intro n w hn _
    obtain ⟨n, rfl⟩ : ∃ k, n = k + 1 := ⟨n - 1, by omega⟩
    refine ⟨n, by omega, ?_⟩
    rw [ft_s1]
    simp only [b_X11_findTurns_400_53, bnd, clampN (n := 0) (by omega), insM]
    rw [if_pos (by decide)]
  | succ m ih =>
    intro n w hn hm
    obtain ⟨n, rfl⟩ : ∃ k, n = k + 1 := ⟨n - 1, by omega⟩
    rw [ft_s1]
    simp only [b_X11_findTurns_400_53, bnd, clampN (n := m + 1) (by omega), clampN (n := m) (by omega), insM, (ofNat_pred (n := m) (by omega)).1, (ofNat_pred (n := m) (by omega)).2]
    rw [if_neg (ofNat_pos (by omega))]
    by_cases q : f_X11_isAhead_400 w s (w 446 m) od = 0
    · rw [if_pos q, if_pos q]
      exact ⟨n, by omega, rfl⟩
    · rw [if_neg q, if_neg q]
      obtain ⟨n2, h1, h2⟩ := ih n (up2 w 446 (m + 1) (w 446 m)) (by omega) (by omega)
      exact ⟨n2, by omega, h2⟩
def ENT (q : Nat) (ok : Nat → Prop) (rk : Nat → Int32) (u w : tV) (i : Nat) : Prop := ∃ t : Nat, ok t ∧ u (q + 2) i = Int32.ofNat t ∧ w 446 i = Int32.ofNat t ∧ u (q + 4) i = rk t
theorem ahead_up (w : tV) (j : Nat) (x s t od : Int32) : f_X11_isAhead_400 (up2 w 446 j x) s t od = f_X11_isAhead_400 w s t od := by
  have e : ∀ a b, a ≠ 446 → up2 w 446 j x a b = w a b := fun a b h => up2_n _ _ (fun q => h q.1)
  have e1 : ∀ b, up2 w 446 j x 410 b = w 410 b := fun b => e 410 b (by decide)
  have e2 : ∀ b, up2 w 446 j x 437 b = w 437 b := fun b => e 437 b (by decide)
  have e3 : ∀ b, up2 w 446 j x 400 b = w 400 b := fun b => e 400 b (by decide)
  have e4 : ∀ b, up2 w 446 j x 411 b = w 411 b := fun b => e 411 b (by decide)
  have e5 : ∀ b, up2 w 446 j x 406 b = w 406 b := fun b => e 406 b (by decide)
  have e6 : ∀ b, up2 w 446 j x 409 b = w 409 b := fun b => e 409 b (by decide)
  simp only [f_X11_isAhead_400, f_X11_keyOf_400, bnd, e1, e2, e3, e4, e5, e6]
/-- what an insertion leaves behind -/
def IR (q : Nat) (ok : Nat → Prop) (rk : Nat → Int32) (sz : Nat) (u w U V : tV) : Prop :=
  (∀ i, i ≤ sz → ENT q ok rk U V i) ∧ (∀ i j, i < j → j ≤ sz → U (q + 2) i ≠ U (q + 2) j) ∧ U q 2 = u q 2 + 1 ∧ V 400 44 = w 400 44 + 1 ∧
  (∀ a j, a ≠ q → a ≠ q + 2 → a ≠ q + 4 → U a j = u a j) ∧ (∀ a j, a ≠ 446 → ¬ (a = 400 ∧ j = 44) → V a j = w a j)
theorem ofNat_inj {a b : Nat} (ha : a < 2 ^ 31) (hb : b < 2 ^ 31) (h : Int32.ofNat a = Int32.ofNat b) : a = b := by
  have := congrArg Int32.toInt h
  rw [ofNat_int ha, ofNat_int hb] at this
  omega
theorem put_at {q : Nat} (hq : q = 20 ∨ q = 21) {ok : Nat → Prop} {rk : Nat → Int32} {s m sz : Nat} {u w : tV} {r : Int32} (hs : s < 20) (hm : m ≤ sz) (hok : ∀ t, ok t → t < 20 ∧ t ≠ s) (hr : r = rk s)
    (h1 : ∀ i, i ≤ sz → i ≠ m → ENT q ok rk u w i) (h2 : ∀ i j, i < j → j ≤ sz → i ≠ m → j ≠ m → u (q + 2) i ≠ u (q + 2) j) :
    IR q (fun t => ok t ∨ t = s) rk sz u w (up2 (up2 (up2 u (q + 2) m (Int32.ofNat s)) (q + 4) m r) q 2 (u q 2 + 1)) (up2 (up2 w 446 m (Int32.ofNat s)) 400 44 (w 400 44 + 1)) := by
  have eC : ∀ i, up2 (up2 (up2 u (q + 2) m (Int32.ofNat s)) (q + 4) m r) q 2 (u q 2 + 1) (q + 2) i = if i = m then Int32.ofNat s else u (q + 2) i := fun i => by
    rw [up2_n _ _ (by omega), up2_n _ _ (by omega)]
    by_cases z : i = m
    · rw [if_pos z, z, up2_s]
    · rw [if_neg z, up2_n _ _ (by omega)]
  have eR : ∀ i, up2 (up2 (up2 u (q + 2) m (Int32.ofNat s)) (q + 4) m r) q 2 (u q 2 + 1) (q + 4) i = if i = m then r else u (q + 4) i := fun i => by
    rw [up2_n _ _ (by omega)]
    by_cases z : i = m
    · rw [if_pos z, z, up2_s]
    · rw [if_neg z, up2_n _ _ (by omega), up2_n _ _ (by omega)]
  have eT : ∀ i, up2 (up2 w 446 m (Int32.ofNat s)) 400 44 (w 400 44 + 1) 446 i = if i = m then Int32.ofNat s else w 446 i := fun i => by
    rw [up2_n _ _ (by omega)]
    by_cases z : i = m
    · rw [if_pos z, z, up2_s]
    · rw [if_neg z, up2_n _ _ (by omega)]
  refine ⟨fun i hi => ?_, fun i j hij hj => ?_, up2_s _ _ _ _, up2_s _ _ _ _, fun a j p1 p2 p3 => ?_, fun a j p1 p2 => ?_⟩
  · unfold ENT
    rw [eC, eR, eT]
    by_cases z : i = m
    · rw [if_pos z, if_pos z, if_pos z]
      exact ⟨s, Or.inr rfl, rfl, rfl, hr⟩
    · rw [if_neg z, if_neg z, if_neg z]
      obtain ⟨t, a1, a2, a3, a4⟩ := h1 i hi z
      exact ⟨t, Or.inl a1, a2, a3, a4⟩
  · rw [eC, eC]
    by_cases z1 : i = m
    · rw [if_pos z1, if_neg (by omega)]
      obtain ⟨t, a1, a2, -, -⟩ := h1 j hj (by omega)
      rw [a2]
      intro e
      have := ofNat_inj (by omega) (by have := (hok t a1).1; omega) e
      exact (hok t a1).2 this.symm
    · rw [if_neg z1]
      by_cases z2 : j = m
      · rw [if_pos z2]
        obtain ⟨t, a1, a2, -, -⟩ := h1 i (by omega) z1
        rw [a2]
        intro e
        have := ofNat_inj (by have := (hok t a1).1; omega) (by omega) e
        exact (hok t a1).2 this
      · rw [if_neg z2]; exact h2 i j hij hj z1 z2
  · rw [up2_n _ _ (by omega), up2_n _ _ (by omega), up2_n _ _ (by omega)]
  · rw [up2_n _ _ p2, up2_n _ _ (by omega)]
theorem ins_rel {q : Nat} (hq : q = 20 ∨ q = 21) {ok : Nat → Prop} {rk : Nat → Int32} {od : Int32} {s sz : Nat} (hs : s < 20) (hok : ∀ t, ok t → t < 20 ∧ t ≠ s) :
    ∀ (m : Nat) (u w : tV), m ≤ sz → (∀ t, ok t → (f_X11_isAhead_400 w (Int32.ofNat s) (Int32.ofNat t) od = 0 ↔ rk t ≤ rk s)) →
      (∀ i, i ≤ sz → i ≠ m → ENT q ok rk u w i) → (∀ i j, i < j → j ≤ sz → i ≠ m → j ≠ m → u (q + 2) i ≠ u (q + 2) j) →
      IR q (fun t => ok t ∨ t = s) rk sz u w (insC q (Int32.ofNat s) (rk s) m u) (insM od (Int32.ofNat s) m w) := by
  intro m
  induction m with
  | zero =>
    intro u w hm _ h1 h2
    exact put_at hq hs hm hok rfl h1 h2
  | succ m ih =>
    intro u w hm hA h1 h2
    obtain ⟨t, a1, a2, a3, a4⟩ := h1 m (by omega) (by omega)
    have hA' := hA t a1
    simp only [insC, insM]
    rw [a3, a4]
    by_cases c : rk t ≤ rk s
    · rw [if_pos c, if_pos (hA'.mpr c)]
      exact put_at hq hs hm hok rfl h1 h2
    · rw [if_neg c, if_neg (fun z => c (hA'.mp z))]
      have eC : ∀ i, up2 (up2 u (q + 2) (m + 1) (u (q + 2) m)) (q + 4) (m + 1) (rk t) (q + 2) i = if i = m + 1 then u (q + 2) m else u (q + 2) i := fun i => by
        rw [up2_n _ _ (by omega)]
        by_cases z : i = m + 1
        · rw [if_pos z, z, up2_s]
        · rw [if_neg z, up2_n _ _ (by omega)]
      have eR : ∀ i, up2 (up2 u (q + 2) (m + 1) (u (q + 2) m)) (q + 4) (m + 1) (rk t) (q + 4) i = if i = m + 1 then rk t else u (q + 4) i := fun i => by
        by_cases z : i = m + 1
        · rw [if_pos z, z, up2_s]
        · rw [if_neg z, up2_n _ _ (by omega), up2_n _ _ (by omega)]
      have eT : ∀ i, up2 w 446 (m + 1) (Int32.ofNat t) 446 i = if i = m + 1 then Int32.ofNat t else w 446 i := fun i => by
        by_cases z : i = m + 1
        · rw [if_pos z, z, up2_s]
        · rw [if_neg z, up2_n _ _ (by omega)]
      have hI := ih (up2 (up2 u (q + 2) (m + 1) (u (q + 2) m)) (q + 4) (m + 1) (rk t)) (up2 w 446 (m + 1) (Int32.ofNat t)) (by omega) (fun t' ht' => by rw [ahead_up]; exact hA t' ht')
        (fun i hi hz => by
          unfold ENT
          rw [eC, eR, eT]
          by_cases z : i = m + 1
          · rw [if_pos z, if_pos z, if_pos z]
            exact ⟨t, a1, a2, rfl, rfl⟩
          · rw [if_neg z, if_neg z, if_neg z]
            exact h1 i hi z)
        (fun i j hij hj z1 z2 => by
          rw [eC, eC]
          by_cases y1 : i = m + 1
          · rw [if_pos y1, if_neg (by omega)]
            exact h2 m j (by omega) hj (by omega) (by omega)
          · rw [if_neg y1]
            by_cases y2 : j = m + 1
            · rw [if_pos y2]
              exact h2 i m (by omega) (by omega) y1 (by omega)
            · rw [if_neg y2]
              exact h2 i j hij hj y1 y2)
      obtain ⟨b1, b2, b3, b4, b5, b6⟩ := hI
      refine ⟨b1, b2, ?_, ?_, fun a j p1 p2 p3 => ?_, fun a j p1 p2 => ?_⟩
      · rw [b3, up2_n _ _ (by omega), up2_n _ _ (by omega)]
      · rw [b4, up2_n _ _ (by omega)]
      · rw [b5 a j p1 p2 p3, up2_n _ _ (by omega), up2_n _ _ (by omega)]
      · rw [b6 a j p1 p2, up2_n _ _ (by omega)]
