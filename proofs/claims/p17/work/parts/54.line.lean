/-! THE WHOLE LINE -/
theorem i_refl (x : Int32) : x ≤ x := Int32.le_iff_toInt_le.mpr (Int.le_refl _)
def FQq (q : Nat) (u0 u : tV) : Prop := ∀ a j, a ≠ q → a ≠ q + 2 → a ≠ q + 4 → u a j = u0 a j
def FT (w0 w : tV) : Prop := ∀ a j, a ≠ 446 → ¬ (a = 400 ∧ j = 44) → w a j = w0 a j
theorem FQq.tr {q : Nat} {u v w : tV} (h1 : FQq q u v) (h2 : FQq q v w) : FQq q u w := fun a j p1 p2 p3 => (h2 a j p1 p2 p3).trans (h1 a j p1 p2 p3)
theorem FT.tr {u v w : tV} (h1 : FT u v) (h2 : FT v w) : FT u w := fun a j p1 p2 => (h2 a j p1 p2).trans (h1 a j p1 p2)
theorem RelW.line {q : Nat} (hq : q = 20 ∨ q = 21) {u0 w0 u w : tV} (h : RelW u0 w0) (h1 : FQq q u0 u) (h2 : FT w0 w) : RelW u w := ⟨fun s1 f1 c0 c1 => by rw [h1 _ _ (by omega) (by omega) (by omega), h2 _ _ (by omega) (by omega)]; exact h.ship s1 f1 c0 c1, fun s1 f1 c0 c1 => by rw [h1 _ _ (by omega) (by omega) (by omega), h2 _ _ (by omega) (by omega)]; exact h.buyer s1 f1 c0 c1, fun s1 f1 c0 c1 c2 => by rw [h1 _ _ (by omega) (by omega) (by omega), h2 _ _ (by omega) (by omega)]; exact h.ward s1 f1 c0 c1 c2, fun s1 f1 c0 c1 => by rw [h1 _ _ (by omega) (by omega) (by omega), h2 _ _ (by omega) (by omega)]; exact h.burn s1 f1 c0 c1, by rw [h1 _ _ (by omega) (by omega) (by omega), h2 _ _ (by omega) (by omega)]; exact h.n, by rw [h1 _ _ (by omega) (by omega) (by omega), h2 _ _ (by omega) (by omega)]; exact h.nb, by rw [h1 _ _ (by omega) (by omega) (by omega), h2 _ _ (by omega) (by omega)]; exact h.le, by rw [h1 _ _ (by omega) (by omega) (by omega), h2 _ _ (by omega) (by omega)]; exact h.mo, by rw [h1 _ _ (by omega) (by omega) (by omega), h2 _ _ (by omega) (by omega)]; exact h.no, by rw [h1 _ _ (by omega) (by omega) (by omega), h2 _ _ (by omega) (by omega)]; exact h.nt, by rw [h1 _ _ (by omega) (by omega) (by omega), h2 _ _ (by omega) (by omega)]; exact h.to, by rw [h1 _ _ (by omega) (by omega) (by omega), h2 _ _ (by omega) (by omega)]; exact h.pr, by rw [h1 _ _ (by omega) (by omega) (by omega), h2 _ _ (by omega) (by omega)]; exact h.mk, by rw [h1 _ _ (by omega) (by omega) (by omega), h2 _ _ (by omega) (by omega)]; exact h.bg⟩
theorem OT.line {q : Nat} (hq : q = 20 ∨ q = 21) {u0 w0 u w : tV} {k : Nat} {od : Int32} (h : OT u0 w0 k od) (h1 : FQq q u0 u) (h2 : FT w0 w) : OT u w k od := by
  rcases h with ⟨a, b, c, d, e⟩ | ⟨o, a, b, c, d⟩
  · exact Or.inl ⟨a, b, by rw [h1 _ _ (by omega) (by omega) (by omega)]; exact c, by rw [h1 _ _ (by omega) (by omega) (by omega)]; exact d, by rw [h1 _ _ (by omega) (by omega) (by omega)]; exact e⟩
  · exact Or.inr ⟨o, a, b, c, d.kp (fun a j z => h1 a j (by omega) (by omega) (by omega)) (fun a j z => h2 a j (by omega) (by omega)) (fun a j z => h2 a _ (by omega) (by omega))⟩
theorem rankM_fr {w0 w : tV} (h : FT w0 w) (od : Int32) (s : Nat) : rankM w od s = rankM w0 od s := by
  have a1 : ∀ j, w 410 j = w0 410 j := fun j => h 410 j (by omega) (by omega)
  have a2 : ∀ j, w 437 j = w0 437 j := fun j => h 437 j (by omega) (by omega)
  have a3 : w 400 25 = w0 400 25 := h 400 25 (by omega) (by omega)
  have a4 : ∀ j, w 411 j = w0 411 j := fun j => h 411 j (by omega) (by omega)
  have a5 : ∀ j, w 406 j = w0 406 j := fun j => h 406 j (by omega) (by omega)
  have a6 : ∀ j, w 409 j = w0 409 j := fun j => h 409 j (by omega) (by omega)
  simp only [rankM, f_X11_keyOf_400, bnd, a1, a2, a3, a4, a5, a6]
theorem sell_rng {u : tV} (hI4 : ∀ o (_ : Nat), o ≤ 8 → Rg (u (60 + o) 4) 0 99) (hI7 : ∀ o p, o ≤ 8 → Rg (u (60 + o + 10) p) 0 99) {o : Nat} (ho : o ≤ 8) (pr : Int32) : ∀ (n : Nat) (y : Int32), 0 ≤ (g_X3_sellers_2 u (60 + o) pr n y).toInt ∧ (g_X3_sellers_2 u (60 + o) pr n y).toInt ≤ 99 := by
  intro n
  induction n with
  | zero => intro y; exact (by decide : 0 ≤ (0 : Int32).toInt ∧ (0 : Int32).toInt ≤ 99)
  | succ n ih =>
    intro y
    show 0 ≤ (b_X3_sellers_2 u (60 + o) pr (g_X3_sellers_2 u (60 + o) pr n) y).toInt ∧ (b_X3_sellers_2 u (60 + o) pr (g_X3_sellers_2 u (60 + o) pr n) y).toInt ≤ 99
    simp only [b_X3_sellers_2, bnd]
    have a := hI4 o 0 ho
    have b := hI7 o y.toNatClampNeg ho
    repeat' split
    all_goals first | exact a | exact b | exact ih _
theorem many_ot {u w : tV} {k : Nat} {od : Int32} (hO : OT u w k od) (pr : Int32) : f_X3_sellers u k pr = f_X11_manyBy_400 w od pr := by
  rcases hO with ⟨a, rfl, c, d, e⟩ | ⟨o, a, b, rfl, d⟩
  · have z0 : (0 : Int32).toInt = 0 := rfl
    have h : (100000 : Nat) = 99999 + 1 := rfl
    rw [f_X3_sellers, h]
    show b_X3_sellers_2 u 68 pr (g_X3_sellers_2 u 68 pr 99999) 0 = _
    generalize g_X3_sellers_2 u 68 pr 99999 = rc
    simp only [b_X3_sellers_2, f_X11_manyBy_400, bnd, c, d]
    rw [if_pos (by decide), if_neg (fun z => by have := i_le z; omega)]
  · exact many_eq a b d pr
theorem many_rng {u w : tV} (hI4 : ∀ o (_ : Nat), o ≤ 8 → Rg (u (60 + o) 4) 0 99) (hI7 : ∀ o p, o ≤ 8 → Rg (u (60 + o + 10) p) 0 99) {k : Nat} {od : Int32} (hO : OT u w k od) (pr : Int32) : 0 ≤ (f_X3_sellers u k pr).toInt ∧ (f_X3_sellers u k pr).toInt ≤ 99 := by
  rw [f_X3_sellers]
  rcases hO with ⟨a, rfl, c, d, e⟩ | ⟨o, a, b, rfl, d⟩
  · exact sell_rng hI4 hI7 (o := 8) (by omega) pr 100000 0
  · exact sell_rng hI4 hI7 (o := o) (by omega) pr 100000 0
def P1 (u : tV) (t : Nat) : Prop := (u (100 + t) 0).toInt ≤ 1 ∧ (u (100 + t) 7 = 1 ∨ u (100 + t) 7 = 2)
def P2 (u : tV) (t : Nat) : Prop := u (100 + t) 0 = 2 ∧ u (100 + t) 7 = 1
/-- the row so far: of the ships below s -/
def LSq (q s sz : Nat) (rk : Nat → Int32) (u0 w0 u w : tV) : Prop := FQq q u0 u ∧ FT w0 w ∧ u q 2 = Int32.ofNat sz ∧ w 400 44 = Int32.ofNat sz ∧ sz ≤ cKa (fun i => u0 (100 + i) 0) s ∧ (∀ i, i < sz → ENT q (fun t => t < s ∧ P1 u0 t) rk u w i) ∧ (∀ i j, i < j → j < sz → u (q + 2) i ≠ u (q + 2) j)
theorem cKa_n (f : Nat → Int32) (n : Nat) (h : ¬ (f n).toInt ≤ 1) : cKa f (n + 1) = cKa f n := by
  show cKa f n + (if (f n).toInt ≤ 1 then 1 else 0) = _
  rw [if_neg h]; rfl
theorem cKb_n (f : Nat → Int32) (n : Nat) (h : ¬ (f n).toInt = 2) : cKb f (n + 1) = cKb f n := by
  show cKb f n + (if (f n).toInt = 2 then 1 else 0) = _
  rw [if_neg h]; rfl
theorem LSq.skip {q s sz : Nat} {rk : Nat → Int32} {u0 w0 u w : tV} (h : LSq q s sz rk u0 w0 u w) : LSq q (s + 1) sz rk u0 w0 u w := by
  obtain ⟨a, b, c, d, e, f, g⟩ := h
  refine ⟨a, b, c, d, Nat.le_trans e (cKa_up _ (by omega)), fun i hi => ?_, g⟩
  obtain ⟨t, t1, t2, t3, t4⟩ := f i hi
  exact ⟨t, ⟨by omega, t1.2⟩, t2, t3, t4⟩
theorem ln7_20 (k n : Nat) (y : Int32) (u : tV) : g_X5_line_20_1_7 k (n + 1) y u = b_X5_line_20_1_7 k (g_X5_line_20_1_7 k n) (g_X5_line_20_1_83 k n) y u := rfl
theorem ln83_20 (k n : Nat) (y : Int32) (u : tV) : g_X5_line_20_1_83 k (n + 1) y u = b_X5_line_20_1_83 k (g_X5_line_20_1_83 k n) y u := rfl
theorem ins_20 {s sz : Nat} {rk : Int32} {u : tV} (hz : u 20 2 = Int32.ofNat sz) (h20 : sz < 20) : f_X5_insert_20 u (Int32.ofNat s) rk = insC 20 (Int32.ofNat s) rk sz u := by
  have z20 : (20 : Int32).toInt = 20 := rfl
  rw [f_X5_insert_20, bnd_eq, hz, if_pos (Int32.lt_iff_toInt_lt.mpr (by rw [z20, ofNat_int (by omega)]; omega))]
  exact insC_20 _ _ sz 100000 u (by omega) (by omega)
theorem line1_20 {u0 w0 : tV} {k cnt : Nat} {od : Int32} (hW : RelW u0 w0) (hS : WS 5000 u0) (hO : OT u0 w0 k od) (hc : u0 1 3 = Int32.ofNat cnt) (hc20 : cnt ≤ 20) :
    ∀ (d s n n2 sz : Nat) (u w : tV) (z : Int32), s + d = cnt → d < n → 25 * d < n2 → LSq 20 s sz (rankM w0 od) u0 w0 u w →
      ∃ (m m2 sz1 : Nat) (u1 w1 : tV), n ≤ m + d + 1 ∧ n2 ≤ m2 + 25 * d + 1 ∧ LSq 20 cnt sz1 (rankM w0 od) u0 w0 u1 w1 ∧
        g_X5_line_20_1_7 k n (Int32.ofNat s) u = g_X5_line_20_1_83 k m 0 (up2 u1 20 2 (if f_X3_sellers u1 k (u1 1 6) < Int32.ofNat sz1 then f_X3_sellers u1 k (u1 1 6) else Int32.ofNat sz1)) ∧
        g_X11_findTurns_400 od n2 0 (Int32.ofNat s) z w = g_X11_findTurns_400_149 od m2 0 (up2 w1 400 44 (if f_X11_manyBy_400 w1 od (w1 400 26) ≤ Int32.ofNat sz1 then f_X11_manyBy_400 w1 od (w1 400 26) else Int32.ofNat sz1)) := by
  intro d
  induction d with
  | zero =>
    intro s n n2 sz u w z hsd hn hn2 h
    obtain ⟨n, rfl⟩ : ∃ k, n = k + 1 := ⟨n - 1, by omega⟩
    obtain ⟨n2, rfl⟩ : ∃ k, n2 = k + 1 := ⟨n2 - 1, by omega⟩
    have hs : s = cnt := by omega
    subst hs
    obtain ⟨a, b, c, e, f⟩ := id h
    have c1 : u 1 3 = Int32.ofNat s := (a 1 3 (by omega) (by omega) (by omega)).trans hc
    have c2 : w 400 1 = Int32.ofNat s := (b 400 1 (by omega) (by omega)).trans (hW.n.symm.trans hc)
    refine ⟨n, n2, sz, u, w, by omega, by omega, h, ?_, ?_⟩
    · rw [ln7_20]
      simp only [b_X5_line_20_1_7, bnd, c1, c]
      rw [if_pos (i_refl _)]
    · rw [ft_s0]
      simp only [b_X11_findTurns_400_7, bnd, c2, e]
      rw [if_pos (i_refl _)]
      split <;> rfl
  | succ d ih =>
    intro s n n2 sz u w z hsd hn hn2 h
    obtain ⟨n, rfl⟩ : ∃ k, n = k + 1 := ⟨n - 1, by omega⟩
    obtain ⟨n2, rfl⟩ : ∃ k, n2 = k + 1 := ⟨n2 - 1, by omega⟩
    obtain ⟨a, b, c, e, f, g, i⟩ := id h
    have hq : 20 = 20 ∨ 20 = 21 := by decide
    have hW1 : RelW u w := RelW.line hq hW a b
    have hO1 : OT u w k od := OT.line hq hO a b
    have hs20 : s < 20 := by omega
    have c1 : u 1 3 = Int32.ofNat cnt := (a 1 3 (by omega) (by omega) (by omega)).trans hc
    have c2 : w 400 1 = Int32.ofNat cnt := (b 400 1 (by omega) (by omega)).trans (hW.n.symm.trans hc)
    have hlt : ¬ Int32.ofNat cnt ≤ Int32.ofNat s := fun q => by
      have := i_le q
      rw [ofNat_int (by omega), ofNat_int (by omega)] at this
      omega
    have k0 : u (100 + s) 0 = u0 (100 + s) 0 := a _ _ (by omega) (by omega) (by omega)
    have k7 : u (100 + s) 7 = u0 (100 + s) 7 := a _ _ (by omega) (by omega) (by omega)
    have m0 : w 403 s = u (100 + s) 0 := (hW1.ship s 0 hs20 (by omega)).symm
    have m7 : w 410 s = u (100 + s) 7 := (hW1.ship s 7 hs20 (by omega)).symm
    rw [ln7_20, ft_s0]
    simp only [b_X5_line_20_1_7, b_X11_findTurns_400_7, f_X7_isInPort, bnd, c1, c2, e, clampN (n := s) (by omega), m0, m7, ofNat_succ (n := s) (by omega)]
    rw [if_neg hlt, if_neg hlt]
    have z1 : (1 : Int32).toInt = 1 := rfl
    have skip := fun (zz : Int32) => ih (s + 1) n n2 sz u w zz (by omega) (by omega) (by omega) h.skip
    have fix : ∀ zz : Int32, (∃ (m m2 sz1 : Nat) (u1 w1 : tV), n ≤ m + d + 1 ∧ n2 ≤ m2 + 25 * d + 1 ∧ LSq 20 cnt sz1 (rankM w0 od) u0 w0 u1 w1 ∧
        g_X5_line_20_1_7 k n (Int32.ofNat (s + 1)) u = g_X5_line_20_1_83 k m 0 (up2 u1 20 2 (if f_X3_sellers u1 k (u1 1 6) < Int32.ofNat sz1 then f_X3_sellers u1 k (u1 1 6) else Int32.ofNat sz1)) ∧
        g_X11_findTurns_400 od n2 0 (Int32.ofNat (s + 1)) zz w = g_X11_findTurns_400_149 od m2 0 (up2 w1 400 44 (if f_X11_manyBy_400 w1 od (w1 400 26) ≤ Int32.ofNat sz1 then f_X11_manyBy_400 w1 od (w1 400 26) else Int32.ofNat sz1))) →
        (∃ (m m2 sz1 : Nat) (u1 w1 : tV), n + 1 ≤ m + (d + 1) + 1 ∧ n2 + 1 ≤ m2 + 25 * (d + 1) + 1 ∧ LSq 20 cnt sz1 (rankM w0 od) u0 w0 u1 w1 ∧
        g_X5_line_20_1_7 k n (Int32.ofNat (s + 1)) u = g_X5_line_20_1_83 k m 0 (up2 u1 20 2 (if f_X3_sellers u1 k (u1 1 6) < Int32.ofNat sz1 then f_X3_sellers u1 k (u1 1 6) else Int32.ofNat sz1)) ∧
        g_X11_findTurns_400 od n2 0 (Int32.ofNat (s + 1)) zz w = g_X11_findTurns_400_149 od m2 0 (up2 w1 400 44 (if f_X11_manyBy_400 w1 od (w1 400 26) ≤ Int32.ofNat sz1 then f_X11_manyBy_400 w1 od (w1 400 26) else Int32.ofNat sz1))) := by
      intro zz ⟨m, m2, sz1, u1, w1, h1, h2, h3, h4, h5⟩
      exact ⟨m, m2, sz1, u1, w1, by omega, by omega, h3, h4, h5⟩
    by_cases q1 : (1 : Int32) < u (100 + s) 0
    · rw [if_pos q1, if_pos q1]
      exact fix 0 (skip 0)
    · have q1' := i_nlt q1
      rw [z1] at q1'
      rw [if_neg q1, if_neg q1]
      by_cases q2 : u (100 + s) 7 = 1 ∨ u (100 + s) 7 = 2
      · have e1 : (if u (100 + s) 7 = 1 then (1 : Int32) else if u (100 + s) 7 = 2 then 1 else 0) = 1 := by
          rcases q2 with q | q
          · rw [if_pos q]
          · by_cases q' : u (100 + s) 7 = 1
            · rw [if_pos q']
            · rw [if_neg q', if_pos q]
        rw [e1, if_neg (by decide)]
        have e2 : (if u (100 + s) 7 = 1 then g_X11_findTurns_400 od n2 1 (Int32.ofNat s) (Int32.ofNat sz) w else if u (100 + s) 7 = 2 then g_X11_findTurns_400 od n2 1 (Int32.ofNat s) (Int32.ofNat sz) w else g_X11_findTurns_400 od n2 0 (Int32.ofNat (s + 1)) 0 w) = g_X11_findTurns_400 od n2 1 (Int32.ofNat s) (Int32.ofNat sz) w := by
          rcases q2 with q | q
          · rw [if_pos q]
          · by_cases q' : u (100 + s) 7 = 1
            · rw [if_pos q']
            · rw [if_neg q', if_pos q]
        rw [e2]
        have hk1 : (u0 (100 + s) 0).toInt ≤ 1 := by rw [← k0]; exact q1'
        have hka := cKa_s (fun i => u0 (100 + i) 0) s hk1
        have hkl := cKa_le (fun i => u0 (100 + i) 0) s
        have hP1 : P1 u0 s := ⟨hk1, by rw [← k7]; exact q2⟩
        rw [rank_eq hW1 hO1 hs20, rankM_fr b]
        rw [ins_20 c (by omega)]
        obtain ⟨n3, h31, h32⟩ := insM_eq od (Int32.ofNat s) sz n2 w (by omega) (by omega)
        rw [h32, ofNat_succ (by omega)]
        have hIR := ins_rel hq (ok := fun t => t < s ∧ P1 u0 t) (rk := rankM w0 od) (od := od) (s := s) (sz := sz) hs20 (fun t ht => ⟨by omega, by omega⟩) sz u w (Nat.le_refl _)
          (fun t ht => by
            rw [← rankM_fr b, ← rankM_fr b]
            exact ahead_rank hs20 ht.1 (key_rng hW1 ⟨fun x hx => by rw [a _ _ (by omega) (by omega) (by omega), a _ _ (by omega) (by omega) (by omega), a _ _ (by omega) (by omega) (by omega)]; exact hS.1 x hx, by rw [a _ _ (by omega) (by omega) (by omega)]; exact hS.2⟩ hO1 hs20) (key_rng hW1 ⟨fun x hx => by rw [a _ _ (by omega) (by omega) (by omega), a _ _ (by omega) (by omega) (by omega), a _ _ (by omega) (by omega) (by omega)]; exact hS.1 x hx, by rw [a _ _ (by omega) (by omega) (by omega)]; exact hS.2⟩ hO1 (by omega)))
          (fun x hx hne => g x (by omega)) (fun x y hxy hy _ hne => i x y hxy (by omega))
        obtain ⟨r1, r2, r3, r4, r5, r6⟩ := hIR
        have hLS : LSq 20 (s + 1) (sz + 1) (rankM w0 od) u0 w0 (insC 20 (Int32.ofNat s) (rankM w0 od s) sz u) (insM od (Int32.ofNat s) sz w) := by
          refine ⟨a.tr r5, b.tr r6, ?_, ?_, by omega, fun x hx => ?_, fun x y hxy hy => r2 x y hxy (by omega)⟩
          · rw [r3, c, ofNat_succ (by omega)]
          · rw [r4, e, ofNat_succ (by omega)]
          · obtain ⟨t, t1, t2, t3, t4⟩ := r1 x (by omega)
            refine ⟨t, ?_, t2, t3, t4⟩
            rcases t1 with t1 | t1
            · exact ⟨by omega, t1.2⟩
            · subst t1; exact ⟨by omega, hP1⟩
        obtain ⟨m, m2, sz1, u1, w1, h1, h2, h3, h4, h5⟩ := ih (s + 1) n n3 (sz + 1) _ _ 0 (by omega) (by omega) (by omega) hLS
        exact ⟨m, m2, sz1, u1, w1, by omega, by omega, h3, h4, h5⟩
      · have q3 : ¬ u (100 + s) 7 = 1 := fun z => q2 (Or.inl z)
        have q4 : ¬ u (100 + s) 7 = 2 := fun z => q2 (Or.inr z)
        rw [if_neg q3, if_neg q4, if_pos rfl, if_neg q3, if_neg q4]
        exact fix 0 (skip 0)
theorem ln7_21 (k n : Nat) (y : Int32) (u : tV) : g_X5_line_21_1_7 k (n + 1) y u = b_X5_line_21_1_7 k (g_X5_line_21_1_7 k n) (g_X5_line_21_1_83 k n) y u := rfl
theorem ln83_21 (k n : Nat) (y : Int32) (u : tV) : g_X5_line_21_1_83 k (n + 1) y u = b_X5_line_21_1_83 k (g_X5_line_21_1_83 k n) y u := rfl
theorem ins_21 {s sz : Nat} {rk : Int32} {u : tV} (hz : u 21 2 = Int32.ofNat sz) (h20 : sz < 20) : f_X5_insert_21 u (Int32.ofNat s) rk = insC 21 (Int32.ofNat s) rk sz u := by
  have z20 : (20 : Int32).toInt = 20 := rfl
  rw [f_X5_insert_21, bnd_eq, hz, if_pos (Int32.lt_iff_toInt_lt.mpr (by rw [z20, ofNat_int (by omega)]; omega))]
  exact insC_21 _ _ sz 100000 u (by omega) (by omega)
theorem line1_21 {u0 w0 : tV} {k cnt : Nat} {od : Int32} (hW : RelW u0 w0) (hS : WS 5000 u0) (hO : OT u0 w0 k od) (hc : u0 1 3 = Int32.ofNat cnt) (hc20 : cnt ≤ 20) :
    ∀ (d s n n2 sz : Nat) (u w : tV) (z : Int32), s + d = cnt → d < n → 25 * d < n2 → LSq 21 s sz (rankM w0 od) u0 w0 u w →
      ∃ (m m2 sz1 : Nat) (u1 w1 : tV), n ≤ m + d + 1 ∧ n2 ≤ m2 + 25 * d + 1 ∧ LSq 21 cnt sz1 (rankM w0 od) u0 w0 u1 w1 ∧
        g_X5_line_21_1_7 k n (Int32.ofNat s) u = g_X5_line_21_1_83 k m 0 (up2 u1 21 2 (if f_X3_sellers u1 k (u1 1 6) < Int32.ofNat sz1 then f_X3_sellers u1 k (u1 1 6) else Int32.ofNat sz1)) ∧
        g_X11_findTurns_400 od n2 0 (Int32.ofNat s) z w = g_X11_findTurns_400_149 od m2 0 (up2 w1 400 44 (if f_X11_manyBy_400 w1 od (w1 400 26) ≤ Int32.ofNat sz1 then f_X11_manyBy_400 w1 od (w1 400 26) else Int32.ofNat sz1)) := by
  intro d
  induction d with
  | zero =>
    intro s n n2 sz u w z hsd hn hn2 h
    obtain ⟨n, rfl⟩ : ∃ k, n = k + 1 := ⟨n - 1, by omega⟩
    obtain ⟨n2, rfl⟩ : ∃ k, n2 = k + 1 := ⟨n2 - 1, by omega⟩
    have hs : s = cnt := by omega
    subst hs
    obtain ⟨a, b, c, e, f⟩ := id h
    have c1 : u 1 3 = Int32.ofNat s := (a 1 3 (by omega) (by omega) (by omega)).trans hc
    have c2 : w 400 1 = Int32.ofNat s := (b 400 1 (by omega) (by omega)).trans (hW.n.symm.trans hc)
    refine ⟨n, n2, sz, u, w, by omega, by omega, h, ?_, ?_⟩
    · rw [ln7_21]
      simp only [b_X5_line_21_1_7, bnd, c1, c]
      rw [if_pos (i_refl _)]
    · rw [ft_s0]
      simp only [b_X11_findTurns_400_7, bnd, c2, e]
      rw [if_pos (i_refl _)]
      split <;> rfl
  | succ d ih =>
    intro s n n2 sz u w z hsd hn hn2 h
    obtain ⟨n, rfl⟩ : ∃ k, n = k + 1 := ⟨n - 1, by omega⟩
    obtain ⟨n2, rfl⟩ : ∃ k, n2 = k + 1 := ⟨n2 - 1, by omega⟩
    obtain ⟨a, b, c, e, f, g, i⟩ := id h
    have hq : 21 = 20 ∨ 21 = 21 := by decide
    have hW1 : RelW u w := RelW.line hq hW a b
    have hO1 : OT u w k od := OT.line hq hO a b
    have hs20 : s < 20 := by omega
    have c1 : u 1 3 = Int32.ofNat cnt := (a 1 3 (by omega) (by omega) (by omega)).trans hc
    have c2 : w 400 1 = Int32.ofNat cnt := (b 400 1 (by omega) (by omega)).trans (hW.n.symm.trans hc)
    have hlt : ¬ Int32.ofNat cnt ≤ Int32.ofNat s := fun q => by
      have := i_le q
      rw [ofNat_int (by omega), ofNat_int (by omega)] at this
      omega
    have k0 : u (100 + s) 0 = u0 (100 + s) 0 := a _ _ (by omega) (by omega) (by omega)
    have k7 : u (100 + s) 7 = u0 (100 + s) 7 := a _ _ (by omega) (by omega) (by omega)
    have m0 : w 403 s = u (100 + s) 0 := (hW1.ship s 0 hs20 (by omega)).symm
    have m7 : w 410 s = u (100 + s) 7 := (hW1.ship s 7 hs20 (by omega)).symm
    rw [ln7_21, ft_s0]
    simp only [b_X5_line_21_1_7, b_X11_findTurns_400_7, f_X7_isInPort, bnd, c1, c2, e, clampN (n := s) (by omega), m0, m7, ofNat_succ (n := s) (by omega)]
    rw [if_neg hlt, if_neg hlt]
    have z1 : (1 : Int32).toInt = 1 := rfl
    have skip := fun (zz : Int32) => ih (s + 1) n n2 sz u w zz (by omega) (by omega) (by omega) h.skip
    have fix : ∀ zz : Int32, (∃ (m m2 sz1 : Nat) (u1 w1 : tV), n ≤ m + d + 1 ∧ n2 ≤ m2 + 25 * d + 1 ∧ LSq 21 cnt sz1 (rankM w0 od) u0 w0 u1 w1 ∧
        g_X5_line_21_1_7 k n (Int32.ofNat (s + 1)) u = g_X5_line_21_1_83 k m 0 (up2 u1 21 2 (if f_X3_sellers u1 k (u1 1 6) < Int32.ofNat sz1 then f_X3_sellers u1 k (u1 1 6) else Int32.ofNat sz1)) ∧
        g_X11_findTurns_400 od n2 0 (Int32.ofNat (s + 1)) zz w = g_X11_findTurns_400_149 od m2 0 (up2 w1 400 44 (if f_X11_manyBy_400 w1 od (w1 400 26) ≤ Int32.ofNat sz1 then f_X11_manyBy_400 w1 od (w1 400 26) else Int32.ofNat sz1))) →
        (∃ (m m2 sz1 : Nat) (u1 w1 : tV), n + 1 ≤ m + (d + 1) + 1 ∧ n2 + 1 ≤ m2 + 25 * (d + 1) + 1 ∧ LSq 21 cnt sz1 (rankM w0 od) u0 w0 u1 w1 ∧
        g_X5_line_21_1_7 k n (Int32.ofNat (s + 1)) u = g_X5_line_21_1_83 k m 0 (up2 u1 21 2 (if f_X3_sellers u1 k (u1 1 6) < Int32.ofNat sz1 then f_X3_sellers u1 k (u1 1 6) else Int32.ofNat sz1)) ∧
        g_X11_findTurns_400 od n2 0 (Int32.ofNat (s + 1)) zz w = g_X11_findTurns_400_149 od m2 0 (up2 w1 400 44 (if f_X11_manyBy_400 w1 od (w1 400 26) ≤ Int32.ofNat sz1 then f_X11_manyBy_400 w1 od (w1 400 26) else Int32.ofNat sz1))) := by
      intro zz ⟨m, m2, sz1, u1, w1, h1, h2, h3, h4, h5⟩
      exact ⟨m, m2, sz1, u1, w1, by omega, by omega, h3, h4, h5⟩
    by_cases q1 : (1 : Int32) < u (100 + s) 0
    · rw [if_pos q1, if_pos q1]
      exact fix 0 (skip 0)
    · have q1' := i_nlt q1
      rw [z1] at q1'
      rw [if_neg q1, if_neg q1]
      by_cases q2 : u (100 + s) 7 = 1 ∨ u (100 + s) 7 = 2
      · have e1 : (if u (100 + s) 7 = 1 then (1 : Int32) else if u (100 + s) 7 = 2 then 1 else 0) = 1 := by
          rcases q2 with q | q
          · rw [if_pos q]
          · by_cases q' : u (100 + s) 7 = 1
            · rw [if_pos q']
            · rw [if_neg q', if_pos q]
        rw [e1, if_neg (by decide)]
        have e2 : (if u (100 + s) 7 = 1 then g_X11_findTurns_400 od n2 1 (Int32.ofNat s) (Int32.ofNat sz) w else if u (100 + s) 7 = 2 then g_X11_findTurns_400 od n2 1 (Int32.ofNat s) (Int32.ofNat sz) w else g_X11_findTurns_400 od n2 0 (Int32.ofNat (s + 1)) 0 w) = g_X11_findTurns_400 od n2 1 (Int32.ofNat s) (Int32.ofNat sz) w := by
          rcases q2 with q | q
          · rw [if_pos q]
          · by_cases q' : u (100 + s) 7 = 1
            · rw [if_pos q']
            · rw [if_neg q', if_pos q]
        rw [e2]
        have hk1 : (u0 (100 + s) 0).toInt ≤ 1 := by rw [← k0]; exact q1'
        have hka := cKa_s (fun i => u0 (100 + i) 0) s hk1
        have hkl := cKa_le (fun i => u0 (100 + i) 0) s
        have hP1 : P1 u0 s := ⟨hk1, by rw [← k7]; exact q2⟩
        rw [rank_eq hW1 hO1 hs20, rankM_fr b]
        rw [ins_21 c (by omega)]
        obtain ⟨n3, h31, h32⟩ := insM_eq od (Int32.ofNat s) sz n2 w (by omega) (by omega)
        rw [h32, ofNat_succ (by omega)]
        have hIR := ins_rel hq (ok := fun t => t < s ∧ P1 u0 t) (rk := rankM w0 od) (od := od) (s := s) (sz := sz) hs20 (fun t ht => ⟨by omega, by omega⟩) sz u w (Nat.le_refl _)
          (fun t ht => by
            rw [← rankM_fr b, ← rankM_fr b]
            exact ahead_rank hs20 ht.1 (key_rng hW1 ⟨fun x hx => by rw [a _ _ (by omega) (by omega) (by omega), a _ _ (by omega) (by omega) (by omega), a _ _ (by omega) (by omega) (by omega)]; exact hS.1 x hx, by rw [a _ _ (by omega) (by omega) (by omega)]; exact hS.2⟩ hO1 hs20) (key_rng hW1 ⟨fun x hx => by rw [a _ _ (by omega) (by omega) (by omega), a _ _ (by omega) (by omega) (by omega), a _ _ (by omega) (by omega) (by omega)]; exact hS.1 x hx, by rw [a _ _ (by omega) (by omega) (by omega)]; exact hS.2⟩ hO1 (by omega)))
          (fun x hx hne => g x (by omega)) (fun x y hxy hy _ hne => i x y hxy (by omega))
        obtain ⟨r1, r2, r3, r4, r5, r6⟩ := hIR
        have hLS : LSq 21 (s + 1) (sz + 1) (rankM w0 od) u0 w0 (insC 21 (Int32.ofNat s) (rankM w0 od s) sz u) (insM od (Int32.ofNat s) sz w) := by
          refine ⟨a.tr r5, b.tr r6, ?_, ?_, by omega, fun x hx => ?_, fun x y hxy hy => r2 x y hxy (by omega)⟩
          · rw [r3, c, ofNat_succ (by omega)]
          · rw [r4, e, ofNat_succ (by omega)]
          · obtain ⟨t, t1, t2, t3, t4⟩ := r1 x (by omega)
            refine ⟨t, ?_, t2, t3, t4⟩
            rcases t1 with t1 | t1
            · exact ⟨by omega, t1.2⟩
            · subst t1; exact ⟨by omega, hP1⟩
        obtain ⟨m, m2, sz1, u1, w1, h1, h2, h3, h4, h5⟩ := ih (s + 1) n n3 (sz + 1) _ _ 0 (by omega) (by omega) (by omega) hLS
        exact ⟨m, m2, sz1, u1, w1, by omega, by omega, h3, h4, h5⟩
      · have q3 : ¬ u (100 + s) 7 = 1 := fun z => q2 (Or.inl z)
        have q4 : ¬ u (100 + s) 7 = 2 := fun z => q2 (Or.inr z)
        rw [if_neg q3, if_neg q4, if_pos rfl, if_neg q3, if_neg q4]
        exact fix 0 (skip 0)

/-- the row with those that have a turn of their own -/
def LG (q s sz cnt : Nat) (u0 w0 u w : tV) : Prop := FQq q u0 u ∧ FT w0 w ∧ u q 2 = Int32.ofNat sz ∧ w 400 44 = Int32.ofNat sz ∧ sz ≤ cKa (fun i => u0 (100 + i) 0) cnt + cKb (fun i => u0 (100 + i) 0) s ∧ (∀ i, i < sz → ∃ t : Nat, t < cnt ∧ (P1 u0 t ∨ (P2 u0 t ∧ t < s)) ∧ u (q + 2) i = Int32.ofNat t ∧ w 446 i = Int32.ofNat t) ∧ (∀ i j, i < j → j < sz → u (q + 2) i ≠ u (q + 2) j)
theorem le_max (x : Int32) : x ≤ 2147483647 := Int32.le_iff_toInt_le.mpr (by
  have z : (2147483647 : Int32).toInt = 2147483647 := rfl
  have := (rg_any x).2
  rw [z]; exact this)
theorem insC_max (q : Nat) (s : Int32) (m : Nat) (u : tV) : insC q s 2147483647 m u = up2 (up2 (up2 u (q + 2) m s) (q + 4) m 2147483647) q 2 (u q 2 + 1) := by
  cases m with
  | zero => rfl
  | succ m => simp only [insC]; rw [if_pos (le_max _)]
theorem LG.skip {q s sz cnt : Nat} {u0 w0 u w : tV} (h : LG q s sz cnt u0 w0 u w) : LG q (s + 1) sz cnt u0 w0 u w := by
  obtain ⟨a, b, c, d, e, f, g⟩ := h
  refine ⟨a, b, c, d, Nat.le_trans e (Nat.add_le_add_left (cKb_up _ (by omega)) _), fun i hi => ?_, g⟩
  obtain ⟨t, t1, t2, t3⟩ := f i hi
  exact ⟨t, t1, t2.imp id (fun z => ⟨z.1, by omega⟩), t3⟩
theorem LG.push {q s sz cnt : Nat} (hq : q = 20 ∨ q = 21) {u0 w0 u w : tV} (h : LG q s sz cnt u0 w0 u w) (hs : s < cnt) (hc : cnt ≤ 20) (hp : P2 u0 s) : LG q (s + 1) (sz + 1) cnt u0 w0 (up2 (up2 (up2 u (q + 2) sz (Int32.ofNat s)) (q + 4) sz 2147483647) q 2 (u q 2 + 1)) (up2 (up2 w 446 sz (Int32.ofNat s)) 400 44 (w 400 44 + 1)) := by
  obtain ⟨a, b, c, d, e, f, g⟩ := h
  have z2 : (2 : Int32).toInt = 2 := rfl
  have hkb := cKb_s (fun i => u0 (100 + i) 0) s (by show (u0 (100 + s) 0).toInt = 2; rw [hp.1, z2])
  have hkab := cKab (fun i => u0 (100 + i) 0) cnt
  have hkbu := cKb_up (fun i => u0 (100 + i) 0) (a := s + 1) (b := cnt) (by omega)
  have eC : ∀ i, up2 (up2 (up2 u (q + 2) sz (Int32.ofNat s)) (q + 4) sz 2147483647) q 2 (u q 2 + 1) (q + 2) i = if i = sz then Int32.ofNat s else u (q + 2) i := fun i => by
    rw [up2_n _ _ (by omega), up2_n _ _ (by omega)]
    by_cases z : i = sz
    · rw [if_pos z, z, up2_s]
    · rw [if_neg z, up2_n _ _ (by omega)]
  have eT : ∀ i, up2 (up2 w 446 sz (Int32.ofNat s)) 400 44 (w 400 44 + 1) 446 i = if i = sz then Int32.ofNat s else w 446 i := fun i => by
    rw [up2_n _ _ (by omega)]
    by_cases z : i = sz
    · rw [if_pos z, z, up2_s]
    · rw [if_neg z, up2_n _ _ (by omega)]
  have hne : ∀ t, (P1 u0 t ∨ (P2 u0 t ∧ t < s)) → t ≠ s := fun t ht z => by
    rcases ht with ht | ht
    · have := ht.1
      rw [z, hp.1, z2] at this
      omega
    · omega
  refine ⟨fun x j p1 p2 p3 => ?_, fun x j p1 p2 => ?_, ?_, ?_, by omega, fun i hi => ?_, fun i j hij hj => ?_⟩
  · rw [up2_n _ _ (by omega), up2_n _ _ (by omega), up2_n _ _ (by omega)]; exact a x j p1 p2 p3
  · rw [up2_n _ _ p2, up2_n _ _ (by omega)]; exact b x j p1 p2
  · rw [up2_s, c, ofNat_succ (by omega)]
  · rw [up2_s, d, ofNat_succ (by omega)]
  · rw [eC, eT]
    by_cases z : i = sz
    · rw [if_pos z, if_pos z]
      exact ⟨s, hs, Or.inr ⟨hp, by omega⟩, rfl, rfl⟩
    · rw [if_neg z, if_neg z]
      obtain ⟨t, t1, t2, t3⟩ := f i (by omega)
      exact ⟨t, t1, t2.imp id (fun z => ⟨z.1, by omega⟩), t3⟩
  · rw [eC, eC]
    by_cases z1 : j = sz
    · rw [if_pos z1, if_neg (by omega)]
      obtain ⟨t, t1, t2, t3, -⟩ := f i (by omega)
      rw [t3]
      intro e9
      exact hne t t2 (ofNat_inj (by omega) (by omega) e9)
    · rw [if_neg z1, if_neg (by omega)]
      exact g i j hij (by omega)
theorem ft149_s (od : Int32) (n : Nat) (y : Int32) (w : tV) : g_X11_findTurns_400_149 od (n + 1) y w = b_X11_findTurns_400_149 od (g_X11_findTurns_400_149 od n) y w := rfl
theorem line2_20 {u0 w0 : tV} {k cnt : Nat} {od : Int32} (hW : RelW u0 w0) (hG : ∀ t, t < 20 → u0 (100 + t) 0 = 2 → u0 (100 + t) 7 ≠ 2) (hc : u0 1 3 = Int32.ofNat cnt) (hc20 : cnt ≤ 20) :
    ∀ (d s n n2 sz : Nat) (u w : tV), s + d = cnt → d < n → d < n2 → LG 20 s sz cnt u0 w0 u w →
      ∃ sz1, LG 20 cnt sz1 cnt u0 w0 (g_X5_line_20_1_83 k n (Int32.ofNat s) u) (g_X11_findTurns_400_149 od n2 (Int32.ofNat s) w) := by
  intro d
  induction d with
  | zero =>
    intro s n n2 sz u w hsd hn hn2 h
    obtain ⟨n, rfl⟩ : ∃ k, n = k + 1 := ⟨n - 1, by omega⟩
    obtain ⟨n2, rfl⟩ : ∃ k, n2 = k + 1 := ⟨n2 - 1, by omega⟩
    have hs : s = cnt := by omega
    subst hs
    obtain ⟨a, b, c⟩ := id h
    have c1 : u 1 3 = Int32.ofNat s := (a 1 3 (by omega) (by omega) (by omega)).trans hc
    have c2 : w 400 1 = Int32.ofNat s := (b 400 1 (by omega) (by omega)).trans (hW.n.symm.trans hc)
    refine ⟨sz, ?_⟩
    rw [ln83_20, ft149_s]
    simp only [b_X5_line_20_1_83, b_X11_findTurns_400_149, bnd, c1, c2]
    rw [if_pos (i_refl _), if_pos (i_refl _)]
    exact h
  | succ d ih =>
    intro s n n2 sz u w hsd hn hn2 h
    obtain ⟨n, rfl⟩ : ∃ k, n = k + 1 := ⟨n - 1, by omega⟩
    obtain ⟨n2, rfl⟩ : ∃ k, n2 = k + 1 := ⟨n2 - 1, by omega⟩
    obtain ⟨a, b, c, e, f, g, i⟩ := id h
    have hq : 20 = 20 ∨ 20 = 21 := by decide
    have hW1 : RelW u w := RelW.line hq hW a b
    have hs20 : s < 20 := by omega
    have c1 : u 1 3 = Int32.ofNat cnt := (a 1 3 (by omega) (by omega) (by omega)).trans hc
    have c2 : w 400 1 = Int32.ofNat cnt := (b 400 1 (by omega) (by omega)).trans (hW.n.symm.trans hc)
    have hlt : ¬ Int32.ofNat cnt ≤ Int32.ofNat s := fun q => by
      have := i_le q
      rw [ofNat_int (by omega), ofNat_int (by omega)] at this
      omega
    have k0 : u (100 + s) 0 = u0 (100 + s) 0 := a _ _ (by omega) (by omega) (by omega)
    have k7 : u (100 + s) 7 = u0 (100 + s) 7 := a _ _ (by omega) (by omega) (by omega)
    have m0 : w 403 s = u (100 + s) 0 := (hW1.ship s 0 hs20 (by omega)).symm
    have m7 : w 410 s = u (100 + s) 7 := (hW1.ship s 7 hs20 (by omega)).symm
    rw [ln83_20, ft149_s]
    simp only [b_X5_line_20_1_83, b_X11_findTurns_400_149, f_X7_isInPort, bnd, c1, c2, e, clampN (n := s) (by omega), m0, m7, ofNat_succ (n := s) (by omega)]
    rw [if_neg hlt, if_neg hlt]
    by_cases q1 : u (100 + s) 0 = 2
    · rw [if_pos q1, if_pos q1]
      have q2 : u (100 + s) 7 ≠ 2 := by rw [k7]; exact hG s hs20 (by rw [← k0]; exact q1)
      by_cases q3 : u (100 + s) 7 = 1
      · rw [if_pos q3, if_pos q3, if_neg (by decide)]
        have hp : P2 u0 s := ⟨by rw [← k0]; exact q1, by rw [← k7]; exact q3⟩
        have z2 : (2 : Int32).toInt = 2 := rfl
        have hkb := cKb_s (fun i => u0 (100 + i) 0) s (by show (u0 (100 + s) 0).toInt = 2; rw [hp.1, z2])
        have hkab := cKab (fun i => u0 (100 + i) 0) cnt
        have hkbu := cKb_up (fun i => u0 (100 + i) 0) (a := s + 1) (b := cnt) (by omega)
        rw [ins_20 c (by omega), insC_max, clampN (n := sz) (by omega)]
        have hP := LG.push hq h (by omega) hc20 hp
        rw [e] at hP
        exact ih (s + 1) n n2 (sz + 1) _ _ (by omega) (by omega) (by omega) hP
      · rw [if_neg q3, if_neg q2, if_pos rfl, if_neg q3]
        exact ih (s + 1) n n2 sz u w (by omega) (by omega) (by omega) h.skip
    · rw [if_neg q1, if_neg q1]
      exact ih (s + 1) n n2 sz u w (by omega) (by omega) (by omega) h.skip
theorem line_rel_20 {u w : tV} {k cnt : Nat} {od : Int32} (hW : RelW u w) (hI4 : ∀ o (_ : Nat), o ≤ 8 → Rg (u (60 + o) 4) 0 99) (hI7 : ∀ o p, o ≤ 8 → Rg (u (60 + o + 10) p) 0 99) (hS : WS 5000 u) (hO : OT u w k od) (hG : ∀ t, t < 20 → u (100 + t) 0 = 2 → u (100 + t) 7 ≠ 2) (hc : u 1 3 = Int32.ofNat cnt) (hc20 : cnt ≤ 20) :
    ∃ sz, LG 20 cnt sz cnt u w (f_X5_line_20_1 u k) (f_X11_findTurns_400 w od) := by
  have hq : 20 = 20 ∨ 20 = 21 := by decide
  rw [f_X5_line_20_1, f_X11_findTurns_400, bnd_eq, bnd_eq, bnd_eq]
  have f0 : FQq 20 u (up2 u 20 2 0) := fun a j p1 _ _ => up2_n _ _ (fun z => p1 z.1)
  have t0 : FT w (up2 w 400 44 0) := fun a j _ p2 => up2_n _ _ p2
  have hL : LSq 20 0 0 (rankM w od) u w (up2 u 20 2 0) (up2 w 400 44 0) := ⟨f0, t0, up2_s _ _ _ _, up2_s _ _ _ _, Nat.zero_le _, fun i hi => absurd hi (Nat.not_lt_zero i), fun i j _ hj => absurd hj (Nat.not_lt_zero j)⟩
  obtain ⟨m, m2, sz1, u1, w1, h1, h2, h3, h4, h5⟩ := line1_20 hW hS hO hc hc20 cnt 0 100000 100000 0 (up2 u 20 2 0) (up2 w 400 44 0) 0 (by omega) (by omega) (by omega) hL
  have e1 : g_X5_line_20_1_7 k 100000 0 (up2 u 20 2 0) = _ := h4
  have e2 : g_X11_findTurns_400_7 od 100000 0 (up2 w 400 44 0) = _ := h5
  rw [e1, e2]
  obtain ⟨a, b, c, e, f, g, i⟩ := h3
  have hO1 : OT u1 w1 k od := OT.line hq hO a b
  have hW1 : RelW u1 w1 := RelW.line hq hW a b
  have hsel : 0 ≤ (f_X3_sellers u1 k (u1 1 6)).toInt := (many_rng (fun o p ho => by rw [a _ _ (by omega) (by omega) (by omega)]; exact hI4 o p ho) (fun o p ho => by rw [a _ _ (by omega) (by omega) (by omega)]; exact hI7 o p ho) hO1 (u1 1 6)).1
  rw [← hW1.pr, ← many_ot hO1]
  have hcl := clampI hsel
  obtain ⟨x, ex⟩ : ∃ z, z = f_X3_sellers u1 k (u1 1 6) := ⟨_, rfl⟩
  rw [← ex] at hsel hcl ⊢
  have esz := ofNat_int (n := sz1) (by have := cKa_le (fun i => u (100 + i) 0) cnt; omega)
  have hka := cKa_le (fun i => u (100 + i) 0) cnt
  obtain ⟨sz2, hsz2, hle, hx1, hx2⟩ : ∃ sz2, sz2 ≤ sz1 ∧ True ∧ (if x < Int32.ofNat sz1 then x else Int32.ofNat sz1) = Int32.ofNat sz2 ∧ (if x ≤ Int32.ofNat sz1 then x else Int32.ofNat sz1) = Int32.ofNat sz2 := by
    by_cases q : x < Int32.ofNat sz1
    · have q' := i_lt q
      rw [esz] at q'
      have q2 : x ≤ Int32.ofNat sz1 := Int32.le_iff_toInt_le.mpr (by rw [esz]; omega)
      have q3 : x = Int32.ofNat x.toNatClampNeg := i32_ext (by rw [ofNat_int (by omega)]; omega)
      exact ⟨x.toNatClampNeg, by omega, trivial, by rw [if_pos q]; exact q3, by rw [if_pos q2]; exact q3⟩
    · have q' := i_nlt q
      rw [esz] at q'
      refine ⟨sz1, Nat.le_refl _, trivial, by rw [if_neg q], ?_⟩
      by_cases q2 : x ≤ Int32.ofNat sz1
      · have q2' := i_le q2
        rw [esz] at q2'
        rw [if_pos q2]; exact i32_ext (by rw [esz]; omega)
      · rw [if_neg q2]
  rw [hx1, hx2]
  have hLG : LG 20 0 sz2 cnt u w (up2 u1 20 2 (Int32.ofNat sz2)) (up2 w1 400 44 (Int32.ofNat sz2)) := by
    refine ⟨a.tr (fun a j p1 _ _ => up2_n _ _ (fun z => p1 z.1)), b.tr (fun a j _ p2 => up2_n _ _ p2), up2_s _ _ _ _, up2_s _ _ _ _, by omega, fun j hj => ?_, fun j l hjl hl => ?_⟩
    · obtain ⟨t, t1, t2, t3, t4⟩ := g j (by omega)
      exact ⟨t, t1.1, Or.inl t1.2, by rw [up2_n _ _ (by omega)]; exact t2, by rw [up2_n _ _ (by omega)]; exact t3⟩
    · rw [up2_n _ _ (by omega), up2_n _ _ (by omega)]; exact i j l hjl (by omega)
  exact line2_20 hW hG hc hc20 cnt 0 m m2 sz2 _ _ (by omega) (by omega) (by omega) hLG
theorem line2_21 {u0 w0 : tV} {k cnt : Nat} {od : Int32} (hW : RelW u0 w0) (hG : ∀ t, t < 20 → u0 (100 + t) 0 = 2 → u0 (100 + t) 7 ≠ 2) (hc : u0 1 3 = Int32.ofNat cnt) (hc20 : cnt ≤ 20) :
    ∀ (d s n n2 sz : Nat) (u w : tV), s + d = cnt → d < n → d < n2 → LG 21 s sz cnt u0 w0 u w →
      ∃ sz1, LG 21 cnt sz1 cnt u0 w0 (g_X5_line_21_1_83 k n (Int32.ofNat s) u) (g_X11_findTurns_400_149 od n2 (Int32.ofNat s) w) := by
  intro d
  induction d with
  | zero =>
    intro s n n2 sz u w hsd hn hn2 h
    obtain ⟨n, rfl⟩ : ∃ k, n = k + 1 := ⟨n - 1, by omega⟩
    obtain ⟨n2, rfl⟩ : ∃ k, n2 = k + 1 := ⟨n2 - 1, by omega⟩
    have hs : s = cnt := by omega
    subst hs
    obtain ⟨a, b, c⟩ := id h
    have c1 : u 1 3 = Int32.ofNat s := (a 1 3 (by omega) (by omega) (by omega)).trans hc
    have c2 : w 400 1 = Int32.ofNat s := (b 400 1 (by omega) (by omega)).trans (hW.n.symm.trans hc)
    refine ⟨sz, ?_⟩
    rw [ln83_21, ft149_s]
    simp only [b_X5_line_21_1_83, b_X11_findTurns_400_149, bnd, c1, c2]
    rw [if_pos (i_refl _), if_pos (i_refl _)]
    exact h
  | succ d ih =>
    intro s n n2 sz u w hsd hn hn2 h
    obtain ⟨n, rfl⟩ : ∃ k, n = k + 1 := ⟨n - 1, by omega⟩
    obtain ⟨n2, rfl⟩ : ∃ k, n2 = k + 1 := ⟨n2 - 1, by omega⟩
    obtain ⟨a, b, c, e, f, g, i⟩ := id h
    have hq : 21 = 20 ∨ 21 = 21 := by decide
    have hW1 : RelW u w := RelW.line hq hW a b
    have hs20 : s < 20 := by omega
    have c1 : u 1 3 = Int32.ofNat cnt := (a 1 3 (by omega) (by omega) (by omega)).trans hc
    have c2 : w 400 1 = Int32.ofNat cnt := (b 400 1 (by omega) (by omega)).trans (hW.n.symm.trans hc)
    have hlt : ¬ Int32.ofNat cnt ≤ Int32.ofNat s := fun q => by
      have := i_le q
      rw [ofNat_int (by omega), ofNat_int (by omega)] at this
      omega
    have k0 : u (100 + s) 0 = u0 (100 + s) 0 := a _ _ (by omega) (by omega) (by omega)
    have k7 : u (100 + s) 7 = u0 (100 + s) 7 := a _ _ (by omega) (by omega) (by omega)
    have m0 : w 403 s = u (100 + s) 0 := (hW1.ship s 0 hs20 (by omega)).symm
    have m7 : w 410 s = u (100 + s) 7 := (hW1.ship s 7 hs20 (by omega)).symm
    rw [ln83_21, ft149_s]
    simp only [b_X5_line_21_1_83, b_X11_findTurns_400_149, f_X7_isInPort, bnd, c1, c2, e, clampN (n := s) (by omega), m0, m7, ofNat_succ (n := s) (by omega)]
    rw [if_neg hlt, if_neg hlt]
    by_cases q1 : u (100 + s) 0 = 2
    · rw [if_pos q1, if_pos q1]
      have q2 : u (100 + s) 7 ≠ 2 := by rw [k7]; exact hG s hs20 (by rw [← k0]; exact q1)
      by_cases q3 : u (100 + s) 7 = 1
      · rw [if_pos q3, if_pos q3, if_neg (by decide)]
        have hp : P2 u0 s := ⟨by rw [← k0]; exact q1, by rw [← k7]; exact q3⟩
        have z2 : (2 : Int32).toInt = 2 := rfl
        have hkb := cKb_s (fun i => u0 (100 + i) 0) s (by show (u0 (100 + s) 0).toInt = 2; rw [hp.1, z2])
        have hkab := cKab (fun i => u0 (100 + i) 0) cnt
        have hkbu := cKb_up (fun i => u0 (100 + i) 0) (a := s + 1) (b := cnt) (by omega)
        rw [ins_21 c (by omega), insC_max, clampN (n := sz) (by omega)]
        have hP := LG.push hq h (by omega) hc20 hp
        rw [e] at hP
        exact ih (s + 1) n n2 (sz + 1) _ _ (by omega) (by omega) (by omega) hP
      · rw [if_neg q3, if_neg q2, if_pos rfl, if_neg q3]
        exact ih (s + 1) n n2 sz u w (by omega) (by omega) (by omega) h.skip
    · rw [if_neg q1, if_neg q1]
      exact ih (s + 1) n n2 sz u w (by omega) (by omega) (by omega) h.skip
theorem line_rel_21 {u w : tV} {k cnt : Nat} {od : Int32} (hW : RelW u w) (hI4 : ∀ o (_ : Nat), o ≤ 8 → Rg (u (60 + o) 4) 0 99) (hI7 : ∀ o p, o ≤ 8 → Rg (u (60 + o + 10) p) 0 99) (hS : WS 5000 u) (hO : OT u w k od) (hG : ∀ t, t < 20 → u (100 + t) 0 = 2 → u (100 + t) 7 ≠ 2) (hc : u 1 3 = Int32.ofNat cnt) (hc20 : cnt ≤ 20) :
    ∃ sz, LG 21 cnt sz cnt u w (f_X5_line_21_1 u k) (f_X11_findTurns_400 w od) := by
  have hq : 21 = 20 ∨ 21 = 21 := by decide
  rw [f_X5_line_21_1, f_X11_findTurns_400, bnd_eq, bnd_eq, bnd_eq]
  have f0 : FQq 21 u (up2 u 21 2 0) := fun a j p1 _ _ => up2_n _ _ (fun z => p1 z.1)
  have t0 : FT w (up2 w 400 44 0) := fun a j _ p2 => up2_n _ _ p2
  have hL : LSq 21 0 0 (rankM w od) u w (up2 u 21 2 0) (up2 w 400 44 0) := ⟨f0, t0, up2_s _ _ _ _, up2_s _ _ _ _, Nat.zero_le _, fun i hi => absurd hi (Nat.not_lt_zero i), fun i j _ hj => absurd hj (Nat.not_lt_zero j)⟩
  obtain ⟨m, m2, sz1, u1, w1, h1, h2, h3, h4, h5⟩ := line1_21 hW hS hO hc hc20 cnt 0 100000 100000 0 (up2 u 21 2 0) (up2 w 400 44 0) 0 (by omega) (by omega) (by omega) hL
  have e1 : g_X5_line_21_1_7 k 100000 0 (up2 u 21 2 0) = _ := h4
  have e2 : g_X11_findTurns_400_7 od 100000 0 (up2 w 400 44 0) = _ := h5
  rw [e1, e2]
  obtain ⟨a, b, c, e, f, g, i⟩ := h3
  have hO1 : OT u1 w1 k od := OT.line hq hO a b
  have hW1 : RelW u1 w1 := RelW.line hq hW a b
  have hsel : 0 ≤ (f_X3_sellers u1 k (u1 1 6)).toInt := (many_rng (fun o p ho => by rw [a _ _ (by omega) (by omega) (by omega)]; exact hI4 o p ho) (fun o p ho => by rw [a _ _ (by omega) (by omega) (by omega)]; exact hI7 o p ho) hO1 (u1 1 6)).1
  rw [← hW1.pr, ← many_ot hO1]
  have hcl := clampI hsel
  obtain ⟨x, ex⟩ : ∃ z, z = f_X3_sellers u1 k (u1 1 6) := ⟨_, rfl⟩
  rw [← ex] at hsel hcl ⊢
  have esz := ofNat_int (n := sz1) (by have := cKa_le (fun i => u (100 + i) 0) cnt; omega)
  have hka := cKa_le (fun i => u (100 + i) 0) cnt
  obtain ⟨sz2, hsz2, hle, hx1, hx2⟩ : ∃ sz2, sz2 ≤ sz1 ∧ True ∧ (if x < Int32.ofNat sz1 then x else Int32.ofNat sz1) = Int32.ofNat sz2 ∧ (if x ≤ Int32.ofNat sz1 then x else Int32.ofNat sz1) = Int32.ofNat sz2 := by
    by_cases q : x < Int32.ofNat sz1
    · have q' := i_lt q
      rw [esz] at q'
      have q2 : x ≤ Int32.ofNat sz1 := Int32.le_iff_toInt_le.mpr (by rw [esz]; omega)
      have q3 : x = Int32.ofNat x.toNatClampNeg := i32_ext (by rw [ofNat_int (by omega)]; omega)
      exact ⟨x.toNatClampNeg, by omega, trivial, by rw [if_pos q]; exact q3, by rw [if_pos q2]; exact q3⟩
    · have q' := i_nlt q
      rw [esz] at q'
      refine ⟨sz1, Nat.le_refl _, trivial, by rw [if_neg q], ?_⟩
      by_cases q2 : x ≤ Int32.ofNat sz1
      · have q2' := i_le q2
        rw [esz] at q2'
        rw [if_pos q2]; exact i32_ext (by rw [esz]; omega)
      · rw [if_neg q2]
  rw [hx1, hx2]
  have hLG : LG 21 0 sz2 cnt u w (up2 u1 21 2 (Int32.ofNat sz2)) (up2 w1 400 44 (Int32.ofNat sz2)) := by
    refine ⟨a.tr (fun a j p1 _ _ => up2_n _ _ (fun z => p1 z.1)), b.tr (fun a j _ p2 => up2_n _ _ p2), up2_s _ _ _ _, up2_s _ _ _ _, by omega, fun j hj => ?_, fun j l hjl hl => ?_⟩
    · obtain ⟨t, t1, t2, t3, t4⟩ := g j (by omega)
      exact ⟨t, t1.1, Or.inl t1.2, by rw [up2_n _ _ (by omega)]; exact t2, by rw [up2_n _ _ (by omega)]; exact t3⟩
    · rw [up2_n _ _ (by omega), up2_n _ _ (by omega)]; exact i j l hjl (by omega)
  exact line2_21 hW hG hc hc20 cnt 0 m m2 sz2 _ _ (by omega) (by omega) (by omega) hLG

