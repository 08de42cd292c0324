/-! CLEAR -/
theorem fl_s (vl : Int32) (n : Nat) (y2 y3 : Int32) (v : tV) : g_J7_fill_53178_42_5 vl (n + 1) y2 y3 v = b_J7_fill_53178_42_5 vl (g_J7_fill_53178_42_5 vl n) y2 y3 v := rfl
theorem fill0 (m : Nat) (v : tV) : g_J7_fill_53178_42_5 0 (m + 4) 0 3 v = up2 (up2 (up2 v 42 0 0) 42 1 0) 42 2 0 := by
  have e1 : (0 : Int32) + 1 = 1 := rfl
  have e2 : (1 : Int32) + 1 = 2 := rfl
  have e3 : (2 : Int32) + 1 = 3 := rfl
  have c0 : (0 : Int32).toNatClampNeg = 0 := rfl
  have c1 : (1 : Int32).toNatClampNeg = 1 := rfl
  have c2 : (2 : Int32).toNatClampNeg = 2 := rfl
  rw [show m + 4 = m + 3 + 1 from rfl, fl_s]
  simp only [b_J7_fill_53178_42_5, bnd]
  rw [if_neg (by decide), e1, c0, show m + 3 = m + 2 + 1 from rfl, fl_s]
  simp only [b_J7_fill_53178_42_5, bnd]
  rw [if_neg (by decide), e2, c1, show m + 2 = m + 1 + 1 from rfl, fl_s]
  simp only [b_J7_fill_53178_42_5, bnd]
  rw [if_neg (by decide), e3, c2, fl_s]
  simp only [b_J7_fill_53178_42_5, bnd]
  rw [if_pos (by decide)]
def sH (b : Nat → Nat) : Nat → Nat
  | 0 => 0
  | k + 1 => sH b k + (b k + 9) / 10
theorem sH_le {b : Nat → Nat} {n : Nat} (hb : ∀ m, m < n → b m ≤ 12000) : ∀ k, k ≤ n → sH b k ≤ 1201 * k := by
  intro k
  induction k with
  | zero => intro _; exact Nat.le_refl _
  | succ k ih =>
    intro hk
    have h1 := ih (by omega)
    have h2 := hb k (by omega)
    show sH b k + (b k + 9) / 10 ≤ 1201 * (k + 1)
    omega
theorem sH_sum (b : Nat → Nat) : ∀ n, ((sH b n : Nat) : Int) = LSm (fun _ => 0) (fun i => (((b i + 9) / 10 : Nat) : Int)) n 0 := by
  intro n
  induction n with
  | zero => rfl
  | succ n ih =>
    show ((sH b n + (b n + 9) / 10 : Nat) : Int) = LSm (fun _ => 0) (fun i => (((b i + 9) / 10 : Nat) : Int)) n 0 + (if 0 = 0 then (((b n + 9) / 10 : Nat) : Int) else 0)
    rw [if_pos rfl, ← ih]
    omega
theorem ho_s (gg : Int32) (n : Nat) (y3 y4 y5 : Int32) (v : tV) : g_X2_hours_40_30_12 gg (n + 1) y3 y4 y5 v = b_X2_hours_40_30_12 gg (g_X2_hours_40_30_12 gg n) y3 y4 y5 v := rfl
theorem hoursC {n : Nat} {gg : Int32} {b : Nat → Nat} (hn : n ≤ 7) (hb : ∀ m, m < n → b m ≤ 12000) : ∀ (e k f : Nat) (v : tV), k + e = n → e < f → (∀ m, k ≤ m → m < n → v 41 m = Int32.ofNat (b m)) → (∀ m, m < k → v 41 m = Int32.ofNat ((b m + 9) / 10)) →
    ∃ V, g_X2_hours_40_30_12 gg f (Int32.ofNat n) (Int32.ofNat (sH b k)) (Int32.ofNat k) v = ((f_X2_leastHours_7 (up2 (up2 (up2 V 42 0 0) 42 1 0) 42 2 0) (Int32.ofNat n) gg (Int32.ofNat (sH b n))).1, (f_X2_leastHours_7 (up2 (up2 (up2 V 42 0 0) 42 1 0) 42 2 0) (Int32.ofNat n) gg (Int32.ofNat (sH b n))).2) ∧ (∀ m, m < n → V 41 m = Int32.ofNat ((b m + 9) / 10)) := by
  intro e
  induction e with
  | zero =>
    intro k f v hk hf _ h2
    obtain ⟨f, rfl⟩ : ∃ z, f = z + 1 := ⟨f - 1, by omega⟩
    have hk' : k = n := by omega
    subst hk'
    refine ⟨v, ?_, h2⟩
    have ef : f_J7_fill_53178_42 v 0 = up2 (up2 (up2 v 42 0 0) 42 1 0) 42 2 0 := by
      rw [f_J7_fill_53178_42]
      exact fill0 99996 v
    rw [ho_s]
    simp only [b_X2_hours_40_30_12, bnd, bnd2, ef]
    rw [if_pos (i_refl _)]
  | succ e ih =>
    intro k f v hk hf h1 h2
    obtain ⟨f, rfl⟩ : ∃ z, f = z + 1 := ⟨f - 1, by omega⟩
    have hbk := hb k (by omega)
    have hs := sH_le hb k (by omega)
    have e9 : (9 : Int32) = Int32.ofNat 9 := rfl
    have e1 : (v 41 k + 9) / 10 = Int32.ofNat ((b k + 9) / 10) := by
      rw [h1 k (by omega) (by omega), e9, add_ofNat (by omega)]
      exact pk_div (a := b k + 9) (d := 10) (by omega) (by omega) (by omega)
    have e2 : Int32.ofNat (sH b k) + Int32.ofNat ((b k + 9) / 10) = Int32.ofNat (sH b (k + 1)) := by
      rw [add_ofNat (by omega)]
      all_goals rfl
    obtain ⟨V, v1, v2⟩ := ih (k + 1) f (up2 v 41 k (Int32.ofNat ((b k + 9) / 10))) (by omega) (by omega) (fun m hm1 hm2 => by rw [up2_n _ _ (by omega)]; exact h1 m (by omega) hm2) (fun m hm => by
      by_cases q : m = k
      · rw [q, up2_s]
      · rw [up2_n _ _ (by omega)]; exact h2 m (by omega))
    refine ⟨V, ?_, v2⟩
    rw [ho_s]
    simp only [b_X2_hours_40_30_12, bnd, clampN (n := k) (by omega), e1, up2_s, e2, ofNat_succ (n := k) (by omega)]
    rw [if_neg (fun z => by have := (le_ofNat (by omega) (by omega)).mp z; omega)]
    exact v1
theorem MX_ext (b b2 : Nat → Int) {G : Nat} (h : ∀ g, g < G → b g = b2 g) : MX b G = MX b2 G := by
  induction G with
  | zero => rfl
  | succ G ih =>
    show (if MX b G < b G then b G else MX b G) = (if MX b2 G < b2 G then b2 G else MX b2 G)
    rw [ih (fun g hg => h g (by omega)), h G (by omega)]
theorem LSm_exth (d : Nat → Nat) (h h2 : Nat → Int) (g : Nat) : ∀ n, (∀ i, i < n → h i = h2 i) → LSm d h n g = LSm d h2 n g := by
  intro n
  induction n with
  | zero => intro _; rfl
  | succ n ih =>
    intro hh
    show LSm d h n g + (if g = d n then h n else 0) = LSm d h2 n g + (if g = d n then h2 n else 0)
    rw [ih (fun i hi => hh i (by omega)), hh n (by omega)]
theorem sim_clear {u w : tV} (hW : RelW u w) (hB : RelB u w) (hC : RelC (u 1 3).toNatClampNeg u) (hI : Inv u) (gg : Int32) : (f_X10_clear_0 u gg).1 = (f_X11_clear_400 w gg).1 := by
  obtain ⟨hc0, hc1⟩ := hI 1 3 0 20 rfl
  have kc := clampI hc0
  have z1 : (1 : Int32).toInt = 1 := rfl
  have z3 : (3 : Int32).toInt = 3 := rfl
  rw [f_X10_clear_0, f_X11_clear_400]
  by_cases qg : (1 : Int32).toInt ≤ gg.toInt ∧ gg.toInt ≤ (3 : Int32).toInt
  · rw [if_pos qg, if_pos qg]
    rw [z1, z3] at qg
    obtain ⟨qg1, qg3⟩ := qg
    have cg := clampI (x := gg) (by omega)
    obtain ⟨G, hG⟩ : ∃ z, z = gg.toNatClampNeg := ⟨_, rfl⟩
    rw [← hG] at cg
    have hgg : gg = Int32.ofNat G := i32_ext (by rw [ofNat_int (by omega)]; omega)
    have hG1 : 1 ≤ G := by omega
    have hG3 : G ≤ 3 := by omega
    obtain ⟨c, h4, hc, hA, hCG, hS⟩ := hC
    have ec := clampN (n := c) (by omega)
    obtain ⟨sh, hsh⟩ : ∃ z : Nat → Int32, z = u 32 := ⟨_, rfl⟩
    obtain ⟨am, ham⟩ : ∃ z : Nat → Nat, z = fun j => (u 36 j).toNatClampNeg := ⟨_, rfl⟩
    have ham1 : ∀ j, j < c → u 36 j = Int32.ofNat (am j) := fun j hj => by
      obtain ⟨a0, a4⟩ := hA j hj
      have := clampI a0
      rw [ham]
      exact i32_ext (by rw [ofNat_int (by show (u 36 j).toNatClampNeg < 2 ^ 31; omega)]; show _ = ((u 36 j).toNatClampNeg : Int); omega)
    have ham2 : ∀ j, j < c → am j ≤ 400 := fun j hj => by
      obtain ⟨a0, a4⟩ := hA j hj
      have := clampI a0
      rw [ham]
      show (u 36 j).toNatClampNeg ≤ 400
      omega
    have hTG : TG c sh := by rw [hsh]; exact hCG
    have hS2 : ∀ i, i < c → ∃ t : Nat, t < (u 1 3).toNatClampNeg ∧ sh i = Int32.ofNat t := fun i hi => by rw [hsh]; exact hS i hi
    have hsh1 : ∀ j, j < c → u 32 j = sh j := fun j _ => by rw [hsh]
    have hB2 : ∀ j, j < c → w 429 j = sh j ∧ w 431 j = Int32.ofNat (am j) := fun j hj => by
      obtain ⟨b1, b2, b3, b4⟩ := hB j (by rw [h4, ec]; exact hj)
      exact ⟨by rw [← b1, hsh], by rw [← b3]; exact ham1 j hj⟩
    clear hsh ham
    -- the class gathers
    obtain ⟨V1, g1, g2, g3⟩ := gath hc ham2 c 0 100000 u (by omega) (by omega) h4 hsh1 ham1 (by show 0 ≤ 7; omega) (fun m hm => absurd hm (Nat.not_lt_zero m))
    obtain ⟨n, hn⟩ : ∃ z, z = cut7 (nbl sh c) := ⟨_, rfl⟩
    have hn7 : n ≤ 7 := by rw [hn]; unfold cut7; split <;> omega
    rw [← hn] at g1 g2
    have hb : ∀ m, m < n → bSm sh am m c ≤ 12000 := fun m _ => by have := bSm_le sh m ham2 c (Nat.le_refl _); omega
    obtain ⟨V2, k1, k2⟩ := hoursC (gg := gg) (b := fun m => bSm sh am m c) hn7 hb n 0 100000 V1 (by omega) (by omega) (fun m _ hm => g2 m hm) (fun m hm => absurd hm (Nat.not_lt_zero m))
    obtain ⟨V3, hV3⟩ : ∃ z, z = up2 (up2 (up2 V2 42 0 0) 42 1 0) 42 2 0 := ⟨_, rfl⟩
    rw [← hV3] at k1
    have eC : f_X2_hours_40_30 u gg = ((f_X2_leastHours_7 V3 (Int32.ofNat n) gg (Int32.ofNat (sH (fun m => bSm sh am m c) n))).1, (f_X2_leastHours_7 V3 (Int32.ofNat n) gg (Int32.ofNat (sH (fun m => bSm sh am m c) n))).2) := by
      rw [f_X2_hours_40_30]
      have e : f_X2_gather_40_30 u = (Int32.ofNat n, V1) := by rw [f_X2_gather_40_30]; exact g1
      rw [e]
      exact k1
    have f41 : ∀ m, m < n → V3 41 m = Int32.ofNat ((bSm sh am m c + 9) / 10) := fun m hm => by rw [hV3, up2_n _ _ (by omega), up2_n _ _ (by omega), up2_n _ _ (by omega)]; exact k2 m hm
    have f42 : ∀ g, g < 3 → (V3 42 g).toInt = 0 := fun g hg => by
      have z0 : (0 : Int32).toInt = 0 := rfl
      have hg' : g = 0 ∨ g = 1 ∨ g = 2 := by omega
      rcases hg' with rfl | rfl | rfl
      · rw [hV3]; simp (disch := omega) only [up2_n, up2_s]; exact z0
      · rw [hV3]; simp (disch := omega) only [up2_n, up2_s]; exact z0
      · rw [hV3]; simp (disch := omega) only [up2_n, up2_s]; exact z0
    obtain ⟨h, hh⟩ : ∃ z : Nat → Int, z = fun i => (((bSm sh am i c + 9) / 10 : Nat) : Int) := ⟨_, rfl⟩
    have h41 : ∀ m, m < n → (V3 41 m).toInt = h m := fun m hm => by
      have := hb m hm
      rw [f41 m hm, ofNat_int (by omega), hh]
    have hrange : ∀ i, i < n → 0 ≤ h i ∧ h i ≤ 2000 := fun i hi => by
      have := hb i hi
      rw [hh]
      show 0 ≤ (((bSm sh am i c + 9) / 10 : Nat) : Int) ∧ (((bSm sh am i c + 9) / 10 : Nat) : Int) ≤ 2000
      constructor <;> omega
    have conv : ∀ d : Nat → Nat, MX (asg d (fun i => (V3 41 i).toInt) n (fun g => (V3 42 g).toInt)) G = MX (asg d h n (fun _ => 0)) G := fun d => MX_ext _ _ (fun g hg => by
      rw [asg_sum, asg_sum, LSm_exth d (fun i => (V3 41 i).toInt) h g n (fun i hi => h41 i hi)]
      show (V3 42 g).toInt + LSm d h n g = 0 + LSm d h n g
      rw [f42 g (by omega)]
      all_goals rfl)
    obtain ⟨-, l2, l3, l4⟩ := lh_7 n G (Int32.ofNat (sH (fun m => bSm sh am m c) n)) V3 hn7 hG1 hG3 (fun i hi => by rw [h41 i hi]; exact hrange i hi) (fun g hg => by rw [f42 g hg]; constructor <;> omega)
    have hsl := sH_le hb n (Nat.le_refl _)
    have eall : (Int32.ofNat (sH (fun m => bSm sh am m c) n)).toInt = LSm (fun _ => 0) h n 0 := by rw [ofNat_int (by omega), sH_sum, hh]
    -- the reference
    obtain ⟨W1, w1, w2, w3⟩ := seen0 (cnt := (u 1 3).toNatClampNeg) (by omega) (10000000 - (u 1 3).toNatClampNeg - 1) (u 1 3).toNatClampNeg 0 w (by omega) (hW.n.symm.trans (i32_ext (by rw [ofNat_int (by omega)]; omega))) (fun t ht => absurd ht (Nat.not_lt_zero t))
    obtain ⟨W2, x1, x2⟩ := hoursM hc (cnt := (u 1 3).toNatClampNeg) (by omega) ham2 hTG hS2 c 0 (10000000 - (u 1 3).toNatClampNeg - 1 - 40 * c - 1) W1 (by omega) (by show 0 ≤ 7; omega) (by rw [w3 _ _ (by omega)]; exact hW.bg.symm.trans h4) (fun j hj => by rw [w3 _ _ (by omega)]; exact (hB2 j hj).1) (fun j hj => by rw [w3 _ _ (by omega)]; exact (hB2 j hj).2) (fun t ht => ⟨fun _ j hj => absurd hj (Nat.not_lt_zero j), fun _ => w2 t ht⟩) (fun k hk => absurd hk (Nat.not_lt_zero k))
    rw [← hn] at x1 x2
    have eF : f_X11_findHours_400 w = (Int32.ofNat n, W2) := by
      have e1 : (10000000 : Nat) = 10000000 - (u 1 3).toNatClampNeg - 1 + (u 1 3).toNatClampNeg + 1 := by omega
      have e2 : 10000000 - (u 1 3).toNatClampNeg - 1 = 10000000 - (u 1 3).toNatClampNeg - 1 - 40 * c - 1 + 40 * c + 1 := by omega
      have a1 : f_X11_findHours_400 w = g_X11_findHours_400 10000000 0 0 0 0 0 0 w := by rw [f_X11_findHours_400, g_X11_findHours_400_4]
      have a2 : g_X11_findHours_400 10000000 0 0 0 0 0 0 w = g_X11_findHours_400 (10000000 - (u 1 3).toNatClampNeg - 1 + (u 1 3).toNatClampNeg + 1) 0 0 0 0 0 0 w := congrArg (fun z => g_X11_findHours_400 z 0 0 0 0 0 0 w) e1
      have a3 : g_X11_findHours_400 (10000000 - (u 1 3).toNatClampNeg - 1) 1 0 0 0 0 0 W1 = g_X11_findHours_400 (10000000 - (u 1 3).toNatClampNeg - 1 - 40 * c - 1 + 40 * c + 1) 1 0 0 0 0 0 W1 := congrArg (fun z => g_X11_findHours_400 z 1 0 0 0 0 0 W1) e2
      exact a1.trans (a2.trans (w1.trans (a3.trans x1)))
    have m461 : ∀ i, i < n → (W2 461 i).toInt = h i := fun i hi => by
      have := hb i hi
      rw [x2 i hi, ofNat_int (by omega), hh]
    have hp7 := pw_7 hG1 hG3 hn7
    obtain ⟨r, W3, o1, o2, o3⟩ := outer hG1 hG3 hn7 hrange (pw G n) 0 (10000000000000 - n - 1 - 13 * pw G n - 1) (-1) W2 (by omega) m461 (Or.inl ⟨rfl, rfl⟩)
    have eM : g_X11_clear_400_22 gg 10000000000000 (Int32.ofNat n) 1 0 W2 = (r, W3) := by
      have e1 : (10000000000000 : Nat) = 10000000000000 - n - 1 + n + 1 := by omega
      have e2 : 10000000000000 - n - 1 = 10000000000000 - n - 1 - 13 * pw G n - 1 + 13 * pw G n + 1 := by omega
      have a1 : g_X11_clear_400_22 gg 10000000000000 (Int32.ofNat n) 1 0 W2 = g_X11_clear_400 gg 10000000000000 0 (Int32.ofNat n) 1 0 0 0 0 W2 := by rw [g_X11_clear_400_22]
      have a2 : g_X11_clear_400 gg 10000000000000 0 (Int32.ofNat n) 1 0 0 0 0 W2 = g_X11_clear_400 gg (10000000000000 - n - 1 + n + 1) 0 (Int32.ofNat n) 1 0 0 0 0 W2 := congrArg (fun z => g_X11_clear_400 gg z 0 (Int32.ofNat n) 1 0 0 0 0 W2) e1
      have a3 := ways hG1 hG3 hn7 (10000000000000 - n - 1) W2 n 0 (by omega)
      have a4 : g_X11_clear_400 (Int32.ofNat G) (10000000000000 - n - 1) 1 (Int32.ofNat n) (Int32.ofNat (pw G n)) (-1) 0 0 0 W2 = g_X11_clear_400 (Int32.ofNat G) (10000000000000 - n - 1 - 13 * pw G n - 1 + 13 * pw G n + 1) 1 (Int32.ofNat n) (Int32.ofNat (pw G n)) (-1) 0 0 0 W2 := congrArg (fun z => g_X11_clear_400 (Int32.ofNat G) z 1 (Int32.ofNat n) (Int32.ofNat (pw G n)) (-1) 0 0 0 W2) e2
      rw [hgg] at a1 a2 ⊢
      exact a1.trans (a2.trans (a3.trans (a4.trans o1)))
    rw [eC, eF]
    show (f_X2_leastHours_7 V3 (Int32.ofNat n) gg (Int32.ofNat (sH (fun m => bSm sh am m c) n))).1 = (g_X11_clear_400_22 gg 10000000000000 (Int32.ofNat n) 1 0 W2).1
    rw [eM]
    rw [hgg]
    refine i32_ext (least_eq hG1 hG3 (fun i hi => (hrange i hi).1) (fun d hd => ?_) ?_ l4 eall o2 o3)
    · have := l2 d hd
      rw [conv d] at this
      exact this
    · rcases l3 with l3 | ⟨d, d1, d2⟩
      · exact Or.inl l3
      · exact Or.inr ⟨d, d1, by rw [d2, conv d]⟩
  · rw [if_neg qg, if_neg qg]
