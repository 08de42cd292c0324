/-! A SHIP SELLS -/
theorem strC_fr {u : tV} {s b wd : Nat} {si bi n p : Int32} {a j : Nat} (h1 : ¬ (a = 100 + s ∧ (j = 6 ∨ j = 7 ∨ j = 10 ∨ j = 11 ∨ j = 12))) (h2 : ¬ (a = 200 + b ∧ j = 2)) (h3 : ¬ (a = 300 + wd ∧ (j = 1 ∨ j = 4))) (h4 : a ≠ 30 ∨ j < 4) (h5 : a ≠ 32 ∧ a ≠ 34 ∧ a ≠ 36 ∧ a ≠ 38) : strC u s b wd si bi n p a j = u a j := by
  unfold strC
  rw [up2_n _ _ (by omega), up2_n _ _ (by omega), up2_n _ _ (by omega), up2_n _ _ (by omega), up2_n _ _ (by omega), up2_n _ _ (by omega), up2_n _ _ (by omega), up2_n _ _ (by omega), up2_n _ _ (by omega), up2_n _ _ (by omega)]
  split
  · rw [up2_n _ _ (by omega), up2_n _ _ (by omega), up2_n _ _ (by omega), up2_n _ _ (by omega), up2_n _ _ (by omega)]
  · rw [up2_n _ _ (by omega), up2_n _ _ (by omega), up2_n _ _ (by omega), up2_n _ _ (by omega)]
theorem strC_left {u : tV} {s b wd : Nat} {si bi n p : Int32} (hs : s < 20) : strC u s b wd si bi n p (100 + s) 6 = u (100 + s) 6 - n := by
  unfold strC
  split <;> simp (disch := omega) only [up2_n, up2_s]
theorem strC_state {u : tV} {s b wd : Nat} {si bi n p : Int32} (hs : s < 20) : strC u s b wd si bi n p (100 + s) 7 = if u (100 + s) 6 - n = 0 then 3 else u (100 + s) 7 := by
  unfold strC
  split <;> simp (disch := omega) only [up2_n, up2_s]
theorem strC_want {u : tV} {s b wd : Nat} {si bi n p : Int32} (hb : b < 10) : strC u s b wd si bi n p (200 + b) 2 = u (200 + b) 2 - n := by
  unfold strC
  simp (disch := omega) only [up2_n, up2_s]
theorem strC_304 {u : tV} {s b wd : Nat} {si bi n p : Int32} : strC u s b wd si bi n p 30 4 = u 30 4 + 1 ∧ strC u s b wd si bi n p 30 5 = u 30 5 + n ∧ strC u s b wd si bi n p 30 6 = u 30 6 + n * p := by
  unfold strC
  refine ⟨?_, ?_, ?_⟩ <;> simp (disch := omega) only [up2_n, up2_s]
theorem strC_book {u : tV} {s b wd : Nat} {si bi n p : Int32} {i : Nat} (hs : s < 20) (hb : b < 10) (hwd : wd < 6) : strC u s b wd si bi n p 32 i = (if i = (u 30 4).toNatClampNeg then si else u 32 i) ∧ strC u s b wd si bi n p 34 i = (if i = (u 30 4).toNatClampNeg then bi else u 34 i) ∧ strC u s b wd si bi n p 36 i = (if i = (u 30 4).toNatClampNeg then n else u 36 i) ∧ strC u s b wd si bi n p 38 i = (if i = (u 30 4).toNatClampNeg then p else u 38 i) := by
  by_cases q : i = (u 30 4).toNatClampNeg
  · rw [if_pos q, if_pos q, if_pos q, if_pos q, q]
    unfold strC
    refine ⟨?_, ?_, ?_, ?_⟩ <;> (split <;> simp (disch := omega) only [up2_n, up2_s])
  · rw [if_neg q, if_neg q, if_neg q, if_neg q]
    unfold strC
    refine ⟨?_, ?_, ?_, ?_⟩ <;> (split <;> simp (disch := omega) only [up2_n])
theorem strM_fr {w : tV} {s b wd : Nat} {si bi n p : Int32} {a j : Nat} (h1 : a ≠ 409 ∧ a ≠ 413 ∧ a ≠ 414 ∧ a ≠ 415 ∧ a ≠ 419 ∧ a ≠ 421 ∧ a ≠ 424 ∧ (a < 429 ∨ 432 < a)) (h2 : ¬ (a = 400 ∧ (j = 27 ∨ j = 58 ∨ j = 59))) : strM w s b wd si bi n p a j = w a j := by
  unfold strM
  simp (disch := omega) only [up2_n]
theorem strM_40 {w : tV} {s b wd : Nat} {si bi n p : Int32} : strM w s b wd si bi n p 400 58 = w 400 58 + n ∧ strM w s b wd si bi n p 400 59 = w 400 59 + n * p := by
  unfold strM
  refine ⟨?_, ?_⟩ <;> simp (disch := omega) only [up2_n, up2_s]
theorem strM_book {w : tV} {s b wd : Nat} {si bi n p : Int32} {i : Nat} : strM w s b wd si bi n p 429 i = (if i = (w 400 27).toNatClampNeg then si else w 429 i) ∧ strM w s b wd si bi n p 430 i = (if i = (w 400 27).toNatClampNeg then bi else w 430 i) ∧ strM w s b wd si bi n p 431 i = (if i = (w 400 27).toNatClampNeg then n else w 431 i) ∧ strM w s b wd si bi n p 432 i = (if i = (w 400 27).toNatClampNeg then p else w 432 i) := by
  by_cases q : i = (w 400 27).toNatClampNeg
  · rw [if_pos q, if_pos q, if_pos q, if_pos q, q]
    unfold strM
    refine ⟨?_, ?_, ?_, ?_⟩ <;> simp (disch := omega) only [up2_n, up2_s]
  · rw [if_neg q, if_neg q, if_neg q, if_neg q]
    unfold strM
    refine ⟨?_, ?_, ?_, ?_⟩ <;> simp (disch := omega) only [up2_n]
theorem strike_RB {u w : tV} {s b wd c : Nat} {si bi n p : Int32} (hs : s < 20) (hb : b < 10) (hwd : wd < 6) (hB : RelB u w) (hc : u 30 4 = Int32.ofNat c) (hc2 : c < 30) (hbg : u 30 4 = w 400 27) : RelB (strC u s b wd si bi n p) (strM w s b wd si bi n p) := by
  intro i hi
  rw [strC_304.1, hc, ofNat_succ (by omega), clampN (by omega)] at hi
  obtain ⟨a1, a2, a3, a4⟩ := strC_book (u := u) (si := si) (bi := bi) (n := n) (p := p) (i := i) hs hb hwd
  obtain ⟨b1, b2, b3, b4⟩ := strM_book (w := w) (s := s) (b := b) (wd := wd) (si := si) (bi := bi) (n := n) (p := p) (i := i)
  rw [a1, a2, a3, a4, b1, b2, b3, b4, ← hbg]
  by_cases q : i = (u 30 4).toNatClampNeg
  · rw [if_pos q, if_pos q, if_pos q, if_pos q, if_pos q, if_pos q, if_pos q, if_pos q]; exact ⟨rfl, rfl, rfl, rfl⟩
  · rw [if_neg q, if_neg q, if_neg q, if_neg q, if_neg q, if_neg q, if_neg q, if_neg q]
    exact hB i (by rw [hc, clampN (by omega)] at q ⊢; omega)
/-- as a ship sells: what is tied, and what keeps the bounds -/
def SI (s nb c : Nat) (u w : tV) : Prop := RM s u w ∧ RelB u w ∧ u 30 5 = w 400 58 ∧ u 30 6 = w 400 59 ∧ u 1 4 = Int32.ofNat nb ∧ u 30 4 = Int32.ofNat c ∧ (∀ b, b < 10 → 0 ≤ (u (200 + b) 2).toInt ∧ (u (200 + b) 2).toInt ≤ 2000) ∧ (∀ b, b < 10 → 0 ≤ (u (200 + b) 0).toInt ∧ (u (200 + b) 0).toInt ≤ 5) ∧ 0 ≤ (u (100 + s) 6).toInt ∧ (u (100 + s) 6).toInt ≤ 400 ∧ 0 ≤ (u 30 5).toInt ∧ (u 30 5).toInt ≤ 400 * (c : Int)
/-- places of the class that a sale leaves -/
def FS (s nb : Nat) (u u1 : tV) : Prop := ∀ a j, ¬ (a = 100 + s ∧ (j = 6 ∨ j = 7 ∨ j = 10 ∨ j = 11 ∨ j = 12)) → ¬ (200 ≤ a ∧ a < 200 + nb ∧ j = 2) → ¬ (300 ≤ a ∧ a < 306) → (a ≠ 30 ∨ j < 4) → (a ≠ 32 ∧ a ≠ 34 ∧ a ≠ 36 ∧ a ≠ 38) → u1 a j = u a j
theorem FS.rf (s nb : Nat) (u : tV) : FS s nb u u := fun _ _ _ _ _ _ _ => rfl
theorem FS.tr {s nb : Nat} {u v w : tV} (h1 : FS s nb u v) (h2 : FS s nb v w) : FS s nb u w := fun a j p1 p2 p3 p4 p5 => (h2 a j p1 p2 p3 p4 p5).trans (h1 a j p1 p2 p3 p4 p5)
def FM (w w1 : tV) : Prop := ∀ a j, (a ≠ 409 ∧ a ≠ 413 ∧ a ≠ 414 ∧ a ≠ 415 ∧ a ≠ 419 ∧ a ≠ 421 ∧ a ≠ 424 ∧ (a < 429 ∨ 432 < a)) → ¬ (a = 400 ∧ (j = 27 ∨ j = 58 ∨ j = 59)) → w1 a j = w a j
theorem FM.rf (u : tV) : FM u u := fun _ _ _ _ => rfl
theorem FM.tr {u v w : tV} (h1 : FM u v) (h2 : FM v w) : FM u w := fun a j p1 p2 => (h2 a j p1 p2).trans (h1 a j p1 p2)
def missM (s : Nat) (w : tV) : tV := if 1 < w 403 s then up2 w 412 s (w 412 s + 1) else if w 412 s + 1 < 2 then up2 w 412 s (w 412 s + 1) else up2 (up2 w 412 s (w 412 s + 1)) 410 s 2
/-- one bargain: all that the loop needs -/
theorem strike_all {u w : tV} {s b nb c : Nat} {si bi : Int32} (hs : s < 20) (hb : b < nb) (hnb : nb ≤ 10) (hsi : si = Int32.ofNat s) (hbi : bi = Int32.ofNat b) (h : SI s nb c u w) (hc : c < 30) (hl : 0 < (u (100 + s) 6).toInt) (hw : 0 < (u (200 + b) 2).toInt) :
    ∃ n : Int32, 1 ≤ n.toInt ∧ n.toInt ≤ 400 ∧ SI s nb (c + 1) (f_X6_strike_1_30 u si bi) (f_X11_strike_400 w si bi) ∧
      (f_X6_strike_1_30 u si bi) 30 5 = u 30 5 + n ∧ ((f_X6_strike_1_30 u si bi) 30 5).toInt = (u 30 5).toInt + n.toInt ∧
      (f_X6_strike_1_30 u si bi) (100 + s) 7 = (if (f_X6_strike_1_30 u si bi) (100 + s) 6 = 0 then 3 else u (100 + s) 7) ∧ (f_X11_strike_400 w si bi) 410 s = w 410 s ∧
      (∀ t, t < 10 → t ≠ b → (f_X6_strike_1_30 u si bi) (200 + t) 2 = u (200 + t) 2) ∧ (((f_X6_strike_1_30 u si bi) (200 + b) 2).toInt = 0 ∨ ((f_X6_strike_1_30 u si bi) (100 + s) 6).toInt = 0) ∧
      FS s nb u (f_X6_strike_1_30 u si bi) ∧ FM w (f_X11_strike_400 w si bi) := by
  obtain ⟨hR, hB, h5, h6, hn4, h4, hwa, hwd, hl0, hl4, hm0, hm4⟩ := h
  have hb10 : b < 10 := by omega
  obtain ⟨w0, w1⟩ := hwa b hb10
  obtain ⟨d0, d1⟩ := hwd b hb10
  have z30 : (30 : Int32).toInt = 30 := rfl
  have esi : si.toNatClampNeg = s := by rw [hsi]; exact clampN (by omega)
  have ebi : bi.toNatClampNeg = b := by rw [hbi]; exact clampN (by omega)
  have ec := ofNat_int (n := c) (by omega)
  obtain ⟨wd, ewd⟩ : ∃ z, z = (u (200 + b) 0).toNatClampNeg := ⟨_, rfl⟩
  have cwd := clampI d0
  have hwd6 : wd < 6 := by omega
  obtain ⟨n, en⟩ : ∃ z, z = if u (200 + b) 2 < u (100 + s) 6 then u (200 + b) 2 else u (100 + s) 6 := ⟨_, rfl⟩
  obtain ⟨p, ep⟩ : ∃ z, z = (u (100 + s) 3 + u (200 + b) 3) / 2 := ⟨_, rfl⟩
  have e409 : w 409 s = u (100 + s) 6 := (hR.ship (t := s) (f := 6) hs (by omega) (by omega)).symm
  have e406 : w 406 s = u (100 + s) 3 := (hR.ship (t := s) (f := 3) hs (by omega) (by omega)).symm
  have e417 : w 417 b = u (200 + b) 0 := (hR.buyer hs (t := b) (f := 0) hb10 (by omega)).symm
  have e419 : w 419 b = u (200 + b) 2 := (hR.buyer hs (t := b) (f := 2) hb10 (by omega)).symm
  have e420 : w 420 b = u (200 + b) 3 := (hR.buyer hs (t := b) (f := 3) hb10 (by omega)).symm
  have hC : f_X6_strike_1_30 u si bi = strC u s b wd si bi n p := strC_eq hs hb10 hwd6 esi ebi ewd.symm (Int32.lt_iff_toInt_lt.mpr (by rw [h4, z30, ec]; omega)) en.symm ep.symm
  have nv : (u (200 + b) 2).toInt < (u (100 + s) 6).toInt ∧ n = u (200 + b) 2 ∨ (u (100 + s) 6).toInt ≤ (u (200 + b) 2).toInt ∧ n = u (100 + s) 6 := by
    by_cases q : u (200 + b) 2 < u (100 + s) 6
    · rw [if_pos q] at en; exact Or.inl ⟨i_lt q, en⟩
    · rw [if_neg q] at en; exact Or.inr ⟨i_nlt q, en⟩
  have hM : f_X11_strike_400 w si bi = strM w s b wd si bi n p := by
    refine strM_eq esi ebi (by rw [e417]; exact ewd.symm) ?_ (by rw [e406, e420]; exact ep.symm)
    rw [e419, e409]
    by_cases q : u (200 + b) 2 ≤ u (100 + s) 6
    · have q' := i_le q
      rw [if_pos q]
      rcases nv with ⟨y1, y2⟩ | ⟨y1, y2⟩
      · exact y2.symm
      · rw [y2]; exact i32_ext (by omega)
    · have q' := i_nle q
      rw [if_neg q]
      rcases nv with ⟨y1, y2⟩ | ⟨y1, y2⟩
      · omega
      · exact y2.symm
  rw [hC, hM]
  have nr : 1 ≤ n.toInt ∧ n.toInt ≤ 400 ∧ n.toInt ≤ (u (100 + s) 6).toInt ∧ n.toInt ≤ (u (200 + b) 2).toInt := by
    rcases nv with ⟨y1, y2⟩ | ⟨y1, y2⟩ <;> (rw [y2]; exact ⟨by omega, by omega, by omega, by omega⟩)
  obtain ⟨n1, n2, n3, n4⟩ := nr
  have l1 : (u (100 + s) 6 - n).toInt = (u (100 + s) 6).toInt - n.toInt := i_sub (by omega) (by omega)
  have l2 : (u (200 + b) 2 - n).toInt = (u (200 + b) 2).toInt - n.toInt := i_sub (by omega) (by omega)
  have l3 : (u 30 5 + n).toInt = (u 30 5).toInt + n.toInt := i_add (by omega) (by omega)
  obtain ⟨s4, s5, s6⟩ := strC_304 (u := u) (s := s) (b := b) (wd := wd) (si := si) (bi := bi) (n := n) (p := p)
  obtain ⟨m5, m6⟩ := strM_40 (w := w) (s := s) (b := b) (wd := wd) (si := si) (bi := bi) (n := n) (p := p)
  have hFS : FS s nb u (strC u s b wd si bi n p) := fun a j p1 p2 p3 p4 p5 => strC_fr p1 (by omega) (by omega) p4 p5
  have hFM : FM w (strM w s b wd si bi n p) := fun a j p1 p2 => strM_fr p1 p2
  refine ⟨n, n1, n2, ⟨strike_RM hs hb10 hwd6 hR (by rw [h4, ec]; omega) (by rw [h4, ec]; omega), strike_RB hs hb10 hwd6 hB h4 hc hR.bg, by rw [s5, m5, h5], by rw [s6, m6, h6], ?_, by rw [s4, h4, ofNat_succ (by omega)], fun t ht => ?_, fun t ht => ?_, ?_, ?_, ?_, ?_⟩, s5, by rw [s5]; exact l3, ?_, strM_fr (by omega) (by omega), fun t ht htb => ?_, ?_, hFS, hFM⟩
  · rw [strC_fr (by omega) (by omega) (by omega) (by omega) (by omega)]; exact hn4
  · by_cases q : t = b
    · rw [q, strC_want hb10, l2]; exact ⟨by omega, by omega⟩
    · rw [strC_fr (by omega) (by omega) (by omega) (by omega) (by omega)]; exact hwa t ht
  · rw [strC_fr (by omega) (by omega) (by omega) (by omega) (by omega)]; exact hwd t ht
  · rw [strC_left hs, l1]; omega
  · rw [strC_left hs, l1]; omega
  · rw [s5, l3]; omega
  · rw [s5, l3]; omega
  · rw [strC_state hs, strC_left hs]
  · rw [strC_fr (by omega) (by omega) (by omega) (by omega) (by omega)]
  · rw [strC_want hb10, strC_left hs, l1, l2]
    rcases nv with ⟨y1, y2⟩ | ⟨y1, y2⟩
    · left; rw [y2]; omega
    · right; rw [y2]; omega
/-- the reference's end of a sale -/
def endM (s : Nat) (had : Int32) (w : tV) : tV := if w 409 s ≤ 0 then (if w 409 s = 0 then (if up2 w 410 s 3 400 58 ≤ had then missM s (up2 w 410 s 3) else up2 w 410 s 3) else (if w 400 58 ≤ had then missM s w else w)) else (if w 400 58 ≤ had then missM s w else w)
theorem sell_body {si : Int32} {s : Nat} (hsi : si.toNatClampNeg = s) (rc : Int32 → Int32 → tV → tV) (had b : Int32) (w : tV) : b_X11_sell_400_11 si rc had b w = if w 409 s ≤ 0 then endM s had w else if b < 0 then endM s had w else rc had (f_X11_next_400 (f_X11_strike_400 w si b) si) (f_X11_strike_400 w si b) := by
  simp only [b_X11_sell_400_11, bnd, hsi, endM, missM]
  by_cases q1 : w 409 s ≤ 0
  · rw [if_pos q1, if_pos q1, if_pos q1]
    by_cases q2 : w 409 s = 0
    · rw [if_pos q2, if_pos q2]
      simp (disch := omega) only [up2_n, up2_s]
    · rw [if_neg q2, if_neg q2]
      simp (disch := omega) only [up2_n, up2_s]
  · rw [if_neg q1, if_neg q1, if_neg q1]
    by_cases q2 : b < 0
    · rw [if_pos q2, if_pos q2]
      simp (disch := omega) only [up2_n, up2_s]
    · rw [if_neg q2, if_neg q2]
theorem next_at {w : tV} {si : Int32} (hnb : (w 400 15).toInt ≤ 10) (hnb0 : 0 ≤ (w 400 15).toInt) : -1 ≤ (f_X11_next_400 w si).toInt ∧ (0 ≤ (f_X11_next_400 w si).toInt → (f_X11_next_400 w si).toInt < (w 400 15).toInt ∧ 0 < (w 419 (f_X11_next_400 w si).toNatClampNeg).toInt) := by
  rw [f_X11_next_400]
  exact next_ok hnb 100000 (-1) 0 (by decide) (fun h => absurd h (by decide)) (by decide) (by decide) (by decide)
theorem cW_zero (f : Nat → Int32) (n : Nat) (h : cW f n = 0) : ∀ j, j < n → (f j).toInt ≤ 0 := fun j hj => by
  by_cases q : 0 < (f j).toInt
  · have := cW_pos f hj q
    omega
  · omega
theorem cW_ext (f g : Nat → Int32) (n : Nat) (h : ∀ j, j < n → g j = f j) : cW g n = cW f n := cW_eq f g n h
theorem cW_dec2 (f g : Nat → Int32) {j n : Nat} (h : ∀ i, i < n → i ≠ j → g i = f i) (hj : j < n) (hp : 0 < (f j).toInt) (hg : (g j).toInt ≤ 0) : cW g n + 1 = cW f n := by
  have e := cW_dec f (fun i => if i = j then g j else f i) (j := j) (n := n) (fun i hi => by simp [hi]) hj hp (by simpa using hg)
  rw [← e, cW_eq (fun i => if i = j then g j else f i) g n (fun i hi => by
    by_cases q : i = j
    · rw [if_pos q, q]
    · rw [if_neg q]; exact h i hi q)]
theorem sg_s (si : Int32) (n q : Nat) (y4 y5 : Int32) (u : tV) : g_X6_sell_1_30_13 si (n + 1) q y4 y5 u = b_X6_sell_1_30_13 si (g_X6_sell_1_30_13 si n) q y4 y5 u := rfl
theorem sm_s (si : Int32) (n : Nat) (y2 y3 : Int32) (w : tV) : g_X11_sell_400_11 si (n + 1) y2 y3 w = b_X11_sell_400_11 si (g_X11_sell_400_11 si n) y2 y3 w := rfl
theorem sell_loop {s nb : Nat} {si had : Int32} (hs : s < 20) (hsi : si = Int32.ofNat s) (hnb : nb ≤ 10) :
    ∀ (e k c n m : Nat) (y4 : Int32) (u w : tV), cW (fun b => u (200 + b) 2) nb = e → k + e ≤ nb → e < n → e < m → SI s nb c u w → c + e ≤ 29 →
      ((y4 = 0 ∧ had = u 30 5) ∨ (y4 = 1 ∧ had.toInt < (u 30 5).toInt)) → 0 < (u (100 + s) 6).toInt → u (100 + s) 7 = w 410 s →
      ∃ (c1 : Nat) (y : Int32) (u1 w1 : tV), g_X6_sell_1_30_13 si (n + 1) (100 + s) y4 (Int32.ofNat k) u = (y, u1) ∧ g_X11_sell_400_11 si (m + 1) had (f_X11_next_400 w si) w = endM s had w1 ∧
        SI s nb c1 u1 w1 ∧ FS s nb u u1 ∧ FM w w1 ∧ c1 + cW (fun b => u1 (200 + b) 2) nb ≤ c + e + (if u1 (100 + s) 6 = 0 then 1 else 0) ∧ w1 410 s = w 410 s ∧
        ((y = 1 ∧ had.toInt < (u1 30 5).toInt) ∨ (y = 0 ∧ had = u1 30 5 ∧ 0 < (u1 (100 + s) 6).toInt)) ∧ u1 (100 + s) 7 = (if u1 (100 + s) 6 = 0 then 3 else w1 410 s) := by
  have z0 : (0 : Int32).toInt = 0 := rfl
  have zm : (-1 : Int32).toInt = -1 := rfl
  have hsn : si.toNatClampNeg = s := by rw [hsi]; exact clampN (by omega)
  intro e
  induction e with
  | zero =>
    intro k c n m y4 u w he hk hn hm h hc hy hl hst
    obtain ⟨hR, hB, h5, h6, hn4, h4, hwa, hwd, hl0, hl4, hm0, hm4⟩ := id h
    have hW : RelW u w := RM.all hs hR hst
    have enb := ofNat_int (n := nb) (by omega)
    have e15 : w 400 15 = Int32.ofNat nb := hR.nb.symm.trans hn4
    obtain ⟨x1, x2⟩ := next_at (w := w) (si := si) (by rw [e15, enb]; omega) (by rw [e15, enb]; omega)
    have hx : (f_X11_next_400 w si).toInt = -1 := by
      by_cases q : 0 ≤ (f_X11_next_400 w si).toInt
      · obtain ⟨y1, y2⟩ := x2 q
        rw [e15, enb] at y1
        have cq := clampI q
        have := cW_zero _ _ he (f_X11_next_400 w si).toNatClampNeg (by omega)
        have e419 : w 419 (f_X11_next_400 w si).toNatClampNeg = u (200 + (f_X11_next_400 w si).toNatClampNeg) 2 := (hW.buyer _ 2 (by omega) (by omega)).symm
        rw [e419] at y2
        have : (u (200 + (f_X11_next_400 w si).toNatClampNeg) 2).toInt ≤ 0 := this
        omega
      · omega
    have hbest : f_X6_bestBuyer_1 u (100 + s) = -1 := by
      rw [best_eq hW (by rw [hn4, enb]; omega) hs hsn]; exact i32_ext (by rw [hx, zm])
    have hne : ¬ u (100 + s) 6 = 0 := fun z => by rw [z, z0] at hl; omega
    have e409 : w 409 s = u (100 + s) 6 := (hR.ship (t := s) (f := 6) hs (by omega) (by omega)).symm
    refine ⟨c, y4, u, w, ?_, ?_, h, FS.rf s nb u, FM.rf w, by rw [he]; omega, rfl, ?_, by rw [if_neg hne]; exact hst⟩
    · rw [sg_s]
      simp only [b_X6_sell_1_30_13, bnd, hn4, hbest]
      rw [if_neg (c := u (100 + s) 6 ≤ 0) (fun z => by have := i_le z; rw [z0] at this; omega), if_pos trivial]
      split <;> rfl
    · rw [sm_s, sell_body hsn, if_neg (c := w 409 s ≤ 0) (fun z => by rw [e409] at z; have := i_le z; rw [z0] at this; omega), if_pos (Int32.lt_iff_toInt_lt.mpr (by rw [hx, z0]; omega))]
    · rcases hy with ⟨y1, y2⟩ | ⟨y1, y2⟩
      · exact Or.inr ⟨y1, y2, hl⟩
      · exact Or.inl ⟨y1, y2⟩
  | succ e ih =>
    intro k c n m y4 u w he hk hn hm h hc hy hl hst
    obtain ⟨n, rfl⟩ : ∃ z, n = z + 1 := ⟨n - 1, by omega⟩
    obtain ⟨m, rfl⟩ : ∃ z, m = z + 1 := ⟨m - 1, by omega⟩
    obtain ⟨hR, hB, h5, h6, hn4, h4, hwa, hwd, hl0, hl4, hm0, hm4⟩ := id h
    have hW : RelW u w := RM.all hs hR hst
    have enb := ofNat_int (n := nb) (by omega)
    have e15 : w 400 15 = Int32.ofNat nb := hR.nb.symm.trans hn4
    obtain ⟨x1, x2⟩ := next_at (w := w) (si := si) (by rw [e15, enb]; omega) (by rw [e15, enb]; omega)
    have hne : ¬ u (100 + s) 6 = 0 := fun z => by rw [z, z0] at hl; omega
    have e409 : w 409 s = u (100 + s) 6 := (hR.ship (t := s) (f := 6) hs (by omega) (by omega)).symm
    have hbe := best_eq hW (by rw [hn4, enb]; omega) hs hsn
    have hkn : ¬ Int32.ofNat nb ≤ Int32.ofNat k := fun z => by
      have := i_le z
      rw [enb, ofNat_int (by omega)] at this
      omega
    obtain ⟨bb, ebb⟩ : ∃ z, z = f_X11_next_400 w si := ⟨_, rfl⟩
    rw [← ebb] at x1 x2 hbe
    rw [sg_s, sm_s, sell_body hsn]
    simp only [b_X6_sell_1_30_13, bnd, hn4, hbe]
    rw [if_neg hkn, if_neg (c := u (100 + s) 6 ≤ 0) (fun z => by have := i_le z; rw [z0] at this; omega), if_neg (c := w 409 s ≤ 0) (fun z => by rw [e409] at z; have := i_le z; rw [z0] at this; omega), ← ebb]
    by_cases q : 0 ≤ bb.toInt
    · rw [if_neg (c := bb = -1) (fun z => by rw [z, zm] at q; omega), if_neg (c := bb < 0) (fun z => by have := i_lt z; rw [z0] at this; omega)]
      obtain ⟨y1, y2⟩ := x2 q
      rw [e15, enb] at y1
      have cq := clampI q
      have hbi : bb = Int32.ofNat bb.toNatClampNeg := i32_ext (by rw [ofNat_int (by omega)]; omega)
      have e419 : w 419 bb.toNatClampNeg = u (200 + bb.toNatClampNeg) 2 := (hW.buyer _ 2 (by omega) (by omega)).symm
      rw [e419] at y2
      obtain ⟨x, x3, x4, hS2, s5, s5i, s7, m7, so, sx, hFS, hFM⟩ := strike_all hs (b := bb.toNatClampNeg) (by omega) hnb hsi hbi h (by omega) hl y2
      generalize f_X6_strike_1_30 u si bb = U at hS2 s5 s5i s7 so sx hFS ⊢
      generalize f_X11_strike_400 w si bb = V at hS2 m7 hFM ⊢
      have hy1 : had.toInt < (U 30 5).toInt := by
        rw [s5i]
        rcases hy with ⟨_, y2⟩ | ⟨_, y2⟩
        · rw [y2]; omega
        · omega
      by_cases ql : U (100 + s) 6 = 0
      · -- nothing is left
        have hV : V 409 s = U (100 + s) 6 := (hS2.1.ship (t := s) (f := 6) hs (by omega) (by omega)).symm
        have hcW : cW (fun b => U (200 + b) 2) nb ≤ e + 1 := by
          by_cases qz : (U (200 + bb.toNatClampNeg) 2).toInt ≤ 0
          · have := cW_dec2 (fun b => u (200 + b) 2) (fun b => U (200 + b) 2) (j := bb.toNatClampNeg) (n := nb) (fun i hi hne => so i (by omega) hne) (by omega) y2 qz
            omega
          · have hle : ∀ n, n ≤ nb → cW (fun b => U (200 + b) 2) n ≤ cW (fun b => u (200 + b) 2) n := by
              intro n hn9
              induction n with
              | zero => exact Nat.le_refl _
              | succ n ih9 =>
                have := ih9 (by omega)
                show cW (fun b => U (200 + b) 2) n + (if 0 < (U (200 + n) 2).toInt then 1 else 0) ≤ cW (fun b => u (200 + b) 2) n + (if 0 < (u (200 + n) 2).toInt then 1 else 0)
                by_cases qn : n = bb.toNatClampNeg
                · rw [qn] at this ⊢; rw [if_pos y2]; split <;> omega
                · rw [so n (by omega) qn]; omega
            have := hle nb (Nat.le_refl _)
            omega
        refine ⟨c + 1, 1, U, V, ?_, ?_, hS2, hFS, hFM, by rw [if_pos ql]; omega, m7, Or.inl ⟨rfl, hy1⟩, by rw [s7, if_pos ql, if_pos ql]⟩
        · rw [sg_s]
          simp only [b_X6_sell_1_30_13, bnd, ql]
          rw [if_pos (c := (0 : Int32) ≤ 0) (by decide)]
          split <;> rfl
        · rw [sm_s, sell_body hsn, hV, ql, if_pos (by decide)]
      · have hl2 : 0 < (U (100 + s) 6).toInt := by
          have h0 := hS2.2.2.2.2.2.2.2.2.1
          have : (U (100 + s) 6).toInt ≠ (0 : Int32).toInt := i_ne ql
          rw [z0] at this
          omega
        have hz : (U (200 + bb.toNatClampNeg) 2).toInt ≤ 0 := by
          rcases sx with sx | sx <;> omega
        have hcW := cW_dec2 (fun b => u (200 + b) 2) (fun b => U (200 + b) 2) (j := bb.toNatClampNeg) (n := nb) (fun i hi hne => so i (by omega) hne) (by omega) y2 hz
        have hstU : U (100 + s) 7 = V 410 s := by rw [s7, if_neg ql, m7]; exact hst
        obtain ⟨c1, y, u1, w1, g1, g2, g3, g4, g5, g6, g7, g8, g9⟩ := ih (k + 1) (c + 1) n m 1 U V (by omega) (by omega) (by omega) (by omega) hS2 (by omega) (Or.inr ⟨rfl, hy1⟩) hl2 hstU
        rw [ofNat_succ (by omega)]
        exact ⟨c1, y, u1, w1, g1, g2, g3, hFS.tr g4, hFM.tr g5, by omega, g7.trans m7, g8, g9⟩
    · have hx : bb = -1 := i32_ext (by rw [zm]; omega)
      rw [if_pos (c := bb = -1) hx, if_pos (c := bb < 0) (by rw [hx]; decide)]
      refine ⟨c, y4, u, w, rfl, rfl, h, FS.rf s nb u, FM.rf w, by rw [he]; omega, rfl, ?_, by rw [if_neg hne]; exact hst⟩
      rcases hy with ⟨y1, y2⟩ | ⟨y1, y2⟩
      · exact Or.inr ⟨y1, y2, hl⟩
      · exact Or.inl ⟨y1, y2⟩
