/-! A SHIP'S TURN, AND ALL OF THEM -/
/-- what must hold of all ships and buyers while they trade; cnt ships there are -/
def WT (cnt : Nat) (u : tV) : Prop := (∀ t, t < 20 → 0 ≤ (u (100 + t) 6).toInt ∧ (u (100 + t) 6).toInt ≤ 400 ∧ 0 ≤ (u (100 + t) 7).toInt ∧ (u (100 + t) 7).toInt ≤ 5 ∧ (u (100 + t) 0 = 2 → u (100 + t) 7 ≠ 2) ∧ (t < cnt → (u (100 + t) 7).toInt ≤ 2 → 1 ≤ (u (100 + t) 6).toInt)) ∧ (∀ b, b < 10 → 0 ≤ (u (200 + b) 2).toInt ∧ (u (200 + b) 2).toInt ≤ 2000) ∧ (∀ b, b < 10 → 0 ≤ (u (200 + b) 0).toInt ∧ (u (200 + b) 0).toInt ≤ 5)
/-- a ship sells, or has missed -/
def turnC (u : tV) (si : Int32) : tV := if (f_X6_sell_1_30 u si).1 = 0 then f_X7_miss (f_X6_sell_1_30 u si).2 (100 + si.toNatClampNeg) else (f_X6_sell_1_30 u si).2
def FV (s nb : Nat) (u u1 : tV) : Prop := ∀ a j, ¬ (a = 100 + s ∧ 6 ≤ j ∧ j ≠ 8) → ¬ (200 ≤ a ∧ a < 200 + nb ∧ j = 2) → ¬ (300 ≤ a ∧ a < 306) → (a ≠ 30 ∨ j < 4) → (a ≠ 32 ∧ a ≠ 34 ∧ a ≠ 36 ∧ a ≠ 38) → u1 a j = u a j
def FNm (w w1 : tV) : Prop := ∀ a j, (a ≠ 409 ∧ a ≠ 410 ∧ a ≠ 412 ∧ a ≠ 413 ∧ a ≠ 414 ∧ a ≠ 415 ∧ a ≠ 419 ∧ a ≠ 421 ∧ a ≠ 424 ∧ (a < 429 ∨ 432 < a)) → ¬ (a = 400 ∧ (j = 27 ∨ j = 58 ∨ j = 59)) → w1 a j = w a j
theorem miss_rel {u w : tV} {s : Nat} (hs : s < 20) (h : RelW u w) (hk : (u (100 + s) 0).toInt ≤ 1 ∨ u (100 + s) 0 = 2) : RelW (f_X7_miss u (100 + s)) (missM s w) := by
  have z1 : (1 : Int32).toInt = 1 := rfl
  have e0 : w 403 s = u (100 + s) 0 := (h.ship s 0 hs (by omega)).symm
  have e9 : w 412 s = u (100 + s) 9 := (h.ship s 9 hs (by omega)).symm
  have h9 := h.put_ship (s := s) (f := 9) (a := 100 + s) (c := 412) (u (100 + s) 9 + 1) hs (by omega) rfl rfl
  have f0 : up2 u (100 + s) 9 (u (100 + s) 9 + 1) (100 + s) 0 = u (100 + s) 0 := by rw [up2_n _ _ (by omega)]
  simp only [f_X7_miss, missM, bnd, e0, e9, up2_s, f0]
  rcases hk with hk | hk
  · rw [if_neg (c := (1 : Int32) < u (100 + s) 0) (fun z => by have := i_lt z; rw [z1] at this; omega)]
    by_cases q : u (100 + s) 9 + 1 < 2
    · rw [if_pos q, if_pos q]; exact h9
    · rw [if_neg q, if_neg q, if_neg (c := u (100 + s) 0 = 2) (fun z => by have := i_eq z; have z2 : (2 : Int32).toInt = 2 := rfl; rw [z2] at this; omega)]
      exact h9.put_ship 2 hs (by omega) rfl rfl
  · rw [if_pos (c := (1 : Int32) < u (100 + s) 0) (by rw [hk]; decide), if_pos (c := u (100 + s) 0 = 2) hk]
    split <;> exact h9
theorem miss_fr {u : tV} {k a j : Nat} (h : ¬ (a = k ∧ (j = 7 ∨ j = 9))) : f_X7_miss u k a j = u a j := by
  simp only [f_X7_miss, bnd]
  repeat' split
  all_goals (repeat rw [up2_n _ _ (by omega)])
  all_goals rfl
theorem miss_state {u : tV} {k : Nat} : (f_X7_miss u k k 7 = u k 7) ∨ (f_X7_miss u k k 7 = 2 ∧ u k 0 ≠ 2) := by
  simp (disch := omega) only [f_X7_miss, bnd, up2_n, up2_s]
  split
  · left; rw [up2_n _ _ (by omega)]
  · split
    · left; rw [up2_n _ _ (by omega)]
    · right; rename_i q; exact ⟨up2_s _ _ _ _, q⟩
theorem sell_rel {s nb c cnt : Nat} {si : Int32} {u w : tV} (hs : s < 20) (hsi : si = Int32.ofNat s) (hnb : nb ≤ 10) (hW : RelW u w) (hB : RelB u w) (h5 : u 30 5 = w 400 58) (h6 : u 30 6 = w 400 59) (hn4 : u 1 4 = Int32.ofNat nb) (h4 : u 30 4 = Int32.ofNat c) (hT : WT cnt u) (hm : 0 ≤ (u 30 5).toInt ∧ (u 30 5).toInt ≤ 400 * (c : Int)) (hcc : c + cW (fun b => u (200 + b) 2) nb ≤ 29)
    (hl : 1 ≤ (u (100 + s) 6).toInt) (hk : (u (100 + s) 0).toInt ≤ 1 ∨ u (100 + s) 0 = 2) :
    ∃ c1, RelW (turnC u si) (f_X11_sell_400 w si) ∧ RelB (turnC u si) (f_X11_sell_400 w si) ∧ (turnC u si) 30 5 = (f_X11_sell_400 w si) 400 58 ∧ (turnC u si) 30 6 = (f_X11_sell_400 w si) 400 59 ∧ (turnC u si) 30 4 = Int32.ofNat c1 ∧ WT cnt (turnC u si) ∧ (0 ≤ ((turnC u si) 30 5).toInt ∧ ((turnC u si) 30 5).toInt ≤ 400 * (c1 : Int)) ∧ c1 + cW (fun b => (turnC u si) (200 + b) 2) nb ≤ c + cW (fun b => u (200 + b) 2) nb + 1 ∧ FV s nb u (turnC u si) ∧ FNm w (f_X11_sell_400 w si) := by
  have z0 : (0 : Int32).toInt = 0 := rfl
  obtain ⟨hT1, hT2, hT3⟩ := hT
  obtain ⟨l0, l4, st0, st5, hg, -⟩ := hT1 s hs
  have hsn : si.toNatClampNeg = s := by rw [hsi]; exact clampN (by omega)
  have hSI : SI s nb c u w := ⟨RM.of hs hW, hB, h5, h6, hn4, h4, hT2, hT3, l0, l4, hm.1, hm.2⟩
  have hst : u (100 + s) 7 = w 410 s := hW.ship s 7 hs (by omega)
  have hcl := cW_le (fun b => u (200 + b) 2) nb
  obtain ⟨c1, y, u1, w1, g1, g2, g3, g4, g5, g6, g7, g8, g9⟩ := sell_loop (had := u 30 5) hs hsi hnb (cW (fun b => u (200 + b) 2) nb) 0 c 99999 2999999999 0 u w rfl (by omega) (by omega) (by omega) hSI hcc (Or.inl ⟨rfl, rfl⟩) (by omega) hst
  have e1 : f_X6_sell_1_30 u si = (y, u1) := by
    rw [f_X6_sell_1_30, bnd_eq, hsn]
    exact g1
  have e2 : f_X11_sell_400 w si = endM s (u 30 5) w1 := by
    rw [f_X11_sell_400, bnd_eq, bnd_eq, ← h5]
    exact g2
  obtain ⟨hR1, hB1, h51, h61, hn41, h41, hwa1, hwd1, hl01, hl41, hm01, hm41⟩ := g3
  have e409 : w1 409 s = u1 (100 + s) 6 := (hR1.ship (t := s) (f := 6) hs (by omega) (by omega)).symm
  have u10 : u1 (100 + s) 0 = u (100 + s) 0 := g4 _ _ (by omega) (by omega) (by omega) (by omega) (by omega)
  have oth : ∀ t j, t < 20 → t ≠ s → u1 (100 + t) j = u (100 + t) j := fun t j ht hne => g4 _ _ (by omega) (by omega) (by omega) (by omega) (by omega)
  rcases g8 with ⟨y1, y2⟩ | ⟨y1, y2, y3⟩
  · -- it has sold
    have eC : turnC u si = u1 := by
      unfold turnC
      rw [e1, y1, if_neg (show ¬ (1 : Int32) = 0 from by decide)]
    have hno : ¬ w1 400 58 ≤ u 30 5 := fun z => by rw [← h51] at z; have := i_le z; omega
    rw [eC, e2]
    by_cases q : u1 (100 + s) 6 = 0
    · have eM : endM s (u 30 5) w1 = up2 w1 410 s 3 := by
        unfold endM
        rw [e409, q, if_pos (by decide), if_pos rfl, up2_n _ _ (by omega), if_neg hno]
      rw [eM]
      have hst1 : u1 (100 + s) 7 = 3 := by rw [g9, if_pos q]
      have hR2 : RM s u1 (up2 w1 410 s 3) := by
        unfold RM
        rw [up2_up2]; exact hR1
      have hW2 : RelW u1 (up2 w1 410 s 3) := RM.all hs hR2 (by rw [hst1, up2_s])
      refine ⟨c1, hW2, fun i hi => ?_, by rw [up2_n _ _ (by omega)]; exact h51, by rw [up2_n _ _ (by omega)]; exact h61, h41, ⟨fun t ht => ?_, hwa1, hwd1⟩, ⟨hm01, hm41⟩, by rw [if_pos q] at g6; exact g6, fun a j p1 p2 p3 p4 p5 => g4 a j (by omega) p2 p3 p4 p5, fun a j p1 p2 => ?_⟩
      · rw [up2_n _ _ (by omega), up2_n _ _ (by omega), up2_n _ _ (by omega), up2_n _ _ (by omega)]; exact hB1 i hi
      · by_cases qt : t = s
        · subst qt
          rw [hst1]
          have z3 : (3 : Int32).toInt = 3 := rfl
          exact ⟨hl01, hl41, by rw [z3]; omega, by rw [z3]; omega, fun _ => by decide, fun _ z => by rw [z3] at z; omega⟩
        · rw [oth t 6 ht qt, oth t 7 ht qt, oth t 0 ht qt]; exact hT1 t ht
      · rw [up2_n _ _ (by omega)]; exact g5 a j (by omega) p2
    · have hl1 : 1 ≤ (u1 (100 + s) 6).toInt := by
        have : (u1 (100 + s) 6).toInt ≠ (0 : Int32).toInt := i_ne q
        rw [z0] at this; omega
      have eM : endM s (u 30 5) w1 = w1 := by
        unfold endM
        rw [e409, if_neg (c := u1 (100 + s) 6 ≤ 0) (fun z => by have := i_le z; rw [z0] at this; omega), if_neg hno]
      rw [eM]
      rw [if_neg q] at g9
      refine ⟨c1, RM.all hs hR1 g9, hB1, h51, h61, h41, ⟨fun t ht => ?_, hwa1, hwd1⟩, ⟨hm01, hm41⟩, by rw [if_neg q] at g6; omega, fun a j p1 p2 p3 p4 p5 => g4 a j (by omega) p2 p3 p4 p5, fun a j p1 p2 => g5 a j (by omega) p2⟩
      by_cases qt : t = s
      · subst qt
        rw [g9, g7, ← hst, u10]
        obtain ⟨_, _, a3, a4, a5, _⟩ := hT1 t ht
        exact ⟨hl01, hl41, a3, a4, a5, fun _ _ => hl1⟩
      · rw [oth t 6 ht qt, oth t 7 ht qt, oth t 0 ht qt]; exact hT1 t ht
  · -- it has missed
    have eC : turnC u si = f_X7_miss u1 (100 + s) := by
      unfold turnC
      rw [e1, y1, if_pos (show ((0 : Int32), u1).1 = 0 from rfl), hsn]
    have q : ¬ u1 (100 + s) 6 = 0 := fun z => by rw [z, z0] at y3; omega
    rw [if_neg q] at g9 g6
    have hW1 : RelW u1 w1 := RM.all hs hR1 g9
    have eM : endM s (u 30 5) w1 = missM s w1 := by
      unfold endM
      rw [e409, if_neg (c := u1 (100 + s) 6 ≤ 0) (fun z => by have := i_le z; rw [z0] at this; omega), if_pos (c := w1 400 58 ≤ u 30 5) (by rw [y2, h51]; exact i_refl _)]
    have fm : ∀ a j, ¬ (a = 412 ∨ a = 410) → missM s w1 a j = w1 a j := fun a j z => by
      unfold missM
      repeat' split
      all_goals (repeat rw [up2_n _ _ (by omega)])
      all_goals rfl
    rw [eC, e2, eM]
    have mf : ∀ a j, ¬ (a = 100 + s ∧ (j = 7 ∨ j = 9)) → f_X7_miss u1 (100 + s) a j = u1 a j := fun a j z => miss_fr z
    refine ⟨c1, miss_rel hs hW1 (by rw [u10]; exact hk), fun i hi => ?_, ?_, ?_, ?_, ⟨fun t ht => ?_, fun b hb => ?_, fun b hb => ?_⟩, ?_, ?_, fun a j p1 p2 p3 p4 p5 => ?_, fun a j p1 p2 => ?_⟩
    · rw [mf _ _ (by omega)] at hi
      rw [mf _ _ (by omega), mf _ _ (by omega), mf _ _ (by omega), mf _ _ (by omega), fm _ _ (by omega), fm _ _ (by omega), fm _ _ (by omega), fm _ _ (by omega)]; exact hB1 i hi
    · rw [mf _ _ (by omega), fm _ _ (by omega)]; exact h51
    · rw [mf _ _ (by omega), fm _ _ (by omega)]; exact h61
    · rw [mf _ _ (by omega)]; exact h41
    · by_cases qt : t = s
      · subst qt
        obtain ⟨_, _, a3, a4, a5, _⟩ := hT1 t ht
        have e7 : u1 (100 + t) 7 = u (100 + t) 7 := by rw [g9, g7]; exact hst.symm
        rw [mf (100 + t) 6 (by omega), mf (100 + t) 0 (by omega)]
        rcases miss_state (u := u1) (k := 100 + t) with m | ⟨m, m2⟩
        · rw [m, e7, u10]; exact ⟨hl01, hl41, a3, a4, a5, fun _ _ => by omega⟩
        · have z2 : (2 : Int32).toInt = 2 := rfl
          rw [m]; exact ⟨hl01, hl41, by rw [z2]; omega, by rw [z2]; omega, fun z => absurd z m2, fun _ _ => by omega⟩
      · rw [mf _ _ (by omega), mf _ _ (by omega), mf _ _ (by omega), oth t 6 ht qt, oth t 7 ht qt, oth t 0 ht qt]; exact hT1 t ht
    · rw [mf _ _ (by omega)]; exact hwa1 b hb
    · rw [mf _ _ (by omega)]; exact hwd1 b hb
    · rw [mf _ _ (by omega)]; exact ⟨hm01, hm41⟩
    · rw [cW_ext (fun b => u1 (200 + b) 2) (fun b => f_X7_miss u1 (100 + s) (200 + b) 2) nb (fun b hb => mf _ _ (by omega))]; omega
    · rw [mf a j (by omega)]; exact g4 a j (by omega) p2 p3 p4 p5
    · rw [fm a j (by omega)]; exact g5 a j (by omega) p2
/-- while the ships of the row trade, from place i on -/
def TD (i sz nb cnt : Nat) (u w : tV) : Prop := RelW u w ∧ RelB u w ∧ u 30 5 = w 400 58 ∧ u 30 6 = w 400 59 ∧ u 1 4 = Int32.ofNat nb ∧ u 21 2 = Int32.ofNat sz ∧ w 400 44 = Int32.ofNat sz ∧ WT cnt u ∧
  (∃ c : Nat, u 30 4 = Int32.ofNat c ∧ (0 ≤ (u 30 5).toInt ∧ (u 30 5).toInt ≤ 400 * (c : Int)) ∧ c + cW (fun b => u (200 + b) 2) nb + (sz - i) ≤ 30) ∧
  (∀ j, i ≤ j → j < sz → ∃ t : Nat, t < cnt ∧ u 23 j = Int32.ofNat t ∧ w 446 j = Int32.ofNat t ∧ 1 ≤ (u (100 + t) 6).toInt ∧ ((u (100 + t) 0).toInt ≤ 1 ∨ u (100 + t) 0 = 2)) ∧ (∀ j l, j < l → l < sz → u 23 j ≠ u 23 l)
/-- behind the market -/
def TE (nb cnt : Nat) (u w : tV) : Prop := RelW u w ∧ RelB u w ∧ u 30 5 = w 400 58 ∧ u 30 6 = w 400 59 ∧ WT cnt u
def FX (cnt nb : Nat) (u u1 : tV) : Prop := ∀ a j, ¬ (100 ≤ a ∧ a < 100 + cnt ∧ 6 ≤ j ∧ j ≠ 8) → ¬ (200 ≤ a ∧ a < 200 + nb ∧ j = 2) → ¬ (300 ≤ a ∧ a < 306) → (a ≠ 30 ∨ j < 4) → (a ≠ 32 ∧ a ≠ 34 ∧ a ≠ 36 ∧ a ≠ 38) → ¬ (a = 1 ∧ j = 6) → u1 a j = u a j
def FNx (w w1 : tV) : Prop := ∀ a j, (a ≠ 409 ∧ a ≠ 410 ∧ a ≠ 412 ∧ a ≠ 413 ∧ a ≠ 414 ∧ a ≠ 415 ∧ a ≠ 419 ∧ a ≠ 421 ∧ a ≠ 424 ∧ (a < 429 ∨ 432 < a)) → ¬ (a = 400 ∧ (j = 26 ∨ j = 27 ∨ j = 58 ∨ j = 59)) → w1 a j = w a j
theorem tr_s (n : Nat) (y : Int32) (u : tV) : g_X6_trade_1_21_30_2 (n + 1) y u = b_X6_trade_1_21_30_2 (g_X6_trade_1_21_30_2 n) y u := rfl
theorem mk_s (od nt : Int32) (n : Nat) (y : Int32) (w : tV) : g_X11_market_400_15 od nt (n + 1) y w = b_X11_market_400_15 od nt (g_X11_market_400_15 od nt n) y w := rfl
theorem trade_step {od nt : Int32} {sz nb cnt : Nat} (hsz : sz ≤ 20) (hnb : nb ≤ 10) (hcnt : cnt ≤ 20) : ∀ (n i : Nat) (u w : tV), i ≤ sz → TD i sz nb cnt u w →
    TE nb cnt (g_X6_trade_1_21_30_2 n (Int32.ofNat i) u) (g_X11_market_400_15 od nt n (Int32.ofNat i) w) ∧ FX cnt nb u (g_X6_trade_1_21_30_2 n (Int32.ofNat i) u) ∧ FNx w (g_X11_market_400_15 od nt n (Int32.ofNat i) w) := by
  have z0 : (0 : Int32).toInt = 0 := rfl
  intro n
  induction n with
  | zero =>
    intro i u w _ h
    obtain ⟨a, b, c, d, _, _, _, e, _⟩ := h
    exact ⟨⟨a, b, c, d, e⟩, fun _ _ _ _ _ _ _ _ => rfl, fun _ _ _ _ => rfl⟩
  | succ n ih =>
    intro i u w hi h
    obtain ⟨hW, hB, h5, h6, hn4, hq, hm, hT, ⟨c, h4, hms, hcc⟩, hent, hinj⟩ := id h
    rw [tr_s, mk_s]
    simp only [b_X6_trade_1_21_30_2, b_X11_market_400_15, bnd, bnd2, hq, hm, clampN (n := i) (by omega)]
    have esz := ofNat_int (n := sz) (by omega)
    have ei := ofNat_int (n := i) (by omega)
    by_cases q : Int32.ofNat sz ≤ Int32.ofNat i
    · rw [if_pos q, if_pos q, ← h5, ← h6]
      by_cases q2 : u 30 5 ≤ 0
      · rw [if_pos q2, if_pos q2]
        exact ⟨⟨hW, hB, h5, h6, hT⟩, fun _ _ _ _ _ _ _ _ => rfl, fun _ _ _ _ => rfl⟩
      · rw [if_neg q2, if_neg q2]
        obtain ⟨t1, t2, t3⟩ := hT
        refine ⟨⟨hW.put_pr _, fun j hj => ?_, ?_, ?_, ⟨fun t ht => ?_, fun b hb => ?_, fun b hb => ?_⟩⟩, fun a j _ _ _ _ _ p => up2_n _ _ p, fun a j _ p => up2_n _ _ (by omega)⟩
        · rw [up2_n _ _ (by omega)] at hj
          rw [up2_n _ _ (by omega), up2_n _ _ (by omega), up2_n _ _ (by omega), up2_n _ _ (by omega), up2_n _ _ (by omega), up2_n _ _ (by omega), up2_n _ _ (by omega), up2_n _ _ (by omega)]; exact hB j hj
        · rw [up2_n _ _ (by omega), up2_n _ _ (by omega)]; exact h5
        · rw [up2_n _ _ (by omega), up2_n _ _ (by omega)]; exact h6
        · rw [up2_n _ _ (by omega), up2_n _ _ (by omega), up2_n _ _ (by omega)]; exact t1 t ht
        · rw [up2_n _ _ (by omega)]; exact t2 b hb
        · rw [up2_n _ _ (by omega)]; exact t3 b hb
    · have q' := i_nle q
      rw [esz, ei] at q'
      rw [if_neg q, if_neg q]
      obtain ⟨t, ht, e23, e446, hl, hk⟩ := hent i (Nat.le_refl _) (by omega)
      rw [e23, e446, ofNat_succ (by omega)]
      obtain ⟨c1, r1, r2, r3, r4, r5, r6, r7, r8, r9, r10⟩ := sell_rel (s := t) (nb := nb) (c := c) (cnt := cnt) (si := Int32.ofNat t) (by omega) rfl hnb hW hB h5 h6 hn4 h4 hT hms (by omega) hl hk
      have eT : (if (f_X6_sell_1_30 u (Int32.ofNat t)).1 = 0 then g_X6_trade_1_21_30_2 n (Int32.ofNat (i + 1)) (f_X7_miss (f_X6_sell_1_30 u (Int32.ofNat t)).2 (100 + (Int32.ofNat t).toNatClampNeg)) else g_X6_trade_1_21_30_2 n (Int32.ofNat (i + 1)) (f_X6_sell_1_30 u (Int32.ofNat t)).2) = g_X6_trade_1_21_30_2 n (Int32.ofNat (i + 1)) (turnC u (Int32.ofNat t)) := by
        unfold turnC
        split <;> rfl
      rw [eT]
      have hTD : TD (i + 1) sz nb cnt (turnC u (Int32.ofNat t)) (f_X11_sell_400 w (Int32.ofNat t)) := by
        refine ⟨r1, r2, r3, r4, ?_, ?_, ?_, r6, ⟨c1, r5, r7, by omega⟩, fun j hj1 hj2 => ?_, fun j l hjl hl2 => ?_⟩
        · rw [r9 _ _ (by omega) (by omega) (by omega) (by omega) (by omega)]; exact hn4
        · rw [r9 _ _ (by omega) (by omega) (by omega) (by omega) (by omega)]; exact hq
        · rw [r10 _ _ (by omega) (by omega)]; exact hm
        · obtain ⟨t', ht', a1, a2, a3, a4⟩ := hent j (by omega) hj2
          have hne : t' ≠ t := fun z => by
            have := hinj i j (by omega) hj2
            rw [e23, a1, z] at this
            exact this rfl
          refine ⟨t', ht', ?_, ?_, ?_, ?_⟩
          · rw [r9 _ _ (by omega) (by omega) (by omega) (by omega) (by omega)]; exact a1
          · rw [r10 _ _ (by omega) (by omega)]; exact a2
          · rw [r9 _ _ (by omega) (by omega) (by omega) (by omega) (by omega)]; exact a3
          · rw [r9 _ _ (by omega) (by omega) (by omega) (by omega) (by omega)]; exact a4
        · rw [r9 _ _ (by omega) (by omega) (by omega) (by omega) (by omega), r9 _ _ (by omega) (by omega) (by omega) (by omega) (by omega)]; exact hinj j l hjl hl2
      obtain ⟨k1, k2, k3⟩ := ih (i + 1) _ _ (by omega) hTD
      exact ⟨k1, fun a j p1 p2 p3 p4 p5 p6 => (k2 a j p1 p2 p3 p4 p5 p6).trans (r9 a j (by omega) p2 p3 p4 p5), fun a j p1 p2 => (k3 a j p1 p2).trans (r10 a j p1 (by omega))⟩
