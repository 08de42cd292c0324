/-! A TRIAL LEAVES THE WORLD AS IT WAS: the days of the reference's trial, with days of the class beside them that nobody goes through -/
theorem RelW.below {u w u1 w1 : tV} (hW : RelW u w) (rC : ∀ a j, a < 400 → a < 401 → u1 a j = u a j) (rM : ∀ a j, a < 447 → a < 448 → w1 a j = w a j) : RelW u1 w1 := ⟨fun s1 f1 c0 c1 => by rw [rC _ _ (by omega) (by omega), rM _ _ (by omega) (by omega)]; exact hW.ship s1 f1 c0 c1, fun s1 f1 c0 c1 => by rw [rC _ _ (by omega) (by omega), rM _ _ (by omega) (by omega)]; exact hW.buyer s1 f1 c0 c1, fun s1 f1 c0 c1 c2 => by rw [rC _ _ (by omega) (by omega), rM _ _ (by omega) (by omega)]; exact hW.ward s1 f1 c0 c1 c2, fun s1 f1 c0 c1 => by rw [rC _ _ (by omega) (by omega), rM _ _ (by omega) (by omega)]; exact hW.burn s1 f1 c0 c1, by rw [rC _ _ (by omega) (by omega), rM _ _ (by omega) (by omega)]; exact hW.n, by rw [rC _ _ (by omega) (by omega), rM _ _ (by omega) (by omega)]; exact hW.nb, by rw [rC _ _ (by omega) (by omega), rM _ _ (by omega) (by omega)]; exact hW.le, by rw [rC _ _ (by omega) (by omega), rM _ _ (by omega) (by omega)]; exact hW.mo, by rw [rC _ _ (by omega) (by omega), rM _ _ (by omega) (by omega)]; exact hW.no, by rw [rC _ _ (by omega) (by omega), rM _ _ (by omega) (by omega)]; exact hW.nt, by rw [rC _ _ (by omega) (by omega), rM _ _ (by omega) (by omega)]; exact hW.to, by rw [rC _ _ (by omega) (by omega), rM _ _ (by omega) (by omega)]; exact hW.pr, by rw [rC _ _ (by omega) (by omega), rM _ _ (by omega) (by omega)]; exact hW.mk, by rw [rC _ _ (by omega) (by omega), rM _ _ (by omega) (by omega)]; exact hW.bg⟩
theorem sails_fr2 {wi : Int32} {c a j : Nat} (hc : c ≤ 20) (h : a < 100 ∨ 100 + c ≤ a ∨ j ≤ 4) : ∀ (n : Nat) (y : Int32) (u : tV), (u 1 3).toInt ≤ (c : Int) → 0 ≤ y.toInt → g_X6_sail_1_2 wi n y u a j = u a j := by
  have z1 : (1 : Int32).toInt = 1 := rfl
  intro n
  induction n with
  | zero => intro y u _ _; rfl
  | succ n ih =>
    intro y u hu h0
    show b_X6_sail_1_2 wi (g_X6_sail_1_2 wi n) y u a j = u a j
    simp only [b_X6_sail_1_2, bnd]
    by_cases q : u 1 3 ≤ y
    · rw [if_pos q]
    · have q' := i_nle q
      have hs := clampI h0
      have k1 : (y + 1).toInt = y.toInt + 1 := by rw [i_add (by rw [z1]; omega) (by rw [z1]; omega), z1]
      rw [if_neg q, ih _ _ (by rw [sail_fr (by omega)]; exact hu) (by omega), sail_fr (by omega)]
def FGc (cnt nb : Nat) (u U : tV) : Prop := ∀ a j, ¬ (100 ≤ a ∧ a < 100 + cnt ∧ 5 ≤ j) → ¬ (200 ≤ a ∧ a < 200 + nb ∧ j = 2) → ¬ (300 ≤ a ∧ a < 306) → (a ≠ 30 ∨ j < 4) → (a ≠ 32 ∧ a ≠ 34 ∧ a ≠ 36 ∧ a ≠ 38) → ¬ (a = 1 ∧ (j = 5 ∨ j = 6)) → (a ≠ 21 ∧ a ≠ 23 ∧ a ≠ 25) → U a j = u a j
def FGm (w W : tV) : Prop := ∀ a j, 433 ≤ a → a ≠ 446 → W a j = w a j
theorem FGc.tr {cnt nb : Nat} {u v w : tV} (h1 : FGc cnt nb u v) (h2 : FGc cnt nb v w) : FGc cnt nb u w := fun a j p1 p2 p3 p4 p5 p6 p7 => (h2 a j p1 p2 p3 p4 p5 p6 p7).trans (h1 a j p1 p2 p3 p4 p5 p6 p7)
theorem FGm.tr {u v w : tV} (h1 : FGm u v) (h2 : FGm v w) : FGm u w := fun a j p1 p2 => (h2 a j p1 p2).trans (h1 a j p1 p2)
theorem ghost_market {T : Int} (hT : T ≤ 5000) {u w : tV} {k cnt nb : Nat} {od : Int32} (hW : RelW u w) (hO : OT u w k od) (hI4 : ∀ o (_ : Nat), o ≤ 8 → Rg (u (60 + o) 4) 0 99) (hI7 : ∀ o p, o ≤ 8 → Rg (u (60 + o + 10) p) 0 99) (hF : WF T u) (hc : u 1 3 = Int32.ofNat cnt) (hc20 : cnt ≤ 20) (hn : u 1 4 = Int32.ofNat nb) (hnb : nb ≤ 10)
    (h4 : u 30 4 = 0) (h5 : u 30 5 = 0) (h6 : u 30 6 = 0) (m58 : w 400 58 = 0) (m59 : w 400 59 = 0) :
    ∃ U, RelW U (f_X11_market_400 w od 0) ∧ RelB U (f_X11_market_400 w od 0) ∧ U 30 5 = (f_X11_market_400 w od 0) 400 58 ∧ WF T U ∧ U 1 5 = u 1 5 ∧ FGc cnt nb u U ∧ FGm w (f_X11_market_400 w od 0) := by
  obtain ⟨⟨s1, s2, s3⟩, ⟨t1, t2, t3⟩, hbn⟩ := id hF
  have ecl : (u 1 3).toNatClampNeg = cnt := by rw [hc]; exact clampN (by omega)
  rw [ecl] at t1
  have hG : ∀ t, t < 20 → u (100 + t) 0 = 2 → u (100 + t) 7 ≠ 2 := fun t ht => (t1 t ht).2.2.2.2.1
  obtain ⟨sz, lg⟩ := line_rel_21 hW hI4 hI7 (hF.1.up hT) hO hG hc hc20
  obtain ⟨fq, ft, q2, q44, hsz, hent, hinj⟩ := id lg
  have hkab := cKab (fun i => u (100 + i) 0) cnt
  have em : f_X11_market_400 w od 0 = g_X11_market_400_15 od 0 100000 0 (f_X11_findTurns_400 w od) := by
    rw [f_X11_market_400]
    simp only [bnd_eq]
    rw [if_pos (by decide)]
  rw [em]
  have hW2 : RelW (f_X5_line_21_1 u k) (f_X11_findTurns_400 w od) := RelW.line (Or.inr rfl) hW fq ft
  generalize f_X5_line_21_1 u k = u2 at fq q2 hent hinj hW2
  generalize f_X11_findTurns_400 w od = w2 at ft q44 hent hW2
  have fU : ∀ a j, a ≠ 21 ∧ a ≠ 23 ∧ a ≠ 25 → u2 a j = u a j := fun a j z => fq a j z.1 z.2.1 z.2.2
  have fs : ∀ t j, t < 20 → u2 (100 + t) j = u (100 + t) j := fun t j ht => fU _ _ (by omega)
  have fb : ∀ t j, t < 10 → u2 (200 + t) j = u (200 + t) j := fun t j ht => fU _ _ (by omega)
  have e4 : u2 30 4 = 0 := by rw [fU _ _ (by omega)]; exact h4
  have e5 : u2 30 5 = 0 := by rw [fU _ _ (by omega)]; exact h5
  have e6 : u2 30 6 = 0 := by rw [fU _ _ (by omega)]; exact h6
  have e58 : w2 400 58 = 0 := by rw [ft _ _ (by omega) (by omega)]; exact m58
  have e59 : w2 400 59 = 0 := by rw [ft _ _ (by omega) (by omega)]; exact m59
  have z0 : (0 : Int32).toInt = 0 := rfl
  have hcw := cW_le (fun b => u2 (200 + b) 2) nb
  have hTD : TD 0 sz nb cnt u2 w2 := by
    refine ⟨hW2, fun i hi => ?_, by rw [e5, e58], by rw [e6, e59], ?_, q2, q44, ⟨fun t ht => ?_, fun b hb => ?_, fun b hb => ?_⟩, ⟨0, by rw [e4]; rfl, by rw [e5, z0]; omega, by omega⟩, fun j _ hj => ?_, hinj⟩
    · rw [e4] at hi; exact absurd hi (Nat.not_lt_zero i)
    · rw [fU _ _ (by omega)]; exact hn
    · rw [fs t 6 ht, fs t 7 ht, fs t 0 ht]; exact t1 t ht
    · rw [fb b 2 hb]; exact t2 b hb
    · rw [fb b 0 hb]; exact t3 b hb
    · obtain ⟨t, p1, p2, p3, p4⟩ := hent j hj
      have ht20 : t < 20 := by omega
      refine ⟨t, p1, p3, p4, ?_, ?_⟩
      · rw [fs t 6 ht20]
        refine (t1 t ht20).2.2.2.2.2 p1 ?_
        have y1 : (1 : Int32).toInt = 1 := rfl
        have y2 : (2 : Int32).toInt = 2 := rfl
        rcases p2 with ⟨-, p2 | p2⟩ | ⟨⟨-, p2⟩, -⟩ <;> rw [p2] <;> omega
      · rw [fs t 0 ht20]
        rcases p2 with ⟨p2, -⟩ | ⟨⟨p2, -⟩, -⟩
        · exact Or.inl p2
        · exact Or.inr p2
  obtain ⟨⟨r1, r2, r3, r4, r5⟩, r6, r7⟩ := trade_step (od := od) (nt := 0) (sz := sz) (nb := nb) (cnt := cnt) (by omega) hnb hc20 100000 0 u2 w2 (by omega) hTD
  have eo : Int32.ofNat 0 = (0 : Int32) := rfl
  rw [eo] at r1 r2 r3 r4 r5 r6 r7
  generalize g_X6_trade_1_21_30_2 100000 0 u2 = U at r1 r2 r3 r4 r5 r6
  generalize g_X11_market_400_15 od 0 100000 0 w2 = M at r1 r2 r3 r4 r7
  have k3 : ∀ s j, s < 20 → j = 3 ∨ j = 8 → U (100 + s) j = u (100 + s) j := fun s j hs hj => (r6 _ _ (by omega) (by omega) (by omega) (by omega) (by omega) (by omega)).trans (fs s j hs)
  have k13 : U 1 3 = u 1 3 := (r6 _ _ (by omega) (by omega) (by omega) (by omega) (by omega) (by omega)).trans (fU _ _ (by omega))
  have k15 : U 1 5 = u 1 5 := (r6 _ _ (by omega) (by omega) (by omega) (by omega) (by omega) (by omega)).trans (fU _ _ (by omega))
  refine ⟨U, r1, r2, r3, ⟨⟨fun s hs => ?_, by rw [k15]; exact s2, by rw [k15]; exact s3⟩, by rw [k13, ecl]; exact r5, fun s f hs hf => ?_⟩, k15, fun a j p1 p2 p3 p4 p5 p6 p7 => ?_, fun a j p1 p2 => ?_⟩
  · rw [k3 s 3 hs (by omega), k3 s 8 hs (by omega)]
    obtain ⟨a1, a2, -, -, a5, a6⟩ := s1 s hs
    obtain ⟨b1, b2, -⟩ := r5.1 s hs
    exact ⟨a1, a2, b1, b2, a5, a6⟩
  · rw [r6 _ _ (by omega) (by omega) (by omega) (by omega) (by omega) (by omega), fU _ _ (by omega)]
    exact hbn s f hs hf
  · exact (r6 a j (by omega) p2 p3 p4 p5 (by omega)).trans (fU a j p7)
  · exact (r7 a j (by omega) (by omega)).trans (ft a j (by omega) (by omega))
theorem ghost_go {T : Int} (hT : T + 1 ≤ 5000) {u w : tV} {k cnt nb : Nat} {od co : Int32} (wi : Int32) (hW : RelW u w) (hO : OT u w k od) (hI4 : ∀ o (_ : Nat), o ≤ 8 → Rg (u (60 + o) 4) 0 99) (hI7 : ∀ o p, o ≤ 8 → Rg (u (60 + o + 10) p) 0 99) (hF : WF T u) (hc : u 1 3 = Int32.ofNat cnt) (hc20 : cnt ≤ 20) (hn : u 1 4 = Int32.ofNat nb) (hnb : nb ≤ 10) (hco : 0 ≤ co.toInt ∧ co.toInt ≤ 4) :
    ∃ U, RelW U (f_X11_go_400 w wi co 0 od 0) ∧ WF (T + 1) U ∧ FGc cnt nb u U ∧ FGm w (f_X11_go_400 w wi co 0 od 0) := by
  obtain ⟨u1, hu1⟩ : ∃ z, z = up2 (up2 (up2 u 30 4 0) 30 5 0) 30 6 0 := ⟨_, rfl⟩
  obtain ⟨w1, hw1⟩ : ∃ z, z = up2 (up2 (up2 w 400 27 0) 400 58 0) 400 59 0 := ⟨_, rfl⟩
  have hW1 : RelW u1 w1 := by
    rw [hu1, hw1]
    exact ((((hW.put_bg 0).putL (a := 30) (b := 5) 0 (by omega)).putL (a := 30) (b := 6) 0 (by omega)).putR (c := 400) (d := 58) 0 (by omega)).putR (c := 400) (d := 59) 0 (by omega)
  have f1 : ∀ a j, ¬ (a = 30 ∧ 4 ≤ j) → u1 a j = u a j := fun a j z => by
    rw [hu1, up2_n _ _ (by omega), up2_n _ _ (by omega), up2_n _ _ (by omega)]
  have g1 : ∀ a j, ¬ (a = 400 ∧ (j = 27 ∨ j = 58 ∨ j = 59)) → w1 a j = w a j := fun a j z => by
    rw [hw1, up2_n _ _ (by omega), up2_n _ _ (by omega), up2_n _ _ (by omega)]
  have p4 : u1 30 4 = 0 := by rw [hu1]; simp (disch := omega) only [up2_n, up2_s]
  have p5 : u1 30 5 = 0 := by rw [hu1]; simp (disch := omega) only [up2_n, up2_s]
  have p6 : u1 30 6 = 0 := by rw [hu1]; simp (disch := omega) only [up2_n, up2_s]
  have m8 : w1 400 58 = 0 := by rw [hw1]; simp (disch := omega) only [up2_n, up2_s]
  have m9 : w1 400 59 = 0 := by rw [hw1]; simp (disch := omega) only [up2_n, up2_s]
  have hF1 : WF T u1 := hF.of (fun s f hs => f1 _ _ (by omega)) (fun s f hs => f1 _ _ (by omega)) (fun s f hs => f1 _ _ (by omega)) (f1 _ _ (by omega)) (f1 _ _ (by omega))
  have hcc : (u1 1 3).toInt ≤ (cnt : Int) := by rw [f1 _ _ (by omega), hc, ofNat_int (by omega)]; omega
  have hc' : (u1 1 3).toInt ≤ 20 := by omega
  have hW2 : RelW (f_X6_sail_1 u1 wi) (f_X11_arrive_400 w1 wi) := sail_rel hW1 hc' wi
  have hF2 : WF T (f_X6_sail_1 u1 wi) := hF1.sail hc' wi
  have f2 : ∀ a j, a < 100 ∨ 100 + cnt ≤ a ∨ j ≤ 4 → f_X6_sail_1 u1 wi a j = u1 a j := fun a j z => by rw [f_X6_sail_1]; exact sails_fr2 hc20 z 100000 0 u1 hcc (by decide)
  have g2 : ∀ a j, a ≠ 408 ∧ a ≠ 410 ∧ a ≠ 411 ∧ a ≠ 415 → f_X11_arrive_400 w1 wi a j = w1 a j := fun a j z => by rw [f_X11_arrive_400]; exact arrives_fr z 100000 0 w1
  have ego : f_X11_go_400 w wi co 0 od 0 = g_X11_go_400_35 wi co 0 od 0 100000 0 (f_X11_market_400 (f_X11_arrive_400 w1 wi) od 0) := by
    rw [f_X11_go_400, hw1]
    simp only [bnd_eq]
    rw [if_pos trivial]
  rw [ego]
  generalize f_X6_sail_1 u1 wi = u2 at hW2 hF2 f2
  generalize f_X11_arrive_400 w1 wi = w2 at hW2 g2
  have hO2 : OT u2 w2 k od := by
    rcases hO with ⟨q1, q2, q3, q4, q5⟩ | ⟨o, q1, q2, q3, q4⟩
    · exact Or.inl ⟨q1, q2, by rw [f2 _ _ (by omega), f1 _ _ (by omega)]; exact q3, by rw [f2 _ _ (by omega), f1 _ _ (by omega)]; exact q4, by rw [f2 _ _ (by omega), f1 _ _ (by omega)]; exact q5⟩
    · exact Or.inr ⟨o, q1, q2, q3, q4.kp (fun a j z => by rw [f2 _ _ (by omega), f1 _ _ (by omega)]) (fun a j z => by rw [g2 _ _ (by omega), g1 _ _ (by omega)]) (fun a p z => by rw [g2 _ _ (by omega), g1 _ _ (by omega)])⟩
  have e30 : ∀ j, u2 30 j = u1 30 j := fun j => f2 _ _ (by omega)
  obtain ⟨U, x1, x2, x3, x4, x5, x6, x7⟩ := ghost_market (T := T) (by omega) hW2 hO2 (fun o p ho => by rw [f2 _ _ (by omega), f1 _ _ (by omega)]; exact hI4 o p ho) (fun o p ho => by rw [f2 _ _ (by omega), f1 _ _ (by omega)]; exact hI7 o p ho) hF2
    (by rw [f2 _ _ (by omega), f1 _ _ (by omega)]; exact hc) hc20 (by rw [f2 _ _ (by omega), f1 _ _ (by omega)]; exact hn) hnb (by rw [e30]; exact p4) (by rw [e30]; exact p5) (by rw [e30]; exact p6) (by rw [g2 _ _ (by omega)]; exact m8) (by rw [g2 _ _ (by omega)]; exact m9)
  have ht := x4.1.2.2
  obtain ⟨d1, d2, d3, d4⟩ := day_end (T := T) (T2 := T + 1) (by omega) (wi := wi) (co := co) (fr := 0) (od := od) (nt := 0) x1 x2 x3 x4 hT (by omega) hco
  refine ⟨_, d1, d4, fun a j q1 q2 q3 q4 q5 q6 q7 => ?_, fun a j q1 q2 => ?_⟩
  · rw [f_X6_endDay_1, heats_fr (by omega) 100000 0 U (by decide), x6 a j q1 q2 q3 q4 q5 q6 q7, f2 a j (by omega)]
    by_cases q : a = 30 ∧ 4 ≤ j
    · omega
    · exact f1 a j q
  · rw [burns_fr (by omega) 100000 0 _, x7 a j q1 q2, g2 a j (by omega), g1 a j (by omega)]
/-- on the way through a trial: u0 is the class at its begin, K the reference when all lies aside -/
def TI (cnt nb : Nat) (T : Int) (u0 K u w : tV) : Prop := RelW u w ∧ RelO u w ∧ WF T u ∧ FGc cnt nb u0 u ∧ FGm K w
theorem td75_s (od dn wi co wh : Int32) (n : Nat) (y6 y7 y8 : Int32) (w : tV) : g_X11_tried_400_75 od dn wi co wh (n + 1) y6 y7 y8 w = b_X11_tried_400_75 od dn wi co wh (g_X11_tried_400_75 od dn wi co wh n) y6 y7 y8 w := rfl
theorem TI.go {cnt nb : Nat} {T : Int} (hT : T + 1 ≤ 5000) {u0 K u w : tV} {k : Nat} {od co : Int32} (wi : Int32) (hI : Inv u0) (hc : u0 1 3 = Int32.ofNat cnt) (hc20 : cnt ≤ 20) (hn : u0 1 4 = Int32.ofNat nb) (hnb : nb ≤ 10) (hco : 0 ≤ co.toInt ∧ co.toInt ≤ 4) (h : TI cnt nb T u0 K u w) (hO : OT u w k od) : ∃ U, TI cnt nb (T + 1) u0 K U (f_X11_go_400 w wi co 0 od 0) := by
  obtain ⟨a, b, c, d, e⟩ := h
  have e13 : u 1 3 = u0 1 3 := d _ _ (by omega) (by omega) (by omega) (by omega) (by omega) (by omega) (by omega)
  have e14 : u 1 4 = u0 1 4 := d _ _ (by omega) (by omega) (by omega) (by omega) (by omega) (by omega) (by omega)
  have e50 : u 50 2 = u0 50 2 := d _ _ (by omega) (by omega) (by omega) (by omega) (by omega) (by omega) (by omega)
  obtain ⟨U, x1, x2, x3, x4⟩ := ghost_go hT wi a hO (fun o p ho => by rw [d _ _ (by omega) (by omega) (by omega) (by omega) (by omega) (by omega) (by omega)]; exact hI _ _ 0 99 (RG_order4 (by omega) (by omega))) (fun o p ho => by rw [d _ _ (by omega) (by omega) (by omega) (by omega) (by omega) (by omega) (by omega)]; exact hI _ _ 0 99 (RG_osell (by omega) (by omega))) c (e13.trans hc) hc20 (e14.trans hn) hnb hco
  exact ⟨U, x1, b.kp (x3 _ _ (by omega) (by omega) (by omega) (by omega) (by omega) (by omega) (by omega)) (fun a j z => x3 _ _ (by omega) (by omega) (by omega) (by omega) (by omega) (by omega) (by omega)) (fun a j z => x4 _ _ (by omega) (by omega)) (by rw [e50]; exact (hI 50 2 0 8 rfl).2), x2, d.tr x3, e.tr x4⟩
theorem tried_loop {od dn wi co wh : Int32} {cnt nb : Nat} {u0 K : tV} (hI : Inv u0) (hc : u0 1 3 = Int32.ofNat cnt) (hc20 : cnt ≤ 20) (hn : u0 1 4 = Int32.ofNat nb) (hnb : nb ≤ 10) (hco : 0 ≤ co.toInt ∧ co.toInt ≤ 4) (hod : od.toInt ≤ (u0 50 2).toInt - 1) (hdn : dn.toInt ≤ 30) :
    ∀ (d n : Nat) (T : Int) (y6 y7 y8 : Int32) (u w : tV), y8.toInt + (d : Int) = dn.toInt → d < n → 0 ≤ y8.toInt → T + (d : Int) ≤ 5000 → TI cnt nb T u0 K u w →
      ∃ u' w', (g_X11_tried_400_75 od dn wi co wh n y6 y7 y8 w).2 = f_X11_putBack_400 w' ∧ TI cnt nb (T + (d : Int)) u0 K u' w' := by
  have z1 : (1 : Int32).toInt = 1 := rfl
  have z0 : (0 : Int32).toInt = 0 := rfl
  obtain ⟨o0, o8⟩ := hI 50 2 0 8 rfl
  intro d
  induction d with
  | zero =>
    intro n T y6 y7 y8 u w hd hn h0 hT h
    obtain ⟨n, rfl⟩ : ∃ k, n = k + 1 := ⟨n - 1, by omega⟩
    rw [td75_s]
    generalize g_X11_tried_400_75 od dn wi co wh n = rc
    simp only [b_X11_tried_400_75, bnd]
    rw [if_pos (Int32.le_iff_toInt_le.mpr (by omega))]
    refine ⟨u, w, ?_, by rw [show T + ((0 : Nat) : Int) = T from by omega]; exact h⟩
    split
    · rfl
    · split <;> rfl
  | succ d ih =>
    intro n T y6 y7 y8 u w hd hn h0 hT h
    obtain ⟨n, rfl⟩ : ∃ k, n = k + 1 := ⟨n - 1, by omega⟩
    rw [td75_s]
    have k1 : (y8 + 1).toInt = y8.toInt + 1 := by rw [i_add (by rw [z1]; omega) (by rw [z1]; omega), z1]
    have e50 : u 50 2 = u0 50 2 := h.2.2.2.1 _ _ (by omega) (by omega) (by omega) (by omega) (by omega) (by omega) (by omega)
    have eT : T + ((d + 1 : Nat) : Int) = T + 1 + (d : Int) := by omega
    rw [eT]
    simp only [b_X11_tried_400_75, bnd_eq]
    rw [if_neg (fun z => by have := i_le z; omega)]
    by_cases q : (0 : Int32) ≤ od
    · have q' := i_le q
      rw [z0] at q'
      rw [if_pos q]
      have co := clampI q'
      have c5 := clampI o0
      have hO : OT u w (60 + od.toNatClampNeg) od := Or.inr ⟨od.toNatClampNeg, by omega, by omega, rfl, h.2.1.1 _ (by rw [e50]; omega)⟩
      obtain ⟨U, hU⟩ := TI.go (by omega) wi hI hc hc20 ‹_› hnb hco h hO
      exact ih n (T + 1) y6 _ (y8 + 1) U _ (by omega) (by omega) (by omega) (by omega) hU
    · rw [if_neg q]
      have hO := rule_ot (u := u) (w := w) h.1.no.symm (by rw [e50]; exact ⟨o0, o8⟩) h.2.1 (w 400 25)
      obtain ⟨U, hU⟩ := TI.go (by omega) wi hI hc hc20 ‹_› hnb hco h hO
      exact ih n (T + 1) y6 _ (y8 + 1) U _ (by omega) (by omega) (by omega) (by omega) hU
theorem back_tried {u w : tV} (h : RelX u w) (hB : RelB u w) (hF : WF 999 u) (hI : Inv u) (od dn wi co wh : Int32) : RelW u (f_X11_tried_400 w od dn wi co wh).2 ∧ RelB u (f_X11_tried_400 w od dn wi co wh).2 := by
  have z1 : (1 : Int32).toInt = 1 := rfl
  obtain ⟨hc0, hc1⟩ := hI 1 3 0 20 rfl
  obtain ⟨hb0, hb1⟩ := hI 1 4 0 10 rfl
  obtain ⟨hg0, hg1⟩ := hI 30 4 0 30 rfl
  obtain ⟨ho0, ho1⟩ := hI 50 2 0 8 rfl
  have kc := clampI hc0
  have kb := clampI hb0
  have kg := clampI hg0
  have hc : u 1 3 = Int32.ofNat (u 1 3).toNatClampNeg := i32_ext (by rw [ofNat_int (by omega)]; omega)
  have hb : u 1 4 = Int32.ofNat (u 1 4).toNatClampNeg := i32_ext (by rw [ofNat_int (by omega)]; omega)
  have hg : u 30 4 = Int32.ofNat (u 30 4).toNatClampNeg := i32_ext (by rw [ofNat_int (by omega)]; omega)
  have hc20 : (u 1 3).toNatClampNeg ≤ 20 := by omega
  have hb10 : (u 1 4).toNatClampNeg ≤ 10 := by omega
  have hg30 : (u 30 4).toNatClampNeg ≤ 30 := by omega
  have x34 : (w 400 34 - 1).toInt = (u 50 2).toInt - 1 := by rw [← h.1.no, i_sub (by rw [z1]; omega) (by rw [z1]; omega), z1]
  rw [f_X11_tried_400]
  simp only [bnd_eq, z_0, z_1, z_2, z_4, z_9, z_30, x34]
  split
  case isFalse => exact ⟨h.1, hB⟩
  rename_i c0
  split
  case isFalse => exact ⟨h.1, hB⟩
  rename_i c1
  split
  case isFalse => exact ⟨h.1, hB⟩
  split
  case isFalse => exact ⟨h.1, hB⟩
  rename_i c3
  split
  case isFalse => exact ⟨h.1, hB⟩
  obtain ⟨k0, k1⟩ := keep_all (w := w) (h.1.n.symm.trans hc) hc20 (h.1.nb.symm.trans hb) hb10 (h.1.bg.symm.trans hg) hg30
  have hW1 : RelW u (f_X11_keep_400 w) := RelW.below h.1 (fun _ _ _ _ => rfl) (fun a j p1 _ => k0 a j p1)
  have hTI : TI (u 1 3).toNatClampNeg (u 1 4).toNatClampNeg 999 u (f_X11_keep_400 w) u (f_X11_keep_400 w) :=
    ⟨hW1, h.2.2.kp rfl (fun _ _ _ => rfl) (fun a j z => k0 a j (by omega)) ho1, hF, fun _ _ _ _ _ _ _ _ _ => rfl, fun _ _ _ _ => rfl⟩
  have cd := clampI (x := dn) (by omega)
  obtain ⟨U, W, e1, e2⟩ := tried_loop (od := od) (dn := dn) (wi := wi) (co := co) (wh := wh) hI hc hc20 hb hb10 c3 c0.2 c1.2 dn.toNatClampNeg 100000 999 (f_X11_allLacks_400 (f_X11_keep_400 w)) 0 0 u (f_X11_keep_400 w) (by have z0 : (0 : Int32).toInt = 0 := rfl; omega) (by omega) (by decide) (by omega) hTI
  rw [e1]
  obtain ⟨r1, -, -, r4, r5⟩ := e2
  have eC : ∀ a j, ¬ (100 ≤ a ∧ a < 100 + (u 1 3).toNatClampNeg ∧ 5 ≤ j) → ¬ (200 ≤ a ∧ a < 200 + (u 1 4).toNatClampNeg ∧ j = 2) → (a < 300 ∨ 306 ≤ a) → (a < 20 ∨ 39 ≤ a) → ¬ (a = 1 ∧ (j = 5 ∨ j = 6)) → U a j = u a j := fun a j p1 p2 p3 p4 p5 => r4 a j p1 p2 (by omega) (by omega) (by omega) p5 (by omega)
  have hK : KS (u 1 3).toNatClampNeg 6 (u 1 4).toNatClampNeg True (u 30 4).toNatClampNeg w W := by
    obtain ⟨a1, a2, a3, a4, a5⟩ := k1
    refine ⟨fun s i hs hi => ?_, fun s i hs hi => ?_, fun s hs => ?_, fun z => ?_, fun s i hs hi => ?_⟩
    · rw [r5 _ _ (by omega) (by omega)]; exact a1 s i hs hi
    · rw [r5 _ _ (by omega) (by omega)]; exact a2 s i hs hi
    · rw [r5 _ _ (by omega) (by omega)]; exact a3 s hs
    · rw [r5 _ _ (by omega) (by omega), r5 _ _ (by omega) (by omega), r5 _ _ (by omega) (by omega)]; exact a4 z
    · rw [r5 _ _ (by omega) (by omega)]; exact a5 s i hs hi
  have n1 : W 400 1 = Int32.ofNat (u 1 3).toNatClampNeg := by rw [← r1.n, eC _ _ (by omega) (by omega) (by omega) (by omega) (by omega)]; exact hc
  have n15 : W 400 15 = Int32.ofNat (u 1 4).toNatClampNeg := by rw [← r1.nb, eC _ _ (by omega) (by omega) (by omega) (by omega) (by omega)]; exact hb
  obtain ⟨b0, b1, b2, b3, b4, b5⟩ := back_all hK n1 hc20 n15 hb10 (h.1.bg.symm.trans hg) hg30
  obtain ⟨t25, t26, t27⟩ := b4 trivial
  generalize f_X11_putBack_400 W = P at b0 b1 b2 b3 t25 t26 t27 b5
  have sc : ∀ a j m, U a j = W 400 m → U a j = u a j → ¬ (m = 25 ∨ m = 26 ∨ m = 27 ∨ m = 58 ∨ m = 59) → u a j = P 400 m := fun a j m p1 p2 p3 => by
    rw [b0 400 m (by omega) (by omega) (by omega) (by omega) (by omega), ← p1]; exact p2.symm
  refine ⟨⟨fun s f hs hf => ?_, fun s f hs hf => ?_, fun s f hs hf1 hf => ?_, fun s f hs hf => ?_, sc _ _ _ r1.n (eC _ _ (by omega) (by omega) (by omega) (by omega) (by omega)) (by omega), sc _ _ _ r1.nb (eC _ _ (by omega) (by omega) (by omega) (by omega) (by omega)) (by omega), sc _ _ _ r1.le (eC _ _ (by omega) (by omega) (by omega) (by omega) (by omega)) (by omega), sc _ _ _ r1.mo (eC _ _ (by omega) (by omega) (by omega) (by omega) (by omega)) (by omega), sc _ _ _ r1.no (eC _ _ (by omega) (by omega) (by omega) (by omega) (by omega)) (by omega), sc _ _ _ r1.nt (eC _ _ (by omega) (by omega) (by omega) (by omega) (by omega)) (by omega), h.1.to.trans t25.symm, h.1.pr.trans t26.symm, sc _ _ _ r1.mk (eC _ _ (by omega) (by omega) (by omega) (by omega) (by omega)) (by omega), h.1.bg.trans t27.symm⟩, fun i hi => ?_⟩
  · by_cases q : f ≤ 4
    · rw [b0 (403 + f) s (by omega) (by omega) (by omega) (by omega) (by omega), ← r1.ship s f hs hf]
      exact (eC _ _ (by omega) (by omega) (by omega) (by omega) (by omega)).symm
    · have e := b1 (f - 5) s (by omega)
      rw [show 408 + (f - 5) = 403 + f from by omega] at e
      rw [e]
      by_cases q2 : s < (u 1 3).toNatClampNeg
      · rw [if_pos q2]; exact h.1.ship s f hs hf
      · rw [if_neg q2, ← r1.ship s f hs hf]
        exact (eC _ _ (by omega) (by omega) (by omega) (by omega) (by omega)).symm
  · by_cases q : f = 2
    · subst q
      rw [show 417 + 2 = 419 from rfl, b3 s]
      by_cases q2 : s < (u 1 4).toNatClampNeg
      · rw [if_pos q2]; exact h.1.buyer s 2 hs hf
      · rw [if_neg q2]
        have e := r1.buyer s 2 hs hf
        rw [show 417 + 2 = 419 from rfl] at e
        rw [← e]
        exact (eC _ _ (by omega) (by omega) (by omega) (by omega) (by omega)).symm
    · rw [b0 (417 + f) s (by omega) (by omega) (by omega) (by omega) (by omega), ← r1.buyer s f hs hf]
      exact (eC _ _ (by omega) (by omega) (by omega) (by omega) (by omega)).symm
  · have e := b2 (f - 1) s (by omega)
    rw [show 421 + (f - 1) = 420 + f from by omega, if_pos hs] at e
    rw [e]; exact h.1.ward s f hs hf1 hf
  · rw [b0 425 _ (by omega) (by omega) (by omega) (by omega) (by omega), ← r1.burn s f hs hf]
    exact (eC _ _ (by omega) (by omega) (by omega) (by omega) (by omega)).symm
  · have e : ∀ k, k < 4 → P (429 + k) i = w (429 + k) i := fun k hk => by rw [b5 k i hk, if_pos hi]
    rw [show P 429 i = w 429 i from e 0 (by omega), show P 430 i = w 430 i from e 1 (by omega), show P 431 i = w 431 i from e 2 (by omega), show P 432 i = w 432 i from e 3 (by omega)]
    exact hB i hi
