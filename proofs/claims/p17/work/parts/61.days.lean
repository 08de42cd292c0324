/-! A DAY: the market, and the whole -/
theorem RelW.note {u w u1 w1 : tV} (hW : RelW u w) (rC : ∀ a j, a ≠ 2 → ((a < 120 ∨ 140 ≤ a) ∧ (a < 210 ∨ 220 ≤ a) ∧ (a < 306 ∨ 312 ≤ a) ∧ (a < 326 ∨ 332 ≤ a)) → u1 a j = u a j) (rM : ∀ a j, a < 450 → ¬ (a = 400 ∧ 53 ≤ j ∧ j ≤ 56) → w1 a j = w a j) : RelW u1 w1 := ⟨fun s1 f1 c0 c1 => by rw [rC _ _ (by omega) (by omega), rM _ _ (by omega) (by omega)]; exact hW.ship s1 f1 c0 c1, fun s1 f1 c0 c1 => by rw [rC _ _ (by omega) (by omega), rM _ _ (by omega) (by omega)]; exact hW.buyer s1 f1 c0 c1, fun s1 f1 c0 c1 c2 => by rw [rC _ _ (by omega) (by omega), rM _ _ (by omega) (by omega)]; exact hW.ward s1 f1 c0 c1 c2, fun s1 f1 c0 c1 => by rw [rC _ _ (by omega) (by omega), rM _ _ (by omega) (by omega)]; exact hW.burn s1 f1 c0 c1, by rw [rC _ _ (by omega) (by omega), rM _ _ (by omega) (by omega)]; exact hW.n, by rw [rC _ _ (by omega) (by omega), rM _ _ (by omega) (by omega)]; exact hW.nb, by rw [rC _ _ (by omega) (by omega), rM _ _ (by omega) (by omega)]; exact hW.le, by rw [rC _ _ (by omega) (by omega), rM _ _ (by omega) (by omega)]; exact hW.mo, by rw [rC _ _ (by omega) (by omega), rM _ _ (by omega) (by omega)]; exact hW.no, by rw [rC _ _ (by omega) (by omega), rM _ _ (by omega) (by omega)]; exact hW.nt, by rw [rC _ _ (by omega) (by omega), rM _ _ (by omega) (by omega)]; exact hW.to, by rw [rC _ _ (by omega) (by omega), rM _ _ (by omega) (by omega)]; exact hW.pr, by rw [rC _ _ (by omega) (by omega), rM _ _ (by omega) (by omega)]; exact hW.mk, by rw [rC _ _ (by omega) (by omega), rM _ _ (by omega) (by omega)]; exact hW.bg⟩
theorem market_rel {T : Int} (hT : T ≤ 5000) {u w : tV} {k cnt nb : Nat} {od : Int32} (hW : RelW u w) (hO : OT u w k od) (hI4 : ∀ o (_ : Nat), o ≤ 8 → Rg (u (60 + o) 4) 0 99) (hI7 : ∀ o p, o ≤ 8 → Rg (u (60 + o + 10) p) 0 99) (hF : WF T u) (hc : u 1 3 = Int32.ofNat cnt) (hc20 : cnt ≤ 20) (hn : u 1 4 = Int32.ofNat nb) (hnb : nb ≤ 10)
    (h4 : u 30 4 = 0) (h5 : u 30 5 = 0) (h6 : u 30 6 = 0) (m58 : w 400 58 = 0) (m59 : w 400 59 = 0) :
    ∃ U M, f_X6_trade_1_21_30 (up2 (f_X6_copy_2_1 (f_X5_line_21_1 u k)) 0 10 1) = U ∧ f_X11_market_400 w od 1 = M ∧ RelW U M ∧ RelB U M ∧ U 30 5 = M 400 58 ∧ WF T U ∧ U 1 5 = u 1 5 := by
  obtain ⟨⟨s1, s2, s3⟩, ⟨t1, t2, t3⟩, hbn⟩ := id hF
  have ecl : (u 1 3).toNatClampNeg = cnt := by rw [hc]; exact clampN (by omega)
  rw [ecl] at t1
  have hG : ∀ t, t < 20 → u (100 + t) 0 = 2 → u (100 + t) 7 ≠ 2 := fun t ht => (t1 t ht).2.2.2.2.1
  obtain ⟨sz, lg⟩ := line_rel_21 hW hI4 hI7 (hF.1.up hT) hO hG hc hc20
  obtain ⟨fq, ft, q2, q44, hsz, hent, hinj⟩ := id lg
  have hkab := cKab (fun i => u (100 + i) 0) cnt
  have em : f_X11_market_400 w od 1 = g_X11_market_400_15 od 1 100000 0 (f_X11_note_400 (f_X11_findTurns_400 w od)) := by
    rw [f_X11_market_400]
    simp only [bnd_eq]
    rw [if_neg (by decide)]
  have ec : ∀ v, f_X6_trade_1_21_30 v = g_X6_trade_1_21_30_2 100000 0 v := fun v => by rw [f_X6_trade_1_21_30]
  rw [em, ec]
  have hW1 : RelW (f_X5_line_21_1 u k) (f_X11_findTurns_400 w od) := RelW.line (Or.inr rfl) hW fq ft
  generalize f_X5_line_21_1 u k = u1 at fq q2 hent hinj hW1
  generalize f_X11_findTurns_400 w od = w1 at ft q44 hent hW1
  have ef : ∀ a j, a ≠ 21 ∧ a ≠ 23 ∧ a ≠ 25 → u1 a j = u a j := fun a j z => fq a j z.1 z.2.1 z.2.2
  have c13 : (u1 1 3).toInt ≤ 20 := by rw [ef 1 3 (by omega), hc, ofNat_int (by omega)]; omega
  have c14 : (u1 1 4).toInt ≤ 10 := by rw [ef 1 4 (by omega), hn, ofNat_int (by omega)]; omega
  have fC : ∀ a j, CP a → f_X6_copy_2_1 u1 a j = u1 a j := fun a j z => copy_fr z c13 c14
  have e57 : up2 (f_X11_note_400 w1) 400 57 1 = f_X11_note_400 w1 := by
    have := up2_id (f_X11_note_400 w1) 400 57
    rw [note_mk] at this
    exact this
  have hW2 : RelW (up2 (f_X6_copy_2_1 u1) 0 10 1) (f_X11_note_400 w1) := by
    have z : RelW (f_X6_copy_2_1 u1) (up2 (f_X11_note_400 w1) 400 57 (w1 400 57)) := RelW.note hW1 (fun a j p1 p2 => fC a j ⟨p1, p2⟩) (fun a j p1 p2 => by
      by_cases q : a = 400 ∧ j = 57
      · obtain ⟨rfl, rfl⟩ := q
        exact up2_s _ _ _ _
      · rw [up2_n _ _ q]
        exact note_fr (by unfold NT; omega))
    have z2 := z.put_mk 1
    rw [up2_up2, e57] at z2
    exact z2
  have fN : ∀ a j, a < 450 → ¬ (a = 400 ∧ 53 ≤ j ∧ j ≤ 57) → f_X11_note_400 w1 a j = w1 a j := fun a j p1 p2 => note_fr (by unfold NT; omega)
  have fU : ∀ a j, CP a → a ≠ 21 ∧ a ≠ 23 ∧ a ≠ 25 ∧ a ≠ 0 → up2 (f_X6_copy_2_1 u1) 0 10 1 a j = u a j := fun a j p1 p2 => by
    rw [up2_n _ _ (by omega), fC a j p1]; exact ef a j (by omega)
  have gU : ∀ j, up2 (f_X6_copy_2_1 u1) 0 10 1 21 j = u1 21 j := fun j => by rw [up2_n _ _ (by omega)]; exact fC _ _ (by unfold CP; omega)
  have gV : ∀ j, up2 (f_X6_copy_2_1 u1) 0 10 1 23 j = u1 23 j := fun j => by rw [up2_n _ _ (by omega)]; exact fC _ _ (by unfold CP; omega)
  generalize up2 (f_X6_copy_2_1 u1) 0 10 1 = u2 at hW2 fU gU gV
  generalize f_X11_note_400 w1 = w2 at hW2 fN
  have fs : ∀ t j, t < 20 → u2 (100 + t) j = u (100 + t) j := fun t j ht => fU _ _ (by unfold CP; omega) (by omega)
  have fb : ∀ t j, t < 10 → u2 (200 + t) j = u (200 + t) j := fun t j ht => fU _ _ (by unfold CP; omega) (by omega)
  have e4 : u2 30 4 = 0 := by rw [fU _ _ (by unfold CP; omega) (by omega)]; exact h4
  have e5 : u2 30 5 = 0 := by rw [fU _ _ (by unfold CP; omega) (by omega)]; exact h5
  have e6 : u2 30 6 = 0 := by rw [fU _ _ (by unfold CP; omega) (by omega)]; exact h6
  have e58 : w2 400 58 = 0 := by rw [fN _ _ (by omega) (by omega), ft _ _ (by omega) (by omega)]; exact m58
  have e59 : w2 400 59 = 0 := by rw [fN _ _ (by omega) (by omega), ft _ _ (by omega) (by omega)]; exact m59
  have z0 : (0 : Int32).toInt = 0 := rfl
  have hcw := cW_le (fun b => u2 (200 + b) 2) nb
  have hTD : TD 0 sz nb cnt u2 w2 := by
    refine ⟨hW2, fun i hi => ?_, by rw [e5, e58], by rw [e6, e59], ?_, ?_, ?_, ⟨fun t ht => ?_, fun b hb => ?_, fun b hb => ?_⟩, ⟨0, by rw [e4]; rfl, by rw [e5, z0]; omega, by omega⟩, fun j _ hj => ?_, fun j l hjl hl => ?_⟩
    · rw [e4] at hi; exact absurd hi (Nat.not_lt_zero i)
    · rw [fU _ _ (by unfold CP; omega) (by omega)]; exact hn
    · rw [gU]; exact q2
    · rw [fN _ _ (by omega) (by omega)]; exact q44
    · rw [fs t 6 ht, fs t 7 ht, fs t 0 ht]; exact t1 t ht
    · rw [fb b 2 hb]; exact t2 b hb
    · rw [fb b 0 hb]; exact t3 b hb
    · obtain ⟨t, p1, p2, p3, p4⟩ := hent j hj
      have ht20 : t < 20 := by omega
      refine ⟨t, p1, by rw [gV]; exact p3, by rw [fN _ _ (by omega) (by omega)]; exact p4, ?_, ?_⟩
      · rw [fs t 6 ht20]
        refine (t1 t ht20).2.2.2.2.2 p1 ?_
        have y1 : (1 : Int32).toInt = 1 := rfl
        have y2 : (2 : Int32).toInt = 2 := rfl
        rcases p2 with ⟨-, p2 | p2⟩ | ⟨⟨-, p2⟩, -⟩ <;> rw [p2] <;> omega
      · rw [fs t 0 ht20]
        rcases p2 with ⟨p2, -⟩ | ⟨⟨p2, -⟩, -⟩
        · exact Or.inl p2
        · exact Or.inr p2
    · rw [gV, gV]; exact hinj j l hjl hl
  obtain ⟨⟨r1, r2, r3, r4, r5⟩, r6, r7⟩ := trade_step (od := od) (nt := 1) (sz := sz) (nb := nb) (cnt := cnt) (by omega) hnb hc20 100000 0 u2 w2 (by omega) hTD
  have eo : Int32.ofNat 0 = (0 : Int32) := rfl
  rw [eo] at r1 r2 r3 r4 r5 r6 r7
  refine ⟨_, _, rfl, rfl, r1, r2, r3, ?_, ?_⟩
  · generalize g_X6_trade_1_21_30_2 100000 0 u2 = U at r1 r2 r3 r4 r5 r6
    generalize g_X11_market_400_15 od 1 100000 0 w2 = M at r1 r2 r3 r4 r7
    have k3 : ∀ s, s < 20 → U (100 + s) 3 = u (100 + s) 3 := fun s hs => (r6 _ _ (by omega) (by omega) (by omega) (by omega) (by omega) (by omega)).trans (fs s 3 hs)
    have k8 : ∀ s, s < 20 → U (100 + s) 8 = u (100 + s) 8 := fun s hs => by
      have a1 := r1.ship s 8 hs (by omega)
      have a2 := hW2.ship s 8 hs (by omega)
      have a3 : M (403 + 8) s = w2 (403 + 8) s := r7 _ _ (by omega) (by omega)
      rw [a1, a3, ← a2]; exact fs s 8 hs
    have k13 : U 1 3 = u 1 3 := (r6 _ _ (by omega) (by omega) (by omega) (by omega) (by omega) (by omega)).trans (fU _ _ (by unfold CP; omega) (by omega))
    have k15 : U 1 5 = u 1 5 := (r6 _ _ (by omega) (by omega) (by omega) (by omega) (by omega) (by omega)).trans (fU _ _ (by unfold CP; omega) (by omega))
    refine ⟨⟨fun s hs => ?_, by rw [k15]; exact s2, by rw [k15]; exact s3⟩, by rw [k13, ecl]; exact r5, fun s f hs hf => ?_⟩
    · rw [k3 s hs, k8 s hs]
      obtain ⟨a1, a2, -, -, a5, a6⟩ := s1 s hs
      obtain ⟨b1, b2, -⟩ := r5.1 s hs
      exact ⟨a1, a2, b1, b2, a5, a6⟩
    · rw [r6 _ _ (by omega) (by omega) (by omega) (by omega) (by omega) (by omega), fU _ _ (by unfold CP; omega) (by omega)]
      exact hbn s f hs hf
  · exact (r6 _ _ (by omega) (by omega) (by omega) (by omega) (by omega) (by omega)).trans (fU _ _ (by unfold CP; omega) (by omega))
theorem day_end {T T2 : Int} (hT : T ≤ T2) {U M : tV} {wi co fr od nt : Int32} (hW : RelW U M) (hB : RelB U M) (h5 : U 30 5 = M 400 58) (hF : WF T U) (hm : T2 ≤ 5000) (hlt : (U 1 5).toInt + 1 ≤ T2) (hco : 0 ≤ co.toInt ∧ co.toInt ≤ 4) :
    RelW (f_X6_endDay_1 U co) (g_X11_go_400_35 wi co fr od nt 100000 0 M) ∧ RelB (f_X6_endDay_1 U co) (g_X11_go_400_35 wi co fr od nt 100000 0 M) ∧ (f_X6_endDay_1 U co) 30 5 = (g_X11_go_400_35 wi co fr od nt 100000 0 M) 400 58 ∧ WF T2 (f_X6_endDay_1 U co) := by
  have z1 : (1 : Int32).toInt = 1 := rfl
  rw [f_X6_endDay_1]
  have hr := heat_step (wi := wi) (fr := fr) (od := od) (nt := nt) hco 100000 0 U M hW (by decide)
  have fC : ∀ a j, (a < 300 ∨ 306 ≤ a) ∧ ¬ (a = 1 ∧ j = 5) → g_X6_endDay_1_2 co 100000 0 U a j = U a j := fun a j z => heats_fr z 100000 0 U (by decide)
  have fM : ∀ a j, a ≠ 421 ∧ a ≠ 422 ∧ a ≠ 423 ∧ ¬ (a = 400 ∧ j = 25) → g_X11_go_400_35 wi co fr od nt 100000 0 M a j = M a j := fun a j z => burns_fr z 100000 0 M
  have fD : g_X6_endDay_1_2 co 100000 0 U 1 5 = U 1 5 + 1 := heats_day 6 100000 0 U (by decide) (by decide) (by decide)
  generalize g_X6_endDay_1_2 co 100000 0 U = E at hr fC fD
  generalize g_X11_go_400_35 wi co fr od nt 100000 0 M = E2 at hr fM
  obtain ⟨⟨a, a2, a3⟩, ⟨b, c, d⟩, e⟩ := hF
  have k1 : (U 1 5 + 1).toInt = (U 1 5).toInt + 1 := by rw [i_add (by rw [z1]; omega) (by rw [z1]; omega), z1]
  refine ⟨hr, fun i hi => ?_, by rw [fC _ _ (by omega), fM _ _ (by omega)]; exact h5, ⟨fun s h1 => ?_, by rw [fD, k1]; omega, by rw [fD, k1]; omega⟩, ⟨fun t h1 => ?_, fun s h1 => ?_, fun s h1 => ?_⟩, fun s f h1 h2 => ?_⟩
  · rw [fC _ _ (by omega)] at hi
    rw [fC _ _ (by omega), fC _ _ (by omega), fC _ _ (by omega), fC _ _ (by omega), fM _ _ (by omega), fM _ _ (by omega), fM _ _ (by omega), fM _ _ (by omega)]
    exact hB i hi
  · rw [fC (100 + s) 3 (by omega), fC (100 + s) 6 (by omega), fC (100 + s) 8 (by omega)]; obtain ⟨p1, p2, p3, p4, p5, p6⟩ := a s h1; exact ⟨p1, p2, p3, p4, p5, by omega⟩
  · rw [fC (100 + t) 6 (by omega), fC (100 + t) 7 (by omega), fC (100 + t) 0 (by omega), fC 1 3 (by omega)]; exact b t h1
  · rw [fC (200 + s) 2 (by omega)]; exact c s h1
  · rw [fC (200 + s) 0 (by omega)]; exact d s h1
  · rw [fC (320 + s) f (by omega)]; exact e s f h1 h2
theorem sim_day {u w : tV} (h : RelX u w) (hB : RelB u w) (hF : WF 999 u) (hI : Inv u) (wi co fr : Int32) : RelW (f_X10_day_0 u wi co fr).2 (f_X11_day_400 w wi co fr).2 ∧ RelB (f_X10_day_0 u wi co fr).2 (f_X11_day_400 w wi co fr).2 ∧ WF 999 (f_X10_day_0 u wi co fr).2 ∧ (f_X10_day_0 u wi co fr).1 = (f_X11_day_400 w wi co fr).1 := by
  have z0 : (0 : Int32).toInt = 0 := rfl
  have z1 : (1 : Int32).toInt = 1 := rfl
  have z999 : (999 : Int32).toInt = 999 := rfl
  obtain ⟨hc0, hc1⟩ := hI 1 3 0 20 rfl
  obtain ⟨hb0, hb1⟩ := hI 1 4 0 10 rfl
  obtain ⟨ho0, ho1⟩ := hI 50 2 0 8 rfl
  have kc := clampI hc0
  have kb := clampI hb0
  have hto := h.1.to
  obtain ⟨-, ht0, ht9⟩ := hF.1
  rw [f_X10_day_0, f_X11_day_400]
  simp only [bnd_eq, z_0, z_9, z_4, z_1]
  by_cases c1 : 0 ≤ wi.toInt ∧ wi.toInt ≤ 9
  · rw [if_pos c1, if_pos c1]
    by_cases c2 : 0 ≤ co.toInt ∧ co.toInt ≤ 4
    · rw [if_pos c2, if_pos c2]
      by_cases c3 : 0 ≤ fr.toInt ∧ fr.toInt ≤ 1
      · rw [if_pos c3, if_pos c3]
        by_cases c4 : u 1 5 < 999
        · have c4' := i_lt c4
          rw [z999] at c4'
          rw [if_pos c4, if_neg (c := w 400 25 = 999) (fun z => by rw [← hto] at z; have := i_eq z; omega), ← hto]
          have hod : f_X11_forceOn_400 w (u 1 5) = f_X11_forceOn_400 w (u 1 5) := rfl
          -- both have opened, and the ships have come
          obtain ⟨u1, hu1⟩ : ∃ z, z = f_X1_open_30 u := ⟨_, rfl⟩
          obtain ⟨w1, hw1⟩ : ∃ z, z = up2 (up2 (up2 w 400 27 0) 400 58 0) 400 59 0 := ⟨_, rfl⟩
          have ho : f_X1_open_30 u = up2 (up2 (up2 u 30 4 0) 30 5 0) 30 6 0 := by rw [f_X1_open_30]
          have hW1 : RelW u1 w1 := by
            rw [hu1, hw1, ho]
            exact ((((h.1.put_bg 0).putL (a := 30) (b := 5) 0 (by omega)).putL (a := 30) (b := 6) 0 (by omega)).putR (c := 400) (d := 58) 0 (by omega)).putR (c := 400) (d := 59) 0 (by omega)
          have f1 : ∀ a j, ¬ (a = 30 ∧ 4 ≤ j) → u1 a j = u a j := fun a j z => by
            rw [hu1, ho, up2_n _ _ (by omega), up2_n _ _ (by omega), up2_n _ _ (by omega)]
          have g1 : ∀ a j, ¬ (a = 400 ∧ (j = 27 ∨ j = 58 ∨ j = 59)) → w1 a j = w a j := fun a j z => by
            rw [hw1, up2_n _ _ (by omega), up2_n _ _ (by omega), up2_n _ _ (by omega)]
          have p4 : u1 30 4 = 0 := by rw [hu1, ho]; simp (disch := omega) only [up2_n, up2_s]
          have p5 : u1 30 5 = 0 := by rw [hu1, ho]; simp (disch := omega) only [up2_n, up2_s]
          have p6 : u1 30 6 = 0 := by rw [hu1, ho]; simp (disch := omega) only [up2_n, up2_s]
          have m8 : w1 400 58 = 0 := by rw [hw1]; simp (disch := omega) only [up2_n, up2_s]
          have m9 : w1 400 59 = 0 := by rw [hw1]; simp (disch := omega) only [up2_n, up2_s]
          have hF1 : WF 999 u1 := hF.of (fun s f hs => f1 _ _ (by omega)) (fun s f hs => f1 _ _ (by omega)) (fun s f hs => f1 _ _ (by omega)) (f1 _ _ (by omega)) (f1 _ _ (by omega))
          have hc' : (u1 1 3).toInt ≤ 20 := by rw [f1 _ _ (by omega)]; exact hc1
          have hW2 : RelW (f_X6_sail_1 u1 wi) (f_X11_arrive_400 w1 wi) := sail_rel hW1 hc' wi
          have hF2 : WF 999 (f_X6_sail_1 u1 wi) := hF1.sail hc' wi
          have f2 : ∀ a j, a < 100 ∨ 120 ≤ a ∨ j ≤ 4 → f_X6_sail_1 u1 wi a j = u1 a j := fun a j z => by rw [f_X6_sail_1]; exact sails_fr z 100000 0 u1 hc' (by decide)
          have g2 : ∀ a j, a ≠ 408 ∧ a ≠ 410 ∧ a ≠ 411 ∧ a ≠ 415 → f_X11_arrive_400 w1 wi a j = w1 a j := fun a j z => by rw [f_X11_arrive_400]; exact arrives_fr z 100000 0 w1
          have ego : ∀ od : Int32, f_X11_go_400 w wi co fr od 1 = (if fr = 0 then g_X11_go_400_35 wi co fr od 1 100000 0 (f_X11_market_400 (f_X11_arrive_400 w1 wi) od 1) else g_X11_go_400_35 wi co fr od 1 100000 0 (f_X11_arrive_400 w1 wi)) := fun od => by
            rw [f_X11_go_400, hw1]
          rw [← hu1]
          generalize f_X6_sail_1 u1 wi = u2 at hW2 hF2 f2 ⊢
          generalize f_X11_arrive_400 w1 wi = w2 at hW2 g2 ego
          have hO2 : OT u2 w2 (f_X4_ruleOn_50 u2 (u2 1 5)) (f_X11_forceOn_400 w (u 1 5)) := by
            have e15 : u2 1 5 = u 1 5 := by rw [f2 _ _ (by omega), f1 _ _ (by omega)]
            have e50 : u2 50 2 = u 50 2 := by rw [f2 _ _ (by omega), f1 _ _ (by omega)]
            have q := rule_ot (u := u2) (w := w) (by rw [e50]; exact h.1.no.symm) (by rw [e50]; exact ⟨ho0, ho1⟩) (h.2.2.kp e50 (fun a j z => by rw [f2 _ _ (by omega), f1 _ _ (by omega)]) (fun a j _ => rfl) ho1) (u 1 5)
            rw [e15]
            rcases q with q | ⟨o, q1, q2, q3, q4⟩
            · exact Or.inl q
            · exact Or.inr ⟨o, q1, q2, q3, q4.kp (fun _ _ _ => rfl) (fun a j z => by rw [g2 _ _ (by omega), g1 _ _ (by omega)]) (fun a p z => by rw [g2 _ _ (by omega), g1 _ _ (by omega)])⟩
          have e30 : ∀ j, u2 30 j = u1 30 j := fun j => f2 _ _ (by omega)
          have lt2 : (u2 1 5).toInt < 999 := by rw [f2 _ _ (by omega), f1 _ _ (by omega)]; exact c4'
          by_cases c5 : fr = 0
          · rw [if_pos c5, if_neg (c := fr = 1) (by rw [c5]; decide)]
            obtain ⟨U, M, x1, x2, x3, x4, x5, x6, x7⟩ := market_rel (T := 999) (by omega) (cnt := (u 1 3).toNatClampNeg) (nb := (u 1 4).toNatClampNeg) hW2 hO2
              (fun o p ho => by rw [f2 _ _ (by omega), f1 _ _ (by omega)]; exact hI _ _ 0 99 (RG_order4 (by omega) (by omega))) (fun o p ho => by rw [f2 _ _ (by omega), f1 _ _ (by omega)]; exact hI _ _ 0 99 (RG_osell (by omega) (by omega))) hF2
              (by rw [f2 _ _ (by omega), f1 _ _ (by omega)]; exact i32_ext (by rw [ofNat_int (by omega)]; omega)) (by omega) (by rw [f2 _ _ (by omega), f1 _ _ (by omega)]; exact i32_ext (by rw [ofNat_int (by omega)]; omega)) (by omega)
              (by rw [e30]; exact p4) (by rw [e30]; exact p5) (by rw [e30]; exact p6) (by rw [g2 _ _ (by omega)]; exact m8) (by rw [g2 _ _ (by omega)]; exact m9)
            have ego' := ego (f_X11_forceOn_400 w (u 1 5))
            rw [if_pos c5, x2, c5] at ego'
            rw [x1, ego']
            obtain ⟨d1, d2, d3, d4⟩ := day_end (T := 999) (T2 := 999) (by omega) (wi := wi) (co := co) (fr := 0) (od := f_X11_forceOn_400 w (u 1 5)) (nt := 1) x3 x4 x5 x6 (by omega) (by rw [x7]; omega) c2
            dsimp only
            exact ⟨d1, d2, d4, d3⟩
          · have c6 : fr = 1 := i32_ext (by have : fr.toInt ≠ (0 : Int32).toInt := i_ne c5; omega)
            rw [if_neg c5, if_pos (c := fr = 1) c6]
            have ego' := ego (f_X11_forceOn_400 w (u 1 5))
            rw [if_neg c5, c6] at ego'
            rw [ego']
            have hB2 : RelB u2 w2 := fun i hi => by
              rw [e30, p4] at hi
              exact absurd hi (Nat.not_lt_zero i)
            obtain ⟨d1, d2, d3, d4⟩ := day_end (T := 999) (T2 := 999) (by omega) (wi := wi) (co := co) (fr := 1) (od := f_X11_forceOn_400 w (u 1 5)) (nt := 1) hW2 hB2 (by rw [e30, p5, g2 _ _ (by omega), m8]) hF2 (by omega) (by omega) c2
            dsimp only
            exact ⟨d1, d2, d4, d3⟩
        · have c4' := i_nlt c4
          rw [z999] at c4'
          rw [if_neg c4, if_pos (c := w 400 25 = 999) (by rw [← hto]; exact i32_ext (by omega))]
          exact ⟨h.1, hB, hF, rfl⟩
      · rw [if_neg c3, if_neg c3]; exact ⟨h.1, hB, hF, rfl⟩
    · rw [if_neg c2, if_neg c2]; exact ⟨h.1, hB, hF, rfl⟩
  · rw [if_neg c1, if_neg c1]; exact ⟨h.1, hB, hF, rfl⟩
