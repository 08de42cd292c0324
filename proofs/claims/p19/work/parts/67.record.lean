/-! A DAY KEEPS THE RECORD -/
theorem market_snap {T : Int} (hT : T ≤ 5000) {u w : tV} {k cnt nb : Nat} {od : Int32} (hW : RelW u w) (hO : OT u w k od) (hI4 : ∀ o (_ : Nat), o ≤ 8 → Rg (u (60 + o) 4) 0 99) (hI7 : ∀ o p, o ≤ 8 → Rg (u (60 + o + 10) p) 0 99) (hF : WF T u) (hc : u 1 3 = Int32.ofNat cnt) (hc20 : cnt ≤ 20) (hn : u 1 4 = Int32.ofNat nb) (hnb : nb ≤ 10)
    (h4 : u 30 4 = 0) (h5 : u 30 5 = 0) (h6 : u 30 6 = 0) (m58 : w 400 58 = 0) (m59 : w 400 59 = 0) :
    ∃ U M, f_X6_trade_1_21_30 (up2 (f_X6_copy_2_1 (f_X5_line_21_1 u k)) 0 10 1) = U ∧ f_X11_market_400 w od 1 = M ∧ RelM U M := by
  obtain ⟨⟨s1, s2, s3⟩, ⟨t1, t2, t3⟩, hbn⟩ := id hF
  have ecl : (u 1 3).toNatClampNeg = cnt := by rw [hc]; exact clampN (by omega)
  rw [ecl] at t1
  have hG : ∀ t, t < 20 → u (100 + t) 0 = 2 → u (100 + t) 7 ≠ 2 := fun t ht => (t1 t ht).2.2.2.2.1
  obtain ⟨sz, lg⟩ := line_rel_21 hW hI4 hI7 (hF.1.up hT) hO hG hc hc20
  obtain ⟨fq, ft, q2, q44, hsz, hent, hinj⟩ := id lg
  have hkab := cKab (fun i => u (100 + i) 0) cnt
  have em : f_X11_market_400 w od 1 = g_X11_market_400_15 od 1 100000 0 (f_X11_note_400 (f_X11_findTurns_400 w od)) := by
    rw [f_X11_market_400]
    simp only [bnd_eq]
    rw [if_neg (by decide)]
  have ec : ∀ v, f_X6_trade_1_21_30 v = g_X6_trade_1_21_30_2 100000 0 v := fun v => by rw [f_X6_trade_1_21_30]
  rw [em, ec]
  have hW1 : RelW (f_X5_line_21_1 u k) (f_X11_findTurns_400 w od) := RelW.line (Or.inr rfl) hW fq ft
  generalize f_X5_line_21_1 u k = u1 at fq q2 hent hinj hW1
  generalize f_X11_findTurns_400 w od = w1 at ft q44 hent hW1
  have ef : ∀ a j, a ≠ 21 ∧ a ≠ 23 ∧ a ≠ 25 → u1 a j = u a j := fun a j z => fq a j z.1 z.2.1 z.2.2
  have c13 : (u1 1 3).toInt ≤ 20 := by rw [ef 1 3 (by omega), hc, ofNat_int (by omega)]; omega
  have c14 : (u1 1 4).toInt ≤ 10 := by rw [ef 1 4 (by omega), hn, ofNat_int (by omega)]; omega
  have fC : ∀ a j, CP a → f_X6_copy_2_1 u1 a j = u1 a j := fun a j z => copy_fr z c13 c14
  have e57 : up2 (f_X11_note_400 w1) 400 57 1 = f_X11_note_400 w1 := by
    have := up2_id (f_X11_note_400 w1) 400 57
    rw [note_mk] at this
    exact this
  have hW2 : RelW (up2 (f_X6_copy_2_1 u1) 0 10 1) (f_X11_note_400 w1) := by
    have z : RelW (f_X6_copy_2_1 u1) (up2 (f_X11_note_400 w1) 400 57 (w1 400 57)) := RelW.note hW1 (fun a j p1 p2 => fC a j ⟨p1, p2⟩) (fun a j p1 p2 => by
      by_cases q : a = 400 ∧ j = 57
      · obtain ⟨rfl, rfl⟩ := q
        exact up2_s _ _ _ _
      · rw [up2_n _ _ q]
        exact note_fr (by unfold NT; omega))
    have z2 := z.put_mk 1
    rw [up2_up2, e57] at z2
    exact z2
  have fN : ∀ a j, a < 450 → ¬ (a = 400 ∧ 53 ≤ j ∧ j ≤ 57) → f_X11_note_400 w1 a j = w1 a j := fun a j p1 p2 => note_fr (by unfold NT; omega)
  have fU : ∀ a j, CP a → a ≠ 21 ∧ a ≠ 23 ∧ a ≠ 25 ∧ a ≠ 0 → up2 (f_X6_copy_2_1 u1) 0 10 1 a j = u a j := fun a j p1 p2 => by
    rw [up2_n _ _ (by omega), fC a j p1]; exact ef a j (by omega)
  have gU : ∀ j, up2 (f_X6_copy_2_1 u1) 0 10 1 21 j = u1 21 j := fun j => by rw [up2_n _ _ (by omega)]; exact fC _ _ (by unfold CP; omega)
  have gV : ∀ j, up2 (f_X6_copy_2_1 u1) 0 10 1 23 j = u1 23 j := fun j => by rw [up2_n _ _ (by omega)]; exact fC _ _ (by unfold CP; omega)
  have hM : RelM (up2 (f_X6_copy_2_1 u1) 0 10 1) (f_X11_note_400 w1) := snap_rel hc20 hnb (by omega) hW1 (by rw [ef _ _ (by omega)]; exact hc) (by rw [ef _ _ (by omega)]; exact hn) q2 q44
    (fun t ht => by rw [ef _ _ (by omega), ef _ _ (by omega)]; obtain ⟨b1, b2, b3, -⟩ := t1 t ht; exact ⟨b1, b2, b3⟩) (fun b hb => by rw [ef _ _ (by omega)]; exact t2 b hb) (fun b hb => by rw [ef _ _ (by omega)]; exact t3 b hb)
    (fun i hi => by obtain ⟨t, p1, -, p3⟩ := hent i hi; exact ⟨t, p1, p3⟩) hinj
  generalize up2 (f_X6_copy_2_1 u1) 0 10 1 = u2 at hW2 fU gU gV hM
  generalize f_X11_note_400 w1 = w2 at hW2 fN hM
  have fs : ∀ t j, t < 20 → u2 (100 + t) j = u (100 + t) j := fun t j ht => fU _ _ (by unfold CP; omega) (by omega)
  have fb : ∀ t j, t < 10 → u2 (200 + t) j = u (200 + t) j := fun t j ht => fU _ _ (by unfold CP; omega) (by omega)
  have e4 : u2 30 4 = 0 := by rw [fU _ _ (by unfold CP; omega) (by omega)]; exact h4
  have e5 : u2 30 5 = 0 := by rw [fU _ _ (by unfold CP; omega) (by omega)]; exact h5
  have e6 : u2 30 6 = 0 := by rw [fU _ _ (by unfold CP; omega) (by omega)]; exact h6
  have e58 : w2 400 58 = 0 := by rw [fN _ _ (by omega) (by omega), ft _ _ (by omega) (by omega)]; exact m58
  have e59 : w2 400 59 = 0 := by rw [fN _ _ (by omega) (by omega), ft _ _ (by omega) (by omega)]; exact m59
  have z0 : (0 : Int32).toInt = 0 := rfl
  have hcw := cW_le (fun b => u2 (200 + b) 2) nb
  have hTD : TD 0 sz nb cnt u2 w2 := by
    refine ⟨hW2, fun i hi => ?_, by rw [e5, e58], by rw [e6, e59], ?_, ?_, ?_, ⟨fun t ht => ?_, fun b hb => ?_, fun b hb => ?_⟩, ⟨0, by rw [e4]; rfl, by rw [e5, z0]; omega, by omega⟩, fun j _ hj => ?_, fun j l hjl hl => ?_⟩
    · rw [e4] at hi; exact absurd hi (Nat.not_lt_zero i)
    · rw [fU _ _ (by unfold CP; omega) (by omega)]; exact hn
    · rw [gU]; exact q2
    · rw [fN _ _ (by omega) (by omega)]; exact q44
    · rw [fs t 6 ht, fs t 7 ht, fs t 0 ht]; exact t1 t ht
    · rw [fb b 2 hb]; exact t2 b hb
    · rw [fb b 0 hb]; exact t3 b hb
    · obtain ⟨t, p1, p2, p3, p4⟩ := hent j hj
      have ht20 : t < 20 := by omega
      refine ⟨t, p1, by rw [gV]; exact p3, by rw [fN _ _ (by omega) (by omega)]; exact p4, ?_, ?_⟩
      · rw [fs t 6 ht20]
        refine (t1 t ht20).2.2.2.2.2 p1 ?_
        have y1 : (1 : Int32).toInt = 1 := rfl
        have y2 : (2 : Int32).toInt = 2 := rfl
        rcases p2 with ⟨-, p2 | p2⟩ | ⟨⟨-, p2⟩, -⟩ <;> rw [p2] <;> omega
      · rw [fs t 0 ht20]
        rcases p2 with ⟨p2, -⟩ | ⟨⟨p2, -⟩, -⟩
        · exact Or.inl p2
        · exact Or.inr p2
    · rw [gV, gV]; exact hinj j l hjl hl
  obtain ⟨⟨r1, r2, r3, r4, r5⟩, r6, r7⟩ := trade_step (od := od) (nt := 1) (sz := sz) (nb := nb) (cnt := cnt) (by omega) hnb hc20 100000 0 u2 w2 (by omega) hTD
  have eo : Int32.ofNat 0 = (0 : Int32) := rfl
  rw [eo] at r1 r2 r3 r4 r5 r6 r7
  refine ⟨_, _, rfl, rfl, ?_⟩
  generalize g_X6_trade_1_21_30_2 100000 0 u2 = U at r6
  generalize g_X11_market_400_15 od 1 100000 0 w2 = M at r7
  have k13 : U 1 3 = u2 1 3 := r6 _ _ (by omega) (by omega) (by omega) (by omega) (by omega) (by omega)
  have k14 : U 1 4 = u2 1 4 := r6 _ _ (by omega) (by omega) (by omega) (by omega) (by omega) (by omega)
  exact hM.kp (fun a j z => r6 _ _ (by omega) (by omega) (by omega) (by omega) (by omega) (by omega)) (by rw [k13]; exact Int.le_refl _) (by rw [k14]; exact Int.le_refl _) (fun t f ht _ hf => r6 _ _ (by omega) (by omega) (by omega) (by omega) (by omega) (by omega)) (fun t ht _ => r6 _ _ (by omega) (by omega) (by omega) (by omega) (by omega) (by omega)) (fun a j z => r7 _ _ (by omega) (by omega))
theorem snap_end {U M : tV} {wi co fr od nt : Int32} (hM : RelM U M) : RelM (f_X6_endDay_1 U co) (g_X11_go_400_35 wi co fr od nt 100000 0 M) := by
  rw [f_X6_endDay_1]
  have fC : ∀ a j, (a < 300 ∨ 306 ≤ a) ∧ ¬ (a = 1 ∧ j = 5) → g_X6_endDay_1_2 co 100000 0 U a j = U a j := fun a j z => heats_fr z 100000 0 U (by decide)
  have fM : ∀ a j, a ≠ 421 ∧ a ≠ 422 ∧ a ≠ 423 ∧ ¬ (a = 400 ∧ j = 25) → g_X11_go_400_35 wi co fr od nt 100000 0 M a j = M a j := fun a j z => burns_fr z 100000 0 M
  generalize g_X6_endDay_1_2 co 100000 0 U = E at fC
  generalize g_X11_go_400_35 wi co fr od nt 100000 0 M = E2 at fM
  exact hM.kp (fun a j z => fC _ _ (by omega)) (by rw [fC _ _ (by omega)]; exact Int.le_refl _) (by rw [fC _ _ (by omega)]; exact Int.le_refl _) (fun t f ht _ hf => fC _ _ (by omega)) (fun t ht _ => fC _ _ (by omega)) (fun a j z => fM _ _ (by omega))
theorem snap_day {u w : tV} (h : RelX u w) (hB : RelB u w) (hF : WF 999 u) (hI : Inv u) (hM : RelM u w) (wi co fr : Int32) : RelM (f_X10_day_0 u wi co fr).2 (f_X11_day_400 w wi co fr).2 := by
  have z0 : (0 : Int32).toInt = 0 := rfl
  have z1 : (1 : Int32).toInt = 1 := rfl
  have z999 : (999 : Int32).toInt = 999 := rfl
  obtain ⟨hc0, hc1⟩ := hI 1 3 0 20 rfl
  obtain ⟨hb0, hb1⟩ := hI 1 4 0 10 rfl
  obtain ⟨ho0, ho1⟩ := hI 50 2 0 8 rfl
  have kc := clampI hc0
  have kb := clampI hb0
  have hto := h.1.to
  obtain ⟨-, ht0, ht9⟩ := hF.1
  rw [f_X10_day_0, f_X11_day_400]
  simp only [bnd_eq, z_0, z_9, z_4, z_1]
  by_cases c1 : 0 ≤ wi.toInt ∧ wi.toInt ≤ 9
  · rw [if_pos c1, if_pos c1]
    by_cases c2 : 0 ≤ co.toInt ∧ co.toInt ≤ 4
    · rw [if_pos c2, if_pos c2]
      by_cases c3 : 0 ≤ fr.toInt ∧ fr.toInt ≤ 1
      · rw [if_pos c3, if_pos c3]
        by_cases c4 : u 1 5 < 999
        · have c4' := i_lt c4
          rw [z999] at c4'
          rw [if_pos c4, if_neg (c := w 400 25 = 999) (fun z => by rw [← hto] at z; have := i_eq z; omega), ← hto]
          have hod : f_X11_forceOn_400 w (u 1 5) = f_X11_forceOn_400 w (u 1 5) := rfl
          -- both have opened, and the ships have come
          obtain ⟨u1, hu1⟩ : ∃ z, z = f_X1_open_30 u := ⟨_, rfl⟩
          obtain ⟨w1, hw1⟩ : ∃ z, z = up2 (up2 (up2 w 400 27 0) 400 58 0) 400 59 0 := ⟨_, rfl⟩
          have ho : f_X1_open_30 u = up2 (up2 (up2 u 30 4 0) 30 5 0) 30 6 0 := by rw [f_X1_open_30]
          have hW1 : RelW u1 w1 := by
            rw [hu1, hw1, ho]
            exact ((((h.1.put_bg 0).putL (a := 30) (b := 5) 0 (by omega)).putL (a := 30) (b := 6) 0 (by omega)).putR (c := 400) (d := 58) 0 (by omega)).putR (c := 400) (d := 59) 0 (by omega)
          have f1 : ∀ a j, ¬ (a = 30 ∧ 4 ≤ j) → u1 a j = u a j := fun a j z => by
            rw [hu1, ho, up2_n _ _ (by omega), up2_n _ _ (by omega), up2_n _ _ (by omega)]
          have g1 : ∀ a j, ¬ (a = 400 ∧ (j = 27 ∨ j = 58 ∨ j = 59)) → w1 a j = w a j := fun a j z => by
            rw [hw1, up2_n _ _ (by omega), up2_n _ _ (by omega), up2_n _ _ (by omega)]
          have p4 : u1 30 4 = 0 := by rw [hu1, ho]; simp (disch := omega) only [up2_n, up2_s]
          have p5 : u1 30 5 = 0 := by rw [hu1, ho]; simp (disch := omega) only [up2_n, up2_s]
          have p6 : u1 30 6 = 0 := by rw [hu1, ho]; simp (disch := omega) only [up2_n, up2_s]
          have m8 : w1 400 58 = 0 := by rw [hw1]; simp (disch := omega) only [up2_n, up2_s]
          have m9 : w1 400 59 = 0 := by rw [hw1]; simp (disch := omega) only [up2_n, up2_s]
          have hF1 : WF 999 u1 := hF.of (fun s f hs => f1 _ _ (by omega)) (fun s f hs => f1 _ _ (by omega)) (fun s f hs => f1 _ _ (by omega)) (f1 _ _ (by omega)) (f1 _ _ (by omega))
          have hc' : (u1 1 3).toInt ≤ 20 := by rw [f1 _ _ (by omega)]; exact hc1
          have hW2 : RelW (f_X6_sail_1 u1 wi) (f_X11_arrive_400 w1 wi) := sail_rel hW1 hc' wi
          have hF2 : WF 999 (f_X6_sail_1 u1 wi) := hF1.sail hc' wi
          have f2 : ∀ a j, a < 100 ∨ 120 ≤ a ∨ j ≤ 4 → f_X6_sail_1 u1 wi a j = u1 a j := fun a j z => by rw [f_X6_sail_1]; exact sails_fr z 100000 0 u1 hc' (by decide)
          have g2 : ∀ a j, a ≠ 408 ∧ a ≠ 410 ∧ a ≠ 411 ∧ a ≠ 415 → f_X11_arrive_400 w1 wi a j = w1 a j := fun a j z => by rw [f_X11_arrive_400]; exact arrives_fr z 100000 0 w1
          have ego : ∀ od : Int32, f_X11_go_400 w wi co fr od 1 = (if fr = 0 then g_X11_go_400_35 wi co fr od 1 100000 0 (f_X11_market_400 (f_X11_arrive_400 w1 wi) od 1) else g_X11_go_400_35 wi co fr od 1 100000 0 (f_X11_arrive_400 w1 wi)) := fun od => by
            rw [f_X11_go_400, hw1]
          rw [← hu1]
          generalize f_X6_sail_1 u1 wi = u2 at hW2 hF2 f2 ⊢
          generalize f_X11_arrive_400 w1 wi = w2 at hW2 g2 ego
          have hO2 : OT u2 w2 (f_X4_ruleOn_50 u2 (u2 1 5)) (f_X11_forceOn_400 w (u 1 5)) := by
            have e15 : u2 1 5 = u 1 5 := by rw [f2 _ _ (by omega), f1 _ _ (by omega)]
            have e50 : u2 50 2 = u 50 2 := by rw [f2 _ _ (by omega), f1 _ _ (by omega)]
            have q := rule_ot (u := u2) (w := w) (by rw [e50]; exact h.1.no.symm) (by rw [e50]; exact ⟨ho0, ho1⟩) (h.2.2.kp e50 (fun a j z => by rw [f2 _ _ (by omega), f1 _ _ (by omega)]) (fun a j _ => rfl) ho1) (u 1 5)
            rw [e15]
            rcases q with q | ⟨o, q1, q2, q3, q4⟩
            · exact Or.inl q
            · exact Or.inr ⟨o, q1, q2, q3, q4.kp (fun _ _ _ => rfl) (fun a j z => by rw [g2 _ _ (by omega), g1 _ _ (by omega)]) (fun a p z => by rw [g2 _ _ (by omega), g1 _ _ (by omega)])⟩
          have e30 : ∀ j, u2 30 j = u1 30 j := fun j => f2 _ _ (by omega)
          have lt2 : (u2 1 5).toInt < 999 := by rw [f2 _ _ (by omega), f1 _ _ (by omega)]; exact c4'
          by_cases c5 : fr = 0
          · rw [if_pos c5, if_neg (c := fr = 1) (by rw [c5]; decide)]
            obtain ⟨U, M, x1, x2, x3⟩ := market_snap (T := 999) (by omega) (cnt := (u 1 3).toNatClampNeg) (nb := (u 1 4).toNatClampNeg) hW2 hO2
              (fun o p ho => by rw [f2 _ _ (by omega), f1 _ _ (by omega)]; exact hI _ _ 0 99 (RG_order4 (by omega) (by omega))) (fun o p ho => by rw [f2 _ _ (by omega), f1 _ _ (by omega)]; exact hI _ _ 0 99 (RG_osell (by omega) (by omega))) hF2
              (by rw [f2 _ _ (by omega), f1 _ _ (by omega)]; exact i32_ext (by rw [ofNat_int (by omega)]; omega)) (by omega) (by rw [f2 _ _ (by omega), f1 _ _ (by omega)]; exact i32_ext (by rw [ofNat_int (by omega)]; omega)) (by omega)
              (by rw [e30]; exact p4) (by rw [e30]; exact p5) (by rw [e30]; exact p6) (by rw [g2 _ _ (by omega)]; exact m8) (by rw [g2 _ _ (by omega)]; exact m9)
            have ego' := ego (f_X11_forceOn_400 w (u 1 5))
            rw [if_pos c5, x2, c5] at ego'
            rw [x1, ego']
            dsimp only
            exact snap_end x3
          · have c6 : fr = 1 := i32_ext (by have : fr.toInt ≠ (0 : Int32).toInt := i_ne c5; omega)
            rw [if_neg c5, if_pos (c := fr = 1) c6]
            have ego' := ego (f_X11_forceOn_400 w (u 1 5))
            rw [if_neg c5, c6] at ego'
            rw [ego']
            dsimp only
            refine snap_end (hM.kp (fun a j z => ?_) ?_ ?_ (fun t f ht _ hf => ?_) (fun t ht _ => ?_) (fun a j z => ?_))
            · rw [f2 _ _ (by omega), f1 _ _ (by omega)]
            · rw [f2 _ _ (by omega), f1 _ _ (by omega)]; exact Int.le_refl _
            · rw [f2 _ _ (by omega), f1 _ _ (by omega)]; exact Int.le_refl _
            · rw [f2 _ _ (by omega), f1 _ _ (by omega)]
            · rw [f2 _ _ (by omega), f1 _ _ (by omega)]
            · rw [g2 _ _ (by omega), g1 _ _ (by omega)]
        · have c4' := i_nlt c4
          rw [z999] at c4'
          rw [if_neg c4, if_pos (c := w 400 25 = 999) (by rw [← hto]; exact i32_ext (by omega))]
          exact hM
      · rw [if_neg c3, if_neg c3]; exact hM
    · rw [if_neg c2, if_neg c2]; exact hM
  · rw [if_neg c1, if_neg c1]; exact hM
