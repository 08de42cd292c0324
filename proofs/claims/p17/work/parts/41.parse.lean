theorem TS.weak {kq : Prop} {o : Nat} {u w : tV} (h : TS kq o u w) : TS False o u w := by
  obtain ⟨a1, a2, a3, a4, a5, a6, a7, a8, a9, a10, a11⟩ := h
  exact ⟨a1, a2, a3, a4, a5, a6, fun q => q.elim, a8, a9, a10, a11⟩
theorem TS.key {kq : Prop} {o : Nat} {u w : tV} (h : TS kq o u w) (ho : o < 8) (x : Int32) (h0 : 0 ≤ x.toInt) (h1 : x.toInt ≤ 3) : TS True o (up2 u (60 + o) 5 x) (up2 w 437 o x) := by
  obtain ⟨a1, a2, a3, a4, a5, a6, a7, a8, a9, a10, a11⟩ := h
  have e1 : ∀ a j, ¬ (a = 60 + o ∧ j = 5) → up2 u (60 + o) 5 x a j = u a j := fun a j q => up2_n _ _ q
  have e2 : ∀ a j, ¬ (a = 437 ∧ j = o) → up2 w 437 o x a j = w a j := fun a j q => up2_n _ _ q
  have f1 := e1 55 1 (by omega)
  have f2 := e1 55 2 (by omega)
  have f3 := e1 (60 + o) 3 (by omega)
  refine ⟨?_, ?_, ?_, ?_, ?_, ?_, fun _ => ?_, ?_, ?_, ?_, ?_⟩
  · rw [f1, e2 400 33 (by omega)]; exact a1
  · rw [f2, e2 400 42 (by omega)]; exact a2
  · rw [f2]; exact a3
  · rw [f2, f1]; exact a4
  · rw [f1]; exact a5
  · intro i hi
    rw [f1] at hi
    rw [e1 56 i (by omega), e2 433 i (by omega)]; exact a6 i hi
  · rw [up2_s, up2_s]; exact ⟨rfl, h0, h1⟩
  · rw [f3, e2 438 o (by omega)]; exact a8
  · rw [f3]; exact a9
  · rw [f3]; exact a10
  · intro p hp
    rw [f3] at hp
    rw [e1 (70 + o) p (by omega), e1 (80 + o) p (by omega), e1 (90 + o) p (by omega), e2 439 _ (by omega), e2 440 _ (by omega), e2 441 _ (by omega)]; exact a11 p hp
theorem TS.oth {kq : Prop} {o : Nat} {u w : tV} (h : TS kq o u w) (ho : o < 8) (x : Int32) : TS kq o (up2 u (60 + o) 4 x) (up2 w 442 o x) := by
  obtain ⟨a1, a2, a3, a4, a5, a6, a7, a8, a9, a10, a11⟩ := h
  have e1 : ∀ a j, ¬ (a = 60 + o ∧ j = 4) → up2 u (60 + o) 4 x a j = u a j := fun a j q => up2_n _ _ q
  have e2 : ∀ a j, ¬ (a = 442 ∧ j = o) → up2 w 442 o x a j = w a j := fun a j q => up2_n _ _ q
  have f1 := e1 55 1 (by omega)
  have f2 := e1 55 2 (by omega)
  have f3 := e1 (60 + o) 3 (by omega)
  have f5 := e1 (60 + o) 5 (by omega)
  refine ⟨?_, ?_, ?_, ?_, ?_, ?_, fun q => ?_, ?_, ?_, ?_, ?_⟩
  · rw [f1, e2 400 33 (by omega)]; exact a1
  · rw [f2, e2 400 42 (by omega)]; exact a2
  · rw [f2]; exact a3
  · rw [f2, f1]; exact a4
  · rw [f1]; exact a5
  · intro i hi
    rw [f1] at hi
    rw [e1 56 i (by omega), e2 433 i (by omega)]; exact a6 i hi
  · rw [f5, e2 437 o (by omega)]; exact a7 q
  · rw [f3, e2 438 o (by omega)]; exact a8
  · rw [f3]; exact a9
  · rw [f3]; exact a10
  · intro p hp
    rw [f3] at hp
    rw [e1 (70 + o) p (by omega), e1 (80 + o) p (by omega), e1 (90 + o) p (by omega), e2 439 _ (by omega), e2 440 _ (by omega), e2 441 _ (by omega)]; exact a11 p hp
theorem FU.row (o : Nat) (u : tV) (j : Nat) (t : Int32) : FU o u (up2 u (60 + o) j t) := fun a b _ p2 _ _ _ => up2_n _ _ (fun q => p2 q.1)
theorem FW.row (o : Nat) (u : tV) {c : Nat} (hc : c = 437 ∨ c = 438 ∨ c = 442) (t : Int32) : FW o u (up2 u c o t) := fun a j _ p2 _ => up2_n _ _ (fun q => p2 ⟨by omega, q.2⟩)
theorem FW.prt (o : Nat) (u : tV) {c j : Nat} (hc : c = 439 ∨ c = 440 ∨ c = 441) (h1 : 3 * o ≤ j) (h2 : j < 3 * o + 3) (t : Int32) : FW o u (up2 u c j t) := fun a b _ _ p3 => up2_n _ _ (fun q => p3 ⟨by omega, by omega, by omega⟩)
/-- how a step of the reading ends on both sides -/
def KO (o : Nat) (u w : tV) (p q : Int32 × tV) : Prop := ((p.1 = 0 ∧ q.1 = 0 ∧ TS False o p.2 q.2) ∨ (p.1 = 1 ∧ q.1 = 1 ∧ TS True o p.2 q.2)) ∧ FU o u p.2 ∧ FW o w q.2 ∧ p.2 (60 + o) 3 = u (60 + o) 3
theorem ch_asc : ∀ x ∈ STAB, (CHL x.1).length = x.2.2 ∧ ∀ c ∈ CHL x.1, 0 ≤ c.toInt ∧ c.toInt ≤ 127 := by decide +kernel
theorem last_rel {o : Nat} (ho : o < 8) {u w : tV} (h : TS True o u w) (xx : Nat × String × Nat) (hx : xx ∈ STAB) : KO o u w (f_X8_word_55 u xx) (CK (CHL xx.1) (fun w => (1, w)) w) := by
  obtain ⟨t, h1, h2⟩ := word_rel ho h xx (st_le xx hx) (ch_asc xx hx).1 (ch_asc xx hx).2
  rcases h2 with ⟨e1, e2⟩ | ⟨e1, e2⟩
  · rw [e1, e2]; exact ⟨Or.inr ⟨rfl, rfl, h1⟩, FU.at o u t, FW.at o w t, up2_n _ _ (by omega)⟩
  · rw [e1, e2]; exact ⟨Or.inl ⟨rfl, rfl, h1.weak⟩, FU.at o u t, FW.at o w t, up2_n _ _ (by omega)⟩
theorem KO.tr {o : Nat} {u w u1 w1 : tV} {p q : Int32 × tV} (h : KO o u1 w1 p q) (h1 : FU o u u1) (h2 : FW o w w1) (h3 : u1 (60 + o) 3 = u (60 + o) 3) : KO o u w p q := ⟨h.1, h1.tr h.2.1, h2.tr h.2.2.1, h.2.2.2.trans h3⟩
theorem bnd2_pair (p : Int32 × tV) : (bnd2 p fun x v => (x, v)) = p := rfl
theorem key_rel {kq : Prop} {o : Nat} (ho : o < 8) {u w : tV} (h : TS kq o u w) {od : Int32} (hod : od.toNatClampNeg = o) : KO o u w (f_X8_key_55 u (60 + o)) (f_X11_takesKey_400 w od) := by
  have z1 : (1 : Int32).toInt = 1 := rfl
  obtain ⟨a1, a2, a3, a4, a5, a6, a7⟩ := id h
  obtain ⟨ta1, ta2⟩ := takes_rel h ho 97 (by decide) (by decide)
  obtain ⟨te1, te2⟩ := takes_rel h ho 101 (by decide) (by decide)
  have wa : f_X8_word_55 u (41, "a", 1) = _ := word1 (u := u) (41, "a", 1) 97 rfl rfl
  have we : f_X8_word_55 u (47, "e", 1) = _ := word1 (u := u) (47, "e", 1) 101 rfl rfl
  by_cases qa : (u 55 2).toInt < (u 55 1).toInt ∧ u 56 (u 55 2).toNatClampNeg = 97
  · have qe : ¬ ((u 55 2).toInt < (u 55 1).toInt ∧ u 56 (u 55 2).toNatClampNeg = 101) := fun z => by
      have := qa.2.symm.trans z.2
      exact absurd this (by decide)
    obtain ⟨e1, h1⟩ := ta1 qa
    have e2 := te2 qe
    rw [if_pos qa] at wa
    have hk := TS.key h1 ho 1 (by decide) (by decide)
    have e3 : f_X8_key_55 u (60 + o) = f_X8_word_55 (up2 (up2 u 55 2 (u 55 2 + 1)) (60 + o) 5 1) (45, "sk", 2) := by
      rw [f_X8_key_55, bnd_eq, wa, bnd2_eq, if_neg (by decide)]
    have e4 : f_X11_takesKey_400 w od = CK (CHL 45) (fun w => (1, w)) (up2 (up2 w 400 42 (u 55 2 + 1)) 437 o 1) := by
      rw [f_X11_takesKey_400, bnd_eq, e2, bnd2_eq, if_pos rfl, e1, bnd2_eq, if_neg (by decide), hod]; rfl
    rw [e3, e4]
    exact (last_rel ho hk (45, "sk", 2) (by decide)).tr ((FU.at o u _).tr (FU.row o _ 5 1)) ((FW.at o w _).tr (FW.row o _ (by omega) 1)) (by rw [up2_n _ _ (by omega), up2_n _ _ (by omega)])
  · rw [if_neg qa] at wa
    have e2a := ta2 qa
    by_cases qe : (u 55 2).toInt < (u 55 1).toInt ∧ u 56 (u 55 2).toNatClampNeg = 101
    · obtain ⟨e1, h1⟩ := te1 qe
      rw [if_pos qe] at we
      have hk := TS.key h1 ho 0 (by decide) (by decide)
      have e3 : f_X8_key_55 u (60 + o) = f_X8_word_55 (up2 (up2 u 55 2 (u 55 2 + 1)) (60 + o) 5 0) (49, "ntry", 4) := by
        rw [f_X8_key_55, bnd_eq, wa, bnd2_eq, if_pos rfl, we, bnd2_eq, if_neg (by decide)]
      have e4 : f_X11_takesKey_400 w od = CK (CHL 49) (fun w => (1, w)) (up2 (up2 w 400 42 (u 55 2 + 1)) 437 o 0) := by
        rw [f_X11_takesKey_400, bnd_eq, e1, bnd2_eq, if_neg (by decide), hod]; rfl
      rw [e3, e4]
      exact (last_rel ho hk (49, "ntry", 4) (by decide)).tr ((FU.at o u _).tr (FU.row o _ 5 0)) ((FW.at o w _).tr (FW.row o _ (by omega) 0)) (by rw [up2_n _ _ (by omega), up2_n _ _ (by omega)])
    · rw [if_neg qe] at we
      have e2e := te2 qe
      have e3 : f_X8_key_55 u (60 + o) = bnd2 (f_X8_word_55 u (51, "lo", 2)) fun x26 v27 => (if x26 = (0 : Int32) then ((0 : Int32), v27) else bnd2 (f_X8_word_55 v27 (53, "t", 1)) fun x38 v39 => (if x38 = (0 : Int32) then f_X8_word_55 (up2 v39 (60 + o) 5 2) (55, "ad", 2) else ((1 : Int32), up2 v39 (60 + o) 5 3))) := by
        rw [f_X8_key_55, bnd_eq, wa, bnd2_eq, if_pos rfl, we, bnd2_eq, if_pos rfl]
      have e4 : f_X11_takesKey_400 w od = CK (CHL 51) (fun w1 => bnd2 (f_X11_takes_400 w1 116) fun x w2 => (if x = (0 : Int32) then CK (CHL 55) (fun w => (1, w)) (up2 w2 437 o 2) else ((1 : Int32), up2 w2 437 o 3))) w := by
        rw [f_X11_takesKey_400, bnd_eq, e2e, bnd2_eq, if_pos rfl, e2a, bnd2_eq, if_pos rfl, hod]; rfl
      rw [e3, e4]
      obtain ⟨t, h1, h2⟩ := word_rel ho h (51, "lo", 2) (by decide) rfl (by decide)
      rcases h2 with ⟨e5, e6⟩ | ⟨e5, e6⟩
      · rw [e5, e6, bnd2_eq, if_neg (by decide)]
        obtain ⟨tt1, tt2⟩ := takes_rel h1 ho 116 (by decide) (by decide)
        rw [word1 (u := up2 u 55 2 t) (53, "t", 1) 116 rfl rfl]
        by_cases qt : (up2 u 55 2 t 55 2).toInt < (up2 u 55 2 t 55 1).toInt ∧ up2 u 55 2 t 56 (up2 u 55 2 t 55 2).toNatClampNeg = 116
        · obtain ⟨e7, h3⟩ := tt1 qt
          rw [if_pos qt, e7, bnd2_eq, bnd2_eq, if_neg (by decide), if_neg (by decide)]
          have hk := TS.key h3 ho 3 (by decide) (by decide)
          exact ⟨Or.inr ⟨rfl, rfl, hk⟩, ((FU.at o u _).tr (FU.at o _ _)).tr (FU.row o _ 5 3), ((FW.at o w _).tr (FW.at o _ _)).tr (FW.row o _ (by omega) 3), by show up2 _ _ _ _ _ _ = _; rw [up2_n _ _ (by omega), up2_n _ _ (by omega), up2_n _ _ (by omega)]⟩
        · rw [if_neg qt, tt2 qt, bnd2_eq, bnd2_eq, if_pos rfl, if_pos rfl]
          have hk := TS.key h1 ho 2 (by decide) (by decide)
          exact (last_rel ho hk (55, "ad", 2) (by decide)).tr ((FU.at o u _).tr (FU.row o _ 5 2)) ((FW.at o w _).tr (FW.row o _ (by omega) 2)) (by rw [up2_n _ _ (by omega), up2_n _ _ (by omega)])
      · rw [e5, e6, bnd2_eq, if_pos rfl]
        exact ⟨Or.inl ⟨rfl, rfl, h1.weak⟩, FU.at o u t, FW.at o w t, up2_n _ _ (by omega)⟩
theorem TS.less {kq : Prop} {o : Nat} {u w : tV} (h : TS kq o u w) {j : Nat} (hj : j = 3 * o + (u (60 + o) 3).toNatClampNeg) (x : Int32) : TS kq o u (up2 w 440 j x) := by
  obtain ⟨a1, a2, a3, a4, a5, a6, a7, a8, a9, a10, a11⟩ := h
  have e2 : ∀ a i, ¬ (a = 440 ∧ i = j) → up2 w 440 j x a i = w a i := fun a i q => up2_n _ _ q
  refine ⟨?_, ?_, a3, a4, a5, ?_, ?_, ?_, a9, a10, ?_⟩
  · rw [e2 400 33 (by omega)]; exact a1
  · rw [e2 400 42 (by omega)]; exact a2
  · intro i hi
    rw [e2 433 i (by omega)]; exact a6 i hi
  · intro q
    rw [e2 437 o (by omega)]; exact a7 q
  · rw [e2 438 o (by omega)]; exact a8
  · intro p hp
    rw [e2 439 _ (by omega), e2 440 _ (by omega), e2 441 _ (by omega)]; exact a11 p hp
theorem TS.add {kq : Prop} {o : Nat} {u w : tV} (h : TS kq o u w) (ho : o < 8) {j p : Nat} (hp : p = (u (60 + o) 3).toNatClampNeg) (hp3 : (u (60 + o) 3).toInt < 3) (hj : j = 3 * o + p) {se bel pr : Int32} (hb : w 440 j = bel) :
    TS kq o (up2 (up2 (up2 (up2 u (70 + o) p se) (90 + o) p bel) (80 + o) p pr) (60 + o) 3 (u (60 + o) 3 + 1)) (up2 (up2 (up2 w 439 j se) 441 j pr) 438 o (u (60 + o) 3 + 1)) := by
  obtain ⟨a1, a2, a3, a4, a5, a6, a7, a8, a9, a10, a11⟩ := h
  have z1 : (1 : Int32).toInt = 1 := rfl
  have k4 : (u (60 + o) 3 + 1).toInt = (u (60 + o) 3).toInt + 1 := by rw [i_add (by rw [z1]; omega) (by rw [z1]; omega), z1]
  have k5 := clampI (x := u (60 + o) 3 + 1) (by omega)
  have k6 := clampI a9
  obtain ⟨U, eU⟩ : ∃ z, z = up2 (up2 (up2 (up2 u (70 + o) p se) (90 + o) p bel) (80 + o) p pr) (60 + o) 3 (u (60 + o) 3 + 1) := ⟨_, rfl⟩
  obtain ⟨V, eV⟩ : ∃ z, z = up2 (up2 (up2 w 439 j se) 441 j pr) 438 o (u (60 + o) 3 + 1) := ⟨_, rfl⟩
  rw [← eU, ← eV]
  have e1 : ∀ a i, ¬ (a = 60 + o ∧ i = 3) → ¬ ((a = 70 + o ∨ a = 80 + o ∨ a = 90 + o) ∧ i = p) → U a i = u a i := fun a i q1 q2 => by
    rw [eU, up2_n _ _ q1, up2_n _ _ (by omega), up2_n _ _ (by omega), up2_n _ _ (by omega)]
  have e2 : ∀ a i, ¬ (a = 438 ∧ i = o) → ¬ ((a = 439 ∨ a = 441) ∧ i = j) → V a i = w a i := fun a i q1 q2 => by
    rw [eV, up2_n _ _ q1, up2_n _ _ (by omega), up2_n _ _ (by omega)]
  have f1 := e1 55 1 (by omega) (by omega)
  have f2 := e1 55 2 (by omega) (by omega)
  have f3 : U (60 + o) 3 = u (60 + o) 3 + 1 := by rw [eU, up2_s]
  have f5 := e1 (60 + o) 5 (by omega) (by omega)
  refine ⟨?_, ?_, ?_, ?_, ?_, ?_, fun q => ?_, ?_, ?_, ?_, ?_⟩
  · rw [f1, e2 400 33 (by omega) (by omega)]; exact a1
  · rw [f2, e2 400 42 (by omega) (by omega)]; exact a2
  · rw [f2]; exact a3
  · rw [f2, f1]; exact a4
  · rw [f1]; exact a5
  · intro i hi
    rw [f1] at hi
    rw [e1 56 i (by omega) (by omega), e2 433 i (by omega) (by omega)]; exact a6 i hi
  · rw [f5, e2 437 o (by omega) (by omega)]; exact a7 q
  · rw [f3, eV, up2_s]
  · rw [f3]; omega
  · rw [f3]; omega
  · intro i hi
    rw [f3] at hi
    by_cases q : i = p
    · subst q
      have g1 : U (70 + o) i = se := by rw [eU, up2_n _ _ (by omega), up2_n _ _ (by omega), up2_n _ _ (by omega), up2_s]
      have g2 : U (80 + o) i = pr := by rw [eU, up2_n _ _ (by omega), up2_s]
      have g3 : U (90 + o) i = bel := by rw [eU, up2_n _ _ (by omega), up2_n _ _ (by omega), up2_s]
      rw [g1, g2, g3, ← hj]
      have g4 : V 439 j = se := by rw [eV, up2_n _ _ (by omega), up2_n _ _ (by omega), up2_s]
      have g5 : V 441 j = pr := by rw [eV, up2_n _ _ (by omega), up2_s]
      have g6 : V 440 j = bel := by rw [e2 440 j (by omega) (by omega), hb]
      rw [g4, g5, g6]; exact ⟨rfl, rfl, rfl⟩
    · rw [e1 (70 + o) i (by omega) (by omega), e1 (80 + o) i (by omega) (by omega), e1 (90 + o) i (by omega) (by omega), e2 439 _ (by omega) (by omega), e2 440 _ (by omega) (by omega), e2 441 _ (by omega) (by omega)]
      exact a11 i (by omega)
/-- the reference's reading of a part's price and what follows it -/
def NM (o : Nat) (m0 : Int32) (j : Nat) (se : Int32) (rc : tV → Int32 × tV) (w : tV) : Int32 × tV :=
  bnd2 (f_X11_takesNumber_3 w 3) fun x w1 => (if x = (0 : Int32) then ((0 : Int32), w1) else CK [44] rc (up2 (up2 (up2 w1 439 j se) 441 j (w1 400 43)) 438 o (m0 + 1)))
def PM (o : Nat) (m0 : Int32) (j : Nat) (se : Int32) (rc : tV → Int32 × tV) (w : tV) : Int32 × tV :=
  (if f_X11_has_400 w 60 = 1 then bnd2 (f_X11_takes_400 (up2 w 440 j 1) 60) fun x w1 => (if x = (0 : Int32) then bnd2 (f_X11_takes_400 w1 62) fun y w2 => (if y = (0 : Int32) then ((0 : Int32), w2) else NM o m0 j se rc w2) else NM o m0 j se rc w1)
   else bnd2 (f_X11_takes_400 (up2 w 440 j 0) 60) fun x w1 => (if x = (0 : Int32) then bnd2 (f_X11_takes_400 w1 62) fun y w2 => (if y = (0 : Int32) then ((0 : Int32), w2) else NM o m0 j se rc w2) else NM o m0 j se rc w1))
/-- the same of the class -/
def NC (k : Nat) (se bel : Int32) (u : tV) : Int32 × tV :=
  bnd2 (f_X8_number_3 u 3) fun x u1 => (if x = (-1 : Int32) then ((0 : Int32), u1) else f_X8_word_55 (f_X3_addPart_k u1 k se bel x) (78, ",", 1))
/-- a part ends on both sides: nothing more, or on to the next -/
def PO (o : Nat) (u w : tV) (p : Int32 × tV) (rc : tV → Int32 × tV) (q : Int32 × tV) (x0 : Int32) : Prop :=
  ∃ w1, FU o u p.2 ∧ FW o w w1 ∧ ((p.1 = 0 ∧ q = (0, w1) ∧ TS False o p.2 w1) ∨ (p.1 = 1 ∧ q = rc w1 ∧ TS True o p.2 w1 ∧ p.2 (60 + o) 3 = x0 + 1))
theorem PO.tr {o : Nat} {u w u1 w1 : tV} {p : Int32 × tV} {rc : tV → Int32 × tV} {q : Int32 × tV} {x0 : Int32} (h : PO o u1 w1 p rc q x0) (h1 : FU o u u1) (h2 : FW o w w1) : PO o u w p rc q x0 := by
  obtain ⟨w2, a, b, c⟩ := h
  exact ⟨w2, h1.tr a, h2.tr b, c⟩
theorem NM_rel {o : Nat} (ho : o < 8) {u w : tV} (h : TS True o u w) (hp3 : (u (60 + o) 3).toInt < 3) {j : Nat} (hj : j = 3 * o + (u (60 + o) 3).toNatClampNeg) {se bel : Int32} (hb : w 440 j = bel) (rc : tV → Int32 × tV) :
    PO o u w (NC (60 + o) se bel u) rc (NM o (u (60 + o) 3) j se rc w) (u (60 + o) 3) := by
  obtain ⟨g1, g2, g3, g4⟩ := num3_rel ho h
  have p9 := h.2.2.2.2.2.2.2.2.1
  have p6 := clampI p9
  have e0 : (f_X8_number_3 u 3).2 (60 + o) 3 = u (60 + o) 3 := g2 _ _ (by omega)
  rcases g4 with ⟨e1, e2⟩ | ⟨e1, e2, e3⟩
  · refine ⟨(f_X11_takesNumber_3 w 3).2, ?_, g3.fw o, Or.inl ⟨?_, ?_, ?_⟩⟩
    · have : NC (60 + o) se bel u = (0, (f_X8_number_3 u 3).2) := by
        simp only [NC, bnd2]
        rw [if_pos e1]
      rw [this]; exact g2.fu o
    · simp only [NC, bnd2]
      rw [if_pos e1]
    · simp only [NM, bnd2]
      rw [if_pos e2]
    · have : NC (60 + o) se bel u = (0, (f_X8_number_3 u 3).2) := by
        simp only [NC, bnd2]
        rw [if_pos e1]
      rw [this]; exact g1.weak
  · obtain ⟨u1, eu⟩ : ∃ z, z = (f_X8_number_3 u 3).2 := ⟨_, rfl⟩
    obtain ⟨w1, ew⟩ : ∃ z, z = (f_X11_takesNumber_3 w 3).2 := ⟨_, rfl⟩
    obtain ⟨pr, epr⟩ : ∃ z, z = (f_X8_number_3 u 3).1 := ⟨_, rfl⟩
    rw [← eu, ← ew] at g1
    rw [← eu] at g2 e0
    rw [← ew] at g3 e1
    rw [← epr] at e1 e3
    have hb1 : w1 440 j = bel := by rw [g3 _ _ (by omega)]; exact hb
    have hA := TS.add g1 ho (p := (u1 (60 + o) 3).toNatClampNeg) rfl (by rw [e0]; exact hp3) (by rw [e0]; exact hj) (se := se) (pr := pr) hb1
    have eN : NC (60 + o) se bel u = f_X8_word_55 (up2 (up2 (up2 (up2 u1 (70 + o) (u1 (60 + o) 3).toNatClampNeg se) (90 + o) (u1 (60 + o) 3).toNatClampNeg bel) (80 + o) (u1 (60 + o) 3).toNatClampNeg pr) (60 + o) 3 (u1 (60 + o) 3 + 1)) (78, ",", 1) := by
      simp only [NC, bnd2]
      rw [← epr, ← eu, if_neg (fun z => by rw [z] at e3; exact absurd e3 (by decide))]
      simp only [f_X3_addPart_k, bnd]
      have z3 : (3 : Int32).toInt = 3 := rfl
      rw [if_pos (Int32.lt_iff_toInt_lt.mpr (by rw [z3, e0]; exact hp3)), show 60 + o + 10 = 70 + o from by omega, show 60 + o + 20 = 80 + o from by omega, show 60 + o + 30 = 90 + o from by omega]
    have eM : NM o (u (60 + o) 3) j se rc w = CK (CHL 78) rc (up2 (up2 (up2 w1 439 j se) 441 j pr) 438 o (u1 (60 + o) 3 + 1)) := by
      simp only [NM, bnd2]
      rw [← ew, if_neg (by rw [e2]; decide), ← e1, e0]; rfl
    rw [eN, eM]
    have fu : FU o u (up2 (up2 (up2 (up2 u1 (70 + o) (u1 (60 + o) 3).toNatClampNeg se) (90 + o) (u1 (60 + o) 3).toNatClampNeg bel) (80 + o) (u1 (60 + o) 3).toNatClampNeg pr) (60 + o) 3 (u1 (60 + o) 3 + 1)) := fun a i p1 p2 p3 p4 p5 => by
      rw [up2_n _ _ (fun q => p2 q.1), up2_n _ _ (fun q => p4 q.1), up2_n _ _ (fun q => p5 q.1), up2_n _ _ (fun q => p3 q.1)]
      exact g2 a i p1
    have fw : FW o w (up2 (up2 (up2 w1 439 j se) 441 j pr) 438 o (u1 (60 + o) 3 + 1)) := fun a i p1 p2 p3 => by
      rw [up2_n _ _ (by omega), up2_n _ _ (by omega), up2_n _ _ (by omega)]
      exact g3 a i p1
    obtain ⟨t, h1, h2⟩ := word_rel ho hA (78, ",", 1) (by decide) rfl (by decide)
    rcases h2 with ⟨e5, e6⟩ | ⟨e5, e6⟩
    · rw [e5, e6]
      refine ⟨_, fu.tr (FU.at o _ t), fw.tr (FW.at o _ t), Or.inr ⟨rfl, rfl, h1, ?_⟩⟩
      show up2 _ 55 2 t (60 + o) 3 = _
      rw [up2_n _ _ (by omega), up2_s, e0]
    · rw [e5, e6]
      exact ⟨_, fu.tr (FU.at o _ t), fw.tr (FW.at o _ t), Or.inl ⟨rfl, rfl, h1.weak⟩⟩
theorem part_rel {o : Nat} (ho : o < 8) {u w : tV} (h : TS True o u w) (hp3 : (u (60 + o) 3).toInt < 3) {j : Nat} (hj : j = 3 * o + (u (60 + o) 3).toNatClampNeg) (se : Int32) (rc : tV → Int32 × tV) :
    PO o u w (f_X8_part_55 u (60 + o) se) rc (CK [32, 97, 116, 32] (PM o (u (60 + o) 3) j se rc) w) (u (60 + o) 3) := by
  obtain ⟨t, h1, h2⟩ := word_rel ho h (68, " at ", 4) (by decide) rfl (by decide)
  have p9 := h.2.2.2.2.2.2.2.2.1
  have p6 := clampI p9
  rcases h2 with ⟨e5, e6⟩ | ⟨e5, e6⟩
  · have eP : f_X8_part_55 u (60 + o) se = bnd2 (f_X8_word_55 (up2 u 55 2 t) (70, "<", 1)) fun x14 v15 => (if x14 = (0 : Int32) then bnd2 (f_X8_word_55 v15 (72, ">", 1)) fun x59 v60 => (if x59 = (0 : Int32) then ((0 : Int32), v60) else NC (60 + o) se x14 v60) else NC (60 + o) se x14 v15) := by
      rw [f_X8_part_55, bnd_eq, e5, bnd2_eq, if_neg (by decide)]
      simp only [NC, bnd, bnd2, Prod.eta]
    have eQ : CK [32, 97, 116, 32] (PM o (u (60 + o) 3) j se rc) w = PM o (u (60 + o) 3) j se rc (up2 w 400 42 t) := e6 _
    rw [eP, eQ]
    obtain ⟨U, eU⟩ : ∃ z, z = up2 u 55 2 t := ⟨_, rfl⟩
    obtain ⟨V, eV⟩ : ∃ z, z = up2 w 400 42 t := ⟨_, rfl⟩
    rw [← eU, ← eV] at h1 ⊢
    have hU3 : U (60 + o) 3 = u (60 + o) 3 := by rw [eU, up2_n _ _ (by omega)]
    have fu : FU o u U := by rw [eU]; exact FU.at o u t
    have fw : FW o w V := by rw [eV]; exact FW.at o w t
    unfold PM
    rw [has_rel h1 60 (by decide) (by decide), word1 (u := U) (70, "<", 1) 60 rfl rfl]
    by_cases q : (U 55 2).toInt < (U 55 1).toInt ∧ U 56 (U 55 2).toNatClampNeg = 60
    · rw [if_pos q, if_pos q, if_pos rfl]
      have hl := TS.less h1 (j := j) (by rw [hU3]; exact hj) 1
      obtain ⟨tk1, -⟩ := takes_rel hl ho 60 (by decide) (by decide)
      obtain ⟨e7, h3⟩ := tk1 q
      rw [e7]
      simp only [bnd2, i10, i00, if_true, if_false]
      have hU4 : up2 U 55 2 (U 55 2 + 1) (60 + o) 3 = u (60 + o) 3 := by rw [up2_n _ _ (by omega)]; exact hU3
      have hN := NM_rel ho h3 (by rw [hU4]; exact hp3) (j := j) (by rw [hU4]; exact hj) (se := se) (bel := 1) (by rw [up2_n _ _ (by omega), up2_s]) rc
      rw [hU4] at hN
      exact hN.tr (fu.tr (FU.at o _ _)) ((fw.tr (FW.prt o _ (by omega) (by omega) (by omega) 1)).tr (FW.at o _ _))
    · rw [if_neg q, if_neg q, if_neg (by decide)]
      have hl := TS.less h1 (j := j) (by rw [hU3]; exact hj) 0
      obtain ⟨-, tk2⟩ := takes_rel hl ho 60 (by decide) (by decide)
      rw [tk2 q]
      simp only [bnd2, i10, i00, if_true, if_false]
      rw [word1 (u := U) (72, ">", 1) 62 rfl rfl]
      obtain ⟨tk3, tk4⟩ := takes_rel hl ho 62 (by decide) (by decide)
      have fw2 : FW o w (up2 V 440 j 0) := fw.tr (FW.prt o _ (by omega) (by omega) (by omega) 0)
      by_cases q2 : (U 55 2).toInt < (U 55 1).toInt ∧ U 56 (U 55 2).toNatClampNeg = 62
      · obtain ⟨e7, h3⟩ := tk3 q2
        rw [if_pos q2, e7]
        simp only [i10, i00, if_true, if_false]
        have hU4 : up2 U 55 2 (U 55 2 + 1) (60 + o) 3 = u (60 + o) 3 := by rw [up2_n _ _ (by omega)]; exact hU3
        have hN := NM_rel ho h3 (by rw [hU4]; exact hp3) (j := j) (by rw [hU4]; exact hj) (se := se) (bel := 0) (by rw [up2_n _ _ (by omega), up2_s]) rc
        rw [hU4] at hN
        exact hN.tr (fu.tr (FU.at o _ _)) (fw2.tr (FW.at o _ _))
      · rw [if_neg q2, tk4 q2]
        simp only [i10, i00, if_true, if_false]
        exact ⟨_, fu, fw2, Or.inl ⟨rfl, rfl, hl.weak⟩⟩
  · have eP : f_X8_part_55 u (60 + o) se = (0, up2 u 55 2 t) := by
      rw [f_X8_part_55, bnd_eq, e5, bnd2_eq, if_pos rfl]
    have eQ : CK [32, 97, 116, 32] (PM o (u (60 + o) 3) j se rc) w = (0, up2 w 400 42 t) := e6 _
    rw [eP, eQ]
    exact ⟨_, FU.at o u t, FW.at o w t, Or.inl ⟨rfl, rfl, h1.weak⟩⟩
/-- the reference's loop, by its pieces -/
theorem reads_body (od : Int32) (rc : tV → Int32 × tV) (w : tV) : b_X11_reads_400_123 od rc w = bnd2 (f_X11_takesNumber_2 w 2) fun x w1 => (if x = (0 : Int32) then ((0 : Int32), w1) else (if w1 400 42 = w1 400 33 then ((1 : Int32), up2 w1 442 od.toNatClampNeg (w1 400 43)) else (if w 438 od.toNatClampNeg = 3 then ((0 : Int32), w1) else CK [32, 97, 116, 32] (PM od.toNatClampNeg (w 438 od.toNatClampNeg) (3 * od + w 438 od.toNatClampNeg).toNatClampNeg (w1 400 43) rc) w1))) := rfl
def RO (o : Nat) (u w : tV) (p q : Int32 × tV) : Prop := FU o u p.2 ∧ FW o w q.2 ∧ ((p.1 = 0 ∧ q.1 = 0 ∧ TS False o p.2 q.2) ∨ (p.1 = 1 ∧ q.1 = 1 ∧ TS True o p.2 q.2 ∧ p.2 (60 + o) 4 = q.2 442 o))
theorem RO.tr {o : Nat} {u w u1 w1 : tV} {p q : Int32 × tV} (h : RO o u1 w1 p q) (h1 : FU o u u1) (h2 : FW o w w1) : RO o u w p q := ⟨h1.tr h.1, h2.tr h.2.1, h.2.2⟩
theorem parts_step {o : Nat} (ho : o < 8) {od : Int32} (hod : od.toInt = (o : Int)) : ∀ (n : Nat) (u w : tV), TS True o u w → (3 - (u (60 + o) 3).toInt).toNat < n →
    RO o u w (g_X8_parts_55_2 (60 + o) n (u (60 + o) 3) u) (g_X11_reads_400_123 od n w) := by
  have hodn : od.toNatClampNeg = o := by show od.toInt.toNat = o; rw [hod]; omega
  intro n
  induction n with
  | zero => intros; omega
  | succ n ih =>
    intro u w h hn
    obtain ⟨a1, a2, a3, a4, a5, a6, a7, a8, a9, a10, a11⟩ := id h
    have z0 : (0 : Int32).toInt = 0 := rfl
    have z1 : (1 : Int32).toInt = 1 := rfl
    have z3 : (3 : Int32).toInt = 3 := rfl
    have es : g_X8_parts_55_2 (60 + o) (n + 1) (u (60 + o) 3) u = b_X8_parts_55_2 (60 + o) (g_X8_parts_55_2 (60 + o) n) (u (60 + o) 3) u := rfl
    have et : g_X11_reads_400_123 od (n + 1) w = b_X11_reads_400_123 od (g_X11_reads_400_123 od n) w := rfl
    rw [es, et, reads_body, hodn]
    simp only [b_X8_parts_55_2, bnd]
    rw [if_neg (fun z => by have := i_lt z; rw [z3] at this; omega)]
    obtain ⟨g1, g2, g3, g4⟩ := num2_rel ho h
    obtain ⟨u1, eu⟩ : ∃ z, z = (f_X8_number_2 u 2).2 := ⟨_, rfl⟩
    obtain ⟨w1, ew⟩ : ∃ z, z = (f_X11_takesNumber_2 w 2).2 := ⟨_, rfl⟩
    obtain ⟨se, ese⟩ : ∃ z, z = (f_X8_number_2 u 2).1 := ⟨_, rfl⟩
    simp only [bnd2]
    rw [← eu, ← ew, ← ese]
    rw [← eu, ← ew] at g1
    rw [← eu] at g2
    rw [← ew, ← ese] at g4
    rw [← ew] at g3
    have fu := g2.fu o
    have fw := g3.fw o
    rcases g4 with ⟨e1, e2⟩ | ⟨e1, e2, e3⟩
    · rw [if_pos e1, if_pos e2]
      exact ⟨fu, fw, Or.inl ⟨rfl, rfl, g1.weak⟩⟩
    · rw [if_neg (fun z => by rw [z] at e3; exact absurd e3 (by decide)), if_neg (c := (f_X11_takesNumber_2 w 2).1 = 0) (by rw [e2]; decide)]
      obtain ⟨b1, b2, b3, b4, b5, b6, b7, b8, b9, b10, b11⟩ := id g1
      have u3 : u1 (60 + o) 3 = u (60 + o) 3 := g2 _ _ (by omega)
      have w3 : w1 438 o = w 438 o := g3 _ _ (by omega)
      by_cases q1 : u1 55 2 < u1 55 1
      · have q1' := i_lt q1
        rw [if_pos q1, if_neg (c := w1 400 42 = w1 400 33) (fun z => by rw [← b1, ← b2] at z; have := i_eq z; omega)]
        by_cases q2 : u (60 + o) 3 = 3
        · rw [if_pos q2, if_pos (c := w 438 o = 3) (by rw [← a8]; exact q2)]
          exact ⟨fu, fw, Or.inl ⟨rfl, rfl, g1.weak⟩⟩
        · have q3 : (u (60 + o) 3).toInt < 3 := by
            have : (u (60 + o) 3).toInt ≠ (3 : Int32).toInt := i_ne q2
            rw [z3] at this; omega
          rw [if_neg q2, if_neg (c := w 438 o = 3) (by rw [← a8]; exact q2), ← a8]
          have kc := clampI a9
          have k1 : ((3 : Int32) * od).toInt = 3 * od.toInt := by rw [i_mul (by rw [z3]; omega) (by rw [z3]; omega), z3]
          have k2 : ((3 : Int32) * od + u (60 + o) 3).toInt = 3 * od.toInt + (u (60 + o) 3).toInt := by rw [i_add (by rw [k1]; omega) (by rw [k1]; omega), k1]
          have k3 := clampI (x := (3 : Int32) * od + u (60 + o) 3) (by omega)
          have hP := part_rel ho g1 (by rw [u3]; exact q3) (j := ((3 : Int32) * od + u (60 + o) 3).toNatClampNeg) (by rw [u3]; omega) se (g_X11_reads_400_123 od n)
          rw [u3] at hP
          rw [← e1]
          obtain ⟨w2, c1, c2, c3⟩ := hP
          rcases c3 with ⟨d1, d2, d3⟩ | ⟨d1, d2, d3, d4⟩
          · rw [d2, if_pos d1]
            exact ⟨fu.tr c1, fw.tr c2, Or.inl ⟨rfl, rfl, d3⟩⟩
          · rw [d2, if_neg (c := (f_X8_part_55 u1 (60 + o) se).1 = 0) (by rw [d1]; decide), ← d4]
            have k4 : (u (60 + o) 3 + 1).toInt = (u (60 + o) 3).toInt + 1 := by rw [i_add (by rw [z1]; omega) (by rw [z1]; omega), z1]
            exact (ih _ w2 d3 (by rw [d4, k4]; omega)).tr (fu.tr c1) (fw.tr c2)
      · have q1' := i_nlt q1
        rw [if_neg q1, if_pos (c := w1 400 42 = w1 400 33) (by rw [← b1, ← b2]; exact i32_ext (by omega))]
        have hO := TS.oth g1 ho se
        rw [← e1]
        refine ⟨fu.tr (FU.row o _ 4 se), fw.tr (FW.row o _ (by omega) se), Or.inr ⟨rfl, rfl, hO, ?_⟩⟩
        show up2 u1 (60 + o) 4 se (60 + o) 4 = up2 w1 442 o se 442 o
        rw [up2_s, up2_s]
/-- the whole reading -/
theorem read_rel {o : Nat} (ho : o < 8) {od : Int32} (hod : od.toInt = (o : Int)) {u w : tV} (h1 : u 55 1 = w 400 33) (h2 : 0 ≤ (u 55 1).toInt) (h3 : (u 55 1).toInt ≤ 120) (h4 : ∀ i, i < (u 55 1).toNatClampNeg → BR (u 56 i) (w 433 i)) :
    FU o u (f_X8_read_55 u (60 + o)).2 ∧ FW o w (f_X11_reads_400 w od).2 ∧
      (((f_X11_reads_400 w od).1 = 0 ∧ (f_X8_read_55 u (60 + o)).1 = (f_X11_reads_400 w od).2 400 42 ∧ 0 ≤ (f_X8_read_55 u (60 + o)).1.toInt) ∨
       ((f_X11_reads_400 w od).1 = 1 ∧ (f_X8_read_55 u (60 + o)).1 = -1 ∧ TS True o (f_X8_read_55 u (60 + o)).2 (f_X11_reads_400 w od).2 ∧ (f_X8_read_55 u (60 + o)).2 (60 + o) 4 = (f_X11_reads_400 w od).2 442 o)) := by
  have hodn : od.toNatClampNeg = o := by show od.toInt.toNat = o; rw [hod]; omega
  have z0 : (0 : Int32).toInt = 0 := rfl
  obtain ⟨U, eU⟩ : ∃ z, z = up2 (up2 u 55 2 0) (60 + o) 3 0 := ⟨_, rfl⟩
  obtain ⟨V, eV⟩ : ∃ z, z = up2 (up2 w 400 42 0) 438 o 0 := ⟨_, rfl⟩
  have fu : FU o u U := by rw [eU]; exact (FU.at o u 0).tr (FU.row o _ 3 0)
  have fw : FW o w V := by rw [eV]; exact (FW.at o w 0).tr (FW.row o _ (by omega) 0)
  have f1 : U 55 1 = u 55 1 := by rw [eU, up2_n _ _ (by omega), up2_n _ _ (by omega)]
  have f2 : U 55 2 = 0 := by rw [eU, up2_n _ _ (by omega), up2_s]
  have f3 : U (60 + o) 3 = 0 := by rw [eU, up2_s]
  have hT : TS False o U V := by
    refine ⟨?_, ?_, ?_, ?_, ?_, ?_, fun q => q.elim, ?_, ?_, ?_, ?_⟩
    · rw [f1, eV, up2_n _ _ (by omega), up2_n _ _ (by omega)]; exact h1
    · rw [f2, eV, up2_n _ _ (by omega), up2_s]
    · rw [f2, z0]; omega
    · rw [f2, f1, z0]; exact h2
    · rw [f1]; exact h3
    · intro i hi
      rw [f1] at hi
      rw [eU, up2_n _ _ (by omega), up2_n _ _ (by omega), eV, up2_n _ _ (by omega), up2_n _ _ (by omega)]; exact h4 i hi
    · rw [f3, eV, up2_s]
    · rw [f3, z0]; omega
    · rw [f3, z0]; omega
    · intro p hp
      rw [f3] at hp
      exact absurd hp (Nat.not_lt_zero p)
  have eC : f_X8_read_55 u (60 + o) = bnd2 (f_X8_word_55 U (27, "turn ", 5)) fun x13 v14 => (if x13 = (0 : Int32) then (v14 55 2, v14) else bnd2 (f_X8_key_55 v14 (60 + o)) fun x31 v32 => (if x31 = (0 : Int32) then (v32 55 2, v32) else bnd2 (f_X8_word_55 v32 (37, ";sell ", 6)) fun x49 v50 => (if x49 = (0 : Int32) then (v50 55 2, v50) else bnd2 (f_X8_parts_55 v50 (60 + o)) fun x67 v68 => (if x67 = (0 : Int32) then (v68 55 2, v68) else ((-1 : Int32), v68))))) := by
    rw [eU]; rfl
  have eM : f_X11_reads_400 w od = CK [116, 117, 114, 110, 32] (fun w1 => bnd2 (f_X11_takesKey_400 w1 od) fun x w2 => (if x = (0 : Int32) then ((0 : Int32), w2) else CK [59, 115, 101, 108, 108, 32] (g_X11_reads_400_123 od 100000) w2)) V := by
    rw [eV, ← hodn]; rfl
  rw [eC, eM]
  obtain ⟨t, h5, h6⟩ := word_rel ho hT (27, "turn ", 5) (by decide) rfl (by decide)
  rcases h6 with ⟨e5, e6⟩ | ⟨e5, e6⟩
  · have eQ := e6 (fun w1 => bnd2 (f_X11_takesKey_400 w1 od) fun x w2 => (if x = (0 : Int32) then ((0 : Int32), w2) else CK [59, 115, 101, 108, 108, 32] (g_X11_reads_400_123 od 100000) w2))
    have eQ2 : CK [116, 117, 114, 110, 32] (fun w1 => bnd2 (f_X11_takesKey_400 w1 od) fun x w2 => (if x = (0 : Int32) then ((0 : Int32), w2) else CK [59, 115, 101, 108, 108, 32] (g_X11_reads_400_123 od 100000) w2)) V = _ := eQ
    rw [eQ2, e5]
    obtain ⟨c1, c2, c3, c4⟩ := key_rel ho h5 (od := od) hodn
    have fu1 : FU o u (f_X8_key_55 (up2 U 55 2 t) (60 + o)).2 := (fu.tr (FU.at o _ t)).tr c2
    have fw1 : FW o w (f_X11_takesKey_400 (up2 V 400 42 t) od).2 := (fw.tr (FW.at o _ t)).tr c3
    simp only [bnd2, i10, i00, if_true, if_false]
    rcases c1 with ⟨d1, d2, d3⟩ | ⟨d1, d2, d3⟩
    · rw [if_pos d1, if_pos d2]
      exact ⟨fu1, fw1, Or.inl ⟨rfl, d3.2.1, d3.2.2.1⟩⟩
    · rw [if_neg (c := (f_X8_key_55 (up2 U 55 2 t) (60 + o)).1 = 0) (by rw [d1]; decide), if_neg (c := (f_X11_takesKey_400 (up2 V 400 42 t) od).1 = 0) (by rw [d2]; decide)]
      obtain ⟨t2, h7, h8⟩ := word_rel ho d3 (37, ";sell ", 6) (by decide) rfl (by decide)
      rcases h8 with ⟨e7, e8⟩ | ⟨e7, e8⟩
      · have eR : CK [59, 115, 101, 108, 108, 32] (g_X11_reads_400_123 od 100000) (f_X11_takesKey_400 (up2 V 400 42 t) od).2 = _ := e8 _
        rw [eR, e7]
        obtain ⟨U2, eU2⟩ : ∃ z, z = up2 (f_X8_key_55 (up2 U 55 2 t) (60 + o)).2 55 2 t2 := ⟨_, rfl⟩
        obtain ⟨V2, eV2⟩ : ∃ z, z = up2 (f_X11_takesKey_400 (up2 V 400 42 t) od).2 400 42 t2 := ⟨_, rfl⟩
        rw [← eU2, ← eV2] at h7 ⊢
        have hU3 : U2 (60 + o) 3 = 0 := by
          rw [eU2, up2_n _ _ (by omega), c4, up2_n _ _ (by omega)]; exact f3
        have hR := parts_step ho hod 100000 U2 V2 h7 (by rw [hU3]; decide)
        rw [hU3] at hR
        have eP : f_X8_parts_55 U2 (60 + o) = g_X8_parts_55_2 (60 + o) 100000 0 U2 := by rw [f_X8_parts_55, bnd_eq]
        simp only [i10, i00, if_true, if_false]
        rw [eP]
        obtain ⟨k1, k2, k3⟩ := hR
        have fu2 : FU o u U2 := by rw [eU2]; exact fu1.tr (FU.at o _ t2)
        have fw2 : FW o w V2 := by rw [eV2]; exact fw1.tr (FW.at o _ t2)
        rcases k3 with ⟨m1, m2, m3⟩ | ⟨m1, m2, m3, m4⟩
        · rw [if_pos m1]
          exact ⟨fu2.tr k1, fw2.tr k2, Or.inl ⟨m2, m3.2.1, m3.2.2.1⟩⟩
        · rw [if_neg (c := (g_X8_parts_55_2 (60 + o) 100000 0 U2).1 = 0) (by rw [m1]; decide)]
          exact ⟨fu2.tr k1, fw2.tr k2, Or.inr ⟨m2, rfl, m3, m4⟩⟩
      · have eR : CK [59, 115, 101, 108, 108, 32] (g_X11_reads_400_123 od 100000) (f_X11_takesKey_400 (up2 V 400 42 t) od).2 = _ := e8 _
        rw [eR, e7]
        simp only [i10, i00, if_true, if_false]
        exact ⟨fu1.tr (FU.at o _ t2), fw1.tr (FW.at o _ t2), Or.inl ⟨trivial, h7.2.1, h7.2.2.1⟩⟩
  · have eQ2 : CK [116, 117, 114, 110, 32] (fun w1 => bnd2 (f_X11_takesKey_400 w1 od) fun x w2 => (if x = (0 : Int32) then ((0 : Int32), w2) else CK [59, 115, 101, 108, 108, 32] (g_X11_reads_400_123 od 100000) w2)) V = _ := e6 _
    rw [eQ2, e5]
    simp only [bnd2, i10, i00, if_true, if_false]
    exact ⟨fu.tr (FU.at o _ t), fw.tr (FW.at o _ t), Or.inl ⟨trivial, h5.2.1, h5.2.2.1⟩⟩
