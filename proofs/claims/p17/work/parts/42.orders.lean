/-! THE TAPE AND THE ORDERS, as calls leave them -/
def RelT (u w : tV) : Prop := ∀ i, i < (u 55 1).toNatClampNeg → BR (u 56 i) (w 433 i)
def ROW (o : Nat) (u w : tV) : Prop := u (60 + o) 6 = w 436 o ∧ 0 ≤ (u (60 + o) 6).toInt ∧ (u (60 + o) 6).toInt ≤ 999 ∧ (u (60 + o) 5 = w 437 o ∧ 0 ≤ (u (60 + o) 5).toInt ∧ (u (60 + o) 5).toInt ≤ 3) ∧ u (60 + o) 3 = w 438 o ∧ 0 ≤ (u (60 + o) 3).toInt ∧ (u (60 + o) 3).toInt ≤ 3 ∧
  (∀ p, p < (u (60 + o) 3).toNatClampNeg → u (70 + o) p = w 439 (3 * o + p) ∧ u (80 + o) p = w 441 (3 * o + p) ∧ u (90 + o) p = w 440 (3 * o + p)) ∧ u (60 + o) 4 = w 442 o
def RelO (u w : tV) : Prop := (∀ o, o < (u 50 2).toNatClampNeg → ROW o u w) ∧ u 68 3 = 0 ∧ u 68 4 = 99 ∧ u 68 5 = 0
theorem RelT.kp {u w u1 w1 : tV} (h : RelT u w) (h0 : u1 55 1 = u 55 1) (h1 : ∀ i, u1 56 i = u 56 i) (h2 : ∀ i, w1 433 i = w 433 i) : RelT u1 w1 := by
  intro i hi
  rw [h0] at hi
  rw [h1, h2]; exact h i hi
theorem ROW.kp {o : Nat} {u w u1 w1 : tV} (h : ROW o u w) (h1 : ∀ a j, a = 60 + o ∨ a = 70 + o ∨ a = 80 + o ∨ a = 90 + o → u1 a j = u a j) (h2 : ∀ a j, (a = 436 ∨ a = 437 ∨ a = 438 ∨ a = 442) ∧ j = o → w1 a j = w a j) (h3 : ∀ a p, (a = 439 ∨ a = 440 ∨ a = 441) ∧ p < 3 → w1 a (3 * o + p) = w a (3 * o + p)) : ROW o u1 w1 := by
  obtain ⟨a1, a2, a3, a4, a5, a6, a7, a8, a9⟩ := h
  have g3 := h1 (60 + o) 3 (by omega)
  have g4 := h1 (60 + o) 4 (by omega)
  have g5 := h1 (60 + o) 5 (by omega)
  have g6 := h1 (60 + o) 6 (by omega)
  have q1 := h2 436 o (by omega)
  have q2 := h2 437 o (by omega)
  have q3 := h2 438 o (by omega)
  have q4 := h2 442 o (by omega)
  have kc := clampI a6
  refine ⟨?_, ?_, ?_, ?_, ?_, ?_, ?_, fun p hp => ?_, ?_⟩
  · rw [g6, q1]; exact a1
  · rw [g6]; exact a2
  · rw [g6]; exact a3
  · rw [g5, q2]; exact a4
  · rw [g3, q3]; exact a5
  · rw [g3]; exact a6
  · rw [g3]; exact a7
  · rw [g3] at hp
    rw [h1 (70 + o) p (by omega), h1 (80 + o) p (by omega), h1 (90 + o) p (by omega), h3 439 p (by omega), h3 440 p (by omega), h3 441 p (by omega)]; exact a8 p hp
  · rw [g4, q4]; exact a9
theorem RelO.kp {u w u1 w1 : tV} (h : RelO u w) (h0 : u1 50 2 = u 50 2) (h1 : ∀ a j, 60 ≤ a ∧ a < 99 → u1 a j = u a j) (h2 : ∀ a j, 436 ≤ a ∧ a ≤ 442 → w1 a j = w a j) (h8 : (u 50 2).toInt ≤ 8) : RelO u1 w1 := by
  obtain ⟨g, g3, g4, g5⟩ := h
  refine ⟨fun o ho => ?_, ?_, ?_, ?_⟩
  · rw [h0] at ho
    have h9 : o < 8 := by
      have : (u 50 2).toNatClampNeg = (u 50 2).toInt.toNat := rfl
      omega
    exact (g o ho).kp (fun a j q => h1 a j (by omega)) (fun a j q => h2 a j (by omega)) (fun a p q => h2 a _ (by omega))
  · rw [h1 68 3 (by omega)]; exact g3
  · rw [h1 68 4 (by omega)]; exact g4
  · rw [h1 68 5 (by omega)]; exact g5
/-- all that is tied -/
def RelX (u w : tV) : Prop := RelW u w ∧ RelT u w ∧ RelO u w
theorem RelX.cong {u w u1 w1 : tV} (h : RelX u w) (hI : Inv u) (h1 : ∀ a j, a < 400 → u1 a j = u a j) (h2 : ∀ a j, 400 ≤ a → w1 a j = w a j) : RelX u1 w1 :=
  ⟨h.1.cong h1 h2,
   h.2.1.kp (h1 _ _ (by omega)) (fun i => h1 _ _ (by omega)) (fun i => h2 _ _ (by omega)),
   h.2.2.kp (h1 _ _ (by omega)) (fun a j q => h1 _ _ (by omega)) (fun a j q => h2 _ _ (by omega)) (hI 50 2 0 8 rfl).2⟩
/-- an order is read -/
theorem sim_order {u w : tV} (h : RelX u w) (hI : Inv u) (dy : Int32) : RelX (f_X10_order_0 u dy).2 (f_X11_order_400 w dy).2 ∧ (f_X10_order_0 u dy).1 = (f_X11_order_400 w dy).1 := by
  obtain ⟨hW, hT, hO⟩ := id h
  have hn : w 400 34 = u 50 2 := hW.no.symm
  have ht : u 55 1 = w 400 33 := hW.nt
  obtain ⟨h8a, h8b⟩ := hI 50 2 0 8 rfl
  obtain ⟨h9a, h9b⟩ := hI 55 1 0 120 rfl
  have z8 : (8 : Int32).toInt = 8 := rfl
  have z1 : (1 : Int32).toInt = 1 := rfl
  simp only [f_X10_order_0, f_X11_order_400, bnd, hn, z_0, z_999]
  by_cases c1 : 0 ≤ dy.toInt ∧ dy.toInt ≤ 999
  · rw [if_pos c1, if_pos c1]
    by_cases c2 : u 50 2 < 8
    · have c3 := i_lt c2
      rw [z8] at c3
      rw [if_pos c2, if_neg (fun z => by have := i_eq z; rw [z8] at this; omega)]
      have ho : (u 50 2).toNatClampNeg < 8 := by have := clampI h8a; omega
      have hod : (u 50 2).toInt = (((u 50 2).toNatClampNeg : Nat) : Int) := (clampI h8a).symm
      obtain ⟨o, eo⟩ : ∃ z, z = (u 50 2).toNatClampNeg := ⟨_, rfl⟩
      rw [← eo] at ho hod ⊢
      obtain ⟨r1, r2, r3⟩ := read_rel ho (od := u 50 2) hod ht h9a h9b hT
      obtain ⟨p, ep⟩ : ∃ z, z = f_X8_read_55 u (60 + o) := ⟨_, rfl⟩
      obtain ⟨q, eq⟩ : ∃ z, z = f_X11_reads_400 w (u 50 2) := ⟨_, rfl⟩
      rw [← ep, ← eq] at r3 ⊢
      rw [← ep] at r1
      rw [← eq] at r2
      simp only [bnd2]
      -- what the rest of both worlds is
      have hrow : ∀ i, i < o → ROW i (up2 p.2 55 1 0) (up2 q.2 400 33 0) := fun i hi => (hO.1 i (by omega)).kp
        (fun a j z => by rw [up2_n _ _ (by omega)]; exact r1 a j (by omega) (by omega) (by omega) (by omega) (by omega))
        (fun a j z => by rw [up2_n _ _ (by omega)]; exact r2 a j (by omega) (by omega) (by omega))
        (fun a j z => by rw [up2_n _ _ (by omega)]; exact r2 a _ (by omega) (by omega) (by omega))
      have g50 : p.2 50 2 = u 50 2 := r1 _ _ (by omega) (by omega) (by omega) (by omega) (by omega)
      have g34 : q.2 400 34 = u 50 2 := (r2 _ _ (by omega) (by omega) (by omega)).trans hn
      have rC : ∀ a j, ¬ (a = 55 ∧ j = 2) → (a < 60 ∨ 99 ≤ a) → p.2 a j = u a j := fun a j z1 z2 => r1 a j z1 (by omega) (by omega) (by omega) (by omega)
      have rM : ∀ a j, ¬ (a = 400 ∧ (j = 42 ∨ j = 43)) → (a < 437 ∨ 442 < a) → q.2 a j = w a j := fun a j z1 z2 => r2 a j z1 (by omega) (by omega)
      have hPR : RelW (up2 p.2 55 1 0) (up2 q.2 400 33 0) := RelW.put_nt (w := q.2) (u := p.2) ⟨fun s1 f1 c0 c1 => by rw [rC _ _ (by omega) (by omega), rM _ _ (by omega) (by omega)]; exact hW.ship s1 f1 c0 c1, fun s1 f1 c0 c1 => by rw [rC _ _ (by omega) (by omega), rM _ _ (by omega) (by omega)]; exact hW.buyer s1 f1 c0 c1, fun s1 f1 c0 c1 c2 => by rw [rC _ _ (by omega) (by omega), rM _ _ (by omega) (by omega)]; exact hW.ward s1 f1 c0 c1 c2, fun s1 f1 c0 c1 => by rw [rC _ _ (by omega) (by omega), rM _ _ (by omega) (by omega)]; exact hW.burn s1 f1 c0 c1, by rw [rC _ _ (by omega) (by omega), rM _ _ (by omega) (by omega)]; exact hW.n, by rw [rC _ _ (by omega) (by omega), rM _ _ (by omega) (by omega)]; exact hW.nb, by rw [rC _ _ (by omega) (by omega), rM _ _ (by omega) (by omega)]; exact hW.le, by rw [rC _ _ (by omega) (by omega), rM _ _ (by omega) (by omega)]; exact hW.mo, by rw [rC _ _ (by omega) (by omega), rM _ _ (by omega) (by omega)]; exact hW.no, by rw [rC _ _ (by omega) (by omega), rM _ _ (by omega) (by omega)]; exact hW.nt, by rw [rC _ _ (by omega) (by omega), rM _ _ (by omega) (by omega)]; exact hW.to, by rw [rC _ _ (by omega) (by omega), rM _ _ (by omega) (by omega)]; exact hW.pr, by rw [rC _ _ (by omega) (by omega), rM _ _ (by omega) (by omega)]; exact hW.mk, by rw [rC _ _ (by omega) (by omega), rM _ _ (by omega) (by omega)]; exact hW.bg⟩ 0
      have c68 : ∀ j, up2 p.2 55 1 0 68 j = u 68 j := fun j => by
        rw [up2_n _ _ (by omega)]; exact r1 68 j (by omega) (by omega) (by omega) (by omega) (by omega)
      rcases r3 with ⟨e1, e2, e3⟩ | ⟨e1, e2, e3, e4⟩
      · have eb : p.1 ≠ -1 := fun z => by rw [z] at e3; exact absurd e3 (by decide)
        rw [if_neg eb, if_pos e1]
        show RelX (up2 p.2 55 1 0) (up2 q.2 400 33 0) ∧ -10 - p.1 = -10 - up2 q.2 400 33 0 400 42
        refine ⟨⟨hPR, ?_, ?_⟩, ?_⟩
        · intro i hi
          have z : up2 p.2 55 1 0 55 1 = 0 := up2_s _ _ _ _
          rw [z] at hi
          exact absurd hi (Nat.not_lt_zero i)
        · refine ⟨fun i hi => hrow i ?_, ?_, ?_, ?_⟩
          · have z : up2 p.2 55 1 0 50 2 = u 50 2 := by rw [up2_n _ _ (by omega)]; exact g50
            rw [z] at hi; omega
          · rw [c68]; exact hO.2.1
          · rw [c68]; exact hO.2.2.1
          · rw [c68]; exact hO.2.2.2
        · show -10 - p.1 = -10 - up2 q.2 400 33 0 400 42
          rw [up2_n _ _ (by omega), e2]
      · rw [if_pos e2, if_neg (by rw [e1]; decide)]
        obtain ⟨t1, t2, t3, t4, t5, t6, t7, t8, t9, t10, t11⟩ := e3
        have k1 : (u 50 2 + 1).toInt = (u 50 2).toInt + 1 := by rw [i_add (by rw [z1]; omega) (by rw [z1]; omega), z1]
        have k2 := clampI (x := u 50 2 + 1) (by omega)
        obtain ⟨P, eP⟩ : ∃ z, z = up2 (up2 (up2 p.2 55 1 0) (60 + o) 6 dy) 50 2 (u 50 2 + 1) := ⟨_, rfl⟩
        obtain ⟨Q, eQ⟩ : ∃ z, z = up2 (up2 (up2 q.2 400 33 0) 436 o dy) 400 34 (u 50 2 + 1) := ⟨_, rfl⟩
        have fP : ∀ a j, ¬ (a = 55 ∧ j = 1) → ¬ (a = 60 + o ∧ j = 6) → ¬ (a = 50 ∧ j = 2) → P a j = p.2 a j := fun a j z1 z2 z3 => by rw [eP, up2_n _ _ z3, up2_n _ _ z2, up2_n _ _ z1]
        have fQ : ∀ a j, ¬ (a = 400 ∧ j = 33) → ¬ (a = 436 ∧ j = o) → ¬ (a = 400 ∧ j = 34) → Q a j = q.2 a j := fun a j z1 z2 z3 => by rw [eQ, up2_n _ _ z3, up2_n _ _ z2, up2_n _ _ z1]
        have hP50 : P 50 2 = u 50 2 + 1 := by rw [eP, up2_s]
        have hmain : RelX P Q := by
          refine ⟨?_, ?_, ?_⟩
          · rw [eP, eQ]
            exact ((hPR.putL dy (by omega)).putR dy (by omega)).put_no _
          · intro i hi
            have z : P 55 1 = 0 := by rw [eP, up2_n _ _ (by omega), up2_n _ _ (by omega), up2_s]
            rw [z] at hi
            exact absurd hi (Nat.not_lt_zero i)
          · refine ⟨fun i hi => ?_, ?_, ?_, ?_⟩
            · rw [hP50] at hi
              by_cases z : i = o
              · subst z
                have y6 : P (60 + i) 6 = dy := by rw [eP, up2_n _ _ (by omega), up2_s]
                have y436 : Q 436 i = dy := by rw [eQ, up2_n _ _ (by omega), up2_s]
                have y3 := fP (60 + i) 3 (by omega) (by omega) (by omega)
                have y4 := fP (60 + i) 4 (by omega) (by omega) (by omega)
                have y5 := fP (60 + i) 5 (by omega) (by omega) (by omega)
                refine ⟨?_, ?_, ?_, ?_, ?_, ?_, ?_, fun pp hp => ?_, ?_⟩
                · rw [y6, y436]
                · rw [y6]; exact c1.1
                · rw [y6]; exact c1.2
                · rw [y5, fQ 437 i (by omega) (by omega) (by omega)]; exact t7 trivial
                · rw [y3, fQ 438 i (by omega) (by omega) (by omega)]; exact t8
                · rw [y3]; exact t9
                · rw [y3]; exact t10
                · rw [y3] at hp
                  rw [fP (70 + i) pp (by omega) (by omega) (by omega), fP (80 + i) pp (by omega) (by omega) (by omega), fP (90 + i) pp (by omega) (by omega) (by omega), fQ 439 _ (by omega) (by omega) (by omega), fQ 440 _ (by omega) (by omega) (by omega), fQ 441 _ (by omega) (by omega) (by omega)]
                  exact t11 pp hp
                · rw [y4, fQ 442 i (by omega) (by omega) (by omega)]; exact e4
              · exact (hrow i (by omega)).kp (fun a j z => by rw [eP, up2_n _ _ (by omega), up2_n _ _ (by omega)]) (fun a j z => by rw [eQ, up2_n _ _ (by omega), up2_n _ _ (by omega)]) (fun a j z => by rw [eQ, up2_n _ _ (by omega), up2_n _ _ (by omega)])
            · rw [fP 68 3 (by omega) (by omega) (by omega), r1 68 3 (by omega) (by omega) (by omega) (by omega) (by omega)]; exact hO.2.1
            · rw [fP 68 4 (by omega) (by omega) (by omega), r1 68 4 (by omega) (by omega) (by omega) (by omega) (by omega)]; exact hO.2.2.1
            · rw [fP 68 5 (by omega) (by omega) (by omega), r1 68 5 (by omega) (by omega) (by omega) (by omega) (by omega)]; exact hO.2.2.2
        rw [← eP, ← eQ]
        exact ⟨hmain, by show u 50 2 = u 50 2 + 1 - 1; rw [Int32.add_sub_cancel]⟩
    · have c3 := i_nlt c2
      rw [z8] at c3
      rw [if_neg c2, if_pos (i32_ext (by rw [z8]; omega))]; exact ⟨h, rfl⟩
  · rw [if_neg c1, if_neg c1]; exact ⟨h, rfl⟩
