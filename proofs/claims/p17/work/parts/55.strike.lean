/-! THE BEST BUYER, ONE BARGAIN -/
theorem best_step {u w : tV} (h : RelW u w) (hnb : (u 1 4).toInt ≤ 10) {s : Nat} (hs : s < 20) {si : Int32} (hsi : si.toNatClampNeg = s) : ∀ (n : Nat) (y2 y3 : Int32), -1 ≤ y2.toInt → y2.toInt < 10 → 0 ≤ y3.toInt →
    g_X6_bestBuyer_1_4 u (100 + s) n y2 y3 = g_X11_next_400_4 w si n y2 y3 := by
  have z1 : (1 : Int32).toInt = 1 := rfl
  have z0 : (0 : Int32).toInt = 0 := rfl
  have zm : (-1 : Int32).toInt = -1 := rfl
  intro n
  induction n with
  | zero => intros; rfl
  | succ n ih =>
    intro y2 y3 a1 a2 a3
    show b_X6_bestBuyer_1_4 u (100 + s) (g_X6_bestBuyer_1_4 u (100 + s) n) y2 y3 = b_X11_next_400_4 w si (g_X11_next_400_4 w si n) y2 y3
    simp only [b_X6_bestBuyer_1_4, b_X11_next_400_4, f_X0_takes, bnd, ← h.nb, hsi]
    by_cases q1 : u 1 4 ≤ y3
    · rw [if_pos q1, if_pos q1]
    · have q1' := i_nle q1
      rw [if_neg q1, if_neg q1]
      have c3 := clampI a3
      have k1 : (y3 + 1).toInt = y3.toInt + 1 := by rw [i_add (by rw [z1]; omega) (by rw [z1]; omega), z1]
      have e1 : w 418 y3.toNatClampNeg = u (200 + y3.toNatClampNeg) 1 := (h.buyer _ 1 (by omega) (by omega)).symm
      have e2 : w 419 y3.toNatClampNeg = u (200 + y3.toNatClampNeg) 2 := (h.buyer _ 2 (by omega) (by omega)).symm
      have e3 : w 420 y3.toNatClampNeg = u (200 + y3.toNatClampNeg) 3 := (h.buyer _ 3 (by omega) (by omega)).symm
      have f1 : w 404 s = u (100 + s) 1 := (h.ship s 1 hs (by omega)).symm
      have f3 : w 406 s = u (100 + s) 3 := (h.ship s 3 hs (by omega)).symm
      have iA := ih y2 (y3 + 1) a1 a2 (by omega)
      have iB := ih y3 (y3 + 1) (by omega) (by omega) (by omega)
      rw [e1, e2, e3, f1, f3, iA, iB]
      generalize g_X11_next_400_4 w si n y2 (y3 + 1) = A
      generalize g_X11_next_400_4 w si n y3 (y3 + 1) = B
      generalize u (200 + y3.toNatClampNeg) 1 = b1
      generalize u (200 + y3.toNatClampNeg) 2 = b2
      generalize u (200 + y3.toNatClampNeg) 3 = b3
      generalize u (100 + s) 1 = s1
      generalize u (100 + s) 3 = s3
      have no : (0 : Int32) = 0 := rfl
      have n1 : ¬ (1 : Int32) = 0 := by decide
      by_cases q2 : y2 = -1
      · rw [if_pos q2, if_pos (c := y2 < 0) (by rw [q2]; decide)]
        by_cases p1 : b1 = s1
        · by_cases p2 : b2 ≤ 0
          · rw [if_pos p2, if_pos p1, if_pos no, if_pos p2]
          · by_cases p3 : b3 < s3
            · rw [if_neg p2, if_pos p1, if_pos p3, if_pos no, if_pos p1, if_neg p2, if_pos p3]
            · rw [if_neg p2, if_pos p1, if_neg p3, if_neg n1, if_pos p1, if_neg p2, if_neg p3]
        · rw [if_neg p1, if_neg p1]
          by_cases p2 : b2 ≤ 0
          · rw [if_pos p2, if_pos no]
          · rw [if_neg p2, if_pos no]
      · have q2' : y2.toInt ≠ (-1 : Int32).toInt := i_ne q2
        rw [zm] at q2'
        have c2 := clampI (x := y2) (by omega)
        have e4 : w 420 y2.toNatClampNeg = u (200 + y2.toNatClampNeg) 3 := (h.buyer _ 3 (by omega) (by omega)).symm
        rw [if_neg q2, if_neg (c := y2 < 0) (fun z => by have := i_lt z; rw [z0] at this; omega), e4]
        generalize u (200 + y2.toNatClampNeg) 3 = b4
        by_cases p4 : b3 ≤ b4
        · rw [if_pos p4, if_pos p4]
          repeat' split
          all_goals rfl
        · rw [if_neg p4, if_neg p4]
          by_cases p1 : b1 = s1
          · by_cases p2 : b2 ≤ 0
            · rw [if_pos p2, if_pos p1, if_pos no, if_pos p2]
            · by_cases p3 : b3 < s3
              · rw [if_neg p2, if_pos p1, if_pos p3, if_pos no, if_pos p1, if_neg p2, if_pos p3]
              · rw [if_neg p2, if_pos p1, if_neg p3, if_neg n1, if_pos p1, if_neg p2, if_neg p3]
          · rw [if_neg p1, if_neg p1]
            by_cases p2 : b2 ≤ 0
            · rw [if_pos p2, if_pos no]
            · rw [if_neg p2, if_pos no]
theorem best_eq {u w : tV} (h : RelW u w) (hnb : (u 1 4).toInt ≤ 10) {s : Nat} (hs : s < 20) {si : Int32} (hsi : si.toNatClampNeg = s) : f_X6_bestBuyer_1 u (100 + s) = f_X11_next_400 w si := by
  rw [f_X6_bestBuyer_1, f_X11_next_400]
  exact best_step h hnb hs hsi 100000 (-1) 0 (by decide) (by decide) (by decide)
/-- what is known of the buyer that is found -/
theorem next_ok {w : tV} {si : Int32} (hnb : (w 400 15).toInt ≤ 10) : ∀ (n : Nat) (y2 y3 : Int32), -1 ≤ y2.toInt → (0 ≤ y2.toInt → y2.toInt < (w 400 15).toInt ∧ 0 < (w 419 y2.toNatClampNeg).toInt) → 0 ≤ y3.toInt → y3.toInt ≤ 10 → (10 - y3.toInt).toNat < n →
    -1 ≤ (g_X11_next_400_4 w si n y2 y3).toInt ∧ (0 ≤ (g_X11_next_400_4 w si n y2 y3).toInt → (g_X11_next_400_4 w si n y2 y3).toInt < (w 400 15).toInt ∧ 0 < (w 419 (g_X11_next_400_4 w si n y2 y3).toNatClampNeg).toInt) := by
  have z1 : (1 : Int32).toInt = 1 := rfl
  have z0 : (0 : Int32).toInt = 0 := rfl
  intro n
  induction n with
  | zero => intros; omega
  | succ n ih =>
    intro y2 y3 a1 a2 a3 a4 a5
    have es : g_X11_next_400_4 w si (n + 1) y2 y3 = b_X11_next_400_4 w si (g_X11_next_400_4 w si n) y2 y3 := rfl
    rw [es]
    simp only [b_X11_next_400_4, bnd]
    by_cases q1 : w 400 15 ≤ y3
    · rw [if_pos q1]; exact ⟨a1, a2⟩
    · have q1' := i_nle q1
      rw [if_neg q1]
      have k1 : (y3 + 1).toInt = y3.toInt + 1 := by rw [i_add (by rw [z1]; omega) (by rw [z1]; omega), z1]
      have iA := ih y2 (y3 + 1) a1 a2 (by omega) (by omega) (by omega)
      by_cases p1 : w 418 y3.toNatClampNeg = w 404 si.toNatClampNeg
      · rw [if_pos p1]
        by_cases p2 : w 419 y3.toNatClampNeg ≤ 0
        · rw [if_pos p2]; exact iA
        · have p2' := i_nle p2
          rw [z0] at p2'
          have iB := ih y3 (y3 + 1) (by omega) (fun _ => ⟨by omega, p2'⟩) (by omega) (by omega) (by omega)
          rw [if_neg p2]
          repeat' split
          all_goals first | exact iA | exact iB
      · rw [if_neg p1]; exact iA
