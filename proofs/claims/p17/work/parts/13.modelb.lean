theorem d_X11_has_0 : decode c_X11_has 0 = .ok (.aload_n 0, 1) := by decide +kernel
theorem d_X11_has_1 : decode c_X11_has 1 = .ok (.getfield 193, 3) := by decide +kernel
theorem d_X11_has_4 : decode c_X11_has 4 = .ok (.aload_n 0, 1) := by decide +kernel
theorem d_X11_has_5 : decode c_X11_has 5 = .ok (.getfield 190, 3) := by decide +kernel
theorem d_X11_has_8 : decode c_X11_has 8 = .ok (.if_icmp .ge 20, 3) := by decide +kernel
theorem d_X11_has_11 : decode c_X11_has 11 = .ok (.aload_n 0, 1) := by decide +kernel
theorem d_X11_has_12 : decode c_X11_has 12 = .ok (.getfield 92, 3) := by decide +kernel
theorem d_X11_has_15 : decode c_X11_has 15 = .ok (.aload_n 0, 1) := by decide +kernel
theorem d_X11_has_16 : decode c_X11_has 16 = .ok (.getfield 193, 3) := by decide +kernel
theorem d_X11_has_19 : decode c_X11_has 19 = .ok (.baload, 1) := by decide +kernel
theorem d_X11_has_20 : decode c_X11_has 20 = .ok (.iload_n 1, 1) := by decide +kernel
theorem d_X11_has_21 : decode c_X11_has 21 = .ok (.if_icmp .ne 7, 3) := by decide +kernel
theorem d_X11_has_24 : decode c_X11_has 24 = .ok (.iconst 1, 1) := by decide +kernel
theorem d_X11_has_25 : decode c_X11_has 25 = .ok (.goto 4, 3) := by decide +kernel
theorem d_X11_has_28 : decode c_X11_has 28 = .ok (.iconst 0, 1) := by decide +kernel
theorem d_X11_has_29 : decode c_X11_has 29 = .ok (.ireturn, 1) := by decide +kernel
def f_X11_has_400 (v : tV) (bt : Int32) : Int32 := bnd (v 400 42) fun x1 => bnd (v 400 33) fun x4 => (if x4 ≤ x1 then (0 : Int32) else bnd (v 433 x1.toNatClampNeg) fun x12 => (if x12 = bt then (1 : Int32) else (0 : Int32)))
set_option maxHeartbeats 4000000 in
set_option maxRecDepth 100000 in
theorem ct_X11_has_400 (l : Launch) (D : va_G) (dA : Nat → ClassId) (ad : Nat → Nat) (v : tV) (hI : Inv v) (bt : Int32) : Met l m_X11_has [.code m_X11_has c_X11_has 2 (some .boolean)] ({ frames := 1, cells := 0, slots := 0, locals := 40 } : Room) (tP D dA ad v [.ref (ad 400), .int bt]) (tQi D dA ad (fun r v' => (v' = v ∧ ((r = 1 ∧ (v 400 42).toInt ≤ 119) ∨ r = 0)) ∧ r = f_X11_has_400 v bt)) 0 0 (tA ad) := by
  refine tMet (by decide) (Nat.le_of_ble_eq_true rfl) ?_
  intro p e s m below meth c ls X hr hlocks hw hl
  have X : CX p s m ([.ref (ad 400), .int bt] : List Value).toArray c c_X11_has N_X11 2 D dA := X
  have hx := X.1
  have hb := X.2.1
  have hS : va_S (tA ad) s.heap s.heap [] := va_S.rf
  have hl : lv_has ls 2 [(0, .ref (ad 400)), (1, .int bt)] := hl
  obtain ⟨RR, eRR⟩ : ∃ z, f_X11_has_400 v bt = z := ⟨_, rfl⟩
  have hG := eRR
  unfold f_X11_has_400 at hG
  refine lv_aload_n hx hb d_X11_has_0 rfl (lv_at hl 0 rfl) ?_
  refine r_geti X hw FL_X11_193 (rfl : KD 400 = _) rfl d_X11_has_1 ?_
  refine lv_topi (fun x1 ex1 => ?_)
  have hG := bnd_use ex1 hG
  have r2 : Rg x1 0 120 := by rw [ex1]; exact hI _ _ _ _ rfl
  have hm3 : v 400 42 = x1 := ex1.symm
  refine lv_aload_n hx hb d_X11_has_4 rfl (lv_at hl 0 rfl) ?_
  refine r_geti X hw FL_X11_190 (rfl : KD 400 = _) rfl d_X11_has_5 ?_
  refine lv_topi (fun x4 ex4 => ?_)
  have hG := bnd_use ex4 hG
  have r5 : Rg x4 0 120 := by rw [ex4]; exact hI _ _ _ _ rfl
  have hm6 : v 400 33 = x4 := ex4.symm
  refine lv_icmp_ge (tgt := 28) hx hb d_X11_has_8 (by decide) (fun c7 => ?_) (fun c7 => ?_)
  · have f8 := i_le c7
    have hG := g_pos c7 hG
    refine lv_iconst (v := 0) hx hb d_X11_has_28 (by decide) ?_
    exact r_zret X hr hlocks hw hS rfl ⟨⟨rfl, Or.inr rfl⟩, hG.trans eRR.symm⟩ d_X11_has_29
  · have f9 := i_nle c7
    have r10 : Rg x1 0 119 := by obtain ⟨a1, a2⟩ := r2; obtain ⟨b1, b2⟩ := r5; have f := i_nle c7; exact ⟨by omega, by omega⟩
    have r11 : Rg x4 1 120 := by obtain ⟨a1, a2⟩ := r2; obtain ⟨b1, b2⟩ := r5; have f := i_nle c7; exact ⟨by omega, by omega⟩
    have hG := g_neg c7 hG
    refine lv_aload_n hx hb d_X11_has_11 rfl (lv_at hl 0 rfl) ?_
    refine r_getr (r := 433) X hw FL_X11_92 (rfl : KD 400 = _) rfl d_X11_has_12 ?_
    refine lv_aload_n hx hb d_X11_has_15 rfl (lv_at hl 0 rfl) ?_
    refine r_geti X hw FL_X11_193 (rfl : KD 400 = _) rfl d_X11_has_16 ?_
    rw [hm3]
    refine r_bald X hw (rfl : KD 433 = _) (Rg.vp (b := 119) r10 (by decide)) rfl d_X11_has_19 ?_
    refine lv_topi (fun x12 ex12 => ?_)
    have hG := bnd_use ex12 hG
    refine lv_iload_n hx hb d_X11_has_20 rfl (lv_at hl 1 rfl) ?_
    refine lv_icmp_ne (tgt := 28) hx hb d_X11_has_21 (by decide) (fun c13 => ?_) (fun c13 => ?_)
    · have f14 := i_ne c13
      have hG := g_neg c13 hG
      refine lv_iconst (v := 0) hx hb d_X11_has_28 (by decide) ?_
      exact r_zret X hr hlocks hw hS rfl ⟨⟨rfl, Or.inr rfl⟩, hG.trans eRR.symm⟩ d_X11_has_29
    · have f15 := i_eq c13
      have hG := g_pos c13 hG
      refine lv_iconst (v := 1) hx hb d_X11_has_24 (by decide) ?_
      refine lv_goto (tgt := 29) hx hb d_X11_has_25 (by decide) ?_
      exact r_zret X hr hlocks hw hS rfl ⟨⟨rfl, Or.inl ⟨rfl, by first | exact (r10).2 | (rw [hm3]; exact (r10).2)⟩⟩, hG.trans eRR.symm⟩ d_X11_has_29
theorem d_X11_takes_0 : decode c_X11_takes 0 = .ok (.aload_n 0, 1) := by decide +kernel
theorem d_X11_takes_1 : decode c_X11_takes 1 = .ok (.iload_n 1, 1) := by decide +kernel
theorem d_X11_takes_2 : decode c_X11_takes 2 = .ok (.invokevirtual 196, 3) := by decide +kernel
theorem d_X11_takes_5 : decode c_X11_takes 5 = .ok (.ifCond .ne 5, 3) := by decide +kernel
theorem d_X11_takes_8 : decode c_X11_takes 8 = .ok (.iconst 0, 1) := by decide +kernel
theorem d_X11_takes_9 : decode c_X11_takes 9 = .ok (.ireturn, 1) := by decide +kernel
theorem d_X11_takes_10 : decode c_X11_takes 10 = .ok (.aload_n 0, 1) := by decide +kernel
theorem d_X11_takes_11 : decode c_X11_takes 11 = .ok (.dup, 1) := by decide +kernel
theorem d_X11_takes_12 : decode c_X11_takes 12 = .ok (.getfield 193, 3) := by decide +kernel
theorem d_X11_takes_15 : decode c_X11_takes 15 = .ok (.iconst 1, 1) := by decide +kernel
theorem d_X11_takes_16 : decode c_X11_takes 16 = .ok (.iadd, 1) := by decide +kernel
theorem d_X11_takes_17 : decode c_X11_takes 17 = .ok (.putfield 193, 3) := by decide +kernel
theorem d_X11_takes_20 : decode c_X11_takes 20 = .ok (.iconst 1, 1) := by decide +kernel
theorem d_X11_takes_21 : decode c_X11_takes 21 = .ok (.ireturn, 1) := by decide +kernel
def kp_X11_takes_400 (bt : Int32) (a j : Nat) : Prop := (a ≠ 400 ∨ (j ≠ 42))
def f_X11_takes_400 (v : tV) (bt : Int32) : Int32 × tV := bnd (v 400 34) fun g0 => (if f_X11_has_400 v bt = 1 then bnd (v 400 42) fun x6 => bnd (x6 + (1 : Int32)) fun x9 => bnd (up2 v 400 42 x9) fun v12 => ((1 : Int32), v12) else ((0 : Int32), v))
set_option maxHeartbeats 4000000 in
set_option maxRecDepth 100000 in
theorem ct_X11_takes_400 (l : Launch) (D : va_G) (dA : Nat → ClassId) (ad : Nat → Nat) (v : tV) (hI : Inv v) (bt : Int32) : Met l m_X11_takes [.code m_X11_takes c_X11_takes 2 (some .boolean)] ({ frames := 2, cells := 0, slots := 0, locals := 61 } : Room) (tP D dA ad v [.ref (ad 400), .int bt]) (tQi D dA ad (fun r v' => (Inv v' ∧ Kp (kp_X11_takes_400 bt) v v' ∧ Rg r 0 1 ∧ v' 400 34 = v 400 34 ∧ (∀ a b, a ≠ 400 → v' a b = v a b)) ∧ (r, v') = f_X11_takes_400 v bt)) 0 0 (tA ad) := by
  refine tMet (by decide) (Nat.le_of_ble_eq_true rfl) ?_
  intro p e s m below meth c ls X hr hlocks hw hl
  have X : CX p s m ([.ref (ad 400), .int bt] : List Value).toArray c c_X11_takes N_X11 2 D dA := X
  have hx := X.1
  have hb := X.2.1
  have hS : va_S (tA ad) s.heap s.heap [] := va_S.rf
  have hl : lv_has ls 2 [(0, .ref (ad 400)), (1, .int bt)] := hl
  obtain ⟨g0, hg0⟩ : ∃ g, v 400 34 = g := ⟨_, rfl⟩
  have r_g0 : Rg g0 0 8 := by rw [← hg0]; exact hI 400 34 _ _ rfl
  have hF0 : ∀ a b, a ≠ 400 → v a b = v a b := fun _ _ _ => rfl
  obtain ⟨RR, eRR⟩ : ∃ z, f_X11_takes_400 v bt = z := ⟨_, rfl⟩
  have hK0 : Kp (kp_X11_takes_400 bt) v v := Kp.rf _ v
  have hG := eRR
  unfold f_X11_takes_400 at hG
  have hG := bnd_use hg0.symm hG
  refine lv_aload_n hx hb d_X11_takes_0 rfl (lv_at hl 0 rfl) ?_
  refine lv_iload_n hx hb d_X11_takes_1 rfl (lv_at hl 1 rfl) ?_
  refine r_ci (r_runV (n := 1) (As := [.int bt]) (rest := []) X hw (ct_X11_has_400 l D dA ad v hI bt) gc_X11_196 (rfl : KD 400 = _) (by decide) rfl (by decide +kernel) ⟨rfl, rfl, Nat.le_of_ble_eq_true rfl, Nat.le_of_ble_eq_true rfl⟩ rfl hl.1 rfl (Nat.le_of_ble_eq_true rfl) ⟨Nat.zero_le _, Nat.zero_le _⟩ d_X11_takes_2) hS (fun x2 v3 H locs hp1 hw hS => ?_)
  obtain ⟨hp1, hE4⟩ := hp1
  obtain ⟨ev3, hp1⟩ := hp1
  rw [ev3] at hw
  rcases hp1 with ⟨rfl, w5a⟩ | rfl
  · skip
    have hG := g_pos hE4.symm hG
    obtain ⟨x6, ex6⟩ : ∃ z, v 400 42 = z := ⟨_, rfl⟩
    have hG := bnd_use ex6.symm hG
    have r7 : Rg x6 0 119 := by have q := hI 400 42 0 120 rfl; have z := w5a; rw [ex6] at q z; exact ⟨q.1, z⟩
    refine lv_if_ne (tgt := 10) hx hb d_X11_takes_5 (by decide) (fun c8 => ?_) (fun c8 => ?_)
    · refine lv_aload_n hx hb d_X11_takes_10 rfl (lv_at hl 0 rfl) ?_
      refine lv_dup hx hb d_X11_takes_11 rfl ?_
      refine r_geti X hw FL_X11_193 (rfl : KD 400 = _) rfl d_X11_takes_12 ?_
      rw [ex6]
      refine lv_iconst (v := 1) hx hb d_X11_takes_15 (by decide) ?_
      refine lv_iadd hx hb d_X11_takes_16 ?_
      refine lv_topi (fun x9 ex9 => ?_)
      have hG := bnd_use ex9 hG
      have r10 : Rg x9 1 120 := rg_add ex9 r7 (⟨by decide, by decide⟩ : Rg 1 1 1) (by decide) (by decide)
      have s11 : x9.toInt = x6.toInt + (1 : Int32).toInt := by rw [ex9]; exact i_add (by obtain ⟨_, _⟩ := r7; obtain ⟨_, _⟩ := (⟨by decide, by decide⟩ : Rg 1 1 1); omega) (by obtain ⟨_, _⟩ := r7; obtain ⟨_, _⟩ := (⟨by decide, by decide⟩ : Rg 1 1 1); omega)
      have s11l : (1 : Int32).toInt = 1 := rfl
      refine r_put X hw hS FP_X11_193 (rfl : KD 400 = _) rfl ⟨rfl, rfl⟩ d_X11_takes_17 (fun H locs hw hS => ?_)
      obtain ⟨v12, ev12⟩ : ∃ z, z = up2 v 400 42 x9 := ⟨_, rfl⟩
      rw [← ev12] at hw
      have hG := bnd_use ev12 hG
      have hI13 : Inv v12 := by rw [ev12]; exact Inv.putr hI rfl (rg_w r10 (by decide) (by decide))
      have hK14 : Kp (kp_X11_takes_400 bt) v v12 := by rw [ev12]; exact Kp.put hK0 _ (by unfold kp_X11_takes_400; omega)
      have hF15 : ∀ a b, a ≠ 400 → v12 a b = v a b := fun a b h => (congrFun (congrFun ev12 a) b).trans ((up2_n _ _ (fun q => h q.1)).trans (hF0 a b h))
      have hm16 : v12 400 34 = g0 := by rw [ev12, up2_n _ _ (by omega)]; exact hg0
      have hm17 : v12 400 42 = x9 := by rw [ev12, up2_s]
      refine lv_iconst (v := 1) hx hb d_X11_takes_20 (by decide) ?_
      exact r_zret X hr hlocks hw hS rfl ⟨⟨hI13, hK14, (rg_w (⟨by decide, by decide⟩ : Rg 1 1 1) (by decide) (by decide)), (hm16.trans hg0.symm), hF15⟩, hG.trans eRR.symm⟩ d_X11_takes_21
    · exact absurd c8 (by decide)
  · skip
    have hG := g_neg (by rw [← hE4]; decide) hG
    refine lv_if_ne (tgt := 10) hx hb d_X11_takes_5 (by decide) (fun c18 => ?_) (fun c18 => ?_)
    · exact absurd c18 (by decide)
    · refine lv_iconst (v := 0) hx hb d_X11_takes_8 (by decide) ?_
      exact r_zret X hr hlocks hw hS rfl ⟨⟨hI, hK0, (rg_w (⟨by decide, by decide⟩ : Rg 0 0 0) (by decide) (by decide)), (hg0.trans hg0.symm), hF0⟩, hG.trans eRR.symm⟩ d_X11_takes_9
theorem d_X11_takesNumber_0 : decode c_X11_takesNumber 0 = .ok (.aload_n 0, 1) := by decide +kernel
theorem d_X11_takesNumber_1 : decode c_X11_takesNumber 1 = .ok (.iconst 0, 1) := by decide +kernel
theorem d_X11_takesNumber_2 : decode c_X11_takesNumber 2 = .ok (.putfield 199, 3) := by decide +kernel
theorem d_X11_takesNumber_5 : decode c_X11_takesNumber 5 = .ok (.iconst 0, 1) := by decide +kernel
theorem d_X11_takesNumber_6 : decode c_X11_takesNumber 6 = .ok (.istore_n 2, 1) := by decide +kernel
theorem d_X11_takesNumber_7 : decode c_X11_takesNumber 7 = .ok (.iload_n 2, 1) := by decide +kernel
theorem d_X11_takesNumber_8 : decode c_X11_takesNumber 8 = .ok (.iload_n 1, 1) := by decide +kernel
theorem d_X11_takesNumber_9 : decode c_X11_takesNumber 9 = .ok (.if_icmp .ge 69, 3) := by decide +kernel
theorem d_X11_takesNumber_12 : decode c_X11_takesNumber 12 = .ok (.aload_n 0, 1) := by decide +kernel
theorem d_X11_takesNumber_13 : decode c_X11_takesNumber 13 = .ok (.getfield 193, 3) := by decide +kernel
theorem d_X11_takesNumber_16 : decode c_X11_takesNumber 16 = .ok (.aload_n 0, 1) := by decide +kernel
theorem d_X11_takesNumber_17 : decode c_X11_takesNumber 17 = .ok (.getfield 190, 3) := by decide +kernel
theorem d_X11_takesNumber_20 : decode c_X11_takesNumber 20 = .ok (.if_icmp .ge 58, 3) := by decide +kernel
theorem d_X11_takesNumber_23 : decode c_X11_takesNumber 23 = .ok (.aload_n 0, 1) := by decide +kernel
theorem d_X11_takesNumber_24 : decode c_X11_takesNumber 24 = .ok (.getfield 92, 3) := by decide +kernel
theorem d_X11_takesNumber_27 : decode c_X11_takesNumber 27 = .ok (.aload_n 0, 1) := by decide +kernel
theorem d_X11_takesNumber_28 : decode c_X11_takesNumber 28 = .ok (.getfield 193, 3) := by decide +kernel
theorem d_X11_takesNumber_31 : decode c_X11_takesNumber 31 = .ok (.baload, 1) := by decide +kernel
theorem d_X11_takesNumber_32 : decode c_X11_takesNumber 32 = .ok (.invokestatic 202, 3) := by decide +kernel
theorem d_X11_takesNumber_35 : decode c_X11_takesNumber 35 = .ok (.ifCond .eq 43, 3) := by decide +kernel
theorem d_X11_takesNumber_38 : decode c_X11_takesNumber 38 = .ok (.aload_n 0, 1) := by decide +kernel
theorem d_X11_takesNumber_39 : decode c_X11_takesNumber 39 = .ok (.bipush 10, 2) := by decide +kernel
theorem d_X11_takesNumber_41 : decode c_X11_takesNumber 41 = .ok (.aload_n 0, 1) := by decide +kernel
theorem d_X11_takesNumber_42 : decode c_X11_takesNumber 42 = .ok (.getfield 199, 3) := by decide +kernel
theorem d_X11_takesNumber_45 : decode c_X11_takesNumber 45 = .ok (.imul, 1) := by decide +kernel
theorem d_X11_takesNumber_46 : decode c_X11_takesNumber 46 = .ok (.aload_n 0, 1) := by decide +kernel
theorem d_X11_takesNumber_47 : decode c_X11_takesNumber 47 = .ok (.getfield 92, 3) := by decide +kernel
theorem d_X11_takesNumber_50 : decode c_X11_takesNumber 50 = .ok (.aload_n 0, 1) := by decide +kernel
theorem d_X11_takesNumber_51 : decode c_X11_takesNumber 51 = .ok (.getfield 193, 3) := by decide +kernel
theorem d_X11_takesNumber_54 : decode c_X11_takesNumber 54 = .ok (.baload, 1) := by decide +kernel
theorem d_X11_takesNumber_55 : decode c_X11_takesNumber 55 = .ok (.iadd, 1) := by decide +kernel
theorem d_X11_takesNumber_56 : decode c_X11_takesNumber 56 = .ok (.bipush 48, 2) := by decide +kernel
theorem d_X11_takesNumber_58 : decode c_X11_takesNumber 58 = .ok (.isub, 1) := by decide +kernel
theorem d_X11_takesNumber_59 : decode c_X11_takesNumber 59 = .ok (.putfield 199, 3) := by decide +kernel
theorem d_X11_takesNumber_62 : decode c_X11_takesNumber 62 = .ok (.aload_n 0, 1) := by decide +kernel
theorem d_X11_takesNumber_63 : decode c_X11_takesNumber 63 = .ok (.dup, 1) := by decide +kernel
theorem d_X11_takesNumber_64 : decode c_X11_takesNumber 64 = .ok (.getfield 193, 3) := by decide +kernel
theorem d_X11_takesNumber_67 : decode c_X11_takesNumber 67 = .ok (.iconst 1, 1) := by decide +kernel
theorem d_X11_takesNumber_68 : decode c_X11_takesNumber 68 = .ok (.iadd, 1) := by decide +kernel
theorem d_X11_takesNumber_69 : decode c_X11_takesNumber 69 = .ok (.putfield 193, 3) := by decide +kernel
theorem d_X11_takesNumber_72 : decode c_X11_takesNumber 72 = .ok (.iinc 2 1, 3) := by decide +kernel
theorem d_X11_takesNumber_75 : decode c_X11_takesNumber 75 = .ok (.goto (-68), 3) := by decide +kernel
theorem d_X11_takesNumber_78 : decode c_X11_takesNumber 78 = .ok (.iload_n 2, 1) := by decide +kernel
theorem d_X11_takesNumber_79 : decode c_X11_takesNumber 79 = .ok (.ifCond .le 7, 3) := by decide +kernel
theorem d_X11_takesNumber_82 : decode c_X11_takesNumber 82 = .ok (.iconst 1, 1) := by decide +kernel
theorem d_X11_takesNumber_83 : decode c_X11_takesNumber 83 = .ok (.goto 4, 3) := by decide +kernel
theorem d_X11_takesNumber_86 : decode c_X11_takesNumber 86 = .ok (.iconst 0, 1) := by decide +kernel
theorem d_X11_takesNumber_87 : decode c_X11_takesNumber 87 = .ok (.ireturn, 1) := by decide +kernel
def kp_X11_takesNumber_2 (most : Int32) (a j : Nat) : Prop := (a ≠ 400 ∨ (j ≠ 42 ∧ j ≠ 43))
def b_X11_takesNumber_2_7 (most : Int32) (rc7 : Int32 → tV → Int32 × tV) (y2 : Int32) (v1 : tV) : Int32 × tV := bnd (v1 400 43) fun m0 => bnd (v1 400 34) fun g0 => (if most ≤ y2 then ((1 : Int32), v1) else bnd (v1 400 42) fun x8 => bnd (v1 400 33) fun x11 => (if x11 ≤ x8 then (if y2 ≤ (0 : Int32) then ((0 : Int32), v1) else ((1 : Int32), v1)) else bnd (v1 433 x8.toNatClampNeg) fun x24 => (if 48 ≤ x24.toInt ∧ x24.toInt ≤ 57 then bnd ((10 : Int32) * m0) fun x33 => bnd (x33 + x24) fun x36 => bnd (x36 - (48 : Int32)) fun x39 => bnd (up2 v1 400 43 x39) fun v42 => bnd (x8 + (1 : Int32)) fun x51 => bnd (up2 v42 400 42 x51) fun v54 => bnd (y2 + 1) fun x63 => rc7 x63 v54 else (if y2 ≤ (0 : Int32) then ((0 : Int32), v1) else ((1 : Int32), v1)))))
def g_X11_takesNumber_2_7 (most : Int32) : Nat → Int32 → tV → Int32 × tV
  | 0, _, v1 => (0, v1)
  | n + 1, y2, v1 => b_X11_takesNumber_2_7 most (g_X11_takesNumber_2_7 most n) y2 v1
def f_X11_takesNumber_2 (v : tV) (most : Int32) : Int32 × tV := bnd (v 400 34) fun g0 => bnd (up2 v 400 43 0) fun v72 => g_X11_takesNumber_2_7 most 100000 0 v72
set_option maxHeartbeats 4000000 in
set_option maxRecDepth 100000 in
theorem ct_X11_takesNumber_2 (l : Launch) (D : va_G) (dA : Nat → ClassId) (ad : Nat → Nat) (v : tV) (hI : Inv v) (most : Int32) (r_most : Rg most 2 2) : Met l m_X11_takesNumber [.code m_X11_takesNumber c_X11_takesNumber 3 (some .boolean)] ({ frames := 2, cells := 0, slots := 0, locals := 60 } : Room) (tP D dA ad v [.ref (ad 400), .int most]) (tQi D dA ad (fun r v' => (Inv v' ∧ Kp (kp_X11_takesNumber_2 most) v v' ∧ Rg r 0 1 ∧ v' 400 34 = v 400 34 ∧ (∀ a b, a ≠ 400 → v' a b = v a b) ∧ Rg (v' 400 43) 0 99) ∧ (r, v') = f_X11_takesNumber_2 v most)) 0 0 (tA ad) := by
  refine tMet (by decide) (Nat.le_of_ble_eq_true rfl) ?_
  intro p e s m below meth c ls X hr hlocks hw hl
  have X : CX p s m ([.ref (ad 400), .int most] : List Value).toArray c c_X11_takesNumber N_X11 3 D dA := X
  have hx := X.1
  have hb := X.2.1
  have hS : va_S (tA ad) s.heap s.heap [] := va_S.rf
  have hl : lv_has ls 3 [(0, .ref (ad 400)), (1, .int most)] := hl
  obtain ⟨g0, hg0⟩ : ∃ g, v 400 34 = g := ⟨_, rfl⟩
  have r_g0 : Rg g0 0 8 := by rw [← hg0]; exact hI 400 34 _ _ rfl
  have hF0 : ∀ a b, a ≠ 400 → v a b = v a b := fun _ _ _ => rfl
  obtain ⟨RR, eRR⟩ : ∃ z, f_X11_takesNumber_2 v most = z := ⟨_, rfl⟩
  have LL : ∀ n : Nat, (∀ (y2 : Int32) (m0 : Int32) (v1 : tV) (H : Heap) (locs : List Loc) (ls : Array Slot), (2 - y2.toInt).toNat < n → Rg y2 0 2 → Rg m0 0 99 → Inv v1 → Kp (kp_X11_takesNumber_2 most) v v1 → (∀ a b, a ≠ 400 → v1 a b = v a b) → v1 400 43 = m0 → v1 400 34 = g0 → (y2.toInt = 0 → m0.toInt = 0) ∧ (y2.toInt = 1 → m0.toInt ≤ 9) → g_X11_takesNumber_2_7 most n y2 v1 = RR → tI D dA ad v1 H → va_S (tA ad) s.heap H locs → lv_has ls 3 [(0, .ref (ad 400)), (1, .int most), (2, .int y2)] → W p l e ({ frames := 2, cells := 0, slots := 0, locals := 60 } : Room) s m ([.ref (ad 400), .int most] : List Value).toArray below meth c H locs 0 0 (MQ below (tQi D dA ad (fun r v' => (Inv v' ∧ Kp (kp_X11_takesNumber_2 most) v v' ∧ Rg r 0 1 ∧ v' 400 34 = v 400 34 ∧ (∀ a b, a ≠ 400 → v' a b = v a b) ∧ Rg (v' 400 43) 0 99) ∧ (r, v') = f_X11_takesNumber_2 v most)) ([.ref (ad 400), .int most] : List Value).toArray s 0 0 (tA ad)) (F0 m 7 ls [])) := by
    intro n
    induction n with
    | zero => intros; omega
    | succ n ih =>
      have ih0 := ih
      intro y2 m0 v1 H locs ls hmu r_y2 r_m0 hI1 hK1 hF1 h_m0 hfx0 hex hG hw hS hl
      have hG : b_X11_takesNumber_2_7 most (g_X11_takesNumber_2_7 most n) y2 v1 = RR := hG
      unfold b_X11_takesNumber_2_7 at hG
      have hG := bnd_use h_m0.symm hG
      have hG := bnd_use hfx0.symm hG
      refine lv_iload_n hx hb d_X11_takesNumber_7 rfl (lv_at hl 2 rfl) ?_
      refine lv_iload_n hx hb d_X11_takesNumber_8 rfl (lv_at hl 1 rfl) ?_
      refine lv_icmp_ge (tgt := 78) hx hb d_X11_takesNumber_9 (by decide) (fun c1 => ?_) (fun c1 => ?_)
      · have f2 := i_le c1
        have r3 : Rg y2 2 2 := by obtain ⟨a1, a2⟩ := r_y2; obtain ⟨b1, b2⟩ := r_most; have f := i_le c1; exact ⟨by omega, by omega⟩
        have hG := g_pos c1 hG
        refine lv_iload_n hx hb d_X11_takesNumber_78 rfl (lv_at hl 2 rfl) ?_
        refine lv_if_le (tgt := 86) hx hb d_X11_takesNumber_79 (by decide) (fun c4 => ?_) (fun c4 => ?_)
        · exfalso
          obtain ⟨a1, a2⟩ := r3; obtain ⟨b1, b2⟩ := (⟨by decide, by decide⟩ : Rg 0 0 0); have f := i_le c4; omega
        · have f5 := i_nle c4
          refine lv_iconst (v := 1) hx hb d_X11_takesNumber_82 (by decide) ?_
          refine lv_goto (tgt := 87) hx hb d_X11_takesNumber_83 (by decide) ?_
          exact r_zret X hr hlocks hw hS rfl ⟨⟨hI1, hK1, (rg_w (⟨by decide, by decide⟩ : Rg 1 1 1) (by decide) (by decide)), (hfx0.trans hg0.symm), hF1, (by rw [h_m0]; exact r_m0)⟩, hG.trans eRR.symm⟩ d_X11_takesNumber_87
      · have f6 := i_nle c1
        have r7 : Rg y2 0 1 := by obtain ⟨a1, a2⟩ := r_y2; obtain ⟨b1, b2⟩ := r_most; have f := i_nle c1; exact ⟨by omega, by omega⟩
        have hG := g_neg c1 hG
        refine lv_aload_n hx hb d_X11_takesNumber_12 rfl (lv_at hl 0 rfl) ?_
        refine r_geti X hw FL_X11_193 (rfl : KD 400 = _) rfl d_X11_takesNumber_13 ?_
        refine lv_topi (fun x8 ex8 => ?_)
        have hG := bnd_use ex8 hG
        have r9 : Rg x8 0 120 := by rw [ex8]; exact hI1 _ _ _ _ rfl
        have hm10 : v1 400 42 = x8 := ex8.symm
        refine lv_aload_n hx hb d_X11_takesNumber_16 rfl (lv_at hl 0 rfl) ?_
        refine r_geti X hw FL_X11_190 (rfl : KD 400 = _) rfl d_X11_takesNumber_17 ?_
        refine lv_topi (fun x11 ex11 => ?_)
        have hG := bnd_use ex11 hG
        have r12 : Rg x11 0 120 := by rw [ex11]; exact hI1 _ _ _ _ rfl
        have hm13 : v1 400 33 = x11 := ex11.symm
        refine lv_icmp_ge (tgt := 78) hx hb d_X11_takesNumber_20 (by decide) (fun c14 => ?_) (fun c14 => ?_)
        · have f15 := i_le c14
          have hG := g_pos c14 hG
          refine lv_iload_n hx hb d_X11_takesNumber_78 rfl (lv_at hl 2 rfl) ?_
          refine lv_if_le (tgt := 86) hx hb d_X11_takesNumber_79 (by decide) (fun c16 => ?_) (fun c16 => ?_)
          · have f17 := i_le c16
            have r18 : Rg y2 0 0 := by obtain ⟨a1, a2⟩ := r7; obtain ⟨b1, b2⟩ := (⟨by decide, by decide⟩ : Rg 0 0 0); have f := i_le c16; exact ⟨by omega, by omega⟩
            have hG := g_pos c16 hG
            refine lv_iconst (v := 0) hx hb d_X11_takesNumber_86 (by decide) ?_
            exact r_zret X hr hlocks hw hS rfl ⟨⟨hI1, hK1, (rg_w (⟨by decide, by decide⟩ : Rg 0 0 0) (by decide) (by decide)), (hfx0.trans hg0.symm), hF1, (by rw [h_m0]; exact r_m0)⟩, hG.trans eRR.symm⟩ d_X11_takesNumber_87
          · have f19 := i_nle c16
            have r20 : Rg y2 1 1 := by obtain ⟨a1, a2⟩ := r7; obtain ⟨b1, b2⟩ := (⟨by decide, by decide⟩ : Rg 0 0 0); have f := i_nle c16; exact ⟨by omega, by omega⟩
            have hG := g_neg c16 hG
            refine lv_iconst (v := 1) hx hb d_X11_takesNumber_82 (by decide) ?_
            refine lv_goto (tgt := 87) hx hb d_X11_takesNumber_83 (by decide) ?_
            exact r_zret X hr hlocks hw hS rfl ⟨⟨hI1, hK1, (rg_w (⟨by decide, by decide⟩ : Rg 1 1 1) (by decide) (by decide)), (hfx0.trans hg0.symm), hF1, (by rw [h_m0]; exact r_m0)⟩, hG.trans eRR.symm⟩ d_X11_takesNumber_87
        · have f21 := i_nle c14
          have r22 : Rg x8 0 119 := by obtain ⟨a1, a2⟩ := r9; obtain ⟨b1, b2⟩ := r12; have f := i_nle c14; exact ⟨by omega, by omega⟩
          have r23 : Rg x11 1 120 := by obtain ⟨a1, a2⟩ := r9; obtain ⟨b1, b2⟩ := r12; have f := i_nle c14; exact ⟨by omega, by omega⟩
          have hG := g_neg c14 hG
          refine lv_aload_n hx hb d_X11_takesNumber_23 rfl (lv_at hl 0 rfl) ?_
          refine r_getr (r := 433) X hw FL_X11_92 (rfl : KD 400 = _) rfl d_X11_takesNumber_24 ?_
          refine lv_aload_n hx hb d_X11_takesNumber_27 rfl (lv_at hl 0 rfl) ?_
          refine r_geti X hw FL_X11_193 (rfl : KD 400 = _) rfl d_X11_takesNumber_28 ?_
          rw [hm10]
          refine r_bald X hw (rfl : KD 433 = _) (Rg.vp (b := 119) r22 (by decide)) rfl d_X11_takesNumber_31 ?_
          refine lv_topi (fun x24 ex24 => ?_)
          have hG := bnd_use ex24 hG
          have hm25 : v1 433 x8.toNatClampNeg = x24 := ex24.symm
          refine r_ci (r_runS (n := 1) (As := [.int x24]) (rest := []) X hw (ct_X11_isDigit l D dA ad v1 hI1 x24) gc_X11_202 (by decide +kernel) ⟨rfl, rfl, Nat.le_of_ble_eq_true rfl, Nat.le_of_ble_eq_true rfl⟩ rfl hl.1 rfl (Nat.le_of_ble_eq_true rfl) ⟨Nat.zero_le _, Nat.zero_le _⟩ d_X11_takesNumber_32) hS (fun x27 v28 H locs hp26 hw hS => ?_)
          obtain ⟨ev28, hp26⟩ := hp26
          rw [ev28] at hw
          rcases hp26 with ⟨rfl, w29a, w29b⟩ | ⟨rfl, w29n⟩
          · skip
            have hG := g_pos ⟨w29a, w29b⟩ hG
            have r30 : Rg x24 48 57 := by obtain ⟨_, _⟩ := (rg_any x24); exact ⟨by omega, by omega⟩
            refine lv_if_eq (tgt := 78) hx hb d_X11_takesNumber_35 (by decide) (fun c31 => ?_) (fun c31 => ?_)
            · exact absurd c31 (by decide)
            · have r32 : Rg m0 0 9 := by obtain ⟨_, _⟩ := r_m0; obtain ⟨_, _⟩ := r7; exact ⟨by omega, by omega⟩
              refine lv_aload_n hx hb d_X11_takesNumber_38 rfl (lv_at hl 0 rfl) ?_
              refine lv_bipush (v := 10) hx hb d_X11_takesNumber_39 (by decide) ?_
              refine lv_aload_n hx hb d_X11_takesNumber_41 rfl (lv_at hl 0 rfl) ?_
              refine r_geti X hw FL_X11_199 (rfl : KD 400 = _) rfl d_X11_takesNumber_42 ?_
              rw [h_m0]
              refine lv_imul hx hb d_X11_takesNumber_45 ?_
              refine lv_topi (fun x33 ex33 => ?_)
              have hG := bnd_use ex33 hG
              have r34 : Rg x33 0 90 := rg_mulc ex33 (⟨by decide, by decide⟩ : Rg 10 10 10) r32 (by decide) (by decide) (by decide)
              have s35 : x33.toInt = 10 * m0.toInt := rg_mule ex33 r32 rfl (by decide) (by decide)
              refine lv_aload_n hx hb d_X11_takesNumber_46 rfl (lv_at hl 0 rfl) ?_
              refine r_getr (r := 433) X hw FL_X11_92 (rfl : KD 400 = _) rfl d_X11_takesNumber_47 ?_
              refine lv_aload_n hx hb d_X11_takesNumber_50 rfl (lv_at hl 0 rfl) ?_
              refine r_geti X hw FL_X11_193 (rfl : KD 400 = _) rfl d_X11_takesNumber_51 ?_
              rw [hm10]
              refine r_bald X hw (rfl : KD 433 = _) (Rg.vp (b := 119) r22 (by decide)) rfl d_X11_takesNumber_54 ?_
              rw [hm25]
              refine lv_iadd hx hb d_X11_takesNumber_55 ?_
              refine lv_topi (fun x36 ex36 => ?_)
              have hG := bnd_use ex36 hG
              have r37 : Rg x36 48 147 := rg_add ex36 r34 r30 (by decide) (by decide)
              have s38 : x36.toInt = x33.toInt + (x24 : Int32).toInt := by rw [ex36]; exact i_add (by obtain ⟨_, _⟩ := r34; obtain ⟨_, _⟩ := r30; omega) (by obtain ⟨_, _⟩ := r34; obtain ⟨_, _⟩ := r30; omega)
              refine lv_bipush (v := 48) hx hb d_X11_takesNumber_56 (by decide) ?_
              refine lv_isub hx hb d_X11_takesNumber_58 ?_
              refine lv_topi (fun x39 ex39 => ?_)
              have hG := bnd_use ex39 hG
              have r40 : Rg x39 0 99 := rg_sub ex39 r37 (⟨by decide, by decide⟩ : Rg 48 48 48) (by decide) (by decide)
              have s41 : x39.toInt = x36.toInt - (48 : Int32).toInt := by rw [ex39]; exact i_sub (by obtain ⟨_, _⟩ := r37; obtain ⟨_, _⟩ := (⟨by decide, by decide⟩ : Rg 48 48 48); omega) (by obtain ⟨_, _⟩ := r37; obtain ⟨_, _⟩ := (⟨by decide, by decide⟩ : Rg 48 48 48); omega)
              have s41l : (48 : Int32).toInt = 48 := rfl
              refine r_put X hw hS FP_X11_199 (rfl : KD 400 = _) rfl ⟨rfl, rfl⟩ d_X11_takesNumber_59 (fun H locs hw hS => ?_)
              obtain ⟨v42, ev42⟩ : ∃ z, z = up2 v1 400 43 x39 := ⟨_, rfl⟩
              rw [← ev42] at hw
              have hG := bnd_use ev42 hG
              have hI43 : Inv v42 := by rw [ev42]; exact Inv.putr hI1 rfl (rg_w r40 (by decide) (by decide))
              have hK44 : Kp (kp_X11_takesNumber_2 most) v v42 := by rw [ev42]; exact Kp.put hK1 _ (by unfold kp_X11_takesNumber_2; omega)
              have hF45 : ∀ a b, a ≠ 400 → v42 a b = v a b := fun a b h => (congrFun (congrFun ev42 a) b).trans ((up2_n _ _ (fun q => h q.1)).trans (hF1 a b h))
              have hm46 : v42 400 34 = g0 := by rw [ev42, up2_n _ _ (by omega)]; exact hfx0
              have hm47 : v42 400 42 = x8 := by rw [ev42, up2_n _ _ (by omega)]; exact hm10
              have hm48 : v42 400 33 = x11 := by rw [ev42, up2_n _ _ (by omega)]; exact hm13
              have hm49 : v42 433 x8.toNatClampNeg = x24 := by rw [ev42, up2_n _ _ (by omega)]; exact hm25
              have hm50 : v42 400 43 = x39 := by rw [ev42, up2_s]
              refine lv_aload_n hx hb d_X11_takesNumber_62 rfl (lv_at hl 0 rfl) ?_
              refine lv_dup hx hb d_X11_takesNumber_63 rfl ?_
              refine r_geti X hw FL_X11_193 (rfl : KD 400 = _) rfl d_X11_takesNumber_64 ?_
              rw [hm47]
              refine lv_iconst (v := 1) hx hb d_X11_takesNumber_67 (by decide) ?_
              refine lv_iadd hx hb d_X11_takesNumber_68 ?_
              refine lv_topi (fun x51 ex51 => ?_)
              have hG := bnd_use ex51 hG
              have r52 : Rg x51 1 120 := rg_add ex51 r22 (⟨by decide, by decide⟩ : Rg 1 1 1) (by decide) (by decide)
              have s53 : x51.toInt = x8.toInt + (1 : Int32).toInt := by rw [ex51]; exact i_add (by obtain ⟨_, _⟩ := r22; obtain ⟨_, _⟩ := (⟨by decide, by decide⟩ : Rg 1 1 1); omega) (by obtain ⟨_, _⟩ := r22; obtain ⟨_, _⟩ := (⟨by decide, by decide⟩ : Rg 1 1 1); omega)
              have s53l : (1 : Int32).toInt = 1 := rfl
              refine r_put X hw hS FP_X11_193 (rfl : KD 400 = _) rfl ⟨rfl, rfl⟩ d_X11_takesNumber_69 (fun H locs hw hS => ?_)
              obtain ⟨v54, ev54⟩ : ∃ z, z = up2 v42 400 42 x51 := ⟨_, rfl⟩
              rw [← ev54] at hw
              have hG := bnd_use ev54 hG
              have hI55 : Inv v54 := by rw [ev54]; exact Inv.putr hI43 rfl (rg_w r52 (by decide) (by decide))
              have hK56 : Kp (kp_X11_takesNumber_2 most) v v54 := by rw [ev54]; exact Kp.put hK44 _ (by unfold kp_X11_takesNumber_2; omega)
              have hF57 : ∀ a b, a ≠ 400 → v54 a b = v a b := fun a b h => (congrFun (congrFun ev54 a) b).trans ((up2_n _ _ (fun q => h q.1)).trans (hF45 a b h))
              have hm58 : v54 400 34 = g0 := by rw [ev54, up2_n _ _ (by omega)]; exact hm46
              have hm59 : v54 400 33 = x11 := by rw [ev54, up2_n _ _ (by omega)]; exact hm48
              have hm60 : v54 433 x8.toNatClampNeg = x24 := by rw [ev54, up2_n _ _ (by omega)]; exact hm49
              have hm61 : v54 400 43 = x39 := by rw [ev54, up2_n _ _ (by omega)]; exact hm50
              have hm62 : v54 400 42 = x51 := by rw [ev54, up2_s]
              obtain ⟨x63, ex63⟩ : ∃ y : Int32, y = y2 + 1 := ⟨_, rfl⟩
              have hG := bnd_use ex63 hG
              refine lv_iinc (v := x63) (lv' := [(2, .int x63), (0, .ref (ad 400)), (1, .int most)]) hx hb d_X11_takesNumber_72 hl (k := 2) rfl (by rw [ex63]; rfl) (by decide) rfl (fun ls hl => ?_)
              have r64 : Rg x63 1 2 := rg_add ex63 r7 (⟨by decide, by decide⟩ : Rg 1 1 1) (by decide) (by decide)
              have s65 : x63.toInt = y2.toInt + (1 : Int32).toInt := by rw [ex63]; exact i_add (by obtain ⟨_, _⟩ := r7; obtain ⟨_, _⟩ := (⟨by decide, by decide⟩ : Rg 1 1 1); omega) (by obtain ⟨_, _⟩ := r7; obtain ⟨_, _⟩ := (⟨by decide, by decide⟩ : Rg 1 1 1); omega)
              have s65l : (1 : Int32).toInt = 1 := rfl
              refine lv_goto (tgt := 7) hx hb d_X11_takesNumber_75 (by decide) ?_
              exact ih0 x63 x39 v54 _ _ _ (by have := s35; have := s38; have := s41; have := s53; have := s65; obtain ⟨_, _⟩ := r64; obtain ⟨_, _⟩ := r40; omega) (rg_w r64 (by decide) (by decide)) r40 hI55 hK56 hF57 hm61 hm58 (by obtain ⟨_, _⟩ := r_most; obtain ⟨_, _⟩ := r_g0; obtain ⟨_, _⟩ := r7; obtain ⟨_, _⟩ := r32; obtain ⟨_, _⟩ := r22; obtain ⟨_, _⟩ := r23; obtain ⟨_, _⟩ := r30; obtain ⟨_, _⟩ := r34; obtain ⟨_, _⟩ := r37; obtain ⟨_, _⟩ := r40; obtain ⟨_, _⟩ := r52; obtain ⟨_, _⟩ := r64; have z0 : (0 : Int32).toInt = 0 := rfl; refine ⟨fun _ => ?_, fun _ => ?_⟩ <;> omega) hG hw hS (lv_sub hl [1, 2, 0] rfl)
          · skip
            have hG := g_neg w29n hG
            refine lv_if_eq (tgt := 78) hx hb d_X11_takesNumber_35 (by decide) (fun c66 => ?_) (fun c66 => ?_)
            · refine lv_iload_n hx hb d_X11_takesNumber_78 rfl (lv_at hl 2 rfl) ?_
              refine lv_if_le (tgt := 86) hx hb d_X11_takesNumber_79 (by decide) (fun c67 => ?_) (fun c67 => ?_)
              · have f68 := i_le c67
                have r69 : Rg y2 0 0 := by obtain ⟨a1, a2⟩ := r7; obtain ⟨b1, b2⟩ := (⟨by decide, by decide⟩ : Rg 0 0 0); have f := i_le c67; exact ⟨by omega, by omega⟩
                have hG := g_pos c67 hG
                refine lv_iconst (v := 0) hx hb d_X11_takesNumber_86 (by decide) ?_
                exact r_zret X hr hlocks hw hS rfl ⟨⟨hI1, hK1, (rg_w (⟨by decide, by decide⟩ : Rg 0 0 0) (by decide) (by decide)), (hfx0.trans hg0.symm), hF1, (by rw [h_m0]; exact r_m0)⟩, hG.trans eRR.symm⟩ d_X11_takesNumber_87
              · have f70 := i_nle c67
                have r71 : Rg y2 1 1 := by obtain ⟨a1, a2⟩ := r7; obtain ⟨b1, b2⟩ := (⟨by decide, by decide⟩ : Rg 0 0 0); have f := i_nle c67; exact ⟨by omega, by omega⟩
                have hG := g_neg c67 hG
                refine lv_iconst (v := 1) hx hb d_X11_takesNumber_82 (by decide) ?_
                refine lv_goto (tgt := 87) hx hb d_X11_takesNumber_83 (by decide) ?_
                exact r_zret X hr hlocks hw hS rfl ⟨⟨hI1, hK1, (rg_w (⟨by decide, by decide⟩ : Rg 1 1 1) (by decide) (by decide)), (hfx0.trans hg0.symm), hF1, (by rw [h_m0]; exact r_m0)⟩, hG.trans eRR.symm⟩ d_X11_takesNumber_87
            · exact absurd c66 (by decide)
  have ih0 := LL 100000
  have hK0 : Kp (kp_X11_takesNumber_2 most) v v := Kp.rf _ v
  have hG := eRR
  unfold f_X11_takesNumber_2 at hG
  have hG := bnd_use hg0.symm hG
  refine lv_aload_n hx hb d_X11_takesNumber_0 rfl (lv_at hl 0 rfl) ?_
  refine lv_iconst (v := 0) hx hb d_X11_takesNumber_1 (by decide) ?_
  refine r_put X hw hS FP_X11_199 (rfl : KD 400 = _) rfl ⟨rfl, rfl⟩ d_X11_takesNumber_2 (fun H locs hw hS => ?_)
  obtain ⟨v72, ev72⟩ : ∃ z, z = up2 v 400 43 0 := ⟨_, rfl⟩
  rw [← ev72] at hw
  have hG := bnd_use ev72 hG
  have hI73 : Inv v72 := by rw [ev72]; exact Inv.putr hI rfl (rg_w (⟨by decide, by decide⟩ : Rg 0 0 0) (by decide) (by decide))
  have hK74 : Kp (kp_X11_takesNumber_2 most) v v72 := by rw [ev72]; exact Kp.put hK0 _ (by unfold kp_X11_takesNumber_2; omega)
  have hF75 : ∀ a b, a ≠ 400 → v72 a b = v a b := fun a b h => (congrFun (congrFun ev72 a) b).trans ((up2_n _ _ (fun q => h q.1)).trans (hF0 a b h))
  have hm76 : v72 400 34 = g0 := by rw [ev72, up2_n _ _ (by omega)]; exact hg0
  have hm77 : v72 400 43 = 0 := by rw [ev72, up2_s]
  refine lv_iconst (v := 0) hx hb d_X11_takesNumber_5 (by decide) ?_
  refine lv_istore_n (lv' := [(2, .int 0), (0, .ref (ad 400)), (1, .int most)]) hx hb d_X11_takesNumber_6 rfl hl (by decide) rfl (fun ls hl => ?_)
  exact ih0 0 0 v72 _ _ _ (by obtain ⟨_, _⟩ := (⟨by decide, by decide⟩ : Rg 0 0 0); obtain ⟨_, _⟩ := (⟨by decide, by decide⟩ : Rg 0 0 0); omega) (rg_w (⟨by decide, by decide⟩ : Rg 0 0 0) (by decide) (by decide)) (rg_w (⟨by decide, by decide⟩ : Rg 0 0 0) (by decide) (by decide)) hI73 hK74 hF75 hm77 hm76 (by obtain ⟨_, _⟩ := r_most; obtain ⟨_, _⟩ := r_g0; have z0 : (0 : Int32).toInt = 0 := rfl; refine ⟨fun _ => ?_, fun _ => ?_⟩ <;> omega) hG hw hS (lv_sub hl [1, 2, 0] rfl)
def kp_X11_takesNumber_3 (most : Int32) (a j : Nat) : Prop := (a ≠ 400 ∨ (j ≠ 42 ∧ j ≠ 43))
def b_X11_takesNumber_3_7 (most : Int32) (rc7 : Int32 → tV → Int32 × tV) (y2 : Int32) (v1 : tV) : Int32 × tV := bnd (v1 400 43) fun m0 => bnd (v1 400 34) fun g0 => (if most ≤ y2 then ((1 : Int32), v1) else bnd (v1 400 42) fun x8 => bnd (v1 400 33) fun x11 => (if x11 ≤ x8 then (if y2 ≤ (0 : Int32) then ((0 : Int32), v1) else ((1 : Int32), v1)) else bnd (v1 433 x8.toNatClampNeg) fun x24 => (if 48 ≤ x24.toInt ∧ x24.toInt ≤ 57 then bnd ((10 : Int32) * m0) fun x33 => bnd (x33 + x24) fun x36 => bnd (x36 - (48 : Int32)) fun x39 => bnd (up2 v1 400 43 x39) fun v42 => bnd (x8 + (1 : Int32)) fun x51 => bnd (up2 v42 400 42 x51) fun v54 => bnd (y2 + 1) fun x63 => rc7 x63 v54 else (if y2 ≤ (0 : Int32) then ((0 : Int32), v1) else ((1 : Int32), v1)))))
def g_X11_takesNumber_3_7 (most : Int32) : Nat → Int32 → tV → Int32 × tV
  | 0, _, v1 => (0, v1)
  | n + 1, y2, v1 => b_X11_takesNumber_3_7 most (g_X11_takesNumber_3_7 most n) y2 v1
def f_X11_takesNumber_3 (v : tV) (most : Int32) : Int32 × tV := bnd (v 400 34) fun g0 => bnd (up2 v 400 43 0) fun v72 => g_X11_takesNumber_3_7 most 100000 0 v72
set_option maxHeartbeats 4000000 in
set_option maxRecDepth 100000 in
theorem ct_X11_takesNumber_3 (l : Launch) (D : va_G) (dA : Nat → ClassId) (ad : Nat → Nat) (v : tV) (hI : Inv v) (most : Int32) (r_most : Rg most 3 3) : Met l m_X11_takesNumber [.code m_X11_takesNumber c_X11_takesNumber 3 (some .boolean)] ({ frames := 2, cells := 0, slots := 0, locals := 60 } : Room) (tP D dA ad v [.ref (ad 400), .int most]) (tQi D dA ad (fun r v' => (Inv v' ∧ Kp (kp_X11_takesNumber_3 most) v v' ∧ Rg r 0 1 ∧ v' 400 34 = v 400 34 ∧ (∀ a b, a ≠ 400 → v' a b = v a b) ∧ Rg (v' 400 43) 0 999) ∧ (r, v') = f_X11_takesNumber_3 v most)) 0 0 (tA ad) := by
  refine tMet (by decide) (Nat.le_of_ble_eq_true rfl) ?_
  intro p e s m below meth c ls X hr hlocks hw hl
  have X : CX p s m ([.ref (ad 400), .int most] : List Value).toArray c c_X11_takesNumber N_X11 3 D dA := X
  have hx := X.1
  have hb := X.2.1
  have hS : va_S (tA ad) s.heap s.heap [] := va_S.rf
  have hl : lv_has ls 3 [(0, .ref (ad 400)), (1, .int most)] := hl
  obtain ⟨g0, hg0⟩ : ∃ g, v 400 34 = g := ⟨_, rfl⟩
  have r_g0 : Rg g0 0 8 := by rw [← hg0]; exact hI 400 34 _ _ rfl
  have hF0 : ∀ a b, a ≠ 400 → v a b = v a b := fun _ _ _ => rfl
  obtain ⟨RR, eRR⟩ : ∃ z, f_X11_takesNumber_3 v most = z := ⟨_, rfl⟩
  have LL : ∀ n : Nat, (∀ (y2 : Int32) (m0 : Int32) (v1 : tV) (H : Heap) (locs : List Loc) (ls : Array Slot), (3 - y2.toInt).toNat < n → Rg y2 0 3 → Rg m0 0 999 → Inv v1 → Kp (kp_X11_takesNumber_3 most) v v1 → (∀ a b, a ≠ 400 → v1 a b = v a b) → v1 400 43 = m0 → v1 400 34 = g0 → (y2.toInt = 0 → m0.toInt = 0) ∧ (y2.toInt = 1 → m0.toInt ≤ 9) ∧ (y2.toInt = 2 → m0.toInt ≤ 99) → g_X11_takesNumber_3_7 most n y2 v1 = RR → tI D dA ad v1 H → va_S (tA ad) s.heap H locs → lv_has ls 3 [(0, .ref (ad 400)), (1, .int most), (2, .int y2)] → W p l e ({ frames := 2, cells := 0, slots := 0, locals := 60 } : Room) s m ([.ref (ad 400), .int most] : List Value).toArray below meth c H locs 0 0 (MQ below (tQi D dA ad (fun r v' => (Inv v' ∧ Kp (kp_X11_takesNumber_3 most) v v' ∧ Rg r 0 1 ∧ v' 400 34 = v 400 34 ∧ (∀ a b, a ≠ 400 → v' a b = v a b) ∧ Rg (v' 400 43) 0 999) ∧ (r, v') = f_X11_takesNumber_3 v most)) ([.ref (ad 400), .int most] : List Value).toArray s 0 0 (tA ad)) (F0 m 7 ls [])) := by
    intro n
    induction n with
    | zero => intros; omega
    | succ n ih =>
      have ih0 := ih
      intro y2 m0 v1 H locs ls hmu r_y2 r_m0 hI1 hK1 hF1 h_m0 hfx0 hex hG hw hS hl
      have hG : b_X11_takesNumber_3_7 most (g_X11_takesNumber_3_7 most n) y2 v1 = RR := hG
      unfold b_X11_takesNumber_3_7 at hG
      have hG := bnd_use h_m0.symm hG
      have hG := bnd_use hfx0.symm hG
      refine lv_iload_n hx hb d_X11_takesNumber_7 rfl (lv_at hl 2 rfl) ?_
      refine lv_iload_n hx hb d_X11_takesNumber_8 rfl (lv_at hl 1 rfl) ?_
      refine lv_icmp_ge (tgt := 78) hx hb d_X11_takesNumber_9 (by decide) (fun c1 => ?_) (fun c1 => ?_)
      · have f2 := i_le c1
        have r3 : Rg y2 3 3 := by obtain ⟨a1, a2⟩ := r_y2; obtain ⟨b1, b2⟩ := r_most; have f := i_le c1; exact ⟨by omega, by omega⟩
        have hG := g_pos c1 hG
        refine lv_iload_n hx hb d_X11_takesNumber_78 rfl (lv_at hl 2 rfl) ?_
        refine lv_if_le (tgt := 86) hx hb d_X11_takesNumber_79 (by decide) (fun c4 => ?_) (fun c4 => ?_)
        · exfalso
          obtain ⟨a1, a2⟩ := r3; obtain ⟨b1, b2⟩ := (⟨by decide, by decide⟩ : Rg 0 0 0); have f := i_le c4; omega
        · have f5 := i_nle c4
          refine lv_iconst (v := 1) hx hb d_X11_takesNumber_82 (by decide) ?_
          refine lv_goto (tgt := 87) hx hb d_X11_takesNumber_83 (by decide) ?_
          exact r_zret X hr hlocks hw hS rfl ⟨⟨hI1, hK1, (rg_w (⟨by decide, by decide⟩ : Rg 1 1 1) (by decide) (by decide)), (hfx0.trans hg0.symm), hF1, (by rw [h_m0]; exact r_m0)⟩, hG.trans eRR.symm⟩ d_X11_takesNumber_87
      · have f6 := i_nle c1
        have r7 : Rg y2 0 2 := by obtain ⟨a1, a2⟩ := r_y2; obtain ⟨b1, b2⟩ := r_most; have f := i_nle c1; exact ⟨by omega, by omega⟩
        have hG := g_neg c1 hG
        refine lv_aload_n hx hb d_X11_takesNumber_12 rfl (lv_at hl 0 rfl) ?_
        refine r_geti X hw FL_X11_193 (rfl : KD 400 = _) rfl d_X11_takesNumber_13 ?_
        refine lv_topi (fun x8 ex8 => ?_)
        have hG := bnd_use ex8 hG
        have r9 : Rg x8 0 120 := by rw [ex8]; exact hI1 _ _ _ _ rfl
        have hm10 : v1 400 42 = x8 := ex8.symm
        refine lv_aload_n hx hb d_X11_takesNumber_16 rfl (lv_at hl 0 rfl) ?_
        refine r_geti X hw FL_X11_190 (rfl : KD 400 = _) rfl d_X11_takesNumber_17 ?_
        refine lv_topi (fun x11 ex11 => ?_)
        have hG := bnd_use ex11 hG
        have r12 : Rg x11 0 120 := by rw [ex11]; exact hI1 _ _ _ _ rfl
        have hm13 : v1 400 33 = x11 := ex11.symm
        refine lv_icmp_ge (tgt := 78) hx hb d_X11_takesNumber_20 (by decide) (fun c14 => ?_) (fun c14 => ?_)
        · have f15 := i_le c14
          have hG := g_pos c14 hG
          refine lv_iload_n hx hb d_X11_takesNumber_78 rfl (lv_at hl 2 rfl) ?_
          refine lv_if_le (tgt := 86) hx hb d_X11_takesNumber_79 (by decide) (fun c16 => ?_) (fun c16 => ?_)
          · have f17 := i_le c16
            have r18 : Rg y2 0 0 := by obtain ⟨a1, a2⟩ := r7; obtain ⟨b1, b2⟩ := (⟨by decide, by decide⟩ : Rg 0 0 0); have f := i_le c16; exact ⟨by omega, by omega⟩
            have hG := g_pos c16 hG
            refine lv_iconst (v := 0) hx hb d_X11_takesNumber_86 (by decide) ?_
            exact r_zret X hr hlocks hw hS rfl ⟨⟨hI1, hK1, (rg_w (⟨by decide, by decide⟩ : Rg 0 0 0) (by decide) (by decide)), (hfx0.trans hg0.symm), hF1, (by rw [h_m0]; exact r_m0)⟩, hG.trans eRR.symm⟩ d_X11_takesNumber_87
          · have f19 := i_nle c16
            have r20 : Rg y2 1 2 := by obtain ⟨a1, a2⟩ := r7; obtain ⟨b1, b2⟩ := (⟨by decide, by decide⟩ : Rg 0 0 0); have f := i_nle c16; exact ⟨by omega, by omega⟩
            have hG := g_neg c16 hG
            refine lv_iconst (v := 1) hx hb d_X11_takesNumber_82 (by decide) ?_
            refine lv_goto (tgt := 87) hx hb d_X11_takesNumber_83 (by decide) ?_
            exact r_zret X hr hlocks hw hS rfl ⟨⟨hI1, hK1, (rg_w (⟨by decide, by decide⟩ : Rg 1 1 1) (by decide) (by decide)), (hfx0.trans hg0.symm), hF1, (by rw [h_m0]; exact r_m0)⟩, hG.trans eRR.symm⟩ d_X11_takesNumber_87
        · have f21 := i_nle c14
          have r22 : Rg x8 0 119 := by obtain ⟨a1, a2⟩ := r9; obtain ⟨b1, b2⟩ := r12; have f := i_nle c14; exact ⟨by omega, by omega⟩
          have r23 : Rg x11 1 120 := by obtain ⟨a1, a2⟩ := r9; obtain ⟨b1, b2⟩ := r12; have f := i_nle c14; exact ⟨by omega, by omega⟩
          have hG := g_neg c14 hG
          refine lv_aload_n hx hb d_X11_takesNumber_23 rfl (lv_at hl 0 rfl) ?_
          refine r_getr (r := 433) X hw FL_X11_92 (rfl : KD 400 = _) rfl d_X11_takesNumber_24 ?_
          refine lv_aload_n hx hb d_X11_takesNumber_27 rfl (lv_at hl 0 rfl) ?_
          refine r_geti X hw FL_X11_193 (rfl : KD 400 = _) rfl d_X11_takesNumber_28 ?_
          rw [hm10]
          refine r_bald X hw (rfl : KD 433 = _) (Rg.vp (b := 119) r22 (by decide)) rfl d_X11_takesNumber_31 ?_
          refine lv_topi (fun x24 ex24 => ?_)
          have hG := bnd_use ex24 hG
          have hm25 : v1 433 x8.toNatClampNeg = x24 := ex24.symm
          refine r_ci (r_runS (n := 1) (As := [.int x24]) (rest := []) X hw (ct_X11_isDigit l D dA ad v1 hI1 x24) gc_X11_202 (by decide +kernel) ⟨rfl, rfl, Nat.le_of_ble_eq_true rfl, Nat.le_of_ble_eq_true rfl⟩ rfl hl.1 rfl (Nat.le_of_ble_eq_true rfl) ⟨Nat.zero_le _, Nat.zero_le _⟩ d_X11_takesNumber_32) hS (fun x27 v28 H locs hp26 hw hS => ?_)
          obtain ⟨ev28, hp26⟩ := hp26
          rw [ev28] at hw
          rcases hp26 with ⟨rfl, w29a, w29b⟩ | ⟨rfl, w29n⟩
          · skip
            have hG := g_pos ⟨w29a, w29b⟩ hG
            have r30 : Rg x24 48 57 := by obtain ⟨_, _⟩ := (rg_any x24); exact ⟨by omega, by omega⟩
            refine lv_if_eq (tgt := 78) hx hb d_X11_takesNumber_35 (by decide) (fun c31 => ?_) (fun c31 => ?_)
            · exact absurd c31 (by decide)
            · have r32 : Rg m0 0 99 := by obtain ⟨_, _⟩ := r_m0; obtain ⟨_, _⟩ := r7; exact ⟨by omega, by omega⟩
              refine lv_aload_n hx hb d_X11_takesNumber_38 rfl (lv_at hl 0 rfl) ?_
              refine lv_bipush (v := 10) hx hb d_X11_takesNumber_39 (by decide) ?_
              refine lv_aload_n hx hb d_X11_takesNumber_41 rfl (lv_at hl 0 rfl) ?_
              refine r_geti X hw FL_X11_199 (rfl : KD 400 = _) rfl d_X11_takesNumber_42 ?_
              rw [h_m0]
              refine lv_imul hx hb d_X11_takesNumber_45 ?_
              refine lv_topi (fun x33 ex33 => ?_)
              have hG := bnd_use ex33 hG
              have r34 : Rg x33 0 990 := rg_mulc ex33 (⟨by decide, by decide⟩ : Rg 10 10 10) r32 (by decide) (by decide) (by decide)
              have s35 : x33.toInt = 10 * m0.toInt := rg_mule ex33 r32 rfl (by decide) (by decide)
              refine lv_aload_n hx hb d_X11_takesNumber_46 rfl (lv_at hl 0 rfl) ?_
              refine r_getr (r := 433) X hw FL_X11_92 (rfl : KD 400 = _) rfl d_X11_takesNumber_47 ?_
              refine lv_aload_n hx hb d_X11_takesNumber_50 rfl (lv_at hl 0 rfl) ?_
              refine r_geti X hw FL_X11_193 (rfl : KD 400 = _) rfl d_X11_takesNumber_51 ?_
              rw [hm10]
              refine r_bald X hw (rfl : KD 433 = _) (Rg.vp (b := 119) r22 (by decide)) rfl d_X11_takesNumber_54 ?_
              rw [hm25]
              refine lv_iadd hx hb d_X11_takesNumber_55 ?_
              refine lv_topi (fun x36 ex36 => ?_)
              have hG := bnd_use ex36 hG
              have r37 : Rg x36 48 1047 := rg_add ex36 r34 r30 (by decide) (by decide)
              have s38 : x36.toInt = x33.toInt + (x24 : Int32).toInt := by rw [ex36]; exact i_add (by obtain ⟨_, _⟩ := r34; obtain ⟨_, _⟩ := r30; omega) (by obtain ⟨_, _⟩ := r34; obtain ⟨_, _⟩ := r30; omega)
              refine lv_bipush (v := 48) hx hb d_X11_takesNumber_56 (by decide) ?_
              refine lv_isub hx hb d_X11_takesNumber_58 ?_
              refine lv_topi (fun x39 ex39 => ?_)
              have hG := bnd_use ex39 hG
              have r40 : Rg x39 0 999 := rg_sub ex39 r37 (⟨by decide, by decide⟩ : Rg 48 48 48) (by decide) (by decide)
              have s41 : x39.toInt = x36.toInt - (48 : Int32).toInt := by rw [ex39]; exact i_sub (by obtain ⟨_, _⟩ := r37; obtain ⟨_, _⟩ := (⟨by decide, by decide⟩ : Rg 48 48 48); omega) (by obtain ⟨_, _⟩ := r37; obtain ⟨_, _⟩ := (⟨by decide, by decide⟩ : Rg 48 48 48); omega)
              have s41l : (48 : Int32).toInt = 48 := rfl
              refine r_put X hw hS FP_X11_199 (rfl : KD 400 = _) rfl ⟨rfl, rfl⟩ d_X11_takesNumber_59 (fun H locs hw hS => ?_)
              obtain ⟨v42, ev42⟩ : ∃ z, z = up2 v1 400 43 x39 := ⟨_, rfl⟩
              rw [← ev42] at hw
              have hG := bnd_use ev42 hG
              have hI43 : Inv v42 := by rw [ev42]; exact Inv.putr hI1 rfl r40
              have hK44 : Kp (kp_X11_takesNumber_3 most) v v42 := by rw [ev42]; exact Kp.put hK1 _ (by unfold kp_X11_takesNumber_3; omega)
              have hF45 : ∀ a b, a ≠ 400 → v42 a b = v a b := fun a b h => (congrFun (congrFun ev42 a) b).trans ((up2_n _ _ (fun q => h q.1)).trans (hF1 a b h))
              have hm46 : v42 400 34 = g0 := by rw [ev42, up2_n _ _ (by omega)]; exact hfx0
              have hm47 : v42 400 42 = x8 := by rw [ev42, up2_n _ _ (by omega)]; exact hm10
              have hm48 : v42 400 33 = x11 := by rw [ev42, up2_n _ _ (by omega)]; exact hm13
              have hm49 : v42 433 x8.toNatClampNeg = x24 := by rw [ev42, up2_n _ _ (by omega)]; exact hm25
              have hm50 : v42 400 43 = x39 := by rw [ev42, up2_s]
              refine lv_aload_n hx hb d_X11_takesNumber_62 rfl (lv_at hl 0 rfl) ?_
              refine lv_dup hx hb d_X11_takesNumber_63 rfl ?_
              refine r_geti X hw FL_X11_193 (rfl : KD 400 = _) rfl d_X11_takesNumber_64 ?_
              rw [hm47]
              refine lv_iconst (v := 1) hx hb d_X11_takesNumber_67 (by decide) ?_
              refine lv_iadd hx hb d_X11_takesNumber_68 ?_
              refine lv_topi (fun x51 ex51 => ?_)
              have hG := bnd_use ex51 hG
              have r52 : Rg x51 1 120 := rg_add ex51 r22 (⟨by decide, by decide⟩ : Rg 1 1 1) (by decide) (by decide)
              have s53 : x51.toInt = x8.toInt + (1 : Int32).toInt := by rw [ex51]; exact i_add (by obtain ⟨_, _⟩ := r22; obtain ⟨_, _⟩ := (⟨by decide, by decide⟩ : Rg 1 1 1); omega) (by obtain ⟨_, _⟩ := r22; obtain ⟨_, _⟩ := (⟨by decide, by decide⟩ : Rg 1 1 1); omega)
              have s53l : (1 : Int32).toInt = 1 := rfl
              refine r_put X hw hS FP_X11_193 (rfl : KD 400 = _) rfl ⟨rfl, rfl⟩ d_X11_takesNumber_69 (fun H locs hw hS => ?_)
              obtain ⟨v54, ev54⟩ : ∃ z, z = up2 v42 400 42 x51 := ⟨_, rfl⟩
              rw [← ev54] at hw
              have hG := bnd_use ev54 hG
              have hI55 : Inv v54 := by rw [ev54]; exact Inv.putr hI43 rfl (rg_w r52 (by decide) (by decide))
              have hK56 : Kp (kp_X11_takesNumber_3 most) v v54 := by rw [ev54]; exact Kp.put hK44 _ (by unfold kp_X11_takesNumber_3; omega)
              have hF57 : ∀ a b, a ≠ 400 → v54 a b = v a b := fun a b h => (congrFun (congrFun ev54 a) b).trans ((up2_n _ _ (fun q => h q.1)).trans (hF45 a b h))
              have hm58 : v54 400 34 = g0 := by rw [ev54, up2_n _ _ (by omega)]; exact hm46
              have hm59 : v54 400 33 = x11 := by rw [ev54, up2_n _ _ (by omega)]; exact hm48
              have hm60 : v54 433 x8.toNatClampNeg = x24 := by rw [ev54, up2_n _ _ (by omega)]; exact hm49
              have hm61 : v54 400 43 = x39 := by rw [ev54, up2_n _ _ (by omega)]; exact hm50
              have hm62 : v54 400 42 = x51 := by rw [ev54, up2_s]
              obtain ⟨x63, ex63⟩ : ∃ y : Int32, y = y2 + 1 := ⟨_, rfl⟩
              have hG := bnd_use ex63 hG
              refine lv_iinc (v := x63) (lv' := [(2, .int x63), (0, .ref (ad 400)), (1, .int most)]) hx hb d_X11_takesNumber_72 hl (k := 2) rfl (by rw [ex63]; rfl) (by decide) rfl (fun ls hl => ?_)
              have r64 : Rg x63 1 3 := rg_add ex63 r7 (⟨by decide, by decide⟩ : Rg 1 1 1) (by decide) (by decide)
              have s65 : x63.toInt = y2.toInt + (1 : Int32).toInt := by rw [ex63]; exact i_add (by obtain ⟨_, _⟩ := r7; obtain ⟨_, _⟩ := (⟨by decide, by decide⟩ : Rg 1 1 1); omega) (by obtain ⟨_, _⟩ := r7; obtain ⟨_, _⟩ := (⟨by decide, by decide⟩ : Rg 1 1 1); omega)
              have s65l : (1 : Int32).toInt = 1 := rfl
              refine lv_goto (tgt := 7) hx hb d_X11_takesNumber_75 (by decide) ?_
              exact ih0 x63 x39 v54 _ _ _ (by have := s35; have := s38; have := s41; have := s53; have := s65; obtain ⟨_, _⟩ := r64; obtain ⟨_, _⟩ := r40; omega) (rg_w r64 (by decide) (by decide)) r40 hI55 hK56 hF57 hm61 hm58 (by obtain ⟨_, _⟩ := r_most; obtain ⟨_, _⟩ := r_g0; obtain ⟨_, _⟩ := r7; obtain ⟨_, _⟩ := r32; obtain ⟨_, _⟩ := r22; obtain ⟨_, _⟩ := r23; obtain ⟨_, _⟩ := r30; obtain ⟨_, _⟩ := r34; obtain ⟨_, _⟩ := r37; obtain ⟨_, _⟩ := r40; obtain ⟨_, _⟩ := r52; obtain ⟨_, _⟩ := r64; have z0 : (0 : Int32).toInt = 0 := rfl; refine ⟨fun _ => ?_, fun _ => ?_, fun _ => ?_⟩ <;> omega) hG hw hS (lv_sub hl [1, 2, 0] rfl)
          · skip
            have hG := g_neg w29n hG
            refine lv_if_eq (tgt := 78) hx hb d_X11_takesNumber_35 (by decide) (fun c66 => ?_) (fun c66 => ?_)
            · refine lv_iload_n hx hb d_X11_takesNumber_78 rfl (lv_at hl 2 rfl) ?_
              refine lv_if_le (tgt := 86) hx hb d_X11_takesNumber_79 (by decide) (fun c67 => ?_) (fun c67 => ?_)
              · have f68 := i_le c67
                have r69 : Rg y2 0 0 := by obtain ⟨a1, a2⟩ := r7; obtain ⟨b1, b2⟩ := (⟨by decide, by decide⟩ : Rg 0 0 0); have f := i_le c67; exact ⟨by omega, by omega⟩
                have hG := g_pos c67 hG
                refine lv_iconst (v := 0) hx hb d_X11_takesNumber_86 (by decide) ?_
                exact r_zret X hr hlocks hw hS rfl ⟨⟨hI1, hK1, (rg_w (⟨by decide, by decide⟩ : Rg 0 0 0) (by decide) (by decide)), (hfx0.trans hg0.symm), hF1, (by rw [h_m0]; exact r_m0)⟩, hG.trans eRR.symm⟩ d_X11_takesNumber_87
              · have f70 := i_nle c67
                have r71 : Rg y2 1 2 := by obtain ⟨a1, a2⟩ := r7; obtain ⟨b1, b2⟩ := (⟨by decide, by decide⟩ : Rg 0 0 0); have f := i_nle c67; exact ⟨by omega, by omega⟩
                have hG := g_neg c67 hG
                refine lv_iconst (v := 1) hx hb d_X11_takesNumber_82 (by decide) ?_
                refine lv_goto (tgt := 87) hx hb d_X11_takesNumber_83 (by decide) ?_
                exact r_zret X hr hlocks hw hS rfl ⟨⟨hI1, hK1, (rg_w (⟨by decide, by decide⟩ : Rg 1 1 1) (by decide) (by decide)), (hfx0.trans hg0.symm), hF1, (by rw [h_m0]; exact r_m0)⟩, hG.trans eRR.symm⟩ d_X11_takesNumber_87
            · exact absurd c66 (by decide)
  have ih0 := LL 100000
  have hK0 : Kp (kp_X11_takesNumber_3 most) v v := Kp.rf _ v
  have hG := eRR
  unfold f_X11_takesNumber_3 at hG
  have hG := bnd_use hg0.symm hG
  refine lv_aload_n hx hb d_X11_takesNumber_0 rfl (lv_at hl 0 rfl) ?_
  refine lv_iconst (v := 0) hx hb d_X11_takesNumber_1 (by decide) ?_
  refine r_put X hw hS FP_X11_199 (rfl : KD 400 = _) rfl ⟨rfl, rfl⟩ d_X11_takesNumber_2 (fun H locs hw hS => ?_)
  obtain ⟨v72, ev72⟩ : ∃ z, z = up2 v 400 43 0 := ⟨_, rfl⟩
  rw [← ev72] at hw
  have hG := bnd_use ev72 hG
  have hI73 : Inv v72 := by rw [ev72]; exact Inv.putr hI rfl (rg_w (⟨by decide, by decide⟩ : Rg 0 0 0) (by decide) (by decide))
  have hK74 : Kp (kp_X11_takesNumber_3 most) v v72 := by rw [ev72]; exact Kp.put hK0 _ (by unfold kp_X11_takesNumber_3; omega)
  have hF75 : ∀ a b, a ≠ 400 → v72 a b = v a b := fun a b h => (congrFun (congrFun ev72 a) b).trans ((up2_n _ _ (fun q => h q.1)).trans (hF0 a b h))
  have hm76 : v72 400 34 = g0 := by rw [ev72, up2_n _ _ (by omega)]; exact hg0
  have hm77 : v72 400 43 = 0 := by rw [ev72, up2_s]
  refine lv_iconst (v := 0) hx hb d_X11_takesNumber_5 (by decide) ?_
  refine lv_istore_n (lv' := [(2, .int 0), (0, .ref (ad 400)), (1, .int most)]) hx hb d_X11_takesNumber_6 rfl hl (by decide) rfl (fun ls hl => ?_)
  exact ih0 0 0 v72 _ _ _ (by obtain ⟨_, _⟩ := (⟨by decide, by decide⟩ : Rg 0 0 0); obtain ⟨_, _⟩ := (⟨by decide, by decide⟩ : Rg 0 0 0); omega) (rg_w (⟨by decide, by decide⟩ : Rg 0 0 0) (by decide) (by decide)) (rg_w (⟨by decide, by decide⟩ : Rg 0 0 0) (by decide) (by decide)) hI73 hK74 hF75 hm77 hm76 (by obtain ⟨_, _⟩ := r_most; obtain ⟨_, _⟩ := r_g0; have z0 : (0 : Int32).toInt = 0 := rfl; refine ⟨fun _ => ?_, fun _ => ?_, fun _ => ?_⟩ <;> omega) hG hw hS (lv_sub hl [1, 2, 0] rfl)
theorem d_X11_takesKey_0 : decode c_X11_takesKey 0 = .ok (.aload_n 0, 1) := by decide +kernel
theorem d_X11_takesKey_1 : decode c_X11_takesKey 1 = .ok (.bipush 101, 2) := by decide +kernel
theorem d_X11_takesKey_3 : decode c_X11_takesKey 3 = .ok (.invokevirtual 205, 3) := by decide +kernel
theorem d_X11_takesKey_6 : decode c_X11_takesKey 6 = .ok (.ifCond .eq 52, 3) := by decide +kernel
theorem d_X11_takesKey_9 : decode c_X11_takesKey 9 = .ok (.aload_n 0, 1) := by decide +kernel
theorem d_X11_takesKey_10 : decode c_X11_takesKey 10 = .ok (.getfield 99, 3) := by decide +kernel
theorem d_X11_takesKey_13 : decode c_X11_takesKey 13 = .ok (.iload_n 1, 1) := by decide +kernel
theorem d_X11_takesKey_14 : decode c_X11_takesKey 14 = .ok (.iconst 0, 1) := by decide +kernel
theorem d_X11_takesKey_15 : decode c_X11_takesKey 15 = .ok (.iastore, 1) := by decide +kernel
theorem d_X11_takesKey_16 : decode c_X11_takesKey 16 = .ok (.aload_n 0, 1) := by decide +kernel
theorem d_X11_takesKey_17 : decode c_X11_takesKey 17 = .ok (.bipush 110, 2) := by decide +kernel
theorem d_X11_takesKey_19 : decode c_X11_takesKey 19 = .ok (.invokevirtual 205, 3) := by decide +kernel
theorem d_X11_takesKey_22 : decode c_X11_takesKey 22 = .ok (.ifCond .eq 34, 3) := by decide +kernel
theorem d_X11_takesKey_25 : decode c_X11_takesKey 25 = .ok (.aload_n 0, 1) := by decide +kernel
theorem d_X11_takesKey_26 : decode c_X11_takesKey 26 = .ok (.bipush 116, 2) := by decide +kernel
theorem d_X11_takesKey_28 : decode c_X11_takesKey 28 = .ok (.invokevirtual 205, 3) := by decide +kernel
theorem d_X11_takesKey_31 : decode c_X11_takesKey 31 = .ok (.ifCond .eq 25, 3) := by decide +kernel
theorem d_X11_takesKey_34 : decode c_X11_takesKey 34 = .ok (.aload_n 0, 1) := by decide +kernel
theorem d_X11_takesKey_35 : decode c_X11_takesKey 35 = .ok (.bipush 114, 2) := by decide +kernel
theorem d_X11_takesKey_37 : decode c_X11_takesKey 37 = .ok (.invokevirtual 205, 3) := by decide +kernel
theorem d_X11_takesKey_40 : decode c_X11_takesKey 40 = .ok (.ifCond .eq 16, 3) := by decide +kernel
theorem d_X11_takesKey_43 : decode c_X11_takesKey 43 = .ok (.aload_n 0, 1) := by decide +kernel
theorem d_X11_takesKey_44 : decode c_X11_takesKey 44 = .ok (.bipush 121, 2) := by decide +kernel
theorem d_X11_takesKey_46 : decode c_X11_takesKey 46 = .ok (.invokevirtual 205, 3) := by decide +kernel
theorem d_X11_takesKey_49 : decode c_X11_takesKey 49 = .ok (.ifCond .eq 7, 3) := by decide +kernel
theorem d_X11_takesKey_52 : decode c_X11_takesKey 52 = .ok (.iconst 1, 1) := by decide +kernel
theorem d_X11_takesKey_53 : decode c_X11_takesKey 53 = .ok (.goto 4, 3) := by decide +kernel
theorem d_X11_takesKey_56 : decode c_X11_takesKey 56 = .ok (.iconst 0, 1) := by decide +kernel
theorem d_X11_takesKey_57 : decode c_X11_takesKey 57 = .ok (.ireturn, 1) := by decide +kernel
theorem d_X11_takesKey_58 : decode c_X11_takesKey 58 = .ok (.aload_n 0, 1) := by decide +kernel
theorem d_X11_takesKey_59 : decode c_X11_takesKey 59 = .ok (.bipush 97, 2) := by decide +kernel
theorem d_X11_takesKey_61 : decode c_X11_takesKey 61 = .ok (.invokevirtual 205, 3) := by decide +kernel
theorem d_X11_takesKey_64 : decode c_X11_takesKey 64 = .ok (.ifCond .eq 34, 3) := by decide +kernel
theorem d_X11_takesKey_67 : decode c_X11_takesKey 67 = .ok (.aload_n 0, 1) := by decide +kernel
theorem d_X11_takesKey_68 : decode c_X11_takesKey 68 = .ok (.getfield 99, 3) := by decide +kernel
theorem d_X11_takesKey_71 : decode c_X11_takesKey 71 = .ok (.iload_n 1, 1) := by decide +kernel
theorem d_X11_takesKey_72 : decode c_X11_takesKey 72 = .ok (.iconst 1, 1) := by decide +kernel
theorem d_X11_takesKey_73 : decode c_X11_takesKey 73 = .ok (.iastore, 1) := by decide +kernel
theorem d_X11_takesKey_74 : decode c_X11_takesKey 74 = .ok (.aload_n 0, 1) := by decide +kernel
theorem d_X11_takesKey_75 : decode c_X11_takesKey 75 = .ok (.bipush 115, 2) := by decide +kernel
theorem d_X11_takesKey_77 : decode c_X11_takesKey 77 = .ok (.invokevirtual 205, 3) := by decide +kernel
theorem d_X11_takesKey_80 : decode c_X11_takesKey 80 = .ok (.ifCond .eq 16, 3) := by decide +kernel
theorem d_X11_takesKey_83 : decode c_X11_takesKey 83 = .ok (.aload_n 0, 1) := by decide +kernel
theorem d_X11_takesKey_84 : decode c_X11_takesKey 84 = .ok (.bipush 107, 2) := by decide +kernel
theorem d_X11_takesKey_86 : decode c_X11_takesKey 86 = .ok (.invokevirtual 205, 3) := by decide +kernel
theorem d_X11_takesKey_89 : decode c_X11_takesKey 89 = .ok (.ifCond .eq 7, 3) := by decide +kernel
theorem d_X11_takesKey_92 : decode c_X11_takesKey 92 = .ok (.iconst 1, 1) := by decide +kernel
theorem d_X11_takesKey_93 : decode c_X11_takesKey 93 = .ok (.goto 4, 3) := by decide +kernel
theorem d_X11_takesKey_96 : decode c_X11_takesKey 96 = .ok (.iconst 0, 1) := by decide +kernel
theorem d_X11_takesKey_97 : decode c_X11_takesKey 97 = .ok (.ireturn, 1) := by decide +kernel
theorem d_X11_takesKey_98 : decode c_X11_takesKey 98 = .ok (.aload_n 0, 1) := by decide +kernel
theorem d_X11_takesKey_99 : decode c_X11_takesKey 99 = .ok (.bipush 108, 2) := by decide +kernel
theorem d_X11_takesKey_101 : decode c_X11_takesKey 101 = .ok (.invokevirtual 205, 3) := by decide +kernel
theorem d_X11_takesKey_104 : decode c_X11_takesKey 104 = .ok (.ifCond .eq 12, 3) := by decide +kernel
theorem d_X11_takesKey_107 : decode c_X11_takesKey 107 = .ok (.aload_n 0, 1) := by decide +kernel
theorem d_X11_takesKey_108 : decode c_X11_takesKey 108 = .ok (.bipush 111, 2) := by decide +kernel
theorem d_X11_takesKey_110 : decode c_X11_takesKey 110 = .ok (.invokevirtual 205, 3) := by decide +kernel
theorem d_X11_takesKey_113 : decode c_X11_takesKey 113 = .ok (.ifCond .ne 5, 3) := by decide +kernel
theorem d_X11_takesKey_116 : decode c_X11_takesKey 116 = .ok (.iconst 0, 1) := by decide +kernel
theorem d_X11_takesKey_117 : decode c_X11_takesKey 117 = .ok (.ireturn, 1) := by decide +kernel
theorem d_X11_takesKey_118 : decode c_X11_takesKey 118 = .ok (.aload_n 0, 1) := by decide +kernel
theorem d_X11_takesKey_119 : decode c_X11_takesKey 119 = .ok (.bipush 116, 2) := by decide +kernel
theorem d_X11_takesKey_121 : decode c_X11_takesKey 121 = .ok (.invokevirtual 205, 3) := by decide +kernel
theorem d_X11_takesKey_124 : decode c_X11_takesKey 124 = .ok (.ifCond .eq 12, 3) := by decide +kernel
theorem d_X11_takesKey_127 : decode c_X11_takesKey 127 = .ok (.aload_n 0, 1) := by decide +kernel
theorem d_X11_takesKey_128 : decode c_X11_takesKey 128 = .ok (.getfield 99, 3) := by decide +kernel
theorem d_X11_takesKey_131 : decode c_X11_takesKey 131 = .ok (.iload_n 1, 1) := by decide +kernel
theorem d_X11_takesKey_132 : decode c_X11_takesKey 132 = .ok (.iconst 3, 1) := by decide +kernel
theorem d_X11_takesKey_133 : decode c_X11_takesKey 133 = .ok (.iastore, 1) := by decide +kernel
theorem d_X11_takesKey_134 : decode c_X11_takesKey 134 = .ok (.iconst 1, 1) := by decide +kernel
theorem d_X11_takesKey_135 : decode c_X11_takesKey 135 = .ok (.ireturn, 1) := by decide +kernel
theorem d_X11_takesKey_136 : decode c_X11_takesKey 136 = .ok (.aload_n 0, 1) := by decide +kernel
theorem d_X11_takesKey_137 : decode c_X11_takesKey 137 = .ok (.getfield 99, 3) := by decide +kernel
theorem d_X11_takesKey_140 : decode c_X11_takesKey 140 = .ok (.iload_n 1, 1) := by decide +kernel
theorem d_X11_takesKey_141 : decode c_X11_takesKey 141 = .ok (.iconst 2, 1) := by decide +kernel
theorem d_X11_takesKey_142 : decode c_X11_takesKey 142 = .ok (.iastore, 1) := by decide +kernel
theorem d_X11_takesKey_143 : decode c_X11_takesKey 143 = .ok (.aload_n 0, 1) := by decide +kernel
theorem d_X11_takesKey_144 : decode c_X11_takesKey 144 = .ok (.bipush 97, 2) := by decide +kernel
theorem d_X11_takesKey_146 : decode c_X11_takesKey 146 = .ok (.invokevirtual 205, 3) := by decide +kernel
theorem d_X11_takesKey_149 : decode c_X11_takesKey 149 = .ok (.ifCond .eq 16, 3) := by decide +kernel
theorem d_X11_takesKey_152 : decode c_X11_takesKey 152 = .ok (.aload_n 0, 1) := by decide +kernel
theorem d_X11_takesKey_153 : decode c_X11_takesKey 153 = .ok (.bipush 100, 2) := by decide +kernel
theorem d_X11_takesKey_155 : decode c_X11_takesKey 155 = .ok (.invokevirtual 205, 3) := by decide +kernel
theorem d_X11_takesKey_158 : decode c_X11_takesKey 158 = .ok (.ifCond .eq 7, 3) := by decide +kernel
theorem d_X11_takesKey_161 : decode c_X11_takesKey 161 = .ok (.iconst 1, 1) := by decide +kernel
theorem d_X11_takesKey_162 : decode c_X11_takesKey 162 = .ok (.goto 4, 3) := by decide +kernel
theorem d_X11_takesKey_165 : decode c_X11_takesKey 165 = .ok (.iconst 0, 1) := by decide +kernel
theorem d_X11_takesKey_166 : decode c_X11_takesKey 166 = .ok (.ireturn, 1) := by decide +kernel
def kp_X11_takesKey_400 (od : Int32) (a j : Nat) : Prop := (a ≠ 400 ∨ (j ≠ 42)) ∧ a ≠ 437
def f_X11_takesKey_400 (v : tV) (od : Int32) : Int32 × tV := bnd (v 400 34) fun g0 => bnd2 (f_X11_takes_400 v (101 : Int32)) fun x2 v3 => (if x2 = (0 : Int32) then bnd2 (f_X11_takes_400 v3 (97 : Int32)) fun x15 v16 => (if x15 = (0 : Int32) then bnd2 (f_X11_takes_400 v16 (108 : Int32)) fun x28 v29 => (if x28 = (0 : Int32) then ((0 : Int32), v29) else bnd2 (f_X11_takes_400 v29 (111 : Int32)) fun x43 v44 => (if x43 = (0 : Int32) then ((0 : Int32), v44) else bnd2 (f_X11_takes_400 v44 (116 : Int32)) fun x56 v57 => (if x56 = (0 : Int32) then bnd (up2 v57 437 (od.toNatClampNeg) 2) fun v68 => bnd2 (f_X11_takes_400 v68 (97 : Int32)) fun x73 v74 => (if x73 = (0 : Int32) then ((0 : Int32), v74) else bnd2 (f_X11_takes_400 v74 (100 : Int32)) fun x88 v89 => (if x88 = (0 : Int32) then ((0 : Int32), v89) else ((1 : Int32), v89))) else bnd (up2 v57 437 (od.toNatClampNeg) 3) fun v104 => ((1 : Int32), v104)))) else bnd (up2 v16 437 (od.toNatClampNeg) 1) fun v112 => bnd2 (f_X11_takes_400 v112 (115 : Int32)) fun x117 v118 => (if x117 = (0 : Int32) then ((0 : Int32), v118) else bnd2 (f_X11_takes_400 v118 (107 : Int32)) fun x132 v133 => (if x132 = (0 : Int32) then ((0 : Int32), v133) else ((1 : Int32), v133)))) else bnd (up2 v3 437 (od.toNatClampNeg) 0) fun v148 => bnd2 (f_X11_takes_400 v148 (110 : Int32)) fun x153 v154 => (if x153 = (0 : Int32) then ((0 : Int32), v154) else bnd2 (f_X11_takes_400 v154 (116 : Int32)) fun x168 v169 => (if x168 = (0 : Int32) then ((0 : Int32), v169) else bnd2 (f_X11_takes_400 v169 (114 : Int32)) fun x183 v184 => (if x183 = (0 : Int32) then ((0 : Int32), v184) else bnd2 (f_X11_takes_400 v184 (121 : Int32)) fun x198 v199 => (if x198 = (0 : Int32) then ((0 : Int32), v199) else ((1 : Int32), v199))))))
set_option maxHeartbeats 4000000 in
set_option maxRecDepth 100000 in
theorem ct_X11_takesKey_400 (l : Launch) (D : va_G) (dA : Nat → ClassId) (ad : Nat → Nat) (v : tV) (hI : Inv v) (od : Int32) (r_od : Rg od 0 7) : Met l m_X11_takesKey [.code m_X11_takesKey c_X11_takesKey 2 (some .boolean)] ({ frames := 3, cells := 0, slots := 0, locals := 82 } : Room) (tP D dA ad v [.ref (ad 400), .int od]) (tQi D dA ad (fun r v' => (Inv v' ∧ Kp (kp_X11_takesKey_400 od) v v' ∧ Rg r 0 1 ∧ v' 400 34 = v 400 34) ∧ (r, v') = f_X11_takesKey_400 v od)) 0 0 (tA ad) := by
  refine tMet (by decide) (Nat.le_of_ble_eq_true rfl) ?_
  intro p e s m below meth c ls X hr hlocks hw hl
  have X : CX p s m ([.ref (ad 400), .int od] : List Value).toArray c c_X11_takesKey N_X11 2 D dA := X
  have hx := X.1
  have hb := X.2.1
  have hS : va_S (tA ad) s.heap s.heap [] := va_S.rf
  have hl : lv_has ls 2 [(0, .ref (ad 400)), (1, .int od)] := hl
  obtain ⟨g0, hg0⟩ : ∃ g, v 400 34 = g := ⟨_, rfl⟩
  have r_g0 : Rg g0 0 8 := by rw [← hg0]; exact hI 400 34 _ _ rfl
  obtain ⟨RR, eRR⟩ : ∃ z, f_X11_takesKey_400 v od = z := ⟨_, rfl⟩
  have hK0 : Kp (kp_X11_takesKey_400 od) v v := Kp.rf _ v
  have hG := eRR
  unfold f_X11_takesKey_400 at hG
  have hG := bnd_use hg0.symm hG
  refine lv_aload_n hx hb d_X11_takesKey_0 rfl (lv_at hl 0 rfl) ?_
  refine lv_bipush (v := 101) hx hb d_X11_takesKey_1 (by decide) ?_
  refine r_ci (r_runV (n := 1) (As := [.int 101]) (rest := []) X hw (ct_X11_takes_400 l D dA ad v hI 101) gc_X11_205 (rfl : KD 400 = _) (by decide) rfl (by decide +kernel) ⟨rfl, rfl, Nat.le_of_ble_eq_true rfl, Nat.le_of_ble_eq_true rfl⟩ rfl hl.1 rfl (Nat.le_of_ble_eq_true rfl) ⟨Nat.zero_le _, Nat.zero_le _⟩ d_X11_takesKey_3) hS (fun x2 v3 H locs hp1 hw hS => ?_)
  obtain ⟨hp1, hE4⟩ := hp1
  obtain ⟨hI5, hK6, hp1, hk7, hF8⟩ := hp1
  have hK9 : Kp (kp_X11_takesKey_400 od) v v3 := Kp.tr hK0 hK6 (by have z0 : (0 : Int32).toInt = 0 := rfl; intro a j; unfold kp_X11_takesKey_400 kp_X11_takes_400; omega)
  have hm10 : v3 400 (34) = g0 := hk7.trans hg0
  have hG := bnd2_use hE4 hG
  refine lv_if_eq (tgt := 58) hx hb d_X11_takesKey_6 (by decide) (fun c11 => ?_) (fun c11 => ?_)
  · have f12 := i_eq c11
    have r13 : Rg x2 0 0 := by obtain ⟨a1, a2⟩ := hp1; obtain ⟨b1, b2⟩ := (⟨by decide, by decide⟩ : Rg 0 0 0); have f := i_eq c11; exact ⟨by omega, by omega⟩
    have hG := g_pos c11 hG
    refine lv_aload_n hx hb d_X11_takesKey_58 rfl (lv_at hl 0 rfl) ?_
    refine lv_bipush (v := 97) hx hb d_X11_takesKey_59 (by decide) ?_
    refine r_ci (r_runV (n := 1) (As := [.int 97]) (rest := []) X hw (ct_X11_takes_400 l D dA ad v3 hI5 97) gc_X11_205 (rfl : KD 400 = _) (by decide) rfl (by decide +kernel) ⟨rfl, rfl, Nat.le_of_ble_eq_true rfl, Nat.le_of_ble_eq_true rfl⟩ rfl hl.1 rfl (Nat.le_of_ble_eq_true rfl) ⟨Nat.zero_le _, Nat.zero_le _⟩ d_X11_takesKey_61) hS (fun x15 v16 H locs hp14 hw hS => ?_)
    obtain ⟨hp14, hE17⟩ := hp14
    obtain ⟨hI18, hK19, hp14, hk20, hF21⟩ := hp14
    have hK22 : Kp (kp_X11_takesKey_400 od) v v16 := Kp.tr hK9 hK19 (by have z0 : (0 : Int32).toInt = 0 := rfl; intro a j; unfold kp_X11_takesKey_400 kp_X11_takes_400; omega)
    have hm23 : v16 400 (34) = g0 := hk20.trans hm10
    have hG := bnd2_use hE17 hG
    refine lv_if_eq (tgt := 98) hx hb d_X11_takesKey_64 (by decide) (fun c24 => ?_) (fun c24 => ?_)
    · have f25 := i_eq c24
      have r26 : Rg x15 0 0 := by obtain ⟨a1, a2⟩ := hp14; obtain ⟨b1, b2⟩ := (⟨by decide, by decide⟩ : Rg 0 0 0); have f := i_eq c24; exact ⟨by omega, by omega⟩
      have hG := g_pos c24 hG
      refine lv_aload_n hx hb d_X11_takesKey_98 rfl (lv_at hl 0 rfl) ?_
      refine lv_bipush (v := 108) hx hb d_X11_takesKey_99 (by decide) ?_
      refine r_ci (r_runV (n := 1) (As := [.int 108]) (rest := []) X hw (ct_X11_takes_400 l D dA ad v16 hI18 108) gc_X11_205 (rfl : KD 400 = _) (by decide) rfl (by decide +kernel) ⟨rfl, rfl, Nat.le_of_ble_eq_true rfl, Nat.le_of_ble_eq_true rfl⟩ rfl hl.1 rfl (Nat.le_of_ble_eq_true rfl) ⟨Nat.zero_le _, Nat.zero_le _⟩ d_X11_takesKey_101) hS (fun x28 v29 H locs hp27 hw hS => ?_)
      obtain ⟨hp27, hE30⟩ := hp27
      obtain ⟨hI31, hK32, hp27, hk33, hF34⟩ := hp27
      have hK35 : Kp (kp_X11_takesKey_400 od) v v29 := Kp.tr hK22 hK32 (by have z0 : (0 : Int32).toInt = 0 := rfl; intro a j; unfold kp_X11_takesKey_400 kp_X11_takes_400; omega)
      have hm36 : v29 400 (34) = g0 := hk33.trans hm23
      have hG := bnd2_use hE30 hG
      refine lv_if_eq (tgt := 116) hx hb d_X11_takesKey_104 (by decide) (fun c37 => ?_) (fun c37 => ?_)
      · have f38 := i_eq c37
        have r39 : Rg x28 0 0 := by obtain ⟨a1, a2⟩ := hp27; obtain ⟨b1, b2⟩ := (⟨by decide, by decide⟩ : Rg 0 0 0); have f := i_eq c37; exact ⟨by omega, by omega⟩
        have hG := g_pos c37 hG
        refine lv_iconst (v := 0) hx hb d_X11_takesKey_116 (by decide) ?_
        exact r_zret X hr hlocks hw hS rfl ⟨⟨hI31, hK35, (rg_w (⟨by decide, by decide⟩ : Rg 0 0 0) (by decide) (by decide)), (hm36.trans hg0.symm)⟩, hG.trans eRR.symm⟩ d_X11_takesKey_117
      · have f40 := i_ne c37
        have r41 : Rg x28 1 1 := by obtain ⟨a1, a2⟩ := hp27; obtain ⟨b1, b2⟩ := (⟨by decide, by decide⟩ : Rg 0 0 0); have f := i_ne c37; exact ⟨by omega, by omega⟩
        have hG := g_neg c37 hG
        refine lv_aload_n hx hb d_X11_takesKey_107 rfl (lv_at hl 0 rfl) ?_
        refine lv_bipush (v := 111) hx hb d_X11_takesKey_108 (by decide) ?_
        refine r_ci (r_runV (n := 1) (As := [.int 111]) (rest := []) X hw (ct_X11_takes_400 l D dA ad v29 hI31 111) gc_X11_205 (rfl : KD 400 = _) (by decide) rfl (by decide +kernel) ⟨rfl, rfl, Nat.le_of_ble_eq_true rfl, Nat.le_of_ble_eq_true rfl⟩ rfl hl.1 rfl (Nat.le_of_ble_eq_true rfl) ⟨Nat.zero_le _, Nat.zero_le _⟩ d_X11_takesKey_110) hS (fun x43 v44 H locs hp42 hw hS => ?_)
        obtain ⟨hp42, hE45⟩ := hp42
        obtain ⟨hI46, hK47, hp42, hk48, hF49⟩ := hp42
        have hK50 : Kp (kp_X11_takesKey_400 od) v v44 := Kp.tr hK35 hK47 (by have z0 : (0 : Int32).toInt = 0 := rfl; intro a j; unfold kp_X11_takesKey_400 kp_X11_takes_400; omega)
        have hm51 : v44 400 (34) = g0 := hk48.trans hm36
        have hG := bnd2_use hE45 hG
        refine lv_if_ne (tgt := 118) hx hb d_X11_takesKey_113 (by decide) (fun c52 => ?_) (fun c52 => ?_)
        · have f53 := i_ne c52
          have r54 : Rg x43 1 1 := by obtain ⟨a1, a2⟩ := hp42; obtain ⟨b1, b2⟩ := (⟨by decide, by decide⟩ : Rg 0 0 0); have f := i_ne c52; exact ⟨by omega, by omega⟩
          have hG := g_neg c52 hG
          refine lv_aload_n hx hb d_X11_takesKey_118 rfl (lv_at hl 0 rfl) ?_
          refine lv_bipush (v := 116) hx hb d_X11_takesKey_119 (by decide) ?_
          refine r_ci (r_runV (n := 1) (As := [.int 116]) (rest := []) X hw (ct_X11_takes_400 l D dA ad v44 hI46 116) gc_X11_205 (rfl : KD 400 = _) (by decide) rfl (by decide +kernel) ⟨rfl, rfl, Nat.le_of_ble_eq_true rfl, Nat.le_of_ble_eq_true rfl⟩ rfl hl.1 rfl (Nat.le_of_ble_eq_true rfl) ⟨Nat.zero_le _, Nat.zero_le _⟩ d_X11_takesKey_121) hS (fun x56 v57 H locs hp55 hw hS => ?_)
          obtain ⟨hp55, hE58⟩ := hp55
          obtain ⟨hI59, hK60, hp55, hk61, hF62⟩ := hp55
          have hK63 : Kp (kp_X11_takesKey_400 od) v v57 := Kp.tr hK50 hK60 (by have z0 : (0 : Int32).toInt = 0 := rfl; intro a j; unfold kp_X11_takesKey_400 kp_X11_takes_400; omega)
          have hm64 : v57 400 (34) = g0 := hk61.trans hm51
          have hG := bnd2_use hE58 hG
          refine lv_if_eq (tgt := 136) hx hb d_X11_takesKey_124 (by decide) (fun c65 => ?_) (fun c65 => ?_)
          · have f66 := i_eq c65
            have r67 : Rg x56 0 0 := by obtain ⟨a1, a2⟩ := hp55; obtain ⟨b1, b2⟩ := (⟨by decide, by decide⟩ : Rg 0 0 0); have f := i_eq c65; exact ⟨by omega, by omega⟩
            have hG := g_pos c65 hG
            refine lv_aload_n hx hb d_X11_takesKey_136 rfl (lv_at hl 0 rfl) ?_
            refine r_getr (r := 437) X hw FL_X11_99 (rfl : KD 400 = _) rfl d_X11_takesKey_137 ?_
            refine lv_iload_n hx hb d_X11_takesKey_140 rfl (lv_at hl 1 rfl) ?_
            refine lv_iconst (v := 2) hx hb d_X11_takesKey_141 (by decide) ?_
            refine r_iast X hw hS (rfl : KD 437 = _) (Rg.vp (b := 7) r_od (by decide)) rfl d_X11_takesKey_142 (fun H locs hw hS => ?_)
            obtain ⟨v68, ev68⟩ : ∃ z, z = up2 v57 437 od.toNatClampNeg 2 := ⟨_, rfl⟩
            rw [← ev68] at hw
            have hG := bnd_use ev68 hG
            have hI69 : Inv v68 := by rw [ev68]; exact Inv.put0 hI59 _ rfl
            have hK70 : Kp (kp_X11_takesKey_400 od) v v68 := by rw [ev68]; exact Kp.put hK63 _ (by unfold kp_X11_takesKey_400; omega)
            have hm71 : v68 400 34 = g0 := by rw [ev68, up2_n _ _ (by omega)]; exact hm64
            refine lv_aload_n hx hb d_X11_takesKey_143 rfl (lv_at hl 0 rfl) ?_
            refine lv_bipush (v := 97) hx hb d_X11_takesKey_144 (by decide) ?_
            refine r_ci (r_runV (n := 1) (As := [.int 97]) (rest := []) X hw (ct_X11_takes_400 l D dA ad v68 hI69 97) gc_X11_205 (rfl : KD 400 = _) (by decide) rfl (by decide +kernel) ⟨rfl, rfl, Nat.le_of_ble_eq_true rfl, Nat.le_of_ble_eq_true rfl⟩ rfl hl.1 rfl (Nat.le_of_ble_eq_true rfl) ⟨Nat.zero_le _, Nat.zero_le _⟩ d_X11_takesKey_146) hS (fun x73 v74 H locs hp72 hw hS => ?_)
            obtain ⟨hp72, hE75⟩ := hp72
            obtain ⟨hI76, hK77, hp72, hk78, hF79⟩ := hp72
            have hK80 : Kp (kp_X11_takesKey_400 od) v v74 := Kp.tr hK70 hK77 (by have z0 : (0 : Int32).toInt = 0 := rfl; intro a j; unfold kp_X11_takesKey_400 kp_X11_takes_400; omega)
            have hm81 : v74 400 (34) = g0 := hk78.trans hm71
            have hG := bnd2_use hE75 hG
            refine lv_if_eq (tgt := 165) hx hb d_X11_takesKey_149 (by decide) (fun c82 => ?_) (fun c82 => ?_)
            · have f83 := i_eq c82
              have r84 : Rg x73 0 0 := by obtain ⟨a1, a2⟩ := hp72; obtain ⟨b1, b2⟩ := (⟨by decide, by decide⟩ : Rg 0 0 0); have f := i_eq c82; exact ⟨by omega, by omega⟩
              have hG := g_pos c82 hG
              refine lv_iconst (v := 0) hx hb d_X11_takesKey_165 (by decide) ?_
              exact r_zret X hr hlocks hw hS rfl ⟨⟨hI76, hK80, (rg_w (⟨by decide, by decide⟩ : Rg 0 0 0) (by decide) (by decide)), (hm81.trans hg0.symm)⟩, hG.trans eRR.symm⟩ d_X11_takesKey_166
            · have f85 := i_ne c82
              have r86 : Rg x73 1 1 := by obtain ⟨a1, a2⟩ := hp72; obtain ⟨b1, b2⟩ := (⟨by decide, by decide⟩ : Rg 0 0 0); have f := i_ne c82; exact ⟨by omega, by omega⟩
              have hG := g_neg c82 hG
              refine lv_aload_n hx hb d_X11_takesKey_152 rfl (lv_at hl 0 rfl) ?_
              refine lv_bipush (v := 100) hx hb d_X11_takesKey_153 (by decide) ?_
              refine r_ci (r_runV (n := 1) (As := [.int 100]) (rest := []) X hw (ct_X11_takes_400 l D dA ad v74 hI76 100) gc_X11_205 (rfl : KD 400 = _) (by decide) rfl (by decide +kernel) ⟨rfl, rfl, Nat.le_of_ble_eq_true rfl, Nat.le_of_ble_eq_true rfl⟩ rfl hl.1 rfl (Nat.le_of_ble_eq_true rfl) ⟨Nat.zero_le _, Nat.zero_le _⟩ d_X11_takesKey_155) hS (fun x88 v89 H locs hp87 hw hS => ?_)
              obtain ⟨hp87, hE90⟩ := hp87
              obtain ⟨hI91, hK92, hp87, hk93, hF94⟩ := hp87
              have hK95 : Kp (kp_X11_takesKey_400 od) v v89 := Kp.tr hK80 hK92 (by have z0 : (0 : Int32).toInt = 0 := rfl; intro a j; unfold kp_X11_takesKey_400 kp_X11_takes_400; omega)
              have hm96 : v89 400 (34) = g0 := hk93.trans hm81
              have hG := bnd2_use hE90 hG
              refine lv_if_eq (tgt := 165) hx hb d_X11_takesKey_158 (by decide) (fun c97 => ?_) (fun c97 => ?_)
              · have f98 := i_eq c97
                have r99 : Rg x88 0 0 := by obtain ⟨a1, a2⟩ := hp87; obtain ⟨b1, b2⟩ := (⟨by decide, by decide⟩ : Rg 0 0 0); have f := i_eq c97; exact ⟨by omega, by omega⟩
                have hG := g_pos c97 hG
                refine lv_iconst (v := 0) hx hb d_X11_takesKey_165 (by decide) ?_
                exact r_zret X hr hlocks hw hS rfl ⟨⟨hI91, hK95, (rg_w (⟨by decide, by decide⟩ : Rg 0 0 0) (by decide) (by decide)), (hm96.trans hg0.symm)⟩, hG.trans eRR.symm⟩ d_X11_takesKey_166
              · have f100 := i_ne c97
                have r101 : Rg x88 1 1 := by obtain ⟨a1, a2⟩ := hp87; obtain ⟨b1, b2⟩ := (⟨by decide, by decide⟩ : Rg 0 0 0); have f := i_ne c97; exact ⟨by omega, by omega⟩
                have hG := g_neg c97 hG
                refine lv_iconst (v := 1) hx hb d_X11_takesKey_161 (by decide) ?_
                refine lv_goto (tgt := 166) hx hb d_X11_takesKey_162 (by decide) ?_
                exact r_zret X hr hlocks hw hS rfl ⟨⟨hI91, hK95, (rg_w (⟨by decide, by decide⟩ : Rg 1 1 1) (by decide) (by decide)), (hm96.trans hg0.symm)⟩, hG.trans eRR.symm⟩ d_X11_takesKey_166
          · have f102 := i_ne c65
            have r103 : Rg x56 1 1 := by obtain ⟨a1, a2⟩ := hp55; obtain ⟨b1, b2⟩ := (⟨by decide, by decide⟩ : Rg 0 0 0); have f := i_ne c65; exact ⟨by omega, by omega⟩
            have hG := g_neg c65 hG
            refine lv_aload_n hx hb d_X11_takesKey_127 rfl (lv_at hl 0 rfl) ?_
            refine r_getr (r := 437) X hw FL_X11_99 (rfl : KD 400 = _) rfl d_X11_takesKey_128 ?_
            refine lv_iload_n hx hb d_X11_takesKey_131 rfl (lv_at hl 1 rfl) ?_
            refine lv_iconst (v := 3) hx hb d_X11_takesKey_132 (by decide) ?_
            refine r_iast X hw hS (rfl : KD 437 = _) (Rg.vp (b := 7) r_od (by decide)) rfl d_X11_takesKey_133 (fun H locs hw hS => ?_)
            obtain ⟨v104, ev104⟩ : ∃ z, z = up2 v57 437 od.toNatClampNeg 3 := ⟨_, rfl⟩
            rw [← ev104] at hw
            have hG := bnd_use ev104 hG
            have hI105 : Inv v104 := by rw [ev104]; exact Inv.put0 hI59 _ rfl
            have hK106 : Kp (kp_X11_takesKey_400 od) v v104 := by rw [ev104]; exact Kp.put hK63 _ (by unfold kp_X11_takesKey_400; omega)
            have hm107 : v104 400 34 = g0 := by rw [ev104, up2_n _ _ (by omega)]; exact hm64
            refine lv_iconst (v := 1) hx hb d_X11_takesKey_134 (by decide) ?_
            exact r_zret X hr hlocks hw hS rfl ⟨⟨hI105, hK106, (rg_w (⟨by decide, by decide⟩ : Rg 1 1 1) (by decide) (by decide)), (hm107.trans hg0.symm)⟩, hG.trans eRR.symm⟩ d_X11_takesKey_135
        · have f108 := i_eq c52
          have r109 : Rg x43 0 0 := by obtain ⟨a1, a2⟩ := hp42; obtain ⟨b1, b2⟩ := (⟨by decide, by decide⟩ : Rg 0 0 0); have f := i_eq c52; exact ⟨by omega, by omega⟩
          have hG := g_pos c52 hG
          refine lv_iconst (v := 0) hx hb d_X11_takesKey_116 (by decide) ?_
          exact r_zret X hr hlocks hw hS rfl ⟨⟨hI46, hK50, (rg_w (⟨by decide, by decide⟩ : Rg 0 0 0) (by decide) (by decide)), (hm51.trans hg0.symm)⟩, hG.trans eRR.symm⟩ d_X11_takesKey_117
    · have f110 := i_ne c24
      have r111 : Rg x15 1 1 := by obtain ⟨a1, a2⟩ := hp14; obtain ⟨b1, b2⟩ := (⟨by decide, by decide⟩ : Rg 0 0 0); have f := i_ne c24; exact ⟨by omega, by omega⟩
      have hG := g_neg c24 hG
      refine lv_aload_n hx hb d_X11_takesKey_67 rfl (lv_at hl 0 rfl) ?_
      refine r_getr (r := 437) X hw FL_X11_99 (rfl : KD 400 = _) rfl d_X11_takesKey_68 ?_
      refine lv_iload_n hx hb d_X11_takesKey_71 rfl (lv_at hl 1 rfl) ?_
      refine lv_iconst (v := 1) hx hb d_X11_takesKey_72 (by decide) ?_
      refine r_iast X hw hS (rfl : KD 437 = _) (Rg.vp (b := 7) r_od (by decide)) rfl d_X11_takesKey_73 (fun H locs hw hS => ?_)
      obtain ⟨v112, ev112⟩ : ∃ z, z = up2 v16 437 od.toNatClampNeg 1 := ⟨_, rfl⟩
      rw [← ev112] at hw
      have hG := bnd_use ev112 hG
      have hI113 : Inv v112 := by rw [ev112]; exact Inv.put0 hI18 _ rfl
      have hK114 : Kp (kp_X11_takesKey_400 od) v v112 := by rw [ev112]; exact Kp.put hK22 _ (by unfold kp_X11_takesKey_400; omega)
      have hm115 : v112 400 34 = g0 := by rw [ev112, up2_n _ _ (by omega)]; exact hm23
      refine lv_aload_n hx hb d_X11_takesKey_74 rfl (lv_at hl 0 rfl) ?_
      refine lv_bipush (v := 115) hx hb d_X11_takesKey_75 (by decide) ?_
      refine r_ci (r_runV (n := 1) (As := [.int 115]) (rest := []) X hw (ct_X11_takes_400 l D dA ad v112 hI113 115) gc_X11_205 (rfl : KD 400 = _) (by decide) rfl (by decide +kernel) ⟨rfl, rfl, Nat.le_of_ble_eq_true rfl, Nat.le_of_ble_eq_true rfl⟩ rfl hl.1 rfl (Nat.le_of_ble_eq_true rfl) ⟨Nat.zero_le _, Nat.zero_le _⟩ d_X11_takesKey_77) hS (fun x117 v118 H locs hp116 hw hS => ?_)
      obtain ⟨hp116, hE119⟩ := hp116
      obtain ⟨hI120, hK121, hp116, hk122, hF123⟩ := hp116
      have hK124 : Kp (kp_X11_takesKey_400 od) v v118 := Kp.tr hK114 hK121 (by have z0 : (0 : Int32).toInt = 0 := rfl; intro a j; unfold kp_X11_takesKey_400 kp_X11_takes_400; omega)
      have hm125 : v118 400 (34) = g0 := hk122.trans hm115
      have hG := bnd2_use hE119 hG
      refine lv_if_eq (tgt := 96) hx hb d_X11_takesKey_80 (by decide) (fun c126 => ?_) (fun c126 => ?_)
      · have f127 := i_eq c126
        have r128 : Rg x117 0 0 := by obtain ⟨a1, a2⟩ := hp116; obtain ⟨b1, b2⟩ := (⟨by decide, by decide⟩ : Rg 0 0 0); have f := i_eq c126; exact ⟨by omega, by omega⟩
        have hG := g_pos c126 hG
        refine lv_iconst (v := 0) hx hb d_X11_takesKey_96 (by decide) ?_
        exact r_zret X hr hlocks hw hS rfl ⟨⟨hI120, hK124, (rg_w (⟨by decide, by decide⟩ : Rg 0 0 0) (by decide) (by decide)), (hm125.trans hg0.symm)⟩, hG.trans eRR.symm⟩ d_X11_takesKey_97
      · have f129 := i_ne c126
        have r130 : Rg x117 1 1 := by obtain ⟨a1, a2⟩ := hp116; obtain ⟨b1, b2⟩ := (⟨by decide, by decide⟩ : Rg 0 0 0); have f := i_ne c126; exact ⟨by omega, by omega⟩
        have hG := g_neg c126 hG
        refine lv_aload_n hx hb d_X11_takesKey_83 rfl (lv_at hl 0 rfl) ?_
        refine lv_bipush (v := 107) hx hb d_X11_takesKey_84 (by decide) ?_
        refine r_ci (r_runV (n := 1) (As := [.int 107]) (rest := []) X hw (ct_X11_takes_400 l D dA ad v118 hI120 107) gc_X11_205 (rfl : KD 400 = _) (by decide) rfl (by decide +kernel) ⟨rfl, rfl, Nat.le_of_ble_eq_true rfl, Nat.le_of_ble_eq_true rfl⟩ rfl hl.1 rfl (Nat.le_of_ble_eq_true rfl) ⟨Nat.zero_le _, Nat.zero_le _⟩ d_X11_takesKey_86) hS (fun x132 v133 H locs hp131 hw hS => ?_)
        obtain ⟨hp131, hE134⟩ := hp131
        obtain ⟨hI135, hK136, hp131, hk137, hF138⟩ := hp131
        have hK139 : Kp (kp_X11_takesKey_400 od) v v133 := Kp.tr hK124 hK136 (by have z0 : (0 : Int32).toInt = 0 := rfl; intro a j; unfold kp_X11_takesKey_400 kp_X11_takes_400; omega)
        have hm140 : v133 400 (34) = g0 := hk137.trans hm125
        have hG := bnd2_use hE134 hG
        refine lv_if_eq (tgt := 96) hx hb d_X11_takesKey_89 (by decide) (fun c141 => ?_) (fun c141 => ?_)
        · have f142 := i_eq c141
          have r143 : Rg x132 0 0 := by obtain ⟨a1, a2⟩ := hp131; obtain ⟨b1, b2⟩ := (⟨by decide, by decide⟩ : Rg 0 0 0); have f := i_eq c141; exact ⟨by omega, by omega⟩
          have hG := g_pos c141 hG
          refine lv_iconst (v := 0) hx hb d_X11_takesKey_96 (by decide) ?_
          exact r_zret X hr hlocks hw hS rfl ⟨⟨hI135, hK139, (rg_w (⟨by decide, by decide⟩ : Rg 0 0 0) (by decide) (by decide)), (hm140.trans hg0.symm)⟩, hG.trans eRR.symm⟩ d_X11_takesKey_97
        · have f144 := i_ne c141
          have r145 : Rg x132 1 1 := by obtain ⟨a1, a2⟩ := hp131; obtain ⟨b1, b2⟩ := (⟨by decide, by decide⟩ : Rg 0 0 0); have f := i_ne c141; exact ⟨by omega, by omega⟩
          have hG := g_neg c141 hG
          refine lv_iconst (v := 1) hx hb d_X11_takesKey_92 (by decide) ?_
          refine lv_goto (tgt := 97) hx hb d_X11_takesKey_93 (by decide) ?_
          exact r_zret X hr hlocks hw hS rfl ⟨⟨hI135, hK139, (rg_w (⟨by decide, by decide⟩ : Rg 1 1 1) (by decide) (by decide)), (hm140.trans hg0.symm)⟩, hG.trans eRR.symm⟩ d_X11_takesKey_97
  · have f146 := i_ne c11
    have r147 : Rg x2 1 1 := by obtain ⟨a1, a2⟩ := hp1; obtain ⟨b1, b2⟩ := (⟨by decide, by decide⟩ : Rg 0 0 0); have f := i_ne c11; exact ⟨by omega, by omega⟩
    have hG := g_neg c11 hG
    refine lv_aload_n hx hb d_X11_takesKey_9 rfl (lv_at hl 0 rfl) ?_
    refine r_getr (r := 437) X hw FL_X11_99 (rfl : KD 400 = _) rfl d_X11_takesKey_10 ?_
    refine lv_iload_n hx hb d_X11_takesKey_13 rfl (lv_at hl 1 rfl) ?_
    refine lv_iconst (v := 0) hx hb d_X11_takesKey_14 (by decide) ?_
    refine r_iast X hw hS (rfl : KD 437 = _) (Rg.vp (b := 7) r_od (by decide)) rfl d_X11_takesKey_15 (fun H locs hw hS => ?_)
    obtain ⟨v148, ev148⟩ : ∃ z, z = up2 v3 437 od.toNatClampNeg 0 := ⟨_, rfl⟩
    rw [← ev148] at hw
    have hG := bnd_use ev148 hG
    have hI149 : Inv v148 := by rw [ev148]; exact Inv.put0 hI5 _ rfl
    have hK150 : Kp (kp_X11_takesKey_400 od) v v148 := by rw [ev148]; exact Kp.put hK9 _ (by unfold kp_X11_takesKey_400; omega)
    have hm151 : v148 400 34 = g0 := by rw [ev148, up2_n _ _ (by omega)]; exact hm10
    refine lv_aload_n hx hb d_X11_takesKey_16 rfl (lv_at hl 0 rfl) ?_
    refine lv_bipush (v := 110) hx hb d_X11_takesKey_17 (by decide) ?_
    refine r_ci (r_runV (n := 1) (As := [.int 110]) (rest := []) X hw (ct_X11_takes_400 l D dA ad v148 hI149 110) gc_X11_205 (rfl : KD 400 = _) (by decide) rfl (by decide +kernel) ⟨rfl, rfl, Nat.le_of_ble_eq_true rfl, Nat.le_of_ble_eq_true rfl⟩ rfl hl.1 rfl (Nat.le_of_ble_eq_true rfl) ⟨Nat.zero_le _, Nat.zero_le _⟩ d_X11_takesKey_19) hS (fun x153 v154 H locs hp152 hw hS => ?_)
    obtain ⟨hp152, hE155⟩ := hp152
    obtain ⟨hI156, hK157, hp152, hk158, hF159⟩ := hp152
    have hK160 : Kp (kp_X11_takesKey_400 od) v v154 := Kp.tr hK150 hK157 (by have z0 : (0 : Int32).toInt = 0 := rfl; intro a j; unfold kp_X11_takesKey_400 kp_X11_takes_400; omega)
    have hm161 : v154 400 (34) = g0 := hk158.trans hm151
    have hG := bnd2_use hE155 hG
    refine lv_if_eq (tgt := 56) hx hb d_X11_takesKey_22 (by decide) (fun c162 => ?_) (fun c162 => ?_)
    · have f163 := i_eq c162
      have r164 : Rg x153 0 0 := by obtain ⟨a1, a2⟩ := hp152; obtain ⟨b1, b2⟩ := (⟨by decide, by decide⟩ : Rg 0 0 0); have f := i_eq c162; exact ⟨by omega, by omega⟩
      have hG := g_pos c162 hG
      refine lv_iconst (v := 0) hx hb d_X11_takesKey_56 (by decide) ?_
      exact r_zret X hr hlocks hw hS rfl ⟨⟨hI156, hK160, (rg_w (⟨by decide, by decide⟩ : Rg 0 0 0) (by decide) (by decide)), (hm161.trans hg0.symm)⟩, hG.trans eRR.symm⟩ d_X11_takesKey_57
    · have f165 := i_ne c162
      have r166 : Rg x153 1 1 := by obtain ⟨a1, a2⟩ := hp152; obtain ⟨b1, b2⟩ := (⟨by decide, by decide⟩ : Rg 0 0 0); have f := i_ne c162; exact ⟨by omega, by omega⟩
      have hG := g_neg c162 hG
      refine lv_aload_n hx hb d_X11_takesKey_25 rfl (lv_at hl 0 rfl) ?_
      refine lv_bipush (v := 116) hx hb d_X11_takesKey_26 (by decide) ?_
      refine r_ci (r_runV (n := 1) (As := [.int 116]) (rest := []) X hw (ct_X11_takes_400 l D dA ad v154 hI156 116) gc_X11_205 (rfl : KD 400 = _) (by decide) rfl (by decide +kernel) ⟨rfl, rfl, Nat.le_of_ble_eq_true rfl, Nat.le_of_ble_eq_true rfl⟩ rfl hl.1 rfl (Nat.le_of_ble_eq_true rfl) ⟨Nat.zero_le _, Nat.zero_le _⟩ d_X11_takesKey_28) hS (fun x168 v169 H locs hp167 hw hS => ?_)
      obtain ⟨hp167, hE170⟩ := hp167
      obtain ⟨hI171, hK172, hp167, hk173, hF174⟩ := hp167
      have hK175 : Kp (kp_X11_takesKey_400 od) v v169 := Kp.tr hK160 hK172 (by have z0 : (0 : Int32).toInt = 0 := rfl; intro a j; unfold kp_X11_takesKey_400 kp_X11_takes_400; omega)
      have hm176 : v169 400 (34) = g0 := hk173.trans hm161
      have hG := bnd2_use hE170 hG
      refine lv_if_eq (tgt := 56) hx hb d_X11_takesKey_31 (by decide) (fun c177 => ?_) (fun c177 => ?_)
      · have f178 := i_eq c177
        have r179 : Rg x168 0 0 := by obtain ⟨a1, a2⟩ := hp167; obtain ⟨b1, b2⟩ := (⟨by decide, by decide⟩ : Rg 0 0 0); have f := i_eq c177; exact ⟨by omega, by omega⟩
        have hG := g_pos c177 hG
        refine lv_iconst (v := 0) hx hb d_X11_takesKey_56 (by decide) ?_
        exact r_zret X hr hlocks hw hS rfl ⟨⟨hI171, hK175, (rg_w (⟨by decide, by decide⟩ : Rg 0 0 0) (by decide) (by decide)), (hm176.trans hg0.symm)⟩, hG.trans eRR.symm⟩ d_X11_takesKey_57
      · have f180 := i_ne c177
        have r181 : Rg x168 1 1 := by obtain ⟨a1, a2⟩ := hp167; obtain ⟨b1, b2⟩ := (⟨by decide, by decide⟩ : Rg 0 0 0); have f := i_ne c177; exact ⟨by omega, by omega⟩
        have hG := g_neg c177 hG
        refine lv_aload_n hx hb d_X11_takesKey_34 rfl (lv_at hl 0 rfl) ?_
        refine lv_bipush (v := 114) hx hb d_X11_takesKey_35 (by decide) ?_
        refine r_ci (r_runV (n := 1) (As := [.int 114]) (rest := []) X hw (ct_X11_takes_400 l D dA ad v169 hI171 114) gc_X11_205 (rfl : KD 400 = _) (by decide) rfl (by decide +kernel) ⟨rfl, rfl, Nat.le_of_ble_eq_true rfl, Nat.le_of_ble_eq_true rfl⟩ rfl hl.1 rfl (Nat.le_of_ble_eq_true rfl) ⟨Nat.zero_le _, Nat.zero_le _⟩ d_X11_takesKey_37) hS (fun x183 v184 H locs hp182 hw hS => ?_)
        obtain ⟨hp182, hE185⟩ := hp182
        obtain ⟨hI186, hK187, hp182, hk188, hF189⟩ := hp182
        have hK190 : Kp (kp_X11_takesKey_400 od) v v184 := Kp.tr hK175 hK187 (by have z0 : (0 : Int32).toInt = 0 := rfl; intro a j; unfold kp_X11_takesKey_400 kp_X11_takes_400; omega)
        have hm191 : v184 400 (34) = g0 := hk188.trans hm176
        have hG := bnd2_use hE185 hG
        refine lv_if_eq (tgt := 56) hx hb d_X11_takesKey_40 (by decide) (fun c192 => ?_) (fun c192 => ?_)
        · have f193 := i_eq c192
          have r194 : Rg x183 0 0 := by obtain ⟨a1, a2⟩ := hp182; obtain ⟨b1, b2⟩ := (⟨by decide, by decide⟩ : Rg 0 0 0); have f := i_eq c192; exact ⟨by omega, by omega⟩
          have hG := g_pos c192 hG
          refine lv_iconst (v := 0) hx hb d_X11_takesKey_56 (by decide) ?_
          exact r_zret X hr hlocks hw hS rfl ⟨⟨hI186, hK190, (rg_w (⟨by decide, by decide⟩ : Rg 0 0 0) (by decide) (by decide)), (hm191.trans hg0.symm)⟩, hG.trans eRR.symm⟩ d_X11_takesKey_57
        · have f195 := i_ne c192
          have r196 : Rg x183 1 1 := by obtain ⟨a1, a2⟩ := hp182; obtain ⟨b1, b2⟩ := (⟨by decide, by decide⟩ : Rg 0 0 0); have f := i_ne c192; exact ⟨by omega, by omega⟩
          have hG := g_neg c192 hG
          refine lv_aload_n hx hb d_X11_takesKey_43 rfl (lv_at hl 0 rfl) ?_
          refine lv_bipush (v := 121) hx hb d_X11_takesKey_44 (by decide) ?_
          refine r_ci (r_runV (n := 1) (As := [.int 121]) (rest := []) X hw (ct_X11_takes_400 l D dA ad v184 hI186 121) gc_X11_205 (rfl : KD 400 = _) (by decide) rfl (by decide +kernel) ⟨rfl, rfl, Nat.le_of_ble_eq_true rfl, Nat.le_of_ble_eq_true rfl⟩ rfl hl.1 rfl (Nat.le_of_ble_eq_true rfl) ⟨Nat.zero_le _, Nat.zero_le _⟩ d_X11_takesKey_46) hS (fun x198 v199 H locs hp197 hw hS => ?_)
          obtain ⟨hp197, hE200⟩ := hp197
          obtain ⟨hI201, hK202, hp197, hk203, hF204⟩ := hp197
          have hK205 : Kp (kp_X11_takesKey_400 od) v v199 := Kp.tr hK190 hK202 (by have z0 : (0 : Int32).toInt = 0 := rfl; intro a j; unfold kp_X11_takesKey_400 kp_X11_takes_400; omega)
          have hm206 : v199 400 (34) = g0 := hk203.trans hm191
          have hG := bnd2_use hE200 hG
          refine lv_if_eq (tgt := 56) hx hb d_X11_takesKey_49 (by decide) (fun c207 => ?_) (fun c207 => ?_)
          · have f208 := i_eq c207
            have r209 : Rg x198 0 0 := by obtain ⟨a1, a2⟩ := hp197; obtain ⟨b1, b2⟩ := (⟨by decide, by decide⟩ : Rg 0 0 0); have f := i_eq c207; exact ⟨by omega, by omega⟩
            have hG := g_pos c207 hG
            refine lv_iconst (v := 0) hx hb d_X11_takesKey_56 (by decide) ?_
            exact r_zret X hr hlocks hw hS rfl ⟨⟨hI201, hK205, (rg_w (⟨by decide, by decide⟩ : Rg 0 0 0) (by decide) (by decide)), (hm206.trans hg0.symm)⟩, hG.trans eRR.symm⟩ d_X11_takesKey_57
          · have f210 := i_ne c207
            have r211 : Rg x198 1 1 := by obtain ⟨a1, a2⟩ := hp197; obtain ⟨b1, b2⟩ := (⟨by decide, by decide⟩ : Rg 0 0 0); have f := i_ne c207; exact ⟨by omega, by omega⟩
            have hG := g_neg c207 hG
            refine lv_iconst (v := 1) hx hb d_X11_takesKey_52 (by decide) ?_
            refine lv_goto (tgt := 57) hx hb d_X11_takesKey_53 (by decide) ?_
            exact r_zret X hr hlocks hw hS rfl ⟨⟨hI201, hK205, (rg_w (⟨by decide, by decide⟩ : Rg 1 1 1) (by decide) (by decide)), (hm206.trans hg0.symm)⟩, hG.trans eRR.symm⟩ d_X11_takesKey_57
theorem d_X11_reads_0 : decode c_X11_reads 0 = .ok (.aload_n 0, 1) := by decide +kernel
theorem d_X11_reads_1 : decode c_X11_reads 1 = .ok (.iconst 0, 1) := by decide +kernel
theorem d_X11_reads_2 : decode c_X11_reads 2 = .ok (.putfield 193, 3) := by decide +kernel
theorem d_X11_reads_5 : decode c_X11_reads 5 = .ok (.aload_n 0, 1) := by decide +kernel
theorem d_X11_reads_6 : decode c_X11_reads 6 = .ok (.getfield 102, 3) := by decide +kernel
theorem d_X11_reads_9 : decode c_X11_reads 9 = .ok (.iload_n 1, 1) := by decide +kernel
theorem d_X11_reads_10 : decode c_X11_reads 10 = .ok (.iconst 0, 1) := by decide +kernel
theorem d_X11_reads_11 : decode c_X11_reads 11 = .ok (.iastore, 1) := by decide +kernel
theorem d_X11_reads_12 : decode c_X11_reads 12 = .ok (.aload_n 0, 1) := by decide +kernel
theorem d_X11_reads_13 : decode c_X11_reads 13 = .ok (.bipush 116, 2) := by decide +kernel
theorem d_X11_reads_15 : decode c_X11_reads 15 = .ok (.invokevirtual 205, 3) := by decide +kernel
theorem d_X11_reads_18 : decode c_X11_reads 18 = .ok (.ifCond .eq 47, 3) := by decide +kernel
theorem d_X11_reads_21 : decode c_X11_reads 21 = .ok (.aload_n 0, 1) := by decide +kernel
theorem d_X11_reads_22 : decode c_X11_reads 22 = .ok (.bipush 117, 2) := by decide +kernel
theorem d_X11_reads_24 : decode c_X11_reads 24 = .ok (.invokevirtual 205, 3) := by decide +kernel
theorem d_X11_reads_27 : decode c_X11_reads 27 = .ok (.ifCond .eq 38, 3) := by decide +kernel
theorem d_X11_reads_30 : decode c_X11_reads 30 = .ok (.aload_n 0, 1) := by decide +kernel
theorem d_X11_reads_31 : decode c_X11_reads 31 = .ok (.bipush 114, 2) := by decide +kernel
theorem d_X11_reads_33 : decode c_X11_reads 33 = .ok (.invokevirtual 205, 3) := by decide +kernel
theorem d_X11_reads_36 : decode c_X11_reads 36 = .ok (.ifCond .eq 29, 3) := by decide +kernel
theorem d_X11_reads_39 : decode c_X11_reads 39 = .ok (.aload_n 0, 1) := by decide +kernel
theorem d_X11_reads_40 : decode c_X11_reads 40 = .ok (.bipush 110, 2) := by decide +kernel
theorem d_X11_reads_42 : decode c_X11_reads 42 = .ok (.invokevirtual 205, 3) := by decide +kernel
theorem d_X11_reads_45 : decode c_X11_reads 45 = .ok (.ifCond .eq 20, 3) := by decide +kernel
theorem d_X11_reads_48 : decode c_X11_reads 48 = .ok (.aload_n 0, 1) := by decide +kernel
theorem d_X11_reads_49 : decode c_X11_reads 49 = .ok (.bipush 32, 2) := by decide +kernel
theorem d_X11_reads_51 : decode c_X11_reads 51 = .ok (.invokevirtual 205, 3) := by decide +kernel
theorem d_X11_reads_54 : decode c_X11_reads 54 = .ok (.ifCond .eq 11, 3) := by decide +kernel
theorem d_X11_reads_57 : decode c_X11_reads 57 = .ok (.aload_n 0, 1) := by decide +kernel
theorem d_X11_reads_58 : decode c_X11_reads 58 = .ok (.iload_n 1, 1) := by decide +kernel
theorem d_X11_reads_59 : decode c_X11_reads 59 = .ok (.invokevirtual 208, 3) := by decide +kernel
theorem d_X11_reads_62 : decode c_X11_reads 62 = .ok (.ifCond .ne 5, 3) := by decide +kernel
theorem d_X11_reads_65 : decode c_X11_reads 65 = .ok (.iconst 0, 1) := by decide +kernel
theorem d_X11_reads_66 : decode c_X11_reads 66 = .ok (.ireturn, 1) := by decide +kernel
theorem d_X11_reads_67 : decode c_X11_reads 67 = .ok (.aload_n 0, 1) := by decide +kernel
theorem d_X11_reads_68 : decode c_X11_reads 68 = .ok (.bipush 59, 2) := by decide +kernel
theorem d_X11_reads_70 : decode c_X11_reads 70 = .ok (.invokevirtual 205, 3) := by decide +kernel
theorem d_X11_reads_73 : decode c_X11_reads 73 = .ok (.ifCond .eq 48, 3) := by decide +kernel
theorem d_X11_reads_76 : decode c_X11_reads 76 = .ok (.aload_n 0, 1) := by decide +kernel
theorem d_X11_reads_77 : decode c_X11_reads 77 = .ok (.bipush 115, 2) := by decide +kernel
theorem d_X11_reads_79 : decode c_X11_reads 79 = .ok (.invokevirtual 205, 3) := by decide +kernel
theorem d_X11_reads_82 : decode c_X11_reads 82 = .ok (.ifCond .eq 39, 3) := by decide +kernel
theorem d_X11_reads_85 : decode c_X11_reads 85 = .ok (.aload_n 0, 1) := by decide +kernel
theorem d_X11_reads_86 : decode c_X11_reads 86 = .ok (.bipush 101, 2) := by decide +kernel
theorem d_X11_reads_88 : decode c_X11_reads 88 = .ok (.invokevirtual 205, 3) := by decide +kernel
theorem d_X11_reads_91 : decode c_X11_reads 91 = .ok (.ifCond .eq 30, 3) := by decide +kernel
theorem d_X11_reads_94 : decode c_X11_reads 94 = .ok (.aload_n 0, 1) := by decide +kernel
theorem d_X11_reads_95 : decode c_X11_reads 95 = .ok (.bipush 108, 2) := by decide +kernel
theorem d_X11_reads_97 : decode c_X11_reads 97 = .ok (.invokevirtual 205, 3) := by decide +kernel
theorem d_X11_reads_100 : decode c_X11_reads 100 = .ok (.ifCond .eq 21, 3) := by decide +kernel
theorem d_X11_reads_103 : decode c_X11_reads 103 = .ok (.aload_n 0, 1) := by decide +kernel
theorem d_X11_reads_104 : decode c_X11_reads 104 = .ok (.bipush 108, 2) := by decide +kernel
theorem d_X11_reads_106 : decode c_X11_reads 106 = .ok (.invokevirtual 205, 3) := by decide +kernel
theorem d_X11_reads_109 : decode c_X11_reads 109 = .ok (.ifCond .eq 12, 3) := by decide +kernel
theorem d_X11_reads_112 : decode c_X11_reads 112 = .ok (.aload_n 0, 1) := by decide +kernel
theorem d_X11_reads_113 : decode c_X11_reads 113 = .ok (.bipush 32, 2) := by decide +kernel
theorem d_X11_reads_115 : decode c_X11_reads 115 = .ok (.invokevirtual 205, 3) := by decide +kernel
theorem d_X11_reads_118 : decode c_X11_reads 118 = .ok (.ifCond .ne 5, 3) := by decide +kernel
theorem d_X11_reads_121 : decode c_X11_reads 121 = .ok (.iconst 0, 1) := by decide +kernel
theorem d_X11_reads_122 : decode c_X11_reads 122 = .ok (.ireturn, 1) := by decide +kernel
theorem d_X11_reads_123 : decode c_X11_reads 123 = .ok (.aload_n 0, 1) := by decide +kernel
theorem d_X11_reads_124 : decode c_X11_reads 124 = .ok (.iconst 2, 1) := by decide +kernel
theorem d_X11_reads_125 : decode c_X11_reads 125 = .ok (.invokevirtual 211, 3) := by decide +kernel
theorem d_X11_reads_128 : decode c_X11_reads 128 = .ok (.ifCond .ne 5, 3) := by decide +kernel
theorem d_X11_reads_131 : decode c_X11_reads 131 = .ok (.iconst 0, 1) := by decide +kernel
theorem d_X11_reads_132 : decode c_X11_reads 132 = .ok (.ireturn, 1) := by decide +kernel
theorem d_X11_reads_133 : decode c_X11_reads 133 = .ok (.aload_n 0, 1) := by decide +kernel
theorem d_X11_reads_134 : decode c_X11_reads 134 = .ok (.getfield 199, 3) := by decide +kernel
theorem d_X11_reads_137 : decode c_X11_reads 137 = .ok (.istore_n 2, 1) := by decide +kernel
theorem d_X11_reads_138 : decode c_X11_reads 138 = .ok (.aload_n 0, 1) := by decide +kernel
theorem d_X11_reads_139 : decode c_X11_reads 139 = .ok (.getfield 193, 3) := by decide +kernel
theorem d_X11_reads_142 : decode c_X11_reads 142 = .ok (.aload_n 0, 1) := by decide +kernel
theorem d_X11_reads_143 : decode c_X11_reads 143 = .ok (.getfield 190, 3) := by decide +kernel
theorem d_X11_reads_146 : decode c_X11_reads 146 = .ok (.if_icmp .ne 12, 3) := by decide +kernel
theorem d_X11_reads_149 : decode c_X11_reads 149 = .ok (.aload_n 0, 1) := by decide +kernel
theorem d_X11_reads_150 : decode c_X11_reads 150 = .ok (.getfield 115, 3) := by decide +kernel
theorem d_X11_reads_153 : decode c_X11_reads 153 = .ok (.iload_n 1, 1) := by decide +kernel
theorem d_X11_reads_154 : decode c_X11_reads 154 = .ok (.iload_n 2, 1) := by decide +kernel
theorem d_X11_reads_155 : decode c_X11_reads 155 = .ok (.iastore, 1) := by decide +kernel
theorem d_X11_reads_156 : decode c_X11_reads 156 = .ok (.iconst 1, 1) := by decide +kernel
theorem d_X11_reads_157 : decode c_X11_reads 157 = .ok (.ireturn, 1) := by decide +kernel
theorem d_X11_reads_158 : decode c_X11_reads 158 = .ok (.aload_n 0, 1) := by decide +kernel
theorem d_X11_reads_159 : decode c_X11_reads 159 = .ok (.getfield 102, 3) := by decide +kernel
theorem d_X11_reads_162 : decode c_X11_reads 162 = .ok (.iload_n 1, 1) := by decide +kernel
theorem d_X11_reads_163 : decode c_X11_reads 163 = .ok (.iaload, 1) := by decide +kernel
theorem d_X11_reads_164 : decode c_X11_reads 164 = .ok (.iconst 3, 1) := by decide +kernel
theorem d_X11_reads_165 : decode c_X11_reads 165 = .ok (.if_icmp .eq 39, 3) := by decide +kernel
theorem d_X11_reads_168 : decode c_X11_reads 168 = .ok (.aload_n 0, 1) := by decide +kernel
theorem d_X11_reads_169 : decode c_X11_reads 169 = .ok (.bipush 32, 2) := by decide +kernel
theorem d_X11_reads_171 : decode c_X11_reads 171 = .ok (.invokevirtual 205, 3) := by decide +kernel
theorem d_X11_reads_174 : decode c_X11_reads 174 = .ok (.ifCond .eq 30, 3) := by decide +kernel
theorem d_X11_reads_177 : decode c_X11_reads 177 = .ok (.aload_n 0, 1) := by decide +kernel
theorem d_X11_reads_178 : decode c_X11_reads 178 = .ok (.bipush 97, 2) := by decide +kernel
theorem d_X11_reads_180 : decode c_X11_reads 180 = .ok (.invokevirtual 205, 3) := by decide +kernel
theorem d_X11_reads_183 : decode c_X11_reads 183 = .ok (.ifCond .eq 21, 3) := by decide +kernel
theorem d_X11_reads_186 : decode c_X11_reads 186 = .ok (.aload_n 0, 1) := by decide +kernel
theorem d_X11_reads_187 : decode c_X11_reads 187 = .ok (.bipush 116, 2) := by decide +kernel
theorem d_X11_reads_189 : decode c_X11_reads 189 = .ok (.invokevirtual 205, 3) := by decide +kernel
theorem d_X11_reads_192 : decode c_X11_reads 192 = .ok (.ifCond .eq 12, 3) := by decide +kernel
theorem d_X11_reads_195 : decode c_X11_reads 195 = .ok (.aload_n 0, 1) := by decide +kernel
theorem d_X11_reads_196 : decode c_X11_reads 196 = .ok (.bipush 32, 2) := by decide +kernel
theorem d_X11_reads_198 : decode c_X11_reads 198 = .ok (.invokevirtual 205, 3) := by decide +kernel
theorem d_X11_reads_201 : decode c_X11_reads 201 = .ok (.ifCond .ne 5, 3) := by decide +kernel
theorem d_X11_reads_204 : decode c_X11_reads 204 = .ok (.iconst 0, 1) := by decide +kernel
theorem d_X11_reads_205 : decode c_X11_reads 205 = .ok (.ireturn, 1) := by decide +kernel
theorem d_X11_reads_206 : decode c_X11_reads 206 = .ok (.iconst 3, 1) := by decide +kernel
theorem d_X11_reads_207 : decode c_X11_reads 207 = .ok (.iload_n 1, 1) := by decide +kernel
theorem d_X11_reads_208 : decode c_X11_reads 208 = .ok (.imul, 1) := by decide +kernel
theorem d_X11_reads_209 : decode c_X11_reads 209 = .ok (.aload_n 0, 1) := by decide +kernel
theorem d_X11_reads_210 : decode c_X11_reads 210 = .ok (.getfield 102, 3) := by decide +kernel
theorem d_X11_reads_213 : decode c_X11_reads 213 = .ok (.iload_n 1, 1) := by decide +kernel
theorem d_X11_reads_214 : decode c_X11_reads 214 = .ok (.iaload, 1) := by decide +kernel
theorem d_X11_reads_215 : decode c_X11_reads 215 = .ok (.iadd, 1) := by decide +kernel
theorem d_X11_reads_216 : decode c_X11_reads 216 = .ok (.istore_n 3, 1) := by decide +kernel
theorem d_X11_reads_217 : decode c_X11_reads 217 = .ok (.aload_n 0, 1) := by decide +kernel
theorem d_X11_reads_218 : decode c_X11_reads 218 = .ok (.getfield 108, 3) := by decide +kernel
theorem d_X11_reads_221 : decode c_X11_reads 221 = .ok (.iload_n 3, 1) := by decide +kernel
theorem d_X11_reads_222 : decode c_X11_reads 222 = .ok (.aload_n 0, 1) := by decide +kernel
theorem d_X11_reads_223 : decode c_X11_reads 223 = .ok (.bipush 60, 2) := by decide +kernel
theorem d_X11_reads_225 : decode c_X11_reads 225 = .ok (.invokevirtual 196, 3) := by decide +kernel
theorem d_X11_reads_228 : decode c_X11_reads 228 = .ok (.bastore, 1) := by decide +kernel
theorem d_X11_reads_229 : decode c_X11_reads 229 = .ok (.aload_n 0, 1) := by decide +kernel
theorem d_X11_reads_230 : decode c_X11_reads 230 = .ok (.bipush 60, 2) := by decide +kernel
theorem d_X11_reads_232 : decode c_X11_reads 232 = .ok (.invokevirtual 205, 3) := by decide +kernel
theorem d_X11_reads_235 : decode c_X11_reads 235 = .ok (.ifCond .ne 12, 3) := by decide +kernel
theorem d_X11_reads_238 : decode c_X11_reads 238 = .ok (.aload_n 0, 1) := by decide +kernel
theorem d_X11_reads_239 : decode c_X11_reads 239 = .ok (.bipush 62, 2) := by decide +kernel
theorem d_X11_reads_241 : decode c_X11_reads 241 = .ok (.invokevirtual 205, 3) := by decide +kernel
theorem d_X11_reads_244 : decode c_X11_reads 244 = .ok (.ifCond .eq 11, 3) := by decide +kernel
theorem d_X11_reads_247 : decode c_X11_reads 247 = .ok (.aload_n 0, 1) := by decide +kernel
theorem d_X11_reads_248 : decode c_X11_reads 248 = .ok (.iconst 3, 1) := by decide +kernel
theorem d_X11_reads_249 : decode c_X11_reads 249 = .ok (.invokevirtual 211, 3) := by decide +kernel
theorem d_X11_reads_252 : decode c_X11_reads 252 = .ok (.ifCond .ne 5, 3) := by decide +kernel
theorem d_X11_reads_255 : decode c_X11_reads 255 = .ok (.iconst 0, 1) := by decide +kernel
theorem d_X11_reads_256 : decode c_X11_reads 256 = .ok (.ireturn, 1) := by decide +kernel
theorem d_X11_reads_257 : decode c_X11_reads 257 = .ok (.aload_n 0, 1) := by decide +kernel
theorem d_X11_reads_258 : decode c_X11_reads 258 = .ok (.getfield 105, 3) := by decide +kernel
theorem d_X11_reads_261 : decode c_X11_reads 261 = .ok (.iload_n 3, 1) := by decide +kernel
theorem d_X11_reads_262 : decode c_X11_reads 262 = .ok (.iload_n 2, 1) := by decide +kernel
theorem d_X11_reads_263 : decode c_X11_reads 263 = .ok (.iastore, 1) := by decide +kernel
theorem d_X11_reads_264 : decode c_X11_reads 264 = .ok (.aload_n 0, 1) := by decide +kernel
theorem d_X11_reads_265 : decode c_X11_reads 265 = .ok (.getfield 112, 3) := by decide +kernel
theorem d_X11_reads_268 : decode c_X11_reads 268 = .ok (.iload_n 3, 1) := by decide +kernel
theorem d_X11_reads_269 : decode c_X11_reads 269 = .ok (.aload_n 0, 1) := by decide +kernel
theorem d_X11_reads_270 : decode c_X11_reads 270 = .ok (.getfield 199, 3) := by decide +kernel
theorem d_X11_reads_273 : decode c_X11_reads 273 = .ok (.iastore, 1) := by decide +kernel
theorem d_X11_reads_274 : decode c_X11_reads 274 = .ok (.aload_n 0, 1) := by decide +kernel
theorem d_X11_reads_275 : decode c_X11_reads 275 = .ok (.getfield 102, 3) := by decide +kernel
theorem d_X11_reads_278 : decode c_X11_reads 278 = .ok (.iload_n 1, 1) := by decide +kernel
theorem d_X11_reads_279 : decode c_X11_reads 279 = .ok (.dup2, 1) := by decide +kernel
theorem d_X11_reads_280 : decode c_X11_reads 280 = .ok (.iaload, 1) := by decide +kernel
theorem d_X11_reads_281 : decode c_X11_reads 281 = .ok (.iconst 1, 1) := by decide +kernel
theorem d_X11_reads_282 : decode c_X11_reads 282 = .ok (.iadd, 1) := by decide +kernel
theorem d_X11_reads_283 : decode c_X11_reads 283 = .ok (.iastore, 1) := by decide +kernel
theorem d_X11_reads_284 : decode c_X11_reads 284 = .ok (.aload_n 0, 1) := by decide +kernel
theorem d_X11_reads_285 : decode c_X11_reads 285 = .ok (.bipush 44, 2) := by decide +kernel
theorem d_X11_reads_287 : decode c_X11_reads 287 = .ok (.invokevirtual 205, 3) := by decide +kernel
theorem d_X11_reads_290 : decode c_X11_reads 290 = .ok (.ifCond .ne 5, 3) := by decide +kernel
theorem d_X11_reads_293 : decode c_X11_reads 293 = .ok (.iconst 0, 1) := by decide +kernel
theorem d_X11_reads_294 : decode c_X11_reads 294 = .ok (.ireturn, 1) := by decide +kernel
theorem d_X11_reads_295 : decode c_X11_reads 295 = .ok (.goto (-172), 3) := by decide +kernel
def kp_X11_reads_400 (od : Int32) (a j : Nat) : Prop := (a ≠ 400 ∨ (j ≠ 42 ∧ j ≠ 43)) ∧ (a < 437 ∨ 443 ≤ a)
def b_X11_reads_400_123 (od : Int32) (rc123 : tV → Int32 × tV)  (v1 : tV) : Int32 × tV := bnd (v1 438 (od.toNatClampNeg)) fun m0 => bnd (v1 400 34) fun g0 => bnd2 (f_X11_takesNumber_2 v1 (2 : Int32)) fun x2 v3 => bnd (v3 400 43) fun x13 => (if x2 = (0 : Int32) then ((0 : Int32), v3) else bnd (v3 400 42) fun x17 => bnd (v3 400 33) fun x20 => (if x17 = x20 then bnd (up2 v3 442 (od.toNatClampNeg) x13) fun v403 => ((1 : Int32), v403) else (if m0 = (3 : Int32) then ((0 : Int32), v3) else bnd2 (f_X11_takes_400 v3 (32 : Int32)) fun x31 v32 => (if x31 = (0 : Int32) then ((0 : Int32), v32) else bnd2 (f_X11_takes_400 v32 (97 : Int32)) fun x47 v48 => (if x47 = (0 : Int32) then ((0 : Int32), v48) else bnd2 (f_X11_takes_400 v48 (116 : Int32)) fun x63 v64 => (if x63 = (0 : Int32) then ((0 : Int32), v64) else bnd2 (f_X11_takes_400 v64 (32 : Int32)) fun x79 v80 => (if x79 = (0 : Int32) then ((0 : Int32), v80) else bnd ((3 : Int32) * od) fun x92 => bnd (x92 + m0) fun x95 => (if f_X11_has_400 v80 (60 : Int32) = 1 then bnd (v80 400 42) fun x103 => bnd (up2 v80 440 (x95.toNatClampNeg) 1) fun v105 => bnd2 (f_X11_takes_400 v105 (60 : Int32)) fun x112 v113 => (if x112 = (0 : Int32) then bnd2 (f_X11_takes_400 v113 (62 : Int32)) fun x183 v184 => (if x183 = (0 : Int32) then ((0 : Int32), v184) else bnd2 (f_X11_takesNumber_3 v184 (3 : Int32)) fun x199 v200 => bnd (v200 400 43) fun x210 => (if x199 = (0 : Int32) then ((0 : Int32), v200) else bnd (up2 v200 439 (x95.toNatClampNeg) x13) fun v214 => bnd (up2 v214 441 (x95.toNatClampNeg) x210) fun v220 => bnd (m0 + (1 : Int32)) fun x226 => bnd (up2 v220 438 (od.toNatClampNeg) x226) fun v229 => bnd2 (f_X11_takes_400 v229 (44 : Int32)) fun x236 v237 => (if x236 = (0 : Int32) then ((0 : Int32), v237) else rc123 v237))) else bnd2 (f_X11_takesNumber_3 v113 (3 : Int32)) fun x126 v127 => bnd (v127 400 43) fun x137 => (if x126 = (0 : Int32) then ((0 : Int32), v127) else bnd (up2 v127 439 (x95.toNatClampNeg) x13) fun v141 => bnd (up2 v141 441 (x95.toNatClampNeg) x137) fun v147 => bnd (m0 + (1 : Int32)) fun x153 => bnd (up2 v147 438 (od.toNatClampNeg) x153) fun v156 => bnd2 (f_X11_takes_400 v156 (44 : Int32)) fun x163 v164 => (if x163 = (0 : Int32) then ((0 : Int32), v164) else rc123 v164))) else bnd (up2 v80 440 (x95.toNatClampNeg) 0) fun v253 => bnd2 (f_X11_takes_400 v253 (60 : Int32)) fun x259 v260 => (if x259 = (0 : Int32) then bnd2 (f_X11_takes_400 v260 (62 : Int32)) fun x330 v331 => (if x330 = (0 : Int32) then ((0 : Int32), v331) else bnd2 (f_X11_takesNumber_3 v331 (3 : Int32)) fun x346 v347 => bnd (v347 400 43) fun x357 => (if x346 = (0 : Int32) then ((0 : Int32), v347) else bnd (up2 v347 439 (x95.toNatClampNeg) x13) fun v361 => bnd (up2 v361 441 (x95.toNatClampNeg) x357) fun v367 => bnd (m0 + (1 : Int32)) fun x373 => bnd (up2 v367 438 (od.toNatClampNeg) x373) fun v376 => bnd2 (f_X11_takes_400 v376 (44 : Int32)) fun x383 v384 => (if x383 = (0 : Int32) then ((0 : Int32), v384) else rc123 v384))) else bnd2 (f_X11_takesNumber_3 v260 (3 : Int32)) fun x273 v274 => bnd (v274 400 43) fun x284 => (if x273 = (0 : Int32) then ((0 : Int32), v274) else bnd (up2 v274 439 (x95.toNatClampNeg) x13) fun v288 => bnd (up2 v288 441 (x95.toNatClampNeg) x284) fun v294 => bnd (m0 + (1 : Int32)) fun x300 => bnd (up2 v294 438 (od.toNatClampNeg) x300) fun v303 => bnd2 (f_X11_takes_400 v303 (44 : Int32)) fun x310 v311 => (if x310 = (0 : Int32) then ((0 : Int32), v311) else rc123 v311)))))))))))
def g_X11_reads_400_123 (od : Int32) : Nat → tV → Int32 × tV
  | 0, v1 => (0, v1)
  | n + 1, v1 => b_X11_reads_400_123 od (g_X11_reads_400_123 od n)  v1
def f_X11_reads_400 (v : tV) (od : Int32) : Int32 × tV := bnd (v 400 34) fun g0 => bnd (up2 v 400 42 0) fun v413 => bnd (up2 v413 438 (od.toNatClampNeg) 0) fun v418 => bnd2 (f_X11_takes_400 v418 (116 : Int32)) fun x425 v426 => (if x425 = (0 : Int32) then ((0 : Int32), v426) else bnd2 (f_X11_takes_400 v426 (117 : Int32)) fun x441 v442 => (if x441 = (0 : Int32) then ((0 : Int32), v442) else bnd2 (f_X11_takes_400 v442 (114 : Int32)) fun x457 v458 => (if x457 = (0 : Int32) then ((0 : Int32), v458) else bnd2 (f_X11_takes_400 v458 (110 : Int32)) fun x473 v474 => (if x473 = (0 : Int32) then ((0 : Int32), v474) else bnd2 (f_X11_takes_400 v474 (32 : Int32)) fun x489 v490 => (if x489 = (0 : Int32) then ((0 : Int32), v490) else bnd2 (f_X11_takesKey_400 v490 od) fun x505 v506 => (if x505 = (0 : Int32) then ((0 : Int32), v506) else bnd2 (f_X11_takes_400 v506 (59 : Int32)) fun x517 v518 => (if x517 = (0 : Int32) then ((0 : Int32), v518) else bnd2 (f_X11_takes_400 v518 (115 : Int32)) fun x532 v533 => (if x532 = (0 : Int32) then ((0 : Int32), v533) else bnd2 (f_X11_takes_400 v533 (101 : Int32)) fun x547 v548 => (if x547 = (0 : Int32) then ((0 : Int32), v548) else bnd2 (f_X11_takes_400 v548 (108 : Int32)) fun x562 v563 => (if x562 = (0 : Int32) then ((0 : Int32), v563) else bnd2 (f_X11_takes_400 v563 (108 : Int32)) fun x577 v578 => (if x577 = (0 : Int32) then ((0 : Int32), v578) else bnd2 (f_X11_takes_400 v578 (32 : Int32)) fun x592 v593 => (if x592 = (0 : Int32) then ((0 : Int32), v593) else g_X11_reads_400_123 od 100000 v593))))))))))))
set_option maxHeartbeats 4000000 in
set_option maxRecDepth 100000 in
theorem ct_X11_reads_400 (l : Launch) (D : va_G) (dA : Nat → ClassId) (ad : Nat → Nat) (v : tV) (hI : Inv v) (od : Int32) (r_od : Rg od 0 7) : Met l m_X11_reads [.code m_X11_reads c_X11_reads 4 (some .boolean)] ({ frames := 4, cells := 0, slots := 0, locals := 103 } : Room) (tP D dA ad v [.ref (ad 400), .int od]) (tQi D dA ad (fun r v' => (Inv v' ∧ Kp (kp_X11_reads_400 od) v v' ∧ Rg r 0 1 ∧ v' 400 34 = v 400 34) ∧ (r, v') = f_X11_reads_400 v od)) 0 0 (tA ad) := by
  refine tMet (by decide) (Nat.le_of_ble_eq_true rfl) ?_
  intro p e s m below meth c ls X hr hlocks hw hl
  have X : CX p s m ([.ref (ad 400), .int od] : List Value).toArray c c_X11_reads N_X11 4 D dA := X
  have hx := X.1
  have hb := X.2.1
  have hS : va_S (tA ad) s.heap s.heap [] := va_S.rf
  have hl : lv_has ls 4 [(0, .ref (ad 400)), (1, .int od)] := hl
  obtain ⟨g0, hg0⟩ : ∃ g, v 400 34 = g := ⟨_, rfl⟩
  have r_g0 : Rg g0 0 8 := by rw [← hg0]; exact hI 400 34 _ _ rfl
  obtain ⟨RR, eRR⟩ : ∃ z, f_X11_reads_400 v od = z := ⟨_, rfl⟩
  have LL : ∀ n : Nat, (∀ (m0 : Int32) (v1 : tV) (H : Heap) (locs : List Loc) (ls : Array Slot), (3 - m0.toInt).toNat < n → Rg m0 0 3 → Inv v1 → Kp (kp_X11_reads_400 od) v v1 → v1 438 od.toNatClampNeg = m0 → v1 400 34 = g0 → g_X11_reads_400_123 od n v1 = RR → tI D dA ad v1 H → va_S (tA ad) s.heap H locs → lv_has ls 4 [(0, .ref (ad 400)), (1, .int od)] → W p l e ({ frames := 4, cells := 0, slots := 0, locals := 103 } : Room) s m ([.ref (ad 400), .int od] : List Value).toArray below meth c H locs 0 0 (MQ below (tQi D dA ad (fun r v' => (Inv v' ∧ Kp (kp_X11_reads_400 od) v v' ∧ Rg r 0 1 ∧ v' 400 34 = v 400 34) ∧ (r, v') = f_X11_reads_400 v od)) ([.ref (ad 400), .int od] : List Value).toArray s 0 0 (tA ad)) (F0 m 123 ls [])) := by
    intro n
    induction n with
    | zero => intros; omega
    | succ n ih =>
      have ih0 := ih
      intro m0 v1 H locs ls hmu r_m0 hI1 hK1 h_m0 hfx0 hG hw hS hl
      have hG : b_X11_reads_400_123 od (g_X11_reads_400_123 od n)  v1 = RR := hG
      unfold b_X11_reads_400_123 at hG
      have hG := bnd_use h_m0.symm hG
      have hG := bnd_use hfx0.symm hG
      refine lv_aload_n hx hb d_X11_reads_123 rfl (lv_at hl 0 rfl) ?_
      refine lv_iconst (v := 2) hx hb d_X11_reads_124 (by decide) ?_
      refine r_ci (r_runV (n := 1) (As := [.int 2]) (rest := []) X hw (ct_X11_takesNumber_2 l D dA ad v1 hI1 2 (⟨by decide, by decide⟩ : Rg 2 2 2)) gc_X11_211 (rfl : KD 400 = _) (by decide) rfl (by decide +kernel) ⟨rfl, rfl, Nat.le_of_ble_eq_true rfl, Nat.le_of_ble_eq_true rfl⟩ rfl hl.1 rfl (Nat.le_of_ble_eq_true rfl) ⟨Nat.zero_le _, Nat.zero_le _⟩ d_X11_reads_125) hS (fun x2 v3 H locs hp1 hw hS => ?_)
      obtain ⟨hp1, hE4⟩ := hp1
      obtain ⟨hI5, hK6, hp1, hk7, hF8, hx9⟩ := hp1
      have hK10 : Kp (kp_X11_reads_400 od) v v3 := Kp.tr hK1 hK6 (by have z0 : (0 : Int32).toInt = 0 := rfl; intro a j; unfold kp_X11_reads_400 kp_X11_takesNumber_2; omega)
      have hm11 : v3 438 (od.toNatClampNeg) = m0 := (hF8 438 (od.toNatClampNeg) (by decide)).trans h_m0
      have hm12 : v3 400 (34) = g0 := hk7.trans hfx0
      obtain ⟨x13, ex13⟩ : ∃ z, v3 400 43 = z := ⟨_, rfl⟩
      rw [ex13] at hx9
      have hG := bnd2_use hE4 hG
      have hG := bnd_use ex13.symm hG
      refine lv_if_ne (tgt := 133) hx hb d_X11_reads_128 (by decide) (fun c14 => ?_) (fun c14 => ?_)
      · have f15 := i_ne c14
        have r16 : Rg x2 1 1 := by obtain ⟨a1, a2⟩ := hp1; obtain ⟨b1, b2⟩ := (⟨by decide, by decide⟩ : Rg 0 0 0); have f := i_ne c14; exact ⟨by omega, by omega⟩
        have hG := g_neg c14 hG
        refine lv_aload_n hx hb d_X11_reads_133 rfl (lv_at hl 0 rfl) ?_
        refine r_geti X hw FL_X11_199 (rfl : KD 400 = _) rfl d_X11_reads_134 ?_
        rw [ex13]
        refine lv_istore_n (lv' := [(2, .int x13), (0, .ref (ad 400)), (1, .int od)]) hx hb d_X11_reads_137 rfl hl (by decide) rfl (fun ls hl => ?_)
        refine lv_aload_n hx hb d_X11_reads_138 rfl (lv_at hl 1 rfl) ?_
        refine r_geti X hw FL_X11_193 (rfl : KD 400 = _) rfl d_X11_reads_139 ?_
        refine lv_topi (fun x17 ex17 => ?_)
        have hG := bnd_use ex17 hG
        have r18 : Rg x17 0 120 := by rw [ex17]; exact hI5 _ _ _ _ rfl
        have hm19 : v3 400 42 = x17 := ex17.symm
        refine lv_aload_n hx hb d_X11_reads_142 rfl (lv_at hl 1 rfl) ?_
        refine r_geti X hw FL_X11_190 (rfl : KD 400 = _) rfl d_X11_reads_143 ?_
        refine lv_topi (fun x20 ex20 => ?_)
        have hG := bnd_use ex20 hG
        have r21 : Rg x20 0 120 := by rw [ex20]; exact hI5 _ _ _ _ rfl
        have hm22 : v3 400 33 = x20 := ex20.symm
        refine lv_icmp_ne (tgt := 158) hx hb d_X11_reads_146 (by decide) (fun c23 => ?_) (fun c23 => ?_)
        · have f24 := i_ne c23
          have hG := g_neg c23 hG
          refine lv_aload_n hx hb d_X11_reads_158 rfl (lv_at hl 1 rfl) ?_
          refine r_getr (r := 438) X hw FL_X11_102 (rfl : KD 400 = _) rfl d_X11_reads_159 ?_
          refine lv_iload_n hx hb d_X11_reads_162 rfl (lv_at hl 2 rfl) ?_
          refine r_iald X hw (rfl : KD 438 = _) (Rg.vp (b := 7) r_od (by decide)) rfl d_X11_reads_163 ?_
          rw [hm11]
          refine lv_iconst (v := 3) hx hb d_X11_reads_164 (by decide) ?_
          refine lv_icmp_eq (tgt := 204) hx hb d_X11_reads_165 (by decide) (fun c25 => ?_) (fun c25 => ?_)
          · have f26 := i_eq c25
            have r27 : Rg m0 3 3 := by obtain ⟨a1, a2⟩ := r_m0; obtain ⟨b1, b2⟩ := (⟨by decide, by decide⟩ : Rg 3 3 3); have f := i_eq c25; exact ⟨by omega, by omega⟩
            have hG := g_pos c25 hG
            refine lv_iconst (v := 0) hx hb d_X11_reads_204 (by decide) ?_
            exact r_zret X hr hlocks hw hS rfl ⟨⟨hI5, hK10, (rg_w (⟨by decide, by decide⟩ : Rg 0 0 0) (by decide) (by decide)), (hm12.trans hg0.symm)⟩, hG.trans eRR.symm⟩ d_X11_reads_205
          · have f28 := i_ne c25
            have r29 : Rg m0 0 2 := by obtain ⟨a1, a2⟩ := r_m0; obtain ⟨b1, b2⟩ := (⟨by decide, by decide⟩ : Rg 3 3 3); have f := i_ne c25; exact ⟨by omega, by omega⟩
            have hG := g_neg c25 hG
            refine lv_aload_n hx hb d_X11_reads_168 rfl (lv_at hl 1 rfl) ?_
            refine lv_bipush (v := 32) hx hb d_X11_reads_169 (by decide) ?_
            refine r_ci (r_runV (n := 1) (As := [.int 32]) (rest := []) X hw (ct_X11_takes_400 l D dA ad v3 hI5 32) gc_X11_205 (rfl : KD 400 = _) (by decide) rfl (by decide +kernel) ⟨rfl, rfl, Nat.le_of_ble_eq_true rfl, Nat.le_of_ble_eq_true rfl⟩ rfl hl.1 rfl (Nat.le_of_ble_eq_true rfl) ⟨Nat.zero_le _, Nat.zero_le _⟩ d_X11_reads_171) hS (fun x31 v32 H locs hp30 hw hS => ?_)
            obtain ⟨hp30, hE33⟩ := hp30
            obtain ⟨hI34, hK35, hp30, hk36, hF37⟩ := hp30
            have hK38 : Kp (kp_X11_reads_400 od) v v32 := Kp.tr hK10 hK35 (by have z0 : (0 : Int32).toInt = 0 := rfl; intro a j; unfold kp_X11_reads_400 kp_X11_takes_400; omega)
            have hm39 : v32 438 (od.toNatClampNeg) = m0 := (hF37 438 (od.toNatClampNeg) (by decide)).trans hm11
            have hm40 : v32 400 (34) = g0 := hk36.trans hm12
            have hG := bnd2_use hE33 hG
            refine lv_if_eq (tgt := 204) hx hb d_X11_reads_174 (by decide) (fun c41 => ?_) (fun c41 => ?_)
            · have f42 := i_eq c41
              have r43 : Rg x31 0 0 := by obtain ⟨a1, a2⟩ := hp30; obtain ⟨b1, b2⟩ := (⟨by decide, by decide⟩ : Rg 0 0 0); have f := i_eq c41; exact ⟨by omega, by omega⟩
              have hG := g_pos c41 hG
              refine lv_iconst (v := 0) hx hb d_X11_reads_204 (by decide) ?_
              exact r_zret X hr hlocks hw hS rfl ⟨⟨hI34, hK38, (rg_w (⟨by decide, by decide⟩ : Rg 0 0 0) (by decide) (by decide)), (hm40.trans hg0.symm)⟩, hG.trans eRR.symm⟩ d_X11_reads_205
            · have f44 := i_ne c41
              have r45 : Rg x31 1 1 := by obtain ⟨a1, a2⟩ := hp30; obtain ⟨b1, b2⟩ := (⟨by decide, by decide⟩ : Rg 0 0 0); have f := i_ne c41; exact ⟨by omega, by omega⟩
              have hG := g_neg c41 hG
              refine lv_aload_n hx hb d_X11_reads_177 rfl (lv_at hl 1 rfl) ?_
              refine lv_bipush (v := 97) hx hb d_X11_reads_178 (by decide) ?_
              refine r_ci (r_runV (n := 1) (As := [.int 97]) (rest := []) X hw (ct_X11_takes_400 l D dA ad v32 hI34 97) gc_X11_205 (rfl : KD 400 = _) (by decide) rfl (by decide +kernel) ⟨rfl, rfl, Nat.le_of_ble_eq_true rfl, Nat.le_of_ble_eq_true rfl⟩ rfl hl.1 rfl (Nat.le_of_ble_eq_true rfl) ⟨Nat.zero_le _, Nat.zero_le _⟩ d_X11_reads_180) hS (fun x47 v48 H locs hp46 hw hS => ?_)
              obtain ⟨hp46, hE49⟩ := hp46
              obtain ⟨hI50, hK51, hp46, hk52, hF53⟩ := hp46
              have hK54 : Kp (kp_X11_reads_400 od) v v48 := Kp.tr hK38 hK51 (by have z0 : (0 : Int32).toInt = 0 := rfl; intro a j; unfold kp_X11_reads_400 kp_X11_takes_400; omega)
              have hm55 : v48 438 (od.toNatClampNeg) = m0 := (hF53 438 (od.toNatClampNeg) (by decide)).trans hm39
              have hm56 : v48 400 (34) = g0 := hk52.trans hm40
              have hG := bnd2_use hE49 hG
              refine lv_if_eq (tgt := 204) hx hb d_X11_reads_183 (by decide) (fun c57 => ?_) (fun c57 => ?_)
              · have f58 := i_eq c57
                have r59 : Rg x47 0 0 := by obtain ⟨a1, a2⟩ := hp46; obtain ⟨b1, b2⟩ := (⟨by decide, by decide⟩ : Rg 0 0 0); have f := i_eq c57; exact ⟨by omega, by omega⟩
                have hG := g_pos c57 hG
                refine lv_iconst (v := 0) hx hb d_X11_reads_204 (by decide) ?_
                exact r_zret X hr hlocks hw hS rfl ⟨⟨hI50, hK54, (rg_w (⟨by decide, by decide⟩ : Rg 0 0 0) (by decide) (by decide)), (hm56.trans hg0.symm)⟩, hG.trans eRR.symm⟩ d_X11_reads_205
              · have f60 := i_ne c57
                have r61 : Rg x47 1 1 := by obtain ⟨a1, a2⟩ := hp46; obtain ⟨b1, b2⟩ := (⟨by decide, by decide⟩ : Rg 0 0 0); have f := i_ne c57; exact ⟨by omega, by omega⟩
                have hG := g_neg c57 hG
                refine lv_aload_n hx hb d_X11_reads_186 rfl (lv_at hl 1 rfl) ?_
                refine lv_bipush (v := 116) hx hb d_X11_reads_187 (by decide) ?_
                refine r_ci (r_runV (n := 1) (As := [.int 116]) (rest := []) X hw (ct_X11_takes_400 l D dA ad v48 hI50 116) gc_X11_205 (rfl : KD 400 = _) (by decide) rfl (by decide +kernel) ⟨rfl, rfl, Nat.le_of_ble_eq_true rfl, Nat.le_of_ble_eq_true rfl⟩ rfl hl.1 rfl (Nat.le_of_ble_eq_true rfl) ⟨Nat.zero_le _, Nat.zero_le _⟩ d_X11_reads_189) hS (fun x63 v64 H locs hp62 hw hS => ?_)
                obtain ⟨hp62, hE65⟩ := hp62
                obtain ⟨hI66, hK67, hp62, hk68, hF69⟩ := hp62
                have hK70 : Kp (kp_X11_reads_400 od) v v64 := Kp.tr hK54 hK67 (by have z0 : (0 : Int32).toInt = 0 := rfl; intro a j; unfold kp_X11_reads_400 kp_X11_takes_400; omega)
                have hm71 : v64 438 (od.toNatClampNeg) = m0 := (hF69 438 (od.toNatClampNeg) (by decide)).trans hm55
                have hm72 : v64 400 (34) = g0 := hk68.trans hm56
                have hG := bnd2_use hE65 hG
                refine lv_if_eq (tgt := 204) hx hb d_X11_reads_192 (by decide) (fun c73 => ?_) (fun c73 => ?_)
                · have f74 := i_eq c73
                  have r75 : Rg x63 0 0 := by obtain ⟨a1, a2⟩ := hp62; obtain ⟨b1, b2⟩ := (⟨by decide, by decide⟩ : Rg 0 0 0); have f := i_eq c73; exact ⟨by omega, by omega⟩
                  have hG := g_pos c73 hG
                  refine lv_iconst (v := 0) hx hb d_X11_reads_204 (by decide) ?_
                  exact r_zret X hr hlocks hw hS rfl ⟨⟨hI66, hK70, (rg_w (⟨by decide, by decide⟩ : Rg 0 0 0) (by decide) (by decide)), (hm72.trans hg0.symm)⟩, hG.trans eRR.symm⟩ d_X11_reads_205
                · have f76 := i_ne c73
                  have r77 : Rg x63 1 1 := by obtain ⟨a1, a2⟩ := hp62; obtain ⟨b1, b2⟩ := (⟨by decide, by decide⟩ : Rg 0 0 0); have f := i_ne c73; exact ⟨by omega, by omega⟩
                  have hG := g_neg c73 hG
                  refine lv_aload_n hx hb d_X11_reads_195 rfl (lv_at hl 1 rfl) ?_
                  refine lv_bipush (v := 32) hx hb d_X11_reads_196 (by decide) ?_
                  refine r_ci (r_runV (n := 1) (As := [.int 32]) (rest := []) X hw (ct_X11_takes_400 l D dA ad v64 hI66 32) gc_X11_205 (rfl : KD 400 = _) (by decide) rfl (by decide +kernel) ⟨rfl, rfl, Nat.le_of_ble_eq_true rfl, Nat.le_of_ble_eq_true rfl⟩ rfl hl.1 rfl (Nat.le_of_ble_eq_true rfl) ⟨Nat.zero_le _, Nat.zero_le _⟩ d_X11_reads_198) hS (fun x79 v80 H locs hp78 hw hS => ?_)
                  obtain ⟨hp78, hE81⟩ := hp78
                  obtain ⟨hI82, hK83, hp78, hk84, hF85⟩ := hp78
                  have hK86 : Kp (kp_X11_reads_400 od) v v80 := Kp.tr hK70 hK83 (by have z0 : (0 : Int32).toInt = 0 := rfl; intro a j; unfold kp_X11_reads_400 kp_X11_takes_400; omega)
                  have hm87 : v80 438 (od.toNatClampNeg) = m0 := (hF85 438 (od.toNatClampNeg) (by decide)).trans hm71
                  have hm88 : v80 400 (34) = g0 := hk84.trans hm72
                  have hG := bnd2_use hE81 hG
                  refine lv_if_ne (tgt := 206) hx hb d_X11_reads_201 (by decide) (fun c89 => ?_) (fun c89 => ?_)
                  · have f90 := i_ne c89
                    have r91 : Rg x79 1 1 := by obtain ⟨a1, a2⟩ := hp78; obtain ⟨b1, b2⟩ := (⟨by decide, by decide⟩ : Rg 0 0 0); have f := i_ne c89; exact ⟨by omega, by omega⟩
                    have hG := g_neg c89 hG
                    refine lv_iconst (v := 3) hx hb d_X11_reads_206 (by decide) ?_
                    refine lv_iload_n hx hb d_X11_reads_207 rfl (lv_at hl 2 rfl) ?_
                    refine lv_imul hx hb d_X11_reads_208 ?_
                    refine lv_topi (fun x92 ex92 => ?_)
                    have hG := bnd_use ex92 hG
                    have r93 : Rg x92 0 21 := rg_mulc ex92 (⟨by decide, by decide⟩ : Rg 3 3 3) r_od (by decide) (by decide) (by decide)
                    have s94 : x92.toInt = 3 * od.toInt := rg_mule ex92 r_od rfl (by decide) (by decide)
                    refine lv_aload_n hx hb d_X11_reads_209 rfl (lv_at hl 1 rfl) ?_
                    refine r_getr (r := 438) X hw FL_X11_102 (rfl : KD 400 = _) rfl d_X11_reads_210 ?_
                    refine lv_iload_n hx hb d_X11_reads_213 rfl (lv_at hl 2 rfl) ?_
                    refine r_iald X hw (rfl : KD 438 = _) (Rg.vp (b := 7) r_od (by decide)) rfl d_X11_reads_214 ?_
                    rw [hm87]
                    refine lv_iadd hx hb d_X11_reads_215 ?_
                    refine lv_topi (fun x95 ex95 => ?_)
                    have hG := bnd_use ex95 hG
                    have r96 : Rg x95 0 23 := rg_add ex95 r93 r29 (by decide) (by decide)
                    have s97 : x95.toInt = x92.toInt + (m0 : Int32).toInt := by rw [ex95]; exact i_add (by obtain ⟨_, _⟩ := r93; obtain ⟨_, _⟩ := r29; omega) (by obtain ⟨_, _⟩ := r93; obtain ⟨_, _⟩ := r29; omega)
                    refine lv_istore_n (lv' := [(3, .int x95), (2, .int x13), (0, .ref (ad 400)), (1, .int od)]) hx hb d_X11_reads_216 rfl hl (by decide) rfl (fun ls hl => ?_)
                    refine lv_aload_n hx hb d_X11_reads_217 rfl (lv_at hl 2 rfl) ?_
                    refine r_getr (r := 440) X hw FL_X11_108 (rfl : KD 400 = _) rfl d_X11_reads_218 ?_
                    refine lv_iload_n hx hb d_X11_reads_221 rfl (lv_at hl 0 rfl) ?_
                    refine lv_aload_n hx hb d_X11_reads_222 rfl (lv_at hl 2 rfl) ?_
                    refine lv_bipush (v := 60) hx hb d_X11_reads_223 (by decide) ?_
                    refine r_ci (r_runV (n := 1) (As := [.int 60]) (rest := [.int x95, .ref (ad 440)]) X hw (ct_X11_has_400 l D dA ad v80 hI82 60) gc_X11_196 (rfl : KD 400 = _) (by decide) rfl (by decide +kernel) ⟨rfl, rfl, Nat.le_of_ble_eq_true rfl, Nat.le_of_ble_eq_true rfl⟩ rfl hl.1 rfl (Nat.le_of_ble_eq_true rfl) ⟨Nat.zero_le _, Nat.zero_le _⟩ d_X11_reads_225) hS (fun x99 v100 H locs hp98 hw hS => ?_)
                    obtain ⟨hp98, hE101⟩ := hp98
                    obtain ⟨ev100, hp98⟩ := hp98
                    rw [ev100] at hw
                    rcases hp98 with ⟨rfl, w102a⟩ | rfl
                    · skip
                      have hG := g_pos hE101.symm hG
                      obtain ⟨x103, ex103⟩ : ∃ z, v80 400 42 = z := ⟨_, rfl⟩
                      have hG := bnd_use ex103.symm hG
                      have r104 : Rg x103 0 119 := by have q := hI82 400 42 0 120 rfl; have z := w102a; rw [ex103] at q z; exact ⟨q.1, z⟩
                      refine r_zast (y := 1)  X hw hS (rfl : KD 440 = _) (Rg.vp (b := 23) r96 (by decide)) rfl rfl d_X11_reads_228 (fun H locs hw hS => ?_)
                      obtain ⟨v105, ev105⟩ : ∃ z, z = up2 v80 440 x95.toNatClampNeg 1 := ⟨_, rfl⟩
                      rw [← ev105] at hw
                      have hG := bnd_use ev105 hG
                      have hI106 : Inv v105 := by rw [ev105]; exact Inv.put0 hI82 _ rfl
                      have hK107 : Kp (kp_X11_reads_400 od) v v105 := by rw [ev105]; exact Kp.put hK86 _ (by unfold kp_X11_reads_400; omega)
                      have hm108 : v105 438 od.toNatClampNeg = m0 := by rw [ev105, up2_n _ _ (by omega)]; exact hm87
                      have hm109 : v105 400 34 = g0 := by rw [ev105, up2_n _ _ (by omega)]; exact hm88
                      have hm110 : v105 400 42 = x103 := by rw [ev105, up2_n _ _ (by omega)]; exact ex103
                      refine lv_aload_n hx hb d_X11_reads_229 rfl (lv_at hl 2 rfl) ?_
                      refine lv_bipush (v := 60) hx hb d_X11_reads_230 (by decide) ?_
                      refine r_ci (r_runV (n := 1) (As := [.int 60]) (rest := []) X hw (ct_X11_takes_400 l D dA ad v105 hI106 60) gc_X11_205 (rfl : KD 400 = _) (by decide) rfl (by decide +kernel) ⟨rfl, rfl, Nat.le_of_ble_eq_true rfl, Nat.le_of_ble_eq_true rfl⟩ rfl hl.1 rfl (Nat.le_of_ble_eq_true rfl) ⟨Nat.zero_le _, Nat.zero_le _⟩ d_X11_reads_232) hS (fun x112 v113 H locs hp111 hw hS => ?_)
                      obtain ⟨hp111, hE114⟩ := hp111
                      obtain ⟨hI115, hK116, hp111, hk117, hF118⟩ := hp111
                      have hK119 : Kp (kp_X11_reads_400 od) v v113 := Kp.tr hK107 hK116 (by have z0 : (0 : Int32).toInt = 0 := rfl; intro a j; unfold kp_X11_reads_400 kp_X11_takes_400; omega)
                      have hm120 : v113 438 (od.toNatClampNeg) = m0 := (hF118 438 (od.toNatClampNeg) (by decide)).trans hm108
                      have hm121 : v113 400 (34) = g0 := hk117.trans hm109
                      have hG := bnd2_use hE114 hG
                      refine lv_if_ne (tgt := 247) hx hb d_X11_reads_235 (by decide) (fun c122 => ?_) (fun c122 => ?_)
                      · have f123 := i_ne c122
                        have r124 : Rg x112 1 1 := by obtain ⟨a1, a2⟩ := hp111; obtain ⟨b1, b2⟩ := (⟨by decide, by decide⟩ : Rg 0 0 0); have f := i_ne c122; exact ⟨by omega, by omega⟩
                        have hG := g_neg c122 hG
                        refine lv_aload_n hx hb d_X11_reads_247 rfl (lv_at hl 2 rfl) ?_
                        refine lv_iconst (v := 3) hx hb d_X11_reads_248 (by decide) ?_
                        refine r_ci (r_runV (n := 1) (As := [.int 3]) (rest := []) X hw (ct_X11_takesNumber_3 l D dA ad v113 hI115 3 (⟨by decide, by decide⟩ : Rg 3 3 3)) gc_X11_211 (rfl : KD 400 = _) (by decide) rfl (by decide +kernel) ⟨rfl, rfl, Nat.le_of_ble_eq_true rfl, Nat.le_of_ble_eq_true rfl⟩ rfl hl.1 rfl (Nat.le_of_ble_eq_true rfl) ⟨Nat.zero_le _, Nat.zero_le _⟩ d_X11_reads_249) hS (fun x126 v127 H locs hp125 hw hS => ?_)
                        obtain ⟨hp125, hE128⟩ := hp125
                        obtain ⟨hI129, hK130, hp125, hk131, hF132, hx133⟩ := hp125
                        have hK134 : Kp (kp_X11_reads_400 od) v v127 := Kp.tr hK119 hK130 (by have z0 : (0 : Int32).toInt = 0 := rfl; intro a j; unfold kp_X11_reads_400 kp_X11_takesNumber_3; omega)
                        have hm135 : v127 438 (od.toNatClampNeg) = m0 := (hF132 438 (od.toNatClampNeg) (by decide)).trans hm120
                        have hm136 : v127 400 (34) = g0 := hk131.trans hm121
                        obtain ⟨x137, ex137⟩ : ∃ z, v127 400 43 = z := ⟨_, rfl⟩
                        rw [ex137] at hx133
                        have hG := bnd2_use hE128 hG
                        have hG := bnd_use ex137.symm hG
                        refine lv_if_ne (tgt := 257) hx hb d_X11_reads_252 (by decide) (fun c138 => ?_) (fun c138 => ?_)
                        · have f139 := i_ne c138
                          have r140 : Rg x126 1 1 := by obtain ⟨a1, a2⟩ := hp125; obtain ⟨b1, b2⟩ := (⟨by decide, by decide⟩ : Rg 0 0 0); have f := i_ne c138; exact ⟨by omega, by omega⟩
                          have hG := g_neg c138 hG
                          refine lv_aload_n hx hb d_X11_reads_257 rfl (lv_at hl 2 rfl) ?_
                          refine r_getr (r := 439) X hw FL_X11_105 (rfl : KD 400 = _) rfl d_X11_reads_258 ?_
                          refine lv_iload_n hx hb d_X11_reads_261 rfl (lv_at hl 0 rfl) ?_
                          refine lv_iload_n hx hb d_X11_reads_262 rfl (lv_at hl 1 rfl) ?_
                          refine r_iast X hw hS (rfl : KD 439 = _) (Rg.vp (b := 23) r96 (by decide)) rfl d_X11_reads_263 (fun H locs hw hS => ?_)
                          obtain ⟨v141, ev141⟩ : ∃ z, z = up2 v127 439 x95.toNatClampNeg x13 := ⟨_, rfl⟩
                          rw [← ev141] at hw
                          have hG := bnd_use ev141 hG
                          have hI142 : Inv v141 := by rw [ev141]; exact Inv.putr hI129 rfl hx9
                          have hK143 : Kp (kp_X11_reads_400 od) v v141 := by rw [ev141]; exact Kp.put hK134 _ (by unfold kp_X11_reads_400; omega)
                          have hm144 : v141 438 od.toNatClampNeg = m0 := by rw [ev141, up2_n _ _ (by omega)]; exact hm135
                          have hm145 : v141 400 34 = g0 := by rw [ev141, up2_n _ _ (by omega)]; exact hm136
                          have hm146 : v141 400 43 = x137 := by rw [ev141, up2_n _ _ (by omega)]; exact ex137
                          refine lv_aload_n hx hb d_X11_reads_264 rfl (lv_at hl 2 rfl) ?_
                          refine r_getr (r := 441) X hw FL_X11_112 (rfl : KD 400 = _) rfl d_X11_reads_265 ?_
                          refine lv_iload_n hx hb d_X11_reads_268 rfl (lv_at hl 0 rfl) ?_
                          refine lv_aload_n hx hb d_X11_reads_269 rfl (lv_at hl 2 rfl) ?_
                          refine r_geti X hw FL_X11_199 (rfl : KD 400 = _) rfl d_X11_reads_270 ?_
                          rw [hm146]
                          refine r_iast X hw hS (rfl : KD 441 = _) (Rg.vp (b := 23) r96 (by decide)) rfl d_X11_reads_273 (fun H locs hw hS => ?_)
                          obtain ⟨v147, ev147⟩ : ∃ z, z = up2 v141 441 x95.toNatClampNeg x137 := ⟨_, rfl⟩
                          rw [← ev147] at hw
                          have hG := bnd_use ev147 hG
                          have hI148 : Inv v147 := by rw [ev147]; exact Inv.put0 hI142 _ rfl
                          have hK149 : Kp (kp_X11_reads_400 od) v v147 := by rw [ev147]; exact Kp.put hK143 _ (by unfold kp_X11_reads_400; omega)
                          have hm150 : v147 438 od.toNatClampNeg = m0 := by rw [ev147, up2_n _ _ (by omega)]; exact hm144
                          have hm151 : v147 400 34 = g0 := by rw [ev147, up2_n _ _ (by omega)]; exact hm145
                          have hm152 : v147 400 43 = x137 := by rw [ev147, up2_n _ _ (by omega)]; exact hm146
                          refine lv_aload_n hx hb d_X11_reads_274 rfl (lv_at hl 2 rfl) ?_
                          refine r_getr (r := 438) X hw FL_X11_102 (rfl : KD 400 = _) rfl d_X11_reads_275 ?_
                          refine lv_iload_n hx hb d_X11_reads_278 rfl (lv_at hl 3 rfl) ?_
                          refine lv_dup2_11 hx hb d_X11_reads_279 rfl rfl ?_
                          refine r_iald X hw (rfl : KD 438 = _) (Rg.vp (b := 7) r_od (by decide)) rfl d_X11_reads_280 ?_
                          rw [hm150]
                          refine lv_iconst (v := 1) hx hb d_X11_reads_281 (by decide) ?_
                          refine lv_iadd hx hb d_X11_reads_282 ?_
                          refine lv_topi (fun x153 ex153 => ?_)
                          have hG := bnd_use ex153 hG
                          have r154 : Rg x153 1 3 := rg_add ex153 r29 (⟨by decide, by decide⟩ : Rg 1 1 1) (by decide) (by decide)
                          have s155 : x153.toInt = m0.toInt + (1 : Int32).toInt := by rw [ex153]; exact i_add (by obtain ⟨_, _⟩ := r29; obtain ⟨_, _⟩ := (⟨by decide, by decide⟩ : Rg 1 1 1); omega) (by obtain ⟨_, _⟩ := r29; obtain ⟨_, _⟩ := (⟨by decide, by decide⟩ : Rg 1 1 1); omega)
                          have s155l : (1 : Int32).toInt = 1 := rfl
                          refine r_iast X hw hS (rfl : KD 438 = _) (Rg.vp (b := 7) r_od (by decide)) rfl d_X11_reads_283 (fun H locs hw hS => ?_)
                          obtain ⟨v156, ev156⟩ : ∃ z, z = up2 v147 438 od.toNatClampNeg x153 := ⟨_, rfl⟩
                          rw [← ev156] at hw
                          have hG := bnd_use ev156 hG
                          have hI157 : Inv v156 := by rw [ev156]; exact Inv.putr hI148 rfl (rg_w r154 (by decide) (by decide))
                          have hK158 : Kp (kp_X11_reads_400 od) v v156 := by rw [ev156]; exact Kp.put hK149 _ (by unfold kp_X11_reads_400; omega)
                          have hm159 : v156 400 34 = g0 := by rw [ev156, up2_n _ _ (by omega)]; exact hm151
                          have hm160 : v156 400 43 = x137 := by rw [ev156, up2_n _ _ (by omega)]; exact hm152
                          have hm161 : v156 438 od.toNatClampNeg = x153 := by rw [ev156, up2_s]
                          refine lv_aload_n hx hb d_X11_reads_284 rfl (lv_at hl 2 rfl) ?_
                          refine lv_bipush (v := 44) hx hb d_X11_reads_285 (by decide) ?_
                          refine r_ci (r_runV (n := 1) (As := [.int 44]) (rest := []) X hw (ct_X11_takes_400 l D dA ad v156 hI157 44) gc_X11_205 (rfl : KD 400 = _) (by decide) rfl (by decide +kernel) ⟨rfl, rfl, Nat.le_of_ble_eq_true rfl, Nat.le_of_ble_eq_true rfl⟩ rfl hl.1 rfl (Nat.le_of_ble_eq_true rfl) ⟨Nat.zero_le _, Nat.zero_le _⟩ d_X11_reads_287) hS (fun x163 v164 H locs hp162 hw hS => ?_)
                          obtain ⟨hp162, hE165⟩ := hp162
                          obtain ⟨hI166, hK167, hp162, hk168, hF169⟩ := hp162
                          have hK170 : Kp (kp_X11_reads_400 od) v v164 := Kp.tr hK158 hK167 (by have z0 : (0 : Int32).toInt = 0 := rfl; intro a j; unfold kp_X11_reads_400 kp_X11_takes_400; omega)
                          have hm171 : v164 400 (34) = g0 := hk168.trans hm159
                          have hm172 : v164 438 (od.toNatClampNeg) = x153 := (hF169 438 (od.toNatClampNeg) (by decide)).trans hm161
                          have hG := bnd2_use hE165 hG
                          refine lv_if_ne (tgt := 295) hx hb d_X11_reads_290 (by decide) (fun c173 => ?_) (fun c173 => ?_)
                          · have f174 := i_ne c173
                            have r175 : Rg x163 1 1 := by obtain ⟨a1, a2⟩ := hp162; obtain ⟨b1, b2⟩ := (⟨by decide, by decide⟩ : Rg 0 0 0); have f := i_ne c173; exact ⟨by omega, by omega⟩
                            have hG := g_neg c173 hG
                            refine lv_goto (tgt := 123) hx hb d_X11_reads_295 (by decide) ?_
                            exact ih0 x153 v164 _ _ _ (by have := s94; have := s97; have := s155; obtain ⟨_, _⟩ := r154; omega) (rg_w r154 (by decide) (by decide)) hI166 hK170 hm172 hm171 hG hw hS (lv_sub hl [2, 3] rfl)
                          · have f176 := i_eq c173
                            have r177 : Rg x163 0 0 := by obtain ⟨a1, a2⟩ := hp162; obtain ⟨b1, b2⟩ := (⟨by decide, by decide⟩ : Rg 0 0 0); have f := i_eq c173; exact ⟨by omega, by omega⟩
                            have hG := g_pos c173 hG
                            refine lv_iconst (v := 0) hx hb d_X11_reads_293 (by decide) ?_
                            exact r_zret X hr hlocks hw hS rfl ⟨⟨hI166, hK170, (rg_w (⟨by decide, by decide⟩ : Rg 0 0 0) (by decide) (by decide)), (hm171.trans hg0.symm)⟩, hG.trans eRR.symm⟩ d_X11_reads_294
                        · have f178 := i_eq c138
                          have r179 : Rg x126 0 0 := by obtain ⟨a1, a2⟩ := hp125; obtain ⟨b1, b2⟩ := (⟨by decide, by decide⟩ : Rg 0 0 0); have f := i_eq c138; exact ⟨by omega, by omega⟩
                          have hG := g_pos c138 hG
                          refine lv_iconst (v := 0) hx hb d_X11_reads_255 (by decide) ?_
                          exact r_zret X hr hlocks hw hS rfl ⟨⟨hI129, hK134, (rg_w (⟨by decide, by decide⟩ : Rg 0 0 0) (by decide) (by decide)), (hm136.trans hg0.symm)⟩, hG.trans eRR.symm⟩ d_X11_reads_256
                      · have f180 := i_eq c122
                        have r181 : Rg x112 0 0 := by obtain ⟨a1, a2⟩ := hp111; obtain ⟨b1, b2⟩ := (⟨by decide, by decide⟩ : Rg 0 0 0); have f := i_eq c122; exact ⟨by omega, by omega⟩
                        have hG := g_pos c122 hG
                        refine lv_aload_n hx hb d_X11_reads_238 rfl (lv_at hl 2 rfl) ?_
                        refine lv_bipush (v := 62) hx hb d_X11_reads_239 (by decide) ?_
                        refine r_ci (r_runV (n := 1) (As := [.int 62]) (rest := []) X hw (ct_X11_takes_400 l D dA ad v113 hI115 62) gc_X11_205 (rfl : KD 400 = _) (by decide) rfl (by decide +kernel) ⟨rfl, rfl, Nat.le_of_ble_eq_true rfl, Nat.le_of_ble_eq_true rfl⟩ rfl hl.1 rfl (Nat.le_of_ble_eq_true rfl) ⟨Nat.zero_le _, Nat.zero_le _⟩ d_X11_reads_241) hS (fun x183 v184 H locs hp182 hw hS => ?_)
                        obtain ⟨hp182, hE185⟩ := hp182
                        obtain ⟨hI186, hK187, hp182, hk188, hF189⟩ := hp182
                        have hK190 : Kp (kp_X11_reads_400 od) v v184 := Kp.tr hK119 hK187 (by have z0 : (0 : Int32).toInt = 0 := rfl; intro a j; unfold kp_X11_reads_400 kp_X11_takes_400; omega)
                        have hm191 : v184 438 (od.toNatClampNeg) = m0 := (hF189 438 (od.toNatClampNeg) (by decide)).trans hm120
                        have hm192 : v184 400 (34) = g0 := hk188.trans hm121
                        have hG := bnd2_use hE185 hG
                        refine lv_if_eq (tgt := 255) hx hb d_X11_reads_244 (by decide) (fun c193 => ?_) (fun c193 => ?_)
                        · have f194 := i_eq c193
                          have r195 : Rg x183 0 0 := by obtain ⟨a1, a2⟩ := hp182; obtain ⟨b1, b2⟩ := (⟨by decide, by decide⟩ : Rg 0 0 0); have f := i_eq c193; exact ⟨by omega, by omega⟩
                          have hG := g_pos c193 hG
                          refine lv_iconst (v := 0) hx hb d_X11_reads_255 (by decide) ?_
                          exact r_zret X hr hlocks hw hS rfl ⟨⟨hI186, hK190, (rg_w (⟨by decide, by decide⟩ : Rg 0 0 0) (by decide) (by decide)), (hm192.trans hg0.symm)⟩, hG.trans eRR.symm⟩ d_X11_reads_256
                        · have f196 := i_ne c193
                          have r197 : Rg x183 1 1 := by obtain ⟨a1, a2⟩ := hp182; obtain ⟨b1, b2⟩ := (⟨by decide, by decide⟩ : Rg 0 0 0); have f := i_ne c193; exact ⟨by omega, by omega⟩
                          have hG := g_neg c193 hG
                          refine lv_aload_n hx hb d_X11_reads_247 rfl (lv_at hl 2 rfl) ?_
                          refine lv_iconst (v := 3) hx hb d_X11_reads_248 (by decide) ?_
                          refine r_ci (r_runV (n := 1) (As := [.int 3]) (rest := []) X hw (ct_X11_takesNumber_3 l D dA ad v184 hI186 3 (⟨by decide, by decide⟩ : Rg 3 3 3)) gc_X11_211 (rfl : KD 400 = _) (by decide) rfl (by decide +kernel) ⟨rfl, rfl, Nat.le_of_ble_eq_true rfl, Nat.le_of_ble_eq_true rfl⟩ rfl hl.1 rfl (Nat.le_of_ble_eq_true rfl) ⟨Nat.zero_le _, Nat.zero_le _⟩ d_X11_reads_249) hS (fun x199 v200 H locs hp198 hw hS => ?_)
                          obtain ⟨hp198, hE201⟩ := hp198
                          obtain ⟨hI202, hK203, hp198, hk204, hF205, hx206⟩ := hp198
                          have hK207 : Kp (kp_X11_reads_400 od) v v200 := Kp.tr hK190 hK203 (by have z0 : (0 : Int32).toInt = 0 := rfl; intro a j; unfold kp_X11_reads_400 kp_X11_takesNumber_3; omega)
                          have hm208 : v200 438 (od.toNatClampNeg) = m0 := (hF205 438 (od.toNatClampNeg) (by decide)).trans hm191
                          have hm209 : v200 400 (34) = g0 := hk204.trans hm192
                          obtain ⟨x210, ex210⟩ : ∃ z, v200 400 43 = z := ⟨_, rfl⟩
                          rw [ex210] at hx206
                          have hG := bnd2_use hE201 hG
                          have hG := bnd_use ex210.symm hG
                          refine lv_if_ne (tgt := 257) hx hb d_X11_reads_252 (by decide) (fun c211 => ?_) (fun c211 => ?_)
                          · have f212 := i_ne c211
                            have r213 : Rg x199 1 1 := by obtain ⟨a1, a2⟩ := hp198; obtain ⟨b1, b2⟩ := (⟨by decide, by decide⟩ : Rg 0 0 0); have f := i_ne c211; exact ⟨by omega, by omega⟩
                            have hG := g_neg c211 hG
                            refine lv_aload_n hx hb d_X11_reads_257 rfl (lv_at hl 2 rfl) ?_
                            refine r_getr (r := 439) X hw FL_X11_105 (rfl : KD 400 = _) rfl d_X11_reads_258 ?_
                            refine lv_iload_n hx hb d_X11_reads_261 rfl (lv_at hl 0 rfl) ?_
                            refine lv_iload_n hx hb d_X11_reads_262 rfl (lv_at hl 1 rfl) ?_
                            refine r_iast X hw hS (rfl : KD 439 = _) (Rg.vp (b := 23) r96 (by decide)) rfl d_X11_reads_263 (fun H locs hw hS => ?_)
                            obtain ⟨v214, ev214⟩ : ∃ z, z = up2 v200 439 x95.toNatClampNeg x13 := ⟨_, rfl⟩
                            rw [← ev214] at hw
                            have hG := bnd_use ev214 hG
                            have hI215 : Inv v214 := by rw [ev214]; exact Inv.putr hI202 rfl hx9
                            have hK216 : Kp (kp_X11_reads_400 od) v v214 := by rw [ev214]; exact Kp.put hK207 _ (by unfold kp_X11_reads_400; omega)
                            have hm217 : v214 438 od.toNatClampNeg = m0 := by rw [ev214, up2_n _ _ (by omega)]; exact hm208
                            have hm218 : v214 400 34 = g0 := by rw [ev214, up2_n _ _ (by omega)]; exact hm209
                            have hm219 : v214 400 43 = x210 := by rw [ev214, up2_n _ _ (by omega)]; exact ex210
                            refine lv_aload_n hx hb d_X11_reads_264 rfl (lv_at hl 2 rfl) ?_
                            refine r_getr (r := 441) X hw FL_X11_112 (rfl : KD 400 = _) rfl d_X11_reads_265 ?_
                            refine lv_iload_n hx hb d_X11_reads_268 rfl (lv_at hl 0 rfl) ?_
                            refine lv_aload_n hx hb d_X11_reads_269 rfl (lv_at hl 2 rfl) ?_
                            refine r_geti X hw FL_X11_199 (rfl : KD 400 = _) rfl d_X11_reads_270 ?_
                            rw [hm219]
                            refine r_iast X hw hS (rfl : KD 441 = _) (Rg.vp (b := 23) r96 (by decide)) rfl d_X11_reads_273 (fun H locs hw hS => ?_)
                            obtain ⟨v220, ev220⟩ : ∃ z, z = up2 v214 441 x95.toNatClampNeg x210 := ⟨_, rfl⟩
                            rw [← ev220] at hw
                            have hG := bnd_use ev220 hG
                            have hI221 : Inv v220 := by rw [ev220]; exact Inv.put0 hI215 _ rfl
                            have hK222 : Kp (kp_X11_reads_400 od) v v220 := by rw [ev220]; exact Kp.put hK216 _ (by unfold kp_X11_reads_400; omega)
                            have hm223 : v220 438 od.toNatClampNeg = m0 := by rw [ev220, up2_n _ _ (by omega)]; exact hm217
                            have hm224 : v220 400 34 = g0 := by rw [ev220, up2_n _ _ (by omega)]; exact hm218
                            have hm225 : v220 400 43 = x210 := by rw [ev220, up2_n _ _ (by omega)]; exact hm219
                            refine lv_aload_n hx hb d_X11_reads_274 rfl (lv_at hl 2 rfl) ?_
                            refine r_getr (r := 438) X hw FL_X11_102 (rfl : KD 400 = _) rfl d_X11_reads_275 ?_
                            refine lv_iload_n hx hb d_X11_reads_278 rfl (lv_at hl 3 rfl) ?_
                            refine lv_dup2_11 hx hb d_X11_reads_279 rfl rfl ?_
                            refine r_iald X hw (rfl : KD 438 = _) (Rg.vp (b := 7) r_od (by decide)) rfl d_X11_reads_280 ?_
                            rw [hm223]
                            refine lv_iconst (v := 1) hx hb d_X11_reads_281 (by decide) ?_
                            refine lv_iadd hx hb d_X11_reads_282 ?_
                            refine lv_topi (fun x226 ex226 => ?_)
                            have hG := bnd_use ex226 hG
                            have r227 : Rg x226 1 3 := rg_add ex226 r29 (⟨by decide, by decide⟩ : Rg 1 1 1) (by decide) (by decide)
                            have s228 : x226.toInt = m0.toInt + (1 : Int32).toInt := by rw [ex226]; exact i_add (by obtain ⟨_, _⟩ := r29; obtain ⟨_, _⟩ := (⟨by decide, by decide⟩ : Rg 1 1 1); omega) (by obtain ⟨_, _⟩ := r29; obtain ⟨_, _⟩ := (⟨by decide, by decide⟩ : Rg 1 1 1); omega)
                            have s228l : (1 : Int32).toInt = 1 := rfl
                            refine r_iast X hw hS (rfl : KD 438 = _) (Rg.vp (b := 7) r_od (by decide)) rfl d_X11_reads_283 (fun H locs hw hS => ?_)
                            obtain ⟨v229, ev229⟩ : ∃ z, z = up2 v220 438 od.toNatClampNeg x226 := ⟨_, rfl⟩
                            rw [← ev229] at hw
                            have hG := bnd_use ev229 hG
                            have hI230 : Inv v229 := by rw [ev229]; exact Inv.putr hI221 rfl (rg_w r227 (by decide) (by decide))
                            have hK231 : Kp (kp_X11_reads_400 od) v v229 := by rw [ev229]; exact Kp.put hK222 _ (by unfold kp_X11_reads_400; omega)
                            have hm232 : v229 400 34 = g0 := by rw [ev229, up2_n _ _ (by omega)]; exact hm224
                            have hm233 : v229 400 43 = x210 := by rw [ev229, up2_n _ _ (by omega)]; exact hm225
                            have hm234 : v229 438 od.toNatClampNeg = x226 := by rw [ev229, up2_s]
                            refine lv_aload_n hx hb d_X11_reads_284 rfl (lv_at hl 2 rfl) ?_
                            refine lv_bipush (v := 44) hx hb d_X11_reads_285 (by decide) ?_
                            refine r_ci (r_runV (n := 1) (As := [.int 44]) (rest := []) X hw (ct_X11_takes_400 l D dA ad v229 hI230 44) gc_X11_205 (rfl : KD 400 = _) (by decide) rfl (by decide +kernel) ⟨rfl, rfl, Nat.le_of_ble_eq_true rfl, Nat.le_of_ble_eq_true rfl⟩ rfl hl.1 rfl (Nat.le_of_ble_eq_true rfl) ⟨Nat.zero_le _, Nat.zero_le _⟩ d_X11_reads_287) hS (fun x236 v237 H locs hp235 hw hS => ?_)
                            obtain ⟨hp235, hE238⟩ := hp235
                            obtain ⟨hI239, hK240, hp235, hk241, hF242⟩ := hp235
                            have hK243 : Kp (kp_X11_reads_400 od) v v237 := Kp.tr hK231 hK240 (by have z0 : (0 : Int32).toInt = 0 := rfl; intro a j; unfold kp_X11_reads_400 kp_X11_takes_400; omega)
                            have hm244 : v237 400 (34) = g0 := hk241.trans hm232
                            have hm245 : v237 438 (od.toNatClampNeg) = x226 := (hF242 438 (od.toNatClampNeg) (by decide)).trans hm234
                            have hG := bnd2_use hE238 hG
                            refine lv_if_ne (tgt := 295) hx hb d_X11_reads_290 (by decide) (fun c246 => ?_) (fun c246 => ?_)
                            · have f247 := i_ne c246
                              have r248 : Rg x236 1 1 := by obtain ⟨a1, a2⟩ := hp235; obtain ⟨b1, b2⟩ := (⟨by decide, by decide⟩ : Rg 0 0 0); have f := i_ne c246; exact ⟨by omega, by omega⟩
                              have hG := g_neg c246 hG
                              refine lv_goto (tgt := 123) hx hb d_X11_reads_295 (by decide) ?_
                              exact ih0 x226 v237 _ _ _ (by have := s94; have := s97; have := s228; obtain ⟨_, _⟩ := r227; omega) (rg_w r227 (by decide) (by decide)) hI239 hK243 hm245 hm244 hG hw hS (lv_sub hl [2, 3] rfl)
                            · have f249 := i_eq c246
                              have r250 : Rg x236 0 0 := by obtain ⟨a1, a2⟩ := hp235; obtain ⟨b1, b2⟩ := (⟨by decide, by decide⟩ : Rg 0 0 0); have f := i_eq c246; exact ⟨by omega, by omega⟩
                              have hG := g_pos c246 hG
                              refine lv_iconst (v := 0) hx hb d_X11_reads_293 (by decide) ?_
                              exact r_zret X hr hlocks hw hS rfl ⟨⟨hI239, hK243, (rg_w (⟨by decide, by decide⟩ : Rg 0 0 0) (by decide) (by decide)), (hm244.trans hg0.symm)⟩, hG.trans eRR.symm⟩ d_X11_reads_294
                          · have f251 := i_eq c211
                            have r252 : Rg x199 0 0 := by obtain ⟨a1, a2⟩ := hp198; obtain ⟨b1, b2⟩ := (⟨by decide, by decide⟩ : Rg 0 0 0); have f := i_eq c211; exact ⟨by omega, by omega⟩
                            have hG := g_pos c211 hG
                            refine lv_iconst (v := 0) hx hb d_X11_reads_255 (by decide) ?_
                            exact r_zret X hr hlocks hw hS rfl ⟨⟨hI202, hK207, (rg_w (⟨by decide, by decide⟩ : Rg 0 0 0) (by decide) (by decide)), (hm209.trans hg0.symm)⟩, hG.trans eRR.symm⟩ d_X11_reads_256
                    · skip
                      have hG := g_neg (by rw [← hE101]; decide) hG
                      refine r_zast (y := 0)  X hw hS (rfl : KD 440 = _) (Rg.vp (b := 23) r96 (by decide)) rfl rfl d_X11_reads_228 (fun H locs hw hS => ?_)
                      obtain ⟨v253, ev253⟩ : ∃ z, z = up2 v80 440 x95.toNatClampNeg 0 := ⟨_, rfl⟩
                      rw [← ev253] at hw
                      have hG := bnd_use ev253 hG
                      have hI254 : Inv v253 := by rw [ev253]; exact Inv.put0 hI82 _ rfl
                      have hK255 : Kp (kp_X11_reads_400 od) v v253 := by rw [ev253]; exact Kp.put hK86 _ (by unfold kp_X11_reads_400; omega)
                      have hm256 : v253 438 od.toNatClampNeg = m0 := by rw [ev253, up2_n _ _ (by omega)]; exact hm87
                      have hm257 : v253 400 34 = g0 := by rw [ev253, up2_n _ _ (by omega)]; exact hm88
                      refine lv_aload_n hx hb d_X11_reads_229 rfl (lv_at hl 2 rfl) ?_
                      refine lv_bipush (v := 60) hx hb d_X11_reads_230 (by decide) ?_
                      refine r_ci (r_runV (n := 1) (As := [.int 60]) (rest := []) X hw (ct_X11_takes_400 l D dA ad v253 hI254 60) gc_X11_205 (rfl : KD 400 = _) (by decide) rfl (by decide +kernel) ⟨rfl, rfl, Nat.le_of_ble_eq_true rfl, Nat.le_of_ble_eq_true rfl⟩ rfl hl.1 rfl (Nat.le_of_ble_eq_true rfl) ⟨Nat.zero_le _, Nat.zero_le _⟩ d_X11_reads_232) hS (fun x259 v260 H locs hp258 hw hS => ?_)
                      obtain ⟨hp258, hE261⟩ := hp258
                      obtain ⟨hI262, hK263, hp258, hk264, hF265⟩ := hp258
                      have hK266 : Kp (kp_X11_reads_400 od) v v260 := Kp.tr hK255 hK263 (by have z0 : (0 : Int32).toInt = 0 := rfl; intro a j; unfold kp_X11_reads_400 kp_X11_takes_400; omega)
                      have hm267 : v260 438 (od.toNatClampNeg) = m0 := (hF265 438 (od.toNatClampNeg) (by decide)).trans hm256
                      have hm268 : v260 400 (34) = g0 := hk264.trans hm257
                      have hG := bnd2_use hE261 hG
                      refine lv_if_ne (tgt := 247) hx hb d_X11_reads_235 (by decide) (fun c269 => ?_) (fun c269 => ?_)
                      · have f270 := i_ne c269
                        have r271 : Rg x259 1 1 := by obtain ⟨a1, a2⟩ := hp258; obtain ⟨b1, b2⟩ := (⟨by decide, by decide⟩ : Rg 0 0 0); have f := i_ne c269; exact ⟨by omega, by omega⟩
                        have hG := g_neg c269 hG
                        refine lv_aload_n hx hb d_X11_reads_247 rfl (lv_at hl 2 rfl) ?_
                        refine lv_iconst (v := 3) hx hb d_X11_reads_248 (by decide) ?_
                        refine r_ci (r_runV (n := 1) (As := [.int 3]) (rest := []) X hw (ct_X11_takesNumber_3 l D dA ad v260 hI262 3 (⟨by decide, by decide⟩ : Rg 3 3 3)) gc_X11_211 (rfl : KD 400 = _) (by decide) rfl (by decide +kernel) ⟨rfl, rfl, Nat.le_of_ble_eq_true rfl, Nat.le_of_ble_eq_true rfl⟩ rfl hl.1 rfl (Nat.le_of_ble_eq_true rfl) ⟨Nat.zero_le _, Nat.zero_le _⟩ d_X11_reads_249) hS (fun x273 v274 H locs hp272 hw hS => ?_)
                        obtain ⟨hp272, hE275⟩ := hp272
                        obtain ⟨hI276, hK277, hp272, hk278, hF279, hx280⟩ := hp272
                        have hK281 : Kp (kp_X11_reads_400 od) v v274 := Kp.tr hK266 hK277 (by have z0 : (0 : Int32).toInt = 0 := rfl; intro a j; unfold kp_X11_reads_400 kp_X11_takesNumber_3; omega)
                        have hm282 : v274 438 (od.toNatClampNeg) = m0 := (hF279 438 (od.toNatClampNeg) (by decide)).trans hm267
                        have hm283 : v274 400 (34) = g0 := hk278.trans hm268
                        obtain ⟨x284, ex284⟩ : ∃ z, v274 400 43 = z := ⟨_, rfl⟩
                        rw [ex284] at hx280
                        have hG := bnd2_use hE275 hG
                        have hG := bnd_use ex284.symm hG
                        refine lv_if_ne (tgt := 257) hx hb d_X11_reads_252 (by decide) (fun c285 => ?_) (fun c285 => ?_)
                        · have f286 := i_ne c285
                          have r287 : Rg x273 1 1 := by obtain ⟨a1, a2⟩ := hp272; obtain ⟨b1, b2⟩ := (⟨by decide, by decide⟩ : Rg 0 0 0); have f := i_ne c285; exact ⟨by omega, by omega⟩
                          have hG := g_neg c285 hG
                          refine lv_aload_n hx hb d_X11_reads_257 rfl (lv_at hl 2 rfl) ?_
                          refine r_getr (r := 439) X hw FL_X11_105 (rfl : KD 400 = _) rfl d_X11_reads_258 ?_
                          refine lv_iload_n hx hb d_X11_reads_261 rfl (lv_at hl 0 rfl) ?_
                          refine lv_iload_n hx hb d_X11_reads_262 rfl (lv_at hl 1 rfl) ?_
                          refine r_iast X hw hS (rfl : KD 439 = _) (Rg.vp (b := 23) r96 (by decide)) rfl d_X11_reads_263 (fun H locs hw hS => ?_)
                          obtain ⟨v288, ev288⟩ : ∃ z, z = up2 v274 439 x95.toNatClampNeg x13 := ⟨_, rfl⟩
                          rw [← ev288] at hw
                          have hG := bnd_use ev288 hG
                          have hI289 : Inv v288 := by rw [ev288]; exact Inv.putr hI276 rfl hx9
                          have hK290 : Kp (kp_X11_reads_400 od) v v288 := by rw [ev288]; exact Kp.put hK281 _ (by unfold kp_X11_reads_400; omega)
                          have hm291 : v288 438 od.toNatClampNeg = m0 := by rw [ev288, up2_n _ _ (by omega)]; exact hm282
                          have hm292 : v288 400 34 = g0 := by rw [ev288, up2_n _ _ (by omega)]; exact hm283
                          have hm293 : v288 400 43 = x284 := by rw [ev288, up2_n _ _ (by omega)]; exact ex284
                          refine lv_aload_n hx hb d_X11_reads_264 rfl (lv_at hl 2 rfl) ?_
                          refine r_getr (r := 441) X hw FL_X11_112 (rfl : KD 400 = _) rfl d_X11_reads_265 ?_
                          refine lv_iload_n hx hb d_X11_reads_268 rfl (lv_at hl 0 rfl) ?_
                          refine lv_aload_n hx hb d_X11_reads_269 rfl (lv_at hl 2 rfl) ?_
                          refine r_geti X hw FL_X11_199 (rfl : KD 400 = _) rfl d_X11_reads_270 ?_
                          rw [hm293]
                          refine r_iast X hw hS (rfl : KD 441 = _) (Rg.vp (b := 23) r96 (by decide)) rfl d_X11_reads_273 (fun H locs hw hS => ?_)
                          obtain ⟨v294, ev294⟩ : ∃ z, z = up2 v288 441 x95.toNatClampNeg x284 := ⟨_, rfl⟩
                          rw [← ev294] at hw
                          have hG := bnd_use ev294 hG
                          have hI295 : Inv v294 := by rw [ev294]; exact Inv.put0 hI289 _ rfl
                          have hK296 : Kp (kp_X11_reads_400 od) v v294 := by rw [ev294]; exact Kp.put hK290 _ (by unfold kp_X11_reads_400; omega)
                          have hm297 : v294 438 od.toNatClampNeg = m0 := by rw [ev294, up2_n _ _ (by omega)]; exact hm291
                          have hm298 : v294 400 34 = g0 := by rw [ev294, up2_n _ _ (by omega)]; exact hm292
                          have hm299 : v294 400 43 = x284 := by rw [ev294, up2_n _ _ (by omega)]; exact hm293
                          refine lv_aload_n hx hb d_X11_reads_274 rfl (lv_at hl 2 rfl) ?_
                          refine r_getr (r := 438) X hw FL_X11_102 (rfl : KD 400 = _) rfl d_X11_reads_275 ?_
                          refine lv_iload_n hx hb d_X11_reads_278 rfl (lv_at hl 3 rfl) ?_
                          refine lv_dup2_11 hx hb d_X11_reads_279 rfl rfl ?_
                          refine r_iald X hw (rfl : KD 438 = _) (Rg.vp (b := 7) r_od (by decide)) rfl d_X11_reads_280 ?_
                          rw [hm297]
                          refine lv_iconst (v := 1) hx hb d_X11_reads_281 (by decide) ?_
                          refine lv_iadd hx hb d_X11_reads_282 ?_
                          refine lv_topi (fun x300 ex300 => ?_)
                          have hG := bnd_use ex300 hG
                          have r301 : Rg x300 1 3 := rg_add ex300 r29 (⟨by decide, by decide⟩ : Rg 1 1 1) (by decide) (by decide)
                          have s302 : x300.toInt = m0.toInt + (1 : Int32).toInt := by rw [ex300]; exact i_add (by obtain ⟨_, _⟩ := r29; obtain ⟨_, _⟩ := (⟨by decide, by decide⟩ : Rg 1 1 1); omega) (by obtain ⟨_, _⟩ := r29; obtain ⟨_, _⟩ := (⟨by decide, by decide⟩ : Rg 1 1 1); omega)
                          have s302l : (1 : Int32).toInt = 1 := rfl
                          refine r_iast X hw hS (rfl : KD 438 = _) (Rg.vp (b := 7) r_od (by decide)) rfl d_X11_reads_283 (fun H locs hw hS => ?_)
                          obtain ⟨v303, ev303⟩ : ∃ z, z = up2 v294 438 od.toNatClampNeg x300 := ⟨_, rfl⟩
                          rw [← ev303] at hw
                          have hG := bnd_use ev303 hG
                          have hI304 : Inv v303 := by rw [ev303]; exact Inv.putr hI295 rfl (rg_w r301 (by decide) (by decide))
                          have hK305 : Kp (kp_X11_reads_400 od) v v303 := by rw [ev303]; exact Kp.put hK296 _ (by unfold kp_X11_reads_400; omega)
                          have hm306 : v303 400 34 = g0 := by rw [ev303, up2_n _ _ (by omega)]; exact hm298
                          have hm307 : v303 400 43 = x284 := by rw [ev303, up2_n _ _ (by omega)]; exact hm299
                          have hm308 : v303 438 od.toNatClampNeg = x300 := by rw [ev303, up2_s]
                          refine lv_aload_n hx hb d_X11_reads_284 rfl (lv_at hl 2 rfl) ?_
                          refine lv_bipush (v := 44) hx hb d_X11_reads_285 (by decide) ?_
                          refine r_ci (r_runV (n := 1) (As := [.int 44]) (rest := []) X hw (ct_X11_takes_400 l D dA ad v303 hI304 44) gc_X11_205 (rfl : KD 400 = _) (by decide) rfl (by decide +kernel) ⟨rfl, rfl, Nat.le_of_ble_eq_true rfl, Nat.le_of_ble_eq_true rfl⟩ rfl hl.1 rfl (Nat.le_of_ble_eq_true rfl) ⟨Nat.zero_le _, Nat.zero_le _⟩ d_X11_reads_287) hS (fun x310 v311 H locs hp309 hw hS => ?_)
                          obtain ⟨hp309, hE312⟩ := hp309
                          obtain ⟨hI313, hK314, hp309, hk315, hF316⟩ := hp309
                          have hK317 : Kp (kp_X11_reads_400 od) v v311 := Kp.tr hK305 hK314 (by have z0 : (0 : Int32).toInt = 0 := rfl; intro a j; unfold kp_X11_reads_400 kp_X11_takes_400; omega)
                          have hm318 : v311 400 (34) = g0 := hk315.trans hm306
                          have hm319 : v311 438 (od.toNatClampNeg) = x300 := (hF316 438 (od.toNatClampNeg) (by decide)).trans hm308
                          have hG := bnd2_use hE312 hG
                          refine lv_if_ne (tgt := 295) hx hb d_X11_reads_290 (by decide) (fun c320 => ?_) (fun c320 => ?_)
                          · have f321 := i_ne c320
                            have r322 : Rg x310 1 1 := by obtain ⟨a1, a2⟩ := hp309; obtain ⟨b1, b2⟩ := (⟨by decide, by decide⟩ : Rg 0 0 0); have f := i_ne c320; exact ⟨by omega, by omega⟩
                            have hG := g_neg c320 hG
                            refine lv_goto (tgt := 123) hx hb d_X11_reads_295 (by decide) ?_
                            exact ih0 x300 v311 _ _ _ (by have := s94; have := s97; have := s302; obtain ⟨_, _⟩ := r301; omega) (rg_w r301 (by decide) (by decide)) hI313 hK317 hm319 hm318 hG hw hS (lv_sub hl [2, 3] rfl)
                          · have f323 := i_eq c320
                            have r324 : Rg x310 0 0 := by obtain ⟨a1, a2⟩ := hp309; obtain ⟨b1, b2⟩ := (⟨by decide, by decide⟩ : Rg 0 0 0); have f := i_eq c320; exact ⟨by omega, by omega⟩
                            have hG := g_pos c320 hG
                            refine lv_iconst (v := 0) hx hb d_X11_reads_293 (by decide) ?_
                            exact r_zret X hr hlocks hw hS rfl ⟨⟨hI313, hK317, (rg_w (⟨by decide, by decide⟩ : Rg 0 0 0) (by decide) (by decide)), (hm318.trans hg0.symm)⟩, hG.trans eRR.symm⟩ d_X11_reads_294
                        · have f325 := i_eq c285
                          have r326 : Rg x273 0 0 := by obtain ⟨a1, a2⟩ := hp272; obtain ⟨b1, b2⟩ := (⟨by decide, by decide⟩ : Rg 0 0 0); have f := i_eq c285; exact ⟨by omega, by omega⟩
                          have hG := g_pos c285 hG
                          refine lv_iconst (v := 0) hx hb d_X11_reads_255 (by decide) ?_
                          exact r_zret X hr hlocks hw hS rfl ⟨⟨hI276, hK281, (rg_w (⟨by decide, by decide⟩ : Rg 0 0 0) (by decide) (by decide)), (hm283.trans hg0.symm)⟩, hG.trans eRR.symm⟩ d_X11_reads_256
                      · have f327 := i_eq c269
                        have r328 : Rg x259 0 0 := by obtain ⟨a1, a2⟩ := hp258; obtain ⟨b1, b2⟩ := (⟨by decide, by decide⟩ : Rg 0 0 0); have f := i_eq c269; exact ⟨by omega, by omega⟩
                        have hG := g_pos c269 hG
                        refine lv_aload_n hx hb d_X11_reads_238 rfl (lv_at hl 2 rfl) ?_
                        refine lv_bipush (v := 62) hx hb d_X11_reads_239 (by decide) ?_
                        refine r_ci (r_runV (n := 1) (As := [.int 62]) (rest := []) X hw (ct_X11_takes_400 l D dA ad v260 hI262 62) gc_X11_205 (rfl : KD 400 = _) (by decide) rfl (by decide +kernel) ⟨rfl, rfl, Nat.le_of_ble_eq_true rfl, Nat.le_of_ble_eq_true rfl⟩ rfl hl.1 rfl (Nat.le_of_ble_eq_true rfl) ⟨Nat.zero_le _, Nat.zero_le _⟩ d_X11_reads_241) hS (fun x330 v331 H locs hp329 hw hS => ?_)
                        obtain ⟨hp329, hE332⟩ := hp329
                        obtain ⟨hI333, hK334, hp329, hk335, hF336⟩ := hp329
                        have hK337 : Kp (kp_X11_reads_400 od) v v331 := Kp.tr hK266 hK334 (by have z0 : (0 : Int32).toInt = 0 := rfl; intro a j; unfold kp_X11_reads_400 kp_X11_takes_400; omega)
                        have hm338 : v331 438 (od.toNatClampNeg) = m0 := (hF336 438 (od.toNatClampNeg) (by decide)).trans hm267
                        have hm339 : v331 400 (34) = g0 := hk335.trans hm268
                        have hG := bnd2_use hE332 hG
                        refine lv_if_eq (tgt := 255) hx hb d_X11_reads_244 (by decide) (fun c340 => ?_) (fun c340 => ?_)
                        · have f341 := i_eq c340
                          have r342 : Rg x330 0 0 := by obtain ⟨a1, a2⟩ := hp329; obtain ⟨b1, b2⟩ := (⟨by decide, by decide⟩ : Rg 0 0 0); have f := i_eq c340; exact ⟨by omega, by omega⟩
                          have hG := g_pos c340 hG
                          refine lv_iconst (v := 0) hx hb d_X11_reads_255 (by decide) ?_
                          exact r_zret X hr hlocks hw hS rfl ⟨⟨hI333, hK337, (rg_w (⟨by decide, by decide⟩ : Rg 0 0 0) (by decide) (by decide)), (hm339.trans hg0.symm)⟩, hG.trans eRR.symm⟩ d_X11_reads_256
                        · have f343 := i_ne c340
                          have r344 : Rg x330 1 1 := by obtain ⟨a1, a2⟩ := hp329; obtain ⟨b1, b2⟩ := (⟨by decide, by decide⟩ : Rg 0 0 0); have f := i_ne c340; exact ⟨by omega, by omega⟩
                          have hG := g_neg c340 hG
                          refine lv_aload_n hx hb d_X11_reads_247 rfl (lv_at hl 2 rfl) ?_
                          refine lv_iconst (v := 3) hx hb d_X11_reads_248 (by decide) ?_
                          refine r_ci (r_runV (n := 1) (As := [.int 3]) (rest := []) X hw (ct_X11_takesNumber_3 l D dA ad v331 hI333 3 (⟨by decide, by decide⟩ : Rg 3 3 3)) gc_X11_211 (rfl : KD 400 = _) (by decide) rfl (by decide +kernel) ⟨rfl, rfl, Nat.le_of_ble_eq_true rfl, Nat.le_of_ble_eq_true rfl⟩ rfl hl.1 rfl (Nat.le_of_ble_eq_true rfl) ⟨Nat.zero_le _, Nat.zero_le _⟩ d_X11_reads_249) hS (fun x346 v347 H locs hp345 hw hS => ?_)
                          obtain ⟨hp345, hE348⟩ := hp345
                          obtain ⟨hI349, hK350, hp345, hk351, hF352, hx353⟩ := hp345
                          have hK354 : Kp (kp_X11_reads_400 od) v v347 := Kp.tr hK337 hK350 (by have z0 : (0 : Int32).toInt = 0 := rfl; intro a j; unfold kp_X11_reads_400 kp_X11_takesNumber_3; omega)
                          have hm355 : v347 438 (od.toNatClampNeg) = m0 := (hF352 438 (od.toNatClampNeg) (by decide)).trans hm338
                          have hm356 : v347 400 (34) = g0 := hk351.trans hm339
                          obtain ⟨x357, ex357⟩ : ∃ z, v347 400 43 = z := ⟨_, rfl⟩
                          rw [ex357] at hx353
                          have hG := bnd2_use hE348 hG
                          have hG := bnd_use ex357.symm hG
                          refine lv_if_ne (tgt := 257) hx hb d_X11_reads_252 (by decide) (fun c358 => ?_) (fun c358 => ?_)
                          · have f359 := i_ne c358
                            have r360 : Rg x346 1 1 := by obtain ⟨a1, a2⟩ := hp345; obtain ⟨b1, b2⟩ := (⟨by decide, by decide⟩ : Rg 0 0 0); have f := i_ne c358; exact ⟨by omega, by omega⟩
                            have hG := g_neg c358 hG
                            refine lv_aload_n hx hb d_X11_reads_257 rfl (lv_at hl 2 rfl) ?_
                            refine r_getr (r := 439) X hw FL_X11_105 (rfl : KD 400 = _) rfl d_X11_reads_258 ?_
                            refine lv_iload_n hx hb d_X11_reads_261 rfl (lv_at hl 0 rfl) ?_
                            refine lv_iload_n hx hb d_X11_reads_262 rfl (lv_at hl 1 rfl) ?_
                            refine r_iast X hw hS (rfl : KD 439 = _) (Rg.vp (b := 23) r96 (by decide)) rfl d_X11_reads_263 (fun H locs hw hS => ?_)
                            obtain ⟨v361, ev361⟩ : ∃ z, z = up2 v347 439 x95.toNatClampNeg x13 := ⟨_, rfl⟩
                            rw [← ev361] at hw
                            have hG := bnd_use ev361 hG
                            have hI362 : Inv v361 := by rw [ev361]; exact Inv.putr hI349 rfl hx9
                            have hK363 : Kp (kp_X11_reads_400 od) v v361 := by rw [ev361]; exact Kp.put hK354 _ (by unfold kp_X11_reads_400; omega)
                            have hm364 : v361 438 od.toNatClampNeg = m0 := by rw [ev361, up2_n _ _ (by omega)]; exact hm355
                            have hm365 : v361 400 34 = g0 := by rw [ev361, up2_n _ _ (by omega)]; exact hm356
                            have hm366 : v361 400 43 = x357 := by rw [ev361, up2_n _ _ (by omega)]; exact ex357
                            refine lv_aload_n hx hb d_X11_reads_264 rfl (lv_at hl 2 rfl) ?_
                            refine r_getr (r := 441) X hw FL_X11_112 (rfl : KD 400 = _) rfl d_X11_reads_265 ?_
                            refine lv_iload_n hx hb d_X11_reads_268 rfl (lv_at hl 0 rfl) ?_
                            refine lv_aload_n hx hb d_X11_reads_269 rfl (lv_at hl 2 rfl) ?_
                            refine r_geti X hw FL_X11_199 (rfl : KD 400 = _) rfl d_X11_reads_270 ?_
                            rw [hm366]
                            refine r_iast X hw hS (rfl : KD 441 = _) (Rg.vp (b := 23) r96 (by decide)) rfl d_X11_reads_273 (fun H locs hw hS => ?_)
                            obtain ⟨v367, ev367⟩ : ∃ z, z = up2 v361 441 x95.toNatClampNeg x357 := ⟨_, rfl⟩
                            rw [← ev367] at hw
                            have hG := bnd_use ev367 hG
                            have hI368 : Inv v367 := by rw [ev367]; exact Inv.put0 hI362 _ rfl
                            have hK369 : Kp (kp_X11_reads_400 od) v v367 := by rw [ev367]; exact Kp.put hK363 _ (by unfold kp_X11_reads_400; omega)
                            have hm370 : v367 438 od.toNatClampNeg = m0 := by rw [ev367, up2_n _ _ (by omega)]; exact hm364
                            have hm371 : v367 400 34 = g0 := by rw [ev367, up2_n _ _ (by omega)]; exact hm365
                            have hm372 : v367 400 43 = x357 := by rw [ev367, up2_n _ _ (by omega)]; exact hm366
                            refine lv_aload_n hx hb d_X11_reads_274 rfl (lv_at hl 2 rfl) ?_
                            refine r_getr (r := 438) X hw FL_X11_102 (rfl : KD 400 = _) rfl d_X11_reads_275 ?_
                            refine lv_iload_n hx hb d_X11_reads_278 rfl (lv_at hl 3 rfl) ?_
                            refine lv_dup2_11 hx hb d_X11_reads_279 rfl rfl ?_
                            refine r_iald X hw (rfl : KD 438 = _) (Rg.vp (b := 7) r_od (by decide)) rfl d_X11_reads_280 ?_
                            rw [hm370]
                            refine lv_iconst (v := 1) hx hb d_X11_reads_281 (by decide) ?_
                            refine lv_iadd hx hb d_X11_reads_282 ?_
                            refine lv_topi (fun x373 ex373 => ?_)
                            have hG := bnd_use ex373 hG
                            have r374 : Rg x373 1 3 := rg_add ex373 r29 (⟨by decide, by decide⟩ : Rg 1 1 1) (by decide) (by decide)
                            have s375 : x373.toInt = m0.toInt + (1 : Int32).toInt := by rw [ex373]; exact i_add (by obtain ⟨_, _⟩ := r29; obtain ⟨_, _⟩ := (⟨by decide, by decide⟩ : Rg 1 1 1); omega) (by obtain ⟨_, _⟩ := r29; obtain ⟨_, _⟩ := (⟨by decide, by decide⟩ : Rg 1 1 1); omega)
                            have s375l : (1 : Int32).toInt = 1 := rfl
                            refine r_iast X hw hS (rfl : KD 438 = _) (Rg.vp (b := 7) r_od (by decide)) rfl d_X11_reads_283 (fun H locs hw hS => ?_)
                            obtain ⟨v376, ev376⟩ : ∃ z, z = up2 v367 438 od.toNatClampNeg x373 := ⟨_, rfl⟩
                            rw [← ev376] at hw
                            have hG := bnd_use ev376 hG
                            have hI377 : Inv v376 := by rw [ev376]; exact Inv.putr hI368 rfl (rg_w r374 (by decide) (by decide))
                            have hK378 : Kp (kp_X11_reads_400 od) v v376 := by rw [ev376]; exact Kp.put hK369 _ (by unfold kp_X11_reads_400; omega)
                            have hm379 : v376 400 34 = g0 := by rw [ev376, up2_n _ _ (by omega)]; exact hm371
                            have hm380 : v376 400 43 = x357 := by rw [ev376, up2_n _ _ (by omega)]; exact hm372
                            have hm381 : v376 438 od.toNatClampNeg = x373 := by rw [ev376, up2_s]
                            refine lv_aload_n hx hb d_X11_reads_284 rfl (lv_at hl 2 rfl) ?_
                            refine lv_bipush (v := 44) hx hb d_X11_reads_285 (by decide) ?_
                            refine r_ci (r_runV (n := 1) (As := [.int 44]) (rest := []) X hw (ct_X11_takes_400 l D dA ad v376 hI377 44) gc_X11_205 (rfl : KD 400 = _) (by decide) rfl (by decide +kernel) ⟨rfl, rfl, Nat.le_of_ble_eq_true rfl, Nat.le_of_ble_eq_true rfl⟩ rfl hl.1 rfl (Nat.le_of_ble_eq_true rfl) ⟨Nat.zero_le _, Nat.zero_le _⟩ d_X11_reads_287) hS (fun x383 v384 H locs hp382 hw hS => ?_)
                            obtain ⟨hp382, hE385⟩ := hp382
                            obtain ⟨hI386, hK387, hp382, hk388, hF389⟩ := hp382
                            have hK390 : Kp (kp_X11_reads_400 od) v v384 := Kp.tr hK378 hK387 (by have z0 : (0 : Int32).toInt = 0 := rfl; intro a j; unfold kp_X11_reads_400 kp_X11_takes_400; omega)
                            have hm391 : v384 400 (34) = g0 := hk388.trans hm379
                            have hm392 : v384 438 (od.toNatClampNeg) = x373 := (hF389 438 (od.toNatClampNeg) (by decide)).trans hm381
                            have hG := bnd2_use hE385 hG
                            refine lv_if_ne (tgt := 295) hx hb d_X11_reads_290 (by decide) (fun c393 => ?_) (fun c393 => ?_)
                            · have f394 := i_ne c393
                              have r395 : Rg x383 1 1 := by obtain ⟨a1, a2⟩ := hp382; obtain ⟨b1, b2⟩ := (⟨by decide, by decide⟩ : Rg 0 0 0); have f := i_ne c393; exact ⟨by omega, by omega⟩
                              have hG := g_neg c393 hG
                              refine lv_goto (tgt := 123) hx hb d_X11_reads_295 (by decide) ?_
                              exact ih0 x373 v384 _ _ _ (by have := s94; have := s97; have := s375; obtain ⟨_, _⟩ := r374; omega) (rg_w r374 (by decide) (by decide)) hI386 hK390 hm392 hm391 hG hw hS (lv_sub hl [2, 3] rfl)
                            · have f396 := i_eq c393
                              have r397 : Rg x383 0 0 := by obtain ⟨a1, a2⟩ := hp382; obtain ⟨b1, b2⟩ := (⟨by decide, by decide⟩ : Rg 0 0 0); have f := i_eq c393; exact ⟨by omega, by omega⟩
                              have hG := g_pos c393 hG
                              refine lv_iconst (v := 0) hx hb d_X11_reads_293 (by decide) ?_
                              exact r_zret X hr hlocks hw hS rfl ⟨⟨hI386, hK390, (rg_w (⟨by decide, by decide⟩ : Rg 0 0 0) (by decide) (by decide)), (hm391.trans hg0.symm)⟩, hG.trans eRR.symm⟩ d_X11_reads_294
                          · have f398 := i_eq c358
                            have r399 : Rg x346 0 0 := by obtain ⟨a1, a2⟩ := hp345; obtain ⟨b1, b2⟩ := (⟨by decide, by decide⟩ : Rg 0 0 0); have f := i_eq c358; exact ⟨by omega, by omega⟩
                            have hG := g_pos c358 hG
                            refine lv_iconst (v := 0) hx hb d_X11_reads_255 (by decide) ?_
                            exact r_zret X hr hlocks hw hS rfl ⟨⟨hI349, hK354, (rg_w (⟨by decide, by decide⟩ : Rg 0 0 0) (by decide) (by decide)), (hm356.trans hg0.symm)⟩, hG.trans eRR.symm⟩ d_X11_reads_256
                  · have f400 := i_eq c89
                    have r401 : Rg x79 0 0 := by obtain ⟨a1, a2⟩ := hp78; obtain ⟨b1, b2⟩ := (⟨by decide, by decide⟩ : Rg 0 0 0); have f := i_eq c89; exact ⟨by omega, by omega⟩
                    have hG := g_pos c89 hG
                    refine lv_iconst (v := 0) hx hb d_X11_reads_204 (by decide) ?_
                    exact r_zret X hr hlocks hw hS rfl ⟨⟨hI82, hK86, (rg_w (⟨by decide, by decide⟩ : Rg 0 0 0) (by decide) (by decide)), (hm88.trans hg0.symm)⟩, hG.trans eRR.symm⟩ d_X11_reads_205
        · have f402 := i_eq c23
          have hG := g_pos c23 hG
          refine lv_aload_n hx hb d_X11_reads_149 rfl (lv_at hl 1 rfl) ?_
          refine r_getr (r := 442) X hw FL_X11_115 (rfl : KD 400 = _) rfl d_X11_reads_150 ?_
          refine lv_iload_n hx hb d_X11_reads_153 rfl (lv_at hl 2 rfl) ?_
          refine lv_iload_n hx hb d_X11_reads_154 rfl (lv_at hl 0 rfl) ?_
          refine r_iast X hw hS (rfl : KD 442 = _) (Rg.vp (b := 7) r_od (by decide)) rfl d_X11_reads_155 (fun H locs hw hS => ?_)
          obtain ⟨v403, ev403⟩ : ∃ z, z = up2 v3 442 od.toNatClampNeg x13 := ⟨_, rfl⟩
          rw [← ev403] at hw
          have hG := bnd_use ev403 hG
          have hI404 : Inv v403 := by rw [ev403]; exact Inv.putr hI5 rfl hx9
          have hK405 : Kp (kp_X11_reads_400 od) v v403 := by rw [ev403]; exact Kp.put hK10 _ (by unfold kp_X11_reads_400; omega)
          have hm406 : v403 438 od.toNatClampNeg = m0 := by rw [ev403, up2_n _ _ (by omega)]; exact hm11
          have hm407 : v403 400 34 = g0 := by rw [ev403, up2_n _ _ (by omega)]; exact hm12
          have hm408 : v403 400 43 = x13 := by rw [ev403, up2_n _ _ (by omega)]; exact ex13
          have hm409 : v403 400 42 = x17 := by rw [ev403, up2_n _ _ (by omega)]; exact hm19
          have hm410 : v403 400 33 = x20 := by rw [ev403, up2_n _ _ (by omega)]; exact hm22
          refine lv_iconst (v := 1) hx hb d_X11_reads_156 (by decide) ?_
          exact r_zret X hr hlocks hw hS rfl ⟨⟨hI404, hK405, (rg_w (⟨by decide, by decide⟩ : Rg 1 1 1) (by decide) (by decide)), (hm407.trans hg0.symm)⟩, hG.trans eRR.symm⟩ d_X11_reads_157
      · have f411 := i_eq c14
        have r412 : Rg x2 0 0 := by obtain ⟨a1, a2⟩ := hp1; obtain ⟨b1, b2⟩ := (⟨by decide, by decide⟩ : Rg 0 0 0); have f := i_eq c14; exact ⟨by omega, by omega⟩
        have hG := g_pos c14 hG
        refine lv_iconst (v := 0) hx hb d_X11_reads_131 (by decide) ?_
        exact r_zret X hr hlocks hw hS rfl ⟨⟨hI5, hK10, (rg_w (⟨by decide, by decide⟩ : Rg 0 0 0) (by decide) (by decide)), (hm12.trans hg0.symm)⟩, hG.trans eRR.symm⟩ d_X11_reads_132
  have ih0 := LL 100000
  have hK0 : Kp (kp_X11_reads_400 od) v v := Kp.rf _ v
  have hG := eRR
  unfold f_X11_reads_400 at hG
  have hG := bnd_use hg0.symm hG
  refine lv_aload_n hx hb d_X11_reads_0 rfl (lv_at hl 0 rfl) ?_
  refine lv_iconst (v := 0) hx hb d_X11_reads_1 (by decide) ?_
  refine r_put X hw hS FP_X11_193 (rfl : KD 400 = _) rfl ⟨rfl, rfl⟩ d_X11_reads_2 (fun H locs hw hS => ?_)
  obtain ⟨v413, ev413⟩ : ∃ z, z = up2 v 400 42 0 := ⟨_, rfl⟩
  rw [← ev413] at hw
  have hG := bnd_use ev413 hG
  have hI414 : Inv v413 := by rw [ev413]; exact Inv.putr hI rfl (rg_w (⟨by decide, by decide⟩ : Rg 0 0 0) (by decide) (by decide))
  have hK415 : Kp (kp_X11_reads_400 od) v v413 := by rw [ev413]; exact Kp.put hK0 _ (by unfold kp_X11_reads_400; omega)
  have hm416 : v413 400 34 = g0 := by rw [ev413, up2_n _ _ (by omega)]; exact hg0
  have hm417 : v413 400 42 = 0 := by rw [ev413, up2_s]
  refine lv_aload_n hx hb d_X11_reads_5 rfl (lv_at hl 0 rfl) ?_
  refine r_getr (r := 438) X hw FL_X11_102 (rfl : KD 400 = _) rfl d_X11_reads_6 ?_
  refine lv_iload_n hx hb d_X11_reads_9 rfl (lv_at hl 1 rfl) ?_
  refine lv_iconst (v := 0) hx hb d_X11_reads_10 (by decide) ?_
  refine r_iast X hw hS (rfl : KD 438 = _) (Rg.vp (b := 7) r_od (by decide)) rfl d_X11_reads_11 (fun H locs hw hS => ?_)
  obtain ⟨v418, ev418⟩ : ∃ z, z = up2 v413 438 od.toNatClampNeg 0 := ⟨_, rfl⟩
  rw [← ev418] at hw
  have hG := bnd_use ev418 hG
  have hI419 : Inv v418 := by rw [ev418]; exact Inv.putr hI414 rfl (rg_w (⟨by decide, by decide⟩ : Rg 0 0 0) (by decide) (by decide))
  have hK420 : Kp (kp_X11_reads_400 od) v v418 := by rw [ev418]; exact Kp.put hK415 _ (by unfold kp_X11_reads_400; omega)
  have hm421 : v418 400 34 = g0 := by rw [ev418, up2_n _ _ (by omega)]; exact hm416
  have hm422 : v418 400 42 = 0 := by rw [ev418, up2_n _ _ (by omega)]; exact hm417
  have hm423 : v418 438 od.toNatClampNeg = 0 := by rw [ev418, up2_s]
  refine lv_aload_n hx hb d_X11_reads_12 rfl (lv_at hl 0 rfl) ?_
  refine lv_bipush (v := 116) hx hb d_X11_reads_13 (by decide) ?_
  refine r_ci (r_runV (n := 1) (As := [.int 116]) (rest := []) X hw (ct_X11_takes_400 l D dA ad v418 hI419 116) gc_X11_205 (rfl : KD 400 = _) (by decide) rfl (by decide +kernel) ⟨rfl, rfl, Nat.le_of_ble_eq_true rfl, Nat.le_of_ble_eq_true rfl⟩ rfl hl.1 rfl (Nat.le_of_ble_eq_true rfl) ⟨Nat.zero_le _, Nat.zero_le _⟩ d_X11_reads_15) hS (fun x425 v426 H locs hp424 hw hS => ?_)
  obtain ⟨hp424, hE427⟩ := hp424
  obtain ⟨hI428, hK429, hp424, hk430, hF431⟩ := hp424
  have hK432 : Kp (kp_X11_reads_400 od) v v426 := Kp.tr hK420 hK429 (by have z0 : (0 : Int32).toInt = 0 := rfl; intro a j; unfold kp_X11_reads_400 kp_X11_takes_400; omega)
  have hm433 : v426 400 (34) = g0 := hk430.trans hm421
  have hm434 : v426 438 (od.toNatClampNeg) = 0 := (hF431 438 (od.toNatClampNeg) (by decide)).trans hm423
  have hG := bnd2_use hE427 hG
  refine lv_if_eq (tgt := 65) hx hb d_X11_reads_18 (by decide) (fun c435 => ?_) (fun c435 => ?_)
  · have f436 := i_eq c435
    have r437 : Rg x425 0 0 := by obtain ⟨a1, a2⟩ := hp424; obtain ⟨b1, b2⟩ := (⟨by decide, by decide⟩ : Rg 0 0 0); have f := i_eq c435; exact ⟨by omega, by omega⟩
    have hG := g_pos c435 hG
    refine lv_iconst (v := 0) hx hb d_X11_reads_65 (by decide) ?_
    exact r_zret X hr hlocks hw hS rfl ⟨⟨hI428, hK432, (rg_w (⟨by decide, by decide⟩ : Rg 0 0 0) (by decide) (by decide)), (hm433.trans hg0.symm)⟩, hG.trans eRR.symm⟩ d_X11_reads_66
  · have f438 := i_ne c435
    have r439 : Rg x425 1 1 := by obtain ⟨a1, a2⟩ := hp424; obtain ⟨b1, b2⟩ := (⟨by decide, by decide⟩ : Rg 0 0 0); have f := i_ne c435; exact ⟨by omega, by omega⟩
    have hG := g_neg c435 hG
    refine lv_aload_n hx hb d_X11_reads_21 rfl (lv_at hl 0 rfl) ?_
    refine lv_bipush (v := 117) hx hb d_X11_reads_22 (by decide) ?_
    refine r_ci (r_runV (n := 1) (As := [.int 117]) (rest := []) X hw (ct_X11_takes_400 l D dA ad v426 hI428 117) gc_X11_205 (rfl : KD 400 = _) (by decide) rfl (by decide +kernel) ⟨rfl, rfl, Nat.le_of_ble_eq_true rfl, Nat.le_of_ble_eq_true rfl⟩ rfl hl.1 rfl (Nat.le_of_ble_eq_true rfl) ⟨Nat.zero_le _, Nat.zero_le _⟩ d_X11_reads_24) hS (fun x441 v442 H locs hp440 hw hS => ?_)
    obtain ⟨hp440, hE443⟩ := hp440
    obtain ⟨hI444, hK445, hp440, hk446, hF447⟩ := hp440
    have hK448 : Kp (kp_X11_reads_400 od) v v442 := Kp.tr hK432 hK445 (by have z0 : (0 : Int32).toInt = 0 := rfl; intro a j; unfold kp_X11_reads_400 kp_X11_takes_400; omega)
    have hm449 : v442 400 (34) = g0 := hk446.trans hm433
    have hm450 : v442 438 (od.toNatClampNeg) = 0 := (hF447 438 (od.toNatClampNeg) (by decide)).trans hm434
    have hG := bnd2_use hE443 hG
    refine lv_if_eq (tgt := 65) hx hb d_X11_reads_27 (by decide) (fun c451 => ?_) (fun c451 => ?_)
    · have f452 := i_eq c451
      have r453 : Rg x441 0 0 := by obtain ⟨a1, a2⟩ := hp440; obtain ⟨b1, b2⟩ := (⟨by decide, by decide⟩ : Rg 0 0 0); have f := i_eq c451; exact ⟨by omega, by omega⟩
      have hG := g_pos c451 hG
      refine lv_iconst (v := 0) hx hb d_X11_reads_65 (by decide) ?_
      exact r_zret X hr hlocks hw hS rfl ⟨⟨hI444, hK448, (rg_w (⟨by decide, by decide⟩ : Rg 0 0 0) (by decide) (by decide)), (hm449.trans hg0.symm)⟩, hG.trans eRR.symm⟩ d_X11_reads_66
    · have f454 := i_ne c451
      have r455 : Rg x441 1 1 := by obtain ⟨a1, a2⟩ := hp440; obtain ⟨b1, b2⟩ := (⟨by decide, by decide⟩ : Rg 0 0 0); have f := i_ne c451; exact ⟨by omega, by omega⟩
      have hG := g_neg c451 hG
      refine lv_aload_n hx hb d_X11_reads_30 rfl (lv_at hl 0 rfl) ?_
      refine lv_bipush (v := 114) hx hb d_X11_reads_31 (by decide) ?_
      refine r_ci (r_runV (n := 1) (As := [.int 114]) (rest := []) X hw (ct_X11_takes_400 l D dA ad v442 hI444 114) gc_X11_205 (rfl : KD 400 = _) (by decide) rfl (by decide +kernel) ⟨rfl, rfl, Nat.le_of_ble_eq_true rfl, Nat.le_of_ble_eq_true rfl⟩ rfl hl.1 rfl (Nat.le_of_ble_eq_true rfl) ⟨Nat.zero_le _, Nat.zero_le _⟩ d_X11_reads_33) hS (fun x457 v458 H locs hp456 hw hS => ?_)
      obtain ⟨hp456, hE459⟩ := hp456
      obtain ⟨hI460, hK461, hp456, hk462, hF463⟩ := hp456
      have hK464 : Kp (kp_X11_reads_400 od) v v458 := Kp.tr hK448 hK461 (by have z0 : (0 : Int32).toInt = 0 := rfl; intro a j; unfold kp_X11_reads_400 kp_X11_takes_400; omega)
      have hm465 : v458 400 (34) = g0 := hk462.trans hm449
      have hm466 : v458 438 (od.toNatClampNeg) = 0 := (hF463 438 (od.toNatClampNeg) (by decide)).trans hm450
      have hG := bnd2_use hE459 hG
      refine lv_if_eq (tgt := 65) hx hb d_X11_reads_36 (by decide) (fun c467 => ?_) (fun c467 => ?_)
      · have f468 := i_eq c467
        have r469 : Rg x457 0 0 := by obtain ⟨a1, a2⟩ := hp456; obtain ⟨b1, b2⟩ := (⟨by decide, by decide⟩ : Rg 0 0 0); have f := i_eq c467; exact ⟨by omega, by omega⟩
        have hG := g_pos c467 hG
        refine lv_iconst (v := 0) hx hb d_X11_reads_65 (by decide) ?_
        exact r_zret X hr hlocks hw hS rfl ⟨⟨hI460, hK464, (rg_w (⟨by decide, by decide⟩ : Rg 0 0 0) (by decide) (by decide)), (hm465.trans hg0.symm)⟩, hG.trans eRR.symm⟩ d_X11_reads_66
      · have f470 := i_ne c467
        have r471 : Rg x457 1 1 := by obtain ⟨a1, a2⟩ := hp456; obtain ⟨b1, b2⟩ := (⟨by decide, by decide⟩ : Rg 0 0 0); have f := i_ne c467; exact ⟨by omega, by omega⟩
        have hG := g_neg c467 hG
        refine lv_aload_n hx hb d_X11_reads_39 rfl (lv_at hl 0 rfl) ?_
        refine lv_bipush (v := 110) hx hb d_X11_reads_40 (by decide) ?_
        refine r_ci (r_runV (n := 1) (As := [.int 110]) (rest := []) X hw (ct_X11_takes_400 l D dA ad v458 hI460 110) gc_X11_205 (rfl : KD 400 = _) (by decide) rfl (by decide +kernel) ⟨rfl, rfl, Nat.le_of_ble_eq_true rfl, Nat.le_of_ble_eq_true rfl⟩ rfl hl.1 rfl (Nat.le_of_ble_eq_true rfl) ⟨Nat.zero_le _, Nat.zero_le _⟩ d_X11_reads_42) hS (fun x473 v474 H locs hp472 hw hS => ?_)
        obtain ⟨hp472, hE475⟩ := hp472
        obtain ⟨hI476, hK477, hp472, hk478, hF479⟩ := hp472
        have hK480 : Kp (kp_X11_reads_400 od) v v474 := Kp.tr hK464 hK477 (by have z0 : (0 : Int32).toInt = 0 := rfl; intro a j; unfold kp_X11_reads_400 kp_X11_takes_400; omega)
        have hm481 : v474 400 (34) = g0 := hk478.trans hm465
        have hm482 : v474 438 (od.toNatClampNeg) = 0 := (hF479 438 (od.toNatClampNeg) (by decide)).trans hm466
        have hG := bnd2_use hE475 hG
        refine lv_if_eq (tgt := 65) hx hb d_X11_reads_45 (by decide) (fun c483 => ?_) (fun c483 => ?_)
        · have f484 := i_eq c483
          have r485 : Rg x473 0 0 := by obtain ⟨a1, a2⟩ := hp472; obtain ⟨b1, b2⟩ := (⟨by decide, by decide⟩ : Rg 0 0 0); have f := i_eq c483; exact ⟨by omega, by omega⟩
          have hG := g_pos c483 hG
          refine lv_iconst (v := 0) hx hb d_X11_reads_65 (by decide) ?_
          exact r_zret X hr hlocks hw hS rfl ⟨⟨hI476, hK480, (rg_w (⟨by decide, by decide⟩ : Rg 0 0 0) (by decide) (by decide)), (hm481.trans hg0.symm)⟩, hG.trans eRR.symm⟩ d_X11_reads_66
        · have f486 := i_ne c483
          have r487 : Rg x473 1 1 := by obtain ⟨a1, a2⟩ := hp472; obtain ⟨b1, b2⟩ := (⟨by decide, by decide⟩ : Rg 0 0 0); have f := i_ne c483; exact ⟨by omega, by omega⟩
          have hG := g_neg c483 hG
          refine lv_aload_n hx hb d_X11_reads_48 rfl (lv_at hl 0 rfl) ?_
          refine lv_bipush (v := 32) hx hb d_X11_reads_49 (by decide) ?_
          refine r_ci (r_runV (n := 1) (As := [.int 32]) (rest := []) X hw (ct_X11_takes_400 l D dA ad v474 hI476 32) gc_X11_205 (rfl : KD 400 = _) (by decide) rfl (by decide +kernel) ⟨rfl, rfl, Nat.le_of_ble_eq_true rfl, Nat.le_of_ble_eq_true rfl⟩ rfl hl.1 rfl (Nat.le_of_ble_eq_true rfl) ⟨Nat.zero_le _, Nat.zero_le _⟩ d_X11_reads_51) hS (fun x489 v490 H locs hp488 hw hS => ?_)
          obtain ⟨hp488, hE491⟩ := hp488
          obtain ⟨hI492, hK493, hp488, hk494, hF495⟩ := hp488
          have hK496 : Kp (kp_X11_reads_400 od) v v490 := Kp.tr hK480 hK493 (by have z0 : (0 : Int32).toInt = 0 := rfl; intro a j; unfold kp_X11_reads_400 kp_X11_takes_400; omega)
          have hm497 : v490 400 (34) = g0 := hk494.trans hm481
          have hm498 : v490 438 (od.toNatClampNeg) = 0 := (hF495 438 (od.toNatClampNeg) (by decide)).trans hm482
          have hG := bnd2_use hE491 hG
          refine lv_if_eq (tgt := 65) hx hb d_X11_reads_54 (by decide) (fun c499 => ?_) (fun c499 => ?_)
          · have f500 := i_eq c499
            have r501 : Rg x489 0 0 := by obtain ⟨a1, a2⟩ := hp488; obtain ⟨b1, b2⟩ := (⟨by decide, by decide⟩ : Rg 0 0 0); have f := i_eq c499; exact ⟨by omega, by omega⟩
            have hG := g_pos c499 hG
            refine lv_iconst (v := 0) hx hb d_X11_reads_65 (by decide) ?_
            exact r_zret X hr hlocks hw hS rfl ⟨⟨hI492, hK496, (rg_w (⟨by decide, by decide⟩ : Rg 0 0 0) (by decide) (by decide)), (hm497.trans hg0.symm)⟩, hG.trans eRR.symm⟩ d_X11_reads_66
          · have f502 := i_ne c499
            have r503 : Rg x489 1 1 := by obtain ⟨a1, a2⟩ := hp488; obtain ⟨b1, b2⟩ := (⟨by decide, by decide⟩ : Rg 0 0 0); have f := i_ne c499; exact ⟨by omega, by omega⟩
            have hG := g_neg c499 hG
            refine lv_aload_n hx hb d_X11_reads_57 rfl (lv_at hl 0 rfl) ?_
            refine lv_iload_n hx hb d_X11_reads_58 rfl (lv_at hl 1 rfl) ?_
            refine r_ci (r_runV (n := 1) (As := [.int od]) (rest := []) X hw (ct_X11_takesKey_400 l D dA ad v490 hI492 od r_od) gc_X11_208 (rfl : KD 400 = _) (by decide) rfl (by decide +kernel) ⟨rfl, rfl, Nat.le_of_ble_eq_true rfl, Nat.le_of_ble_eq_true rfl⟩ rfl hl.1 rfl (Nat.le_of_ble_eq_true rfl) ⟨Nat.zero_le _, Nat.zero_le _⟩ d_X11_reads_59) hS (fun x505 v506 H locs hp504 hw hS => ?_)
            obtain ⟨hp504, hE507⟩ := hp504
            obtain ⟨hI508, hK509, hp504, hk510⟩ := hp504
            have hK511 : Kp (kp_X11_reads_400 od) v v506 := Kp.tr hK496 hK509 (by have z0 : (0 : Int32).toInt = 0 := rfl; intro a j; unfold kp_X11_reads_400 kp_X11_takesKey_400; omega)
            have hm512 : v506 400 (34) = g0 := hk510.trans hm497
            have hG := bnd2_use hE507 hG
            refine lv_if_ne (tgt := 67) hx hb d_X11_reads_62 (by decide) (fun c513 => ?_) (fun c513 => ?_)
            · have f514 := i_ne c513
              have r515 : Rg x505 1 1 := by obtain ⟨a1, a2⟩ := hp504; obtain ⟨b1, b2⟩ := (⟨by decide, by decide⟩ : Rg 0 0 0); have f := i_ne c513; exact ⟨by omega, by omega⟩
              have hG := g_neg c513 hG
              refine lv_aload_n hx hb d_X11_reads_67 rfl (lv_at hl 0 rfl) ?_
              refine lv_bipush (v := 59) hx hb d_X11_reads_68 (by decide) ?_
              refine r_ci (r_runV (n := 1) (As := [.int 59]) (rest := []) X hw (ct_X11_takes_400 l D dA ad v506 hI508 59) gc_X11_205 (rfl : KD 400 = _) (by decide) rfl (by decide +kernel) ⟨rfl, rfl, Nat.le_of_ble_eq_true rfl, Nat.le_of_ble_eq_true rfl⟩ rfl hl.1 rfl (Nat.le_of_ble_eq_true rfl) ⟨Nat.zero_le _, Nat.zero_le _⟩ d_X11_reads_70) hS (fun x517 v518 H locs hp516 hw hS => ?_)
              obtain ⟨hp516, hE519⟩ := hp516
              obtain ⟨hI520, hK521, hp516, hk522, hF523⟩ := hp516
              have hK524 : Kp (kp_X11_reads_400 od) v v518 := Kp.tr hK511 hK521 (by have z0 : (0 : Int32).toInt = 0 := rfl; intro a j; unfold kp_X11_reads_400 kp_X11_takes_400; omega)
              have hm525 : v518 400 (34) = g0 := hk522.trans hm512
              have hG := bnd2_use hE519 hG
              refine lv_if_eq (tgt := 121) hx hb d_X11_reads_73 (by decide) (fun c526 => ?_) (fun c526 => ?_)
              · have f527 := i_eq c526
                have r528 : Rg x517 0 0 := by obtain ⟨a1, a2⟩ := hp516; obtain ⟨b1, b2⟩ := (⟨by decide, by decide⟩ : Rg 0 0 0); have f := i_eq c526; exact ⟨by omega, by omega⟩
                have hG := g_pos c526 hG
                refine lv_iconst (v := 0) hx hb d_X11_reads_121 (by decide) ?_
                exact r_zret X hr hlocks hw hS rfl ⟨⟨hI520, hK524, (rg_w (⟨by decide, by decide⟩ : Rg 0 0 0) (by decide) (by decide)), (hm525.trans hg0.symm)⟩, hG.trans eRR.symm⟩ d_X11_reads_122
              · have f529 := i_ne c526
                have r530 : Rg x517 1 1 := by obtain ⟨a1, a2⟩ := hp516; obtain ⟨b1, b2⟩ := (⟨by decide, by decide⟩ : Rg 0 0 0); have f := i_ne c526; exact ⟨by omega, by omega⟩
                have hG := g_neg c526 hG
                refine lv_aload_n hx hb d_X11_reads_76 rfl (lv_at hl 0 rfl) ?_
                refine lv_bipush (v := 115) hx hb d_X11_reads_77 (by decide) ?_
                refine r_ci (r_runV (n := 1) (As := [.int 115]) (rest := []) X hw (ct_X11_takes_400 l D dA ad v518 hI520 115) gc_X11_205 (rfl : KD 400 = _) (by decide) rfl (by decide +kernel) ⟨rfl, rfl, Nat.le_of_ble_eq_true rfl, Nat.le_of_ble_eq_true rfl⟩ rfl hl.1 rfl (Nat.le_of_ble_eq_true rfl) ⟨Nat.zero_le _, Nat.zero_le _⟩ d_X11_reads_79) hS (fun x532 v533 H locs hp531 hw hS => ?_)
                obtain ⟨hp531, hE534⟩ := hp531
                obtain ⟨hI535, hK536, hp531, hk537, hF538⟩ := hp531
                have hK539 : Kp (kp_X11_reads_400 od) v v533 := Kp.tr hK524 hK536 (by have z0 : (0 : Int32).toInt = 0 := rfl; intro a j; unfold kp_X11_reads_400 kp_X11_takes_400; omega)
                have hm540 : v533 400 (34) = g0 := hk537.trans hm525
                have hG := bnd2_use hE534 hG
                refine lv_if_eq (tgt := 121) hx hb d_X11_reads_82 (by decide) (fun c541 => ?_) (fun c541 => ?_)
                · have f542 := i_eq c541
                  have r543 : Rg x532 0 0 := by obtain ⟨a1, a2⟩ := hp531; obtain ⟨b1, b2⟩ := (⟨by decide, by decide⟩ : Rg 0 0 0); have f := i_eq c541; exact ⟨by omega, by omega⟩
                  have hG := g_pos c541 hG
                  refine lv_iconst (v := 0) hx hb d_X11_reads_121 (by decide) ?_
                  exact r_zret X hr hlocks hw hS rfl ⟨⟨hI535, hK539, (rg_w (⟨by decide, by decide⟩ : Rg 0 0 0) (by decide) (by decide)), (hm540.trans hg0.symm)⟩, hG.trans eRR.symm⟩ d_X11_reads_122
                · have f544 := i_ne c541
                  have r545 : Rg x532 1 1 := by obtain ⟨a1, a2⟩ := hp531; obtain ⟨b1, b2⟩ := (⟨by decide, by decide⟩ : Rg 0 0 0); have f := i_ne c541; exact ⟨by omega, by omega⟩
                  have hG := g_neg c541 hG
                  refine lv_aload_n hx hb d_X11_reads_85 rfl (lv_at hl 0 rfl) ?_
                  refine lv_bipush (v := 101) hx hb d_X11_reads_86 (by decide) ?_
                  refine r_ci (r_runV (n := 1) (As := [.int 101]) (rest := []) X hw (ct_X11_takes_400 l D dA ad v533 hI535 101) gc_X11_205 (rfl : KD 400 = _) (by decide) rfl (by decide +kernel) ⟨rfl, rfl, Nat.le_of_ble_eq_true rfl, Nat.le_of_ble_eq_true rfl⟩ rfl hl.1 rfl (Nat.le_of_ble_eq_true rfl) ⟨Nat.zero_le _, Nat.zero_le _⟩ d_X11_reads_88) hS (fun x547 v548 H locs hp546 hw hS => ?_)
                  obtain ⟨hp546, hE549⟩ := hp546
                  obtain ⟨hI550, hK551, hp546, hk552, hF553⟩ := hp546
                  have hK554 : Kp (kp_X11_reads_400 od) v v548 := Kp.tr hK539 hK551 (by have z0 : (0 : Int32).toInt = 0 := rfl; intro a j; unfold kp_X11_reads_400 kp_X11_takes_400; omega)
                  have hm555 : v548 400 (34) = g0 := hk552.trans hm540
                  have hG := bnd2_use hE549 hG
                  refine lv_if_eq (tgt := 121) hx hb d_X11_reads_91 (by decide) (fun c556 => ?_) (fun c556 => ?_)
                  · have f557 := i_eq c556
                    have r558 : Rg x547 0 0 := by obtain ⟨a1, a2⟩ := hp546; obtain ⟨b1, b2⟩ := (⟨by decide, by decide⟩ : Rg 0 0 0); have f := i_eq c556; exact ⟨by omega, by omega⟩
                    have hG := g_pos c556 hG
                    refine lv_iconst (v := 0) hx hb d_X11_reads_121 (by decide) ?_
                    exact r_zret X hr hlocks hw hS rfl ⟨⟨hI550, hK554, (rg_w (⟨by decide, by decide⟩ : Rg 0 0 0) (by decide) (by decide)), (hm555.trans hg0.symm)⟩, hG.trans eRR.symm⟩ d_X11_reads_122
                  · have f559 := i_ne c556
                    have r560 : Rg x547 1 1 := by obtain ⟨a1, a2⟩ := hp546; obtain ⟨b1, b2⟩ := (⟨by decide, by decide⟩ : Rg 0 0 0); have f := i_ne c556; exact ⟨by omega, by omega⟩
                    have hG := g_neg c556 hG
                    refine lv_aload_n hx hb d_X11_reads_94 rfl (lv_at hl 0 rfl) ?_
                    refine lv_bipush (v := 108) hx hb d_X11_reads_95 (by decide) ?_
                    refine r_ci (r_runV (n := 1) (As := [.int 108]) (rest := []) X hw (ct_X11_takes_400 l D dA ad v548 hI550 108) gc_X11_205 (rfl : KD 400 = _) (by decide) rfl (by decide +kernel) ⟨rfl, rfl, Nat.le_of_ble_eq_true rfl, Nat.le_of_ble_eq_true rfl⟩ rfl hl.1 rfl (Nat.le_of_ble_eq_true rfl) ⟨Nat.zero_le _, Nat.zero_le _⟩ d_X11_reads_97) hS (fun x562 v563 H locs hp561 hw hS => ?_)
                    obtain ⟨hp561, hE564⟩ := hp561
                    obtain ⟨hI565, hK566, hp561, hk567, hF568⟩ := hp561
                    have hK569 : Kp (kp_X11_reads_400 od) v v563 := Kp.tr hK554 hK566 (by have z0 : (0 : Int32).toInt = 0 := rfl; intro a j; unfold kp_X11_reads_400 kp_X11_takes_400; omega)
                    have hm570 : v563 400 (34) = g0 := hk567.trans hm555
                    have hG := bnd2_use hE564 hG
                    refine lv_if_eq (tgt := 121) hx hb d_X11_reads_100 (by decide) (fun c571 => ?_) (fun c571 => ?_)
                    · have f572 := i_eq c571
                      have r573 : Rg x562 0 0 := by obtain ⟨a1, a2⟩ := hp561; obtain ⟨b1, b2⟩ := (⟨by decide, by decide⟩ : Rg 0 0 0); have f := i_eq c571; exact ⟨by omega, by omega⟩
                      have hG := g_pos c571 hG
                      refine lv_iconst (v := 0) hx hb d_X11_reads_121 (by decide) ?_
                      exact r_zret X hr hlocks hw hS rfl ⟨⟨hI565, hK569, (rg_w (⟨by decide, by decide⟩ : Rg 0 0 0) (by decide) (by decide)), (hm570.trans hg0.symm)⟩, hG.trans eRR.symm⟩ d_X11_reads_122
                    · have f574 := i_ne c571
                      have r575 : Rg x562 1 1 := by obtain ⟨a1, a2⟩ := hp561; obtain ⟨b1, b2⟩ := (⟨by decide, by decide⟩ : Rg 0 0 0); have f := i_ne c571; exact ⟨by omega, by omega⟩
                      have hG := g_neg c571 hG
                      refine lv_aload_n hx hb d_X11_reads_103 rfl (lv_at hl 0 rfl) ?_
                      refine lv_bipush (v := 108) hx hb d_X11_reads_104 (by decide) ?_
                      refine r_ci (r_runV (n := 1) (As := [.int 108]) (rest := []) X hw (ct_X11_takes_400 l D dA ad v563 hI565 108) gc_X11_205 (rfl : KD 400 = _) (by decide) rfl (by decide +kernel) ⟨rfl, rfl, Nat.le_of_ble_eq_true rfl, Nat.le_of_ble_eq_true rfl⟩ rfl hl.1 rfl (Nat.le_of_ble_eq_true rfl) ⟨Nat.zero_le _, Nat.zero_le _⟩ d_X11_reads_106) hS (fun x577 v578 H locs hp576 hw hS => ?_)
                      obtain ⟨hp576, hE579⟩ := hp576
                      obtain ⟨hI580, hK581, hp576, hk582, hF583⟩ := hp576
                      have hK584 : Kp (kp_X11_reads_400 od) v v578 := Kp.tr hK569 hK581 (by have z0 : (0 : Int32).toInt = 0 := rfl; intro a j; unfold kp_X11_reads_400 kp_X11_takes_400; omega)
                      have hm585 : v578 400 (34) = g0 := hk582.trans hm570
                      have hG := bnd2_use hE579 hG
                      refine lv_if_eq (tgt := 121) hx hb d_X11_reads_109 (by decide) (fun c586 => ?_) (fun c586 => ?_)
                      · have f587 := i_eq c586
                        have r588 : Rg x577 0 0 := by obtain ⟨a1, a2⟩ := hp576; obtain ⟨b1, b2⟩ := (⟨by decide, by decide⟩ : Rg 0 0 0); have f := i_eq c586; exact ⟨by omega, by omega⟩
                        have hG := g_pos c586 hG
                        refine lv_iconst (v := 0) hx hb d_X11_reads_121 (by decide) ?_
                        exact r_zret X hr hlocks hw hS rfl ⟨⟨hI580, hK584, (rg_w (⟨by decide, by decide⟩ : Rg 0 0 0) (by decide) (by decide)), (hm585.trans hg0.symm)⟩, hG.trans eRR.symm⟩ d_X11_reads_122
                      · have f589 := i_ne c586
                        have r590 : Rg x577 1 1 := by obtain ⟨a1, a2⟩ := hp576; obtain ⟨b1, b2⟩ := (⟨by decide, by decide⟩ : Rg 0 0 0); have f := i_ne c586; exact ⟨by omega, by omega⟩
                        have hG := g_neg c586 hG
                        refine lv_aload_n hx hb d_X11_reads_112 rfl (lv_at hl 0 rfl) ?_
                        refine lv_bipush (v := 32) hx hb d_X11_reads_113 (by decide) ?_
                        refine r_ci (r_runV (n := 1) (As := [.int 32]) (rest := []) X hw (ct_X11_takes_400 l D dA ad v578 hI580 32) gc_X11_205 (rfl : KD 400 = _) (by decide) rfl (by decide +kernel) ⟨rfl, rfl, Nat.le_of_ble_eq_true rfl, Nat.le_of_ble_eq_true rfl⟩ rfl hl.1 rfl (Nat.le_of_ble_eq_true rfl) ⟨Nat.zero_le _, Nat.zero_le _⟩ d_X11_reads_115) hS (fun x592 v593 H locs hp591 hw hS => ?_)
                        obtain ⟨hp591, hE594⟩ := hp591
                        obtain ⟨hI595, hK596, hp591, hk597, hF598⟩ := hp591
                        have hK599 : Kp (kp_X11_reads_400 od) v v593 := Kp.tr hK584 hK596 (by have z0 : (0 : Int32).toInt = 0 := rfl; intro a j; unfold kp_X11_reads_400 kp_X11_takes_400; omega)
                        have hm600 : v593 400 (34) = g0 := hk597.trans hm585
                        have hG := bnd2_use hE594 hG
                        refine lv_if_ne (tgt := 123) hx hb d_X11_reads_118 (by decide) (fun c601 => ?_) (fun c601 => ?_)
                        · have f602 := i_ne c601
                          have r603 : Rg x592 1 1 := by obtain ⟨a1, a2⟩ := hp591; obtain ⟨b1, b2⟩ := (⟨by decide, by decide⟩ : Rg 0 0 0); have f := i_ne c601; exact ⟨by omega, by omega⟩
                          have hG := g_neg c601 hG
                          obtain ⟨x604, ex604⟩ : ∃ z, v593 438 (od.toNatClampNeg) = z := ⟨_, rfl⟩
                          have r605 : Rg x604 0 3 := by rw [← ex604]; exact hI595 _ _ _ _ rfl
                          exact ih0 x604 v593 _ _ _ (by obtain ⟨_, _⟩ := r605; omega) r605 hI595 hK599 ex604 hm600 hG hw hS (lv_sub hl [0, 1] rfl)
                        · have f606 := i_eq c601
                          have r607 : Rg x592 0 0 := by obtain ⟨a1, a2⟩ := hp591; obtain ⟨b1, b2⟩ := (⟨by decide, by decide⟩ : Rg 0 0 0); have f := i_eq c601; exact ⟨by omega, by omega⟩
                          have hG := g_pos c601 hG
                          refine lv_iconst (v := 0) hx hb d_X11_reads_121 (by decide) ?_
                          exact r_zret X hr hlocks hw hS rfl ⟨⟨hI595, hK599, (rg_w (⟨by decide, by decide⟩ : Rg 0 0 0) (by decide) (by decide)), (hm600.trans hg0.symm)⟩, hG.trans eRR.symm⟩ d_X11_reads_122
            · have f608 := i_eq c513
              have r609 : Rg x505 0 0 := by obtain ⟨a1, a2⟩ := hp504; obtain ⟨b1, b2⟩ := (⟨by decide, by decide⟩ : Rg 0 0 0); have f := i_eq c513; exact ⟨by omega, by omega⟩
              have hG := g_pos c513 hG
              refine lv_iconst (v := 0) hx hb d_X11_reads_65 (by decide) ?_
              exact r_zret X hr hlocks hw hS rfl ⟨⟨hI508, hK511, (rg_w (⟨by decide, by decide⟩ : Rg 0 0 0) (by decide) (by decide)), (hm512.trans hg0.symm)⟩, hG.trans eRR.symm⟩ d_X11_reads_66
theorem d_X11_order_0 : decode c_X11_order 0 = .ok (.iload_n 1, 1) := by decide +kernel
theorem d_X11_order_1 : decode c_X11_order 1 = .ok (.iconst 0, 1) := by decide +kernel
theorem d_X11_order_2 : decode c_X11_order 2 = .ok (.sipush 999, 3) := by decide +kernel
theorem d_X11_order_5 : decode c_X11_order 5 = .ok (.invokestatic 169, 3) := by decide +kernel
theorem d_X11_order_8 : decode c_X11_order 8 = .ok (.ifCond .ne 6, 3) := by decide +kernel
theorem d_X11_order_11 : decode c_X11_order 11 = .ok (.bipush (-2), 2) := by decide +kernel
theorem d_X11_order_13 : decode c_X11_order 13 = .ok (.ireturn, 1) := by decide +kernel
theorem d_X11_order_14 : decode c_X11_order 14 = .ok (.aload_n 0, 1) := by decide +kernel
theorem d_X11_order_15 : decode c_X11_order 15 = .ok (.getfield 214, 3) := by decide +kernel
theorem d_X11_order_18 : decode c_X11_order 18 = .ok (.bipush 8, 2) := by decide +kernel
theorem d_X11_order_20 : decode c_X11_order 20 = .ok (.if_icmp .ne 6, 3) := by decide +kernel
theorem d_X11_order_23 : decode c_X11_order 23 = .ok (.bipush (-4), 2) := by decide +kernel
theorem d_X11_order_25 : decode c_X11_order 25 = .ok (.ireturn, 1) := by decide +kernel
theorem d_X11_order_26 : decode c_X11_order 26 = .ok (.aload_n 0, 1) := by decide +kernel
theorem d_X11_order_27 : decode c_X11_order 27 = .ok (.aload_n 0, 1) := by decide +kernel
theorem d_X11_order_28 : decode c_X11_order 28 = .ok (.getfield 214, 3) := by decide +kernel
theorem d_X11_order_31 : decode c_X11_order 31 = .ok (.invokevirtual 217, 3) := by decide +kernel
theorem d_X11_order_34 : decode c_X11_order 34 = .ok (.istore_n 2, 1) := by decide +kernel
theorem d_X11_order_35 : decode c_X11_order 35 = .ok (.aload_n 0, 1) := by decide +kernel
theorem d_X11_order_36 : decode c_X11_order 36 = .ok (.iconst 0, 1) := by decide +kernel
theorem d_X11_order_37 : decode c_X11_order 37 = .ok (.putfield 190, 3) := by decide +kernel
theorem d_X11_order_40 : decode c_X11_order 40 = .ok (.iload_n 2, 1) := by decide +kernel
theorem d_X11_order_41 : decode c_X11_order 41 = .ok (.ifCond .ne 11, 3) := by decide +kernel
theorem d_X11_order_44 : decode c_X11_order 44 = .ok (.bipush (-10), 2) := by decide +kernel
theorem d_X11_order_46 : decode c_X11_order 46 = .ok (.aload_n 0, 1) := by decide +kernel
theorem d_X11_order_47 : decode c_X11_order 47 = .ok (.getfield 193, 3) := by decide +kernel
theorem d_X11_order_50 : decode c_X11_order 50 = .ok (.isub, 1) := by decide +kernel
theorem d_X11_order_51 : decode c_X11_order 51 = .ok (.ireturn, 1) := by decide +kernel
theorem d_X11_order_52 : decode c_X11_order 52 = .ok (.aload_n 0, 1) := by decide +kernel
theorem d_X11_order_53 : decode c_X11_order 53 = .ok (.getfield 96, 3) := by decide +kernel
theorem d_X11_order_56 : decode c_X11_order 56 = .ok (.aload_n 0, 1) := by decide +kernel
theorem d_X11_order_57 : decode c_X11_order 57 = .ok (.getfield 214, 3) := by decide +kernel
theorem d_X11_order_60 : decode c_X11_order 60 = .ok (.iload_n 1, 1) := by decide +kernel
theorem d_X11_order_61 : decode c_X11_order 61 = .ok (.iastore, 1) := by decide +kernel
theorem d_X11_order_62 : decode c_X11_order 62 = .ok (.aload_n 0, 1) := by decide +kernel
theorem d_X11_order_63 : decode c_X11_order 63 = .ok (.dup, 1) := by decide +kernel
theorem d_X11_order_64 : decode c_X11_order 64 = .ok (.getfield 214, 3) := by decide +kernel
theorem d_X11_order_67 : decode c_X11_order 67 = .ok (.iconst 1, 1) := by decide +kernel
theorem d_X11_order_68 : decode c_X11_order 68 = .ok (.iadd, 1) := by decide +kernel
theorem d_X11_order_69 : decode c_X11_order 69 = .ok (.putfield 214, 3) := by decide +kernel
theorem d_X11_order_72 : decode c_X11_order 72 = .ok (.aload_n 0, 1) := by decide +kernel
theorem d_X11_order_73 : decode c_X11_order 73 = .ok (.getfield 214, 3) := by decide +kernel
theorem d_X11_order_76 : decode c_X11_order 76 = .ok (.iconst 1, 1) := by decide +kernel
theorem d_X11_order_77 : decode c_X11_order 77 = .ok (.isub, 1) := by decide +kernel
theorem d_X11_order_78 : decode c_X11_order 78 = .ok (.ireturn, 1) := by decide +kernel
def kp_X11_order_400 (dy : Int32) (a j : Nat) : Prop := (a ≠ 400 ∨ (j ≠ 42 ∧ j ≠ 43 ∧ j ≠ 33 ∧ j ≠ 34)) ∧ (a < 436 ∨ 443 ≤ a)
def f_X11_order_400 (v : tV) (dy : Int32) : Int32 × tV := (if (0 : Int32).toInt ≤ dy.toInt ∧ dy.toInt ≤ (999 : Int32).toInt then bnd (v 400 34) fun x7 => (if x7 = (8 : Int32) then ((-4 : Int32), v) else bnd2 (f_X11_reads_400 v x7) fun x14 v15 => bnd (up2 v15 400 33 0) fun v22 => (if x14 = (0 : Int32) then bnd (v22 400 42) fun x48 => bnd ((-10 : Int32) - x48) fun x51 => (x51, v22) else bnd (up2 v22 436 (x7.toNatClampNeg) dy) fun v30 => bnd (x7 + (1 : Int32)) fun x35 => bnd (up2 v30 400 34 x35) fun v38 => bnd (x35 - (1 : Int32)) fun x43 => (x43, v38))) else ((-2 : Int32), v))
set_option maxHeartbeats 4000000 in
set_option maxRecDepth 100000 in
theorem ct_X11_order_400 (l : Launch) (D : va_G) (dA : Nat → ClassId) (ad : Nat → Nat) (v : tV) (hI : Inv v) (dy : Int32) : Met l m_X11_order [.code m_X11_order c_X11_order 3 (some .int)] ({ frames := 5, cells := 0, slots := 0, locals := 126 } : Room) (tP D dA ad v [.ref (ad 400), .int dy]) (tQi D dA ad (fun r v' => (Inv v' ∧ Kp (kp_X11_order_400 dy) v v') ∧ (r, v') = f_X11_order_400 v dy)) 0 0 (tA ad) := by
  refine tMet (by decide) (Nat.le_of_ble_eq_true rfl) ?_
  intro p e s m below meth c ls X hr hlocks hw hl
  have X : CX p s m ([.ref (ad 400), .int dy] : List Value).toArray c c_X11_order N_X11 3 D dA := X
  have hx := X.1
  have hb := X.2.1
  have hS : va_S (tA ad) s.heap s.heap [] := va_S.rf
  have hl : lv_has ls 3 [(0, .ref (ad 400)), (1, .int dy)] := hl
  obtain ⟨RR, eRR⟩ : ∃ z, f_X11_order_400 v dy = z := ⟨_, rfl⟩
  have hK0 : Kp (kp_X11_order_400 dy) v v := Kp.rf _ v
  have hG := eRR
  unfold f_X11_order_400 at hG
  refine lv_iload_n hx hb d_X11_order_0 rfl (lv_at hl 1 rfl) ?_
  refine lv_iconst (v := 0) hx hb d_X11_order_1 (by decide) ?_
  refine lv_sipush (v := 999) hx hb d_X11_order_2 (by decide) ?_
  refine r_ci (r_runS (n := 3) (As := [.int dy, .int 0, .int 999]) (rest := []) X hw (ct_X11_in l D dA ad v hI dy 0 999) gc_X11_169 (by decide +kernel) ⟨rfl, rfl, Nat.le_of_ble_eq_true rfl, Nat.le_of_ble_eq_true rfl⟩ rfl hl.1 rfl (Nat.le_of_ble_eq_true rfl) ⟨Nat.zero_le _, Nat.zero_le _⟩ d_X11_order_5) hS (fun x2 v3 H locs hp1 hw hS => ?_)
  obtain ⟨ev3, hp1⟩ := hp1
  rw [ev3] at hw
  rcases hp1 with ⟨rfl, w4a, w4b⟩ | ⟨rfl, w4n⟩
  · skip
    have hG := g_pos ⟨w4a, w4b⟩ hG
    have r5 : Rg dy 0 999 := by obtain ⟨_, _⟩ := (rg_any dy); have : (0 : Int32).toInt = 0 := rfl; have : (999 : Int32).toInt = 999 := rfl; exact ⟨by omega, by omega⟩
    refine lv_if_ne (tgt := 14) hx hb d_X11_order_8 (by decide) (fun c6 => ?_) (fun c6 => ?_)
    · refine lv_aload_n hx hb d_X11_order_14 rfl (lv_at hl 0 rfl) ?_
      refine r_geti X hw FL_X11_214 (rfl : KD 400 = _) rfl d_X11_order_15 ?_
      refine lv_topi (fun x7 ex7 => ?_)
      have hG := bnd_use ex7 hG
      have r8 : Rg x7 0 8 := by rw [ex7]; exact hI _ _ _ _ rfl
      have hm9 : v 400 34 = x7 := ex7.symm
      refine lv_bipush (v := 8) hx hb d_X11_order_18 (by decide) ?_
      refine lv_icmp_ne (tgt := 26) hx hb d_X11_order_20 (by decide) (fun c10 => ?_) (fun c10 => ?_)
      · have f11 := i_ne c10
        have r12 : Rg x7 0 7 := by obtain ⟨a1, a2⟩ := r8; obtain ⟨b1, b2⟩ := (⟨by decide, by decide⟩ : Rg 8 8 8); have f := i_ne c10; exact ⟨by omega, by omega⟩
        have hG := g_neg c10 hG
        refine lv_aload_n hx hb d_X11_order_26 rfl (lv_at hl 0 rfl) ?_
        refine lv_aload_n hx hb d_X11_order_27 rfl (lv_at hl 0 rfl) ?_
        refine r_geti X hw FL_X11_214 (rfl : KD 400 = _) rfl d_X11_order_28 ?_
        rw [hm9]
        refine r_ci (r_runV (n := 1) (As := [.int x7]) (rest := []) X hw (ct_X11_reads_400 l D dA ad v hI x7 r12) gc_X11_217 (rfl : KD 400 = _) (by decide) rfl (by decide +kernel) ⟨rfl, rfl, Nat.le_of_ble_eq_true rfl, Nat.le_of_ble_eq_true rfl⟩ rfl hl.1 rfl (Nat.le_of_ble_eq_true rfl) ⟨Nat.zero_le _, Nat.zero_le _⟩ d_X11_order_31) hS (fun x14 v15 H locs hp13 hw hS => ?_)
        obtain ⟨hp13, hE16⟩ := hp13
        obtain ⟨hI17, hK18, hp13, hk19⟩ := hp13
        have hK20 : Kp (kp_X11_order_400 dy) v v15 := Kp.tr hK0 hK18 (by have z0 : (0 : Int32).toInt = 0 := rfl; intro a j; unfold kp_X11_order_400 kp_X11_reads_400; omega)
        have hm21 : v15 400 (34) = x7 := hk19.trans hm9
        have hG := bnd2_use hE16 hG
        refine lv_istore_n (lv' := [(2, .int x14), (0, .ref (ad 400)), (1, .int dy)]) hx hb d_X11_order_34 rfl hl (by decide) rfl (fun ls hl => ?_)
        refine lv_aload_n hx hb d_X11_order_35 rfl (lv_at hl 1 rfl) ?_
        refine lv_iconst (v := 0) hx hb d_X11_order_36 (by decide) ?_
        refine r_put X hw hS FP_X11_190 (rfl : KD 400 = _) rfl ⟨rfl, rfl⟩ d_X11_order_37 (fun H locs hw hS => ?_)
        obtain ⟨v22, ev22⟩ : ∃ z, z = up2 v15 400 33 0 := ⟨_, rfl⟩
        rw [← ev22] at hw
        have hG := bnd_use ev22 hG
        have hI23 : Inv v22 := by rw [ev22]; exact Inv.putr hI17 rfl (rg_w (⟨by decide, by decide⟩ : Rg 0 0 0) (by decide) (by decide))
        have hK24 : Kp (kp_X11_order_400 dy) v v22 := by rw [ev22]; exact Kp.put hK20 _ (by unfold kp_X11_order_400; omega)
        have hm25 : v22 400 34 = x7 := by rw [ev22, up2_n _ _ (by omega)]; exact hm21
        have hm26 : v22 400 33 = 0 := by rw [ev22, up2_s]
        refine lv_iload_n hx hb d_X11_order_40 rfl (lv_at hl 0 rfl) ?_
        refine lv_if_ne (tgt := 52) hx hb d_X11_order_41 (by decide) (fun c27 => ?_) (fun c27 => ?_)
        · have f28 := i_ne c27
          have r29 : Rg x14 1 1 := by obtain ⟨a1, a2⟩ := hp13; obtain ⟨b1, b2⟩ := (⟨by decide, by decide⟩ : Rg 0 0 0); have f := i_ne c27; exact ⟨by omega, by omega⟩
          have hG := g_neg c27 hG
          refine lv_aload_n hx hb d_X11_order_52 rfl (lv_at hl 1 rfl) ?_
          refine r_getr (r := 436) X hw FL_X11_96 (rfl : KD 400 = _) rfl d_X11_order_53 ?_
          refine lv_aload_n hx hb d_X11_order_56 rfl (lv_at hl 1 rfl) ?_
          refine r_geti X hw FL_X11_214 (rfl : KD 400 = _) rfl d_X11_order_57 ?_
          rw [hm25]
          refine lv_iload_n hx hb d_X11_order_60 rfl (lv_at hl 2 rfl) ?_
          refine r_iast X hw hS (rfl : KD 436 = _) (Rg.vp (b := 7) r12 (by decide)) rfl d_X11_order_61 (fun H locs hw hS => ?_)
          obtain ⟨v30, ev30⟩ : ∃ z, z = up2 v22 436 x7.toNatClampNeg dy := ⟨_, rfl⟩
          rw [← ev30] at hw
          have hG := bnd_use ev30 hG
          have hI31 : Inv v30 := by rw [ev30]; exact Inv.put0 hI23 _ rfl
          have hK32 : Kp (kp_X11_order_400 dy) v v30 := by rw [ev30]; exact Kp.put hK24 _ (by unfold kp_X11_order_400; omega)
          have hm33 : v30 400 34 = x7 := by rw [ev30, up2_n _ _ (by omega)]; exact hm25
          have hm34 : v30 400 33 = 0 := by rw [ev30, up2_n _ _ (by omega)]; exact hm26
          refine lv_aload_n hx hb d_X11_order_62 rfl (lv_at hl 1 rfl) ?_
          refine lv_dup hx hb d_X11_order_63 rfl ?_
          refine r_geti X hw FL_X11_214 (rfl : KD 400 = _) rfl d_X11_order_64 ?_
          rw [hm33]
          refine lv_iconst (v := 1) hx hb d_X11_order_67 (by decide) ?_
          refine lv_iadd hx hb d_X11_order_68 ?_
          refine lv_topi (fun x35 ex35 => ?_)
          have hG := bnd_use ex35 hG
          have r36 : Rg x35 1 8 := rg_add ex35 r12 (⟨by decide, by decide⟩ : Rg 1 1 1) (by decide) (by decide)
          have s37 : x35.toInt = x7.toInt + (1 : Int32).toInt := by rw [ex35]; exact i_add (by obtain ⟨_, _⟩ := r12; obtain ⟨_, _⟩ := (⟨by decide, by decide⟩ : Rg 1 1 1); omega) (by obtain ⟨_, _⟩ := r12; obtain ⟨_, _⟩ := (⟨by decide, by decide⟩ : Rg 1 1 1); omega)
          have s37l : (1 : Int32).toInt = 1 := rfl
          refine r_put X hw hS FP_X11_214 (rfl : KD 400 = _) rfl ⟨rfl, rfl⟩ d_X11_order_69 (fun H locs hw hS => ?_)
          obtain ⟨v38, ev38⟩ : ∃ z, z = up2 v30 400 34 x35 := ⟨_, rfl⟩
          rw [← ev38] at hw
          have hG := bnd_use ev38 hG
          have hI39 : Inv v38 := by rw [ev38]; exact Inv.putr hI31 rfl (rg_w r36 (by decide) (by decide))
          have hK40 : Kp (kp_X11_order_400 dy) v v38 := by rw [ev38]; exact Kp.put hK32 _ (by unfold kp_X11_order_400; omega)
          have hm41 : v38 400 33 = 0 := by rw [ev38, up2_n _ _ (by omega)]; exact hm34
          have hm42 : v38 400 34 = x35 := by rw [ev38, up2_s]
          refine lv_aload_n hx hb d_X11_order_72 rfl (lv_at hl 1 rfl) ?_
          refine r_geti X hw FL_X11_214 (rfl : KD 400 = _) rfl d_X11_order_73 ?_
          rw [hm42]
          refine lv_iconst (v := 1) hx hb d_X11_order_76 (by decide) ?_
          refine lv_isub hx hb d_X11_order_77 ?_
          refine lv_topi (fun x43 ex43 => ?_)
          have hG := bnd_use ex43 hG
          have r44 : Rg x43 0 7 := rg_sub ex43 r36 (⟨by decide, by decide⟩ : Rg 1 1 1) (by decide) (by decide)
          have s45 : x43.toInt = x35.toInt - (1 : Int32).toInt := by rw [ex43]; exact i_sub (by obtain ⟨_, _⟩ := r36; obtain ⟨_, _⟩ := (⟨by decide, by decide⟩ : Rg 1 1 1); omega) (by obtain ⟨_, _⟩ := r36; obtain ⟨_, _⟩ := (⟨by decide, by decide⟩ : Rg 1 1 1); omega)
          have s45l : (1 : Int32).toInt = 1 := rfl
          exact r_iret X hr hlocks hw hS ⟨⟨hI39, hK40⟩, hG.trans eRR.symm⟩ d_X11_order_78
        · have f46 := i_eq c27
          have r47 : Rg x14 0 0 := by obtain ⟨a1, a2⟩ := hp13; obtain ⟨b1, b2⟩ := (⟨by decide, by decide⟩ : Rg 0 0 0); have f := i_eq c27; exact ⟨by omega, by omega⟩
          have hG := g_pos c27 hG
          refine lv_bipush (v := -10) hx hb d_X11_order_44 (by decide) ?_
          refine lv_aload_n hx hb d_X11_order_46 rfl (lv_at hl 1 rfl) ?_
          refine r_geti X hw FL_X11_193 (rfl : KD 400 = _) rfl d_X11_order_47 ?_
          refine lv_topi (fun x48 ex48 => ?_)
          have hG := bnd_use ex48 hG
          have r49 : Rg x48 0 120 := by rw [ex48]; exact hI23 _ _ _ _ rfl
          have hm50 : v22 400 42 = x48 := ex48.symm
          refine lv_isub hx hb d_X11_order_50 ?_
          refine lv_topi (fun x51 ex51 => ?_)
          have hG := bnd_use ex51 hG
          have r52 : Rg x51 (-130) (-10) := rg_sub ex51 (⟨by decide, by decide⟩ : Rg (-10) (-10) (-10)) r49 (by decide) (by decide)
          have s53 : x51.toInt = (-10 : Int32).toInt - (x48 : Int32).toInt := by rw [ex51]; exact i_sub (by obtain ⟨_, _⟩ := (⟨by decide, by decide⟩ : Rg (-10) (-10) (-10)); obtain ⟨_, _⟩ := r49; omega) (by obtain ⟨_, _⟩ := (⟨by decide, by decide⟩ : Rg (-10) (-10) (-10)); obtain ⟨_, _⟩ := r49; omega)
          have s53a : (-10 : Int32).toInt = (-10) := rfl
          exact r_iret X hr hlocks hw hS ⟨⟨hI23, hK24⟩, hG.trans eRR.symm⟩ d_X11_order_51
      · have f54 := i_eq c10
        have r55 : Rg x7 8 8 := by obtain ⟨a1, a2⟩ := r8; obtain ⟨b1, b2⟩ := (⟨by decide, by decide⟩ : Rg 8 8 8); have f := i_eq c10; exact ⟨by omega, by omega⟩
        have hG := g_pos c10 hG
        refine lv_bipush (v := -4) hx hb d_X11_order_23 (by decide) ?_
        exact r_iret X hr hlocks hw hS ⟨⟨hI, hK0⟩, hG.trans eRR.symm⟩ d_X11_order_25
    · exact absurd c6 (by decide)
  · skip
    have hG := g_neg w4n hG
    refine lv_if_ne (tgt := 14) hx hb d_X11_order_8 (by decide) (fun c56 => ?_) (fun c56 => ?_)
    · exact absurd c56 (by decide)
    · refine lv_bipush (v := -2) hx hb d_X11_order_11 (by decide) ?_
      exact r_iret X hr hlocks hw hS ⟨⟨hI, hK0⟩, hG.trans eRR.symm⟩ d_X11_order_13
