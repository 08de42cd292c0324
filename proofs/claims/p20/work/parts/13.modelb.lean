theorem d_X11_has_0 : decode c_X11_has 0 = .ok (.aload_n 0, 1) := by decide +kernel
theorem d_X11_has_1 : decode c_X11_has 1 = .ok (.getfield 193, 3) := by decide +kernel
theorem d_X11_has_4 : decode c_X11_has 4 = .ok (.aload_n 0, 1) := by decide +kernel
theorem d_X11_has_5 : decode c_X11_has 5 = .ok (.getfield 190, 3) := by decide +kernel
theorem d_X11_has_8 : decode c_X11_has 8 = .ok (.if_icmp .ge 20, 3) := by decide +kernel
theorem d_X11_has_11 : decode c_X11_has 11 = .ok (.aload_n 0, 1) := by decide +kernel
theorem d_X11_has_12 : decode c_X11_has 12 = .ok (.getfield 92, 3) := by decide +kernel
theorem d_X11_has_15 : decode c_X11_has 15 = .ok (.aload_n 0, 1) := by decide +kernel
theorem d_X11_has_16 : decode c_X11_has 16 = .ok (.getfield 193, 3) := by decide +kernel
theorem d_X11_has_19 : decode c_X11_has 19 = .ok (.baload, 1) := by decide +kernel
theorem d_X11_has_20 : decode c_X11_has 20 = .ok (.iload_n 1, 1) := by decide +kernel
theorem d_X11_has_21 : decode c_X11_has 21 = .ok (.if_icmp .ne 7, 3) := by decide +kernel
theorem d_X11_has_24 : decode c_X11_has 24 = .ok (.iconst 1, 1) := by decide +kernel
theorem d_X11_has_25 : decode c_X11_has 25 = .ok (.goto 4, 3) := by decide +kernel
theorem d_X11_has_28 : decode c_X11_has 28 = .ok (.iconst 0, 1) := by decide +kernel
theorem d_X11_has_29 : decode c_X11_has 29 = .ok (.ireturn, 1) := by decide +kernel
set_option maxHeartbeats 4000000 in
set_option maxRecDepth 100000 in
theorem ct_X11_has_400 (l : Launch) (D : va_G) (dA : Nat → ClassId) (ad : Nat → Nat) (v : tV) (hI : Inv v) (bt : Int32) : Met l m_X11_has [.code m_X11_has c_X11_has 2 (some .boolean)] ({ frames := 1, cells := 0, slots := 0, locals := 40 } : Room) (tP D dA ad v [.ref (ad 400), .int bt]) (tQi D dA ad (fun r v' => v' = v ∧ ((r = 1 ∧ (v 400 42).toInt ≤ 119) ∨ r = 0))) 0 0 (tA ad) := by
  refine tMet (by decide) (Nat.le_of_ble_eq_true rfl) ?_
  intro p e s m below meth c ls X hr hlocks hw hl
  have X : CX p s m ([.ref (ad 400), .int bt] : List Value).toArray c c_X11_has N_X11 2 D dA := X
  have hx := X.1
  have hb := X.2.1
  have hS : va_S (tA ad) s.heap s.heap [] := va_S.rf
  have hl : lv_has ls 2 [(0, .ref (ad 400)), (1, .int bt)] := hl
  refine lv_aload_n hx hb d_X11_has_0 rfl (lv_at hl 0 rfl) ?_
  refine r_geti X hw FL_X11_193 (rfl : KD 400 = _) rfl d_X11_has_1 ?_
  refine lv_topi (fun x1 ex1 => ?_)
  have r2 : Rg x1 0 120 := by rw [ex1]; exact hI _ _ _ _ rfl
  have hm3 : v 400 42 = x1 := ex1.symm
  refine lv_aload_n hx hb d_X11_has_4 rfl (lv_at hl 0 rfl) ?_
  refine r_geti X hw FL_X11_190 (rfl : KD 400 = _) rfl d_X11_has_5 ?_
  refine lv_topi (fun x4 ex4 => ?_)
  have r5 : Rg x4 0 120 := by rw [ex4]; exact hI _ _ _ _ rfl
  have hm6 : v 400 33 = x4 := ex4.symm
  refine lv_icmp_ge (tgt := 28) hx hb d_X11_has_8 (by decide) (fun c7 => ?_) (fun c7 => ?_)
  · have f8 := i_le c7
    refine lv_iconst (v := 0) hx hb d_X11_has_28 (by decide) ?_
    exact r_zret X hr hlocks hw hS rfl ⟨rfl, Or.inr rfl⟩ d_X11_has_29
  · have f9 := i_nle c7
    have r10 : Rg x1 0 119 := by obtain ⟨a1, a2⟩ := r2; obtain ⟨b1, b2⟩ := r5; have f := i_nle c7; exact ⟨by omega, by omega⟩
    have r11 : Rg x4 1 120 := by obtain ⟨a1, a2⟩ := r2; obtain ⟨b1, b2⟩ := r5; have f := i_nle c7; exact ⟨by omega, by omega⟩
    refine lv_aload_n hx hb d_X11_has_11 rfl (lv_at hl 0 rfl) ?_
    refine r_getr (r := 433) X hw FL_X11_92 (rfl : KD 400 = _) rfl d_X11_has_12 ?_
    refine lv_aload_n hx hb d_X11_has_15 rfl (lv_at hl 0 rfl) ?_
    refine r_geti X hw FL_X11_193 (rfl : KD 400 = _) rfl d_X11_has_16 ?_
    rw [hm3]
    refine r_bald X hw (rfl : KD 433 = _) (Rg.vp (b := 119) r10 (by decide)) rfl d_X11_has_19 ?_
    refine lv_topi (fun x12 ex12 => ?_)
    refine lv_iload_n hx hb d_X11_has_20 rfl (lv_at hl 1 rfl) ?_
    refine lv_icmp_ne (tgt := 28) hx hb d_X11_has_21 (by decide) (fun c13 => ?_) (fun c13 => ?_)
    · have f14 := i_ne c13
      refine lv_iconst (v := 0) hx hb d_X11_has_28 (by decide) ?_
      exact r_zret X hr hlocks hw hS rfl ⟨rfl, Or.inr rfl⟩ d_X11_has_29
    · have f15 := i_eq c13
      refine lv_iconst (v := 1) hx hb d_X11_has_24 (by decide) ?_
      refine lv_goto (tgt := 29) hx hb d_X11_has_25 (by decide) ?_
      exact r_zret X hr hlocks hw hS rfl ⟨rfl, Or.inl ⟨rfl, by first | exact (r10).2 | (rw [hm3]; exact (r10).2)⟩⟩ d_X11_has_29
theorem d_X11_takes_0 : decode c_X11_takes 0 = .ok (.aload_n 0, 1) := by decide +kernel
theorem d_X11_takes_1 : decode c_X11_takes 1 = .ok (.iload_n 1, 1) := by decide +kernel
theorem d_X11_takes_2 : decode c_X11_takes 2 = .ok (.invokevirtual 196, 3) := by decide +kernel
theorem d_X11_takes_5 : decode c_X11_takes 5 = .ok (.ifCond .ne 5, 3) := by decide +kernel
theorem d_X11_takes_8 : decode c_X11_takes 8 = .ok (.iconst 0, 1) := by decide +kernel
theorem d_X11_takes_9 : decode c_X11_takes 9 = .ok (.ireturn, 1) := by decide +kernel
theorem d_X11_takes_10 : decode c_X11_takes 10 = .ok (.aload_n 0, 1) := by decide +kernel
theorem d_X11_takes_11 : decode c_X11_takes 11 = .ok (.dup, 1) := by decide +kernel
theorem d_X11_takes_12 : decode c_X11_takes 12 = .ok (.getfield 193, 3) := by decide +kernel
theorem d_X11_takes_15 : decode c_X11_takes 15 = .ok (.iconst 1, 1) := by decide +kernel
theorem d_X11_takes_16 : decode c_X11_takes 16 = .ok (.iadd, 1) := by decide +kernel
theorem d_X11_takes_17 : decode c_X11_takes 17 = .ok (.putfield 193, 3) := by decide +kernel
theorem d_X11_takes_20 : decode c_X11_takes 20 = .ok (.iconst 1, 1) := by decide +kernel
theorem d_X11_takes_21 : decode c_X11_takes 21 = .ok (.ireturn, 1) := by decide +kernel
set_option maxHeartbeats 4000000 in
set_option maxRecDepth 100000 in
theorem ct_X11_takes_400 (l : Launch) (D : va_G) (dA : Nat → ClassId) (ad : Nat → Nat) (v : tV) (hI : Inv v) (bt : Int32) : Met l m_X11_takes [.code m_X11_takes c_X11_takes 2 (some .boolean)] ({ frames := 2, cells := 0, slots := 0, locals := 61 } : Room) (tP D dA ad v [.ref (ad 400), .int bt]) (tQi D dA ad (fun r v' => Inv v' ∧ Kp v v' ∧ Rg r 0 1 ∧ v' 400 34 = v 400 34 ∧ (∀ a b, a ≠ 400 → v' a b = v a b))) 0 0 (tA ad) := by
  refine tMet (by decide) (Nat.le_of_ble_eq_true rfl) ?_
  intro p e s m below meth c ls X hr hlocks hw hl
  have X : CX p s m ([.ref (ad 400), .int bt] : List Value).toArray c c_X11_takes N_X11 2 D dA := X
  have hx := X.1
  have hb := X.2.1
  have hS : va_S (tA ad) s.heap s.heap [] := va_S.rf
  have hl : lv_has ls 2 [(0, .ref (ad 400)), (1, .int bt)] := hl
  obtain ⟨g0, hg0⟩ : ∃ g, v 400 34 = g := ⟨_, rfl⟩
  have r_g0 : Rg g0 0 8 := by rw [← hg0]; exact hI 400 34 _ _ rfl
  have hF0 : ∀ a b, a ≠ 400 → v a b = v a b := fun _ _ _ => rfl
  have hK0 : Kp v v := Kp.rf v
  refine lv_aload_n hx hb d_X11_takes_0 rfl (lv_at hl 0 rfl) ?_
  refine lv_iload_n hx hb d_X11_takes_1 rfl (lv_at hl 1 rfl) ?_
  refine r_ci (r_runV (n := 1) (As := [.int bt]) (rest := []) X hw (ct_X11_has_400 l D dA ad v hI bt) gc_X11_196 (rfl : KD 400 = _) (by decide) rfl (by decide +kernel) ⟨rfl, rfl, Nat.le_of_ble_eq_true rfl, Nat.le_of_ble_eq_true rfl⟩ rfl hl.1 rfl (Nat.le_of_ble_eq_true rfl) ⟨Nat.zero_le _, Nat.zero_le _⟩ d_X11_takes_2) hS (fun x2 v3 H locs hp1 hw hS => ?_)
  obtain ⟨ev3, hp1⟩ := hp1
  rw [ev3] at hw
  rcases hp1 with ⟨rfl, w4a⟩ | rfl
  · skip
    obtain ⟨x5, ex5⟩ : ∃ z, v 400 42 = z := ⟨_, rfl⟩
    have r6 : Rg x5 0 119 := by have q := hI 400 42 0 120 rfl; have z := w4a; rw [ex5] at q z; exact ⟨q.1, z⟩
    refine lv_if_ne (tgt := 10) hx hb d_X11_takes_5 (by decide) (fun c7 => ?_) (fun c7 => ?_)
    · refine lv_aload_n hx hb d_X11_takes_10 rfl (lv_at hl 0 rfl) ?_
      refine lv_dup hx hb d_X11_takes_11 rfl ?_
      refine r_geti X hw FL_X11_193 (rfl : KD 400 = _) rfl d_X11_takes_12 ?_
      rw [ex5]
      refine lv_iconst (v := 1) hx hb d_X11_takes_15 (by decide) ?_
      refine lv_iadd hx hb d_X11_takes_16 ?_
      refine lv_topi (fun x8 ex8 => ?_)
      have r9 : Rg x8 1 120 := rg_add ex8 r6 (⟨by decide, by decide⟩ : Rg 1 1 1) (by decide) (by decide)
      have s10 : x8.toInt = x5.toInt + (1 : Int32).toInt := by rw [ex8]; exact i_add (by obtain ⟨_, _⟩ := r6; obtain ⟨_, _⟩ := (⟨by decide, by decide⟩ : Rg 1 1 1); omega) (by obtain ⟨_, _⟩ := r6; obtain ⟨_, _⟩ := (⟨by decide, by decide⟩ : Rg 1 1 1); omega)
      have s10l : (1 : Int32).toInt = 1 := rfl
      refine r_put X hw hS FP_X11_193 (rfl : KD 400 = _) rfl ⟨rfl, rfl⟩ d_X11_takes_17 (fun H locs hw hS => ?_)
      obtain ⟨v11, ev11⟩ : ∃ z, z = up2 v 400 42 x8 := ⟨_, rfl⟩
      rw [← ev11] at hw
      have hI12 : Inv v11 := by rw [ev11]; exact Inv.putr hI rfl (rg_w r9 (by decide) (by decide))
      have hK13 : Kp v v11 := by rw [ev11]; exact Kp.put hK0 _ rfl
      have hF14 : ∀ a b, a ≠ 400 → v11 a b = v a b := fun a b h => (congrFun (congrFun ev11 a) b).trans ((up2_n _ _ (fun q => h q.1)).trans (hF0 a b h))
      have hm15 : v11 400 34 = g0 := by rw [ev11, up2_n _ _ (by omega)]; exact hg0
      have hm16 : v11 400 42 = x8 := by rw [ev11, up2_s]
      refine lv_iconst (v := 1) hx hb d_X11_takes_20 (by decide) ?_
      exact r_zret X hr hlocks hw hS rfl ⟨hI12, hK13, (rg_w (⟨by decide, by decide⟩ : Rg 1 1 1) (by decide) (by decide)), (hm15.trans hg0.symm), hF14⟩ d_X11_takes_21
    · exact absurd c7 (by decide)
  · skip
    refine lv_if_ne (tgt := 10) hx hb d_X11_takes_5 (by decide) (fun c17 => ?_) (fun c17 => ?_)
    · exact absurd c17 (by decide)
    · refine lv_iconst (v := 0) hx hb d_X11_takes_8 (by decide) ?_
      exact r_zret X hr hlocks hw hS rfl ⟨hI, hK0, (rg_w (⟨by decide, by decide⟩ : Rg 0 0 0) (by decide) (by decide)), (hg0.trans hg0.symm), hF0⟩ d_X11_takes_9
theorem d_X11_takesNumber_0 : decode c_X11_takesNumber 0 = .ok (.aload_n 0, 1) := by decide +kernel
theorem d_X11_takesNumber_1 : decode c_X11_takesNumber 1 = .ok (.iconst 0, 1) := by decide +kernel
theorem d_X11_takesNumber_2 : decode c_X11_takesNumber 2 = .ok (.putfield 199, 3) := by decide +kernel
theorem d_X11_takesNumber_5 : decode c_X11_takesNumber 5 = .ok (.iconst 0, 1) := by decide +kernel
theorem d_X11_takesNumber_6 : decode c_X11_takesNumber 6 = .ok (.istore_n 2, 1) := by decide +kernel
theorem d_X11_takesNumber_7 : decode c_X11_takesNumber 7 = .ok (.iload_n 2, 1) := by decide +kernel
theorem d_X11_takesNumber_8 : decode c_X11_takesNumber 8 = .ok (.iload_n 1, 1) := by decide +kernel
theorem d_X11_takesNumber_9 : decode c_X11_takesNumber 9 = .ok (.if_icmp .ge 69, 3) := by decide +kernel
theorem d_X11_takesNumber_12 : decode c_X11_takesNumber 12 = .ok (.aload_n 0, 1) := by decide +kernel
theorem d_X11_takesNumber_13 : decode c_X11_takesNumber 13 = .ok (.getfield 193, 3) := by decide +kernel
theorem d_X11_takesNumber_16 : decode c_X11_takesNumber 16 = .ok (.aload_n 0, 1) := by decide +kernel
theorem d_X11_takesNumber_17 : decode c_X11_takesNumber 17 = .ok (.getfield 190, 3) := by decide +kernel
theorem d_X11_takesNumber_20 : decode c_X11_takesNumber 20 = .ok (.if_icmp .ge 58, 3) := by decide +kernel
theorem d_X11_takesNumber_23 : decode c_X11_takesNumber 23 = .ok (.aload_n 0, 1) := by decide +kernel
theorem d_X11_takesNumber_24 : decode c_X11_takesNumber 24 = .ok (.getfield 92, 3) := by decide +kernel
theorem d_X11_takesNumber_27 : decode c_X11_takesNumber 27 = .ok (.aload_n 0, 1) := by decide +kernel
theorem d_X11_takesNumber_28 : decode c_X11_takesNumber 28 = .ok (.getfield 193, 3) := by decide +kernel
theorem d_X11_takesNumber_31 : decode c_X11_takesNumber 31 = .ok (.baload, 1) := by decide +kernel
theorem d_X11_takesNumber_32 : decode c_X11_takesNumber 32 = .ok (.invokestatic 202, 3) := by decide +kernel
theorem d_X11_takesNumber_35 : decode c_X11_takesNumber 35 = .ok (.ifCond .eq 43, 3) := by decide +kernel
theorem d_X11_takesNumber_38 : decode c_X11_takesNumber 38 = .ok (.aload_n 0, 1) := by decide +kernel
theorem d_X11_takesNumber_39 : decode c_X11_takesNumber 39 = .ok (.bipush 10, 2) := by decide +kernel
theorem d_X11_takesNumber_41 : decode c_X11_takesNumber 41 = .ok (.aload_n 0, 1) := by decide +kernel
theorem d_X11_takesNumber_42 : decode c_X11_takesNumber 42 = .ok (.getfield 199, 3) := by decide +kernel
theorem d_X11_takesNumber_45 : decode c_X11_takesNumber 45 = .ok (.imul, 1) := by decide +kernel
theorem d_X11_takesNumber_46 : decode c_X11_takesNumber 46 = .ok (.aload_n 0, 1) := by decide +kernel
theorem d_X11_takesNumber_47 : decode c_X11_takesNumber 47 = .ok (.getfield 92, 3) := by decide +kernel
theorem d_X11_takesNumber_50 : decode c_X11_takesNumber 50 = .ok (.aload_n 0, 1) := by decide +kernel
theorem d_X11_takesNumber_51 : decode c_X11_takesNumber 51 = .ok (.getfield 193, 3) := by decide +kernel
theorem d_X11_takesNumber_54 : decode c_X11_takesNumber 54 = .ok (.baload, 1) := by decide +kernel
theorem d_X11_takesNumber_55 : decode c_X11_takesNumber 55 = .ok (.iadd, 1) := by decide +kernel
theorem d_X11_takesNumber_56 : decode c_X11_takesNumber 56 = .ok (.bipush 48, 2) := by decide +kernel
theorem d_X11_takesNumber_58 : decode c_X11_takesNumber 58 = .ok (.isub, 1) := by decide +kernel
theorem d_X11_takesNumber_59 : decode c_X11_takesNumber 59 = .ok (.putfield 199, 3) := by decide +kernel
theorem d_X11_takesNumber_62 : decode c_X11_takesNumber 62 = .ok (.aload_n 0, 1) := by decide +kernel
theorem d_X11_takesNumber_63 : decode c_X11_takesNumber 63 = .ok (.dup, 1) := by decide +kernel
theorem d_X11_takesNumber_64 : decode c_X11_takesNumber 64 = .ok (.getfield 193, 3) := by decide +kernel
theorem d_X11_takesNumber_67 : decode c_X11_takesNumber 67 = .ok (.iconst 1, 1) := by decide +kernel
theorem d_X11_takesNumber_68 : decode c_X11_takesNumber 68 = .ok (.iadd, 1) := by decide +kernel
theorem d_X11_takesNumber_69 : decode c_X11_takesNumber 69 = .ok (.putfield 193, 3) := by decide +kernel
theorem d_X11_takesNumber_72 : decode c_X11_takesNumber 72 = .ok (.iinc 2 1, 3) := by decide +kernel
theorem d_X11_takesNumber_75 : decode c_X11_takesNumber 75 = .ok (.goto (-68), 3) := by decide +kernel
theorem d_X11_takesNumber_78 : decode c_X11_takesNumber 78 = .ok (.iload_n 2, 1) := by decide +kernel
theorem d_X11_takesNumber_79 : decode c_X11_takesNumber 79 = .ok (.ifCond .le 7, 3) := by decide +kernel
theorem d_X11_takesNumber_82 : decode c_X11_takesNumber 82 = .ok (.iconst 1, 1) := by decide +kernel
theorem d_X11_takesNumber_83 : decode c_X11_takesNumber 83 = .ok (.goto 4, 3) := by decide +kernel
theorem d_X11_takesNumber_86 : decode c_X11_takesNumber 86 = .ok (.iconst 0, 1) := by decide +kernel
theorem d_X11_takesNumber_87 : decode c_X11_takesNumber 87 = .ok (.ireturn, 1) := by decide +kernel
set_option maxHeartbeats 4000000 in
set_option maxRecDepth 100000 in
theorem ct_X11_takesNumber_2 (l : Launch) (D : va_G) (dA : Nat → ClassId) (ad : Nat → Nat) (v : tV) (hI : Inv v) (most : Int32) (r_most : Rg most 2 2) : Met l m_X11_takesNumber [.code m_X11_takesNumber c_X11_takesNumber 3 (some .boolean)] ({ frames := 2, cells := 0, slots := 0, locals := 60 } : Room) (tP D dA ad v [.ref (ad 400), .int most]) (tQi D dA ad (fun r v' => Inv v' ∧ Kp v v' ∧ Rg r 0 1 ∧ v' 400 34 = v 400 34 ∧ (∀ a b, a ≠ 400 → v' a b = v a b) ∧ Rg (v' 400 43) 0 99)) 0 0 (tA ad) := by
  refine tMet (by decide) (Nat.le_of_ble_eq_true rfl) ?_
  intro p e s m below meth c ls X hr hlocks hw hl
  have X : CX p s m ([.ref (ad 400), .int most] : List Value).toArray c c_X11_takesNumber N_X11 3 D dA := X
  have hx := X.1
  have hb := X.2.1
  have hS : va_S (tA ad) s.heap s.heap [] := va_S.rf
  have hl : lv_has ls 3 [(0, .ref (ad 400)), (1, .int most)] := hl
  obtain ⟨g0, hg0⟩ : ∃ g, v 400 34 = g := ⟨_, rfl⟩
  have r_g0 : Rg g0 0 8 := by rw [← hg0]; exact hI 400 34 _ _ rfl
  have hF0 : ∀ a b, a ≠ 400 → v a b = v a b := fun _ _ _ => rfl
  have LL : ∀ n : Nat, (∀ (y2 : Int32) (m0 : Int32) (v1 : tV) (H : Heap) (locs : List Loc) (ls : Array Slot), (2 - y2.toInt).toNat < n → Rg y2 0 2 → Rg m0 0 99 → Inv v1 → Kp v v1 → (∀ a b, a ≠ 400 → v1 a b = v a b) → v1 400 43 = m0 → v1 400 34 = g0 → (y2.toInt = 0 → m0.toInt = 0) ∧ (y2.toInt = 1 → m0.toInt ≤ 9) → tI D dA ad v1 H → va_S (tA ad) s.heap H locs → lv_has ls 3 [(0, .ref (ad 400)), (1, .int most), (2, .int y2)] → W p l e ({ frames := 2, cells := 0, slots := 0, locals := 60 } : Room) s m ([.ref (ad 400), .int most] : List Value).toArray below meth c H locs 0 0 (MQ below (tQi D dA ad (fun r v' => Inv v' ∧ Kp v v' ∧ Rg r 0 1 ∧ v' 400 34 = v 400 34 ∧ (∀ a b, a ≠ 400 → v' a b = v a b) ∧ Rg (v' 400 43) 0 99)) ([.ref (ad 400), .int most] : List Value).toArray s 0 0 (tA ad)) (F0 m 7 ls [])) := by
    intro n
    induction n with
    | zero => intros; omega
    | succ n ih =>
      have ih0 := ih
      intro y2 m0 v1 H locs ls hmu r_y2 r_m0 hI1 hK1 hF1 h_m0 hfx0 hex hw hS hl
      refine lv_iload_n hx hb d_X11_takesNumber_7 rfl (lv_at hl 2 rfl) ?_
      refine lv_iload_n hx hb d_X11_takesNumber_8 rfl (lv_at hl 1 rfl) ?_
      refine lv_icmp_ge (tgt := 78) hx hb d_X11_takesNumber_9 (by decide) (fun c1 => ?_) (fun c1 => ?_)
      · have f2 := i_le c1
        have r3 : Rg y2 2 2 := by obtain ⟨a1, a2⟩ := r_y2; obtain ⟨b1, b2⟩ := r_most; have f := i_le c1; exact ⟨by omega, by omega⟩
        refine lv_iload_n hx hb d_X11_takesNumber_78 rfl (lv_at hl 2 rfl) ?_
        refine lv_if_le (tgt := 86) hx hb d_X11_takesNumber_79 (by decide) (fun c4 => ?_) (fun c4 => ?_)
        · exfalso
          obtain ⟨a1, a2⟩ := r3; obtain ⟨b1, b2⟩ := (⟨by decide, by decide⟩ : Rg 0 0 0); have f := i_le c4; omega
        · have f5 := i_nle c4
          refine lv_iconst (v := 1) hx hb d_X11_takesNumber_82 (by decide) ?_
          refine lv_goto (tgt := 87) hx hb d_X11_takesNumber_83 (by decide) ?_
          exact r_zret X hr hlocks hw hS rfl ⟨hI1, hK1, (rg_w (⟨by decide, by decide⟩ : Rg 1 1 1) (by decide) (by decide)), (hfx0.trans hg0.symm), hF1, (by rw [h_m0]; exact r_m0)⟩ d_X11_takesNumber_87
      · have f6 := i_nle c1
        have r7 : Rg y2 0 1 := by obtain ⟨a1, a2⟩ := r_y2; obtain ⟨b1, b2⟩ := r_most; have f := i_nle c1; exact ⟨by omega, by omega⟩
        refine lv_aload_n hx hb d_X11_takesNumber_12 rfl (lv_at hl 0 rfl) ?_
        refine r_geti X hw FL_X11_193 (rfl : KD 400 = _) rfl d_X11_takesNumber_13 ?_
        refine lv_topi (fun x8 ex8 => ?_)
        have r9 : Rg x8 0 120 := by rw [ex8]; exact hI1 _ _ _ _ rfl
        have hm10 : v1 400 42 = x8 := ex8.symm
        refine lv_aload_n hx hb d_X11_takesNumber_16 rfl (lv_at hl 0 rfl) ?_
        refine r_geti X hw FL_X11_190 (rfl : KD 400 = _) rfl d_X11_takesNumber_17 ?_
        refine lv_topi (fun x11 ex11 => ?_)
        have r12 : Rg x11 0 120 := by rw [ex11]; exact hI1 _ _ _ _ rfl
        have hm13 : v1 400 33 = x11 := ex11.symm
        refine lv_icmp_ge (tgt := 78) hx hb d_X11_takesNumber_20 (by decide) (fun c14 => ?_) (fun c14 => ?_)
        · have f15 := i_le c14
          refine lv_iload_n hx hb d_X11_takesNumber_78 rfl (lv_at hl 2 rfl) ?_
          refine lv_if_le (tgt := 86) hx hb d_X11_takesNumber_79 (by decide) (fun c16 => ?_) (fun c16 => ?_)
          · have f17 := i_le c16
            have r18 : Rg y2 0 0 := by obtain ⟨a1, a2⟩ := r7; obtain ⟨b1, b2⟩ := (⟨by decide, by decide⟩ : Rg 0 0 0); have f := i_le c16; exact ⟨by omega, by omega⟩
            refine lv_iconst (v := 0) hx hb d_X11_takesNumber_86 (by decide) ?_
            exact r_zret X hr hlocks hw hS rfl ⟨hI1, hK1, (rg_w (⟨by decide, by decide⟩ : Rg 0 0 0) (by decide) (by decide)), (hfx0.trans hg0.symm), hF1, (by rw [h_m0]; exact r_m0)⟩ d_X11_takesNumber_87
          · have f19 := i_nle c16
            have r20 : Rg y2 1 1 := by obtain ⟨a1, a2⟩ := r7; obtain ⟨b1, b2⟩ := (⟨by decide, by decide⟩ : Rg 0 0 0); have f := i_nle c16; exact ⟨by omega, by omega⟩
            refine lv_iconst (v := 1) hx hb d_X11_takesNumber_82 (by decide) ?_
            refine lv_goto (tgt := 87) hx hb d_X11_takesNumber_83 (by decide) ?_
            exact r_zret X hr hlocks hw hS rfl ⟨hI1, hK1, (rg_w (⟨by decide, by decide⟩ : Rg 1 1 1) (by decide) (by decide)), (hfx0.trans hg0.symm), hF1, (by rw [h_m0]; exact r_m0)⟩ d_X11_takesNumber_87
        · have f21 := i_nle c14
          have r22 : Rg x8 0 119 := by obtain ⟨a1, a2⟩ := r9; obtain ⟨b1, b2⟩ := r12; have f := i_nle c14; exact ⟨by omega, by omega⟩
          have r23 : Rg x11 1 120 := by obtain ⟨a1, a2⟩ := r9; obtain ⟨b1, b2⟩ := r12; have f := i_nle c14; exact ⟨by omega, by omega⟩
          refine lv_aload_n hx hb d_X11_takesNumber_23 rfl (lv_at hl 0 rfl) ?_
          refine r_getr (r := 433) X hw FL_X11_92 (rfl : KD 400 = _) rfl d_X11_takesNumber_24 ?_
          refine lv_aload_n hx hb d_X11_takesNumber_27 rfl (lv_at hl 0 rfl) ?_
          refine r_geti X hw FL_X11_193 (rfl : KD 400 = _) rfl d_X11_takesNumber_28 ?_
          rw [hm10]
          refine r_bald X hw (rfl : KD 433 = _) (Rg.vp (b := 119) r22 (by decide)) rfl d_X11_takesNumber_31 ?_
          refine lv_topi (fun x24 ex24 => ?_)
          have hm25 : v1 433 x8.toNatClampNeg = x24 := ex24.symm
          refine r_ci (r_runS (n := 1) (As := [.int x24]) (rest := []) X hw (ct_X11_isDigit l D dA ad v1 hI1 x24) gc_X11_202 (by decide +kernel) ⟨rfl, rfl, Nat.le_of_ble_eq_true rfl, Nat.le_of_ble_eq_true rfl⟩ rfl hl.1 rfl (Nat.le_of_ble_eq_true rfl) ⟨Nat.zero_le _, Nat.zero_le _⟩ d_X11_takesNumber_32) hS (fun x27 v28 H locs hp26 hw hS => ?_)
          obtain ⟨ev28, hp26⟩ := hp26
          rw [ev28] at hw
          rcases hp26 with ⟨rfl, w29a, w29b⟩ | ⟨rfl, w29n⟩
          · skip
            have r30 : Rg x24 48 57 := by obtain ⟨_, _⟩ := (rg_any x24); exact ⟨by omega, by omega⟩
            refine lv_if_eq (tgt := 78) hx hb d_X11_takesNumber_35 (by decide) (fun c31 => ?_) (fun c31 => ?_)
            · exact absurd c31 (by decide)
            · have r32 : Rg m0 0 9 := by obtain ⟨_, _⟩ := r_m0; obtain ⟨_, _⟩ := r7; exact ⟨by omega, by omega⟩
              refine lv_aload_n hx hb d_X11_takesNumber_38 rfl (lv_at hl 0 rfl) ?_
              refine lv_bipush (v := 10) hx hb d_X11_takesNumber_39 (by decide) ?_
              refine lv_aload_n hx hb d_X11_takesNumber_41 rfl (lv_at hl 0 rfl) ?_
              refine r_geti X hw FL_X11_199 (rfl : KD 400 = _) rfl d_X11_takesNumber_42 ?_
              rw [h_m0]
              refine lv_imul hx hb d_X11_takesNumber_45 ?_
              refine lv_topi (fun x33 ex33 => ?_)
              have r34 : Rg x33 0 90 := rg_mulc ex33 (⟨by decide, by decide⟩ : Rg 10 10 10) r32 (by decide) (by decide) (by decide)
              have s35 : x33.toInt = 10 * m0.toInt := rg_mule ex33 r32 rfl (by decide) (by decide)
              refine lv_aload_n hx hb d_X11_takesNumber_46 rfl (lv_at hl 0 rfl) ?_
              refine r_getr (r := 433) X hw FL_X11_92 (rfl : KD 400 = _) rfl d_X11_takesNumber_47 ?_
              refine lv_aload_n hx hb d_X11_takesNumber_50 rfl (lv_at hl 0 rfl) ?_
              refine r_geti X hw FL_X11_193 (rfl : KD 400 = _) rfl d_X11_takesNumber_51 ?_
              rw [hm10]
              refine r_bald X hw (rfl : KD 433 = _) (Rg.vp (b := 119) r22 (by decide)) rfl d_X11_takesNumber_54 ?_
              rw [hm25]
              refine lv_iadd hx hb d_X11_takesNumber_55 ?_
              refine lv_topi (fun x36 ex36 => ?_)
              have r37 : Rg x36 48 147 := rg_add ex36 r34 r30 (by decide) (by decide)
              have s38 : x36.toInt = x33.toInt + (x24 : Int32).toInt := by rw [ex36]; exact i_add (by obtain ⟨_, _⟩ := r34; obtain ⟨_, _⟩ := r30; omega) (by obtain ⟨_, _⟩ := r34; obtain ⟨_, _⟩ := r30; omega)
              refine lv_bipush (v := 48) hx hb d_X11_takesNumber_56 (by decide) ?_
              refine lv_isub hx hb d_X11_takesNumber_58 ?_
              refine lv_topi (fun x39 ex39 => ?_)
              have r40 : Rg x39 0 99 := rg_sub ex39 r37 (⟨by decide, by decide⟩ : Rg 48 48 48) (by decide) (by decide)
              have s41 : x39.toInt = x36.toInt - (48 : Int32).toInt := by rw [ex39]; exact i_sub (by obtain ⟨_, _⟩ := r37; obtain ⟨_, _⟩ := (⟨by decide, by decide⟩ : Rg 48 48 48); omega) (by obtain ⟨_, _⟩ := r37; obtain ⟨_, _⟩ := (⟨by decide, by decide⟩ : Rg 48 48 48); omega)
              have s41l : (48 : Int32).toInt = 48 := rfl
              refine r_put X hw hS FP_X11_199 (rfl : KD 400 = _) rfl ⟨rfl, rfl⟩ d_X11_takesNumber_59 (fun H locs hw hS => ?_)
              obtain ⟨v42, ev42⟩ : ∃ z, z = up2 v1 400 43 x39 := ⟨_, rfl⟩
              rw [← ev42] at hw
              have hI43 : Inv v42 := by rw [ev42]; exact Inv.putr hI1 rfl (rg_w r40 (by decide) (by decide))
              have hK44 : Kp v v42 := by rw [ev42]; exact Kp.put hK1 _ rfl
              have hF45 : ∀ a b, a ≠ 400 → v42 a b = v a b := fun a b h => (congrFun (congrFun ev42 a) b).trans ((up2_n _ _ (fun q => h q.1)).trans (hF1 a b h))
              have hm46 : v42 400 34 = g0 := by rw [ev42, up2_n _ _ (by omega)]; exact hfx0
              have hm47 : v42 400 42 = x8 := by rw [ev42, up2_n _ _ (by omega)]; exact hm10
              have hm48 : v42 400 33 = x11 := by rw [ev42, up2_n _ _ (by omega)]; exact hm13
              have hm49 : v42 433 x8.toNatClampNeg = x24 := by rw [ev42, up2_n _ _ (by omega)]; exact hm25
              have hm50 : v42 400 43 = x39 := by rw [ev42, up2_s]
              refine lv_aload_n hx hb d_X11_takesNumber_62 rfl (lv_at hl 0 rfl) ?_
              refine lv_dup hx hb d_X11_takesNumber_63 rfl ?_
              refine r_geti X hw FL_X11_193 (rfl : KD 400 = _) rfl d_X11_takesNumber_64 ?_
              rw [hm47]
              refine lv_iconst (v := 1) hx hb d_X11_takesNumber_67 (by decide) ?_
              refine lv_iadd hx hb d_X11_takesNumber_68 ?_
              refine lv_topi (fun x51 ex51 => ?_)
              have r52 : Rg x51 1 120 := rg_add ex51 r22 (⟨by decide, by decide⟩ : Rg 1 1 1) (by decide) (by decide)
              have s53 : x51.toInt = x8.toInt + (1 : Int32).toInt := by rw [ex51]; exact i_add (by obtain ⟨_, _⟩ := r22; obtain ⟨_, _⟩ := (⟨by decide, by decide⟩ : Rg 1 1 1); omega) (by obtain ⟨_, _⟩ := r22; obtain ⟨_, _⟩ := (⟨by decide, by decide⟩ : Rg 1 1 1); omega)
              have s53l : (1 : Int32).toInt = 1 := rfl
              refine r_put X hw hS FP_X11_193 (rfl : KD 400 = _) rfl ⟨rfl, rfl⟩ d_X11_takesNumber_69 (fun H locs hw hS => ?_)
              obtain ⟨v54, ev54⟩ : ∃ z, z = up2 v42 400 42 x51 := ⟨_, rfl⟩
              rw [← ev54] at hw
              have hI55 : Inv v54 := by rw [ev54]; exact Inv.putr hI43 rfl (rg_w r52 (by decide) (by decide))
              have hK56 : Kp v v54 := by rw [ev54]; exact Kp.put hK44 _ rfl
              have hF57 : ∀ a b, a ≠ 400 → v54 a b = v a b := fun a b h => (congrFun (congrFun ev54 a) b).trans ((up2_n _ _ (fun q => h q.1)).trans (hF45 a b h))
              have hm58 : v54 400 34 = g0 := by rw [ev54, up2_n _ _ (by omega)]; exact hm46
              have hm59 : v54 400 33 = x11 := by rw [ev54, up2_n _ _ (by omega)]; exact hm48
              have hm60 : v54 433 x8.toNatClampNeg = x24 := by rw [ev54, up2_n _ _ (by omega)]; exact hm49
              have hm61 : v54 400 43 = x39 := by rw [ev54, up2_n _ _ (by omega)]; exact hm50
              have hm62 : v54 400 42 = x51 := by rw [ev54, up2_s]
              obtain ⟨x63, ex63⟩ : ∃ y : Int32, y = y2 + 1 := ⟨_, rfl⟩
              refine lv_iinc (v := x63) (lv' := [(2, .int x63), (0, .ref (ad 400)), (1, .int most)]) hx hb d_X11_takesNumber_72 hl (k := 2) rfl (by rw [ex63]; rfl) (by decide) rfl (fun ls hl => ?_)
              have r64 : Rg x63 1 2 := rg_add ex63 r7 (⟨by decide, by decide⟩ : Rg 1 1 1) (by decide) (by decide)
              have s65 : x63.toInt = y2.toInt + (1 : Int32).toInt := by rw [ex63]; exact i_add (by obtain ⟨_, _⟩ := r7; obtain ⟨_, _⟩ := (⟨by decide, by decide⟩ : Rg 1 1 1); omega) (by obtain ⟨_, _⟩ := r7; obtain ⟨_, _⟩ := (⟨by decide, by decide⟩ : Rg 1 1 1); omega)
              have s65l : (1 : Int32).toInt = 1 := rfl
              refine lv_goto (tgt := 7) hx hb d_X11_takesNumber_75 (by decide) ?_
              exact ih0 x63 x39 v54 _ _ _ (by have := s35; have := s38; have := s41; have := s53; have := s65; obtain ⟨_, _⟩ := r64; obtain ⟨_, _⟩ := r40; omega) (rg_w r64 (by decide) (by decide)) r40 hI55 hK56 hF57 hm61 hm58 (by obtain ⟨_, _⟩ := r_most; obtain ⟨_, _⟩ := r_g0; obtain ⟨_, _⟩ := r7; obtain ⟨_, _⟩ := r32; obtain ⟨_, _⟩ := r22; obtain ⟨_, _⟩ := r23; obtain ⟨_, _⟩ := r30; obtain ⟨_, _⟩ := r34; obtain ⟨_, _⟩ := r37; obtain ⟨_, _⟩ := r40; obtain ⟨_, _⟩ := r52; obtain ⟨_, _⟩ := r64; have z0 : (0 : Int32).toInt = 0 := rfl; refine ⟨fun _ => ?_, fun _ => ?_⟩ <;> omega) hw hS (lv_sub hl [1, 2, 0] rfl)
          · skip
            refine lv_if_eq (tgt := 78) hx hb d_X11_takesNumber_35 (by decide) (fun c66 => ?_) (fun c66 => ?_)
            · refine lv_iload_n hx hb d_X11_takesNumber_78 rfl (lv_at hl 2 rfl) ?_
              refine lv_if_le (tgt := 86) hx hb d_X11_takesNumber_79 (by decide) (fun c67 => ?_) (fun c67 => ?_)
              · have f68 := i_le c67
                have r69 : Rg y2 0 0 := by obtain ⟨a1, a2⟩ := r7; obtain ⟨b1, b2⟩ := (⟨by decide, by decide⟩ : Rg 0 0 0); have f := i_le c67; exact ⟨by omega, by omega⟩
                refine lv_iconst (v := 0) hx hb d_X11_takesNumber_86 (by decide) ?_
                exact r_zret X hr hlocks hw hS rfl ⟨hI1, hK1, (rg_w (⟨by decide, by decide⟩ : Rg 0 0 0) (by decide) (by decide)), (hfx0.trans hg0.symm), hF1, (by rw [h_m0]; exact r_m0)⟩ d_X11_takesNumber_87
              · have f70 := i_nle c67
                have r71 : Rg y2 1 1 := by obtain ⟨a1, a2⟩ := r7; obtain ⟨b1, b2⟩ := (⟨by decide, by decide⟩ : Rg 0 0 0); have f := i_nle c67; exact ⟨by omega, by omega⟩
                refine lv_iconst (v := 1) hx hb d_X11_takesNumber_82 (by decide) ?_
                refine lv_goto (tgt := 87) hx hb d_X11_takesNumber_83 (by decide) ?_
                exact r_zret X hr hlocks hw hS rfl ⟨hI1, hK1, (rg_w (⟨by decide, by decide⟩ : Rg 1 1 1) (by decide) (by decide)), (hfx0.trans hg0.symm), hF1, (by rw [h_m0]; exact r_m0)⟩ d_X11_takesNumber_87
            · exact absurd c66 (by decide)
  have ih0 := LL 100000
  have hK0 : Kp v v := Kp.rf v
  refine lv_aload_n hx hb d_X11_takesNumber_0 rfl (lv_at hl 0 rfl) ?_
  refine lv_iconst (v := 0) hx hb d_X11_takesNumber_1 (by decide) ?_
  refine r_put X hw hS FP_X11_199 (rfl : KD 400 = _) rfl ⟨rfl, rfl⟩ d_X11_takesNumber_2 (fun H locs hw hS => ?_)
  obtain ⟨v72, ev72⟩ : ∃ z, z = up2 v 400 43 0 := ⟨_, rfl⟩
  rw [← ev72] at hw
  have hI73 : Inv v72 := by rw [ev72]; exact Inv.putr hI rfl (rg_w (⟨by decide, by decide⟩ : Rg 0 0 0) (by decide) (by decide))
  have hK74 : Kp v v72 := by rw [ev72]; exact Kp.put hK0 _ rfl
  have hF75 : ∀ a b, a ≠ 400 → v72 a b = v a b := fun a b h => (congrFun (congrFun ev72 a) b).trans ((up2_n _ _ (fun q => h q.1)).trans (hF0 a b h))
  have hm76 : v72 400 34 = g0 := by rw [ev72, up2_n _ _ (by omega)]; exact hg0
  have hm77 : v72 400 43 = 0 := by rw [ev72, up2_s]
  refine lv_iconst (v := 0) hx hb d_X11_takesNumber_5 (by decide) ?_
  refine lv_istore_n (lv' := [(2, .int 0), (0, .ref (ad 400)), (1, .int most)]) hx hb d_X11_takesNumber_6 rfl hl (by decide) rfl (fun ls hl => ?_)
  exact ih0 0 0 v72 _ _ _ (by obtain ⟨_, _⟩ := (⟨by decide, by decide⟩ : Rg 0 0 0); obtain ⟨_, _⟩ := (⟨by decide, by decide⟩ : Rg 0 0 0); omega) (rg_w (⟨by decide, by decide⟩ : Rg 0 0 0) (by decide) (by decide)) (rg_w (⟨by decide, by decide⟩ : Rg 0 0 0) (by decide) (by decide)) hI73 hK74 hF75 hm77 hm76 (by obtain ⟨_, _⟩ := r_most; obtain ⟨_, _⟩ := r_g0; have z0 : (0 : Int32).toInt = 0 := rfl; refine ⟨fun _ => ?_, fun _ => ?_⟩ <;> omega) hw hS (lv_sub hl [1, 2, 0] rfl)
set_option maxHeartbeats 4000000 in
set_option maxRecDepth 100000 in
theorem ct_X11_takesNumber_3 (l : Launch) (D : va_G) (dA : Nat → ClassId) (ad : Nat → Nat) (v : tV) (hI : Inv v) (most : Int32) (r_most : Rg most 3 3) : Met l m_X11_takesNumber [.code m_X11_takesNumber c_X11_takesNumber 3 (some .boolean)] ({ frames := 2, cells := 0, slots := 0, locals := 60 } : Room) (tP D dA ad v [.ref (ad 400), .int most]) (tQi D dA ad (fun r v' => Inv v' ∧ Kp v v' ∧ Rg r 0 1 ∧ v' 400 34 = v 400 34 ∧ (∀ a b, a ≠ 400 → v' a b = v a b) ∧ Rg (v' 400 43) 0 999)) 0 0 (tA ad) := by
  refine tMet (by decide) (Nat.le_of_ble_eq_true rfl) ?_
  intro p e s m below meth c ls X hr hlocks hw hl
  have X : CX p s m ([.ref (ad 400), .int most] : List Value).toArray c c_X11_takesNumber N_X11 3 D dA := X
  have hx := X.1
  have hb := X.2.1
  have hS : va_S (tA ad) s.heap s.heap [] := va_S.rf
  have hl : lv_has ls 3 [(0, .ref (ad 400)), (1, .int most)] := hl
  obtain ⟨g0, hg0⟩ : ∃ g, v 400 34 = g := ⟨_, rfl⟩
  have r_g0 : Rg g0 0 8 := by rw [← hg0]; exact hI 400 34 _ _ rfl
  have hF0 : ∀ a b, a ≠ 400 → v a b = v a b := fun _ _ _ => rfl
  have LL : ∀ n : Nat, (∀ (y2 : Int32) (m0 : Int32) (v1 : tV) (H : Heap) (locs : List Loc) (ls : Array Slot), (3 - y2.toInt).toNat < n → Rg y2 0 3 → Rg m0 0 999 → Inv v1 → Kp v v1 → (∀ a b, a ≠ 400 → v1 a b = v a b) → v1 400 43 = m0 → v1 400 34 = g0 → (y2.toInt = 0 → m0.toInt = 0) ∧ (y2.toInt = 1 → m0.toInt ≤ 9) ∧ (y2.toInt = 2 → m0.toInt ≤ 99) → tI D dA ad v1 H → va_S (tA ad) s.heap H locs → lv_has ls 3 [(0, .ref (ad 400)), (1, .int most), (2, .int y2)] → W p l e ({ frames := 2, cells := 0, slots := 0, locals := 60 } : Room) s m ([.ref (ad 400), .int most] : List Value).toArray below meth c H locs 0 0 (MQ below (tQi D dA ad (fun r v' => Inv v' ∧ Kp v v' ∧ Rg r 0 1 ∧ v' 400 34 = v 400 34 ∧ (∀ a b, a ≠ 400 → v' a b = v a b) ∧ Rg (v' 400 43) 0 999)) ([.ref (ad 400), .int most] : List Value).toArray s 0 0 (tA ad)) (F0 m 7 ls [])) := by
    intro n
    induction n with
    | zero => intros; omega
    | succ n ih =>
      have ih0 := ih
      intro y2 m0 v1 H locs ls hmu r_y2 r_m0 hI1 hK1 hF1 h_m0 hfx0 hex hw hS hl
      refine lv_iload_n hx hb d_X11_takesNumber_7 rfl (lv_at hl 2 rfl) ?_
      refine lv_iload_n hx hb d_X11_takesNumber_8 rfl (lv_at hl 1 rfl) ?_
      refine lv_icmp_ge (tgt := 78) hx hb d_X11_takesNumber_9 (by decide) (fun c1 => ?_) (fun c1 => ?_)
      · have f2 := i_le c1
        have r3 : Rg y2 3 3 := by obtain ⟨a1, a2⟩ := r_y2; obtain ⟨b1, b2⟩ := r_most; have f := i_le c1; exact ⟨by omega, by omega⟩
        refine lv_iload_n hx hb d_X11_takesNumber_78 rfl (lv_at hl 2 rfl) ?_
        refine lv_if_le (tgt := 86) hx hb d_X11_takesNumber_79 (by decide) (fun c4 => ?_) (fun c4 => ?_)
        · exfalso
          obtain ⟨a1, a2⟩ := r3; obtain ⟨b1, b2⟩ := (⟨by decide, by decide⟩ : Rg 0 0 0); have f := i_le c4; omega
        · have f5 := i_nle c4
          refine lv_iconst (v := 1) hx hb d_X11_takesNumber_82 (by decide) ?_
          refine lv_goto (tgt := 87) hx hb d_X11_takesNumber_83 (by decide) ?_
          exact r_zret X hr hlocks hw hS rfl ⟨hI1, hK1, (rg_w (⟨by decide, by decide⟩ : Rg 1 1 1) (by decide) (by decide)), (hfx0.trans hg0.symm), hF1, (by rw [h_m0]; exact r_m0)⟩ d_X11_takesNumber_87
      · have f6 := i_nle c1
        have r7 : Rg y2 0 2 := by obtain ⟨a1, a2⟩ := r_y2; obtain ⟨b1, b2⟩ := r_most; have f := i_nle c1; exact ⟨by omega, by omega⟩
        refine lv_aload_n hx hb d_X11_takesNumber_12 rfl (lv_at hl 0 rfl) ?_
        refine r_geti X hw FL_X11_193 (rfl : KD 400 = _) rfl d_X11_takesNumber_13 ?_
        refine lv_topi (fun x8 ex8 => ?_)
        have r9 : Rg x8 0 120 := by rw [ex8]; exact hI1 _ _ _ _ rfl
        have hm10 : v1 400 42 = x8 := ex8.symm
        refine lv_aload_n hx hb d_X11_takesNumber_16 rfl (lv_at hl 0 rfl) ?_
        refine r_geti X hw FL_X11_190 (rfl : KD 400 = _) rfl d_X11_takesNumber_17 ?_
        refine lv_topi (fun x11 ex11 => ?_)
        have r12 : Rg x11 0 120 := by rw [ex11]; exact hI1 _ _ _ _ rfl
        have hm13 : v1 400 33 = x11 := ex11.symm
        refine lv_icmp_ge (tgt := 78) hx hb d_X11_takesNumber_20 (by decide) (fun c14 => ?_) (fun c14 => ?_)
        · have f15 := i_le c14
          refine lv_iload_n hx hb d_X11_takesNumber_78 rfl (lv_at hl 2 rfl) ?_
          refine lv_if_le (tgt := 86) hx hb d_X11_takesNumber_79 (by decide) (fun c16 => ?_) (fun c16 => ?_)
          · have f17 := i_le c16
            have r18 : Rg y2 0 0 := by obtain ⟨a1, a2⟩ := r7; obtain ⟨b1, b2⟩ := (⟨by decide, by decide⟩ : Rg 0 0 0); have f := i_le c16; exact ⟨by omega, by omega⟩
            refine lv_iconst (v := 0) hx hb d_X11_takesNumber_86 (by decide) ?_
            exact r_zret X hr hlocks hw hS rfl ⟨hI1, hK1, (rg_w (⟨by decide, by decide⟩ : Rg 0 0 0) (by decide) (by decide)), (hfx0.trans hg0.symm), hF1, (by rw [h_m0]; exact r_m0)⟩ d_X11_takesNumber_87
          · have f19 := i_nle c16
            have r20 : Rg y2 1 2 := by obtain ⟨a1, a2⟩ := r7; obtain ⟨b1, b2⟩ := (⟨by decide, by decide⟩ : Rg 0 0 0); have f := i_nle c16; exact ⟨by omega, by omega⟩
            refine lv_iconst (v := 1) hx hb d_X11_takesNumber_82 (by decide) ?_
            refine lv_goto (tgt := 87) hx hb d_X11_takesNumber_83 (by decide) ?_
            exact r_zret X hr hlocks hw hS rfl ⟨hI1, hK1, (rg_w (⟨by decide, by decide⟩ : Rg 1 1 1) (by decide) (by decide)), (hfx0.trans hg0.symm), hF1, (by rw [h_m0]; exact r_m0)⟩ d_X11_takesNumber_87
        · have f21 := i_nle c14
          have r22 : Rg x8 0 119 := by obtain ⟨a1, a2⟩ := r9; obtain ⟨b1, b2⟩ := r12; have f := i_nle c14; exact ⟨by omega, by omega⟩
          have r23 : Rg x11 1 120 := by obtain ⟨a1, a2⟩ := r9; obtain ⟨b1, b2⟩ := r12; have f := i_nle c14; exact ⟨by omega, by omega⟩
          refine lv_aload_n hx hb d_X11_takesNumber_23 rfl (lv_at hl 0 rfl) ?_
          refine r_getr (r := 433) X hw FL_X11_92 (rfl : KD 400 = _) rfl d_X11_takesNumber_24 ?_
          refine lv_aload_n hx hb d_X11_takesNumber_27 rfl (lv_at hl 0 rfl) ?_
          refine r_geti X hw FL_X11_193 (rfl : KD 400 = _) rfl d_X11_takesNumber_28 ?_
          rw [hm10]
          refine r_bald X hw (rfl : KD 433 = _) (Rg.vp (b := 119) r22 (by decide)) rfl d_X11_takesNumber_31 ?_
          refine lv_topi (fun x24 ex24 => ?_)
          have hm25 : v1 433 x8.toNatClampNeg = x24 := ex24.symm
          refine r_ci (r_runS (n := 1) (As := [.int x24]) (rest := []) X hw (ct_X11_isDigit l D dA ad v1 hI1 x24) gc_X11_202 (by decide +kernel) ⟨rfl, rfl, Nat.le_of_ble_eq_true rfl, Nat.le_of_ble_eq_true rfl⟩ rfl hl.1 rfl (Nat.le_of_ble_eq_true rfl) ⟨Nat.zero_le _, Nat.zero_le _⟩ d_X11_takesNumber_32) hS (fun x27 v28 H locs hp26 hw hS => ?_)
          obtain ⟨ev28, hp26⟩ := hp26
          rw [ev28] at hw
          rcases hp26 with ⟨rfl, w29a, w29b⟩ | ⟨rfl, w29n⟩
          · skip
            have r30 : Rg x24 48 57 := by obtain ⟨_, _⟩ := (rg_any x24); exact ⟨by omega, by omega⟩
            refine lv_if_eq (tgt := 78) hx hb d_X11_takesNumber_35 (by decide) (fun c31 => ?_) (fun c31 => ?_)
            · exact absurd c31 (by decide)
            · have r32 : Rg m0 0 99 := by obtain ⟨_, _⟩ := r_m0; obtain ⟨_, _⟩ := r7; exact ⟨by omega, by omega⟩
              refine lv_aload_n hx hb d_X11_takesNumber_38 rfl (lv_at hl 0 rfl) ?_
              refine lv_bipush (v := 10) hx hb d_X11_takesNumber_39 (by decide) ?_
              refine lv_aload_n hx hb d_X11_takesNumber_41 rfl (lv_at hl 0 rfl) ?_
              refine r_geti X hw FL_X11_199 (rfl : KD 400 = _) rfl d_X11_takesNumber_42 ?_
              rw [h_m0]
              refine lv_imul hx hb d_X11_takesNumber_45 ?_
              refine lv_topi (fun x33 ex33 => ?_)
              have r34 : Rg x33 0 990 := rg_mulc ex33 (⟨by decide, by decide⟩ : Rg 10 10 10) r32 (by decide) (by decide) (by decide)
              have s35 : x33.toInt = 10 * m0.toInt := rg_mule ex33 r32 rfl (by decide) (by decide)
              refine lv_aload_n hx hb d_X11_takesNumber_46 rfl (lv_at hl 0 rfl) ?_
              refine r_getr (r := 433) X hw FL_X11_92 (rfl : KD 400 = _) rfl d_X11_takesNumber_47 ?_
              refine lv_aload_n hx hb d_X11_takesNumber_50 rfl (lv_at hl 0 rfl) ?_
              refine r_geti X hw FL_X11_193 (rfl : KD 400 = _) rfl d_X11_takesNumber_51 ?_
              rw [hm10]
              refine r_bald X hw (rfl : KD 433 = _) (Rg.vp (b := 119) r22 (by decide)) rfl d_X11_takesNumber_54 ?_
              rw [hm25]
              refine lv_iadd hx hb d_X11_takesNumber_55 ?_
              refine lv_topi (fun x36 ex36 => ?_)
              have r37 : Rg x36 48 1047 := rg_add ex36 r34 r30 (by decide) (by decide)
              have s38 : x36.toInt = x33.toInt + (x24 : Int32).toInt := by rw [ex36]; exact i_add (by obtain ⟨_, _⟩ := r34; obtain ⟨_, _⟩ := r30; omega) (by obtain ⟨_, _⟩ := r34; obtain ⟨_, _⟩ := r30; omega)
              refine lv_bipush (v := 48) hx hb d_X11_takesNumber_56 (by decide) ?_
              refine lv_isub hx hb d_X11_takesNumber_58 ?_
              refine lv_topi (fun x39 ex39 => ?_)
              have r40 : Rg x39 0 999 := rg_sub ex39 r37 (⟨by decide, by decide⟩ : Rg 48 48 48) (by decide) (by decide)
              have s41 : x39.toInt = x36.toInt - (48 : Int32).toInt := by rw [ex39]; exact i_sub (by obtain ⟨_, _⟩ := r37; obtain ⟨_, _⟩ := (⟨by decide, by decide⟩ : Rg 48 48 48); omega) (by obtain ⟨_, _⟩ := r37; obtain ⟨_, _⟩ := (⟨by decide, by decide⟩ : Rg 48 48 48); omega)
              have s41l : (48 : Int32).toInt = 48 := rfl
              refine r_put X hw hS FP_X11_199 (rfl : KD 400 = _) rfl ⟨rfl, rfl⟩ d_X11_takesNumber_59 (fun H locs hw hS => ?_)
              obtain ⟨v42, ev42⟩ : ∃ z, z = up2 v1 400 43 x39 := ⟨_, rfl⟩
              rw [← ev42] at hw
              have hI43 : Inv v42 := by rw [ev42]; exact Inv.putr hI1 rfl r40
              have hK44 : Kp v v42 := by rw [ev42]; exact Kp.put hK1 _ rfl
              have hF45 : ∀ a b, a ≠ 400 → v42 a b = v a b := fun a b h => (congrFun (congrFun ev42 a) b).trans ((up2_n _ _ (fun q => h q.1)).trans (hF1 a b h))
              have hm46 : v42 400 34 = g0 := by rw [ev42, up2_n _ _ (by omega)]; exact hfx0
              have hm47 : v42 400 42 = x8 := by rw [ev42, up2_n _ _ (by omega)]; exact hm10
              have hm48 : v42 400 33 = x11 := by rw [ev42, up2_n _ _ (by omega)]; exact hm13
              have hm49 : v42 433 x8.toNatClampNeg = x24 := by rw [ev42, up2_n _ _ (by omega)]; exact hm25
              have hm50 : v42 400 43 = x39 := by rw [ev42, up2_s]
              refine lv_aload_n hx hb d_X11_takesNumber_62 rfl (lv_at hl 0 rfl) ?_
              refine lv_dup hx hb d_X11_takesNumber_63 rfl ?_
              refine r_geti X hw FL_X11_193 (rfl : KD 400 = _) rfl d_X11_takesNumber_64 ?_
              rw [hm47]
              refine lv_iconst (v := 1) hx hb d_X11_takesNumber_67 (by decide) ?_
              refine lv_iadd hx hb d_X11_takesNumber_68 ?_
              refine lv_topi (fun x51 ex51 => ?_)
              have r52 : Rg x51 1 120 := rg_add ex51 r22 (⟨by decide, by decide⟩ : Rg 1 1 1) (by decide) (by decide)
              have s53 : x51.toInt = x8.toInt + (1 : Int32).toInt := by rw [ex51]; exact i_add (by obtain ⟨_, _⟩ := r22; obtain ⟨_, _⟩ := (⟨by decide, by decide⟩ : Rg 1 1 1); omega) (by obtain ⟨_, _⟩ := r22; obtain ⟨_, _⟩ := (⟨by decide, by decide⟩ : Rg 1 1 1); omega)
              have s53l : (1 : Int32).toInt = 1 := rfl
              refine r_put X hw hS FP_X11_193 (rfl : KD 400 = _) rfl ⟨rfl, rfl⟩ d_X11_takesNumber_69 (fun H locs hw hS => ?_)
              obtain ⟨v54, ev54⟩ : ∃ z, z = up2 v42 400 42 x51 := ⟨_, rfl⟩
              rw [← ev54] at hw
              have hI55 : Inv v54 := by rw [ev54]; exact Inv.putr hI43 rfl (rg_w r52 (by decide) (by decide))
              have hK56 : Kp v v54 := by rw [ev54]; exact Kp.put hK44 _ rfl
              have hF57 : ∀ a b, a ≠ 400 → v54 a b = v a b := fun a b h => (congrFun (congrFun ev54 a) b).trans ((up2_n _ _ (fun q => h q.1)).trans (hF45 a b h))
              have hm58 : v54 400 34 = g0 := by rw [ev54, up2_n _ _ (by omega)]; exact hm46
              have hm59 : v54 400 33 = x11 := by rw [ev54, up2_n _ _ (by omega)]; exact hm48
              have hm60 : v54 433 x8.toNatClampNeg = x24 := by rw [ev54, up2_n _ _ (by omega)]; exact hm49
              have hm61 : v54 400 43 = x39 := by rw [ev54, up2_n _ _ (by omega)]; exact hm50
              have hm62 : v54 400 42 = x51 := by rw [ev54, up2_s]
              obtain ⟨x63, ex63⟩ : ∃ y : Int32, y = y2 + 1 := ⟨_, rfl⟩
              refine lv_iinc (v := x63) (lv' := [(2, .int x63), (0, .ref (ad 400)), (1, .int most)]) hx hb d_X11_takesNumber_72 hl (k := 2) rfl (by rw [ex63]; rfl) (by decide) rfl (fun ls hl => ?_)
              have r64 : Rg x63 1 3 := rg_add ex63 r7 (⟨by decide, by decide⟩ : Rg 1 1 1) (by decide) (by decide)
              have s65 : x63.toInt = y2.toInt + (1 : Int32).toInt := by rw [ex63]; exact i_add (by obtain ⟨_, _⟩ := r7; obtain ⟨_, _⟩ := (⟨by decide, by decide⟩ : Rg 1 1 1); omega) (by obtain ⟨_, _⟩ := r7; obtain ⟨_, _⟩ := (⟨by decide, by decide⟩ : Rg 1 1 1); omega)
              have s65l : (1 : Int32).toInt = 1 := rfl
              refine lv_goto (tgt := 7) hx hb d_X11_takesNumber_75 (by decide) ?_
              exact ih0 x63 x39 v54 _ _ _ (by have := s35; have := s38; have := s41; have := s53; have := s65; obtain ⟨_, _⟩ := r64; obtain ⟨_, _⟩ := r40; omega) (rg_w r64 (by decide) (by decide)) r40 hI55 hK56 hF57 hm61 hm58 (by obtain ⟨_, _⟩ := r_most; obtain ⟨_, _⟩ := r_g0; obtain ⟨_, _⟩ := r7; obtain ⟨_, _⟩ := r32; obtain ⟨_, _⟩ := r22; obtain ⟨_, _⟩ := r23; obtain ⟨_, _⟩ := r30; obtain ⟨_, _⟩ := r34; obtain ⟨_, _⟩ := r37; obtain ⟨_, _⟩ := r40; obtain ⟨_, _⟩ := r52; obtain ⟨_, _⟩ := r64; have z0 : (0 : Int32).toInt = 0 := rfl; refine ⟨fun _ => ?_, fun _ => ?_, fun _ => ?_⟩ <;> omega) hw hS (lv_sub hl [1, 2, 0] rfl)
          · skip
            refine lv_if_eq (tgt := 78) hx hb d_X11_takesNumber_35 (by decide) (fun c66 => ?_) (fun c66 => ?_)
            · refine lv_iload_n hx hb d_X11_takesNumber_78 rfl (lv_at hl 2 rfl) ?_
              refine lv_if_le (tgt := 86) hx hb d_X11_takesNumber_79 (by decide) (fun c67 => ?_) (fun c67 => ?_)
              · have f68 := i_le c67
                have r69 : Rg y2 0 0 := by obtain ⟨a1, a2⟩ := r7; obtain ⟨b1, b2⟩ := (⟨by decide, by decide⟩ : Rg 0 0 0); have f := i_le c67; exact ⟨by omega, by omega⟩
                refine lv_iconst (v := 0) hx hb d_X11_takesNumber_86 (by decide) ?_
                exact r_zret X hr hlocks hw hS rfl ⟨hI1, hK1, (rg_w (⟨by decide, by decide⟩ : Rg 0 0 0) (by decide) (by decide)), (hfx0.trans hg0.symm), hF1, (by rw [h_m0]; exact r_m0)⟩ d_X11_takesNumber_87
              · have f70 := i_nle c67
                have r71 : Rg y2 1 2 := by obtain ⟨a1, a2⟩ := r7; obtain ⟨b1, b2⟩ := (⟨by decide, by decide⟩ : Rg 0 0 0); have f := i_nle c67; exact ⟨by omega, by omega⟩
                refine lv_iconst (v := 1) hx hb d_X11_takesNumber_82 (by decide) ?_
                refine lv_goto (tgt := 87) hx hb d_X11_takesNumber_83 (by decide) ?_
                exact r_zret X hr hlocks hw hS rfl ⟨hI1, hK1, (rg_w (⟨by decide, by decide⟩ : Rg 1 1 1) (by decide) (by decide)), (hfx0.trans hg0.symm), hF1, (by rw [h_m0]; exact r_m0)⟩ d_X11_takesNumber_87
            · exact absurd c66 (by decide)
  have ih0 := LL 100000
  have hK0 : Kp v v := Kp.rf v
  refine lv_aload_n hx hb d_X11_takesNumber_0 rfl (lv_at hl 0 rfl) ?_
  refine lv_iconst (v := 0) hx hb d_X11_takesNumber_1 (by decide) ?_
  refine r_put X hw hS FP_X11_199 (rfl : KD 400 = _) rfl ⟨rfl, rfl⟩ d_X11_takesNumber_2 (fun H locs hw hS => ?_)
  obtain ⟨v72, ev72⟩ : ∃ z, z = up2 v 400 43 0 := ⟨_, rfl⟩
  rw [← ev72] at hw
  have hI73 : Inv v72 := by rw [ev72]; exact Inv.putr hI rfl (rg_w (⟨by decide, by decide⟩ : Rg 0 0 0) (by decide) (by decide))
  have hK74 : Kp v v72 := by rw [ev72]; exact Kp.put hK0 _ rfl
  have hF75 : ∀ a b, a ≠ 400 → v72 a b = v a b := fun a b h => (congrFun (congrFun ev72 a) b).trans ((up2_n _ _ (fun q => h q.1)).trans (hF0 a b h))
  have hm76 : v72 400 34 = g0 := by rw [ev72, up2_n _ _ (by omega)]; exact hg0
  have hm77 : v72 400 43 = 0 := by rw [ev72, up2_s]
  refine lv_iconst (v := 0) hx hb d_X11_takesNumber_5 (by decide) ?_
  refine lv_istore_n (lv' := [(2, .int 0), (0, .ref (ad 400)), (1, .int most)]) hx hb d_X11_takesNumber_6 rfl hl (by decide) rfl (fun ls hl => ?_)
  exact ih0 0 0 v72 _ _ _ (by obtain ⟨_, _⟩ := (⟨by decide, by decide⟩ : Rg 0 0 0); obtain ⟨_, _⟩ := (⟨by decide, by decide⟩ : Rg 0 0 0); omega) (rg_w (⟨by decide, by decide⟩ : Rg 0 0 0) (by decide) (by decide)) (rg_w (⟨by decide, by decide⟩ : Rg 0 0 0) (by decide) (by decide)) hI73 hK74 hF75 hm77 hm76 (by obtain ⟨_, _⟩ := r_most; obtain ⟨_, _⟩ := r_g0; have z0 : (0 : Int32).toInt = 0 := rfl; refine ⟨fun _ => ?_, fun _ => ?_, fun _ => ?_⟩ <;> omega) hw hS (lv_sub hl [1, 2, 0] rfl)
theorem d_X11_takesKey_0 : decode c_X11_takesKey 0 = .ok (.aload_n 0, 1) := by decide +kernel
theorem d_X11_takesKey_1 : decode c_X11_takesKey 1 = .ok (.bipush 101, 2) := by decide +kernel
theorem d_X11_takesKey_3 : decode c_X11_takesKey 3 = .ok (.invokevirtual 205, 3) := by decide +kernel
theorem d_X11_takesKey_6 : decode c_X11_takesKey 6 = .ok (.ifCond .eq 52, 3) := by decide +kernel
theorem d_X11_takesKey_9 : decode c_X11_takesKey 9 = .ok (.aload_n 0, 1) := by decide +kernel
theorem d_X11_takesKey_10 : decode c_X11_takesKey 10 = .ok (.getfield 99, 3) := by decide +kernel
theorem d_X11_takesKey_13 : decode c_X11_takesKey 13 = .ok (.iload_n 1, 1) := by decide +kernel
theorem d_X11_takesKey_14 : decode c_X11_takesKey 14 = .ok (.iconst 0, 1) := by decide +kernel
theorem d_X11_takesKey_15 : decode c_X11_takesKey 15 = .ok (.iastore, 1) := by decide +kernel
theorem d_X11_takesKey_16 : decode c_X11_takesKey 16 = .ok (.aload_n 0, 1) := by decide +kernel
theorem d_X11_takesKey_17 : decode c_X11_takesKey 17 = .ok (.bipush 110, 2) := by decide +kernel
theorem d_X11_takesKey_19 : decode c_X11_takesKey 19 = .ok (.invokevirtual 205, 3) := by decide +kernel
theorem d_X11_takesKey_22 : decode c_X11_takesKey 22 = .ok (.ifCond .eq 34, 3) := by decide +kernel
theorem d_X11_takesKey_25 : decode c_X11_takesKey 25 = .ok (.aload_n 0, 1) := by decide +kernel
theorem d_X11_takesKey_26 : decode c_X11_takesKey 26 = .ok (.bipush 116, 2) := by decide +kernel
theorem d_X11_takesKey_28 : decode c_X11_takesKey 28 = .ok (.invokevirtual 205, 3) := by decide +kernel
theorem d_X11_takesKey_31 : decode c_X11_takesKey 31 = .ok (.ifCond .eq 25, 3) := by decide +kernel
theorem d_X11_takesKey_34 : decode c_X11_takesKey 34 = .ok (.aload_n 0, 1) := by decide +kernel
theorem d_X11_takesKey_35 : decode c_X11_takesKey 35 = .ok (.bipush 114, 2) := by decide +kernel
theorem d_X11_takesKey_37 : decode c_X11_takesKey 37 = .ok (.invokevirtual 205, 3) := by decide +kernel
theorem d_X11_takesKey_40 : decode c_X11_takesKey 40 = .ok (.ifCond .eq 16, 3) := by decide +kernel
theorem d_X11_takesKey_43 : decode c_X11_takesKey 43 = .ok (.aload_n 0, 1) := by decide +kernel
theorem d_X11_takesKey_44 : decode c_X11_takesKey 44 = .ok (.bipush 121, 2) := by decide +kernel
theorem d_X11_takesKey_46 : decode c_X11_takesKey 46 = .ok (.invokevirtual 205, 3) := by decide +kernel
theorem d_X11_takesKey_49 : decode c_X11_takesKey 49 = .ok (.ifCond .eq 7, 3) := by decide +kernel
theorem d_X11_takesKey_52 : decode c_X11_takesKey 52 = .ok (.iconst 1, 1) := by decide +kernel
theorem d_X11_takesKey_53 : decode c_X11_takesKey 53 = .ok (.goto 4, 3) := by decide +kernel
theorem d_X11_takesKey_56 : decode c_X11_takesKey 56 = .ok (.iconst 0, 1) := by decide +kernel
theorem d_X11_takesKey_57 : decode c_X11_takesKey 57 = .ok (.ireturn, 1) := by decide +kernel
theorem d_X11_takesKey_58 : decode c_X11_takesKey 58 = .ok (.aload_n 0, 1) := by decide +kernel
theorem d_X11_takesKey_59 : decode c_X11_takesKey 59 = .ok (.bipush 97, 2) := by decide +kernel
theorem d_X11_takesKey_61 : decode c_X11_takesKey 61 = .ok (.invokevirtual 205, 3) := by decide +kernel
theorem d_X11_takesKey_64 : decode c_X11_takesKey 64 = .ok (.ifCond .eq 34, 3) := by decide +kernel
theorem d_X11_takesKey_67 : decode c_X11_takesKey 67 = .ok (.aload_n 0, 1) := by decide +kernel
theorem d_X11_takesKey_68 : decode c_X11_takesKey 68 = .ok (.getfield 99, 3) := by decide +kernel
theorem d_X11_takesKey_71 : decode c_X11_takesKey 71 = .ok (.iload_n 1, 1) := by decide +kernel
theorem d_X11_takesKey_72 : decode c_X11_takesKey 72 = .ok (.iconst 1, 1) := by decide +kernel
theorem d_X11_takesKey_73 : decode c_X11_takesKey 73 = .ok (.iastore, 1) := by decide +kernel
theorem d_X11_takesKey_74 : decode c_X11_takesKey 74 = .ok (.aload_n 0, 1) := by decide +kernel
theorem d_X11_takesKey_75 : decode c_X11_takesKey 75 = .ok (.bipush 115, 2) := by decide +kernel
theorem d_X11_takesKey_77 : decode c_X11_takesKey 77 = .ok (.invokevirtual 205, 3) := by decide +kernel
theorem d_X11_takesKey_80 : decode c_X11_takesKey 80 = .ok (.ifCond .eq 16, 3) := by decide +kernel
theorem d_X11_takesKey_83 : decode c_X11_takesKey 83 = .ok (.aload_n 0, 1) := by decide +kernel
theorem d_X11_takesKey_84 : decode c_X11_takesKey 84 = .ok (.bipush 107, 2) := by decide +kernel
theorem d_X11_takesKey_86 : decode c_X11_takesKey 86 = .ok (.invokevirtual 205, 3) := by decide +kernel
theorem d_X11_takesKey_89 : decode c_X11_takesKey 89 = .ok (.ifCond .eq 7, 3) := by decide +kernel
theorem d_X11_takesKey_92 : decode c_X11_takesKey 92 = .ok (.iconst 1, 1) := by decide +kernel
theorem d_X11_takesKey_93 : decode c_X11_takesKey 93 = .ok (.goto 4, 3) := by decide +kernel
theorem d_X11_takesKey_96 : decode c_X11_takesKey 96 = .ok (.iconst 0, 1) := by decide +kernel
theorem d_X11_takesKey_97 : decode c_X11_takesKey 97 = .ok (.ireturn, 1) := by decide +kernel
theorem d_X11_takesKey_98 : decode c_X11_takesKey 98 = .ok (.aload_n 0, 1) := by decide +kernel
theorem d_X11_takesKey_99 : decode c_X11_takesKey 99 = .ok (.bipush 108, 2) := by decide +kernel
theorem d_X11_takesKey_101 : decode c_X11_takesKey 101 = .ok (.invokevirtual 205, 3) := by decide +kernel
theorem d_X11_takesKey_104 : decode c_X11_takesKey 104 = .ok (.ifCond .eq 12, 3) := by decide +kernel
theorem d_X11_takesKey_107 : decode c_X11_takesKey 107 = .ok (.aload_n 0, 1) := by decide +kernel
theorem d_X11_takesKey_108 : decode c_X11_takesKey 108 = .ok (.bipush 111, 2) := by decide +kernel
theorem d_X11_takesKey_110 : decode c_X11_takesKey 110 = .ok (.invokevirtual 205, 3) := by decide +kernel
theorem d_X11_takesKey_113 : decode c_X11_takesKey 113 = .ok (.ifCond .ne 5, 3) := by decide +kernel
theorem d_X11_takesKey_116 : decode c_X11_takesKey 116 = .ok (.iconst 0, 1) := by decide +kernel
theorem d_X11_takesKey_117 : decode c_X11_takesKey 117 = .ok (.ireturn, 1) := by decide +kernel
theorem d_X11_takesKey_118 : decode c_X11_takesKey 118 = .ok (.aload_n 0, 1) := by decide +kernel
theorem d_X11_takesKey_119 : decode c_X11_takesKey 119 = .ok (.bipush 116, 2) := by decide +kernel
theorem d_X11_takesKey_121 : decode c_X11_takesKey 121 = .ok (.invokevirtual 205, 3) := by decide +kernel
theorem d_X11_takesKey_124 : decode c_X11_takesKey 124 = .ok (.ifCond .eq 12, 3) := by decide +kernel
theorem d_X11_takesKey_127 : decode c_X11_takesKey 127 = .ok (.aload_n 0, 1) := by decide +kernel
theorem d_X11_takesKey_128 : decode c_X11_takesKey 128 = .ok (.getfield 99, 3) := by decide +kernel
theorem d_X11_takesKey_131 : decode c_X11_takesKey 131 = .ok (.iload_n 1, 1) := by decide +kernel
theorem d_X11_takesKey_132 : decode c_X11_takesKey 132 = .ok (.iconst 3, 1) := by decide +kernel
theorem d_X11_takesKey_133 : decode c_X11_takesKey 133 = .ok (.iastore, 1) := by decide +kernel
theorem d_X11_takesKey_134 : decode c_X11_takesKey 134 = .ok (.iconst 1, 1) := by decide +kernel
theorem d_X11_takesKey_135 : decode c_X11_takesKey 135 = .ok (.ireturn, 1) := by decide +kernel
theorem d_X11_takesKey_136 : decode c_X11_takesKey 136 = .ok (.aload_n 0, 1) := by decide +kernel
theorem d_X11_takesKey_137 : decode c_X11_takesKey 137 = .ok (.getfield 99, 3) := by decide +kernel
theorem d_X11_takesKey_140 : decode c_X11_takesKey 140 = .ok (.iload_n 1, 1) := by decide +kernel
theorem d_X11_takesKey_141 : decode c_X11_takesKey 141 = .ok (.iconst 2, 1) := by decide +kernel
theorem d_X11_takesKey_142 : decode c_X11_takesKey 142 = .ok (.iastore, 1) := by decide +kernel
theorem d_X11_takesKey_143 : decode c_X11_takesKey 143 = .ok (.aload_n 0, 1) := by decide +kernel
theorem d_X11_takesKey_144 : decode c_X11_takesKey 144 = .ok (.bipush 97, 2) := by decide +kernel
theorem d_X11_takesKey_146 : decode c_X11_takesKey 146 = .ok (.invokevirtual 205, 3) := by decide +kernel
theorem d_X11_takesKey_149 : decode c_X11_takesKey 149 = .ok (.ifCond .eq 16, 3) := by decide +kernel
theorem d_X11_takesKey_152 : decode c_X11_takesKey 152 = .ok (.aload_n 0, 1) := by decide +kernel
theorem d_X11_takesKey_153 : decode c_X11_takesKey 153 = .ok (.bipush 100, 2) := by decide +kernel
theorem d_X11_takesKey_155 : decode c_X11_takesKey 155 = .ok (.invokevirtual 205, 3) := by decide +kernel
theorem d_X11_takesKey_158 : decode c_X11_takesKey 158 = .ok (.ifCond .eq 7, 3) := by decide +kernel
theorem d_X11_takesKey_161 : decode c_X11_takesKey 161 = .ok (.iconst 1, 1) := by decide +kernel
theorem d_X11_takesKey_162 : decode c_X11_takesKey 162 = .ok (.goto 4, 3) := by decide +kernel
theorem d_X11_takesKey_165 : decode c_X11_takesKey 165 = .ok (.iconst 0, 1) := by decide +kernel
theorem d_X11_takesKey_166 : decode c_X11_takesKey 166 = .ok (.ireturn, 1) := by decide +kernel
set_option maxHeartbeats 4000000 in
set_option maxRecDepth 100000 in
theorem ct_X11_takesKey_400 (l : Launch) (D : va_G) (dA : Nat → ClassId) (ad : Nat → Nat) (v : tV) (hI : Inv v) (od : Int32) (r_od : Rg od 0 7) : Met l m_X11_takesKey [.code m_X11_takesKey c_X11_takesKey 2 (some .boolean)] ({ frames := 3, cells := 0, slots := 0, locals := 82 } : Room) (tP D dA ad v [.ref (ad 400), .int od]) (tQi D dA ad (fun r v' => Inv v' ∧ Kp v v' ∧ Rg r 0 1 ∧ v' 400 34 = v 400 34)) 0 0 (tA ad) := by
  refine tMet (by decide) (Nat.le_of_ble_eq_true rfl) ?_
  intro p e s m below meth c ls X hr hlocks hw hl
  have X : CX p s m ([.ref (ad 400), .int od] : List Value).toArray c c_X11_takesKey N_X11 2 D dA := X
  have hx := X.1
  have hb := X.2.1
  have hS : va_S (tA ad) s.heap s.heap [] := va_S.rf
  have hl : lv_has ls 2 [(0, .ref (ad 400)), (1, .int od)] := hl
  obtain ⟨g0, hg0⟩ : ∃ g, v 400 34 = g := ⟨_, rfl⟩
  have r_g0 : Rg g0 0 8 := by rw [← hg0]; exact hI 400 34 _ _ rfl
  have hK0 : Kp v v := Kp.rf v
  refine lv_aload_n hx hb d_X11_takesKey_0 rfl (lv_at hl 0 rfl) ?_
  refine lv_bipush (v := 101) hx hb d_X11_takesKey_1 (by decide) ?_
  refine r_ci (r_runV (n := 1) (As := [.int 101]) (rest := []) X hw (ct_X11_takes_400 l D dA ad v hI 101) gc_X11_205 (rfl : KD 400 = _) (by decide) rfl (by decide +kernel) ⟨rfl, rfl, Nat.le_of_ble_eq_true rfl, Nat.le_of_ble_eq_true rfl⟩ rfl hl.1 rfl (Nat.le_of_ble_eq_true rfl) ⟨Nat.zero_le _, Nat.zero_le _⟩ d_X11_takesKey_3) hS (fun x2 v3 H locs hp1 hw hS => ?_)
  obtain ⟨hI4, hK5, hp1, hk6, hF7⟩ := hp1
  have hK8 : Kp v v3 := Kp.tr hK0 hK5
  have hm9 : v3 400 (34) = g0 := hk6.trans hg0
  refine lv_if_eq (tgt := 58) hx hb d_X11_takesKey_6 (by decide) (fun c10 => ?_) (fun c10 => ?_)
  · have f11 := i_eq c10
    have r12 : Rg x2 0 0 := by obtain ⟨a1, a2⟩ := hp1; obtain ⟨b1, b2⟩ := (⟨by decide, by decide⟩ : Rg 0 0 0); have f := i_eq c10; exact ⟨by omega, by omega⟩
    refine lv_aload_n hx hb d_X11_takesKey_58 rfl (lv_at hl 0 rfl) ?_
    refine lv_bipush (v := 97) hx hb d_X11_takesKey_59 (by decide) ?_
    refine r_ci (r_runV (n := 1) (As := [.int 97]) (rest := []) X hw (ct_X11_takes_400 l D dA ad v3 hI4 97) gc_X11_205 (rfl : KD 400 = _) (by decide) rfl (by decide +kernel) ⟨rfl, rfl, Nat.le_of_ble_eq_true rfl, Nat.le_of_ble_eq_true rfl⟩ rfl hl.1 rfl (Nat.le_of_ble_eq_true rfl) ⟨Nat.zero_le _, Nat.zero_le _⟩ d_X11_takesKey_61) hS (fun x14 v15 H locs hp13 hw hS => ?_)
    obtain ⟨hI16, hK17, hp13, hk18, hF19⟩ := hp13
    have hK20 : Kp v v15 := Kp.tr hK8 hK17
    have hm21 : v15 400 (34) = g0 := hk18.trans hm9
    refine lv_if_eq (tgt := 98) hx hb d_X11_takesKey_64 (by decide) (fun c22 => ?_) (fun c22 => ?_)
    · have f23 := i_eq c22
      have r24 : Rg x14 0 0 := by obtain ⟨a1, a2⟩ := hp13; obtain ⟨b1, b2⟩ := (⟨by decide, by decide⟩ : Rg 0 0 0); have f := i_eq c22; exact ⟨by omega, by omega⟩
      refine lv_aload_n hx hb d_X11_takesKey_98 rfl (lv_at hl 0 rfl) ?_
      refine lv_bipush (v := 108) hx hb d_X11_takesKey_99 (by decide) ?_
      refine r_ci (r_runV (n := 1) (As := [.int 108]) (rest := []) X hw (ct_X11_takes_400 l D dA ad v15 hI16 108) gc_X11_205 (rfl : KD 400 = _) (by decide) rfl (by decide +kernel) ⟨rfl, rfl, Nat.le_of_ble_eq_true rfl, Nat.le_of_ble_eq_true rfl⟩ rfl hl.1 rfl (Nat.le_of_ble_eq_true rfl) ⟨Nat.zero_le _, Nat.zero_le _⟩ d_X11_takesKey_101) hS (fun x26 v27 H locs hp25 hw hS => ?_)
      obtain ⟨hI28, hK29, hp25, hk30, hF31⟩ := hp25
      have hK32 : Kp v v27 := Kp.tr hK20 hK29
      have hm33 : v27 400 (34) = g0 := hk30.trans hm21
      refine lv_if_eq (tgt := 116) hx hb d_X11_takesKey_104 (by decide) (fun c34 => ?_) (fun c34 => ?_)
      · have f35 := i_eq c34
        have r36 : Rg x26 0 0 := by obtain ⟨a1, a2⟩ := hp25; obtain ⟨b1, b2⟩ := (⟨by decide, by decide⟩ : Rg 0 0 0); have f := i_eq c34; exact ⟨by omega, by omega⟩
        refine lv_iconst (v := 0) hx hb d_X11_takesKey_116 (by decide) ?_
        exact r_zret X hr hlocks hw hS rfl ⟨hI28, hK32, (rg_w (⟨by decide, by decide⟩ : Rg 0 0 0) (by decide) (by decide)), (hm33.trans hg0.symm)⟩ d_X11_takesKey_117
      · have f37 := i_ne c34
        have r38 : Rg x26 1 1 := by obtain ⟨a1, a2⟩ := hp25; obtain ⟨b1, b2⟩ := (⟨by decide, by decide⟩ : Rg 0 0 0); have f := i_ne c34; exact ⟨by omega, by omega⟩
        refine lv_aload_n hx hb d_X11_takesKey_107 rfl (lv_at hl 0 rfl) ?_
        refine lv_bipush (v := 111) hx hb d_X11_takesKey_108 (by decide) ?_
        refine r_ci (r_runV (n := 1) (As := [.int 111]) (rest := []) X hw (ct_X11_takes_400 l D dA ad v27 hI28 111) gc_X11_205 (rfl : KD 400 = _) (by decide) rfl (by decide +kernel) ⟨rfl, rfl, Nat.le_of_ble_eq_true rfl, Nat.le_of_ble_eq_true rfl⟩ rfl hl.1 rfl (Nat.le_of_ble_eq_true rfl) ⟨Nat.zero_le _, Nat.zero_le _⟩ d_X11_takesKey_110) hS (fun x40 v41 H locs hp39 hw hS => ?_)
        obtain ⟨hI42, hK43, hp39, hk44, hF45⟩ := hp39
        have hK46 : Kp v v41 := Kp.tr hK32 hK43
        have hm47 : v41 400 (34) = g0 := hk44.trans hm33
        refine lv_if_ne (tgt := 118) hx hb d_X11_takesKey_113 (by decide) (fun c48 => ?_) (fun c48 => ?_)
        · have f49 := i_ne c48
          have r50 : Rg x40 1 1 := by obtain ⟨a1, a2⟩ := hp39; obtain ⟨b1, b2⟩ := (⟨by decide, by decide⟩ : Rg 0 0 0); have f := i_ne c48; exact ⟨by omega, by omega⟩
          refine lv_aload_n hx hb d_X11_takesKey_118 rfl (lv_at hl 0 rfl) ?_
          refine lv_bipush (v := 116) hx hb d_X11_takesKey_119 (by decide) ?_
          refine r_ci (r_runV (n := 1) (As := [.int 116]) (rest := []) X hw (ct_X11_takes_400 l D dA ad v41 hI42 116) gc_X11_205 (rfl : KD 400 = _) (by decide) rfl (by decide +kernel) ⟨rfl, rfl, Nat.le_of_ble_eq_true rfl, Nat.le_of_ble_eq_true rfl⟩ rfl hl.1 rfl (Nat.le_of_ble_eq_true rfl) ⟨Nat.zero_le _, Nat.zero_le _⟩ d_X11_takesKey_121) hS (fun x52 v53 H locs hp51 hw hS => ?_)
          obtain ⟨hI54, hK55, hp51, hk56, hF57⟩ := hp51
          have hK58 : Kp v v53 := Kp.tr hK46 hK55
          have hm59 : v53 400 (34) = g0 := hk56.trans hm47
          refine lv_if_eq (tgt := 136) hx hb d_X11_takesKey_124 (by decide) (fun c60 => ?_) (fun c60 => ?_)
          · have f61 := i_eq c60
            have r62 : Rg x52 0 0 := by obtain ⟨a1, a2⟩ := hp51; obtain ⟨b1, b2⟩ := (⟨by decide, by decide⟩ : Rg 0 0 0); have f := i_eq c60; exact ⟨by omega, by omega⟩
            refine lv_aload_n hx hb d_X11_takesKey_136 rfl (lv_at hl 0 rfl) ?_
            refine r_getr (r := 437) X hw FL_X11_99 (rfl : KD 400 = _) rfl d_X11_takesKey_137 ?_
            refine lv_iload_n hx hb d_X11_takesKey_140 rfl (lv_at hl 1 rfl) ?_
            refine lv_iconst (v := 2) hx hb d_X11_takesKey_141 (by decide) ?_
            refine r_iast X hw hS (rfl : KD 437 = _) (Rg.vp (b := 7) r_od (by decide)) rfl d_X11_takesKey_142 (fun H locs hw hS => ?_)
            obtain ⟨v63, ev63⟩ : ∃ z, z = up2 v53 437 od.toNatClampNeg 2 := ⟨_, rfl⟩
            rw [← ev63] at hw
            have hI64 : Inv v63 := by rw [ev63]; exact Inv.put0 hI54 _ rfl
            have hK65 : Kp v v63 := by rw [ev63]; exact Kp.put hK58 _ rfl
            have hm66 : v63 400 34 = g0 := by rw [ev63, up2_n _ _ (by omega)]; exact hm59
            refine lv_aload_n hx hb d_X11_takesKey_143 rfl (lv_at hl 0 rfl) ?_
            refine lv_bipush (v := 97) hx hb d_X11_takesKey_144 (by decide) ?_
            refine r_ci (r_runV (n := 1) (As := [.int 97]) (rest := []) X hw (ct_X11_takes_400 l D dA ad v63 hI64 97) gc_X11_205 (rfl : KD 400 = _) (by decide) rfl (by decide +kernel) ⟨rfl, rfl, Nat.le_of_ble_eq_true rfl, Nat.le_of_ble_eq_true rfl⟩ rfl hl.1 rfl (Nat.le_of_ble_eq_true rfl) ⟨Nat.zero_le _, Nat.zero_le _⟩ d_X11_takesKey_146) hS (fun x68 v69 H locs hp67 hw hS => ?_)
            obtain ⟨hI70, hK71, hp67, hk72, hF73⟩ := hp67
            have hK74 : Kp v v69 := Kp.tr hK65 hK71
            have hm75 : v69 400 (34) = g0 := hk72.trans hm66
            refine lv_if_eq (tgt := 165) hx hb d_X11_takesKey_149 (by decide) (fun c76 => ?_) (fun c76 => ?_)
            · have f77 := i_eq c76
              have r78 : Rg x68 0 0 := by obtain ⟨a1, a2⟩ := hp67; obtain ⟨b1, b2⟩ := (⟨by decide, by decide⟩ : Rg 0 0 0); have f := i_eq c76; exact ⟨by omega, by omega⟩
              refine lv_iconst (v := 0) hx hb d_X11_takesKey_165 (by decide) ?_
              exact r_zret X hr hlocks hw hS rfl ⟨hI70, hK74, (rg_w (⟨by decide, by decide⟩ : Rg 0 0 0) (by decide) (by decide)), (hm75.trans hg0.symm)⟩ d_X11_takesKey_166
            · have f79 := i_ne c76
              have r80 : Rg x68 1 1 := by obtain ⟨a1, a2⟩ := hp67; obtain ⟨b1, b2⟩ := (⟨by decide, by decide⟩ : Rg 0 0 0); have f := i_ne c76; exact ⟨by omega, by omega⟩
              refine lv_aload_n hx hb d_X11_takesKey_152 rfl (lv_at hl 0 rfl) ?_
              refine lv_bipush (v := 100) hx hb d_X11_takesKey_153 (by decide) ?_
              refine r_ci (r_runV (n := 1) (As := [.int 100]) (rest := []) X hw (ct_X11_takes_400 l D dA ad v69 hI70 100) gc_X11_205 (rfl : KD 400 = _) (by decide) rfl (by decide +kernel) ⟨rfl, rfl, Nat.le_of_ble_eq_true rfl, Nat.le_of_ble_eq_true rfl⟩ rfl hl.1 rfl (Nat.le_of_ble_eq_true rfl) ⟨Nat.zero_le _, Nat.zero_le _⟩ d_X11_takesKey_155) hS (fun x82 v83 H locs hp81 hw hS => ?_)
              obtain ⟨hI84, hK85, hp81, hk86, hF87⟩ := hp81
              have hK88 : Kp v v83 := Kp.tr hK74 hK85
              have hm89 : v83 400 (34) = g0 := hk86.trans hm75
              refine lv_if_eq (tgt := 165) hx hb d_X11_takesKey_158 (by decide) (fun c90 => ?_) (fun c90 => ?_)
              · have f91 := i_eq c90
                have r92 : Rg x82 0 0 := by obtain ⟨a1, a2⟩ := hp81; obtain ⟨b1, b2⟩ := (⟨by decide, by decide⟩ : Rg 0 0 0); have f := i_eq c90; exact ⟨by omega, by omega⟩
                refine lv_iconst (v := 0) hx hb d_X11_takesKey_165 (by decide) ?_
                exact r_zret X hr hlocks hw hS rfl ⟨hI84, hK88, (rg_w (⟨by decide, by decide⟩ : Rg 0 0 0) (by decide) (by decide)), (hm89.trans hg0.symm)⟩ d_X11_takesKey_166
              · have f93 := i_ne c90
                have r94 : Rg x82 1 1 := by obtain ⟨a1, a2⟩ := hp81; obtain ⟨b1, b2⟩ := (⟨by decide, by decide⟩ : Rg 0 0 0); have f := i_ne c90; exact ⟨by omega, by omega⟩
                refine lv_iconst (v := 1) hx hb d_X11_takesKey_161 (by decide) ?_
                refine lv_goto (tgt := 166) hx hb d_X11_takesKey_162 (by decide) ?_
                exact r_zret X hr hlocks hw hS rfl ⟨hI84, hK88, (rg_w (⟨by decide, by decide⟩ : Rg 1 1 1) (by decide) (by decide)), (hm89.trans hg0.symm)⟩ d_X11_takesKey_166
          · have f95 := i_ne c60
            have r96 : Rg x52 1 1 := by obtain ⟨a1, a2⟩ := hp51; obtain ⟨b1, b2⟩ := (⟨by decide, by decide⟩ : Rg 0 0 0); have f := i_ne c60; exact ⟨by omega, by omega⟩
            refine lv_aload_n hx hb d_X11_takesKey_127 rfl (lv_at hl 0 rfl) ?_
            refine r_getr (r := 437) X hw FL_X11_99 (rfl : KD 400 = _) rfl d_X11_takesKey_128 ?_
            refine lv_iload_n hx hb d_X11_takesKey_131 rfl (lv_at hl 1 rfl) ?_
            refine lv_iconst (v := 3) hx hb d_X11_takesKey_132 (by decide) ?_
            refine r_iast X hw hS (rfl : KD 437 = _) (Rg.vp (b := 7) r_od (by decide)) rfl d_X11_takesKey_133 (fun H locs hw hS => ?_)
            obtain ⟨v97, ev97⟩ : ∃ z, z = up2 v53 437 od.toNatClampNeg 3 := ⟨_, rfl⟩
            rw [← ev97] at hw
            have hI98 : Inv v97 := by rw [ev97]; exact Inv.put0 hI54 _ rfl
            have hK99 : Kp v v97 := by rw [ev97]; exact Kp.put hK58 _ rfl
            have hm100 : v97 400 34 = g0 := by rw [ev97, up2_n _ _ (by omega)]; exact hm59
            refine lv_iconst (v := 1) hx hb d_X11_takesKey_134 (by decide) ?_
            exact r_zret X hr hlocks hw hS rfl ⟨hI98, hK99, (rg_w (⟨by decide, by decide⟩ : Rg 1 1 1) (by decide) (by decide)), (hm100.trans hg0.symm)⟩ d_X11_takesKey_135
        · have f101 := i_eq c48
          have r102 : Rg x40 0 0 := by obtain ⟨a1, a2⟩ := hp39; obtain ⟨b1, b2⟩ := (⟨by decide, by decide⟩ : Rg 0 0 0); have f := i_eq c48; exact ⟨by omega, by omega⟩
          refine lv_iconst (v := 0) hx hb d_X11_takesKey_116 (by decide) ?_
          exact r_zret X hr hlocks hw hS rfl ⟨hI42, hK46, (rg_w (⟨by decide, by decide⟩ : Rg 0 0 0) (by decide) (by decide)), (hm47.trans hg0.symm)⟩ d_X11_takesKey_117
    · have f103 := i_ne c22
      have r104 : Rg x14 1 1 := by obtain ⟨a1, a2⟩ := hp13; obtain ⟨b1, b2⟩ := (⟨by decide, by decide⟩ : Rg 0 0 0); have f := i_ne c22; exact ⟨by omega, by omega⟩
      refine lv_aload_n hx hb d_X11_takesKey_67 rfl (lv_at hl 0 rfl) ?_
      refine r_getr (r := 437) X hw FL_X11_99 (rfl : KD 400 = _) rfl d_X11_takesKey_68 ?_
      refine lv_iload_n hx hb d_X11_takesKey_71 rfl (lv_at hl 1 rfl) ?_
      refine lv_iconst (v := 1) hx hb d_X11_takesKey_72 (by decide) ?_
      refine r_iast X hw hS (rfl : KD 437 = _) (Rg.vp (b := 7) r_od (by decide)) rfl d_X11_takesKey_73 (fun H locs hw hS => ?_)
      obtain ⟨v105, ev105⟩ : ∃ z, z = up2 v15 437 od.toNatClampNeg 1 := ⟨_, rfl⟩
      rw [← ev105] at hw
      have hI106 : Inv v105 := by rw [ev105]; exact Inv.put0 hI16 _ rfl
      have hK107 : Kp v v105 := by rw [ev105]; exact Kp.put hK20 _ rfl
      have hm108 : v105 400 34 = g0 := by rw [ev105, up2_n _ _ (by omega)]; exact hm21
      refine lv_aload_n hx hb d_X11_takesKey_74 rfl (lv_at hl 0 rfl) ?_
      refine lv_bipush (v := 115) hx hb d_X11_takesKey_75 (by decide) ?_
      refine r_ci (r_runV (n := 1) (As := [.int 115]) (rest := []) X hw (ct_X11_takes_400 l D dA ad v105 hI106 115) gc_X11_205 (rfl : KD 400 = _) (by decide) rfl (by decide +kernel) ⟨rfl, rfl, Nat.le_of_ble_eq_true rfl, Nat.le_of_ble_eq_true rfl⟩ rfl hl.1 rfl (Nat.le_of_ble_eq_true rfl) ⟨Nat.zero_le _, Nat.zero_le _⟩ d_X11_takesKey_77) hS (fun x110 v111 H locs hp109 hw hS => ?_)
      obtain ⟨hI112, hK113, hp109, hk114, hF115⟩ := hp109
      have hK116 : Kp v v111 := Kp.tr hK107 hK113
      have hm117 : v111 400 (34) = g0 := hk114.trans hm108
      refine lv_if_eq (tgt := 96) hx hb d_X11_takesKey_80 (by decide) (fun c118 => ?_) (fun c118 => ?_)
      · have f119 := i_eq c118
        have r120 : Rg x110 0 0 := by obtain ⟨a1, a2⟩ := hp109; obtain ⟨b1, b2⟩ := (⟨by decide, by decide⟩ : Rg 0 0 0); have f := i_eq c118; exact ⟨by omega, by omega⟩
        refine lv_iconst (v := 0) hx hb d_X11_takesKey_96 (by decide) ?_
        exact r_zret X hr hlocks hw hS rfl ⟨hI112, hK116, (rg_w (⟨by decide, by decide⟩ : Rg 0 0 0) (by decide) (by decide)), (hm117.trans hg0.symm)⟩ d_X11_takesKey_97
      · have f121 := i_ne c118
        have r122 : Rg x110 1 1 := by obtain ⟨a1, a2⟩ := hp109; obtain ⟨b1, b2⟩ := (⟨by decide, by decide⟩ : Rg 0 0 0); have f := i_ne c118; exact ⟨by omega, by omega⟩
        refine lv_aload_n hx hb d_X11_takesKey_83 rfl (lv_at hl 0 rfl) ?_
        refine lv_bipush (v := 107) hx hb d_X11_takesKey_84 (by decide) ?_
        refine r_ci (r_runV (n := 1) (As := [.int 107]) (rest := []) X hw (ct_X11_takes_400 l D dA ad v111 hI112 107) gc_X11_205 (rfl : KD 400 = _) (by decide) rfl (by decide +kernel) ⟨rfl, rfl, Nat.le_of_ble_eq_true rfl, Nat.le_of_ble_eq_true rfl⟩ rfl hl.1 rfl (Nat.le_of_ble_eq_true rfl) ⟨Nat.zero_le _, Nat.zero_le _⟩ d_X11_takesKey_86) hS (fun x124 v125 H locs hp123 hw hS => ?_)
        obtain ⟨hI126, hK127, hp123, hk128, hF129⟩ := hp123
        have hK130 : Kp v v125 := Kp.tr hK116 hK127
        have hm131 : v125 400 (34) = g0 := hk128.trans hm117
        refine lv_if_eq (tgt := 96) hx hb d_X11_takesKey_89 (by decide) (fun c132 => ?_) (fun c132 => ?_)
        · have f133 := i_eq c132
          have r134 : Rg x124 0 0 := by obtain ⟨a1, a2⟩ := hp123; obtain ⟨b1, b2⟩ := (⟨by decide, by decide⟩ : Rg 0 0 0); have f := i_eq c132; exact ⟨by omega, by omega⟩
          refine lv_iconst (v := 0) hx hb d_X11_takesKey_96 (by decide) ?_
          exact r_zret X hr hlocks hw hS rfl ⟨hI126, hK130, (rg_w (⟨by decide, by decide⟩ : Rg 0 0 0) (by decide) (by decide)), (hm131.trans hg0.symm)⟩ d_X11_takesKey_97
        · have f135 := i_ne c132
          have r136 : Rg x124 1 1 := by obtain ⟨a1, a2⟩ := hp123; obtain ⟨b1, b2⟩ := (⟨by decide, by decide⟩ : Rg 0 0 0); have f := i_ne c132; exact ⟨by omega, by omega⟩
          refine lv_iconst (v := 1) hx hb d_X11_takesKey_92 (by decide) ?_
          refine lv_goto (tgt := 97) hx hb d_X11_takesKey_93 (by decide) ?_
          exact r_zret X hr hlocks hw hS rfl ⟨hI126, hK130, (rg_w (⟨by decide, by decide⟩ : Rg 1 1 1) (by decide) (by decide)), (hm131.trans hg0.symm)⟩ d_X11_takesKey_97
  · have f137 := i_ne c10
    have r138 : Rg x2 1 1 := by obtain ⟨a1, a2⟩ := hp1; obtain ⟨b1, b2⟩ := (⟨by decide, by decide⟩ : Rg 0 0 0); have f := i_ne c10; exact ⟨by omega, by omega⟩
    refine lv_aload_n hx hb d_X11_takesKey_9 rfl (lv_at hl 0 rfl) ?_
    refine r_getr (r := 437) X hw FL_X11_99 (rfl : KD 400 = _) rfl d_X11_takesKey_10 ?_
    refine lv_iload_n hx hb d_X11_takesKey_13 rfl (lv_at hl 1 rfl) ?_
    refine lv_iconst (v := 0) hx hb d_X11_takesKey_14 (by decide) ?_
    refine r_iast X hw hS (rfl : KD 437 = _) (Rg.vp (b := 7) r_od (by decide)) rfl d_X11_takesKey_15 (fun H locs hw hS => ?_)
    obtain ⟨v139, ev139⟩ : ∃ z, z = up2 v3 437 od.toNatClampNeg 0 := ⟨_, rfl⟩
    rw [← ev139] at hw
    have hI140 : Inv v139 := by rw [ev139]; exact Inv.put0 hI4 _ rfl
    have hK141 : Kp v v139 := by rw [ev139]; exact Kp.put hK8 _ rfl
    have hm142 : v139 400 34 = g0 := by rw [ev139, up2_n _ _ (by omega)]; exact hm9
    refine lv_aload_n hx hb d_X11_takesKey_16 rfl (lv_at hl 0 rfl) ?_
    refine lv_bipush (v := 110) hx hb d_X11_takesKey_17 (by decide) ?_
    refine r_ci (r_runV (n := 1) (As := [.int 110]) (rest := []) X hw (ct_X11_takes_400 l D dA ad v139 hI140 110) gc_X11_205 (rfl : KD 400 = _) (by decide) rfl (by decide +kernel) ⟨rfl, rfl, Nat.le_of_ble_eq_true rfl, Nat.le_of_ble_eq_true rfl⟩ rfl hl.1 rfl (Nat.le_of_ble_eq_true rfl) ⟨Nat.zero_le _, Nat.zero_le _⟩ d_X11_takesKey_19) hS (fun x144 v145 H locs hp143 hw hS => ?_)
    obtain ⟨hI146, hK147, hp143, hk148, hF149⟩ := hp143
    have hK150 : Kp v v145 := Kp.tr hK141 hK147
    have hm151 : v145 400 (34) = g0 := hk148.trans hm142
    refine lv_if_eq (tgt := 56) hx hb d_X11_takesKey_22 (by decide) (fun c152 => ?_) (fun c152 => ?_)
    · have f153 := i_eq c152
      have r154 : Rg x144 0 0 := by obtain ⟨a1, a2⟩ := hp143; obtain ⟨b1, b2⟩ := (⟨by decide, by decide⟩ : Rg 0 0 0); have f := i_eq c152; exact ⟨by omega, by omega⟩
      refine lv_iconst (v := 0) hx hb d_X11_takesKey_56 (by decide) ?_
      exact r_zret X hr hlocks hw hS rfl ⟨hI146, hK150, (rg_w (⟨by decide, by decide⟩ : Rg 0 0 0) (by decide) (by decide)), (hm151.trans hg0.symm)⟩ d_X11_takesKey_57
    · have f155 := i_ne c152
      have r156 : Rg x144 1 1 := by obtain ⟨a1, a2⟩ := hp143; obtain ⟨b1, b2⟩ := (⟨by decide, by decide⟩ : Rg 0 0 0); have f := i_ne c152; exact ⟨by omega, by omega⟩
      refine lv_aload_n hx hb d_X11_takesKey_25 rfl (lv_at hl 0 rfl) ?_
      refine lv_bipush (v := 116) hx hb d_X11_takesKey_26 (by decide) ?_
      refine r_ci (r_runV (n := 1) (As := [.int 116]) (rest := []) X hw (ct_X11_takes_400 l D dA ad v145 hI146 116) gc_X11_205 (rfl : KD 400 = _) (by decide) rfl (by decide +kernel) ⟨rfl, rfl, Nat.le_of_ble_eq_true rfl, Nat.le_of_ble_eq_true rfl⟩ rfl hl.1 rfl (Nat.le_of_ble_eq_true rfl) ⟨Nat.zero_le _, Nat.zero_le _⟩ d_X11_takesKey_28) hS (fun x158 v159 H locs hp157 hw hS => ?_)
      obtain ⟨hI160, hK161, hp157, hk162, hF163⟩ := hp157
      have hK164 : Kp v v159 := Kp.tr hK150 hK161
      have hm165 : v159 400 (34) = g0 := hk162.trans hm151
      refine lv_if_eq (tgt := 56) hx hb d_X11_takesKey_31 (by decide) (fun c166 => ?_) (fun c166 => ?_)
      · have f167 := i_eq c166
        have r168 : Rg x158 0 0 := by obtain ⟨a1, a2⟩ := hp157; obtain ⟨b1, b2⟩ := (⟨by decide, by decide⟩ : Rg 0 0 0); have f := i_eq c166; exact ⟨by omega, by omega⟩
        refine lv_iconst (v := 0) hx hb d_X11_takesKey_56 (by decide) ?_
        exact r_zret X hr hlocks hw hS rfl ⟨hI160, hK164, (rg_w (⟨by decide, by decide⟩ : Rg 0 0 0) (by decide) (by decide)), (hm165.trans hg0.symm)⟩ d_X11_takesKey_57
      · have f169 := i_ne c166
        have r170 : Rg x158 1 1 := by obtain ⟨a1, a2⟩ := hp157; obtain ⟨b1, b2⟩ := (⟨by decide, by decide⟩ : Rg 0 0 0); have f := i_ne c166; exact ⟨by omega, by omega⟩
        refine lv_aload_n hx hb d_X11_takesKey_34 rfl (lv_at hl 0 rfl) ?_
        refine lv_bipush (v := 114) hx hb d_X11_takesKey_35 (by decide) ?_
        refine r_ci (r_runV (n := 1) (As := [.int 114]) (rest := []) X hw (ct_X11_takes_400 l D dA ad v159 hI160 114) gc_X11_205 (rfl : KD 400 = _) (by decide) rfl (by decide +kernel) ⟨rfl, rfl, Nat.le_of_ble_eq_true rfl, Nat.le_of_ble_eq_true rfl⟩ rfl hl.1 rfl (Nat.le_of_ble_eq_true rfl) ⟨Nat.zero_le _, Nat.zero_le _⟩ d_X11_takesKey_37) hS (fun x172 v173 H locs hp171 hw hS => ?_)
        obtain ⟨hI174, hK175, hp171, hk176, hF177⟩ := hp171
        have hK178 : Kp v v173 := Kp.tr hK164 hK175
        have hm179 : v173 400 (34) = g0 := hk176.trans hm165
        refine lv_if_eq (tgt := 56) hx hb d_X11_takesKey_40 (by decide) (fun c180 => ?_) (fun c180 => ?_)
        · have f181 := i_eq c180
          have r182 : Rg x172 0 0 := by obtain ⟨a1, a2⟩ := hp171; obtain ⟨b1, b2⟩ := (⟨by decide, by decide⟩ : Rg 0 0 0); have f := i_eq c180; exact ⟨by omega, by omega⟩
          refine lv_iconst (v := 0) hx hb d_X11_takesKey_56 (by decide) ?_
          exact r_zret X hr hlocks hw hS rfl ⟨hI174, hK178, (rg_w (⟨by decide, by decide⟩ : Rg 0 0 0) (by decide) (by decide)), (hm179.trans hg0.symm)⟩ d_X11_takesKey_57
        · have f183 := i_ne c180
          have r184 : Rg x172 1 1 := by obtain ⟨a1, a2⟩ := hp171; obtain ⟨b1, b2⟩ := (⟨by decide, by decide⟩ : Rg 0 0 0); have f := i_ne c180; exact ⟨by omega, by omega⟩
          refine lv_aload_n hx hb d_X11_takesKey_43 rfl (lv_at hl 0 rfl) ?_
          refine lv_bipush (v := 121) hx hb d_X11_takesKey_44 (by decide) ?_
          refine r_ci (r_runV (n := 1) (As := [.int 121]) (rest := []) X hw (ct_X11_takes_400 l D dA ad v173 hI174 121) gc_X11_205 (rfl : KD 400 = _) (by decide) rfl (by decide +kernel) ⟨rfl, rfl, Nat.le_of_ble_eq_true rfl, Nat.le_of_ble_eq_true rfl⟩ rfl hl.1 rfl (Nat.le_of_ble_eq_true rfl) ⟨Nat.zero_le _, Nat.zero_le _⟩ d_X11_takesKey_46) hS (fun x186 v187 H locs hp185 hw hS => ?_)
          obtain ⟨hI188, hK189, hp185, hk190, hF191⟩ := hp185
          have hK192 : Kp v v187 := Kp.tr hK178 hK189
          have hm193 : v187 400 (34) = g0 := hk190.trans hm179
          refine lv_if_eq (tgt := 56) hx hb d_X11_takesKey_49 (by decide) (fun c194 => ?_) (fun c194 => ?_)
          · have f195 := i_eq c194
            have r196 : Rg x186 0 0 := by obtain ⟨a1, a2⟩ := hp185; obtain ⟨b1, b2⟩ := (⟨by decide, by decide⟩ : Rg 0 0 0); have f := i_eq c194; exact ⟨by omega, by omega⟩
            refine lv_iconst (v := 0) hx hb d_X11_takesKey_56 (by decide) ?_
            exact r_zret X hr hlocks hw hS rfl ⟨hI188, hK192, (rg_w (⟨by decide, by decide⟩ : Rg 0 0 0) (by decide) (by decide)), (hm193.trans hg0.symm)⟩ d_X11_takesKey_57
          · have f197 := i_ne c194
            have r198 : Rg x186 1 1 := by obtain ⟨a1, a2⟩ := hp185; obtain ⟨b1, b2⟩ := (⟨by decide, by decide⟩ : Rg 0 0 0); have f := i_ne c194; exact ⟨by omega, by omega⟩
            refine lv_iconst (v := 1) hx hb d_X11_takesKey_52 (by decide) ?_
            refine lv_goto (tgt := 57) hx hb d_X11_takesKey_53 (by decide) ?_
            exact r_zret X hr hlocks hw hS rfl ⟨hI188, hK192, (rg_w (⟨by decide, by decide⟩ : Rg 1 1 1) (by decide) (by decide)), (hm193.trans hg0.symm)⟩ d_X11_takesKey_57
theorem d_X11_reads_0 : decode c_X11_reads 0 = .ok (.aload_n 0, 1) := by decide +kernel
theorem d_X11_reads_1 : decode c_X11_reads 1 = .ok (.iconst 0, 1) := by decide +kernel
theorem d_X11_reads_2 : decode c_X11_reads 2 = .ok (.putfield 193, 3) := by decide +kernel
theorem d_X11_reads_5 : decode c_X11_reads 5 = .ok (.aload_n 0, 1) := by decide +kernel
theorem d_X11_reads_6 : decode c_X11_reads 6 = .ok (.getfield 102, 3) := by decide +kernel
theorem d_X11_reads_9 : decode c_X11_reads 9 = .ok (.iload_n 1, 1) := by decide +kernel
theorem d_X11_reads_10 : decode c_X11_reads 10 = .ok (.iconst 0, 1) := by decide +kernel
theorem d_X11_reads_11 : decode c_X11_reads 11 = .ok (.iastore, 1) := by decide +kernel
theorem d_X11_reads_12 : decode c_X11_reads 12 = .ok (.aload_n 0, 1) := by decide +kernel
theorem d_X11_reads_13 : decode c_X11_reads 13 = .ok (.bipush 116, 2) := by decide +kernel
theorem d_X11_reads_15 : decode c_X11_reads 15 = .ok (.invokevirtual 205, 3) := by decide +kernel
theorem d_X11_reads_18 : decode c_X11_reads 18 = .ok (.ifCond .eq 47, 3) := by decide +kernel
theorem d_X11_reads_21 : decode c_X11_reads 21 = .ok (.aload_n 0, 1) := by decide +kernel
theorem d_X11_reads_22 : decode c_X11_reads 22 = .ok (.bipush 117, 2) := by decide +kernel
theorem d_X11_reads_24 : decode c_X11_reads 24 = .ok (.invokevirtual 205, 3) := by decide +kernel
theorem d_X11_reads_27 : decode c_X11_reads 27 = .ok (.ifCond .eq 38, 3) := by decide +kernel
theorem d_X11_reads_30 : decode c_X11_reads 30 = .ok (.aload_n 0, 1) := by decide +kernel
theorem d_X11_reads_31 : decode c_X11_reads 31 = .ok (.bipush 114, 2) := by decide +kernel
theorem d_X11_reads_33 : decode c_X11_reads 33 = .ok (.invokevirtual 205, 3) := by decide +kernel
theorem d_X11_reads_36 : decode c_X11_reads 36 = .ok (.ifCond .eq 29, 3) := by decide +kernel
theorem d_X11_reads_39 : decode c_X11_reads 39 = .ok (.aload_n 0, 1) := by decide +kernel
theorem d_X11_reads_40 : decode c_X11_reads 40 = .ok (.bipush 110, 2) := by decide +kernel
theorem d_X11_reads_42 : decode c_X11_reads 42 = .ok (.invokevirtual 205, 3) := by decide +kernel
theorem d_X11_reads_45 : decode c_X11_reads 45 = .ok (.ifCond .eq 20, 3) := by decide +kernel
theorem d_X11_reads_48 : decode c_X11_reads 48 = .ok (.aload_n 0, 1) := by decide +kernel
theorem d_X11_reads_49 : decode c_X11_reads 49 = .ok (.bipush 32, 2) := by decide +kernel
theorem d_X11_reads_51 : decode c_X11_reads 51 = .ok (.invokevirtual 205, 3) := by decide +kernel
theorem d_X11_reads_54 : decode c_X11_reads 54 = .ok (.ifCond .eq 11, 3) := by decide +kernel
theorem d_X11_reads_57 : decode c_X11_reads 57 = .ok (.aload_n 0, 1) := by decide +kernel
theorem d_X11_reads_58 : decode c_X11_reads 58 = .ok (.iload_n 1, 1) := by decide +kernel
theorem d_X11_reads_59 : decode c_X11_reads 59 = .ok (.invokevirtual 208, 3) := by decide +kernel
theorem d_X11_reads_62 : decode c_X11_reads 62 = .ok (.ifCond .ne 5, 3) := by decide +kernel
theorem d_X11_reads_65 : decode c_X11_reads 65 = .ok (.iconst 0, 1) := by decide +kernel
theorem d_X11_reads_66 : decode c_X11_reads 66 = .ok (.ireturn, 1) := by decide +kernel
theorem d_X11_reads_67 : decode c_X11_reads 67 = .ok (.aload_n 0, 1) := by decide +kernel
theorem d_X11_reads_68 : decode c_X11_reads 68 = .ok (.bipush 59, 2) := by decide +kernel
theorem d_X11_reads_70 : decode c_X11_reads 70 = .ok (.invokevirtual 205, 3) := by decide +kernel
theorem d_X11_reads_73 : decode c_X11_reads 73 = .ok (.ifCond .eq 48, 3) := by decide +kernel
theorem d_X11_reads_76 : decode c_X11_reads 76 = .ok (.aload_n 0, 1) := by decide +kernel
theorem d_X11_reads_77 : decode c_X11_reads 77 = .ok (.bipush 115, 2) := by decide +kernel
theorem d_X11_reads_79 : decode c_X11_reads 79 = .ok (.invokevirtual 205, 3) := by decide +kernel
theorem d_X11_reads_82 : decode c_X11_reads 82 = .ok (.ifCond .eq 39, 3) := by decide +kernel
theorem d_X11_reads_85 : decode c_X11_reads 85 = .ok (.aload_n 0, 1) := by decide +kernel
theorem d_X11_reads_86 : decode c_X11_reads 86 = .ok (.bipush 101, 2) := by decide +kernel
theorem d_X11_reads_88 : decode c_X11_reads 88 = .ok (.invokevirtual 205, 3) := by decide +kernel
theorem d_X11_reads_91 : decode c_X11_reads 91 = .ok (.ifCond .eq 30, 3) := by decide +kernel
theorem d_X11_reads_94 : decode c_X11_reads 94 = .ok (.aload_n 0, 1) := by decide +kernel
theorem d_X11_reads_95 : decode c_X11_reads 95 = .ok (.bipush 108, 2) := by decide +kernel
theorem d_X11_reads_97 : decode c_X11_reads 97 = .ok (.invokevirtual 205, 3) := by decide +kernel
theorem d_X11_reads_100 : decode c_X11_reads 100 = .ok (.ifCond .eq 21, 3) := by decide +kernel
theorem d_X11_reads_103 : decode c_X11_reads 103 = .ok (.aload_n 0, 1) := by decide +kernel
theorem d_X11_reads_104 : decode c_X11_reads 104 = .ok (.bipush 108, 2) := by decide +kernel
theorem d_X11_reads_106 : decode c_X11_reads 106 = .ok (.invokevirtual 205, 3) := by decide +kernel
theorem d_X11_reads_109 : decode c_X11_reads 109 = .ok (.ifCond .eq 12, 3) := by decide +kernel
theorem d_X11_reads_112 : decode c_X11_reads 112 = .ok (.aload_n 0, 1) := by decide +kernel
theorem d_X11_reads_113 : decode c_X11_reads 113 = .ok (.bipush 32, 2) := by decide +kernel
theorem d_X11_reads_115 : decode c_X11_reads 115 = .ok (.invokevirtual 205, 3) := by decide +kernel
theorem d_X11_reads_118 : decode c_X11_reads 118 = .ok (.ifCond .ne 5, 3) := by decide +kernel
theorem d_X11_reads_121 : decode c_X11_reads 121 = .ok (.iconst 0, 1) := by decide +kernel
theorem d_X11_reads_122 : decode c_X11_reads 122 = .ok (.ireturn, 1) := by decide +kernel
theorem d_X11_reads_123 : decode c_X11_reads 123 = .ok (.aload_n 0, 1) := by decide +kernel
theorem d_X11_reads_124 : decode c_X11_reads 124 = .ok (.iconst 2, 1) := by decide +kernel
theorem d_X11_reads_125 : decode c_X11_reads 125 = .ok (.invokevirtual 211, 3) := by decide +kernel
theorem d_X11_reads_128 : decode c_X11_reads 128 = .ok (.ifCond .ne 5, 3) := by decide +kernel
theorem d_X11_reads_131 : decode c_X11_reads 131 = .ok (.iconst 0, 1) := by decide +kernel
theorem d_X11_reads_132 : decode c_X11_reads 132 = .ok (.ireturn, 1) := by decide +kernel
theorem d_X11_reads_133 : decode c_X11_reads 133 = .ok (.aload_n 0, 1) := by decide +kernel
theorem d_X11_reads_134 : decode c_X11_reads 134 = .ok (.getfield 199, 3) := by decide +kernel
theorem d_X11_reads_137 : decode c_X11_reads 137 = .ok (.istore_n 2, 1) := by decide +kernel
theorem d_X11_reads_138 : decode c_X11_reads 138 = .ok (.aload_n 0, 1) := by decide +kernel
theorem d_X11_reads_139 : decode c_X11_reads 139 = .ok (.getfield 193, 3) := by decide +kernel
theorem d_X11_reads_142 : decode c_X11_reads 142 = .ok (.aload_n 0, 1) := by decide +kernel
theorem d_X11_reads_143 : decode c_X11_reads 143 = .ok (.getfield 190, 3) := by decide +kernel
theorem d_X11_reads_146 : decode c_X11_reads 146 = .ok (.if_icmp .ne 12, 3) := by decide +kernel
theorem d_X11_reads_149 : decode c_X11_reads 149 = .ok (.aload_n 0, 1) := by decide +kernel
theorem d_X11_reads_150 : decode c_X11_reads 150 = .ok (.getfield 115, 3) := by decide +kernel
theorem d_X11_reads_153 : decode c_X11_reads 153 = .ok (.iload_n 1, 1) := by decide +kernel
theorem d_X11_reads_154 : decode c_X11_reads 154 = .ok (.iload_n 2, 1) := by decide +kernel
theorem d_X11_reads_155 : decode c_X11_reads 155 = .ok (.iastore, 1) := by decide +kernel
theorem d_X11_reads_156 : decode c_X11_reads 156 = .ok (.iconst 1, 1) := by decide +kernel
theorem d_X11_reads_157 : decode c_X11_reads 157 = .ok (.ireturn, 1) := by decide +kernel
theorem d_X11_reads_158 : decode c_X11_reads 158 = .ok (.aload_n 0, 1) := by decide +kernel
theorem d_X11_reads_159 : decode c_X11_reads 159 = .ok (.getfield 102, 3) := by decide +kernel
theorem d_X11_reads_162 : decode c_X11_reads 162 = .ok (.iload_n 1, 1) := by decide +kernel
theorem d_X11_reads_163 : decode c_X11_reads 163 = .ok (.iaload, 1) := by decide +kernel
theorem d_X11_reads_164 : decode c_X11_reads 164 = .ok (.iconst 3, 1) := by decide +kernel
theorem d_X11_reads_165 : decode c_X11_reads 165 = .ok (.if_icmp .eq 39, 3) := by decide +kernel
theorem d_X11_reads_168 : decode c_X11_reads 168 = .ok (.aload_n 0, 1) := by decide +kernel
theorem d_X11_reads_169 : decode c_X11_reads 169 = .ok (.bipush 32, 2) := by decide +kernel
theorem d_X11_reads_171 : decode c_X11_reads 171 = .ok (.invokevirtual 205, 3) := by decide +kernel
theorem d_X11_reads_174 : decode c_X11_reads 174 = .ok (.ifCond .eq 30, 3) := by decide +kernel
theorem d_X11_reads_177 : decode c_X11_reads 177 = .ok (.aload_n 0, 1) := by decide +kernel
theorem d_X11_reads_178 : decode c_X11_reads 178 = .ok (.bipush 97, 2) := by decide +kernel
theorem d_X11_reads_180 : decode c_X11_reads 180 = .ok (.invokevirtual 205, 3) := by decide +kernel
theorem d_X11_reads_183 : decode c_X11_reads 183 = .ok (.ifCond .eq 21, 3) := by decide +kernel
theorem d_X11_reads_186 : decode c_X11_reads 186 = .ok (.aload_n 0, 1) := by decide +kernel
theorem d_X11_reads_187 : decode c_X11_reads 187 = .ok (.bipush 116, 2) := by decide +kernel
theorem d_X11_reads_189 : decode c_X11_reads 189 = .ok (.invokevirtual 205, 3) := by decide +kernel
theorem d_X11_reads_192 : decode c_X11_reads 192 = .ok (.ifCond .eq 12, 3) := by decide +kernel
theorem d_X11_reads_195 : decode c_X11_reads 195 = .ok (.aload_n 0, 1) := by decide +kernel
theorem d_X11_reads_196 : decode c_X11_reads 196 = .ok (.bipush 32, 2) := by decide +kernel
theorem d_X11_reads_198 : decode c_X11_reads 198 = .ok (.invokevirtual 205, 3) := by decide +kernel
theorem d_X11_reads_201 : decode c_X11_reads 201 = .ok (.ifCond .ne 5, 3) := by decide +kernel
theorem d_X11_reads_204 : decode c_X11_reads 204 = .ok (.iconst 0, 1) := by decide +kernel
theorem d_X11_reads_205 : decode c_X11_reads 205 = .ok (.ireturn, 1) := by decide +kernel
theorem d_X11_reads_206 : decode c_X11_reads 206 = .ok (.iconst 3, 1) := by decide +kernel
theorem d_X11_reads_207 : decode c_X11_reads 207 = .ok (.iload_n 1, 1) := by decide +kernel
theorem d_X11_reads_208 : decode c_X11_reads 208 = .ok (.imul, 1) := by decide +kernel
theorem d_X11_reads_209 : decode c_X11_reads 209 = .ok (.aload_n 0, 1) := by decide +kernel
theorem d_X11_reads_210 : decode c_X11_reads 210 = .ok (.getfield 102, 3) := by decide +kernel
theorem d_X11_reads_213 : decode c_X11_reads 213 = .ok (.iload_n 1, 1) := by decide +kernel
theorem d_X11_reads_214 : decode c_X11_reads 214 = .ok (.iaload, 1) := by decide +kernel
theorem d_X11_reads_215 : decode c_X11_reads 215 = .ok (.iadd, 1) := by decide +kernel
theorem d_X11_reads_216 : decode c_X11_reads 216 = .ok (.istore_n 3, 1) := by decide +kernel
theorem d_X11_reads_217 : decode c_X11_reads 217 = .ok (.aload_n 0, 1) := by decide +kernel
theorem d_X11_reads_218 : decode c_X11_reads 218 = .ok (.getfield 108, 3) := by decide +kernel
theorem d_X11_reads_221 : decode c_X11_reads 221 = .ok (.iload_n 3, 1) := by decide +kernel
theorem d_X11_reads_222 : decode c_X11_reads 222 = .ok (.aload_n 0, 1) := by decide +kernel
theorem d_X11_reads_223 : decode c_X11_reads 223 = .ok (.bipush 60, 2) := by decide +kernel
theorem d_X11_reads_225 : decode c_X11_reads 225 = .ok (.invokevirtual 196, 3) := by decide +kernel
theorem d_X11_reads_228 : decode c_X11_reads 228 = .ok (.bastore, 1) := by decide +kernel
theorem d_X11_reads_229 : decode c_X11_reads 229 = .ok (.aload_n 0, 1) := by decide +kernel
theorem d_X11_reads_230 : decode c_X11_reads 230 = .ok (.bipush 60, 2) := by decide +kernel
theorem d_X11_reads_232 : decode c_X11_reads 232 = .ok (.invokevirtual 205, 3) := by decide +kernel
theorem d_X11_reads_235 : decode c_X11_reads 235 = .ok (.ifCond .ne 12, 3) := by decide +kernel
theorem d_X11_reads_238 : decode c_X11_reads 238 = .ok (.aload_n 0, 1) := by decide +kernel
theorem d_X11_reads_239 : decode c_X11_reads 239 = .ok (.bipush 62, 2) := by decide +kernel
theorem d_X11_reads_241 : decode c_X11_reads 241 = .ok (.invokevirtual 205, 3) := by decide +kernel
theorem d_X11_reads_244 : decode c_X11_reads 244 = .ok (.ifCond .eq 11, 3) := by decide +kernel
theorem d_X11_reads_247 : decode c_X11_reads 247 = .ok (.aload_n 0, 1) := by decide +kernel
theorem d_X11_reads_248 : decode c_X11_reads 248 = .ok (.iconst 3, 1) := by decide +kernel
theorem d_X11_reads_249 : decode c_X11_reads 249 = .ok (.invokevirtual 211, 3) := by decide +kernel
theorem d_X11_reads_252 : decode c_X11_reads 252 = .ok (.ifCond .ne 5, 3) := by decide +kernel
theorem d_X11_reads_255 : decode c_X11_reads 255 = .ok (.iconst 0, 1) := by decide +kernel
theorem d_X11_reads_256 : decode c_X11_reads 256 = .ok (.ireturn, 1) := by decide +kernel
theorem d_X11_reads_257 : decode c_X11_reads 257 = .ok (.aload_n 0, 1) := by decide +kernel
theorem d_X11_reads_258 : decode c_X11_reads 258 = .ok (.getfield 105, 3) := by decide +kernel
theorem d_X11_reads_261 : decode c_X11_reads 261 = .ok (.iload_n 3, 1) := by decide +kernel
theorem d_X11_reads_262 : decode c_X11_reads 262 = .ok (.iload_n 2, 1) := by decide +kernel
theorem d_X11_reads_263 : decode c_X11_reads 263 = .ok (.iastore, 1) := by decide +kernel
theorem d_X11_reads_264 : decode c_X11_reads 264 = .ok (.aload_n 0, 1) := by decide +kernel
theorem d_X11_reads_265 : decode c_X11_reads 265 = .ok (.getfield 112, 3) := by decide +kernel
theorem d_X11_reads_268 : decode c_X11_reads 268 = .ok (.iload_n 3, 1) := by decide +kernel
theorem d_X11_reads_269 : decode c_X11_reads 269 = .ok (.aload_n 0, 1) := by decide +kernel
theorem d_X11_reads_270 : decode c_X11_reads 270 = .ok (.getfield 199, 3) := by decide +kernel
theorem d_X11_reads_273 : decode c_X11_reads 273 = .ok (.iastore, 1) := by decide +kernel
theorem d_X11_reads_274 : decode c_X11_reads 274 = .ok (.aload_n 0, 1) := by decide +kernel
theorem d_X11_reads_275 : decode c_X11_reads 275 = .ok (.getfield 102, 3) := by decide +kernel
theorem d_X11_reads_278 : decode c_X11_reads 278 = .ok (.iload_n 1, 1) := by decide +kernel
theorem d_X11_reads_279 : decode c_X11_reads 279 = .ok (.dup2, 1) := by decide +kernel
theorem d_X11_reads_280 : decode c_X11_reads 280 = .ok (.iaload, 1) := by decide +kernel
theorem d_X11_reads_281 : decode c_X11_reads 281 = .ok (.iconst 1, 1) := by decide +kernel
theorem d_X11_reads_282 : decode c_X11_reads 282 = .ok (.iadd, 1) := by decide +kernel
theorem d_X11_reads_283 : decode c_X11_reads 283 = .ok (.iastore, 1) := by decide +kernel
theorem d_X11_reads_284 : decode c_X11_reads 284 = .ok (.aload_n 0, 1) := by decide +kernel
theorem d_X11_reads_285 : decode c_X11_reads 285 = .ok (.bipush 44, 2) := by decide +kernel
theorem d_X11_reads_287 : decode c_X11_reads 287 = .ok (.invokevirtual 205, 3) := by decide +kernel
theorem d_X11_reads_290 : decode c_X11_reads 290 = .ok (.ifCond .ne 5, 3) := by decide +kernel
theorem d_X11_reads_293 : decode c_X11_reads 293 = .ok (.iconst 0, 1) := by decide +kernel
theorem d_X11_reads_294 : decode c_X11_reads 294 = .ok (.ireturn, 1) := by decide +kernel
theorem d_X11_reads_295 : decode c_X11_reads 295 = .ok (.goto (-172), 3) := by decide +kernel
set_option maxHeartbeats 4000000 in
set_option maxRecDepth 100000 in
theorem ct_X11_reads_400 (l : Launch) (D : va_G) (dA : Nat → ClassId) (ad : Nat → Nat) (v : tV) (hI : Inv v) (od : Int32) (r_od : Rg od 0 7) : Met l m_X11_reads [.code m_X11_reads c_X11_reads 4 (some .boolean)] ({ frames := 4, cells := 0, slots := 0, locals := 103 } : Room) (tP D dA ad v [.ref (ad 400), .int od]) (tQi D dA ad (fun r v' => Inv v' ∧ Kp v v' ∧ Rg r 0 1 ∧ v' 400 34 = v 400 34)) 0 0 (tA ad) := by
  refine tMet (by decide) (Nat.le_of_ble_eq_true rfl) ?_
  intro p e s m below meth c ls X hr hlocks hw hl
  have X : CX p s m ([.ref (ad 400), .int od] : List Value).toArray c c_X11_reads N_X11 4 D dA := X
  have hx := X.1
  have hb := X.2.1
  have hS : va_S (tA ad) s.heap s.heap [] := va_S.rf
  have hl : lv_has ls 4 [(0, .ref (ad 400)), (1, .int od)] := hl
  obtain ⟨g0, hg0⟩ : ∃ g, v 400 34 = g := ⟨_, rfl⟩
  have r_g0 : Rg g0 0 8 := by rw [← hg0]; exact hI 400 34 _ _ rfl
  have LL : ∀ n : Nat, (∀ (m0 : Int32) (v1 : tV) (H : Heap) (locs : List Loc) (ls : Array Slot), (3 - m0.toInt).toNat < n → Rg m0 0 3 → Inv v1 → Kp v v1 → v1 438 od.toNatClampNeg = m0 → v1 400 34 = g0 → tI D dA ad v1 H → va_S (tA ad) s.heap H locs → lv_has ls 4 [(0, .ref (ad 400)), (1, .int od)] → W p l e ({ frames := 4, cells := 0, slots := 0, locals := 103 } : Room) s m ([.ref (ad 400), .int od] : List Value).toArray below meth c H locs 0 0 (MQ below (tQi D dA ad (fun r v' => Inv v' ∧ Kp v v' ∧ Rg r 0 1 ∧ v' 400 34 = v 400 34)) ([.ref (ad 400), .int od] : List Value).toArray s 0 0 (tA ad)) (F0 m 123 ls [])) := by
    intro n
    induction n with
    | zero => intros; omega
    | succ n ih =>
      have ih0 := ih
      intro m0 v1 H locs ls hmu r_m0 hI1 hK1 h_m0 hfx0 hw hS hl
      refine lv_aload_n hx hb d_X11_reads_123 rfl (lv_at hl 0 rfl) ?_
      refine lv_iconst (v := 2) hx hb d_X11_reads_124 (by decide) ?_
      refine r_ci (r_runV (n := 1) (As := [.int 2]) (rest := []) X hw (ct_X11_takesNumber_2 l D dA ad v1 hI1 2 (⟨by decide, by decide⟩ : Rg 2 2 2)) gc_X11_211 (rfl : KD 400 = _) (by decide) rfl (by decide +kernel) ⟨rfl, rfl, Nat.le_of_ble_eq_true rfl, Nat.le_of_ble_eq_true rfl⟩ rfl hl.1 rfl (Nat.le_of_ble_eq_true rfl) ⟨Nat.zero_le _, Nat.zero_le _⟩ d_X11_reads_125) hS (fun x2 v3 H locs hp1 hw hS => ?_)
      obtain ⟨hI4, hK5, hp1, hk6, hF7, hx8⟩ := hp1
      have hK9 : Kp v v3 := Kp.tr hK1 hK5
      have hm10 : v3 438 (od.toNatClampNeg) = m0 := (hF7 438 (od.toNatClampNeg) (by decide)).trans h_m0
      have hm11 : v3 400 (34) = g0 := hk6.trans hfx0
      obtain ⟨x12, ex12⟩ : ∃ z, v3 400 43 = z := ⟨_, rfl⟩
      rw [ex12] at hx8
      refine lv_if_ne (tgt := 133) hx hb d_X11_reads_128 (by decide) (fun c13 => ?_) (fun c13 => ?_)
      · have f14 := i_ne c13
        have r15 : Rg x2 1 1 := by obtain ⟨a1, a2⟩ := hp1; obtain ⟨b1, b2⟩ := (⟨by decide, by decide⟩ : Rg 0 0 0); have f := i_ne c13; exact ⟨by omega, by omega⟩
        refine lv_aload_n hx hb d_X11_reads_133 rfl (lv_at hl 0 rfl) ?_
        refine r_geti X hw FL_X11_199 (rfl : KD 400 = _) rfl d_X11_reads_134 ?_
        rw [ex12]
        refine lv_istore_n (lv' := [(2, .int x12), (0, .ref (ad 400)), (1, .int od)]) hx hb d_X11_reads_137 rfl hl (by decide) rfl (fun ls hl => ?_)
        refine lv_aload_n hx hb d_X11_reads_138 rfl (lv_at hl 1 rfl) ?_
        refine r_geti X hw FL_X11_193 (rfl : KD 400 = _) rfl d_X11_reads_139 ?_
        refine lv_topi (fun x16 ex16 => ?_)
        have r17 : Rg x16 0 120 := by rw [ex16]; exact hI4 _ _ _ _ rfl
        have hm18 : v3 400 42 = x16 := ex16.symm
        refine lv_aload_n hx hb d_X11_reads_142 rfl (lv_at hl 1 rfl) ?_
        refine r_geti X hw FL_X11_190 (rfl : KD 400 = _) rfl d_X11_reads_143 ?_
        refine lv_topi (fun x19 ex19 => ?_)
        have r20 : Rg x19 0 120 := by rw [ex19]; exact hI4 _ _ _ _ rfl
        have hm21 : v3 400 33 = x19 := ex19.symm
        refine lv_icmp_ne (tgt := 158) hx hb d_X11_reads_146 (by decide) (fun c22 => ?_) (fun c22 => ?_)
        · have f23 := i_ne c22
          refine lv_aload_n hx hb d_X11_reads_158 rfl (lv_at hl 1 rfl) ?_
          refine r_getr (r := 438) X hw FL_X11_102 (rfl : KD 400 = _) rfl d_X11_reads_159 ?_
          refine lv_iload_n hx hb d_X11_reads_162 rfl (lv_at hl 2 rfl) ?_
          refine r_iald X hw (rfl : KD 438 = _) (Rg.vp (b := 7) r_od (by decide)) rfl d_X11_reads_163 ?_
          rw [hm10]
          refine lv_iconst (v := 3) hx hb d_X11_reads_164 (by decide) ?_
          refine lv_icmp_eq (tgt := 204) hx hb d_X11_reads_165 (by decide) (fun c24 => ?_) (fun c24 => ?_)
          · have f25 := i_eq c24
            have r26 : Rg m0 3 3 := by obtain ⟨a1, a2⟩ := r_m0; obtain ⟨b1, b2⟩ := (⟨by decide, by decide⟩ : Rg 3 3 3); have f := i_eq c24; exact ⟨by omega, by omega⟩
            refine lv_iconst (v := 0) hx hb d_X11_reads_204 (by decide) ?_
            exact r_zret X hr hlocks hw hS rfl ⟨hI4, hK9, (rg_w (⟨by decide, by decide⟩ : Rg 0 0 0) (by decide) (by decide)), (hm11.trans hg0.symm)⟩ d_X11_reads_205
          · have f27 := i_ne c24
            have r28 : Rg m0 0 2 := by obtain ⟨a1, a2⟩ := r_m0; obtain ⟨b1, b2⟩ := (⟨by decide, by decide⟩ : Rg 3 3 3); have f := i_ne c24; exact ⟨by omega, by omega⟩
            refine lv_aload_n hx hb d_X11_reads_168 rfl (lv_at hl 1 rfl) ?_
            refine lv_bipush (v := 32) hx hb d_X11_reads_169 (by decide) ?_
            refine r_ci (r_runV (n := 1) (As := [.int 32]) (rest := []) X hw (ct_X11_takes_400 l D dA ad v3 hI4 32) gc_X11_205 (rfl : KD 400 = _) (by decide) rfl (by decide +kernel) ⟨rfl, rfl, Nat.le_of_ble_eq_true rfl, Nat.le_of_ble_eq_true rfl⟩ rfl hl.1 rfl (Nat.le_of_ble_eq_true rfl) ⟨Nat.zero_le _, Nat.zero_le _⟩ d_X11_reads_171) hS (fun x30 v31 H locs hp29 hw hS => ?_)
            obtain ⟨hI32, hK33, hp29, hk34, hF35⟩ := hp29
            have hK36 : Kp v v31 := Kp.tr hK9 hK33
            have hm37 : v31 438 (od.toNatClampNeg) = m0 := (hF35 438 (od.toNatClampNeg) (by decide)).trans hm10
            have hm38 : v31 400 (34) = g0 := hk34.trans hm11
            refine lv_if_eq (tgt := 204) hx hb d_X11_reads_174 (by decide) (fun c39 => ?_) (fun c39 => ?_)
            · have f40 := i_eq c39
              have r41 : Rg x30 0 0 := by obtain ⟨a1, a2⟩ := hp29; obtain ⟨b1, b2⟩ := (⟨by decide, by decide⟩ : Rg 0 0 0); have f := i_eq c39; exact ⟨by omega, by omega⟩
              refine lv_iconst (v := 0) hx hb d_X11_reads_204 (by decide) ?_
              exact r_zret X hr hlocks hw hS rfl ⟨hI32, hK36, (rg_w (⟨by decide, by decide⟩ : Rg 0 0 0) (by decide) (by decide)), (hm38.trans hg0.symm)⟩ d_X11_reads_205
            · have f42 := i_ne c39
              have r43 : Rg x30 1 1 := by obtain ⟨a1, a2⟩ := hp29; obtain ⟨b1, b2⟩ := (⟨by decide, by decide⟩ : Rg 0 0 0); have f := i_ne c39; exact ⟨by omega, by omega⟩
              refine lv_aload_n hx hb d_X11_reads_177 rfl (lv_at hl 1 rfl) ?_
              refine lv_bipush (v := 97) hx hb d_X11_reads_178 (by decide) ?_
              refine r_ci (r_runV (n := 1) (As := [.int 97]) (rest := []) X hw (ct_X11_takes_400 l D dA ad v31 hI32 97) gc_X11_205 (rfl : KD 400 = _) (by decide) rfl (by decide +kernel) ⟨rfl, rfl, Nat.le_of_ble_eq_true rfl, Nat.le_of_ble_eq_true rfl⟩ rfl hl.1 rfl (Nat.le_of_ble_eq_true rfl) ⟨Nat.zero_le _, Nat.zero_le _⟩ d_X11_reads_180) hS (fun x45 v46 H locs hp44 hw hS => ?_)
              obtain ⟨hI47, hK48, hp44, hk49, hF50⟩ := hp44
              have hK51 : Kp v v46 := Kp.tr hK36 hK48
              have hm52 : v46 438 (od.toNatClampNeg) = m0 := (hF50 438 (od.toNatClampNeg) (by decide)).trans hm37
              have hm53 : v46 400 (34) = g0 := hk49.trans hm38
              refine lv_if_eq (tgt := 204) hx hb d_X11_reads_183 (by decide) (fun c54 => ?_) (fun c54 => ?_)
              · have f55 := i_eq c54
                have r56 : Rg x45 0 0 := by obtain ⟨a1, a2⟩ := hp44; obtain ⟨b1, b2⟩ := (⟨by decide, by decide⟩ : Rg 0 0 0); have f := i_eq c54; exact ⟨by omega, by omega⟩
                refine lv_iconst (v := 0) hx hb d_X11_reads_204 (by decide) ?_
                exact r_zret X hr hlocks hw hS rfl ⟨hI47, hK51, (rg_w (⟨by decide, by decide⟩ : Rg 0 0 0) (by decide) (by decide)), (hm53.trans hg0.symm)⟩ d_X11_reads_205
              · have f57 := i_ne c54
                have r58 : Rg x45 1 1 := by obtain ⟨a1, a2⟩ := hp44; obtain ⟨b1, b2⟩ := (⟨by decide, by decide⟩ : Rg 0 0 0); have f := i_ne c54; exact ⟨by omega, by omega⟩
                refine lv_aload_n hx hb d_X11_reads_186 rfl (lv_at hl 1 rfl) ?_
                refine lv_bipush (v := 116) hx hb d_X11_reads_187 (by decide) ?_
                refine r_ci (r_runV (n := 1) (As := [.int 116]) (rest := []) X hw (ct_X11_takes_400 l D dA ad v46 hI47 116) gc_X11_205 (rfl : KD 400 = _) (by decide) rfl (by decide +kernel) ⟨rfl, rfl, Nat.le_of_ble_eq_true rfl, Nat.le_of_ble_eq_true rfl⟩ rfl hl.1 rfl (Nat.le_of_ble_eq_true rfl) ⟨Nat.zero_le _, Nat.zero_le _⟩ d_X11_reads_189) hS (fun x60 v61 H locs hp59 hw hS => ?_)
                obtain ⟨hI62, hK63, hp59, hk64, hF65⟩ := hp59
                have hK66 : Kp v v61 := Kp.tr hK51 hK63
                have hm67 : v61 438 (od.toNatClampNeg) = m0 := (hF65 438 (od.toNatClampNeg) (by decide)).trans hm52
                have hm68 : v61 400 (34) = g0 := hk64.trans hm53
                refine lv_if_eq (tgt := 204) hx hb d_X11_reads_192 (by decide) (fun c69 => ?_) (fun c69 => ?_)
                · have f70 := i_eq c69
                  have r71 : Rg x60 0 0 := by obtain ⟨a1, a2⟩ := hp59; obtain ⟨b1, b2⟩ := (⟨by decide, by decide⟩ : Rg 0 0 0); have f := i_eq c69; exact ⟨by omega, by omega⟩
                  refine lv_iconst (v := 0) hx hb d_X11_reads_204 (by decide) ?_
                  exact r_zret X hr hlocks hw hS rfl ⟨hI62, hK66, (rg_w (⟨by decide, by decide⟩ : Rg 0 0 0) (by decide) (by decide)), (hm68.trans hg0.symm)⟩ d_X11_reads_205
                · have f72 := i_ne c69
                  have r73 : Rg x60 1 1 := by obtain ⟨a1, a2⟩ := hp59; obtain ⟨b1, b2⟩ := (⟨by decide, by decide⟩ : Rg 0 0 0); have f := i_ne c69; exact ⟨by omega, by omega⟩
                  refine lv_aload_n hx hb d_X11_reads_195 rfl (lv_at hl 1 rfl) ?_
                  refine lv_bipush (v := 32) hx hb d_X11_reads_196 (by decide) ?_
                  refine r_ci (r_runV (n := 1) (As := [.int 32]) (rest := []) X hw (ct_X11_takes_400 l D dA ad v61 hI62 32) gc_X11_205 (rfl : KD 400 = _) (by decide) rfl (by decide +kernel) ⟨rfl, rfl, Nat.le_of_ble_eq_true rfl, Nat.le_of_ble_eq_true rfl⟩ rfl hl.1 rfl (Nat.le_of_ble_eq_true rfl) ⟨Nat.zero_le _, Nat.zero_le _⟩ d_X11_reads_198) hS (fun x75 v76 H locs hp74 hw hS => ?_)
                  obtain ⟨hI77, hK78, hp74, hk79, hF80⟩ := hp74
                  have hK81 : Kp v v76 := Kp.tr hK66 hK78
                  have hm82 : v76 438 (od.toNatClampNeg) = m0 := (hF80 438 (od.toNatClampNeg) (by decide)).trans hm67
                  have hm83 : v76 400 (34) = g0 := hk79.trans hm68
                  refine lv_if_ne (tgt := 206) hx hb d_X11_reads_201 (by decide) (fun c84 => ?_) (fun c84 => ?_)
                  · have f85 := i_ne c84
                    have r86 : Rg x75 1 1 := by obtain ⟨a1, a2⟩ := hp74; obtain ⟨b1, b2⟩ := (⟨by decide, by decide⟩ : Rg 0 0 0); have f := i_ne c84; exact ⟨by omega, by omega⟩
                    refine lv_iconst (v := 3) hx hb d_X11_reads_206 (by decide) ?_
                    refine lv_iload_n hx hb d_X11_reads_207 rfl (lv_at hl 2 rfl) ?_
                    refine lv_imul hx hb d_X11_reads_208 ?_
                    refine lv_topi (fun x87 ex87 => ?_)
                    have r88 : Rg x87 0 21 := rg_mulc ex87 (⟨by decide, by decide⟩ : Rg 3 3 3) r_od (by decide) (by decide) (by decide)
                    have s89 : x87.toInt = 3 * od.toInt := rg_mule ex87 r_od rfl (by decide) (by decide)
                    refine lv_aload_n hx hb d_X11_reads_209 rfl (lv_at hl 1 rfl) ?_
                    refine r_getr (r := 438) X hw FL_X11_102 (rfl : KD 400 = _) rfl d_X11_reads_210 ?_
                    refine lv_iload_n hx hb d_X11_reads_213 rfl (lv_at hl 2 rfl) ?_
                    refine r_iald X hw (rfl : KD 438 = _) (Rg.vp (b := 7) r_od (by decide)) rfl d_X11_reads_214 ?_
                    rw [hm82]
                    refine lv_iadd hx hb d_X11_reads_215 ?_
                    refine lv_topi (fun x90 ex90 => ?_)
                    have r91 : Rg x90 0 23 := rg_add ex90 r88 r28 (by decide) (by decide)
                    have s92 : x90.toInt = x87.toInt + (m0 : Int32).toInt := by rw [ex90]; exact i_add (by obtain ⟨_, _⟩ := r88; obtain ⟨_, _⟩ := r28; omega) (by obtain ⟨_, _⟩ := r88; obtain ⟨_, _⟩ := r28; omega)
                    refine lv_istore_n (lv' := [(3, .int x90), (2, .int x12), (0, .ref (ad 400)), (1, .int od)]) hx hb d_X11_reads_216 rfl hl (by decide) rfl (fun ls hl => ?_)
                    refine lv_aload_n hx hb d_X11_reads_217 rfl (lv_at hl 2 rfl) ?_
                    refine r_getr (r := 440) X hw FL_X11_108 (rfl : KD 400 = _) rfl d_X11_reads_218 ?_
                    refine lv_iload_n hx hb d_X11_reads_221 rfl (lv_at hl 0 rfl) ?_
                    refine lv_aload_n hx hb d_X11_reads_222 rfl (lv_at hl 2 rfl) ?_
                    refine lv_bipush (v := 60) hx hb d_X11_reads_223 (by decide) ?_
                    refine r_ci (r_runV (n := 1) (As := [.int 60]) (rest := [.int x90, .ref (ad 440)]) X hw (ct_X11_has_400 l D dA ad v76 hI77 60) gc_X11_196 (rfl : KD 400 = _) (by decide) rfl (by decide +kernel) ⟨rfl, rfl, Nat.le_of_ble_eq_true rfl, Nat.le_of_ble_eq_true rfl⟩ rfl hl.1 rfl (Nat.le_of_ble_eq_true rfl) ⟨Nat.zero_le _, Nat.zero_le _⟩ d_X11_reads_225) hS (fun x94 v95 H locs hp93 hw hS => ?_)
                    obtain ⟨ev95, hp93⟩ := hp93
                    rw [ev95] at hw
                    rcases hp93 with ⟨rfl, w96a⟩ | rfl
                    · skip
                      obtain ⟨x97, ex97⟩ : ∃ z, v76 400 42 = z := ⟨_, rfl⟩
                      have r98 : Rg x97 0 119 := by have q := hI77 400 42 0 120 rfl; have z := w96a; rw [ex97] at q z; exact ⟨q.1, z⟩
                      refine r_zast (y := 1)  X hw hS (rfl : KD 440 = _) (Rg.vp (b := 23) r91 (by decide)) rfl rfl d_X11_reads_228 (fun H locs hw hS => ?_)
                      obtain ⟨v99, ev99⟩ : ∃ z, z = up2 v76 440 x90.toNatClampNeg 1 := ⟨_, rfl⟩
                      rw [← ev99] at hw
                      have hI100 : Inv v99 := by rw [ev99]; exact Inv.put0 hI77 _ rfl
                      have hK101 : Kp v v99 := by rw [ev99]; exact Kp.put hK81 _ rfl
                      have hm102 : v99 438 od.toNatClampNeg = m0 := by rw [ev99, up2_n _ _ (by omega)]; exact hm82
                      have hm103 : v99 400 34 = g0 := by rw [ev99, up2_n _ _ (by omega)]; exact hm83
                      have hm104 : v99 400 42 = x97 := by rw [ev99, up2_n _ _ (by omega)]; exact ex97
                      refine lv_aload_n hx hb d_X11_reads_229 rfl (lv_at hl 2 rfl) ?_
                      refine lv_bipush (v := 60) hx hb d_X11_reads_230 (by decide) ?_
                      refine r_ci (r_runV (n := 1) (As := [.int 60]) (rest := []) X hw (ct_X11_takes_400 l D dA ad v99 hI100 60) gc_X11_205 (rfl : KD 400 = _) (by decide) rfl (by decide +kernel) ⟨rfl, rfl, Nat.le_of_ble_eq_true rfl, Nat.le_of_ble_eq_true rfl⟩ rfl hl.1 rfl (Nat.le_of_ble_eq_true rfl) ⟨Nat.zero_le _, Nat.zero_le _⟩ d_X11_reads_232) hS (fun x106 v107 H locs hp105 hw hS => ?_)
                      obtain ⟨hI108, hK109, hp105, hk110, hF111⟩ := hp105
                      have hK112 : Kp v v107 := Kp.tr hK101 hK109
                      have hm113 : v107 438 (od.toNatClampNeg) = m0 := (hF111 438 (od.toNatClampNeg) (by decide)).trans hm102
                      have hm114 : v107 400 (34) = g0 := hk110.trans hm103
                      refine lv_if_ne (tgt := 247) hx hb d_X11_reads_235 (by decide) (fun c115 => ?_) (fun c115 => ?_)
                      · have f116 := i_ne c115
                        have r117 : Rg x106 1 1 := by obtain ⟨a1, a2⟩ := hp105; obtain ⟨b1, b2⟩ := (⟨by decide, by decide⟩ : Rg 0 0 0); have f := i_ne c115; exact ⟨by omega, by omega⟩
                        refine lv_aload_n hx hb d_X11_reads_247 rfl (lv_at hl 2 rfl) ?_
                        refine lv_iconst (v := 3) hx hb d_X11_reads_248 (by decide) ?_
                        refine r_ci (r_runV (n := 1) (As := [.int 3]) (rest := []) X hw (ct_X11_takesNumber_3 l D dA ad v107 hI108 3 (⟨by decide, by decide⟩ : Rg 3 3 3)) gc_X11_211 (rfl : KD 400 = _) (by decide) rfl (by decide +kernel) ⟨rfl, rfl, Nat.le_of_ble_eq_true rfl, Nat.le_of_ble_eq_true rfl⟩ rfl hl.1 rfl (Nat.le_of_ble_eq_true rfl) ⟨Nat.zero_le _, Nat.zero_le _⟩ d_X11_reads_249) hS (fun x119 v120 H locs hp118 hw hS => ?_)
                        obtain ⟨hI121, hK122, hp118, hk123, hF124, hx125⟩ := hp118
                        have hK126 : Kp v v120 := Kp.tr hK112 hK122
                        have hm127 : v120 438 (od.toNatClampNeg) = m0 := (hF124 438 (od.toNatClampNeg) (by decide)).trans hm113
                        have hm128 : v120 400 (34) = g0 := hk123.trans hm114
                        obtain ⟨x129, ex129⟩ : ∃ z, v120 400 43 = z := ⟨_, rfl⟩
                        rw [ex129] at hx125
                        refine lv_if_ne (tgt := 257) hx hb d_X11_reads_252 (by decide) (fun c130 => ?_) (fun c130 => ?_)
                        · have f131 := i_ne c130
                          have r132 : Rg x119 1 1 := by obtain ⟨a1, a2⟩ := hp118; obtain ⟨b1, b2⟩ := (⟨by decide, by decide⟩ : Rg 0 0 0); have f := i_ne c130; exact ⟨by omega, by omega⟩
                          refine lv_aload_n hx hb d_X11_reads_257 rfl (lv_at hl 2 rfl) ?_
                          refine r_getr (r := 439) X hw FL_X11_105 (rfl : KD 400 = _) rfl d_X11_reads_258 ?_
                          refine lv_iload_n hx hb d_X11_reads_261 rfl (lv_at hl 0 rfl) ?_
                          refine lv_iload_n hx hb d_X11_reads_262 rfl (lv_at hl 1 rfl) ?_
                          refine r_iast X hw hS (rfl : KD 439 = _) (Rg.vp (b := 23) r91 (by decide)) rfl d_X11_reads_263 (fun H locs hw hS => ?_)
                          obtain ⟨v133, ev133⟩ : ∃ z, z = up2 v120 439 x90.toNatClampNeg x12 := ⟨_, rfl⟩
                          rw [← ev133] at hw
                          have hI134 : Inv v133 := by rw [ev133]; exact Inv.putr hI121 rfl hx8
                          have hK135 : Kp v v133 := by rw [ev133]; exact Kp.put hK126 _ rfl
                          have hm136 : v133 438 od.toNatClampNeg = m0 := by rw [ev133, up2_n _ _ (by omega)]; exact hm127
                          have hm137 : v133 400 34 = g0 := by rw [ev133, up2_n _ _ (by omega)]; exact hm128
                          have hm138 : v133 400 43 = x129 := by rw [ev133, up2_n _ _ (by omega)]; exact ex129
                          refine lv_aload_n hx hb d_X11_reads_264 rfl (lv_at hl 2 rfl) ?_
                          refine r_getr (r := 441) X hw FL_X11_112 (rfl : KD 400 = _) rfl d_X11_reads_265 ?_
                          refine lv_iload_n hx hb d_X11_reads_268 rfl (lv_at hl 0 rfl) ?_
                          refine lv_aload_n hx hb d_X11_reads_269 rfl (lv_at hl 2 rfl) ?_
                          refine r_geti X hw FL_X11_199 (rfl : KD 400 = _) rfl d_X11_reads_270 ?_
                          rw [hm138]
                          refine r_iast X hw hS (rfl : KD 441 = _) (Rg.vp (b := 23) r91 (by decide)) rfl d_X11_reads_273 (fun H locs hw hS => ?_)
                          obtain ⟨v139, ev139⟩ : ∃ z, z = up2 v133 441 x90.toNatClampNeg x129 := ⟨_, rfl⟩
                          rw [← ev139] at hw
                          have hI140 : Inv v139 := by rw [ev139]; exact Inv.put0 hI134 _ rfl
                          have hK141 : Kp v v139 := by rw [ev139]; exact Kp.put hK135 _ rfl
                          have hm142 : v139 438 od.toNatClampNeg = m0 := by rw [ev139, up2_n _ _ (by omega)]; exact hm136
                          have hm143 : v139 400 34 = g0 := by rw [ev139, up2_n _ _ (by omega)]; exact hm137
                          have hm144 : v139 400 43 = x129 := by rw [ev139, up2_n _ _ (by omega)]; exact hm138
                          refine lv_aload_n hx hb d_X11_reads_274 rfl (lv_at hl 2 rfl) ?_
                          refine r_getr (r := 438) X hw FL_X11_102 (rfl : KD 400 = _) rfl d_X11_reads_275 ?_
                          refine lv_iload_n hx hb d_X11_reads_278 rfl (lv_at hl 3 rfl) ?_
                          refine lv_dup2_11 hx hb d_X11_reads_279 rfl rfl ?_
                          refine r_iald X hw (rfl : KD 438 = _) (Rg.vp (b := 7) r_od (by decide)) rfl d_X11_reads_280 ?_
                          rw [hm142]
                          refine lv_iconst (v := 1) hx hb d_X11_reads_281 (by decide) ?_
                          refine lv_iadd hx hb d_X11_reads_282 ?_
                          refine lv_topi (fun x145 ex145 => ?_)
                          have r146 : Rg x145 1 3 := rg_add ex145 r28 (⟨by decide, by decide⟩ : Rg 1 1 1) (by decide) (by decide)
                          have s147 : x145.toInt = m0.toInt + (1 : Int32).toInt := by rw [ex145]; exact i_add (by obtain ⟨_, _⟩ := r28; obtain ⟨_, _⟩ := (⟨by decide, by decide⟩ : Rg 1 1 1); omega) (by obtain ⟨_, _⟩ := r28; obtain ⟨_, _⟩ := (⟨by decide, by decide⟩ : Rg 1 1 1); omega)
                          have s147l : (1 : Int32).toInt = 1 := rfl
                          refine r_iast X hw hS (rfl : KD 438 = _) (Rg.vp (b := 7) r_od (by decide)) rfl d_X11_reads_283 (fun H locs hw hS => ?_)
                          obtain ⟨v148, ev148⟩ : ∃ z, z = up2 v139 438 od.toNatClampNeg x145 := ⟨_, rfl⟩
                          rw [← ev148] at hw
                          have hI149 : Inv v148 := by rw [ev148]; exact Inv.putr hI140 rfl (rg_w r146 (by decide) (by decide))
                          have hK150 : Kp v v148 := by rw [ev148]; exact Kp.put hK141 _ rfl
                          have hm151 : v148 400 34 = g0 := by rw [ev148, up2_n _ _ (by omega)]; exact hm143
                          have hm152 : v148 400 43 = x129 := by rw [ev148, up2_n _ _ (by omega)]; exact hm144
                          have hm153 : v148 438 od.toNatClampNeg = x145 := by rw [ev148, up2_s]
                          refine lv_aload_n hx hb d_X11_reads_284 rfl (lv_at hl 2 rfl) ?_
                          refine lv_bipush (v := 44) hx hb d_X11_reads_285 (by decide) ?_
                          refine r_ci (r_runV (n := 1) (As := [.int 44]) (rest := []) X hw (ct_X11_takes_400 l D dA ad v148 hI149 44) gc_X11_205 (rfl : KD 400 = _) (by decide) rfl (by decide +kernel) ⟨rfl, rfl, Nat.le_of_ble_eq_true rfl, Nat.le_of_ble_eq_true rfl⟩ rfl hl.1 rfl (Nat.le_of_ble_eq_true rfl) ⟨Nat.zero_le _, Nat.zero_le _⟩ d_X11_reads_287) hS (fun x155 v156 H locs hp154 hw hS => ?_)
                          obtain ⟨hI157, hK158, hp154, hk159, hF160⟩ := hp154
                          have hK161 : Kp v v156 := Kp.tr hK150 hK158
                          have hm162 : v156 400 (34) = g0 := hk159.trans hm151
                          have hm163 : v156 438 (od.toNatClampNeg) = x145 := (hF160 438 (od.toNatClampNeg) (by decide)).trans hm153
                          refine lv_if_ne (tgt := 295) hx hb d_X11_reads_290 (by decide) (fun c164 => ?_) (fun c164 => ?_)
                          · have f165 := i_ne c164
                            have r166 : Rg x155 1 1 := by obtain ⟨a1, a2⟩ := hp154; obtain ⟨b1, b2⟩ := (⟨by decide, by decide⟩ : Rg 0 0 0); have f := i_ne c164; exact ⟨by omega, by omega⟩
                            refine lv_goto (tgt := 123) hx hb d_X11_reads_295 (by decide) ?_
                            exact ih0 x145 v156 _ _ _ (by have := s89; have := s92; have := s147; obtain ⟨_, _⟩ := r146; omega) (rg_w r146 (by decide) (by decide)) hI157 hK161 hm163 hm162 hw hS (lv_sub hl [2, 3] rfl)
                          · have f167 := i_eq c164
                            have r168 : Rg x155 0 0 := by obtain ⟨a1, a2⟩ := hp154; obtain ⟨b1, b2⟩ := (⟨by decide, by decide⟩ : Rg 0 0 0); have f := i_eq c164; exact ⟨by omega, by omega⟩
                            refine lv_iconst (v := 0) hx hb d_X11_reads_293 (by decide) ?_
                            exact r_zret X hr hlocks hw hS rfl ⟨hI157, hK161, (rg_w (⟨by decide, by decide⟩ : Rg 0 0 0) (by decide) (by decide)), (hm162.trans hg0.symm)⟩ d_X11_reads_294
                        · have f169 := i_eq c130
                          have r170 : Rg x119 0 0 := by obtain ⟨a1, a2⟩ := hp118; obtain ⟨b1, b2⟩ := (⟨by decide, by decide⟩ : Rg 0 0 0); have f := i_eq c130; exact ⟨by omega, by omega⟩
                          refine lv_iconst (v := 0) hx hb d_X11_reads_255 (by decide) ?_
                          exact r_zret X hr hlocks hw hS rfl ⟨hI121, hK126, (rg_w (⟨by decide, by decide⟩ : Rg 0 0 0) (by decide) (by decide)), (hm128.trans hg0.symm)⟩ d_X11_reads_256
                      · have f171 := i_eq c115
                        have r172 : Rg x106 0 0 := by obtain ⟨a1, a2⟩ := hp105; obtain ⟨b1, b2⟩ := (⟨by decide, by decide⟩ : Rg 0 0 0); have f := i_eq c115; exact ⟨by omega, by omega⟩
                        refine lv_aload_n hx hb d_X11_reads_238 rfl (lv_at hl 2 rfl) ?_
                        refine lv_bipush (v := 62) hx hb d_X11_reads_239 (by decide) ?_
                        refine r_ci (r_runV (n := 1) (As := [.int 62]) (rest := []) X hw (ct_X11_takes_400 l D dA ad v107 hI108 62) gc_X11_205 (rfl : KD 400 = _) (by decide) rfl (by decide +kernel) ⟨rfl, rfl, Nat.le_of_ble_eq_true rfl, Nat.le_of_ble_eq_true rfl⟩ rfl hl.1 rfl (Nat.le_of_ble_eq_true rfl) ⟨Nat.zero_le _, Nat.zero_le _⟩ d_X11_reads_241) hS (fun x174 v175 H locs hp173 hw hS => ?_)
                        obtain ⟨hI176, hK177, hp173, hk178, hF179⟩ := hp173
                        have hK180 : Kp v v175 := Kp.tr hK112 hK177
                        have hm181 : v175 438 (od.toNatClampNeg) = m0 := (hF179 438 (od.toNatClampNeg) (by decide)).trans hm113
                        have hm182 : v175 400 (34) = g0 := hk178.trans hm114
                        refine lv_if_eq (tgt := 255) hx hb d_X11_reads_244 (by decide) (fun c183 => ?_) (fun c183 => ?_)
                        · have f184 := i_eq c183
                          have r185 : Rg x174 0 0 := by obtain ⟨a1, a2⟩ := hp173; obtain ⟨b1, b2⟩ := (⟨by decide, by decide⟩ : Rg 0 0 0); have f := i_eq c183; exact ⟨by omega, by omega⟩
                          refine lv_iconst (v := 0) hx hb d_X11_reads_255 (by decide) ?_
                          exact r_zret X hr hlocks hw hS rfl ⟨hI176, hK180, (rg_w (⟨by decide, by decide⟩ : Rg 0 0 0) (by decide) (by decide)), (hm182.trans hg0.symm)⟩ d_X11_reads_256
                        · have f186 := i_ne c183
                          have r187 : Rg x174 1 1 := by obtain ⟨a1, a2⟩ := hp173; obtain ⟨b1, b2⟩ := (⟨by decide, by decide⟩ : Rg 0 0 0); have f := i_ne c183; exact ⟨by omega, by omega⟩
                          refine lv_aload_n hx hb d_X11_reads_247 rfl (lv_at hl 2 rfl) ?_
                          refine lv_iconst (v := 3) hx hb d_X11_reads_248 (by decide) ?_
                          refine r_ci (r_runV (n := 1) (As := [.int 3]) (rest := []) X hw (ct_X11_takesNumber_3 l D dA ad v175 hI176 3 (⟨by decide, by decide⟩ : Rg 3 3 3)) gc_X11_211 (rfl : KD 400 = _) (by decide) rfl (by decide +kernel) ⟨rfl, rfl, Nat.le_of_ble_eq_true rfl, Nat.le_of_ble_eq_true rfl⟩ rfl hl.1 rfl (Nat.le_of_ble_eq_true rfl) ⟨Nat.zero_le _, Nat.zero_le _⟩ d_X11_reads_249) hS (fun x189 v190 H locs hp188 hw hS => ?_)
                          obtain ⟨hI191, hK192, hp188, hk193, hF194, hx195⟩ := hp188
                          have hK196 : Kp v v190 := Kp.tr hK180 hK192
                          have hm197 : v190 438 (od.toNatClampNeg) = m0 := (hF194 438 (od.toNatClampNeg) (by decide)).trans hm181
                          have hm198 : v190 400 (34) = g0 := hk193.trans hm182
                          obtain ⟨x199, ex199⟩ : ∃ z, v190 400 43 = z := ⟨_, rfl⟩
                          rw [ex199] at hx195
                          refine lv_if_ne (tgt := 257) hx hb d_X11_reads_252 (by decide) (fun c200 => ?_) (fun c200 => ?_)
                          · have f201 := i_ne c200
                            have r202 : Rg x189 1 1 := by obtain ⟨a1, a2⟩ := hp188; obtain ⟨b1, b2⟩ := (⟨by decide, by decide⟩ : Rg 0 0 0); have f := i_ne c200; exact ⟨by omega, by omega⟩
                            refine lv_aload_n hx hb d_X11_reads_257 rfl (lv_at hl 2 rfl) ?_
                            refine r_getr (r := 439) X hw FL_X11_105 (rfl : KD 400 = _) rfl d_X11_reads_258 ?_
                            refine lv_iload_n hx hb d_X11_reads_261 rfl (lv_at hl 0 rfl) ?_
                            refine lv_iload_n hx hb d_X11_reads_262 rfl (lv_at hl 1 rfl) ?_
                            refine r_iast X hw hS (rfl : KD 439 = _) (Rg.vp (b := 23) r91 (by decide)) rfl d_X11_reads_263 (fun H locs hw hS => ?_)
                            obtain ⟨v203, ev203⟩ : ∃ z, z = up2 v190 439 x90.toNatClampNeg x12 := ⟨_, rfl⟩
                            rw [← ev203] at hw
                            have hI204 : Inv v203 := by rw [ev203]; exact Inv.putr hI191 rfl hx8
                            have hK205 : Kp v v203 := by rw [ev203]; exact Kp.put hK196 _ rfl
                            have hm206 : v203 438 od.toNatClampNeg = m0 := by rw [ev203, up2_n _ _ (by omega)]; exact hm197
                            have hm207 : v203 400 34 = g0 := by rw [ev203, up2_n _ _ (by omega)]; exact hm198
                            have hm208 : v203 400 43 = x199 := by rw [ev203, up2_n _ _ (by omega)]; exact ex199
                            refine lv_aload_n hx hb d_X11_reads_264 rfl (lv_at hl 2 rfl) ?_
                            refine r_getr (r := 441) X hw FL_X11_112 (rfl : KD 400 = _) rfl d_X11_reads_265 ?_
                            refine lv_iload_n hx hb d_X11_reads_268 rfl (lv_at hl 0 rfl) ?_
                            refine lv_aload_n hx hb d_X11_reads_269 rfl (lv_at hl 2 rfl) ?_
                            refine r_geti X hw FL_X11_199 (rfl : KD 400 = _) rfl d_X11_reads_270 ?_
                            rw [hm208]
                            refine r_iast X hw hS (rfl : KD 441 = _) (Rg.vp (b := 23) r91 (by decide)) rfl d_X11_reads_273 (fun H locs hw hS => ?_)
                            obtain ⟨v209, ev209⟩ : ∃ z, z = up2 v203 441 x90.toNatClampNeg x199 := ⟨_, rfl⟩
                            rw [← ev209] at hw
                            have hI210 : Inv v209 := by rw [ev209]; exact Inv.put0 hI204 _ rfl
                            have hK211 : Kp v v209 := by rw [ev209]; exact Kp.put hK205 _ rfl
                            have hm212 : v209 438 od.toNatClampNeg = m0 := by rw [ev209, up2_n _ _ (by omega)]; exact hm206
                            have hm213 : v209 400 34 = g0 := by rw [ev209, up2_n _ _ (by omega)]; exact hm207
                            have hm214 : v209 400 43 = x199 := by rw [ev209, up2_n _ _ (by omega)]; exact hm208
                            refine lv_aload_n hx hb d_X11_reads_274 rfl (lv_at hl 2 rfl) ?_
                            refine r_getr (r := 438) X hw FL_X11_102 (rfl : KD 400 = _) rfl d_X11_reads_275 ?_
                            refine lv_iload_n hx hb d_X11_reads_278 rfl (lv_at hl 3 rfl) ?_
                            refine lv_dup2_11 hx hb d_X11_reads_279 rfl rfl ?_
                            refine r_iald X hw (rfl : KD 438 = _) (Rg.vp (b := 7) r_od (by decide)) rfl d_X11_reads_280 ?_
                            rw [hm212]
                            refine lv_iconst (v := 1) hx hb d_X11_reads_281 (by decide) ?_
                            refine lv_iadd hx hb d_X11_reads_282 ?_
                            refine lv_topi (fun x215 ex215 => ?_)
                            have r216 : Rg x215 1 3 := rg_add ex215 r28 (⟨by decide, by decide⟩ : Rg 1 1 1) (by decide) (by decide)
                            have s217 : x215.toInt = m0.toInt + (1 : Int32).toInt := by rw [ex215]; exact i_add (by obtain ⟨_, _⟩ := r28; obtain ⟨_, _⟩ := (⟨by decide, by decide⟩ : Rg 1 1 1); omega) (by obtain ⟨_, _⟩ := r28; obtain ⟨_, _⟩ := (⟨by decide, by decide⟩ : Rg 1 1 1); omega)
                            have s217l : (1 : Int32).toInt = 1 := rfl
                            refine r_iast X hw hS (rfl : KD 438 = _) (Rg.vp (b := 7) r_od (by decide)) rfl d_X11_reads_283 (fun H locs hw hS => ?_)
                            obtain ⟨v218, ev218⟩ : ∃ z, z = up2 v209 438 od.toNatClampNeg x215 := ⟨_, rfl⟩
                            rw [← ev218] at hw
                            have hI219 : Inv v218 := by rw [ev218]; exact Inv.putr hI210 rfl (rg_w r216 (by decide) (by decide))
                            have hK220 : Kp v v218 := by rw [ev218]; exact Kp.put hK211 _ rfl
                            have hm221 : v218 400 34 = g0 := by rw [ev218, up2_n _ _ (by omega)]; exact hm213
                            have hm222 : v218 400 43 = x199 := by rw [ev218, up2_n _ _ (by omega)]; exact hm214
                            have hm223 : v218 438 od.toNatClampNeg = x215 := by rw [ev218, up2_s]
                            refine lv_aload_n hx hb d_X11_reads_284 rfl (lv_at hl 2 rfl) ?_
                            refine lv_bipush (v := 44) hx hb d_X11_reads_285 (by decide) ?_
                            refine r_ci (r_runV (n := 1) (As := [.int 44]) (rest := []) X hw (ct_X11_takes_400 l D dA ad v218 hI219 44) gc_X11_205 (rfl : KD 400 = _) (by decide) rfl (by decide +kernel) ⟨rfl, rfl, Nat.le_of_ble_eq_true rfl, Nat.le_of_ble_eq_true rfl⟩ rfl hl.1 rfl (Nat.le_of_ble_eq_true rfl) ⟨Nat.zero_le _, Nat.zero_le _⟩ d_X11_reads_287) hS (fun x225 v226 H locs hp224 hw hS => ?_)
                            obtain ⟨hI227, hK228, hp224, hk229, hF230⟩ := hp224
                            have hK231 : Kp v v226 := Kp.tr hK220 hK228
                            have hm232 : v226 400 (34) = g0 := hk229.trans hm221
                            have hm233 : v226 438 (od.toNatClampNeg) = x215 := (hF230 438 (od.toNatClampNeg) (by decide)).trans hm223
                            refine lv_if_ne (tgt := 295) hx hb d_X11_reads_290 (by decide) (fun c234 => ?_) (fun c234 => ?_)
                            · have f235 := i_ne c234
                              have r236 : Rg x225 1 1 := by obtain ⟨a1, a2⟩ := hp224; obtain ⟨b1, b2⟩ := (⟨by decide, by decide⟩ : Rg 0 0 0); have f := i_ne c234; exact ⟨by omega, by omega⟩
                              refine lv_goto (tgt := 123) hx hb d_X11_reads_295 (by decide) ?_
                              exact ih0 x215 v226 _ _ _ (by have := s89; have := s92; have := s217; obtain ⟨_, _⟩ := r216; omega) (rg_w r216 (by decide) (by decide)) hI227 hK231 hm233 hm232 hw hS (lv_sub hl [2, 3] rfl)
                            · have f237 := i_eq c234
                              have r238 : Rg x225 0 0 := by obtain ⟨a1, a2⟩ := hp224; obtain ⟨b1, b2⟩ := (⟨by decide, by decide⟩ : Rg 0 0 0); have f := i_eq c234; exact ⟨by omega, by omega⟩
                              refine lv_iconst (v := 0) hx hb d_X11_reads_293 (by decide) ?_
                              exact r_zret X hr hlocks hw hS rfl ⟨hI227, hK231, (rg_w (⟨by decide, by decide⟩ : Rg 0 0 0) (by decide) (by decide)), (hm232.trans hg0.symm)⟩ d_X11_reads_294
                          · have f239 := i_eq c200
                            have r240 : Rg x189 0 0 := by obtain ⟨a1, a2⟩ := hp188; obtain ⟨b1, b2⟩ := (⟨by decide, by decide⟩ : Rg 0 0 0); have f := i_eq c200; exact ⟨by omega, by omega⟩
                            refine lv_iconst (v := 0) hx hb d_X11_reads_255 (by decide) ?_
                            exact r_zret X hr hlocks hw hS rfl ⟨hI191, hK196, (rg_w (⟨by decide, by decide⟩ : Rg 0 0 0) (by decide) (by decide)), (hm198.trans hg0.symm)⟩ d_X11_reads_256
                    · skip
                      refine r_zast (y := 0)  X hw hS (rfl : KD 440 = _) (Rg.vp (b := 23) r91 (by decide)) rfl rfl d_X11_reads_228 (fun H locs hw hS => ?_)
                      obtain ⟨v241, ev241⟩ : ∃ z, z = up2 v76 440 x90.toNatClampNeg 0 := ⟨_, rfl⟩
                      rw [← ev241] at hw
                      have hI242 : Inv v241 := by rw [ev241]; exact Inv.put0 hI77 _ rfl
                      have hK243 : Kp v v241 := by rw [ev241]; exact Kp.put hK81 _ rfl
                      have hm244 : v241 438 od.toNatClampNeg = m0 := by rw [ev241, up2_n _ _ (by omega)]; exact hm82
                      have hm245 : v241 400 34 = g0 := by rw [ev241, up2_n _ _ (by omega)]; exact hm83
                      refine lv_aload_n hx hb d_X11_reads_229 rfl (lv_at hl 2 rfl) ?_
                      refine lv_bipush (v := 60) hx hb d_X11_reads_230 (by decide) ?_
                      refine r_ci (r_runV (n := 1) (As := [.int 60]) (rest := []) X hw (ct_X11_takes_400 l D dA ad v241 hI242 60) gc_X11_205 (rfl : KD 400 = _) (by decide) rfl (by decide +kernel) ⟨rfl, rfl, Nat.le_of_ble_eq_true rfl, Nat.le_of_ble_eq_true rfl⟩ rfl hl.1 rfl (Nat.le_of_ble_eq_true rfl) ⟨Nat.zero_le _, Nat.zero_le _⟩ d_X11_reads_232) hS (fun x247 v248 H locs hp246 hw hS => ?_)
                      obtain ⟨hI249, hK250, hp246, hk251, hF252⟩ := hp246
                      have hK253 : Kp v v248 := Kp.tr hK243 hK250
                      have hm254 : v248 438 (od.toNatClampNeg) = m0 := (hF252 438 (od.toNatClampNeg) (by decide)).trans hm244
                      have hm255 : v248 400 (34) = g0 := hk251.trans hm245
                      refine lv_if_ne (tgt := 247) hx hb d_X11_reads_235 (by decide) (fun c256 => ?_) (fun c256 => ?_)
                      · have f257 := i_ne c256
                        have r258 : Rg x247 1 1 := by obtain ⟨a1, a2⟩ := hp246; obtain ⟨b1, b2⟩ := (⟨by decide, by decide⟩ : Rg 0 0 0); have f := i_ne c256; exact ⟨by omega, by omega⟩
                        refine lv_aload_n hx hb d_X11_reads_247 rfl (lv_at hl 2 rfl) ?_
                        refine lv_iconst (v := 3) hx hb d_X11_reads_248 (by decide) ?_
                        refine r_ci (r_runV (n := 1) (As := [.int 3]) (rest := []) X hw (ct_X11_takesNumber_3 l D dA ad v248 hI249 3 (⟨by decide, by decide⟩ : Rg 3 3 3)) gc_X11_211 (rfl : KD 400 = _) (by decide) rfl (by decide +kernel) ⟨rfl, rfl, Nat.le_of_ble_eq_true rfl, Nat.le_of_ble_eq_true rfl⟩ rfl hl.1 rfl (Nat.le_of_ble_eq_true rfl) ⟨Nat.zero_le _, Nat.zero_le _⟩ d_X11_reads_249) hS (fun x260 v261 H locs hp259 hw hS => ?_)
                        obtain ⟨hI262, hK263, hp259, hk264, hF265, hx266⟩ := hp259
                        have hK267 : Kp v v261 := Kp.tr hK253 hK263
                        have hm268 : v261 438 (od.toNatClampNeg) = m0 := (hF265 438 (od.toNatClampNeg) (by decide)).trans hm254
                        have hm269 : v261 400 (34) = g0 := hk264.trans hm255
                        obtain ⟨x270, ex270⟩ : ∃ z, v261 400 43 = z := ⟨_, rfl⟩
                        rw [ex270] at hx266
                        refine lv_if_ne (tgt := 257) hx hb d_X11_reads_252 (by decide) (fun c271 => ?_) (fun c271 => ?_)
                        · have f272 := i_ne c271
                          have r273 : Rg x260 1 1 := by obtain ⟨a1, a2⟩ := hp259; obtain ⟨b1, b2⟩ := (⟨by decide, by decide⟩ : Rg 0 0 0); have f := i_ne c271; exact ⟨by omega, by omega⟩
                          refine lv_aload_n hx hb d_X11_reads_257 rfl (lv_at hl 2 rfl) ?_
                          refine r_getr (r := 439) X hw FL_X11_105 (rfl : KD 400 = _) rfl d_X11_reads_258 ?_
                          refine lv_iload_n hx hb d_X11_reads_261 rfl (lv_at hl 0 rfl) ?_
                          refine lv_iload_n hx hb d_X11_reads_262 rfl (lv_at hl 1 rfl) ?_
                          refine r_iast X hw hS (rfl : KD 439 = _) (Rg.vp (b := 23) r91 (by decide)) rfl d_X11_reads_263 (fun H locs hw hS => ?_)
                          obtain ⟨v274, ev274⟩ : ∃ z, z = up2 v261 439 x90.toNatClampNeg x12 := ⟨_, rfl⟩
                          rw [← ev274] at hw
                          have hI275 : Inv v274 := by rw [ev274]; exact Inv.putr hI262 rfl hx8
                          have hK276 : Kp v v274 := by rw [ev274]; exact Kp.put hK267 _ rfl
                          have hm277 : v274 438 od.toNatClampNeg = m0 := by rw [ev274, up2_n _ _ (by omega)]; exact hm268
                          have hm278 : v274 400 34 = g0 := by rw [ev274, up2_n _ _ (by omega)]; exact hm269
                          have hm279 : v274 400 43 = x270 := by rw [ev274, up2_n _ _ (by omega)]; exact ex270
                          refine lv_aload_n hx hb d_X11_reads_264 rfl (lv_at hl 2 rfl) ?_
                          refine r_getr (r := 441) X hw FL_X11_112 (rfl : KD 400 = _) rfl d_X11_reads_265 ?_
                          refine lv_iload_n hx hb d_X11_reads_268 rfl (lv_at hl 0 rfl) ?_
                          refine lv_aload_n hx hb d_X11_reads_269 rfl (lv_at hl 2 rfl) ?_
                          refine r_geti X hw FL_X11_199 (rfl : KD 400 = _) rfl d_X11_reads_270 ?_
                          rw [hm279]
                          refine r_iast X hw hS (rfl : KD 441 = _) (Rg.vp (b := 23) r91 (by decide)) rfl d_X11_reads_273 (fun H locs hw hS => ?_)
                          obtain ⟨v280, ev280⟩ : ∃ z, z = up2 v274 441 x90.toNatClampNeg x270 := ⟨_, rfl⟩
                          rw [← ev280] at hw
                          have hI281 : Inv v280 := by rw [ev280]; exact Inv.put0 hI275 _ rfl
                          have hK282 : Kp v v280 := by rw [ev280]; exact Kp.put hK276 _ rfl
                          have hm283 : v280 438 od.toNatClampNeg = m0 := by rw [ev280, up2_n _ _ (by omega)]; exact hm277
                          have hm284 : v280 400 34 = g0 := by rw [ev280, up2_n _ _ (by omega)]; exact hm278
                          have hm285 : v280 400 43 = x270 := by rw [ev280, up2_n _ _ (by omega)]; exact hm279
                          refine lv_aload_n hx hb d_X11_reads_274 rfl (lv_at hl 2 rfl) ?_
                          refine r_getr (r := 438) X hw FL_X11_102 (rfl : KD 400 = _) rfl d_X11_reads_275 ?_
                          refine lv_iload_n hx hb d_X11_reads_278 rfl (lv_at hl 3 rfl) ?_
                          refine lv_dup2_11 hx hb d_X11_reads_279 rfl rfl ?_
                          refine r_iald X hw (rfl : KD 438 = _) (Rg.vp (b := 7) r_od (by decide)) rfl d_X11_reads_280 ?_
                          rw [hm283]
                          refine lv_iconst (v := 1) hx hb d_X11_reads_281 (by decide) ?_
                          refine lv_iadd hx hb d_X11_reads_282 ?_
                          refine lv_topi (fun x286 ex286 => ?_)
                          have r287 : Rg x286 1 3 := rg_add ex286 r28 (⟨by decide, by decide⟩ : Rg 1 1 1) (by decide) (by decide)
                          have s288 : x286.toInt = m0.toInt + (1 : Int32).toInt := by rw [ex286]; exact i_add (by obtain ⟨_, _⟩ := r28; obtain ⟨_, _⟩ := (⟨by decide, by decide⟩ : Rg 1 1 1); omega) (by obtain ⟨_, _⟩ := r28; obtain ⟨_, _⟩ := (⟨by decide, by decide⟩ : Rg 1 1 1); omega)
                          have s288l : (1 : Int32).toInt = 1 := rfl
                          refine r_iast X hw hS (rfl : KD 438 = _) (Rg.vp (b := 7) r_od (by decide)) rfl d_X11_reads_283 (fun H locs hw hS => ?_)
                          obtain ⟨v289, ev289⟩ : ∃ z, z = up2 v280 438 od.toNatClampNeg x286 := ⟨_, rfl⟩
                          rw [← ev289] at hw
                          have hI290 : Inv v289 := by rw [ev289]; exact Inv.putr hI281 rfl (rg_w r287 (by decide) (by decide))
                          have hK291 : Kp v v289 := by rw [ev289]; exact Kp.put hK282 _ rfl
                          have hm292 : v289 400 34 = g0 := by rw [ev289, up2_n _ _ (by omega)]; exact hm284
                          have hm293 : v289 400 43 = x270 := by rw [ev289, up2_n _ _ (by omega)]; exact hm285
                          have hm294 : v289 438 od.toNatClampNeg = x286 := by rw [ev289, up2_s]
                          refine lv_aload_n hx hb d_X11_reads_284 rfl (lv_at hl 2 rfl) ?_
                          refine lv_bipush (v := 44) hx hb d_X11_reads_285 (by decide) ?_
                          refine r_ci (r_runV (n := 1) (As := [.int 44]) (rest := []) X hw (ct_X11_takes_400 l D dA ad v289 hI290 44) gc_X11_205 (rfl : KD 400 = _) (by decide) rfl (by decide +kernel) ⟨rfl, rfl, Nat.le_of_ble_eq_true rfl, Nat.le_of_ble_eq_true rfl⟩ rfl hl.1 rfl (Nat.le_of_ble_eq_true rfl) ⟨Nat.zero_le _, Nat.zero_le _⟩ d_X11_reads_287) hS (fun x296 v297 H locs hp295 hw hS => ?_)
                          obtain ⟨hI298, hK299, hp295, hk300, hF301⟩ := hp295
                          have hK302 : Kp v v297 := Kp.tr hK291 hK299
                          have hm303 : v297 400 (34) = g0 := hk300.trans hm292
                          have hm304 : v297 438 (od.toNatClampNeg) = x286 := (hF301 438 (od.toNatClampNeg) (by decide)).trans hm294
                          refine lv_if_ne (tgt := 295) hx hb d_X11_reads_290 (by decide) (fun c305 => ?_) (fun c305 => ?_)
                          · have f306 := i_ne c305
                            have r307 : Rg x296 1 1 := by obtain ⟨a1, a2⟩ := hp295; obtain ⟨b1, b2⟩ := (⟨by decide, by decide⟩ : Rg 0 0 0); have f := i_ne c305; exact ⟨by omega, by omega⟩
                            refine lv_goto (tgt := 123) hx hb d_X11_reads_295 (by decide) ?_
                            exact ih0 x286 v297 _ _ _ (by have := s89; have := s92; have := s288; obtain ⟨_, _⟩ := r287; omega) (rg_w r287 (by decide) (by decide)) hI298 hK302 hm304 hm303 hw hS (lv_sub hl [2, 3] rfl)
                          · have f308 := i_eq c305
                            have r309 : Rg x296 0 0 := by obtain ⟨a1, a2⟩ := hp295; obtain ⟨b1, b2⟩ := (⟨by decide, by decide⟩ : Rg 0 0 0); have f := i_eq c305; exact ⟨by omega, by omega⟩
                            refine lv_iconst (v := 0) hx hb d_X11_reads_293 (by decide) ?_
                            exact r_zret X hr hlocks hw hS rfl ⟨hI298, hK302, (rg_w (⟨by decide, by decide⟩ : Rg 0 0 0) (by decide) (by decide)), (hm303.trans hg0.symm)⟩ d_X11_reads_294
                        · have f310 := i_eq c271
                          have r311 : Rg x260 0 0 := by obtain ⟨a1, a2⟩ := hp259; obtain ⟨b1, b2⟩ := (⟨by decide, by decide⟩ : Rg 0 0 0); have f := i_eq c271; exact ⟨by omega, by omega⟩
                          refine lv_iconst (v := 0) hx hb d_X11_reads_255 (by decide) ?_
                          exact r_zret X hr hlocks hw hS rfl ⟨hI262, hK267, (rg_w (⟨by decide, by decide⟩ : Rg 0 0 0) (by decide) (by decide)), (hm269.trans hg0.symm)⟩ d_X11_reads_256
                      · have f312 := i_eq c256
                        have r313 : Rg x247 0 0 := by obtain ⟨a1, a2⟩ := hp246; obtain ⟨b1, b2⟩ := (⟨by decide, by decide⟩ : Rg 0 0 0); have f := i_eq c256; exact ⟨by omega, by omega⟩
                        refine lv_aload_n hx hb d_X11_reads_238 rfl (lv_at hl 2 rfl) ?_
                        refine lv_bipush (v := 62) hx hb d_X11_reads_239 (by decide) ?_
                        refine r_ci (r_runV (n := 1) (As := [.int 62]) (rest := []) X hw (ct_X11_takes_400 l D dA ad v248 hI249 62) gc_X11_205 (rfl : KD 400 = _) (by decide) rfl (by decide +kernel) ⟨rfl, rfl, Nat.le_of_ble_eq_true rfl, Nat.le_of_ble_eq_true rfl⟩ rfl hl.1 rfl (Nat.le_of_ble_eq_true rfl) ⟨Nat.zero_le _, Nat.zero_le _⟩ d_X11_reads_241) hS (fun x315 v316 H locs hp314 hw hS => ?_)
                        obtain ⟨hI317, hK318, hp314, hk319, hF320⟩ := hp314
                        have hK321 : Kp v v316 := Kp.tr hK253 hK318
                        have hm322 : v316 438 (od.toNatClampNeg) = m0 := (hF320 438 (od.toNatClampNeg) (by decide)).trans hm254
                        have hm323 : v316 400 (34) = g0 := hk319.trans hm255
                        refine lv_if_eq (tgt := 255) hx hb d_X11_reads_244 (by decide) (fun c324 => ?_) (fun c324 => ?_)
                        · have f325 := i_eq c324
                          have r326 : Rg x315 0 0 := by obtain ⟨a1, a2⟩ := hp314; obtain ⟨b1, b2⟩ := (⟨by decide, by decide⟩ : Rg 0 0 0); have f := i_eq c324; exact ⟨by omega, by omega⟩
                          refine lv_iconst (v := 0) hx hb d_X11_reads_255 (by decide) ?_
                          exact r_zret X hr hlocks hw hS rfl ⟨hI317, hK321, (rg_w (⟨by decide, by decide⟩ : Rg 0 0 0) (by decide) (by decide)), (hm323.trans hg0.symm)⟩ d_X11_reads_256
                        · have f327 := i_ne c324
                          have r328 : Rg x315 1 1 := by obtain ⟨a1, a2⟩ := hp314; obtain ⟨b1, b2⟩ := (⟨by decide, by decide⟩ : Rg 0 0 0); have f := i_ne c324; exact ⟨by omega, by omega⟩
                          refine lv_aload_n hx hb d_X11_reads_247 rfl (lv_at hl 2 rfl) ?_
                          refine lv_iconst (v := 3) hx hb d_X11_reads_248 (by decide) ?_
                          refine r_ci (r_runV (n := 1) (As := [.int 3]) (rest := []) X hw (ct_X11_takesNumber_3 l D dA ad v316 hI317 3 (⟨by decide, by decide⟩ : Rg 3 3 3)) gc_X11_211 (rfl : KD 400 = _) (by decide) rfl (by decide +kernel) ⟨rfl, rfl, Nat.le_of_ble_eq_true rfl, Nat.le_of_ble_eq_true rfl⟩ rfl hl.1 rfl (Nat.le_of_ble_eq_true rfl) ⟨Nat.zero_le _, Nat.zero_le _⟩ d_X11_reads_249) hS (fun x330 v331 H locs hp329 hw hS => ?_)
                          obtain ⟨hI332, hK333, hp329, hk334, hF335, hx336⟩ := hp329
                          have hK337 : Kp v v331 := Kp.tr hK321 hK333
                          have hm338 : v331 438 (od.toNatClampNeg) = m0 := (hF335 438 (od.toNatClampNeg) (by decide)).trans hm322
                          have hm339 : v331 400 (34) = g0 := hk334.trans hm323
                          obtain ⟨x340, ex340⟩ : ∃ z, v331 400 43 = z := ⟨_, rfl⟩
                          rw [ex340] at hx336
                          refine lv_if_ne (tgt := 257) hx hb d_X11_reads_252 (by decide) (fun c341 => ?_) (fun c341 => ?_)
                          · have f342 := i_ne c341
                            have r343 : Rg x330 1 1 := by obtain ⟨a1, a2⟩ := hp329; obtain ⟨b1, b2⟩ := (⟨by decide, by decide⟩ : Rg 0 0 0); have f := i_ne c341; exact ⟨by omega, by omega⟩
                            refine lv_aload_n hx hb d_X11_reads_257 rfl (lv_at hl 2 rfl) ?_
                            refine r_getr (r := 439) X hw FL_X11_105 (rfl : KD 400 = _) rfl d_X11_reads_258 ?_
                            refine lv_iload_n hx hb d_X11_reads_261 rfl (lv_at hl 0 rfl) ?_
                            refine lv_iload_n hx hb d_X11_reads_262 rfl (lv_at hl 1 rfl) ?_
                            refine r_iast X hw hS (rfl : KD 439 = _) (Rg.vp (b := 23) r91 (by decide)) rfl d_X11_reads_263 (fun H locs hw hS => ?_)
                            obtain ⟨v344, ev344⟩ : ∃ z, z = up2 v331 439 x90.toNatClampNeg x12 := ⟨_, rfl⟩
                            rw [← ev344] at hw
                            have hI345 : Inv v344 := by rw [ev344]; exact Inv.putr hI332 rfl hx8
                            have hK346 : Kp v v344 := by rw [ev344]; exact Kp.put hK337 _ rfl
                            have hm347 : v344 438 od.toNatClampNeg = m0 := by rw [ev344, up2_n _ _ (by omega)]; exact hm338
                            have hm348 : v344 400 34 = g0 := by rw [ev344, up2_n _ _ (by omega)]; exact hm339
                            have hm349 : v344 400 43 = x340 := by rw [ev344, up2_n _ _ (by omega)]; exact ex340
                            refine lv_aload_n hx hb d_X11_reads_264 rfl (lv_at hl 2 rfl) ?_
                            refine r_getr (r := 441) X hw FL_X11_112 (rfl : KD 400 = _) rfl d_X11_reads_265 ?_
                            refine lv_iload_n hx hb d_X11_reads_268 rfl (lv_at hl 0 rfl) ?_
                            refine lv_aload_n hx hb d_X11_reads_269 rfl (lv_at hl 2 rfl) ?_
                            refine r_geti X hw FL_X11_199 (rfl : KD 400 = _) rfl d_X11_reads_270 ?_
                            rw [hm349]
                            refine r_iast X hw hS (rfl : KD 441 = _) (Rg.vp (b := 23) r91 (by decide)) rfl d_X11_reads_273 (fun H locs hw hS => ?_)
                            obtain ⟨v350, ev350⟩ : ∃ z, z = up2 v344 441 x90.toNatClampNeg x340 := ⟨_, rfl⟩
                            rw [← ev350] at hw
                            have hI351 : Inv v350 := by rw [ev350]; exact Inv.put0 hI345 _ rfl
                            have hK352 : Kp v v350 := by rw [ev350]; exact Kp.put hK346 _ rfl
                            have hm353 : v350 438 od.toNatClampNeg = m0 := by rw [ev350, up2_n _ _ (by omega)]; exact hm347
                            have hm354 : v350 400 34 = g0 := by rw [ev350, up2_n _ _ (by omega)]; exact hm348
                            have hm355 : v350 400 43 = x340 := by rw [ev350, up2_n _ _ (by omega)]; exact hm349
                            refine lv_aload_n hx hb d_X11_reads_274 rfl (lv_at hl 2 rfl) ?_
                            refine r_getr (r := 438) X hw FL_X11_102 (rfl : KD 400 = _) rfl d_X11_reads_275 ?_
                            refine lv_iload_n hx hb d_X11_reads_278 rfl (lv_at hl 3 rfl) ?_
                            refine lv_dup2_11 hx hb d_X11_reads_279 rfl rfl ?_
                            refine r_iald X hw (rfl : KD 438 = _) (Rg.vp (b := 7) r_od (by decide)) rfl d_X11_reads_280 ?_
                            rw [hm353]
                            refine lv_iconst (v := 1) hx hb d_X11_reads_281 (by decide) ?_
                            refine lv_iadd hx hb d_X11_reads_282 ?_
                            refine lv_topi (fun x356 ex356 => ?_)
                            have r357 : Rg x356 1 3 := rg_add ex356 r28 (⟨by decide, by decide⟩ : Rg 1 1 1) (by decide) (by decide)
                            have s358 : x356.toInt = m0.toInt + (1 : Int32).toInt := by rw [ex356]; exact i_add (by obtain ⟨_, _⟩ := r28; obtain ⟨_, _⟩ := (⟨by decide, by decide⟩ : Rg 1 1 1); omega) (by obtain ⟨_, _⟩ := r28; obtain ⟨_, _⟩ := (⟨by decide, by decide⟩ : Rg 1 1 1); omega)
                            have s358l : (1 : Int32).toInt = 1 := rfl
                            refine r_iast X hw hS (rfl : KD 438 = _) (Rg.vp (b := 7) r_od (by decide)) rfl d_X11_reads_283 (fun H locs hw hS => ?_)
                            obtain ⟨v359, ev359⟩ : ∃ z, z = up2 v350 438 od.toNatClampNeg x356 := ⟨_, rfl⟩
                            rw [← ev359] at hw
                            have hI360 : Inv v359 := by rw [ev359]; exact Inv.putr hI351 rfl (rg_w r357 (by decide) (by decide))
                            have hK361 : Kp v v359 := by rw [ev359]; exact Kp.put hK352 _ rfl
                            have hm362 : v359 400 34 = g0 := by rw [ev359, up2_n _ _ (by omega)]; exact hm354
                            have hm363 : v359 400 43 = x340 := by rw [ev359, up2_n _ _ (by omega)]; exact hm355
                            have hm364 : v359 438 od.toNatClampNeg = x356 := by rw [ev359, up2_s]
                            refine lv_aload_n hx hb d_X11_reads_284 rfl (lv_at hl 2 rfl) ?_
                            refine lv_bipush (v := 44) hx hb d_X11_reads_285 (by decide) ?_
                            refine r_ci (r_runV (n := 1) (As := [.int 44]) (rest := []) X hw (ct_X11_takes_400 l D dA ad v359 hI360 44) gc_X11_205 (rfl : KD 400 = _) (by decide) rfl (by decide +kernel) ⟨rfl, rfl, Nat.le_of_ble_eq_true rfl, Nat.le_of_ble_eq_true rfl⟩ rfl hl.1 rfl (Nat.le_of_ble_eq_true rfl) ⟨Nat.zero_le _, Nat.zero_le _⟩ d_X11_reads_287) hS (fun x366 v367 H locs hp365 hw hS => ?_)
                            obtain ⟨hI368, hK369, hp365, hk370, hF371⟩ := hp365
                            have hK372 : Kp v v367 := Kp.tr hK361 hK369
                            have hm373 : v367 400 (34) = g0 := hk370.trans hm362
                            have hm374 : v367 438 (od.toNatClampNeg) = x356 := (hF371 438 (od.toNatClampNeg) (by decide)).trans hm364
                            refine lv_if_ne (tgt := 295) hx hb d_X11_reads_290 (by decide) (fun c375 => ?_) (fun c375 => ?_)
                            · have f376 := i_ne c375
                              have r377 : Rg x366 1 1 := by obtain ⟨a1, a2⟩ := hp365; obtain ⟨b1, b2⟩ := (⟨by decide, by decide⟩ : Rg 0 0 0); have f := i_ne c375; exact ⟨by omega, by omega⟩
                              refine lv_goto (tgt := 123) hx hb d_X11_reads_295 (by decide) ?_
                              exact ih0 x356 v367 _ _ _ (by have := s89; have := s92; have := s358; obtain ⟨_, _⟩ := r357; omega) (rg_w r357 (by decide) (by decide)) hI368 hK372 hm374 hm373 hw hS (lv_sub hl [2, 3] rfl)
                            · have f378 := i_eq c375
                              have r379 : Rg x366 0 0 := by obtain ⟨a1, a2⟩ := hp365; obtain ⟨b1, b2⟩ := (⟨by decide, by decide⟩ : Rg 0 0 0); have f := i_eq c375; exact ⟨by omega, by omega⟩
                              refine lv_iconst (v := 0) hx hb d_X11_reads_293 (by decide) ?_
                              exact r_zret X hr hlocks hw hS rfl ⟨hI368, hK372, (rg_w (⟨by decide, by decide⟩ : Rg 0 0 0) (by decide) (by decide)), (hm373.trans hg0.symm)⟩ d_X11_reads_294
                          · have f380 := i_eq c341
                            have r381 : Rg x330 0 0 := by obtain ⟨a1, a2⟩ := hp329; obtain ⟨b1, b2⟩ := (⟨by decide, by decide⟩ : Rg 0 0 0); have f := i_eq c341; exact ⟨by omega, by omega⟩
                            refine lv_iconst (v := 0) hx hb d_X11_reads_255 (by decide) ?_
                            exact r_zret X hr hlocks hw hS rfl ⟨hI332, hK337, (rg_w (⟨by decide, by decide⟩ : Rg 0 0 0) (by decide) (by decide)), (hm339.trans hg0.symm)⟩ d_X11_reads_256
                  · have f382 := i_eq c84
                    have r383 : Rg x75 0 0 := by obtain ⟨a1, a2⟩ := hp74; obtain ⟨b1, b2⟩ := (⟨by decide, by decide⟩ : Rg 0 0 0); have f := i_eq c84; exact ⟨by omega, by omega⟩
                    refine lv_iconst (v := 0) hx hb d_X11_reads_204 (by decide) ?_
                    exact r_zret X hr hlocks hw hS rfl ⟨hI77, hK81, (rg_w (⟨by decide, by decide⟩ : Rg 0 0 0) (by decide) (by decide)), (hm83.trans hg0.symm)⟩ d_X11_reads_205
        · have f384 := i_eq c22
          refine lv_aload_n hx hb d_X11_reads_149 rfl (lv_at hl 1 rfl) ?_
          refine r_getr (r := 442) X hw FL_X11_115 (rfl : KD 400 = _) rfl d_X11_reads_150 ?_
          refine lv_iload_n hx hb d_X11_reads_153 rfl (lv_at hl 2 rfl) ?_
          refine lv_iload_n hx hb d_X11_reads_154 rfl (lv_at hl 0 rfl) ?_
          refine r_iast X hw hS (rfl : KD 442 = _) (Rg.vp (b := 7) r_od (by decide)) rfl d_X11_reads_155 (fun H locs hw hS => ?_)
          obtain ⟨v385, ev385⟩ : ∃ z, z = up2 v3 442 od.toNatClampNeg x12 := ⟨_, rfl⟩
          rw [← ev385] at hw
          have hI386 : Inv v385 := by rw [ev385]; exact Inv.putr hI4 rfl hx8
          have hK387 : Kp v v385 := by rw [ev385]; exact Kp.put hK9 _ rfl
          have hm388 : v385 438 od.toNatClampNeg = m0 := by rw [ev385, up2_n _ _ (by omega)]; exact hm10
          have hm389 : v385 400 34 = g0 := by rw [ev385, up2_n _ _ (by omega)]; exact hm11
          have hm390 : v385 400 43 = x12 := by rw [ev385, up2_n _ _ (by omega)]; exact ex12
          have hm391 : v385 400 42 = x16 := by rw [ev385, up2_n _ _ (by omega)]; exact hm18
          have hm392 : v385 400 33 = x19 := by rw [ev385, up2_n _ _ (by omega)]; exact hm21
          refine lv_iconst (v := 1) hx hb d_X11_reads_156 (by decide) ?_
          exact r_zret X hr hlocks hw hS rfl ⟨hI386, hK387, (rg_w (⟨by decide, by decide⟩ : Rg 1 1 1) (by decide) (by decide)), (hm389.trans hg0.symm)⟩ d_X11_reads_157
      · have f393 := i_eq c13
        have r394 : Rg x2 0 0 := by obtain ⟨a1, a2⟩ := hp1; obtain ⟨b1, b2⟩ := (⟨by decide, by decide⟩ : Rg 0 0 0); have f := i_eq c13; exact ⟨by omega, by omega⟩
        refine lv_iconst (v := 0) hx hb d_X11_reads_131 (by decide) ?_
        exact r_zret X hr hlocks hw hS rfl ⟨hI4, hK9, (rg_w (⟨by decide, by decide⟩ : Rg 0 0 0) (by decide) (by decide)), (hm11.trans hg0.symm)⟩ d_X11_reads_132
  have ih0 := LL 100000
  have hK0 : Kp v v := Kp.rf v
  refine lv_aload_n hx hb d_X11_reads_0 rfl (lv_at hl 0 rfl) ?_
  refine lv_iconst (v := 0) hx hb d_X11_reads_1 (by decide) ?_
  refine r_put X hw hS FP_X11_193 (rfl : KD 400 = _) rfl ⟨rfl, rfl⟩ d_X11_reads_2 (fun H locs hw hS => ?_)
  obtain ⟨v395, ev395⟩ : ∃ z, z = up2 v 400 42 0 := ⟨_, rfl⟩
  rw [← ev395] at hw
  have hI396 : Inv v395 := by rw [ev395]; exact Inv.putr hI rfl (rg_w (⟨by decide, by decide⟩ : Rg 0 0 0) (by decide) (by decide))
  have hK397 : Kp v v395 := by rw [ev395]; exact Kp.put hK0 _ rfl
  have hm398 : v395 400 34 = g0 := by rw [ev395, up2_n _ _ (by omega)]; exact hg0
  have hm399 : v395 400 42 = 0 := by rw [ev395, up2_s]
  refine lv_aload_n hx hb d_X11_reads_5 rfl (lv_at hl 0 rfl) ?_
  refine r_getr (r := 438) X hw FL_X11_102 (rfl : KD 400 = _) rfl d_X11_reads_6 ?_
  refine lv_iload_n hx hb d_X11_reads_9 rfl (lv_at hl 1 rfl) ?_
  refine lv_iconst (v := 0) hx hb d_X11_reads_10 (by decide) ?_
  refine r_iast X hw hS (rfl : KD 438 = _) (Rg.vp (b := 7) r_od (by decide)) rfl d_X11_reads_11 (fun H locs hw hS => ?_)
  obtain ⟨v400, ev400⟩ : ∃ z, z = up2 v395 438 od.toNatClampNeg 0 := ⟨_, rfl⟩
  rw [← ev400] at hw
  have hI401 : Inv v400 := by rw [ev400]; exact Inv.putr hI396 rfl (rg_w (⟨by decide, by decide⟩ : Rg 0 0 0) (by decide) (by decide))
  have hK402 : Kp v v400 := by rw [ev400]; exact Kp.put hK397 _ rfl
  have hm403 : v400 400 34 = g0 := by rw [ev400, up2_n _ _ (by omega)]; exact hm398
  have hm404 : v400 400 42 = 0 := by rw [ev400, up2_n _ _ (by omega)]; exact hm399
  have hm405 : v400 438 od.toNatClampNeg = 0 := by rw [ev400, up2_s]
  refine lv_aload_n hx hb d_X11_reads_12 rfl (lv_at hl 0 rfl) ?_
  refine lv_bipush (v := 116) hx hb d_X11_reads_13 (by decide) ?_
  refine r_ci (r_runV (n := 1) (As := [.int 116]) (rest := []) X hw (ct_X11_takes_400 l D dA ad v400 hI401 116) gc_X11_205 (rfl : KD 400 = _) (by decide) rfl (by decide +kernel) ⟨rfl, rfl, Nat.le_of_ble_eq_true rfl, Nat.le_of_ble_eq_true rfl⟩ rfl hl.1 rfl (Nat.le_of_ble_eq_true rfl) ⟨Nat.zero_le _, Nat.zero_le _⟩ d_X11_reads_15) hS (fun x407 v408 H locs hp406 hw hS => ?_)
  obtain ⟨hI409, hK410, hp406, hk411, hF412⟩ := hp406
  have hK413 : Kp v v408 := Kp.tr hK402 hK410
  have hm414 : v408 400 (34) = g0 := hk411.trans hm403
  have hm415 : v408 438 (od.toNatClampNeg) = 0 := (hF412 438 (od.toNatClampNeg) (by decide)).trans hm405
  refine lv_if_eq (tgt := 65) hx hb d_X11_reads_18 (by decide) (fun c416 => ?_) (fun c416 => ?_)
  · have f417 := i_eq c416
    have r418 : Rg x407 0 0 := by obtain ⟨a1, a2⟩ := hp406; obtain ⟨b1, b2⟩ := (⟨by decide, by decide⟩ : Rg 0 0 0); have f := i_eq c416; exact ⟨by omega, by omega⟩
    refine lv_iconst (v := 0) hx hb d_X11_reads_65 (by decide) ?_
    exact r_zret X hr hlocks hw hS rfl ⟨hI409, hK413, (rg_w (⟨by decide, by decide⟩ : Rg 0 0 0) (by decide) (by decide)), (hm414.trans hg0.symm)⟩ d_X11_reads_66
  · have f419 := i_ne c416
    have r420 : Rg x407 1 1 := by obtain ⟨a1, a2⟩ := hp406; obtain ⟨b1, b2⟩ := (⟨by decide, by decide⟩ : Rg 0 0 0); have f := i_ne c416; exact ⟨by omega, by omega⟩
    refine lv_aload_n hx hb d_X11_reads_21 rfl (lv_at hl 0 rfl) ?_
    refine lv_bipush (v := 117) hx hb d_X11_reads_22 (by decide) ?_
    refine r_ci (r_runV (n := 1) (As := [.int 117]) (rest := []) X hw (ct_X11_takes_400 l D dA ad v408 hI409 117) gc_X11_205 (rfl : KD 400 = _) (by decide) rfl (by decide +kernel) ⟨rfl, rfl, Nat.le_of_ble_eq_true rfl, Nat.le_of_ble_eq_true rfl⟩ rfl hl.1 rfl (Nat.le_of_ble_eq_true rfl) ⟨Nat.zero_le _, Nat.zero_le _⟩ d_X11_reads_24) hS (fun x422 v423 H locs hp421 hw hS => ?_)
    obtain ⟨hI424, hK425, hp421, hk426, hF427⟩ := hp421
    have hK428 : Kp v v423 := Kp.tr hK413 hK425
    have hm429 : v423 400 (34) = g0 := hk426.trans hm414
    have hm430 : v423 438 (od.toNatClampNeg) = 0 := (hF427 438 (od.toNatClampNeg) (by decide)).trans hm415
    refine lv_if_eq (tgt := 65) hx hb d_X11_reads_27 (by decide) (fun c431 => ?_) (fun c431 => ?_)
    · have f432 := i_eq c431
      have r433 : Rg x422 0 0 := by obtain ⟨a1, a2⟩ := hp421; obtain ⟨b1, b2⟩ := (⟨by decide, by decide⟩ : Rg 0 0 0); have f := i_eq c431; exact ⟨by omega, by omega⟩
      refine lv_iconst (v := 0) hx hb d_X11_reads_65 (by decide) ?_
      exact r_zret X hr hlocks hw hS rfl ⟨hI424, hK428, (rg_w (⟨by decide, by decide⟩ : Rg 0 0 0) (by decide) (by decide)), (hm429.trans hg0.symm)⟩ d_X11_reads_66
    · have f434 := i_ne c431
      have r435 : Rg x422 1 1 := by obtain ⟨a1, a2⟩ := hp421; obtain ⟨b1, b2⟩ := (⟨by decide, by decide⟩ : Rg 0 0 0); have f := i_ne c431; exact ⟨by omega, by omega⟩
      refine lv_aload_n hx hb d_X11_reads_30 rfl (lv_at hl 0 rfl) ?_
      refine lv_bipush (v := 114) hx hb d_X11_reads_31 (by decide) ?_
      refine r_ci (r_runV (n := 1) (As := [.int 114]) (rest := []) X hw (ct_X11_takes_400 l D dA ad v423 hI424 114) gc_X11_205 (rfl : KD 400 = _) (by decide) rfl (by decide +kernel) ⟨rfl, rfl, Nat.le_of_ble_eq_true rfl, Nat.le_of_ble_eq_true rfl⟩ rfl hl.1 rfl (Nat.le_of_ble_eq_true rfl) ⟨Nat.zero_le _, Nat.zero_le _⟩ d_X11_reads_33) hS (fun x437 v438 H locs hp436 hw hS => ?_)
      obtain ⟨hI439, hK440, hp436, hk441, hF442⟩ := hp436
      have hK443 : Kp v v438 := Kp.tr hK428 hK440
      have hm444 : v438 400 (34) = g0 := hk441.trans hm429
      have hm445 : v438 438 (od.toNatClampNeg) = 0 := (hF442 438 (od.toNatClampNeg) (by decide)).trans hm430
      refine lv_if_eq (tgt := 65) hx hb d_X11_reads_36 (by decide) (fun c446 => ?_) (fun c446 => ?_)
      · have f447 := i_eq c446
        have r448 : Rg x437 0 0 := by obtain ⟨a1, a2⟩ := hp436; obtain ⟨b1, b2⟩ := (⟨by decide, by decide⟩ : Rg 0 0 0); have f := i_eq c446; exact ⟨by omega, by omega⟩
        refine lv_iconst (v := 0) hx hb d_X11_reads_65 (by decide) ?_
        exact r_zret X hr hlocks hw hS rfl ⟨hI439, hK443, (rg_w (⟨by decide, by decide⟩ : Rg 0 0 0) (by decide) (by decide)), (hm444.trans hg0.symm)⟩ d_X11_reads_66
      · have f449 := i_ne c446
        have r450 : Rg x437 1 1 := by obtain ⟨a1, a2⟩ := hp436; obtain ⟨b1, b2⟩ := (⟨by decide, by decide⟩ : Rg 0 0 0); have f := i_ne c446; exact ⟨by omega, by omega⟩
        refine lv_aload_n hx hb d_X11_reads_39 rfl (lv_at hl 0 rfl) ?_
        refine lv_bipush (v := 110) hx hb d_X11_reads_40 (by decide) ?_
        refine r_ci (r_runV (n := 1) (As := [.int 110]) (rest := []) X hw (ct_X11_takes_400 l D dA ad v438 hI439 110) gc_X11_205 (rfl : KD 400 = _) (by decide) rfl (by decide +kernel) ⟨rfl, rfl, Nat.le_of_ble_eq_true rfl, Nat.le_of_ble_eq_true rfl⟩ rfl hl.1 rfl (Nat.le_of_ble_eq_true rfl) ⟨Nat.zero_le _, Nat.zero_le _⟩ d_X11_reads_42) hS (fun x452 v453 H locs hp451 hw hS => ?_)
        obtain ⟨hI454, hK455, hp451, hk456, hF457⟩ := hp451
        have hK458 : Kp v v453 := Kp.tr hK443 hK455
        have hm459 : v453 400 (34) = g0 := hk456.trans hm444
        have hm460 : v453 438 (od.toNatClampNeg) = 0 := (hF457 438 (od.toNatClampNeg) (by decide)).trans hm445
        refine lv_if_eq (tgt := 65) hx hb d_X11_reads_45 (by decide) (fun c461 => ?_) (fun c461 => ?_)
        · have f462 := i_eq c461
          have r463 : Rg x452 0 0 := by obtain ⟨a1, a2⟩ := hp451; obtain ⟨b1, b2⟩ := (⟨by decide, by decide⟩ : Rg 0 0 0); have f := i_eq c461; exact ⟨by omega, by omega⟩
          refine lv_iconst (v := 0) hx hb d_X11_reads_65 (by decide) ?_
          exact r_zret X hr hlocks hw hS rfl ⟨hI454, hK458, (rg_w (⟨by decide, by decide⟩ : Rg 0 0 0) (by decide) (by decide)), (hm459.trans hg0.symm)⟩ d_X11_reads_66
        · have f464 := i_ne c461
          have r465 : Rg x452 1 1 := by obtain ⟨a1, a2⟩ := hp451; obtain ⟨b1, b2⟩ := (⟨by decide, by decide⟩ : Rg 0 0 0); have f := i_ne c461; exact ⟨by omega, by omega⟩
          refine lv_aload_n hx hb d_X11_reads_48 rfl (lv_at hl 0 rfl) ?_
          refine lv_bipush (v := 32) hx hb d_X11_reads_49 (by decide) ?_
          refine r_ci (r_runV (n := 1) (As := [.int 32]) (rest := []) X hw (ct_X11_takes_400 l D dA ad v453 hI454 32) gc_X11_205 (rfl : KD 400 = _) (by decide) rfl (by decide +kernel) ⟨rfl, rfl, Nat.le_of_ble_eq_true rfl, Nat.le_of_ble_eq_true rfl⟩ rfl hl.1 rfl (Nat.le_of_ble_eq_true rfl) ⟨Nat.zero_le _, Nat.zero_le _⟩ d_X11_reads_51) hS (fun x467 v468 H locs hp466 hw hS => ?_)
          obtain ⟨hI469, hK470, hp466, hk471, hF472⟩ := hp466
          have hK473 : Kp v v468 := Kp.tr hK458 hK470
          have hm474 : v468 400 (34) = g0 := hk471.trans hm459
          have hm475 : v468 438 (od.toNatClampNeg) = 0 := (hF472 438 (od.toNatClampNeg) (by decide)).trans hm460
          refine lv_if_eq (tgt := 65) hx hb d_X11_reads_54 (by decide) (fun c476 => ?_) (fun c476 => ?_)
          · have f477 := i_eq c476
            have r478 : Rg x467 0 0 := by obtain ⟨a1, a2⟩ := hp466; obtain ⟨b1, b2⟩ := (⟨by decide, by decide⟩ : Rg 0 0 0); have f := i_eq c476; exact ⟨by omega, by omega⟩
            refine lv_iconst (v := 0) hx hb d_X11_reads_65 (by decide) ?_
            exact r_zret X hr hlocks hw hS rfl ⟨hI469, hK473, (rg_w (⟨by decide, by decide⟩ : Rg 0 0 0) (by decide) (by decide)), (hm474.trans hg0.symm)⟩ d_X11_reads_66
          · have f479 := i_ne c476
            have r480 : Rg x467 1 1 := by obtain ⟨a1, a2⟩ := hp466; obtain ⟨b1, b2⟩ := (⟨by decide, by decide⟩ : Rg 0 0 0); have f := i_ne c476; exact ⟨by omega, by omega⟩
            refine lv_aload_n hx hb d_X11_reads_57 rfl (lv_at hl 0 rfl) ?_
            refine lv_iload_n hx hb d_X11_reads_58 rfl (lv_at hl 1 rfl) ?_
            refine r_ci (r_runV (n := 1) (As := [.int od]) (rest := []) X hw (ct_X11_takesKey_400 l D dA ad v468 hI469 od r_od) gc_X11_208 (rfl : KD 400 = _) (by decide) rfl (by decide +kernel) ⟨rfl, rfl, Nat.le_of_ble_eq_true rfl, Nat.le_of_ble_eq_true rfl⟩ rfl hl.1 rfl (Nat.le_of_ble_eq_true rfl) ⟨Nat.zero_le _, Nat.zero_le _⟩ d_X11_reads_59) hS (fun x482 v483 H locs hp481 hw hS => ?_)
            obtain ⟨hI484, hK485, hp481, hk486⟩ := hp481
            have hK487 : Kp v v483 := Kp.tr hK473 hK485
            have hm488 : v483 400 (34) = g0 := hk486.trans hm474
            refine lv_if_ne (tgt := 67) hx hb d_X11_reads_62 (by decide) (fun c489 => ?_) (fun c489 => ?_)
            · have f490 := i_ne c489
              have r491 : Rg x482 1 1 := by obtain ⟨a1, a2⟩ := hp481; obtain ⟨b1, b2⟩ := (⟨by decide, by decide⟩ : Rg 0 0 0); have f := i_ne c489; exact ⟨by omega, by omega⟩
              refine lv_aload_n hx hb d_X11_reads_67 rfl (lv_at hl 0 rfl) ?_
              refine lv_bipush (v := 59) hx hb d_X11_reads_68 (by decide) ?_
              refine r_ci (r_runV (n := 1) (As := [.int 59]) (rest := []) X hw (ct_X11_takes_400 l D dA ad v483 hI484 59) gc_X11_205 (rfl : KD 400 = _) (by decide) rfl (by decide +kernel) ⟨rfl, rfl, Nat.le_of_ble_eq_true rfl, Nat.le_of_ble_eq_true rfl⟩ rfl hl.1 rfl (Nat.le_of_ble_eq_true rfl) ⟨Nat.zero_le _, Nat.zero_le _⟩ d_X11_reads_70) hS (fun x493 v494 H locs hp492 hw hS => ?_)
              obtain ⟨hI495, hK496, hp492, hk497, hF498⟩ := hp492
              have hK499 : Kp v v494 := Kp.tr hK487 hK496
              have hm500 : v494 400 (34) = g0 := hk497.trans hm488
              refine lv_if_eq (tgt := 121) hx hb d_X11_reads_73 (by decide) (fun c501 => ?_) (fun c501 => ?_)
              · have f502 := i_eq c501
                have r503 : Rg x493 0 0 := by obtain ⟨a1, a2⟩ := hp492; obtain ⟨b1, b2⟩ := (⟨by decide, by decide⟩ : Rg 0 0 0); have f := i_eq c501; exact ⟨by omega, by omega⟩
                refine lv_iconst (v := 0) hx hb d_X11_reads_121 (by decide) ?_
                exact r_zret X hr hlocks hw hS rfl ⟨hI495, hK499, (rg_w (⟨by decide, by decide⟩ : Rg 0 0 0) (by decide) (by decide)), (hm500.trans hg0.symm)⟩ d_X11_reads_122
              · have f504 := i_ne c501
                have r505 : Rg x493 1 1 := by obtain ⟨a1, a2⟩ := hp492; obtain ⟨b1, b2⟩ := (⟨by decide, by decide⟩ : Rg 0 0 0); have f := i_ne c501; exact ⟨by omega, by omega⟩
                refine lv_aload_n hx hb d_X11_reads_76 rfl (lv_at hl 0 rfl) ?_
                refine lv_bipush (v := 115) hx hb d_X11_reads_77 (by decide) ?_
                refine r_ci (r_runV (n := 1) (As := [.int 115]) (rest := []) X hw (ct_X11_takes_400 l D dA ad v494 hI495 115) gc_X11_205 (rfl : KD 400 = _) (by decide) rfl (by decide +kernel) ⟨rfl, rfl, Nat.le_of_ble_eq_true rfl, Nat.le_of_ble_eq_true rfl⟩ rfl hl.1 rfl (Nat.le_of_ble_eq_true rfl) ⟨Nat.zero_le _, Nat.zero_le _⟩ d_X11_reads_79) hS (fun x507 v508 H locs hp506 hw hS => ?_)
                obtain ⟨hI509, hK510, hp506, hk511, hF512⟩ := hp506
                have hK513 : Kp v v508 := Kp.tr hK499 hK510
                have hm514 : v508 400 (34) = g0 := hk511.trans hm500
                refine lv_if_eq (tgt := 121) hx hb d_X11_reads_82 (by decide) (fun c515 => ?_) (fun c515 => ?_)
                · have f516 := i_eq c515
                  have r517 : Rg x507 0 0 := by obtain ⟨a1, a2⟩ := hp506; obtain ⟨b1, b2⟩ := (⟨by decide, by decide⟩ : Rg 0 0 0); have f := i_eq c515; exact ⟨by omega, by omega⟩
                  refine lv_iconst (v := 0) hx hb d_X11_reads_121 (by decide) ?_
                  exact r_zret X hr hlocks hw hS rfl ⟨hI509, hK513, (rg_w (⟨by decide, by decide⟩ : Rg 0 0 0) (by decide) (by decide)), (hm514.trans hg0.symm)⟩ d_X11_reads_122
                · have f518 := i_ne c515
                  have r519 : Rg x507 1 1 := by obtain ⟨a1, a2⟩ := hp506; obtain ⟨b1, b2⟩ := (⟨by decide, by decide⟩ : Rg 0 0 0); have f := i_ne c515; exact ⟨by omega, by omega⟩
                  refine lv_aload_n hx hb d_X11_reads_85 rfl (lv_at hl 0 rfl) ?_
                  refine lv_bipush (v := 101) hx hb d_X11_reads_86 (by decide) ?_
                  refine r_ci (r_runV (n := 1) (As := [.int 101]) (rest := []) X hw (ct_X11_takes_400 l D dA ad v508 hI509 101) gc_X11_205 (rfl : KD 400 = _) (by decide) rfl (by decide +kernel) ⟨rfl, rfl, Nat.le_of_ble_eq_true rfl, Nat.le_of_ble_eq_true rfl⟩ rfl hl.1 rfl (Nat.le_of_ble_eq_true rfl) ⟨Nat.zero_le _, Nat.zero_le _⟩ d_X11_reads_88) hS (fun x521 v522 H locs hp520 hw hS => ?_)
                  obtain ⟨hI523, hK524, hp520, hk525, hF526⟩ := hp520
                  have hK527 : Kp v v522 := Kp.tr hK513 hK524
                  have hm528 : v522 400 (34) = g0 := hk525.trans hm514
                  refine lv_if_eq (tgt := 121) hx hb d_X11_reads_91 (by decide) (fun c529 => ?_) (fun c529 => ?_)
                  · have f530 := i_eq c529
                    have r531 : Rg x521 0 0 := by obtain ⟨a1, a2⟩ := hp520; obtain ⟨b1, b2⟩ := (⟨by decide, by decide⟩ : Rg 0 0 0); have f := i_eq c529; exact ⟨by omega, by omega⟩
                    refine lv_iconst (v := 0) hx hb d_X11_reads_121 (by decide) ?_
                    exact r_zret X hr hlocks hw hS rfl ⟨hI523, hK527, (rg_w (⟨by decide, by decide⟩ : Rg 0 0 0) (by decide) (by decide)), (hm528.trans hg0.symm)⟩ d_X11_reads_122
                  · have f532 := i_ne c529
                    have r533 : Rg x521 1 1 := by obtain ⟨a1, a2⟩ := hp520; obtain ⟨b1, b2⟩ := (⟨by decide, by decide⟩ : Rg 0 0 0); have f := i_ne c529; exact ⟨by omega, by omega⟩
                    refine lv_aload_n hx hb d_X11_reads_94 rfl (lv_at hl 0 rfl) ?_
                    refine lv_bipush (v := 108) hx hb d_X11_reads_95 (by decide) ?_
                    refine r_ci (r_runV (n := 1) (As := [.int 108]) (rest := []) X hw (ct_X11_takes_400 l D dA ad v522 hI523 108) gc_X11_205 (rfl : KD 400 = _) (by decide) rfl (by decide +kernel) ⟨rfl, rfl, Nat.le_of_ble_eq_true rfl, Nat.le_of_ble_eq_true rfl⟩ rfl hl.1 rfl (Nat.le_of_ble_eq_true rfl) ⟨Nat.zero_le _, Nat.zero_le _⟩ d_X11_reads_97) hS (fun x535 v536 H locs hp534 hw hS => ?_)
                    obtain ⟨hI537, hK538, hp534, hk539, hF540⟩ := hp534
                    have hK541 : Kp v v536 := Kp.tr hK527 hK538
                    have hm542 : v536 400 (34) = g0 := hk539.trans hm528
                    refine lv_if_eq (tgt := 121) hx hb d_X11_reads_100 (by decide) (fun c543 => ?_) (fun c543 => ?_)
                    · have f544 := i_eq c543
                      have r545 : Rg x535 0 0 := by obtain ⟨a1, a2⟩ := hp534; obtain ⟨b1, b2⟩ := (⟨by decide, by decide⟩ : Rg 0 0 0); have f := i_eq c543; exact ⟨by omega, by omega⟩
                      refine lv_iconst (v := 0) hx hb d_X11_reads_121 (by decide) ?_
                      exact r_zret X hr hlocks hw hS rfl ⟨hI537, hK541, (rg_w (⟨by decide, by decide⟩ : Rg 0 0 0) (by decide) (by decide)), (hm542.trans hg0.symm)⟩ d_X11_reads_122
                    · have f546 := i_ne c543
                      have r547 : Rg x535 1 1 := by obtain ⟨a1, a2⟩ := hp534; obtain ⟨b1, b2⟩ := (⟨by decide, by decide⟩ : Rg 0 0 0); have f := i_ne c543; exact ⟨by omega, by omega⟩
                      refine lv_aload_n hx hb d_X11_reads_103 rfl (lv_at hl 0 rfl) ?_
                      refine lv_bipush (v := 108) hx hb d_X11_reads_104 (by decide) ?_
                      refine r_ci (r_runV (n := 1) (As := [.int 108]) (rest := []) X hw (ct_X11_takes_400 l D dA ad v536 hI537 108) gc_X11_205 (rfl : KD 400 = _) (by decide) rfl (by decide +kernel) ⟨rfl, rfl, Nat.le_of_ble_eq_true rfl, Nat.le_of_ble_eq_true rfl⟩ rfl hl.1 rfl (Nat.le_of_ble_eq_true rfl) ⟨Nat.zero_le _, Nat.zero_le _⟩ d_X11_reads_106) hS (fun x549 v550 H locs hp548 hw hS => ?_)
                      obtain ⟨hI551, hK552, hp548, hk553, hF554⟩ := hp548
                      have hK555 : Kp v v550 := Kp.tr hK541 hK552
                      have hm556 : v550 400 (34) = g0 := hk553.trans hm542
                      refine lv_if_eq (tgt := 121) hx hb d_X11_reads_109 (by decide) (fun c557 => ?_) (fun c557 => ?_)
                      · have f558 := i_eq c557
                        have r559 : Rg x549 0 0 := by obtain ⟨a1, a2⟩ := hp548; obtain ⟨b1, b2⟩ := (⟨by decide, by decide⟩ : Rg 0 0 0); have f := i_eq c557; exact ⟨by omega, by omega⟩
                        refine lv_iconst (v := 0) hx hb d_X11_reads_121 (by decide) ?_
                        exact r_zret X hr hlocks hw hS rfl ⟨hI551, hK555, (rg_w (⟨by decide, by decide⟩ : Rg 0 0 0) (by decide) (by decide)), (hm556.trans hg0.symm)⟩ d_X11_reads_122
                      · have f560 := i_ne c557
                        have r561 : Rg x549 1 1 := by obtain ⟨a1, a2⟩ := hp548; obtain ⟨b1, b2⟩ := (⟨by decide, by decide⟩ : Rg 0 0 0); have f := i_ne c557; exact ⟨by omega, by omega⟩
                        refine lv_aload_n hx hb d_X11_reads_112 rfl (lv_at hl 0 rfl) ?_
                        refine lv_bipush (v := 32) hx hb d_X11_reads_113 (by decide) ?_
                        refine r_ci (r_runV (n := 1) (As := [.int 32]) (rest := []) X hw (ct_X11_takes_400 l D dA ad v550 hI551 32) gc_X11_205 (rfl : KD 400 = _) (by decide) rfl (by decide +kernel) ⟨rfl, rfl, Nat.le_of_ble_eq_true rfl, Nat.le_of_ble_eq_true rfl⟩ rfl hl.1 rfl (Nat.le_of_ble_eq_true rfl) ⟨Nat.zero_le _, Nat.zero_le _⟩ d_X11_reads_115) hS (fun x563 v564 H locs hp562 hw hS => ?_)
                        obtain ⟨hI565, hK566, hp562, hk567, hF568⟩ := hp562
                        have hK569 : Kp v v564 := Kp.tr hK555 hK566
                        have hm570 : v564 400 (34) = g0 := hk567.trans hm556
                        refine lv_if_ne (tgt := 123) hx hb d_X11_reads_118 (by decide) (fun c571 => ?_) (fun c571 => ?_)
                        · have f572 := i_ne c571
                          have r573 : Rg x563 1 1 := by obtain ⟨a1, a2⟩ := hp562; obtain ⟨b1, b2⟩ := (⟨by decide, by decide⟩ : Rg 0 0 0); have f := i_ne c571; exact ⟨by omega, by omega⟩
                          obtain ⟨x574, ex574⟩ : ∃ z, v564 438 (od.toNatClampNeg) = z := ⟨_, rfl⟩
                          have r575 : Rg x574 0 3 := by rw [← ex574]; exact hI565 _ _ _ _ rfl
                          exact ih0 x574 v564 _ _ _ (by obtain ⟨_, _⟩ := r575; omega) r575 hI565 hK569 ex574 hm570 hw hS (lv_sub hl [0, 1] rfl)
                        · have f576 := i_eq c571
                          have r577 : Rg x563 0 0 := by obtain ⟨a1, a2⟩ := hp562; obtain ⟨b1, b2⟩ := (⟨by decide, by decide⟩ : Rg 0 0 0); have f := i_eq c571; exact ⟨by omega, by omega⟩
                          refine lv_iconst (v := 0) hx hb d_X11_reads_121 (by decide) ?_
                          exact r_zret X hr hlocks hw hS rfl ⟨hI565, hK569, (rg_w (⟨by decide, by decide⟩ : Rg 0 0 0) (by decide) (by decide)), (hm570.trans hg0.symm)⟩ d_X11_reads_122
            · have f578 := i_eq c489
              have r579 : Rg x482 0 0 := by obtain ⟨a1, a2⟩ := hp481; obtain ⟨b1, b2⟩ := (⟨by decide, by decide⟩ : Rg 0 0 0); have f := i_eq c489; exact ⟨by omega, by omega⟩
              refine lv_iconst (v := 0) hx hb d_X11_reads_65 (by decide) ?_
              exact r_zret X hr hlocks hw hS rfl ⟨hI484, hK487, (rg_w (⟨by decide, by decide⟩ : Rg 0 0 0) (by decide) (by decide)), (hm488.trans hg0.symm)⟩ d_X11_reads_66
theorem d_X11_order_0 : decode c_X11_order 0 = .ok (.iload_n 1, 1) := by decide +kernel
theorem d_X11_order_1 : decode c_X11_order 1 = .ok (.iconst 0, 1) := by decide +kernel
theorem d_X11_order_2 : decode c_X11_order 2 = .ok (.sipush 999, 3) := by decide +kernel
theorem d_X11_order_5 : decode c_X11_order 5 = .ok (.invokestatic 169, 3) := by decide +kernel
theorem d_X11_order_8 : decode c_X11_order 8 = .ok (.ifCond .ne 6, 3) := by decide +kernel
theorem d_X11_order_11 : decode c_X11_order 11 = .ok (.bipush (-2), 2) := by decide +kernel
theorem d_X11_order_13 : decode c_X11_order 13 = .ok (.ireturn, 1) := by decide +kernel
theorem d_X11_order_14 : decode c_X11_order 14 = .ok (.aload_n 0, 1) := by decide +kernel
theorem d_X11_order_15 : decode c_X11_order 15 = .ok (.getfield 214, 3) := by decide +kernel
theorem d_X11_order_18 : decode c_X11_order 18 = .ok (.bipush 8, 2) := by decide +kernel
theorem d_X11_order_20 : decode c_X11_order 20 = .ok (.if_icmp .ne 6, 3) := by decide +kernel
theorem d_X11_order_23 : decode c_X11_order 23 = .ok (.bipush (-4), 2) := by decide +kernel
theorem d_X11_order_25 : decode c_X11_order 25 = .ok (.ireturn, 1) := by decide +kernel
theorem d_X11_order_26 : decode c_X11_order 26 = .ok (.aload_n 0, 1) := by decide +kernel
theorem d_X11_order_27 : decode c_X11_order 27 = .ok (.aload_n 0, 1) := by decide +kernel
theorem d_X11_order_28 : decode c_X11_order 28 = .ok (.getfield 214, 3) := by decide +kernel
theorem d_X11_order_31 : decode c_X11_order 31 = .ok (.invokevirtual 217, 3) := by decide +kernel
theorem d_X11_order_34 : decode c_X11_order 34 = .ok (.istore_n 2, 1) := by decide +kernel
theorem d_X11_order_35 : decode c_X11_order 35 = .ok (.aload_n 0, 1) := by decide +kernel
theorem d_X11_order_36 : decode c_X11_order 36 = .ok (.iconst 0, 1) := by decide +kernel
theorem d_X11_order_37 : decode c_X11_order 37 = .ok (.putfield 190, 3) := by decide +kernel
theorem d_X11_order_40 : decode c_X11_order 40 = .ok (.iload_n 2, 1) := by decide +kernel
theorem d_X11_order_41 : decode c_X11_order 41 = .ok (.ifCond .ne 11, 3) := by decide +kernel
theorem d_X11_order_44 : decode c_X11_order 44 = .ok (.bipush (-10), 2) := by decide +kernel
theorem d_X11_order_46 : decode c_X11_order 46 = .ok (.aload_n 0, 1) := by decide +kernel
theorem d_X11_order_47 : decode c_X11_order 47 = .ok (.getfield 193, 3) := by decide +kernel
theorem d_X11_order_50 : decode c_X11_order 50 = .ok (.isub, 1) := by decide +kernel
theorem d_X11_order_51 : decode c_X11_order 51 = .ok (.ireturn, 1) := by decide +kernel
theorem d_X11_order_52 : decode c_X11_order 52 = .ok (.aload_n 0, 1) := by decide +kernel
theorem d_X11_order_53 : decode c_X11_order 53 = .ok (.getfield 96, 3) := by decide +kernel
theorem d_X11_order_56 : decode c_X11_order 56 = .ok (.aload_n 0, 1) := by decide +kernel
theorem d_X11_order_57 : decode c_X11_order 57 = .ok (.getfield 214, 3) := by decide +kernel
theorem d_X11_order_60 : decode c_X11_order 60 = .ok (.iload_n 1, 1) := by decide +kernel
theorem d_X11_order_61 : decode c_X11_order 61 = .ok (.iastore, 1) := by decide +kernel
theorem d_X11_order_62 : decode c_X11_order 62 = .ok (.aload_n 0, 1) := by decide +kernel
theorem d_X11_order_63 : decode c_X11_order 63 = .ok (.dup, 1) := by decide +kernel
theorem d_X11_order_64 : decode c_X11_order 64 = .ok (.getfield 214, 3) := by decide +kernel
theorem d_X11_order_67 : decode c_X11_order 67 = .ok (.iconst 1, 1) := by decide +kernel
theorem d_X11_order_68 : decode c_X11_order 68 = .ok (.iadd, 1) := by decide +kernel
theorem d_X11_order_69 : decode c_X11_order 69 = .ok (.putfield 214, 3) := by decide +kernel
theorem d_X11_order_72 : decode c_X11_order 72 = .ok (.aload_n 0, 1) := by decide +kernel
theorem d_X11_order_73 : decode c_X11_order 73 = .ok (.getfield 214, 3) := by decide +kernel
theorem d_X11_order_76 : decode c_X11_order 76 = .ok (.iconst 1, 1) := by decide +kernel
theorem d_X11_order_77 : decode c_X11_order 77 = .ok (.isub, 1) := by decide +kernel
theorem d_X11_order_78 : decode c_X11_order 78 = .ok (.ireturn, 1) := by decide +kernel
set_option maxHeartbeats 4000000 in
set_option maxRecDepth 100000 in
theorem ct_X11_order_400 (l : Launch) (D : va_G) (dA : Nat → ClassId) (ad : Nat → Nat) (v : tV) (hI : Inv v) (dy : Int32) : Met l m_X11_order [.code m_X11_order c_X11_order 3 (some .int)] ({ frames := 5, cells := 0, slots := 0, locals := 126 } : Room) (tP D dA ad v [.ref (ad 400), .int dy]) (tQi D dA ad (fun r v' => Inv v')) 0 0 (tA ad) := by
  refine tMet (by decide) (Nat.le_of_ble_eq_true rfl) ?_
  intro p e s m below meth c ls X hr hlocks hw hl
  have X : CX p s m ([.ref (ad 400), .int dy] : List Value).toArray c c_X11_order N_X11 3 D dA := X
  have hx := X.1
  have hb := X.2.1
  have hS : va_S (tA ad) s.heap s.heap [] := va_S.rf
  have hl : lv_has ls 3 [(0, .ref (ad 400)), (1, .int dy)] := hl
  refine lv_iload_n hx hb d_X11_order_0 rfl (lv_at hl 1 rfl) ?_
  refine lv_iconst (v := 0) hx hb d_X11_order_1 (by decide) ?_
  refine lv_sipush (v := 999) hx hb d_X11_order_2 (by decide) ?_
  refine r_ci (r_runS (n := 3) (As := [.int dy, .int 0, .int 999]) (rest := []) X hw (ct_X11_in l D dA ad v hI dy 0 999) gc_X11_169 (by decide +kernel) ⟨rfl, rfl, Nat.le_of_ble_eq_true rfl, Nat.le_of_ble_eq_true rfl⟩ rfl hl.1 rfl (Nat.le_of_ble_eq_true rfl) ⟨Nat.zero_le _, Nat.zero_le _⟩ d_X11_order_5) hS (fun x2 v3 H locs hp1 hw hS => ?_)
  obtain ⟨ev3, hp1⟩ := hp1
  rw [ev3] at hw
  rcases hp1 with ⟨rfl, w4a, w4b⟩ | ⟨rfl, w4n⟩
  · skip
    have r5 : Rg dy 0 999 := by obtain ⟨_, _⟩ := (rg_any dy); have : (0 : Int32).toInt = 0 := rfl; have : (999 : Int32).toInt = 999 := rfl; exact ⟨by omega, by omega⟩
    refine lv_if_ne (tgt := 14) hx hb d_X11_order_8 (by decide) (fun c6 => ?_) (fun c6 => ?_)
    · refine lv_aload_n hx hb d_X11_order_14 rfl (lv_at hl 0 rfl) ?_
      refine r_geti X hw FL_X11_214 (rfl : KD 400 = _) rfl d_X11_order_15 ?_
      refine lv_topi (fun x7 ex7 => ?_)
      have r8 : Rg x7 0 8 := by rw [ex7]; exact hI _ _ _ _ rfl
      have hm9 : v 400 34 = x7 := ex7.symm
      refine lv_bipush (v := 8) hx hb d_X11_order_18 (by decide) ?_
      refine lv_icmp_ne (tgt := 26) hx hb d_X11_order_20 (by decide) (fun c10 => ?_) (fun c10 => ?_)
      · have f11 := i_ne c10
        have r12 : Rg x7 0 7 := by obtain ⟨a1, a2⟩ := r8; obtain ⟨b1, b2⟩ := (⟨by decide, by decide⟩ : Rg 8 8 8); have f := i_ne c10; exact ⟨by omega, by omega⟩
        refine lv_aload_n hx hb d_X11_order_26 rfl (lv_at hl 0 rfl) ?_
        refine lv_aload_n hx hb d_X11_order_27 rfl (lv_at hl 0 rfl) ?_
        refine r_geti X hw FL_X11_214 (rfl : KD 400 = _) rfl d_X11_order_28 ?_
        rw [hm9]
        refine r_ci (r_runV (n := 1) (As := [.int x7]) (rest := []) X hw (ct_X11_reads_400 l D dA ad v hI x7 r12) gc_X11_217 (rfl : KD 400 = _) (by decide) rfl (by decide +kernel) ⟨rfl, rfl, Nat.le_of_ble_eq_true rfl, Nat.le_of_ble_eq_true rfl⟩ rfl hl.1 rfl (Nat.le_of_ble_eq_true rfl) ⟨Nat.zero_le _, Nat.zero_le _⟩ d_X11_order_31) hS (fun x14 v15 H locs hp13 hw hS => ?_)
        obtain ⟨hI16, hK17, hp13, hk18⟩ := hp13
        have hm19 : v15 400 (34) = x7 := hk18.trans hm9
        refine lv_istore_n (lv' := [(2, .int x14), (0, .ref (ad 400)), (1, .int dy)]) hx hb d_X11_order_34 rfl hl (by decide) rfl (fun ls hl => ?_)
        refine lv_aload_n hx hb d_X11_order_35 rfl (lv_at hl 1 rfl) ?_
        refine lv_iconst (v := 0) hx hb d_X11_order_36 (by decide) ?_
        refine r_put X hw hS FP_X11_190 (rfl : KD 400 = _) rfl ⟨rfl, rfl⟩ d_X11_order_37 (fun H locs hw hS => ?_)
        obtain ⟨v20, ev20⟩ : ∃ z, z = up2 v15 400 33 0 := ⟨_, rfl⟩
        rw [← ev20] at hw
        have hI21 : Inv v20 := by rw [ev20]; exact Inv.putr hI16 rfl (rg_w (⟨by decide, by decide⟩ : Rg 0 0 0) (by decide) (by decide))
        have hm22 : v20 400 34 = x7 := by rw [ev20, up2_n _ _ (by omega)]; exact hm19
        have hm23 : v20 400 33 = 0 := by rw [ev20, up2_s]
        refine lv_iload_n hx hb d_X11_order_40 rfl (lv_at hl 0 rfl) ?_
        refine lv_if_ne (tgt := 52) hx hb d_X11_order_41 (by decide) (fun c24 => ?_) (fun c24 => ?_)
        · have f25 := i_ne c24
          have r26 : Rg x14 1 1 := by obtain ⟨a1, a2⟩ := hp13; obtain ⟨b1, b2⟩ := (⟨by decide, by decide⟩ : Rg 0 0 0); have f := i_ne c24; exact ⟨by omega, by omega⟩
          refine lv_aload_n hx hb d_X11_order_52 rfl (lv_at hl 1 rfl) ?_
          refine r_getr (r := 436) X hw FL_X11_96 (rfl : KD 400 = _) rfl d_X11_order_53 ?_
          refine lv_aload_n hx hb d_X11_order_56 rfl (lv_at hl 1 rfl) ?_
          refine r_geti X hw FL_X11_214 (rfl : KD 400 = _) rfl d_X11_order_57 ?_
          rw [hm22]
          refine lv_iload_n hx hb d_X11_order_60 rfl (lv_at hl 2 rfl) ?_
          refine r_iast X hw hS (rfl : KD 436 = _) (Rg.vp (b := 7) r12 (by decide)) rfl d_X11_order_61 (fun H locs hw hS => ?_)
          obtain ⟨v27, ev27⟩ : ∃ z, z = up2 v20 436 x7.toNatClampNeg dy := ⟨_, rfl⟩
          rw [← ev27] at hw
          have hI28 : Inv v27 := by rw [ev27]; exact Inv.put0 hI21 _ rfl
          have hm29 : v27 400 34 = x7 := by rw [ev27, up2_n _ _ (by omega)]; exact hm22
          have hm30 : v27 400 33 = 0 := by rw [ev27, up2_n _ _ (by omega)]; exact hm23
          refine lv_aload_n hx hb d_X11_order_62 rfl (lv_at hl 1 rfl) ?_
          refine lv_dup hx hb d_X11_order_63 rfl ?_
          refine r_geti X hw FL_X11_214 (rfl : KD 400 = _) rfl d_X11_order_64 ?_
          rw [hm29]
          refine lv_iconst (v := 1) hx hb d_X11_order_67 (by decide) ?_
          refine lv_iadd hx hb d_X11_order_68 ?_
          refine lv_topi (fun x31 ex31 => ?_)
          have r32 : Rg x31 1 8 := rg_add ex31 r12 (⟨by decide, by decide⟩ : Rg 1 1 1) (by decide) (by decide)
          have s33 : x31.toInt = x7.toInt + (1 : Int32).toInt := by rw [ex31]; exact i_add (by obtain ⟨_, _⟩ := r12; obtain ⟨_, _⟩ := (⟨by decide, by decide⟩ : Rg 1 1 1); omega) (by obtain ⟨_, _⟩ := r12; obtain ⟨_, _⟩ := (⟨by decide, by decide⟩ : Rg 1 1 1); omega)
          have s33l : (1 : Int32).toInt = 1 := rfl
          refine r_put X hw hS FP_X11_214 (rfl : KD 400 = _) rfl ⟨rfl, rfl⟩ d_X11_order_69 (fun H locs hw hS => ?_)
          obtain ⟨v34, ev34⟩ : ∃ z, z = up2 v27 400 34 x31 := ⟨_, rfl⟩
          rw [← ev34] at hw
          have hI35 : Inv v34 := by rw [ev34]; exact Inv.putr hI28 rfl (rg_w r32 (by decide) (by decide))
          have hm36 : v34 400 33 = 0 := by rw [ev34, up2_n _ _ (by omega)]; exact hm30
          have hm37 : v34 400 34 = x31 := by rw [ev34, up2_s]
          refine lv_aload_n hx hb d_X11_order_72 rfl (lv_at hl 1 rfl) ?_
          refine r_geti X hw FL_X11_214 (rfl : KD 400 = _) rfl d_X11_order_73 ?_
          rw [hm37]
          refine lv_iconst (v := 1) hx hb d_X11_order_76 (by decide) ?_
          refine lv_isub hx hb d_X11_order_77 ?_
          refine lv_topi (fun x38 ex38 => ?_)
          have r39 : Rg x38 0 7 := rg_sub ex38 r32 (⟨by decide, by decide⟩ : Rg 1 1 1) (by decide) (by decide)
          have s40 : x38.toInt = x31.toInt - (1 : Int32).toInt := by rw [ex38]; exact i_sub (by obtain ⟨_, _⟩ := r32; obtain ⟨_, _⟩ := (⟨by decide, by decide⟩ : Rg 1 1 1); omega) (by obtain ⟨_, _⟩ := r32; obtain ⟨_, _⟩ := (⟨by decide, by decide⟩ : Rg 1 1 1); omega)
          have s40l : (1 : Int32).toInt = 1 := rfl
          exact r_iret X hr hlocks hw hS hI35 d_X11_order_78
        · have f41 := i_eq c24
          have r42 : Rg x14 0 0 := by obtain ⟨a1, a2⟩ := hp13; obtain ⟨b1, b2⟩ := (⟨by decide, by decide⟩ : Rg 0 0 0); have f := i_eq c24; exact ⟨by omega, by omega⟩
          refine lv_bipush (v := -10) hx hb d_X11_order_44 (by decide) ?_
          refine lv_aload_n hx hb d_X11_order_46 rfl (lv_at hl 1 rfl) ?_
          refine r_geti X hw FL_X11_193 (rfl : KD 400 = _) rfl d_X11_order_47 ?_
          refine lv_topi (fun x43 ex43 => ?_)
          have r44 : Rg x43 0 120 := by rw [ex43]; exact hI21 _ _ _ _ rfl
          have hm45 : v20 400 42 = x43 := ex43.symm
          refine lv_isub hx hb d_X11_order_50 ?_
          refine lv_topi (fun x46 ex46 => ?_)
          have r47 : Rg x46 (-130) (-10) := rg_sub ex46 (⟨by decide, by decide⟩ : Rg (-10) (-10) (-10)) r44 (by decide) (by decide)
          have s48 : x46.toInt = (-10 : Int32).toInt - (x43 : Int32).toInt := by rw [ex46]; exact i_sub (by obtain ⟨_, _⟩ := (⟨by decide, by decide⟩ : Rg (-10) (-10) (-10)); obtain ⟨_, _⟩ := r44; omega) (by obtain ⟨_, _⟩ := (⟨by decide, by decide⟩ : Rg (-10) (-10) (-10)); obtain ⟨_, _⟩ := r44; omega)
          have s48a : (-10 : Int32).toInt = (-10) := rfl
          exact r_iret X hr hlocks hw hS hI21 d_X11_order_51
      · have f49 := i_eq c10
        have r50 : Rg x7 8 8 := by obtain ⟨a1, a2⟩ := r8; obtain ⟨b1, b2⟩ := (⟨by decide, by decide⟩ : Rg 8 8 8); have f := i_eq c10; exact ⟨by omega, by omega⟩
        refine lv_bipush (v := -4) hx hb d_X11_order_23 (by decide) ?_
        exact r_iret X hr hlocks hw hS hI d_X11_order_25
    · exact absurd c6 (by decide)
  · skip
    refine lv_if_ne (tgt := 14) hx hb d_X11_order_8 (by decide) (fun c51 => ?_) (fun c51 => ?_)
    · exact absurd c51 (by decide)
    · refine lv_bipush (v := -2) hx hb d_X11_order_11 (by decide) ?_
      exact r_iret X hr hlocks hw hS hI d_X11_order_13
