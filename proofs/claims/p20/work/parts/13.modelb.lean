theorem d_X11_has_0 : decode c_X11_has 0 = .ok (.aload_n 0, 1) := by decide +kernel
theorem d_X11_has_1 : decode c_X11_has 1 = .ok (.getfield 193, 3) := by decide +kernel
theorem d_X11_has_4 : decode c_X11_has 4 = .ok (.aload_n 0, 1) := by decide +kernel
theorem d_X11_has_5 : decode c_X11_has 5 = .ok (.getfield 190, 3) := by decide +kernel
theorem d_X11_has_8 : decode c_X11_has 8 = .ok (.if_icmp .ge 20, 3) := by decide +kernel
theorem d_X11_has_11 : decode c_X11_has 11 = .ok (.aload_n 0, 1) := by decide +kernel
theorem d_X11_has_12 : decode c_X11_has 12 = .ok (.getfield 92, 3) := by decide +kernel
theorem d_X11_has_15 : decode c_X11_has 15 = .ok (.aload_n 0, 1) := by decide +kernel
theorem d_X11_has_16 : decode c_X11_has 16 = .ok (.getfield 193, 3) := by decide +kernel
theorem d_X11_has_19 : decode c_X11_has 19 = .ok (.baload, 1) := by decide +kernel
theorem d_X11_has_20 : decode c_X11_has 20 = .ok (.iload_n 1, 1) := by decide +kernel
theorem d_X11_has_21 : decode c_X11_has 21 = .ok (.if_icmp .ne 7, 3) := by decide +kernel
theorem d_X11_has_24 : decode c_X11_has 24 = .ok (.iconst 1, 1) := by decide +kernel
theorem d_X11_has_25 : decode c_X11_has 25 = .ok (.goto 4, 3) := by decide +kernel
theorem d_X11_has_28 : decode c_X11_has 28 = .ok (.iconst 0, 1) := by decide +kernel
theorem d_X11_has_29 : decode c_X11_has 29 = .ok (.ireturn, 1) := by decide +kernel
set_option maxHeartbeats 4000000 in
set_option maxRecDepth 100000 in
theorem ct_X11_has_400 (l : Launch) (D : va_G) (dA : Nat → ClassId) (ad : Nat → Nat) (v : tV) (hI : Inv v) (bt : Int32) : Met l m_X11_has [.code m_X11_has c_X11_has 2 (some .boolean)] ({ frames := 1, cells := 0, slots := 0, locals := 40 } : Room) (tP D dA ad v [.ref (ad 400), .int bt]) (tQi D dA ad (fun r v' => v' = v ∧ ((r = 1 ∧ (v 400 42).toInt ≤ 119) ∨ r = 0))) 0 0 (tA ad) := by
  refine tMet (by decide) (Nat.le_of_ble_eq_true rfl) ?_
  intro p e s m below meth c ls X hr hlocks hw hl
  have X : CX p s m ([.ref (ad 400), .int bt] : List Value).toArray c c_X11_has N_X11 2 D dA := X
  have hx := X.1
  have hb := X.2.1
  have hS : va_S (tA ad) s.heap s.heap [] := va_S.rf
  have hl : lv_has ls 2 [(0, .ref (ad 400)), (1, .int bt)] := hl
  refine lv_aload_n hx hb d_X11_has_0 rfl (lv_at hl 0 rfl) ?_
  refine r_geti X hw FL_X11_193 (rfl : KD 400 = _) rfl d_X11_has_1 ?_
  refine lv_topi (fun x1 ex1 => ?_)
  have r2 : Rg x1 0 120 := by rw [ex1]; exact hI _ _ _ _ rfl
  have hm3 : v 400 42 = x1 := ex1.symm
  refine lv_aload_n hx hb d_X11_has_4 rfl (lv_at hl 0 rfl) ?_
  refine r_geti X hw FL_X11_190 (rfl : KD 400 = _) rfl d_X11_has_5 ?_
  refine lv_topi (fun x4 ex4 => ?_)
  have r5 : Rg x4 0 120 := by rw [ex4]; exact hI _ _ _ _ rfl
  have hm6 : v 400 33 = x4 := ex4.symm
  refine lv_icmp_ge (tgt := 28) hx hb d_X11_has_8 (by decide) (fun c7 => ?_) (fun c7 => ?_)
  · have f8 := i_le c7
    refine lv_iconst (v := 0) hx hb d_X11_has_28 (by decide) ?_
    exact r_zret X hr hlocks hw hS rfl ⟨rfl, Or.inr rfl⟩ d_X11_has_29
  · have f9 := i_nle c7
    have r10 : Rg x1 0 119 := by obtain ⟨a1, a2⟩ := r2; obtain ⟨b1, b2⟩ := r5; have f := i_nle c7; exact ⟨by omega, by omega⟩
    have r11 : Rg x4 1 120 := by obtain ⟨a1, a2⟩ := r2; obtain ⟨b1, b2⟩ := r5; have f := i_nle c7; exact ⟨by omega, by omega⟩
    refine lv_aload_n hx hb d_X11_has_11 rfl (lv_at hl 0 rfl) ?_
    refine r_getr (r := 433) X hw FL_X11_92 (rfl : KD 400 = _) rfl d_X11_has_12 ?_
    refine lv_aload_n hx hb d_X11_has_15 rfl (lv_at hl 0 rfl) ?_
    refine r_geti X hw FL_X11_193 (rfl : KD 400 = _) rfl d_X11_has_16 ?_
    rw [hm3]
    refine r_bald X hw (rfl : KD 433 = _) (Rg.vp (b := 119) r10 (by decide)) rfl d_X11_has_19 ?_
    refine lv_topi (fun x12 ex12 => ?_)
    refine lv_iload_n hx hb d_X11_has_20 rfl (lv_at hl 1 rfl) ?_
    refine lv_icmp_ne (tgt := 28) hx hb d_X11_has_21 (by decide) (fun c13 => ?_) (fun c13 => ?_)
    · have f14 := i_ne c13
      refine lv_iconst (v := 0) hx hb d_X11_has_28 (by decide) ?_
      exact r_zret X hr hlocks hw hS rfl ⟨rfl, Or.inr rfl⟩ d_X11_has_29
    · have f15 := i_eq c13
      refine lv_iconst (v := 1) hx hb d_X11_has_24 (by decide) ?_
      refine lv_goto (tgt := 29) hx hb d_X11_has_25 (by decide) ?_
      exact r_zret X hr hlocks hw hS rfl ⟨rfl, Or.inl ⟨rfl, by rw [hm3]; exact (r10).2⟩⟩ d_X11_has_29
theorem d_X11_takes_0 : decode c_X11_takes 0 = .ok (.aload_n 0, 1) := by decide +kernel
theorem d_X11_takes_1 : decode c_X11_takes 1 = .ok (.iload_n 1, 1) := by decide +kernel
theorem d_X11_takes_2 : decode c_X11_takes 2 = .ok (.invokevirtual 196, 3) := by decide +kernel
theorem d_X11_takes_5 : decode c_X11_takes 5 = .ok (.ifCond .ne 5, 3) := by decide +kernel
theorem d_X11_takes_8 : decode c_X11_takes 8 = .ok (.iconst 0, 1) := by decide +kernel
theorem d_X11_takes_9 : decode c_X11_takes 9 = .ok (.ireturn, 1) := by decide +kernel
theorem d_X11_takes_10 : decode c_X11_takes 10 = .ok (.aload_n 0, 1) := by decide +kernel
theorem d_X11_takes_11 : decode c_X11_takes 11 = .ok (.dup, 1) := by decide +kernel
theorem d_X11_takes_12 : decode c_X11_takes 12 = .ok (.getfield 193, 3) := by decide +kernel
theorem d_X11_takes_15 : decode c_X11_takes 15 = .ok (.iconst 1, 1) := by decide +kernel
theorem d_X11_takes_16 : decode c_X11_takes 16 = .ok (.iadd, 1) := by decide +kernel
theorem d_X11_takes_17 : decode c_X11_takes 17 = .ok (.putfield 193, 3) := by decide +kernel
theorem d_X11_takes_20 : decode c_X11_takes 20 = .ok (.iconst 1, 1) := by decide +kernel
theorem d_X11_takes_21 : decode c_X11_takes 21 = .ok (.ireturn, 1) := by decide +kernel
set_option maxHeartbeats 4000000 in
set_option maxRecDepth 100000 in
theorem ct_X11_takes_400 (l : Launch) (D : va_G) (dA : Nat → ClassId) (ad : Nat → Nat) (v : tV) (hI : Inv v) (bt : Int32) : Met l m_X11_takes [.code m_X11_takes c_X11_takes 2 (some .boolean)] ({ frames := 2, cells := 0, slots := 0, locals := 61 } : Room) (tP D dA ad v [.ref (ad 400), .int bt]) (tQi D dA ad (fun r v' => Inv v' ∧ Kp v v' ∧ Rg r 0 1 ∧ v' 400 34 = v 400 34 ∧ (∀ a b, a ≠ 400 → v' a b = v a b))) 0 0 (tA ad) := by
  refine tMet (by decide) (Nat.le_of_ble_eq_true rfl) ?_
  intro p e s m below meth c ls X hr hlocks hw hl
  have X : CX p s m ([.ref (ad 400), .int bt] : List Value).toArray c c_X11_takes N_X11 2 D dA := X
  have hx := X.1
  have hb := X.2.1
  have hS : va_S (tA ad) s.heap s.heap [] := va_S.rf
  have hl : lv_has ls 2 [(0, .ref (ad 400)), (1, .int bt)] := hl
  obtain ⟨g0, hg0⟩ : ∃ g, v 400 34 = g := ⟨_, rfl⟩
  have r_g0 : Rg g0 0 8 := by rw [← hg0]; exact hI 400 34 _ _ rfl
  have hF0 : ∀ a b, a ≠ 400 → v a b = v a b := fun _ _ _ => rfl
  have hK0 : Kp v v := Kp.rf v
  refine lv_aload_n hx hb d_X11_takes_0 rfl (lv_at hl 0 rfl) ?_
  refine lv_iload_n hx hb d_X11_takes_1 rfl (lv_at hl 1 rfl) ?_
  refine r_ci (r_runV (n := 1) (As := [.int bt]) (rest := []) X hw (ct_X11_has_400 l D dA ad v hI bt) gc_X11_196 (rfl : KD 400 = _) (by decide) rfl (by decide +kernel) ⟨rfl, rfl, Nat.le_of_ble_eq_true rfl, Nat.le_of_ble_eq_true rfl⟩ rfl hl.1 rfl (Nat.le_of_ble_eq_true rfl) ⟨Nat.zero_le _, Nat.zero_le _⟩ d_X11_takes_2) hS (fun x2 v3 H locs hp1 hw hS => ?_)
  obtain ⟨ev3, hp1⟩ := hp1
  rw [ev3] at hw
  rcases hp1 with ⟨rfl, w4a⟩ | rfl
  · skip
    obtain ⟨x5, ex5⟩ : ∃ z, v 400 42 = z := ⟨_, rfl⟩
    have r6 : Rg x5 0 119 := by have q := hI 400 42 0 120 rfl; obtain ⟨_, _⟩ := q; rw [ex5] at *; exact ⟨by omega, by omega⟩
    refine lv_if_ne (tgt := 10) hx hb d_X11_takes_5 (by decide) (fun c7 => ?_) (fun c7 => ?_)
    · refine lv_aload_n hx hb d_X11_takes_10 rfl (lv_at hl 0 rfl) ?_
      refine lv_dup hx hb d_X11_takes_11 rfl ?_
      refine r_geti X hw FL_X11_193 (rfl : KD 400 = _) rfl d_X11_takes_12 ?_
      rw [ex5]
      refine lv_iconst (v := 1) hx hb d_X11_takes_15 (by decide) ?_
      refine lv_iadd hx hb d_X11_takes_16 ?_
      refine lv_topi (fun x8 ex8 => ?_)
      have r9 : Rg x8 1 120 := rg_add ex8 r6 (⟨by decide, by decide⟩ : Rg 1 1 1) (by decide) (by decide)
      have s10 : x8.toInt = x5.toInt + (1 : Int32).toInt := by rw [ex8]; exact i_add (by obtain ⟨_, _⟩ := r6; obtain ⟨_, _⟩ := (⟨by decide, by decide⟩ : Rg 1 1 1); omega) (by obtain ⟨_, _⟩ := r6; obtain ⟨_, _⟩ := (⟨by decide, by decide⟩ : Rg 1 1 1); omega)
      have s10l : (1 : Int32).toInt = 1 := rfl
      refine r_put X hw hS FP_X11_193 (rfl : KD 400 = _) rfl ⟨rfl, rfl⟩ d_X11_takes_17 (fun H locs hw hS => ?_)
      obtain ⟨v11, ev11⟩ : ∃ z, z = up2 v 400 42 x8 := ⟨_, rfl⟩
      rw [← ev11] at hw
      have hI12 : Inv v11 := by rw [ev11]; exact Inv.putr hI rfl (rg_w r9 (by decide) (by decide))
      have hK13 : Kp v v11 := by rw [ev11]; exact Kp.put hK0 _ rfl
      have hF14 : ∀ a b, a ≠ 400 → v11 a b = v a b := by intro a b h; rw [ev11, up2_n _ _ (fun q => h q.1)]; exact hF0 a b h
      have hm15 : v11 400 34 = g0 := by rw [ev11, up2_n _ _ (by omega)]; exact hg0
      have hm16 : v11 400 42 = x8 := by rw [ev11, up2_s]
      refine lv_iconst (v := 1) hx hb d_X11_takes_20 (by decide) ?_
      exact r_zret X hr hlocks hw hS rfl ⟨hI12, hK13, (rg_w (⟨by decide, by decide⟩ : Rg 1 1 1) (by decide) (by decide)), (hm15.trans hg0.symm), hF14⟩ d_X11_takes_21
    · exact absurd c7 (by decide)
  · skip
    refine lv_if_ne (tgt := 10) hx hb d_X11_takes_5 (by decide) (fun c17 => ?_) (fun c17 => ?_)
    · exact absurd c17 (by decide)
    · refine lv_iconst (v := 0) hx hb d_X11_takes_8 (by decide) ?_
      exact r_zret X hr hlocks hw hS rfl ⟨hI, hK0, (rg_w (⟨by decide, by decide⟩ : Rg 0 0 0) (by decide) (by decide)), (hg0.trans hg0.symm), hF0⟩ d_X11_takes_9
theorem d_X11_takesNumber_0 : decode c_X11_takesNumber 0 = .ok (.aload_n 0, 1) := by decide +kernel
theorem d_X11_takesNumber_1 : decode c_X11_takesNumber 1 = .ok (.iconst 0, 1) := by decide +kernel
theorem d_X11_takesNumber_2 : decode c_X11_takesNumber 2 = .ok (.putfield 199, 3) := by decide +kernel
theorem d_X11_takesNumber_5 : decode c_X11_takesNumber 5 = .ok (.iconst 0, 1) := by decide +kernel
theorem d_X11_takesNumber_6 : decode c_X11_takesNumber 6 = .ok (.istore_n 2, 1) := by decide +kernel
theorem d_X11_takesNumber_7 : decode c_X11_takesNumber 7 = .ok (.iload_n 2, 1) := by decide +kernel
theorem d_X11_takesNumber_8 : decode c_X11_takesNumber 8 = .ok (.iload_n 1, 1) := by decide +kernel
theorem d_X11_takesNumber_9 : decode c_X11_takesNumber 9 = .ok (.if_icmp .ge 69, 3) := by decide +kernel
theorem d_X11_takesNumber_12 : decode c_X11_takesNumber 12 = .ok (.aload_n 0, 1) := by decide +kernel
theorem d_X11_takesNumber_13 : decode c_X11_takesNumber 13 = .ok (.getfield 193, 3) := by decide +kernel
theorem d_X11_takesNumber_16 : decode c_X11_takesNumber 16 = .ok (.aload_n 0, 1) := by decide +kernel
theorem d_X11_takesNumber_17 : decode c_X11_takesNumber 17 = .ok (.getfield 190, 3) := by decide +kernel
theorem d_X11_takesNumber_20 : decode c_X11_takesNumber 20 = .ok (.if_icmp .ge 58, 3) := by decide +kernel
theorem d_X11_takesNumber_23 : decode c_X11_takesNumber 23 = .ok (.aload_n 0, 1) := by decide +kernel
theorem d_X11_takesNumber_24 : decode c_X11_takesNumber 24 = .ok (.getfield 92, 3) := by decide +kernel
theorem d_X11_takesNumber_27 : decode c_X11_takesNumber 27 = .ok (.aload_n 0, 1) := by decide +kernel
theorem d_X11_takesNumber_28 : decode c_X11_takesNumber 28 = .ok (.getfield 193, 3) := by decide +kernel
theorem d_X11_takesNumber_31 : decode c_X11_takesNumber 31 = .ok (.baload, 1) := by decide +kernel
theorem d_X11_takesNumber_32 : decode c_X11_takesNumber 32 = .ok (.invokestatic 202, 3) := by decide +kernel
theorem d_X11_takesNumber_35 : decode c_X11_takesNumber 35 = .ok (.ifCond .eq 43, 3) := by decide +kernel
theorem d_X11_takesNumber_38 : decode c_X11_takesNumber 38 = .ok (.aload_n 0, 1) := by decide +kernel
theorem d_X11_takesNumber_39 : decode c_X11_takesNumber 39 = .ok (.bipush 10, 2) := by decide +kernel
theorem d_X11_takesNumber_41 : decode c_X11_takesNumber 41 = .ok (.aload_n 0, 1) := by decide +kernel
theorem d_X11_takesNumber_42 : decode c_X11_takesNumber 42 = .ok (.getfield 199, 3) := by decide +kernel
theorem d_X11_takesNumber_45 : decode c_X11_takesNumber 45 = .ok (.imul, 1) := by decide +kernel
theorem d_X11_takesNumber_46 : decode c_X11_takesNumber 46 = .ok (.aload_n 0, 1) := by decide +kernel
theorem d_X11_takesNumber_47 : decode c_X11_takesNumber 47 = .ok (.getfield 92, 3) := by decide +kernel
theorem d_X11_takesNumber_50 : decode c_X11_takesNumber 50 = .ok (.aload_n 0, 1) := by decide +kernel
theorem d_X11_takesNumber_51 : decode c_X11_takesNumber 51 = .ok (.getfield 193, 3) := by decide +kernel
theorem d_X11_takesNumber_54 : decode c_X11_takesNumber 54 = .ok (.baload, 1) := by decide +kernel
theorem d_X11_takesNumber_55 : decode c_X11_takesNumber 55 = .ok (.iadd, 1) := by decide +kernel
theorem d_X11_takesNumber_56 : decode c_X11_takesNumber 56 = .ok (.bipush 48, 2) := by decide +kernel
theorem d_X11_takesNumber_58 : decode c_X11_takesNumber 58 = .ok (.isub, 1) := by decide +kernel
theorem d_X11_takesNumber_59 : decode c_X11_takesNumber 59 = .ok (.putfield 199, 3) := by decide +kernel
theorem d_X11_takesNumber_62 : decode c_X11_takesNumber 62 = .ok (.aload_n 0, 1) := by decide +kernel
theorem d_X11_takesNumber_63 : decode c_X11_takesNumber 63 = .ok (.dup, 1) := by decide +kernel
theorem d_X11_takesNumber_64 : decode c_X11_takesNumber 64 = .ok (.getfield 193, 3) := by decide +kernel
theorem d_X11_takesNumber_67 : decode c_X11_takesNumber 67 = .ok (.iconst 1, 1) := by decide +kernel
theorem d_X11_takesNumber_68 : decode c_X11_takesNumber 68 = .ok (.iadd, 1) := by decide +kernel
theorem d_X11_takesNumber_69 : decode c_X11_takesNumber 69 = .ok (.putfield 193, 3) := by decide +kernel
theorem d_X11_takesNumber_72 : decode c_X11_takesNumber 72 = .ok (.iinc 2 1, 3) := by decide +kernel
theorem d_X11_takesNumber_75 : decode c_X11_takesNumber 75 = .ok (.goto (-68), 3) := by decide +kernel
theorem d_X11_takesNumber_78 : decode c_X11_takesNumber 78 = .ok (.iload_n 2, 1) := by decide +kernel
theorem d_X11_takesNumber_79 : decode c_X11_takesNumber 79 = .ok (.ifCond .le 7, 3) := by decide +kernel
theorem d_X11_takesNumber_82 : decode c_X11_takesNumber 82 = .ok (.iconst 1, 1) := by decide +kernel
theorem d_X11_takesNumber_83 : decode c_X11_takesNumber 83 = .ok (.goto 4, 3) := by decide +kernel
theorem d_X11_takesNumber_86 : decode c_X11_takesNumber 86 = .ok (.iconst 0, 1) := by decide +kernel
theorem d_X11_takesNumber_87 : decode c_X11_takesNumber 87 = .ok (.ireturn, 1) := by decide +kernel
set_option maxHeartbeats 4000000 in
set_option maxRecDepth 100000 in
theorem ct_X11_takesNumber_2 (l : Launch) (D : va_G) (dA : Nat → ClassId) (ad : Nat → Nat) (v : tV) (hI : Inv v) (most : Int32) (r_most : Rg most 2 2) : Met l m_X11_takesNumber [.code m_X11_takesNumber c_X11_takesNumber 3 (some .boolean)] ({ frames := 2, cells := 0, slots := 0, locals := 60 } : Room) (tP D dA ad v [.ref (ad 400), .int most]) (tQi D dA ad (fun r v' => Inv v' ∧ Kp v v' ∧ Rg r 0 1 ∧ v' 400 34 = v 400 34 ∧ (∀ a b, a ≠ 400 → v' a b = v a b) ∧ Rg (v' 400 43) 0 99)) 0 0 (tA ad) := by
  refine tMet (by decide) (Nat.le_of_ble_eq_true rfl) ?_
  intro p e s m below meth c ls X hr hlocks hw hl
  have X : CX p s m ([.ref (ad 400), .int most] : List Value).toArray c c_X11_takesNumber N_X11 3 D dA := X
  have hx := X.1
  have hb := X.2.1
  have hS : va_S (tA ad) s.heap s.heap [] := va_S.rf
  have hl : lv_has ls 3 [(0, .ref (ad 400)), (1, .int most)] := hl
  obtain ⟨g0, hg0⟩ : ∃ g, v 400 34 = g := ⟨_, rfl⟩
  have r_g0 : Rg g0 0 8 := by rw [← hg0]; exact hI 400 34 _ _ rfl
  have hF0 : ∀ a b, a ≠ 400 → v a b = v a b := fun _ _ _ => rfl
  have LL : ∀ n : Nat, (∀ (y2 : Int32) (m0 : Int32) (v1 : tV) (H : Heap) (locs : List Loc) (ls : Array Slot), (2 - y2.toInt).toNat < n → Rg y2 0 2 → Rg m0 0 99 → Inv v1 → Kp v v1 → (∀ a b, a ≠ 400 → v1 a b = v a b) → v1 400 43 = m0 → v1 400 34 = g0 → (y2.toInt = 0 → m0.toInt = 0) ∧ (y2.toInt = 1 → m0.toInt ≤ 9) → tI D dA ad v1 H → va_S (tA ad) s.heap H locs → lv_has ls 3 [(0, .ref (ad 400)), (1, .int most), (2, .int y2)] → W p l e ({ frames := 2, cells := 0, slots := 0, locals := 60 } : Room) s m ([.ref (ad 400), .int most] : List Value).toArray below meth c H locs 0 0 (MQ below (tQi D dA ad (fun r v' => Inv v' ∧ Kp v v' ∧ Rg r 0 1 ∧ v' 400 34 = v 400 34 ∧ (∀ a b, a ≠ 400 → v' a b = v a b) ∧ Rg (v' 400 43) 0 99)) ([.ref (ad 400), .int most] : List Value).toArray s 0 0 (tA ad)) (F0 m 7 ls [])) := by
    intro n
    induction n with
    | zero => intros; omega
    | succ n ih =>
      have ih0 := ih
      intro y2 m0 v1 H locs ls hmu r_y2 r_m0 hI1 hK1 hF1 h_m0 hfx0 hex hw hS hl
      refine lv_iload_n hx hb d_X11_takesNumber_7 rfl (lv_at hl 2 rfl) ?_
      refine lv_iload_n hx hb d_X11_takesNumber_8 rfl (lv_at hl 1 rfl) ?_
      refine lv_icmp_ge (tgt := 78) hx hb d_X11_takesNumber_9 (by decide) (fun c1 => ?_) (fun c1 => ?_)
      · have f2 := i_le c1
        have r3 : Rg y2 2 2 := by obtain ⟨a1, a2⟩ := r_y2; obtain ⟨b1, b2⟩ := r_most; have f := i_le c1; exact ⟨by omega, by omega⟩
        refine lv_iload_n hx hb d_X11_takesNumber_78 rfl (lv_at hl 2 rfl) ?_
        refine lv_if_le (tgt := 86) hx hb d_X11_takesNumber_79 (by decide) (fun c4 => ?_) (fun c4 => ?_)
        · exfalso
          obtain ⟨a1, a2⟩ := r3; obtain ⟨b1, b2⟩ := (⟨by decide, by decide⟩ : Rg 0 0 0); have f := i_le c4; omega
        · have f5 := i_nle c4
          refine lv_iconst (v := 1) hx hb d_X11_takesNumber_82 (by decide) ?_
          refine lv_goto (tgt := 87) hx hb d_X11_takesNumber_83 (by decide) ?_
          exact r_zret X hr hlocks hw hS rfl ⟨hI1, hK1, (rg_w (⟨by decide, by decide⟩ : Rg 1 1 1) (by decide) (by decide)), (hfx0.trans hg0.symm), hF1, (by rw [h_m0]; exact r_m0)⟩ d_X11_takesNumber_87
      · have f6 := i_nle c1
        have r7 : Rg y2 0 1 := by obtain ⟨a1, a2⟩ := r_y2; obtain ⟨b1, b2⟩ := r_most; have f := i_nle c1; exact ⟨by omega, by omega⟩
        refine lv_aload_n hx hb d_X11_takesNumber_12 rfl (lv_at hl 0 rfl) ?_
        refine r_geti X hw FL_X11_193 (rfl : KD 400 = _) rfl d_X11_takesNumber_13 ?_
        refine lv_topi (fun x8 ex8 => ?_)
        have r9 : Rg x8 0 120 := by rw [ex8]; exact hI1 _ _ _ _ rfl
        have hm10 : v1 400 42 = x8 := ex8.symm
        refine lv_aload_n hx hb d_X11_takesNumber_16 rfl (lv_at hl 0 rfl) ?_
        refine r_geti X hw FL_X11_190 (rfl : KD 400 = _) rfl d_X11_takesNumber_17 ?_
        refine lv_topi (fun x11 ex11 => ?_)
        have r12 : Rg x11 0 120 := by rw [ex11]; exact hI1 _ _ _ _ rfl
        have hm13 : v1 400 33 = x11 := ex11.symm
        refine lv_icmp_ge (tgt := 78) hx hb d_X11_takesNumber_20 (by decide) (fun c14 => ?_) (fun c14 => ?_)
        · have f15 := i_le c14
          refine lv_iload_n hx hb d_X11_takesNumber_78 rfl (lv_at hl 2 rfl) ?_
          refine lv_if_le (tgt := 86) hx hb d_X11_takesNumber_79 (by decide) (fun c16 => ?_) (fun c16 => ?_)
          · have f17 := i_le c16
            have r18 : Rg y2 0 0 := by obtain ⟨a1, a2⟩ := r7; obtain ⟨b1, b2⟩ := (⟨by decide, by decide⟩ : Rg 0 0 0); have f := i_le c16; exact ⟨by omega, by omega⟩
            refine lv_iconst (v := 0) hx hb d_X11_takesNumber_86 (by decide) ?_
            exact r_zret X hr hlocks hw hS rfl ⟨hI1, hK1, (rg_w (⟨by decide, by decide⟩ : Rg 0 0 0) (by decide) (by decide)), (hfx0.trans hg0.symm), hF1, (by rw [h_m0]; exact r_m0)⟩ d_X11_takesNumber_87
          · have f19 := i_nle c16
            have r20 : Rg y2 1 1 := by obtain ⟨a1, a2⟩ := r7; obtain ⟨b1, b2⟩ := (⟨by decide, by decide⟩ : Rg 0 0 0); have f := i_nle c16; exact ⟨by omega, by omega⟩
            refine lv_iconst (v := 1) hx hb d_X11_takesNumber_82 (by decide) ?_
            refine lv_goto (tgt := 87) hx hb d_X11_takesNumber_83 (by decide) ?_
            exact r_zret X hr hlocks hw hS rfl ⟨hI1, hK1, (rg_w (⟨by decide, by decide⟩ : Rg 1 1 1) (by decide) (by decide)), (hfx0.trans hg0.symm), hF1, (by rw [h_m0]; exact r_m0)⟩ d_X11_takesNumber_87
        · have f21 := i_nle c14
          have r22 : Rg x8 0 119 := by obtain ⟨a1, a2⟩ := r9; obtain ⟨b1, b2⟩ := r12; have f := i_nle c14; exact ⟨by omega, by omega⟩
          have r23 : Rg x11 1 120 := by obtain ⟨a1, a2⟩ := r9; obtain ⟨b1, b2⟩ := r12; have f := i_nle c14; exact ⟨by omega, by omega⟩
          refine lv_aload_n hx hb d_X11_takesNumber_23 rfl (lv_at hl 0 rfl) ?_
          refine r_getr (r := 433) X hw FL_X11_92 (rfl : KD 400 = _) rfl d_X11_takesNumber_24 ?_
          refine lv_aload_n hx hb d_X11_takesNumber_27 rfl (lv_at hl 0 rfl) ?_
          refine r_geti X hw FL_X11_193 (rfl : KD 400 = _) rfl d_X11_takesNumber_28 ?_
          rw [hm10]
          refine r_bald X hw (rfl : KD 433 = _) (Rg.vp (b := 119) r22 (by decide)) rfl d_X11_takesNumber_31 ?_
          refine lv_topi (fun x24 ex24 => ?_)
          have hm25 : v1 433 x8.toNatClampNeg = x24 := ex24.symm
          refine r_ci (r_runS (n := 1) (As := [.int x24]) (rest := []) X hw (ct_X11_isDigit l D dA ad v1 hI1 x24) gc_X11_202 (by decide +kernel) ⟨rfl, rfl, Nat.le_of_ble_eq_true rfl, Nat.le_of_ble_eq_true rfl⟩ rfl hl.1 rfl (Nat.le_of_ble_eq_true rfl) ⟨Nat.zero_le _, Nat.zero_le _⟩ d_X11_takesNumber_32) hS (fun x27 v28 H locs hp26 hw hS => ?_)
          obtain ⟨ev28, hp26⟩ := hp26
          rw [ev28] at hw
          rcases hp26 with ⟨rfl, w29a, w29b⟩ | ⟨rfl, w29n⟩
          · skip
            have r30 : Rg x24 48 57 := by obtain ⟨_, _⟩ := (rg_any x24); exact ⟨by omega, by omega⟩
            refine lv_if_eq (tgt := 78) hx hb d_X11_takesNumber_35 (by decide) (fun c31 => ?_) (fun c31 => ?_)
            · exact absurd c31 (by decide)
            · have r32 : Rg m0 0 9 := by obtain ⟨_, _⟩ := r_m0; obtain ⟨_, _⟩ := r7; exact ⟨by omega, by omega⟩
              refine lv_aload_n hx hb d_X11_takesNumber_38 rfl (lv_at hl 0 rfl) ?_
              refine lv_bipush (v := 10) hx hb d_X11_takesNumber_39 (by decide) ?_
              refine lv_aload_n hx hb d_X11_takesNumber_41 rfl (lv_at hl 0 rfl) ?_
              refine r_geti X hw FL_X11_199 (rfl : KD 400 = _) rfl d_X11_takesNumber_42 ?_
              rw [h_m0]
              refine lv_imul hx hb d_X11_takesNumber_45 ?_
              refine lv_topi (fun x33 ex33 => ?_)
              have r34 : Rg x33 0 90 := rg_mulc ex33 (⟨by decide, by decide⟩ : Rg 10 10 10) r32 (by decide) (by decide) (by decide)
              have s35 : x33.toInt = 10 * m0.toInt := rg_mule ex33 r32 rfl (by decide) (by decide)
              refine lv_aload_n hx hb d_X11_takesNumber_46 rfl (lv_at hl 0 rfl) ?_
              refine r_getr (r := 433) X hw FL_X11_92 (rfl : KD 400 = _) rfl d_X11_takesNumber_47 ?_
              refine lv_aload_n hx hb d_X11_takesNumber_50 rfl (lv_at hl 0 rfl) ?_
              refine r_geti X hw FL_X11_193 (rfl : KD 400 = _) rfl d_X11_takesNumber_51 ?_
              rw [hm10]
              refine r_bald X hw (rfl : KD 433 = _) (Rg.vp (b := 119) r22 (by decide)) rfl d_X11_takesNumber_54 ?_
              rw [hm25]
              refine lv_iadd hx hb d_X11_takesNumber_55 ?_
              refine lv_topi (fun x36 ex36 => ?_)
              have r37 : Rg x36 48 147 := rg_add ex36 r34 r30 (by decide) (by decide)
              have s38 : x36.toInt = x33.toInt + (x24 : Int32).toInt := by rw [ex36]; exact i_add (by obtain ⟨_, _⟩ := r34; obtain ⟨_, _⟩ := r30; omega) (by obtain ⟨_, _⟩ := r34; obtain ⟨_, _⟩ := r30; omega)
              refine lv_bipush (v := 48) hx hb d_X11_takesNumber_56 (by decide) ?_
              refine lv_isub hx hb d_X11_takesNumber_58 ?_
              refine lv_topi (fun x39 ex39 => ?_)
              have r40 : Rg x39 0 99 := rg_sub ex39 r37 (⟨by decide, by decide⟩ : Rg 48 48 48) (by decide) (by decide)
              have s41 : x39.toInt = x36.toInt - (48 : Int32).toInt := by rw [ex39]; exact i_sub (by obtain ⟨_, _⟩ := r37; obtain ⟨_, _⟩ := (⟨by decide, by decide⟩ : Rg 48 48 48); omega) (by obtain ⟨_, _⟩ := r37; obtain ⟨_, _⟩ := (⟨by decide, by decide⟩ : Rg 48 48 48); omega)
              have s41l : (48 : Int32).toInt = 48 := rfl
              refine r_put X hw hS FP_X11_199 (rfl : KD 400 = _) rfl ⟨rfl, rfl⟩ d_X11_takesNumber_59 (fun H locs hw hS => ?_)
              obtain ⟨v42, ev42⟩ : ∃ z, z = up2 v1 400 43 x39 := ⟨_, rfl⟩
              rw [← ev42] at hw
              have hI43 : Inv v42 := by rw [ev42]; exact Inv.putr hI1 rfl (rg_w r40 (by decide) (by decide))
              have hK44 : Kp v v42 := by rw [ev42]; exact Kp.put hK1 _ rfl
              have hF45 : ∀ a b, a ≠ 400 → v42 a b = v a b := by intro a b h; rw [ev42, up2_n _ _ (fun q => h q.1)]; exact hF1 a b h
              have hm46 : v42 400 34 = g0 := by rw [ev42, up2_n _ _ (by omega)]; exact hfx0
              have hm47 : v42 400 42 = x8 := by rw [ev42, up2_n _ _ (by omega)]; exact hm10
              have hm48 : v42 400 33 = x11 := by rw [ev42, up2_n _ _ (by omega)]; exact hm13
              have hm49 : v42 433 x8.toNatClampNeg = x24 := by rw [ev42, up2_n _ _ (by omega)]; exact hm25
              have hm50 : v42 400 43 = x39 := by rw [ev42, up2_s]
              refine lv_aload_n hx hb d_X11_takesNumber_62 rfl (lv_at hl 0 rfl) ?_
              refine lv_dup hx hb d_X11_takesNumber_63 rfl ?_
              refine r_geti X hw FL_X11_193 (rfl : KD 400 = _) rfl d_X11_takesNumber_64 ?_
              rw [hm47]
              refine lv_iconst (v := 1) hx hb d_X11_takesNumber_67 (by decide) ?_
              refine lv_iadd hx hb d_X11_takesNumber_68 ?_
              refine lv_topi (fun x51 ex51 => ?_)
              have r52 : Rg x51 1 120 := rg_add ex51 r22 (⟨by decide, by decide⟩ : Rg 1 1 1) (by decide) (by decide)
              have s53 : x51.toInt = x8.toInt + (1 : Int32).toInt := by rw [ex51]; exact i_add (by obtain ⟨_, _⟩ := r22; obtain ⟨_, _⟩ := (⟨by decide, by decide⟩ : Rg 1 1 1); omega) (by obtain ⟨_, _⟩ := r22; obtain ⟨_, _⟩ := (⟨by decide, by decide⟩ : Rg 1 1 1); omega)
              have s53l : (1 : Int32).toInt = 1 := rfl
              refine r_put X hw hS FP_X11_193 (rfl : KD 400 = _) rfl ⟨rfl, rfl⟩ d_X11_takesNumber_69 (fun H locs hw hS => ?_)
              obtain ⟨v54, ev54⟩ : ∃ z, z = up2 v42 400 42 x51 := ⟨_, rfl⟩
              rw [← ev54] at hw
              have hI55 : Inv v54 := by rw [ev54]; exact Inv.putr hI43 rfl (rg_w r52 (by decide) (by decide))
              have hK56 : Kp v v54 := by rw [ev54]; exact Kp.put hK44 _ rfl
              have hF57 : ∀ a b, a ≠ 400 → v54 a b = v a b := by intro a b h; rw [ev54, up2_n _ _ (fun q => h q.1)]; exact hF45 a b h
              have hm58 : v54 400 34 = g0 := by rw [ev54, up2_n _ _ (by omega)]; exact hm46
              have hm59 : v54 400 33 = x11 := by rw [ev54, up2_n _ _ (by omega)]; exact hm48
              have hm60 : v54 433 x8.toNatClampNeg = x24 := by rw [ev54, up2_n _ _ (by omega)]; exact hm49
              have hm61 : v54 400 43 = x39 := by rw [ev54, up2_n _ _ (by omega)]; exact hm50
              have hm62 : v54 400 42 = x51 := by rw [ev54, up2_s]
              obtain ⟨x63, ex63⟩ : ∃ y : Int32, y = y2 + 1 := ⟨_, rfl⟩
              refine lv_iinc (v := x63) (lv' := [(2, .int x63), (0, .ref (ad 400)), (1, .int most)]) hx hb d_X11_takesNumber_72 hl (k := 2) rfl (by rw [ex63]; rfl) (by decide) rfl (fun ls hl => ?_)
              have r64 : Rg x63 1 2 := rg_add ex63 r7 (⟨by decide, by decide⟩ : Rg 1 1 1) (by decide) (by decide)
              have s65 : x63.toInt = y2.toInt + (1 : Int32).toInt := by rw [ex63]; exact i_add (by obtain ⟨_, _⟩ := r7; obtain ⟨_, _⟩ := (⟨by decide, by decide⟩ : Rg 1 1 1); omega) (by obtain ⟨_, _⟩ := r7; obtain ⟨_, _⟩ := (⟨by decide, by decide⟩ : Rg 1 1 1); omega)
              have s65l : (1 : Int32).toInt = 1 := rfl
              refine lv_goto (tgt := 7) hx hb d_X11_takesNumber_75 (by decide) ?_
              exact ih0 x63 x39 v54 _ _ _ (by have := s35; have := s38; have := s41; have := s53; have := s65; obtain ⟨_, _⟩ := r64; omega) (rg_w r64 (by decide) (by decide)) r40 hI55 hK56 hF57 hm61 hm58 (by obtain ⟨_, _⟩ := r_most; obtain ⟨_, _⟩ := r_g0; obtain ⟨_, _⟩ := r7; obtain ⟨_, _⟩ := r32; obtain ⟨_, _⟩ := r22; obtain ⟨_, _⟩ := r23; obtain ⟨_, _⟩ := r30; obtain ⟨_, _⟩ := r34; obtain ⟨_, _⟩ := r37; obtain ⟨_, _⟩ := r40; obtain ⟨_, _⟩ := r52; obtain ⟨_, _⟩ := r64; have z0 : (0 : Int32).toInt = 0 := rfl; refine ⟨fun _ => ?_, fun _ => ?_⟩ <;> omega) hw hS (lv_sub hl [1, 2, 0] rfl)
          · skip
            refine lv_if_eq (tgt := 78) hx hb d_X11_takesNumber_35 (by decide) (fun c66 => ?_) (fun c66 => ?_)
            · refine lv_iload_n hx hb d_X11_takesNumber_78 rfl (lv_at hl 2 rfl) ?_
              refine lv_if_le (tgt := 86) hx hb d_X11_takesNumber_79 (by decide) (fun c67 => ?_) (fun c67 => ?_)
              · have f68 := i_le c67
                have r69 : Rg y2 0 0 := by obtain ⟨a1, a2⟩ := r7; obtain ⟨b1, b2⟩ := (⟨by decide, by decide⟩ : Rg 0 0 0); have f := i_le c67; exact ⟨by omega, by omega⟩
                refine lv_iconst (v := 0) hx hb d_X11_takesNumber_86 (by decide) ?_
                exact r_zret X hr hlocks hw hS rfl ⟨hI1, hK1, (rg_w (⟨by decide, by decide⟩ : Rg 0 0 0) (by decide) (by decide)), (hfx0.trans hg0.symm), hF1, (by rw [h_m0]; exact r_m0)⟩ d_X11_takesNumber_87
              · have f70 := i_nle c67
                have r71 : Rg y2 1 1 := by obtain ⟨a1, a2⟩ := r7; obtain ⟨b1, b2⟩ := (⟨by decide, by decide⟩ : Rg 0 0 0); have f := i_nle c67; exact ⟨by omega, by omega⟩
                refine lv_iconst (v := 1) hx hb d_X11_takesNumber_82 (by decide) ?_
                refine lv_goto (tgt := 87) hx hb d_X11_takesNumber_83 (by decide) ?_
                exact r_zret X hr hlocks hw hS rfl ⟨hI1, hK1, (rg_w (⟨by decide, by decide⟩ : Rg 1 1 1) (by decide) (by decide)), (hfx0.trans hg0.symm), hF1, (by rw [h_m0]; exact r_m0)⟩ d_X11_takesNumber_87
            · exact absurd c66 (by decide)
  have ih0 := LL 100000
  have hK0 : Kp v v := Kp.rf v
  refine lv_aload_n hx hb d_X11_takesNumber_0 rfl (lv_at hl 0 rfl) ?_
  refine lv_iconst (v := 0) hx hb d_X11_takesNumber_1 (by decide) ?_
  refine r_put X hw hS FP_X11_199 (rfl : KD 400 = _) rfl ⟨rfl, rfl⟩ d_X11_takesNumber_2 (fun H locs hw hS => ?_)
  obtain ⟨v72, ev72⟩ : ∃ z, z = up2 v 400 43 0 := ⟨_, rfl⟩
  rw [← ev72] at hw
  have hI73 : Inv v72 := by rw [ev72]; exact Inv.putr hI rfl (rg_w (⟨by decide, by decide⟩ : Rg 0 0 0) (by decide) (by decide))
  have hK74 : Kp v v72 := by rw [ev72]; exact Kp.put hK0 _ rfl
  have hF75 : ∀ a b, a ≠ 400 → v72 a b = v a b := by intro a b h; rw [ev72, up2_n _ _ (fun q => h q.1)]; exact hF0 a b h
  have hm76 : v72 400 34 = g0 := by rw [ev72, up2_n _ _ (by omega)]; exact hg0
  have hm77 : v72 400 43 = 0 := by rw [ev72, up2_s]
  refine lv_iconst (v := 0) hx hb d_X11_takesNumber_5 (by decide) ?_
  refine lv_istore_n (lv' := [(2, .int 0), (0, .ref (ad 400)), (1, .int most)]) hx hb d_X11_takesNumber_6 rfl hl (by decide) rfl (fun ls hl => ?_)
  exact ih0 0 0 v72 _ _ _ (by obtain ⟨_, _⟩ := (⟨by decide, by decide⟩ : Rg 0 0 0); omega) (rg_w (⟨by decide, by decide⟩ : Rg 0 0 0) (by decide) (by decide)) (rg_w (⟨by decide, by decide⟩ : Rg 0 0 0) (by decide) (by decide)) hI73 hK74 hF75 hm77 hm76 (by obtain ⟨_, _⟩ := r_most; obtain ⟨_, _⟩ := r_g0; have z0 : (0 : Int32).toInt = 0 := rfl; refine ⟨fun _ => ?_, fun _ => ?_⟩ <;> omega) hw hS (lv_sub hl [1, 2, 0] rfl)
set_option maxHeartbeats 4000000 in
set_option maxRecDepth 100000 in
theorem ct_X11_takesNumber_3 (l : Launch) (D : va_G) (dA : Nat → ClassId) (ad : Nat → Nat) (v : tV) (hI : Inv v) (most : Int32) (r_most : Rg most 3 3) : Met l m_X11_takesNumber [.code m_X11_takesNumber c_X11_takesNumber 3 (some .boolean)] ({ frames := 2, cells := 0, slots := 0, locals := 60 } : Room) (tP D dA ad v [.ref (ad 400), .int most]) (tQi D dA ad (fun r v' => Inv v' ∧ Kp v v' ∧ Rg r 0 1 ∧ v' 400 34 = v 400 34 ∧ (∀ a b, a ≠ 400 → v' a b = v a b) ∧ Rg (v' 400 43) 0 999)) 0 0 (tA ad) := by
  refine tMet (by decide) (Nat.le_of_ble_eq_true rfl) ?_
  intro p e s m below meth c ls X hr hlocks hw hl
  have X : CX p s m ([.ref (ad 400), .int most] : List Value).toArray c c_X11_takesNumber N_X11 3 D dA := X
  have hx := X.1
  have hb := X.2.1
  have hS : va_S (tA ad) s.heap s.heap [] := va_S.rf
  have hl : lv_has ls 3 [(0, .ref (ad 400)), (1, .int most)] := hl
  obtain ⟨g0, hg0⟩ : ∃ g, v 400 34 = g := ⟨_, rfl⟩
  have r_g0 : Rg g0 0 8 := by rw [← hg0]; exact hI 400 34 _ _ rfl
  have hF0 : ∀ a b, a ≠ 400 → v a b = v a b := fun _ _ _ => rfl
  have LL : ∀ n : Nat, (∀ (y2 : Int32) (m0 : Int32) (v1 : tV) (H : Heap) (locs : List Loc) (ls : Array Slot), (3 - y2.toInt).toNat < n → Rg y2 0 3 → Rg m0 0 999 → Inv v1 → Kp v v1 → (∀ a b, a ≠ 400 → v1 a b = v a b) → v1 400 43 = m0 → v1 400 34 = g0 → (y2.toInt = 0 → m0.toInt = 0) ∧ (y2.toInt = 1 → m0.toInt ≤ 9) ∧ (y2.toInt = 2 → m0.toInt ≤ 99) → tI D dA ad v1 H → va_S (tA ad) s.heap H locs → lv_has ls 3 [(0, .ref (ad 400)), (1, .int most), (2, .int y2)] → W p l e ({ frames := 2, cells := 0, slots := 0, locals := 60 } : Room) s m ([.ref (ad 400), .int most] : List Value).toArray below meth c H locs 0 0 (MQ below (tQi D dA ad (fun r v' => Inv v' ∧ Kp v v' ∧ Rg r 0 1 ∧ v' 400 34 = v 400 34 ∧ (∀ a b, a ≠ 400 → v' a b = v a b) ∧ Rg (v' 400 43) 0 999)) ([.ref (ad 400), .int most] : List Value).toArray s 0 0 (tA ad)) (F0 m 7 ls [])) := by
    intro n
    induction n with
    | zero => intros; omega
    | succ n ih =>
      have ih0 := ih
      intro y2 m0 v1 H locs ls hmu r_y2 r_m0 hI1 hK1 hF1 h_m0 hfx0 hex hw hS hl
      refine lv_iload_n hx hb d_X11_takesNumber_7 rfl (lv_at hl 2 rfl) ?_
      refine lv_iload_n hx hb d_X11_takesNumber_8 rfl (lv_at hl 1 rfl) ?_
      refine lv_icmp_ge (tgt := 78) hx hb d_X11_takesNumber_9 (by decide) (fun c1 => ?_) (fun c1 => ?_)
      · have f2 := i_le c1
        have r3 : Rg y2 3 3 := by obtain ⟨a1, a2⟩ := r_y2; obtain ⟨b1, b2⟩ := r_most; have f := i_le c1; exact ⟨by omega, by omega⟩
        refine lv_iload_n hx hb d_X11_takesNumber_78 rfl (lv_at hl 2 rfl) ?_
        refine lv_if_le (tgt := 86) hx hb d_X11_takesNumber_79 (by decide) (fun c4 => ?_) (fun c4 => ?_)
        · exfalso
          obtain ⟨a1, a2⟩ := r3; obtain ⟨b1, b2⟩ := (⟨by decide, by decide⟩ : Rg 0 0 0); have f := i_le c4; omega
        · have f5 := i_nle c4
          refine lv_iconst (v := 1) hx hb d_X11_takesNumber_82 (by decide) ?_
          refine lv_goto (tgt := 87) hx hb d_X11_takesNumber_83 (by decide) ?_
          exact r_zret X hr hlocks hw hS rfl ⟨hI1, hK1, (rg_w (⟨by decide, by decide⟩ : Rg 1 1 1) (by decide) (by decide)), (hfx0.trans hg0.symm), hF1, (by rw [h_m0]; exact r_m0)⟩ d_X11_takesNumber_87
      · have f6 := i_nle c1
        have r7 : Rg y2 0 2 := by obtain ⟨a1, a2⟩ := r_y2; obtain ⟨b1, b2⟩ := r_most; have f := i_nle c1; exact ⟨by omega, by omega⟩
        refine lv_aload_n hx hb d_X11_takesNumber_12 rfl (lv_at hl 0 rfl) ?_
        refine r_geti X hw FL_X11_193 (rfl : KD 400 = _) rfl d_X11_takesNumber_13 ?_
        refine lv_topi (fun x8 ex8 => ?_)
        have r9 : Rg x8 0 120 := by rw [ex8]; exact hI1 _ _ _ _ rfl
        have hm10 : v1 400 42 = x8 := ex8.symm
        refine lv_aload_n hx hb d_X11_takesNumber_16 rfl (lv_at hl 0 rfl) ?_
        refine r_geti X hw FL_X11_190 (rfl : KD 400 = _) rfl d_X11_takesNumber_17 ?_
        refine lv_topi (fun x11 ex11 => ?_)
        have r12 : Rg x11 0 120 := by rw [ex11]; exact hI1 _ _ _ _ rfl
        have hm13 : v1 400 33 = x11 := ex11.symm
        refine lv_icmp_ge (tgt := 78) hx hb d_X11_takesNumber_20 (by decide) (fun c14 => ?_) (fun c14 => ?_)
        · have f15 := i_le c14
          refine lv_iload_n hx hb d_X11_takesNumber_78 rfl (lv_at hl 2 rfl) ?_
          refine lv_if_le (tgt := 86) hx hb d_X11_takesNumber_79 (by decide) (fun c16 => ?_) (fun c16 => ?_)
          · have f17 := i_le c16
            have r18 : Rg y2 0 0 := by obtain ⟨a1, a2⟩ := r7; obtain ⟨b1, b2⟩ := (⟨by decide, by decide⟩ : Rg 0 0 0); have f := i_le c16; exact ⟨by omega, by omega⟩
            refine lv_iconst (v := 0) hx hb d_X11_takesNumber_86 (by decide) ?_
            exact r_zret X hr hlocks hw hS rfl ⟨hI1, hK1, (rg_w (⟨by decide, by decide⟩ : Rg 0 0 0) (by decide) (by decide)), (hfx0.trans hg0.symm), hF1, (by rw [h_m0]; exact r_m0)⟩ d_X11_takesNumber_87
          · have f19 := i_nle c16
            have r20 : Rg y2 1 2 := by obtain ⟨a1, a2⟩ := r7; obtain ⟨b1, b2⟩ := (⟨by decide, by decide⟩ : Rg 0 0 0); have f := i_nle c16; exact ⟨by omega, by omega⟩
            refine lv_iconst (v := 1) hx hb d_X11_takesNumber_82 (by decide) ?_
            refine lv_goto (tgt := 87) hx hb d_X11_takesNumber_83 (by decide) ?_
            exact r_zret X hr hlocks hw hS rfl ⟨hI1, hK1, (rg_w (⟨by decide, by decide⟩ : Rg 1 1 1) (by decide) (by decide)), (hfx0.trans hg0.symm), hF1, (by rw [h_m0]; exact r_m0)⟩ d_X11_takesNumber_87
        · have f21 := i_nle c14
          have r22 : Rg x8 0 119 := by obtain ⟨a1, a2⟩ := r9; obtain ⟨b1, b2⟩ := r12; have f := i_nle c14; exact ⟨by omega, by omega⟩
          have r23 : Rg x11 1 120 := by obtain ⟨a1, a2⟩ := r9; obtain ⟨b1, b2⟩ := r12; have f := i_nle c14; exact ⟨by omega, by omega⟩
          refine lv_aload_n hx hb d_X11_takesNumber_23 rfl (lv_at hl 0 rfl) ?_
          refine r_getr (r := 433) X hw FL_X11_92 (rfl : KD 400 = _) rfl d_X11_takesNumber_24 ?_
          refine lv_aload_n hx hb d_X11_takesNumber_27 rfl (lv_at hl 0 rfl) ?_
          refine r_geti X hw FL_X11_193 (rfl : KD 400 = _) rfl d_X11_takesNumber_28 ?_
          rw [hm10]
          refine r_bald X hw (rfl : KD 433 = _) (Rg.vp (b := 119) r22 (by decide)) rfl d_X11_takesNumber_31 ?_
          refine lv_topi (fun x24 ex24 => ?_)
          have hm25 : v1 433 x8.toNatClampNeg = x24 := ex24.symm
          refine r_ci (r_runS (n := 1) (As := [.int x24]) (rest := []) X hw (ct_X11_isDigit l D dA ad v1 hI1 x24) gc_X11_202 (by decide +kernel) ⟨rfl, rfl, Nat.le_of_ble_eq_true rfl, Nat.le_of_ble_eq_true rfl⟩ rfl hl.1 rfl (Nat.le_of_ble_eq_true rfl) ⟨Nat.zero_le _, Nat.zero_le _⟩ d_X11_takesNumber_32) hS (fun x27 v28 H locs hp26 hw hS => ?_)
          obtain ⟨ev28, hp26⟩ := hp26
          rw [ev28] at hw
          rcases hp26 with ⟨rfl, w29a, w29b⟩ | ⟨rfl, w29n⟩
          · skip
            have r30 : Rg x24 48 57 := by obtain ⟨_, _⟩ := (rg_any x24); exact ⟨by omega, by omega⟩
            refine lv_if_eq (tgt := 78) hx hb d_X11_takesNumber_35 (by decide) (fun c31 => ?_) (fun c31 => ?_)
            · exact absurd c31 (by decide)
            · have r32 : Rg m0 0 99 := by obtain ⟨_, _⟩ := r_m0; obtain ⟨_, _⟩ := r7; exact ⟨by omega, by omega⟩
              refine lv_aload_n hx hb d_X11_takesNumber_38 rfl (lv_at hl 0 rfl) ?_
              refine lv_bipush (v := 10) hx hb d_X11_takesNumber_39 (by decide) ?_
              refine lv_aload_n hx hb d_X11_takesNumber_41 rfl (lv_at hl 0 rfl) ?_
              refine r_geti X hw FL_X11_199 (rfl : KD 400 = _) rfl d_X11_takesNumber_42 ?_
              rw [h_m0]
              refine lv_imul hx hb d_X11_takesNumber_45 ?_
              refine lv_topi (fun x33 ex33 => ?_)
              have r34 : Rg x33 0 990 := rg_mulc ex33 (⟨by decide, by decide⟩ : Rg 10 10 10) r32 (by decide) (by decide) (by decide)
              have s35 : x33.toInt = 10 * m0.toInt := rg_mule ex33 r32 rfl (by decide) (by decide)
              refine lv_aload_n hx hb d_X11_takesNumber_46 rfl (lv_at hl 0 rfl) ?_
              refine r_getr (r := 433) X hw FL_X11_92 (rfl : KD 400 = _) rfl d_X11_takesNumber_47 ?_
              refine lv_aload_n hx hb d_X11_takesNumber_50 rfl (lv_at hl 0 rfl) ?_
              refine r_geti X hw FL_X11_193 (rfl : KD 400 = _) rfl d_X11_takesNumber_51 ?_
              rw [hm10]
              refine r_bald X hw (rfl : KD 433 = _) (Rg.vp (b := 119) r22 (by decide)) rfl d_X11_takesNumber_54 ?_
              rw [hm25]
              refine lv_iadd hx hb d_X11_takesNumber_55 ?_
              refine lv_topi (fun x36 ex36 => ?_)
              have r37 : Rg x36 48 1047 := rg_add ex36 r34 r30 (by decide) (by decide)
              have s38 : x36.toInt = x33.toInt + (x24 : Int32).toInt := by rw [ex36]; exact i_add (by obtain ⟨_, _⟩ := r34; obtain ⟨_, _⟩ := r30; omega) (by obtain ⟨_, _⟩ := r34; obtain ⟨_, _⟩ := r30; omega)
              refine lv_bipush (v := 48) hx hb d_X11_takesNumber_56 (by decide) ?_
              refine lv_isub hx hb d_X11_takesNumber_58 ?_
              refine lv_topi (fun x39 ex39 => ?_)
              have r40 : Rg x39 0 999 := rg_sub ex39 r37 (⟨by decide, by decide⟩ : Rg 48 48 48) (by decide) (by decide)
              have s41 : x39.toInt = x36.toInt - (48 : Int32).toInt := by rw [ex39]; exact i_sub (by obtain ⟨_, _⟩ := r37; obtain ⟨_, _⟩ := (⟨by decide, by decide⟩ : Rg 48 48 48); omega) (by obtain ⟨_, _⟩ := r37; obtain ⟨_, _⟩ := (⟨by decide, by decide⟩ : Rg 48 48 48); omega)
              have s41l : (48 : Int32).toInt = 48 := rfl
              refine r_put X hw hS FP_X11_199 (rfl : KD 400 = _) rfl ⟨rfl, rfl⟩ d_X11_takesNumber_59 (fun H locs hw hS => ?_)
              obtain ⟨v42, ev42⟩ : ∃ z, z = up2 v1 400 43 x39 := ⟨_, rfl⟩
              rw [← ev42] at hw
              have hI43 : Inv v42 := by rw [ev42]; exact Inv.putr hI1 rfl r40
              have hK44 : Kp v v42 := by rw [ev42]; exact Kp.put hK1 _ rfl
              have hF45 : ∀ a b, a ≠ 400 → v42 a b = v a b := by intro a b h; rw [ev42, up2_n _ _ (fun q => h q.1)]; exact hF1 a b h
              have hm46 : v42 400 34 = g0 := by rw [ev42, up2_n _ _ (by omega)]; exact hfx0
              have hm47 : v42 400 42 = x8 := by rw [ev42, up2_n _ _ (by omega)]; exact hm10
              have hm48 : v42 400 33 = x11 := by rw [ev42, up2_n _ _ (by omega)]; exact hm13
              have hm49 : v42 433 x8.toNatClampNeg = x24 := by rw [ev42, up2_n _ _ (by omega)]; exact hm25
              have hm50 : v42 400 43 = x39 := by rw [ev42, up2_s]
              refine lv_aload_n hx hb d_X11_takesNumber_62 rfl (lv_at hl 0 rfl) ?_
              refine lv_dup hx hb d_X11_takesNumber_63 rfl ?_
              refine r_geti X hw FL_X11_193 (rfl : KD 400 = _) rfl d_X11_takesNumber_64 ?_
              rw [hm47]
              refine lv_iconst (v := 1) hx hb d_X11_takesNumber_67 (by decide) ?_
              refine lv_iadd hx hb d_X11_takesNumber_68 ?_
              refine lv_topi (fun x51 ex51 => ?_)
              have r52 : Rg x51 1 120 := rg_add ex51 r22 (⟨by decide, by decide⟩ : Rg 1 1 1) (by decide) (by decide)
              have s53 : x51.toInt = x8.toInt + (1 : Int32).toInt := by rw [ex51]; exact i_add (by obtain ⟨_, _⟩ := r22; obtain ⟨_, _⟩ := (⟨by decide, by decide⟩ : Rg 1 1 1); omega) (by obtain ⟨_, _⟩ := r22; obtain ⟨_, _⟩ := (⟨by decide, by decide⟩ : Rg 1 1 1); omega)
              have s53l : (1 : Int32).toInt = 1 := rfl
              refine r_put X hw hS FP_X11_193 (rfl : KD 400 = _) rfl ⟨rfl, rfl⟩ d_X11_takesNumber_69 (fun H locs hw hS => ?_)
              obtain ⟨v54, ev54⟩ : ∃ z, z = up2 v42 400 42 x51 := ⟨_, rfl⟩
              rw [← ev54] at hw
              have hI55 : Inv v54 := by rw [ev54]; exact Inv.putr hI43 rfl (rg_w r52 (by decide) (by decide))
              have hK56 : Kp v v54 := by rw [ev54]; exact Kp.put hK44 _ rfl
              have hF57 : ∀ a b, a ≠ 400 → v54 a b = v a b := by intro a b h; rw [ev54, up2_n _ _ (fun q => h q.1)]; exact hF45 a b h
              have hm58 : v54 400 34 = g0 := by rw [ev54, up2_n _ _ (by omega)]; exact hm46
              have hm59 : v54 400 33 = x11 := by rw [ev54, up2_n _ _ (by omega)]; exact hm48
              have hm60 : v54 433 x8.toNatClampNeg = x24 := by rw [ev54, up2_n _ _ (by omega)]; exact hm49
              have hm61 : v54 400 43 = x39 := by rw [ev54, up2_n _ _ (by omega)]; exact hm50
              have hm62 : v54 400 42 = x51 := by rw [ev54, up2_s]
              obtain ⟨x63, ex63⟩ : ∃ y : Int32, y = y2 + 1 := ⟨_, rfl⟩
              refine lv_iinc (v := x63) (lv' := [(2, .int x63), (0, .ref (ad 400)), (1, .int most)]) hx hb d_X11_takesNumber_72 hl (k := 2) rfl (by rw [ex63]; rfl) (by decide) rfl (fun ls hl => ?_)
              have r64 : Rg x63 1 3 := rg_add ex63 r7 (⟨by decide, by decide⟩ : Rg 1 1 1) (by decide) (by decide)
              have s65 : x63.toInt = y2.toInt + (1 : Int32).toInt := by rw [ex63]; exact i_add (by obtain ⟨_, _⟩ := r7; obtain ⟨_, _⟩ := (⟨by decide, by decide⟩ : Rg 1 1 1); omega) (by obtain ⟨_, _⟩ := r7; obtain ⟨_, _⟩ := (⟨by decide, by decide⟩ : Rg 1 1 1); omega)
              have s65l : (1 : Int32).toInt = 1 := rfl
              refine lv_goto (tgt := 7) hx hb d_X11_takesNumber_75 (by decide) ?_
              exact ih0 x63 x39 v54 _ _ _ (by have := s35; have := s38; have := s41; have := s53; have := s65; obtain ⟨_, _⟩ := r64; omega) (rg_w r64 (by decide) (by decide)) r40 hI55 hK56 hF57 hm61 hm58 (by obtain ⟨_, _⟩ := r_most; obtain ⟨_, _⟩ := r_g0; obtain ⟨_, _⟩ := r7; obtain ⟨_, _⟩ := r32; obtain ⟨_, _⟩ := r22; obtain ⟨_, _⟩ := r23; obtain ⟨_, _⟩ := r30; obtain ⟨_, _⟩ := r34; obtain ⟨_, _⟩ := r37; obtain ⟨_, _⟩ := r40; obtain ⟨_, _⟩ := r52; obtain ⟨_, _⟩ := r64; have z0 : (0 : Int32).toInt = 0 := rfl; refine ⟨fun _ => ?_, fun _ => ?_, fun _ => ?_⟩ <;> omega) hw hS (lv_sub hl [1, 2, 0] rfl)
          · skip
            refine lv_if_eq (tgt := 78) hx hb d_X11_takesNumber_35 (by decide) (fun c66 => ?_) (fun c66 => ?_)
            · refine lv_iload_n hx hb d_X11_takesNumber_78 rfl (lv_at hl 2 rfl) ?_
              refine lv_if_le (tgt := 86) hx hb d_X11_takesNumber_79 (by decide) (fun c67 => ?_) (fun c67 => ?_)
              · have f68 := i_le c67
                have r69 : Rg y2 0 0 := by obtain ⟨a1, a2⟩ := r7; obtain ⟨b1, b2⟩ := (⟨by decide, by decide⟩ : Rg 0 0 0); have f := i_le c67; exact ⟨by omega, by omega⟩
                refine lv_iconst (v := 0) hx hb d_X11_takesNumber_86 (by decide) ?_
                exact r_zret X hr hlocks hw hS rfl ⟨hI1, hK1, (rg_w (⟨by decide, by decide⟩ : Rg 0 0 0) (by decide) (by decide)), (hfx0.trans hg0.symm), hF1, (by rw [h_m0]; exact r_m0)⟩ d_X11_takesNumber_87
              · have f70 := i_nle c67
                have r71 : Rg y2 1 2 := by obtain ⟨a1, a2⟩ := r7; obtain ⟨b1, b2⟩ := (⟨by decide, by decide⟩ : Rg 0 0 0); have f := i_nle c67; exact ⟨by omega, by omega⟩
                refine lv_iconst (v := 1) hx hb d_X11_takesNumber_82 (by decide) ?_
                refine lv_goto (tgt := 87) hx hb d_X11_takesNumber_83 (by decide) ?_
                exact r_zret X hr hlocks hw hS rfl ⟨hI1, hK1, (rg_w (⟨by decide, by decide⟩ : Rg 1 1 1) (by decide) (by decide)), (hfx0.trans hg0.symm), hF1, (by rw [h_m0]; exact r_m0)⟩ d_X11_takesNumber_87
            · exact absurd c66 (by decide)
  have ih0 := LL 100000
  have hK0 : Kp v v := Kp.rf v
  refine lv_aload_n hx hb d_X11_takesNumber_0 rfl (lv_at hl 0 rfl) ?_
  refine lv_iconst (v := 0) hx hb d_X11_takesNumber_1 (by decide) ?_
  refine r_put X hw hS FP_X11_199 (rfl : KD 400 = _) rfl ⟨rfl, rfl⟩ d_X11_takesNumber_2 (fun H locs hw hS => ?_)
  obtain ⟨v72, ev72⟩ : ∃ z, z = up2 v 400 43 0 := ⟨_, rfl⟩
  rw [← ev72] at hw
  have hI73 : Inv v72 := by rw [ev72]; exact Inv.putr hI rfl (rg_w (⟨by decide, by decide⟩ : Rg 0 0 0) (by decide) (by decide))
  have hK74 : Kp v v72 := by rw [ev72]; exact Kp.put hK0 _ rfl
  have hF75 : ∀ a b, a ≠ 400 → v72 a b = v a b := by intro a b h; rw [ev72, up2_n _ _ (fun q => h q.1)]; exact hF0 a b h
  have hm76 : v72 400 34 = g0 := by rw [ev72, up2_n _ _ (by omega)]; exact hg0
  have hm77 : v72 400 43 = 0 := by rw [ev72, up2_s]
  refine lv_iconst (v := 0) hx hb d_X11_takesNumber_5 (by decide) ?_
  refine lv_istore_n (lv' := [(2, .int 0), (0, .ref (ad 400)), (1, .int most)]) hx hb d_X11_takesNumber_6 rfl hl (by decide) rfl (fun ls hl => ?_)
  exact ih0 0 0 v72 _ _ _ (by obtain ⟨_, _⟩ := (⟨by decide, by decide⟩ : Rg 0 0 0); omega) (rg_w (⟨by decide, by decide⟩ : Rg 0 0 0) (by decide) (by decide)) (rg_w (⟨by decide, by decide⟩ : Rg 0 0 0) (by decide) (by decide)) hI73 hK74 hF75 hm77 hm76 (by obtain ⟨_, _⟩ := r_most; obtain ⟨_, _⟩ := r_g0; have z0 : (0 : Int32).toInt = 0 := rfl; refine ⟨fun _ => ?_, fun _ => ?_, fun _ => ?_⟩ <;> omega) hw hS (lv_sub hl [1, 2, 0] rfl)
theorem d_X11_takesKey_0 : decode c_X11_takesKey 0 = .ok (.aload_n 0, 1) := by decide +kernel
theorem d_X11_takesKey_1 : decode c_X11_takesKey 1 = .ok (.bipush 101, 2) := by decide +kernel
theorem d_X11_takesKey_3 : decode c_X11_takesKey 3 = .ok (.invokevirtual 205, 3) := by decide +kernel
theorem d_X11_takesKey_6 : decode c_X11_takesKey 6 = .ok (.ifCond .eq 52, 3) := by decide +kernel
theorem d_X11_takesKey_9 : decode c_X11_takesKey 9 = .ok (.aload_n 0, 1) := by decide +kernel
theorem d_X11_takesKey_10 : decode c_X11_takesKey 10 = .ok (.getfield 99, 3) := by decide +kernel
theorem d_X11_takesKey_13 : decode c_X11_takesKey 13 = .ok (.iload_n 1, 1) := by decide +kernel
theorem d_X11_takesKey_14 : decode c_X11_takesKey 14 = .ok (.iconst 0, 1) := by decide +kernel
theorem d_X11_takesKey_15 : decode c_X11_takesKey 15 = .ok (.iastore, 1) := by decide +kernel
theorem d_X11_takesKey_16 : decode c_X11_takesKey 16 = .ok (.aload_n 0, 1) := by decide +kernel
theorem d_X11_takesKey_17 : decode c_X11_takesKey 17 = .ok (.bipush 110, 2) := by decide +kernel
theorem d_X11_takesKey_19 : decode c_X11_takesKey 19 = .ok (.invokevirtual 205, 3) := by decide +kernel
theorem d_X11_takesKey_22 : decode c_X11_takesKey 22 = .ok (.ifCond .eq 34, 3) := by decide +kernel
theorem d_X11_takesKey_25 : decode c_X11_takesKey 25 = .ok (.aload_n 0, 1) := by decide +kernel
theorem d_X11_takesKey_26 : decode c_X11_takesKey 26 = .ok (.bipush 116, 2) := by decide +kernel
theorem d_X11_takesKey_28 : decode c_X11_takesKey 28 = .ok (.invokevirtual 205, 3) := by decide +kernel
theorem d_X11_takesKey_31 : decode c_X11_takesKey 31 = .ok (.ifCond .eq 25, 3) := by decide +kernel
theorem d_X11_takesKey_34 : decode c_X11_takesKey 34 = .ok (.aload_n 0, 1) := by decide +kernel
theorem d_X11_takesKey_35 : decode c_X11_takesKey 35 = .ok (.bipush 114, 2) := by decide +kernel
theorem d_X11_takesKey_37 : decode c_X11_takesKey 37 = .ok (.invokevirtual 205, 3) := by decide +kernel
theorem d_X11_takesKey_40 : decode c_X11_takesKey 40 = .ok (.ifCond .eq 16, 3) := by decide +kernel
theorem d_X11_takesKey_43 : decode c_X11_takesKey 43 = .ok (.aload_n 0, 1) := by decide +kernel
theorem d_X11_takesKey_44 : decode c_X11_takesKey 44 = .ok (.bipush 121, 2) := by decide +kernel
theorem d_X11_takesKey_46 : decode c_X11_takesKey 46 = .ok (.invokevirtual 205, 3) := by decide +kernel
theorem d_X11_takesKey_49 : decode c_X11_takesKey 49 = .ok (.ifCond .eq 7, 3) := by decide +kernel
theorem d_X11_takesKey_52 : decode c_X11_takesKey 52 = .ok (.iconst 1, 1) := by decide +kernel
theorem d_X11_takesKey_53 : decode c_X11_takesKey 53 = .ok (.goto 4, 3) := by decide +kernel
theorem d_X11_takesKey_56 : decode c_X11_takesKey 56 = .ok (.iconst 0, 1) := by decide +kernel
theorem d_X11_takesKey_57 : decode c_X11_takesKey 57 = .ok (.ireturn, 1) := by decide +kernel
theorem d_X11_takesKey_58 : decode c_X11_takesKey 58 = .ok (.aload_n 0, 1) := by decide +kernel
theorem d_X11_takesKey_59 : decode c_X11_takesKey 59 = .ok (.bipush 97, 2) := by decide +kernel
theorem d_X11_takesKey_61 : decode c_X11_takesKey 61 = .ok (.invokevirtual 205, 3) := by decide +kernel
theorem d_X11_takesKey_64 : decode c_X11_takesKey 64 = .ok (.ifCond .eq 34, 3) := by decide +kernel
theorem d_X11_takesKey_67 : decode c_X11_takesKey 67 = .ok (.aload_n 0, 1) := by decide +kernel
theorem d_X11_takesKey_68 : decode c_X11_takesKey 68 = .ok (.getfield 99, 3) := by decide +kernel
theorem d_X11_takesKey_71 : decode c_X11_takesKey 71 = .ok (.iload_n 1, 1) := by decide +kernel
theorem d_X11_takesKey_72 : decode c_X11_takesKey 72 = .ok (.iconst 1, 1) := by decide +kernel
theorem d_X11_takesKey_73 : decode c_X11_takesKey 73 = .ok (.iastore, 1) := by decide +kernel
theorem d_X11_takesKey_74 : decode c_X11_takesKey 74 = .ok (.aload_n 0, 1) := by decide +kernel
theorem d_X11_takesKey_75 : decode c_X11_takesKey 75 = .ok (.bipush 115, 2) := by decide +kernel
theorem d_X11_takesKey_77 : decode c_X11_takesKey 77 = .ok (.invokevirtual 205, 3) := by decide +kernel
theorem d_X11_takesKey_80 : decode c_X11_takesKey 80 = .ok (.ifCond .eq 16, 3) := by decide +kernel
theorem d_X11_takesKey_83 : decode c_X11_takesKey 83 = .ok (.aload_n 0, 1) := by decide +kernel
theorem d_X11_takesKey_84 : decode c_X11_takesKey 84 = .ok (.bipush 107, 2) := by decide +kernel
theorem d_X11_takesKey_86 : decode c_X11_takesKey 86 = .ok (.invokevirtual 205, 3) := by decide +kernel
theorem d_X11_takesKey_89 : decode c_X11_takesKey 89 = .ok (.ifCond .eq 7, 3) := by decide +kernel
theorem d_X11_takesKey_92 : decode c_X11_takesKey 92 = .ok (.iconst 1, 1) := by decide +kernel
theorem d_X11_takesKey_93 : decode c_X11_takesKey 93 = .ok (.goto 4, 3) := by decide +kernel
theorem d_X11_takesKey_96 : decode c_X11_takesKey 96 = .ok (.iconst 0, 1) := by decide +kernel
theorem d_X11_takesKey_97 : decode c_X11_takesKey 97 = .ok (.ireturn, 1) := by decide +kernel
theorem d_X11_takesKey_98 : decode c_X11_takesKey 98 = .ok (.aload_n 0, 1) := by decide +kernel
theorem d_X11_takesKey_99 : decode c_X11_takesKey 99 = .ok (.bipush 108, 2) := by decide +kernel
theorem d_X11_takesKey_101 : decode c_X11_takesKey 101 = .ok (.invokevirtual 205, 3) := by decide +kernel
theorem d_X11_takesKey_104 : decode c_X11_takesKey 104 = .ok (.ifCond .eq 12, 3) := by decide +kernel
theorem d_X11_takesKey_107 : decode c_X11_takesKey 107 = .ok (.aload_n 0, 1) := by decide +kernel
theorem d_X11_takesKey_108 : decode c_X11_takesKey 108 = .ok (.bipush 111, 2) := by decide +kernel
theorem d_X11_takesKey_110 : decode c_X11_takesKey 110 = .ok (.invokevirtual 205, 3) := by decide +kernel
theorem d_X11_takesKey_113 : decode c_X11_takesKey 113 = .ok (.ifCond .ne 5, 3) := by decide +kernel
theorem d_X11_takesKey_116 : decode c_X11_takesKey 116 = .ok (.iconst 0, 1) := by decide +kernel
theorem d_X11_takesKey_117 : decode c_X11_takesKey 117 = .ok (.ireturn, 1) := by decide +kernel
theorem d_X11_takesKey_118 : decode c_X11_takesKey 118 = .ok (.aload_n 0, 1) := by decide +kernel
theorem d_X11_takesKey_119 : decode c_X11_takesKey 119 = .ok (.bipush 116, 2) := by decide +kernel
theorem d_X11_takesKey_121 : decode c_X11_takesKey 121 = .ok (.invokevirtual 205, 3) := by decide +kernel
theorem d_X11_takesKey_124 : decode c_X11_takesKey 124 = .ok (.ifCond .eq 12, 3) := by decide +kernel
theorem d_X11_takesKey_127 : decode c_X11_takesKey 127 = .ok (.aload_n 0, 1) := by decide +kernel
theorem d_X11_takesKey_128 : decode c_X11_takesKey 128 = .ok (.getfield 99, 3) := by decide +kernel
theorem d_X11_takesKey_131 : decode c_X11_takesKey 131 = .ok (.iload_n 1, 1) := by decide +kernel
theorem d_X11_takesKey_132 : decode c_X11_takesKey 132 = .ok (.iconst 3, 1) := by decide +kernel
theorem d_X11_takesKey_133 : decode c_X11_takesKey 133 = .ok (.iastore, 1) := by decide +kernel
theorem d_X11_takesKey_134 : decode c_X11_takesKey 134 = .ok (.iconst 1, 1) := by decide +kernel
theorem d_X11_takesKey_135 : decode c_X11_takesKey 135 = .ok (.ireturn, 1) := by decide +kernel
theorem d_X11_takesKey_136 : decode c_X11_takesKey 136 = .ok (.aload_n 0, 1) := by decide +kernel
theorem d_X11_takesKey_137 : decode c_X11_takesKey 137 = .ok (.getfield 99, 3) := by decide +kernel
theorem d_X11_takesKey_140 : decode c_X11_takesKey 140 = .ok (.iload_n 1, 1) := by decide +kernel
theorem d_X11_takesKey_141 : decode c_X11_takesKey 141 = .ok (.iconst 2, 1) := by decide +kernel
theorem d_X11_takesKey_142 : decode c_X11_takesKey 142 = .ok (.iastore, 1) := by decide +kernel
theorem d_X11_takesKey_143 : decode c_X11_takesKey 143 = .ok (.aload_n 0, 1) := by decide +kernel
theorem d_X11_takesKey_144 : decode c_X11_takesKey 144 = .ok (.bipush 97, 2) := by decide +kernel
theorem d_X11_takesKey_146 : decode c_X11_takesKey 146 = .ok (.invokevirtual 205, 3) := by decide +kernel
theorem d_X11_takesKey_149 : decode c_X11_takesKey 149 = .ok (.ifCond .eq 16, 3) := by decide +kernel
theorem d_X11_takesKey_152 : decode c_X11_takesKey 152 = .ok (.aload_n 0, 1) := by decide +kernel
theorem d_X11_takesKey_153 : decode c_X11_takesKey 153 = .ok (.bipush 100, 2) := by decide +kernel
theorem d_X11_takesKey_155 : decode c_X11_takesKey 155 = .ok (.invokevirtual 205, 3) := by decide +kernel
theorem d_X11_takesKey_158 : decode c_X11_takesKey 158 = .ok (.ifCond .eq 7, 3) := by decide +kernel
theorem d_X11_takesKey_161 : decode c_X11_takesKey 161 = .ok (.iconst 1, 1) := by decide +kernel
theorem d_X11_takesKey_162 : decode c_X11_takesKey 162 = .ok (.goto 4, 3) := by decide +kernel
theorem d_X11_takesKey_165 : decode c_X11_takesKey 165 = .ok (.iconst 0, 1) := by decide +kernel
theorem d_X11_takesKey_166 : decode c_X11_takesKey 166 = .ok (.ireturn, 1) := by decide +kernel
set_option maxHeartbeats 4000000 in
set_option maxRecDepth 100000 in
theorem ct_X11_takesKey_400 (l : Launch) (D : va_G) (dA : Nat → ClassId) (ad : Nat → Nat) (v : tV) (hI : Inv v) (od : Int32) (r_od : Rg od 0 7) : Met l m_X11_takesKey [.code m_X11_takesKey c_X11_takesKey 2 (some .boolean)] ({ frames := 3, cells := 0, slots := 0, locals := 82 } : Room) (tP D dA ad v [.ref (ad 400), .int od]) (tQi D dA ad (fun r v' => Inv v' ∧ Kp v v' ∧ Rg r 0 1 ∧ v' 400 34 = v 400 34)) 0 0 (tA ad) := by
  refine tMet (by decide) (Nat.le_of_ble_eq_true rfl) ?_
  intro p e s m below meth c ls X hr hlocks hw hl
  have X : CX p s m ([.ref (ad 400), .int od] : List Value).toArray c c_X11_takesKey N_X11 2 D dA := X
  have hx := X.1
  have hb := X.2.1
  have hS : va_S (tA ad) s.heap s.heap [] := va_S.rf
  have hl : lv_has ls 2 [(0, .ref (ad 400)), (1, .int od)] := hl
  obtain ⟨g0, hg0⟩ : ∃ g, v 400 34 = g := ⟨_, rfl⟩
  have r_g0 : Rg g0 0 8 := by rw [← hg0]; exact hI 400 34 _ _ rfl
  have hK0 : Kp v v := Kp.rf v
  refine lv_aload_n hx hb d_X11_takesKey_0 rfl (lv_at hl 0 rfl) ?_
  refine lv_bipush (v := 101) hx hb d_X11_takesKey_1 (by decide) ?_
  refine r_ci (r_runV (n := 1) (As := [.int 101]) (rest := []) X hw (ct_X11_takes_400 l D dA ad v hI 101) gc_X11_205 (rfl : KD 400 = _) (by decide) rfl (by decide +kernel) ⟨rfl, rfl, Nat.le_of_ble_eq_true rfl, Nat.le_of_ble_eq_true rfl⟩ rfl hl.1 rfl (Nat.le_of_ble_eq_true rfl) ⟨Nat.zero_le _, Nat.zero_le _⟩ d_X11_takesKey_3) hS (fun x2 v3 H locs hp1 hw hS => ?_)
  obtain ⟨hI4, hK5, hp1, hk6, hF7⟩ := hp1
  have hK8 : Kp v v3 := Kp.tr hK0 hK5
  have hm9 : v3 400 (34) = g0 := hk6.trans hg0
  refine lv_if_eq (tgt := 58) hx hb d_X11_takesKey_6 (by decide) (fun c10 => ?_) (fun c10 => ?_)
  · have f11 := i_eq c10
    have r12 : Rg x2 0 0 := by obtain ⟨a1, a2⟩ := hp1; obtain ⟨b1, b2⟩ := (⟨by decide, by decide⟩ : Rg 0 0 0); have f := i_eq c10; exact ⟨by omega, by omega⟩
    refine lv_aload_n hx hb d_X11_takesKey_58 rfl (lv_at hl 0 rfl) ?_
    refine lv_bipush (v := 97) hx hb d_X11_takesKey_59 (by decide) ?_
    refine r_ci (r_runV (n := 1) (As := [.int 97]) (rest := []) X hw (ct_X11_takes_400 l D dA ad v3 hI4 97) gc_X11_205 (rfl : KD 400 = _) (by decide) rfl (by decide +kernel) ⟨rfl, rfl, Nat.le_of_ble_eq_true rfl, Nat.le_of_ble_eq_true rfl⟩ rfl hl.1 rfl (Nat.le_of_ble_eq_true rfl) ⟨Nat.zero_le _, Nat.zero_le _⟩ d_X11_takesKey_61) hS (fun x14 v15 H locs hp13 hw hS => ?_)
    obtain ⟨hI16, hK17, hp13, hk18, hF19⟩ := hp13
    have hK20 : Kp v v15 := Kp.tr hK8 hK17
    have hm21 : v15 400 (34) = g0 := hk18.trans hm9
    refine lv_if_eq (tgt := 98) hx hb d_X11_takesKey_64 (by decide) (fun c22 => ?_) (fun c22 => ?_)
    · have f23 := i_eq c22
      have r24 : Rg x14 0 0 := by obtain ⟨a1, a2⟩ := hp13; obtain ⟨b1, b2⟩ := (⟨by decide, by decide⟩ : Rg 0 0 0); have f := i_eq c22; exact ⟨by omega, by omega⟩
      refine lv_aload_n hx hb d_X11_takesKey_98 rfl (lv_at hl 0 rfl) ?_
      refine lv_bipush (v := 108) hx hb d_X11_takesKey_99 (by decide) ?_
      refine r_ci (r_runV (n := 1) (As := [.int 108]) (rest := []) X hw (ct_X11_takes_400 l D dA ad v15 hI16 108) gc_X11_205 (rfl : KD 400 = _) (by decide) rfl (by decide +kernel) ⟨rfl, rfl, Nat.le_of_ble_eq_true rfl, Nat.le_of_ble_eq_true rfl⟩ rfl hl.1 rfl (Nat.le_of_ble_eq_true rfl) ⟨Nat.zero_le _, Nat.zero_le _⟩ d_X11_takesKey_101) hS (fun x26 v27 H locs hp25 hw hS => ?_)
      obtain ⟨hI28, hK29, hp25, hk30, hF31⟩ := hp25
      have hK32 : Kp v v27 := Kp.tr hK20 hK29
      have hm33 : v27 400 (34) = g0 := hk30.trans hm21
      refine lv_if_eq (tgt := 116) hx hb d_X11_takesKey_104 (by decide) (fun c34 => ?_) (fun c34 => ?_)
      · have f35 := i_eq c34
        have r36 : Rg x26 0 0 := by obtain ⟨a1, a2⟩ := hp25; obtain ⟨b1, b2⟩ := (⟨by decide, by decide⟩ : Rg 0 0 0); have f := i_eq c34; exact ⟨by omega, by omega⟩
        refine lv_iconst (v := 0) hx hb d_X11_takesKey_116 (by decide) ?_
        exact r_zret X hr hlocks hw hS rfl ⟨hI28, hK32, (rg_w (⟨by decide, by decide⟩ : Rg 0 0 0) (by decide) (by decide)), (hm33.trans hg0.symm)⟩ d_X11_takesKey_117
      · have f37 := i_ne c34
        have r38 : Rg x26 1 1 := by obtain ⟨a1, a2⟩ := hp25; obtain ⟨b1, b2⟩ := (⟨by decide, by decide⟩ : Rg 0 0 0); have f := i_ne c34; exact ⟨by omega, by omega⟩
        refine lv_aload_n hx hb d_X11_takesKey_107 rfl (lv_at hl 0 rfl) ?_
        refine lv_bipush (v := 111) hx hb d_X11_takesKey_108 (by decide) ?_
        refine r_ci (r_runV (n := 1) (As := [.int 111]) (rest := []) X hw (ct_X11_takes_400 l D dA ad v27 hI28 111) gc_X11_205 (rfl : KD 400 = _) (by decide) rfl (by decide +kernel) ⟨rfl, rfl, Nat.le_of_ble_eq_true rfl, Nat.le_of_ble_eq_true rfl⟩ rfl hl.1 rfl (Nat.le_of_ble_eq_true rfl) ⟨Nat.zero_le _, Nat.zero_le _⟩ d_X11_takesKey_110) hS (fun x40 v41 H locs hp39 hw hS => ?_)
        obtain ⟨hI42, hK43, hp39, hk44, hF45⟩ := hp39
        have hK46 : Kp v v41 := Kp.tr hK32 hK43
        have hm47 : v41 400 (34) = g0 := hk44.trans hm33
        refine lv_if_ne (tgt := 118) hx hb d_X11_takesKey_113 (by decide) (fun c48 => ?_) (fun c48 => ?_)
        · have f49 := i_ne c48
          have r50 : Rg x40 1 1 := by obtain ⟨a1, a2⟩ := hp39; obtain ⟨b1, b2⟩ := (⟨by decide, by decide⟩ : Rg 0 0 0); have f := i_ne c48; exact ⟨by omega, by omega⟩
          refine lv_aload_n hx hb d_X11_takesKey_118 rfl (lv_at hl 0 rfl) ?_
          refine lv_bipush (v := 116) hx hb d_X11_takesKey_119 (by decide) ?_
          refine r_ci (r_runV (n := 1) (As := [.int 116]) (rest := []) X hw (ct_X11_takes_400 l D dA ad v41 hI42 116) gc_X11_205 (rfl : KD 400 = _) (by decide) rfl (by decide +kernel) ⟨rfl, rfl, Nat.le_of_ble_eq_true rfl, Nat.le_of_ble_eq_true rfl⟩ rfl hl.1 rfl (Nat.le_of_ble_eq_true rfl) ⟨Nat.zero_le _, Nat.zero_le _⟩ d_X11_takesKey_121) hS (fun x52 v53 H locs hp51 hw hS => ?_)
          obtain ⟨hI54, hK55, hp51, hk56, hF57⟩ := hp51
          have hK58 : Kp v v53 := Kp.tr hK46 hK55
          have hm59 : v53 400 (34) = g0 := hk56.trans hm47
          refine lv_if_eq (tgt := 136) hx hb d_X11_takesKey_124 (by decide) (fun c60 => ?_) (fun c60 => ?_)
          · have f61 := i_eq c60
            have r62 : Rg x52 0 0 := by obtain ⟨a1, a2⟩ := hp51; obtain ⟨b1, b2⟩ := (⟨by decide, by decide⟩ : Rg 0 0 0); have f := i_eq c60; exact ⟨by omega, by omega⟩
            refine lv_aload_n hx hb d_X11_takesKey_136 rfl (lv_at hl 0 rfl) ?_
            refine r_getr (r := 437) X hw FL_X11_99 (rfl : KD 400 = _) rfl d_X11_takesKey_137 ?_
            refine lv_iload_n hx hb d_X11_takesKey_140 rfl (lv_at hl 1 rfl) ?_
            refine lv_iconst (v := 2) hx hb d_X11_takesKey_141 (by decide) ?_
            refine r_iast X hw hS (rfl : KD 437 = _) (Rg.vp (b := 7) r_od (by decide)) rfl d_X11_takesKey_142 (fun H locs hw hS => ?_)
            obtain ⟨v63, ev63⟩ : ∃ z, z = up2 v53 437 od.toNatClampNeg 2 := ⟨_, rfl⟩
            rw [← ev63] at hw
            have hI64 : Inv v63 := by rw [ev63]; exact Inv.put0 hI54 _ rfl
            have hK65 : Kp v v63 := by rw [ev63]; exact Kp.put hK58 _ rfl
            have hm66 : v63 400 34 = g0 := by rw [ev63, up2_n _ _ (by omega)]; exact hm59
            refine lv_aload_n hx hb d_X11_takesKey_143 rfl (lv_at hl 0 rfl) ?_
            refine lv_bipush (v := 97) hx hb d_X11_takesKey_144 (by decide) ?_
            refine r_ci (r_runV (n := 1) (As := [.int 97]) (rest := []) X hw (ct_X11_takes_400 l D dA ad v63 hI64 97) gc_X11_205 (rfl : KD 400 = _) (by decide) rfl (by decide +kernel) ⟨rfl, rfl, Nat.le_of_ble_eq_true rfl, Nat.le_of_ble_eq_true rfl⟩ rfl hl.1 rfl (Nat.le_of_ble_eq_true rfl) ⟨Nat.zero_le _, Nat.zero_le _⟩ d_X11_takesKey_146) hS (fun x68 v69 H locs hp67 hw hS => ?_)
            obtain ⟨hI70, hK71, hp67, hk72, hF73⟩ := hp67
            have hK74 : Kp v v69 := Kp.tr hK65 hK71
            have hm75 : v69 400 (34) = g0 := hk72.trans hm66
            refine lv_if_eq (tgt := 165) hx hb d_X11_takesKey_149 (by decide) (fun c76 => ?_) (fun c76 => ?_)
            · have f77 := i_eq c76
              have r78 : Rg x68 0 0 := by obtain ⟨a1, a2⟩ := hp67; obtain ⟨b1, b2⟩ := (⟨by decide, by decide⟩ : Rg 0 0 0); have f := i_eq c76; exact ⟨by omega, by omega⟩
              refine lv_iconst (v := 0) hx hb d_X11_takesKey_165 (by decide) ?_
              exact r_zret X hr hlocks hw hS rfl ⟨hI70, hK74, (rg_w (⟨by decide, by decide⟩ : Rg 0 0 0) (by decide) (by decide)), (hm75.trans hg0.symm)⟩ d_X11_takesKey_166
            · have f79 := i_ne c76
              have r80 : Rg x68 1 1 := by obtain ⟨a1, a2⟩ := hp67; obtain ⟨b1, b2⟩ := (⟨by decide, by decide⟩ : Rg 0 0 0); have f := i_ne c76; exact ⟨by omega, by omega⟩
              refine lv_aload_n hx hb d_X11_takesKey_152 rfl (lv_at hl 0 rfl) ?_
              refine lv_bipush (v := 100) hx hb d_X11_takesKey_153 (by decide) ?_
              refine r_ci (r_runV (n := 1) (As := [.int 100]) (rest := []) X hw (ct_X11_takes_400 l D dA ad v69 hI70 100) gc_X11_205 (rfl : KD 400 = _) (by decide) rfl (by decide +kernel) ⟨rfl, rfl, Nat.le_of_ble_eq_true rfl, Nat.le_of_ble_eq_true rfl⟩ rfl hl.1 rfl (Nat.le_of_ble_eq_true rfl) ⟨Nat.zero_le _, Nat.zero_le _⟩ d_X11_takesKey_155) hS (fun x82 v83 H locs hp81 hw hS => ?_)
              obtain ⟨hI84, hK85, hp81, hk86, hF87⟩ := hp81
              have hK88 : Kp v v83 := Kp.tr hK74 hK85
              have hm89 : v83 400 (34) = g0 := hk86.trans hm75
              refine lv_if_eq (tgt := 165) hx hb d_X11_takesKey_158 (by decide) (fun c90 => ?_) (fun c90 => ?_)
              · have f91 := i_eq c90
                have r92 : Rg x82 0 0 := by obtain ⟨a1, a2⟩ := hp81; obtain ⟨b1, b2⟩ := (⟨by decide, by decide⟩ : Rg 0 0 0); have f := i_eq c90; exact ⟨by omega, by omega⟩
                refine lv_iconst (v := 0) hx hb d_X11_takesKey_165 (by decide) ?_
                exact r_zret X hr hlocks hw hS rfl ⟨hI84, hK88, (rg_w (⟨by decide, by decide⟩ : Rg 0 0 0) (by decide) (by decide)), (hm89.trans hg0.symm)⟩ d_X11_takesKey_166
              · have f93 := i_ne c90
                have r94 : Rg x82 1 1 := by obtain ⟨a1, a2⟩ := hp81; obtain ⟨b1, b2⟩ := (⟨by decide, by decide⟩ : Rg 0 0 0); have f := i_ne c90; exact ⟨by omega, by omega⟩
                refine lv_iconst (v := 1) hx hb d_X11_takesKey_161 (by decide) ?_
                refine lv_goto (tgt := 166) hx hb d_X11_takesKey_162 (by decide) ?_
                exact r_zret X hr hlocks hw hS rfl ⟨hI84, hK88, (rg_w (⟨by decide, by decide⟩ : Rg 1 1 1) (by decide) (by decide)), (hm89.trans hg0.symm)⟩ d_X11_takesKey_166
          · have f95 := i_ne c60
            have r96 : Rg x52 1 1 := by obtain ⟨a1, a2⟩ := hp51; obtain ⟨b1, b2⟩ := (⟨by decide, by decide⟩ : Rg 0 0 0); have f := i_ne c60; exact ⟨by omega, by omega⟩
            refine lv_aload_n hx hb d_X11_takesKey_127 rfl (lv_at hl 0 rfl) ?_
            refine r_getr (r := 437) X hw FL_X11_99 (rfl : KD 400 = _) rfl d_X11_takesKey_128 ?_
            refine lv_iload_n hx hb d_X11_takesKey_131 rfl (lv_at hl 1 rfl) ?_
            refine lv_iconst (v := 3) hx hb d_X11_takesKey_132 (by decide) ?_
            refine r_iast X hw hS (rfl : KD 437 = _) (Rg.vp (b := 7) r_od (by decide)) rfl d_X11_takesKey_133 (fun H locs hw hS => ?_)
            obtain ⟨v97, ev97⟩ : ∃ z, z = up2 v53 437 od.toNatClampNeg 3 := ⟨_, rfl⟩
            rw [← ev97] at hw
            have hI98 : Inv v97 := by rw [ev97]; exact Inv.put0 hI54 _ rfl
            have hK99 : Kp v v97 := by rw [ev97]; exact Kp.put hK58 _ rfl
            have hm100 : v97 400 34 = g0 := by rw [ev97, up2_n _ _ (by omega)]; exact hm59
            refine lv_iconst (v := 1) hx hb d_X11_takesKey_134 (by decide) ?_
            exact r_zret X hr hlocks hw hS rfl ⟨hI98, hK99, (rg_w (⟨by decide, by decide⟩ : Rg 1 1 1) (by decide) (by decide)), (hm100.trans hg0.symm)⟩ d_X11_takesKey_135
        · have f101 := i_eq c48
          have r102 : Rg x40 0 0 := by obtain ⟨a1, a2⟩ := hp39; obtain ⟨b1, b2⟩ := (⟨by decide, by decide⟩ : Rg 0 0 0); have f := i_eq c48; exact ⟨by omega, by omega⟩
          refine lv_iconst (v := 0) hx hb d_X11_takesKey_116 (by decide) ?_
          exact r_zret X hr hlocks hw hS rfl ⟨hI42, hK46, (rg_w (⟨by decide, by decide⟩ : Rg 0 0 0) (by decide) (by decide)), (hm47.trans hg0.symm)⟩ d_X11_takesKey_117
    · have f103 := i_ne c22
      have r104 : Rg x14 1 1 := by obtain ⟨a1, a2⟩ := hp13; obtain ⟨b1, b2⟩ := (⟨by decide, by decide⟩ : Rg 0 0 0); have f := i_ne c22; exact ⟨by omega, by omega⟩
      refine lv_aload_n hx hb d_X11_takesKey_67 rfl (lv_at hl 0 rfl) ?_
      refine r_getr (r := 437) X hw FL_X11_99 (rfl : KD 400 = _) rfl d_X11_takesKey_68 ?_
      refine lv_iload_n hx hb d_X11_takesKey_71 rfl (lv_at hl 1 rfl) ?_
      refine lv_iconst (v := 1) hx hb d_X11_takesKey_72 (by decide) ?_
      refine r_iast X hw hS (rfl : KD 437 = _) (Rg.vp (b := 7) r_od (by decide)) rfl d_X11_takesKey_73 (fun H locs hw hS => ?_)
      obtain ⟨v105, ev105⟩ : ∃ z, z = up2 v15 437 od.toNatClampNeg 1 := ⟨_, rfl⟩
      rw [← ev105] at hw
      have hI106 : Inv v105 := by rw [ev105]; exact Inv.put0 hI16 _ rfl
      have hK107 : Kp v v105 := by rw [ev105]; exact Kp.put hK20 _ rfl
      have hm108 : v105 400 34 = g0 := by rw [ev105, up2_n _ _ (by omega)]; exact hm21
      refine lv_aload_n hx hb d_X11_takesKey_74 rfl (lv_at hl 0 rfl) ?_
      refine lv_bipush (v := 115) hx hb d_X11_takesKey_75 (by decide) ?_
      refine r_ci (r_runV (n := 1) (As := [.int 115]) (rest := []) X hw (ct_X11_takes_400 l D dA ad v105 hI106 115) gc_X11_205 (rfl : KD 400 = _) (by decide) rfl (by decide +kernel) ⟨rfl, rfl, Nat.le_of_ble_eq_true rfl, Nat.le_of_ble_eq_true rfl⟩ rfl hl.1 rfl (Nat.le_of_ble_eq_true rfl) ⟨Nat.zero_le _, Nat.zero_le _⟩ d_X11_takesKey_77) hS (fun x110 v111 H locs hp109 hw hS => ?_)
      obtain ⟨hI112, hK113, hp109, hk114, hF115⟩ := hp109
      have hK116 : Kp v v111 := Kp.tr hK107 hK113
      have hm117 : v111 400 (34) = g0 := hk114.trans hm108
      refine lv_if_eq (tgt := 96) hx hb d_X11_takesKey_80 (by decide) (fun c118 => ?_) (fun c118 => ?_)
      · have f119 := i_eq c118
        have r120 : Rg x110 0 0 := by obtain ⟨a1, a2⟩ := hp109; obtain ⟨b1, b2⟩ := (⟨by decide, by decide⟩ : Rg 0 0 0); have f := i_eq c118; exact ⟨by omega, by omega⟩
        refine lv_iconst (v := 0) hx hb d_X11_takesKey_96 (by decide) ?_
        exact r_zret X hr hlocks hw hS rfl ⟨hI112, hK116, (rg_w (⟨by decide, by decide⟩ : Rg 0 0 0) (by decide) (by decide)), (hm117.trans hg0.symm)⟩ d_X11_takesKey_97
      · have f121 := i_ne c118
        have r122 : Rg x110 1 1 := by obtain ⟨a1, a2⟩ := hp109; obtain ⟨b1, b2⟩ := (⟨by decide, by decide⟩ : Rg 0 0 0); have f := i_ne c118; exact ⟨by omega, by omega⟩
        refine lv_aload_n hx hb d_X11_takesKey_83 rfl (lv_at hl 0 rfl) ?_
        refine lv_bipush (v := 107) hx hb d_X11_takesKey_84 (by decide) ?_
        refine r_ci (r_runV (n := 1) (As := [.int 107]) (rest := []) X hw (ct_X11_takes_400 l D dA ad v111 hI112 107) gc_X11_205 (rfl : KD 400 = _) (by decide) rfl (by decide +kernel) ⟨rfl, rfl, Nat.le_of_ble_eq_true rfl, Nat.le_of_ble_eq_true rfl⟩ rfl hl.1 rfl (Nat.le_of_ble_eq_true rfl) ⟨Nat.zero_le _, Nat.zero_le _⟩ d_X11_takesKey_86) hS (fun x124 v125 H locs hp123 hw hS => ?_)
        obtain ⟨hI126, hK127, hp123, hk128, hF129⟩ := hp123
        have hK130 : Kp v v125 := Kp.tr hK116 hK127
        have hm131 : v125 400 (34) = g0 := hk128.trans hm117
        refine lv_if_eq (tgt := 96) hx hb d_X11_takesKey_89 (by decide) (fun c132 => ?_) (fun c132 => ?_)
        · have f133 := i_eq c132
          have r134 : Rg x124 0 0 := by obtain ⟨a1, a2⟩ := hp123; obtain ⟨b1, b2⟩ := (⟨by decide, by decide⟩ : Rg 0 0 0); have f := i_eq c132; exact ⟨by omega, by omega⟩
          refine lv_iconst (v := 0) hx hb d_X11_takesKey_96 (by decide) ?_
          exact r_zret X hr hlocks hw hS rfl ⟨hI126, hK130, (rg_w (⟨by decide, by decide⟩ : Rg 0 0 0) (by decide) (by decide)), (hm131.trans hg0.symm)⟩ d_X11_takesKey_97
        · have f135 := i_ne c132
          have r136 : Rg x124 1 1 := by obtain ⟨a1, a2⟩ := hp123; obtain ⟨b1, b2⟩ := (⟨by decide, by decide⟩ : Rg 0 0 0); have f := i_ne c132; exact ⟨by omega, by omega⟩
          refine lv_iconst (v := 1) hx hb d_X11_takesKey_92 (by decide) ?_
          refine lv_goto (tgt := 97) hx hb d_X11_takesKey_93 (by decide) ?_
          exact r_zret X hr hlocks hw hS rfl ⟨hI126, hK130, (rg_w (⟨by decide, by decide⟩ : Rg 1 1 1) (by decide) (by decide)), (hm131.trans hg0.symm)⟩ d_X11_takesKey_97
  · have f137 := i_ne c10
    have r138 : Rg x2 1 1 := by obtain ⟨a1, a2⟩ := hp1; obtain ⟨b1, b2⟩ := (⟨by decide, by decide⟩ : Rg 0 0 0); have f := i_ne c10; exact ⟨by omega, by omega⟩
    refine lv_aload_n hx hb d_X11_takesKey_9 rfl (lv_at hl 0 rfl) ?_
    refine r_getr (r := 437) X hw FL_X11_99 (rfl : KD 400 = _) rfl d_X11_takesKey_10 ?_
    refine lv_iload_n hx hb d_X11_takesKey_13 rfl (lv_at hl 1 rfl) ?_
    refine lv_iconst (v := 0) hx hb d_X11_takesKey_14 (by decide) ?_
    refine r_iast X hw hS (rfl : KD 437 = _) (Rg.vp (b := 7) r_od (by decide)) rfl d_X11_takesKey_15 (fun H locs hw hS => ?_)
    obtain ⟨v139, ev139⟩ : ∃ z, z = up2 v3 437 od.toNatClampNeg 0 := ⟨_, rfl⟩
    rw [← ev139] at hw
    have hI140 : Inv v139 := by rw [ev139]; exact Inv.put0 hI4 _ rfl
    have hK141 : Kp v v139 := by rw [ev139]; exact Kp.put hK8 _ rfl
    have hm142 : v139 400 34 = g0 := by rw [ev139, up2_n _ _ (by omega)]; exact hm9
    refine lv_aload_n hx hb d_X11_takesKey_16 rfl (lv_at hl 0 rfl) ?_
    refine lv_bipush (v := 110) hx hb d_X11_takesKey_17 (by decide) ?_
    refine r_ci (r_runV (n := 1) (As := [.int 110]) (rest := []) X hw (ct_X11_takes_400 l D dA ad v139 hI140 110) gc_X11_205 (rfl : KD 400 = _) (by decide) rfl (by decide +kernel) ⟨rfl, rfl, Nat.le_of_ble_eq_true rfl, Nat.le_of_ble_eq_true rfl⟩ rfl hl.1 rfl (Nat.le_of_ble_eq_true rfl) ⟨Nat.zero_le _, Nat.zero_le _⟩ d_X11_takesKey_19) hS (fun x144 v145 H locs hp143 hw hS => ?_)
    obtain ⟨hI146, hK147, hp143, hk148, hF149⟩ := hp143
    have hK150 : Kp v v145 := Kp.tr hK141 hK147
    have hm151 : v145 400 (34) = g0 := hk148.trans hm142
    refine lv_if_eq (tgt := 56) hx hb d_X11_takesKey_22 (by decide) (fun c152 => ?_) (fun c152 => ?_)
    · have f153 := i_eq c152
      have r154 : Rg x144 0 0 := by obtain ⟨a1, a2⟩ := hp143; obtain ⟨b1, b2⟩ := (⟨by decide, by decide⟩ : Rg 0 0 0); have f := i_eq c152; exact ⟨by omega, by omega⟩
      refine lv_iconst (v := 0) hx hb d_X11_takesKey_56 (by decide) ?_
      exact r_zret X hr hlocks hw hS rfl ⟨hI146, hK150, (rg_w (⟨by decide, by decide⟩ : Rg 0 0 0) (by decide) (by decide)), (hm151.trans hg0.symm)⟩ d_X11_takesKey_57
    · have f155 := i_ne c152
      have r156 : Rg x144 1 1 := by obtain ⟨a1, a2⟩ := hp143; obtain ⟨b1, b2⟩ := (⟨by decide, by decide⟩ : Rg 0 0 0); have f := i_ne c152; exact ⟨by omega, by omega⟩
      refine lv_aload_n hx hb d_X11_takesKey_25 rfl (lv_at hl 0 rfl) ?_
      refine lv_bipush (v := 116) hx hb d_X11_takesKey_26 (by decide) ?_
      refine r_ci (r_runV (n := 1) (As := [.int 116]) (rest := []) X hw (ct_X11_takes_400 l D dA ad v145 hI146 116) gc_X11_205 (rfl : KD 400 = _) (by decide) rfl (by decide +kernel) ⟨rfl, rfl, Nat.le_of_ble_eq_true rfl, Nat.le_of_ble_eq_true rfl⟩ rfl hl.1 rfl (Nat.le_of_ble_eq_true rfl) ⟨Nat.zero_le _, Nat.zero_le _⟩ d_X11_takesKey_28) hS (fun x158 v159 H locs hp157 hw hS => ?_)
      obtain ⟨hI160, hK161, hp157, hk162, hF163⟩ := hp157
      have hK164 : Kp v v159 := Kp.tr hK150 hK161
      have hm165 : v159 400 (34) = g0 := hk162.trans hm151
      refine lv_if_eq (tgt := 56) hx hb d_X11_takesKey_31 (by decide) (fun c166 => ?_) (fun c166 => ?_)
      · have f167 := i_eq c166
        have r168 : Rg x158 0 0 := by obtain ⟨a1, a2⟩ := hp157; obtain ⟨b1, b2⟩ := (⟨by decide, by decide⟩ : Rg 0 0 0); have f := i_eq c166; exact ⟨by omega, by omega⟩
        refine lv_iconst (v := 0) hx hb d_X11_takesKey_56 (by decide) ?_
        exact r_zret X hr hlocks hw hS rfl ⟨hI160, hK164, (rg_w (⟨by decide, by decide⟩ : Rg 0 0 0) (by decide) (by decide)), (hm165.trans hg0.symm)⟩ d_X11_takesKey_57
      · have f169 := i_ne c166
        have r170 : Rg x158 1 1 := by obtain ⟨a1, a2⟩ := hp157; obtain ⟨b1, b2⟩ := (⟨by decide, by decide⟩ : Rg 0 0 0); have f := i_ne c166; exact ⟨by omega, by omega⟩
        refine lv_aload_n hx hb d_X11_takesKey_34 rfl (lv_at hl 0 rfl) ?_
        refine lv_bipush (v := 114) hx hb d_X11_takesKey_35 (by decide) ?_
        refine r_ci (r_runV (n := 1) (As := [.int 114]) (rest := []) X hw (ct_X11_takes_400 l D dA ad v159 hI160 114) gc_X11_205 (rfl : KD 400 = _) (by decide) rfl (by decide +kernel) ⟨rfl, rfl, Nat.le_of_ble_eq_true rfl, Nat.le_of_ble_eq_true rfl⟩ rfl hl.1 rfl (Nat.le_of_ble_eq_true rfl) ⟨Nat.zero_le _, Nat.zero_le _⟩ d_X11_takesKey_37) hS (fun x172 v173 H locs hp171 hw hS => ?_)
        obtain ⟨hI174, hK175, hp171, hk176, hF177⟩ := hp171
        have hK178 : Kp v v173 := Kp.tr hK164 hK175
        have hm179 : v173 400 (34) = g0 := hk176.trans hm165
        refine lv_if_eq (tgt := 56) hx hb d_X11_takesKey_40 (by decide) (fun c180 => ?_) (fun c180 => ?_)
        · have f181 := i_eq c180
          have r182 : Rg x172 0 0 := by obtain ⟨a1, a2⟩ := hp171; obtain ⟨b1, b2⟩ := (⟨by decide, by decide⟩ : Rg 0 0 0); have f := i_eq c180; exact ⟨by omega, by omega⟩
          refine lv_iconst (v := 0) hx hb d_X11_takesKey_56 (by decide) ?_
          exact r_zret X hr hlocks hw hS rfl ⟨hI174, hK178, (rg_w (⟨by decide, by decide⟩ : Rg 0 0 0) (by decide) (by decide)), (hm179.trans hg0.symm)⟩ d_X11_takesKey_57
        · have f183 := i_ne c180
          have r184 : Rg x172 1 1 := by obtain ⟨a1, a2⟩ := hp171; obtain ⟨b1, b2⟩ := (⟨by decide, by decide⟩ : Rg 0 0 0); have f := i_ne c180; exact ⟨by omega, by omega⟩
          refine lv_aload_n hx hb d_X11_takesKey_43 rfl (lv_at hl 0 rfl) ?_
          refine lv_bipush (v := 121) hx hb d_X11_takesKey_44 (by decide) ?_
          refine r_ci (r_runV (n := 1) (As := [.int 121]) (rest := []) X hw (ct_X11_takes_400 l D dA ad v173 hI174 121) gc_X11_205 (rfl : KD 400 = _) (by decide) rfl (by decide +kernel) ⟨rfl, rfl, Nat.le_of_ble_eq_true rfl, Nat.le_of_ble_eq_true rfl⟩ rfl hl.1 rfl (Nat.le_of_ble_eq_true rfl) ⟨Nat.zero_le _, Nat.zero_le _⟩ d_X11_takesKey_46) hS (fun x186 v187 H locs hp185 hw hS => ?_)
          obtain ⟨hI188, hK189, hp185, hk190, hF191⟩ := hp185
          have hK192 : Kp v v187 := Kp.tr hK178 hK189
          have hm193 : v187 400 (34) = g0 := hk190.trans hm179
          refine lv_if_eq (tgt := 56) hx hb d_X11_takesKey_49 (by decide) (fun c194 => ?_) (fun c194 => ?_)
          · have f195 := i_eq c194
            have r196 : Rg x186 0 0 := by obtain ⟨a1, a2⟩ := hp185; obtain ⟨b1, b2⟩ := (⟨by decide, by decide⟩ : Rg 0 0 0); have f := i_eq c194; exact ⟨by omega, by omega⟩
            refine lv_iconst (v := 0) hx hb d_X11_takesKey_56 (by decide) ?_
            exact r_zret X hr hlocks hw hS rfl ⟨hI188, hK192, (rg_w (⟨by decide, by decide⟩ : Rg 0 0 0) (by decide) (by decide)), (hm193.trans hg0.symm)⟩ d_X11_takesKey_57
          · have f197 := i_ne c194
            have r198 : Rg x186 1 1 := by obtain ⟨a1, a2⟩ := hp185; obtain ⟨b1, b2⟩ := (⟨by decide, by decide⟩ : Rg 0 0 0); have f := i_ne c194; exact ⟨by omega, by omega⟩
            refine lv_iconst (v := 1) hx hb d_X11_takesKey_52 (by decide) ?_
            refine lv_goto (tgt := 57) hx hb d_X11_takesKey_53 (by decide) ?_
            exact r_zret X hr hlocks hw hS rfl ⟨hI188, hK192, (rg_w (⟨by decide, by decide⟩ : Rg 1 1 1) (by decide) (by decide)), (hm193.trans hg0.symm)⟩ d_X11_takesKey_57
theorem d_X11_reads_0 : decode c_X11_reads 0 = .ok (.aload_n 0, 1) := by decide +kernel
theorem d_X11_reads_1 : decode c_X11_reads 1 = .ok (.iconst 0, 1) := by decide +kernel
theorem d_X11_reads_2 : decode c_X11_reads 2 = .ok (.putfield 193, 3) := by decide +kernel
theorem d_X11_reads_5 : decode c_X11_reads 5 = .ok (.aload_n 0, 1) := by decide +kernel
theorem d_X11_reads_6 : decode c_X11_reads 6 = .ok (.getfield 102, 3) := by decide +kernel
theorem d_X11_reads_9 : decode c_X11_reads 9 = .ok (.iload_n 1, 1) := by decide +kernel
theorem d_X11_reads_10 : decode c_X11_reads 10 = .ok (.iconst 0, 1) := by decide +kernel
theorem d_X11_reads_11 : decode c_X11_reads 11 = .ok (.iastore, 1) := by decide +kernel
theorem d_X11_reads_12 : decode c_X11_reads 12 = .ok (.aload_n 0, 1) := by decide +kernel
theorem d_X11_reads_13 : decode c_X11_reads 13 = .ok (.bipush 116, 2) := by decide +kernel
theorem d_X11_reads_15 : decode c_X11_reads 15 = .ok (.invokevirtual 205, 3) := by decide +kernel
theorem d_X11_reads_18 : decode c_X11_reads 18 = .ok (.ifCond .eq 47, 3) := by decide +kernel
theorem d_X11_reads_21 : decode c_X11_reads 21 = .ok (.aload_n 0, 1) := by decide +kernel
theorem d_X11_reads_22 : decode c_X11_reads 22 = .ok (.bipush 117, 2) := by decide +kernel
theorem d_X11_reads_24 : decode c_X11_reads 24 = .ok (.invokevirtual 205, 3) := by decide +kernel
theorem d_X11_reads_27 : decode c_X11_reads 27 = .ok (.ifCond .eq 38, 3) := by decide +kernel
theorem d_X11_reads_30 : decode c_X11_reads 30 = .ok (.aload_n 0, 1) := by decide +kernel
theorem d_X11_reads_31 : decode c_X11_reads 31 = .ok (.bipush 114, 2) := by decide +kernel
theorem d_X11_reads_33 : decode c_X11_reads 33 = .ok (.invokevirtual 205, 3) := by decide +kernel
theorem d_X11_reads_36 : decode c_X11_reads 36 = .ok (.ifCond .eq 29, 3) := by decide +kernel
theorem d_X11_reads_39 : decode c_X11_reads 39 = .ok (.aload_n 0, 1) := by decide +kernel
theorem d_X11_reads_40 : decode c_X11_reads 40 = .ok (.bipush 110, 2) := by decide +kernel
theorem d_X11_reads_42 : decode c_X11_reads 42 = .ok (.invokevirtual 205, 3) := by decide +kernel
theorem d_X11_reads_45 : decode c_X11_reads 45 = .ok (.ifCond .eq 20, 3) := by decide +kernel
theorem d_X11_reads_48 : decode c_X11_reads 48 = .ok (.aload_n 0, 1) := by decide +kernel
theorem d_X11_reads_49 : decode c_X11_reads 49 = .ok (.bipush 32, 2) := by decide +kernel
theorem d_X11_reads_51 : decode c_X11_reads 51 = .ok (.invokevirtual 205, 3) := by decide +kernel
theorem d_X11_reads_54 : decode c_X11_reads 54 = .ok (.ifCond .eq 11, 3) := by decide +kernel
theorem d_X11_reads_57 : decode c_X11_reads 57 = .ok (.aload_n 0, 1) := by decide +kernel
theorem d_X11_reads_58 : decode c_X11_reads 58 = .ok (.iload_n 1, 1) := by decide +kernel
theorem d_X11_reads_59 : decode c_X11_reads 59 = .ok (.invokevirtual 208, 3) := by decide +kernel
theorem d_X11_reads_62 : decode c_X11_reads 62 = .ok (.ifCond .ne 5, 3) := by decide +kernel
theorem d_X11_reads_65 : decode c_X11_reads 65 = .ok (.iconst 0, 1) := by decide +kernel
theorem d_X11_reads_66 : decode c_X11_reads 66 = .ok (.ireturn, 1) := by decide +kernel
theorem d_X11_reads_67 : decode c_X11_reads 67 = .ok (.aload_n 0, 1) := by decide +kernel
theorem d_X11_reads_68 : decode c_X11_reads 68 = .ok (.bipush 59, 2) := by decide +kernel
theorem d_X11_reads_70 : decode c_X11_reads 70 = .ok (.invokevirtual 205, 3) := by decide +kernel
theorem d_X11_reads_73 : decode c_X11_reads 73 = .ok (.ifCond .eq 48, 3) := by decide +kernel
theorem d_X11_reads_76 : decode c_X11_reads 76 = .ok (.aload_n 0, 1) := by decide +kernel
theorem d_X11_reads_77 : decode c_X11_reads 77 = .ok (.bipush 115, 2) := by decide +kernel
theorem d_X11_reads_79 : decode c_X11_reads 79 = .ok (.invokevirtual 205, 3) := by decide +kernel
theorem d_X11_reads_82 : decode c_X11_reads 82 = .ok (.ifCond .eq 39, 3) := by decide +kernel
theorem d_X11_reads_85 : decode c_X11_reads 85 = .ok (.aload_n 0, 1) := by decide +kernel
theorem d_X11_reads_86 : decode c_X11_reads 86 = .ok (.bipush 101, 2) := by decide +kernel
theorem d_X11_reads_88 : decode c_X11_reads 88 = .ok (.invokevirtual 205, 3) := by decide +kernel
theorem d_X11_reads_91 : decode c_X11_reads 91 = .ok (.ifCond .eq 30, 3) := by decide +kernel
theorem d_X11_reads_94 : decode c_X11_reads 94 = .ok (.aload_n 0, 1) := by decide +kernel
theorem d_X11_reads_95 : decode c_X11_reads 95 = .ok (.bipush 108, 2) := by decide +kernel
theorem d_X11_reads_97 : decode c_X11_reads 97 = .ok (.invokevirtual 205, 3) := by decide +kernel
theorem d_X11_reads_100 : decode c_X11_reads 100 = .ok (.ifCond .eq 21, 3) := by decide +kernel
theorem d_X11_reads_103 : decode c_X11_reads 103 = .ok (.aload_n 0, 1) := by decide +kernel
theorem d_X11_reads_104 : decode c_X11_reads 104 = .ok (.bipush 108, 2) := by decide +kernel
theorem d_X11_reads_106 : decode c_X11_reads 106 = .ok (.invokevirtual 205, 3) := by decide +kernel
theorem d_X11_reads_109 : decode c_X11_reads 109 = .ok (.ifCond .eq 12, 3) := by decide +kernel
theorem d_X11_reads_112 : decode c_X11_reads 112 = .ok (.aload_n 0, 1) := by decide +kernel
theorem d_X11_reads_113 : decode c_X11_reads 113 = .ok (.bipush 32, 2) := by decide +kernel
theorem d_X11_reads_115 : decode c_X11_reads 115 = .ok (.invokevirtual 205, 3) := by decide +kernel
theorem d_X11_reads_118 : decode c_X11_reads 118 = .ok (.ifCond .ne 5, 3) := by decide +kernel
theorem d_X11_reads_121 : decode c_X11_reads 121 = .ok (.iconst 0, 1) := by decide +kernel
theorem d_X11_reads_122 : decode c_X11_reads 122 = .ok (.ireturn, 1) := by decide +kernel
theorem d_X11_reads_123 : decode c_X11_reads 123 = .ok (.aload_n 0, 1) := by decide +kernel
theorem d_X11_reads_124 : decode c_X11_reads 124 = .ok (.iconst 2, 1) := by decide +kernel
theorem d_X11_reads_125 : decode c_X11_reads 125 = .ok (.invokevirtual 211, 3) := by decide +kernel
theorem d_X11_reads_128 : decode c_X11_reads 128 = .ok (.ifCond .ne 5, 3) := by decide +kernel
theorem d_X11_reads_131 : decode c_X11_reads 131 = .ok (.iconst 0, 1) := by decide +kernel
theorem d_X11_reads_132 : decode c_X11_reads 132 = .ok (.ireturn, 1) := by decide +kernel
theorem d_X11_reads_133 : decode c_X11_reads 133 = .ok (.aload_n 0, 1) := by decide +kernel
theorem d_X11_reads_134 : decode c_X11_reads 134 = .ok (.getfield 199, 3) := by decide +kernel
theorem d_X11_reads_137 : decode c_X11_reads 137 = .ok (.istore_n 2, 1) := by decide +kernel
theorem d_X11_reads_138 : decode c_X11_reads 138 = .ok (.aload_n 0, 1) := by decide +kernel
theorem d_X11_reads_139 : decode c_X11_reads 139 = .ok (.getfield 193, 3) := by decide +kernel
theorem d_X11_reads_142 : decode c_X11_reads 142 = .ok (.aload_n 0, 1) := by decide +kernel
theorem d_X11_reads_143 : decode c_X11_reads 143 = .ok (.getfield 190, 3) := by decide +kernel
theorem d_X11_reads_146 : decode c_X11_reads 146 = .ok (.if_icmp .ne 12, 3) := by decide +kernel
theorem d_X11_reads_149 : decode c_X11_reads 149 = .ok (.aload_n 0, 1) := by decide +kernel
theorem d_X11_reads_150 : decode c_X11_reads 150 = .ok (.getfield 115, 3) := by decide +kernel
theorem d_X11_reads_153 : decode c_X11_reads 153 = .ok (.iload_n 1, 1) := by decide +kernel
theorem d_X11_reads_154 : decode c_X11_reads 154 = .ok (.iload_n 2, 1) := by decide +kernel
theorem d_X11_reads_155 : decode c_X11_reads 155 = .ok (.iastore, 1) := by decide +kernel
theorem d_X11_reads_156 : decode c_X11_reads 156 = .ok (.iconst 1, 1) := by decide +kernel
theorem d_X11_reads_157 : decode c_X11_reads 157 = .ok (.ireturn, 1) := by decide +kernel
theorem d_X11_reads_158 : decode c_X11_reads 158 = .ok (.aload_n 0, 1) := by decide +kernel
theorem d_X11_reads_159 : decode c_X11_reads 159 = .ok (.getfield 102, 3) := by decide +kernel
theorem d_X11_reads_162 : decode c_X11_reads 162 = .ok (.iload_n 1, 1) := by decide +kernel
theorem d_X11_reads_163 : decode c_X11_reads 163 = .ok (.iaload, 1) := by decide +kernel
theorem d_X11_reads_164 : decode c_X11_reads 164 = .ok (.iconst 3, 1) := by decide +kernel
theorem d_X11_reads_165 : decode c_X11_reads 165 = .ok (.if_icmp .eq 39, 3) := by decide +kernel
theorem d_X11_reads_168 : decode c_X11_reads 168 = .ok (.aload_n 0, 1) := by decide +kernel
theorem d_X11_reads_169 : decode c_X11_reads 169 = .ok (.bipush 32, 2) := by decide +kernel
theorem d_X11_reads_171 : decode c_X11_reads 171 = .ok (.invokevirtual 205, 3) := by decide +kernel
theorem d_X11_reads_174 : decode c_X11_reads 174 = .ok (.ifCond .eq 30, 3) := by decide +kernel
theorem d_X11_reads_177 : decode c_X11_reads 177 = .ok (.aload_n 0, 1) := by decide +kernel
theorem d_X11_reads_178 : decode c_X11_reads 178 = .ok (.bipush 97, 2) := by decide +kernel
theorem d_X11_reads_180 : decode c_X11_reads 180 = .ok (.invokevirtual 205, 3) := by decide +kernel
theorem d_X11_reads_183 : decode c_X11_reads 183 = .ok (.ifCond .eq 21, 3) := by decide +kernel
theorem d_X11_reads_186 : decode c_X11_reads 186 = .ok (.aload_n 0, 1) := by decide +kernel
theorem d_X11_reads_187 : decode c_X11_reads 187 = .ok (.bipush 116, 2) := by decide +kernel
theorem d_X11_reads_189 : decode c_X11_reads 189 = .ok (.invokevirtual 205, 3) := by decide +kernel
theorem d_X11_reads_192 : decode c_X11_reads 192 = .ok (.ifCond .eq 12, 3) := by decide +kernel
theorem d_X11_reads_195 : decode c_X11_reads 195 = .ok (.aload_n 0, 1) := by decide +kernel
theorem d_X11_reads_196 : decode c_X11_reads 196 = .ok (.bipush 32, 2) := by decide +kernel
theorem d_X11_reads_198 : decode c_X11_reads 198 = .ok (.invokevirtual 205, 3) := by decide +kernel
theorem d_X11_reads_201 : decode c_X11_reads 201 = .ok (.ifCond .ne 5, 3) := by decide +kernel
theorem d_X11_reads_204 : decode c_X11_reads 204 = .ok (.iconst 0, 1) := by decide +kernel
theorem d_X11_reads_205 : decode c_X11_reads 205 = .ok (.ireturn, 1) := by decide +kernel
theorem d_X11_reads_206 : decode c_X11_reads 206 = .ok (.iconst 3, 1) := by decide +kernel
theorem d_X11_reads_207 : decode c_X11_reads 207 = .ok (.iload_n 1, 1) := by decide +kernel
theorem d_X11_reads_208 : decode c_X11_reads 208 = .ok (.imul, 1) := by decide +kernel
theorem d_X11_reads_209 : decode c_X11_reads 209 = .ok (.aload_n 0, 1) := by decide +kernel
theorem d_X11_reads_210 : decode c_X11_reads 210 = .ok (.getfield 102, 3) := by decide +kernel
theorem d_X11_reads_213 : decode c_X11_reads 213 = .ok (.iload_n 1, 1) := by decide +kernel
theorem d_X11_reads_214 : decode c_X11_reads 214 = .ok (.iaload, 1) := by decide +kernel
theorem d_X11_reads_215 : decode c_X11_reads 215 = .ok (.iadd, 1) := by decide +kernel
theorem d_X11_reads_216 : decode c_X11_reads 216 = .ok (.istore_n 3, 1) := by decide +kernel
theorem d_X11_reads_217 : decode c_X11_reads 217 = .ok (.aload_n 0, 1) := by decide +kernel
theorem d_X11_reads_218 : decode c_X11_reads 218 = .ok (.getfield 108, 3) := by decide +kernel
theorem d_X11_reads_221 : decode c_X11_reads 221 = .ok (.iload_n 3, 1) := by decide +kernel
theorem d_X11_reads_222 : decode c_X11_reads 222 = .ok (.aload_n 0, 1) := by decide +kernel
theorem d_X11_reads_223 : decode c_X11_reads 223 = .ok (.bipush 60, 2) := by decide +kernel
theorem d_X11_reads_225 : decode c_X11_reads 225 = .ok (.invokevirtual 196, 3) := by decide +kernel
theorem d_X11_reads_228 : decode c_X11_reads 228 = .ok (.bastore, 1) := by decide +kernel
theorem d_X11_reads_229 : decode c_X11_reads 229 = .ok (.aload_n 0, 1) := by decide +kernel
theorem d_X11_reads_230 : decode c_X11_reads 230 = .ok (.bipush 60, 2) := by decide +kernel
theorem d_X11_reads_232 : decode c_X11_reads 232 = .ok (.invokevirtual 205, 3) := by decide +kernel
theorem d_X11_reads_235 : decode c_X11_reads 235 = .ok (.ifCond .ne 12, 3) := by decide +kernel
theorem d_X11_reads_238 : decode c_X11_reads 238 = .ok (.aload_n 0, 1) := by decide +kernel
theorem d_X11_reads_239 : decode c_X11_reads 239 = .ok (.bipush 62, 2) := by decide +kernel
theorem d_X11_reads_241 : decode c_X11_reads 241 = .ok (.invokevirtual 205, 3) := by decide +kernel
theorem d_X11_reads_244 : decode c_X11_reads 244 = .ok (.ifCond .eq 11, 3) := by decide +kernel
theorem d_X11_reads_247 : decode c_X11_reads 247 = .ok (.aload_n 0, 1) := by decide +kernel
theorem d_X11_reads_248 : decode c_X11_reads 248 = .ok (.iconst 3, 1) := by decide +kernel
theorem d_X11_reads_249 : decode c_X11_reads 249 = .ok (.invokevirtual 211, 3) := by decide +kernel
theorem d_X11_reads_252 : decode c_X11_reads 252 = .ok (.ifCond .ne 5, 3) := by decide +kernel
theorem d_X11_reads_255 : decode c_X11_reads 255 = .ok (.iconst 0, 1) := by decide +kernel
theorem d_X11_reads_256 : decode c_X11_reads 256 = .ok (.ireturn, 1) := by decide +kernel
theorem d_X11_reads_257 : decode c_X11_reads 257 = .ok (.aload_n 0, 1) := by decide +kernel
theorem d_X11_reads_258 : decode c_X11_reads 258 = .ok (.getfield 105, 3) := by decide +kernel
theorem d_X11_reads_261 : decode c_X11_reads 261 = .ok (.iload_n 3, 1) := by decide +kernel
theorem d_X11_reads_262 : decode c_X11_reads 262 = .ok (.iload_n 2, 1) := by decide +kernel
theorem d_X11_reads_263 : decode c_X11_reads 263 = .ok (.iastore, 1) := by decide +kernel
theorem d_X11_reads_264 : decode c_X11_reads 264 = .ok (.aload_n 0, 1) := by decide +kernel
theorem d_X11_reads_265 : decode c_X11_reads 265 = .ok (.getfield 112, 3) := by decide +kernel
theorem d_X11_reads_268 : decode c_X11_reads 268 = .ok (.iload_n 3, 1) := by decide +kernel
theorem d_X11_reads_269 : decode c_X11_reads 269 = .ok (.aload_n 0, 1) := by decide +kernel
theorem d_X11_reads_270 : decode c_X11_reads 270 = .ok (.getfield 199, 3) := by decide +kernel
theorem d_X11_reads_273 : decode c_X11_reads 273 = .ok (.iastore, 1) := by decide +kernel
theorem d_X11_reads_274 : decode c_X11_reads 274 = .ok (.aload_n 0, 1) := by decide +kernel
theorem d_X11_reads_275 : decode c_X11_reads 275 = .ok (.getfield 102, 3) := by decide +kernel
theorem d_X11_reads_278 : decode c_X11_reads 278 = .ok (.iload_n 1, 1) := by decide +kernel
theorem d_X11_reads_279 : decode c_X11_reads 279 = .ok (.dup2, 1) := by decide +kernel
theorem d_X11_reads_280 : decode c_X11_reads 280 = .ok (.iaload, 1) := by decide +kernel
theorem d_X11_reads_281 : decode c_X11_reads 281 = .ok (.iconst 1, 1) := by decide +kernel
theorem d_X11_reads_282 : decode c_X11_reads 282 = .ok (.iadd, 1) := by decide +kernel
theorem d_X11_reads_283 : decode c_X11_reads 283 = .ok (.iastore, 1) := by decide +kernel
theorem d_X11_reads_284 : decode c_X11_reads 284 = .ok (.aload_n 0, 1) := by decide +kernel
theorem d_X11_reads_285 : decode c_X11_reads 285 = .ok (.bipush 44, 2) := by decide +kernel
theorem d_X11_reads_287 : decode c_X11_reads 287 = .ok (.invokevirtual 205, 3) := by decide +kernel
theorem d_X11_reads_290 : decode c_X11_reads 290 = .ok (.ifCond .ne 5, 3) := by decide +kernel
theorem d_X11_reads_293 : decode c_X11_reads 293 = .ok (.iconst 0, 1) := by decide +kernel
theorem d_X11_reads_294 : decode c_X11_reads 294 = .ok (.ireturn, 1) := by decide +kernel
theorem d_X11_reads_295 : decode c_X11_reads 295 = .ok (.goto (-172), 3) := by decide +kernel
set_option maxHeartbeats 4000000 in
set_option maxRecDepth 100000 in
theorem ct_X11_reads_400 (l : Launch) (D : va_G) (dA : Nat → ClassId) (ad : Nat → Nat) (v : tV) (hI : Inv v) (od : Int32) (r_od : Rg od 0 7) : Met l m_X11_reads [.code m_X11_reads c_X11_reads 4 (some .boolean)] ({ frames := 4, cells := 0, slots := 0, locals := 103 } : Room) (tP D dA ad v [.ref (ad 400), .int od]) (tQi D dA ad (fun r v' => Inv v' ∧ Kp v v' ∧ Rg r 0 1 ∧ v' 400 34 = v 400 34)) 0 0 (tA ad) := by
  refine tMet (by decide) (Nat.le_of_ble_eq_true rfl) ?_
  intro p e s m below meth c ls X hr hlocks hw hl
  have X : CX p s m ([.ref (ad 400), .int od] : List Value).toArray c c_X11_reads N_X11 4 D dA := X
  have hx := X.1
  have hb := X.2.1
  have hS : va_S (tA ad) s.heap s.heap [] := va_S.rf
  have hl : lv_has ls 4 [(0, .ref (ad 400)), (1, .int od)] := hl
  obtain ⟨g0, hg0⟩ : ∃ g, v 400 34 = g := ⟨_, rfl⟩
  have r_g0 : Rg g0 0 8 := by rw [← hg0]; exact hI 400 34 _ _ rfl
  have LL : ∀ n : Nat, (∀ (m0 : Int32) (v1 : tV) (H : Heap) (locs : List Loc) (ls : Array Slot), (3 - m0.toInt).toNat < n → Rg m0 0 3 → Inv v1 → Kp v v1 → v1 438 od.toNatClampNeg = m0 → v1 400 34 = g0 → tI D dA ad v1 H → va_S (tA ad) s.heap H locs → lv_has ls 4 [(0, .ref (ad 400)), (1, .int od)] → W p l e ({ frames := 4, cells := 0, slots := 0, locals := 103 } : Room) s m ([.ref (ad 400), .int od] : List Value).toArray below meth c H locs 0 0 (MQ below (tQi D dA ad (fun r v' => Inv v' ∧ Kp v v' ∧ Rg r 0 1 ∧ v' 400 34 = v 400 34)) ([.ref (ad 400), .int od] : List Value).toArray s 0 0 (tA ad)) (F0 m 123 ls [])) := by
    intro n
    induction n with
    | zero => intros; omega
    | succ n ih =>
      have ih0 := ih
      intro m0 v1 H locs ls hmu r_m0 hI1 hK1 h_m0 hfx0 hw hS hl
      refine lv_aload_n hx hb d_X11_reads_123 rfl (lv_at hl 0 rfl) ?_
      refine lv_iconst (v := 2) hx hb d_X11_reads_124 (by decide) ?_
      refine r_ci (r_runV (n := 1) (As := [.int 2]) (rest := []) X hw (ct_X11_takesNumber_2 l D dA ad v1 hI1 2 (⟨by decide, by decide⟩ : Rg 2 2 2)) gc_X11_211 (rfl : KD 400 = _) (by decide) rfl (by decide +kernel) ⟨rfl, rfl, Nat.le_of_ble_eq_true rfl, Nat.le_of_ble_eq_true rfl⟩ rfl hl.1 rfl (Nat.le_of_ble_eq_true rfl) ⟨Nat.zero_le _, Nat.zero_le _⟩ d_X11_reads_125) hS (fun x2 v3 H locs hp1 hw hS => ?_)
      obtain ⟨hI4, hK5, hp1, hk6, hF7, hx8⟩ := hp1
      have hK9 : Kp v v3 := Kp.tr hK1 hK5
      have hm10 : v3 438 (od.toNatClampNeg) = m0 := (hF7 438 (od.toNatClampNeg) (by decide)).trans h_m0
      have hm11 : v3 400 (34) = g0 := hk6.trans hfx0
      obtain ⟨x12, ex12⟩ : ∃ z, v3 400 43 = z := ⟨_, rfl⟩
      rw [ex12] at hx8
      refine lv_if_ne (tgt := 133) hx hb d_X11_reads_128 (by decide) (fun c13 => ?_) (fun c13 => ?_)
      · have f14 := i_ne c13
        have r15 : Rg x2 1 1 := by obtain ⟨a1, a2⟩ := hp1; obtain ⟨b1, b2⟩ := (⟨by decide, by decide⟩ : Rg 0 0 0); have f := i_ne c13; exact ⟨by omega, by omega⟩
        refine lv_aload_n hx hb d_X11_reads_133 rfl (lv_at hl 0 rfl) ?_
        refine r_geti X hw FL_X11_199 (rfl : KD 400 = _) rfl d_X11_reads_134 ?_
        rw [ex12]
        refine lv_istore_n (lv' := [(2, .int x12), (0, .ref (ad 400)), (1, .int od)]) hx hb d_X11_reads_137 rfl hl (by decide) rfl (fun ls hl => ?_)
        refine lv_aload_n hx hb d_X11_reads_138 rfl (lv_at hl 1 rfl) ?_
        refine r_geti X hw FL_X11_193 (rfl : KD 400 = _) rfl d_X11_reads_139 ?_
        refine lv_topi (fun x16 ex16 => ?_)
        have r17 : Rg x16 0 120 := by rw [ex16]; exact hI4 _ _ _ _ rfl
        have hm18 : v3 400 42 = x16 := ex16.symm
        refine lv_aload_n hx hb d_X11_reads_142 rfl (lv_at hl 1 rfl) ?_
        refine r_geti X hw FL_X11_190 (rfl : KD 400 = _) rfl d_X11_reads_143 ?_
        refine lv_topi (fun x19 ex19 => ?_)
        have r20 : Rg x19 0 120 := by rw [ex19]; exact hI4 _ _ _ _ rfl
        have hm21 : v3 400 33 = x19 := ex19.symm
        refine lv_icmp_ne (tgt := 158) hx hb d_X11_reads_146 (by decide) (fun c22 => ?_) (fun c22 => ?_)
        · have f23 := i_ne c22
          refine lv_aload_n hx hb d_X11_reads_158 rfl (lv_at hl 1 rfl) ?_
          refine r_getr (r := 438) X hw FL_X11_102 (rfl : KD 400 = _) rfl d_X11_reads_159 ?_
          refine lv_iload_n hx hb d_X11_reads_162 rfl (lv_at hl 2 rfl) ?_
          refine r_iald X hw (rfl : KD 438 = _) (Rg.vp (b := 7) r_od (by decide)) rfl d_X11_reads_163 ?_
          rw [hm10]
          refine lv_iconst (v := 3) hx hb d_X11_reads_164 (by decide) ?_
          refine lv_icmp_eq (tgt := 204) hx hb d_X11_reads_165 (by decide) (fun c24 => ?_) (fun c24 => ?_)
          · have f25 := i_eq c24
            have r26 : Rg m0 3 3 := by obtain ⟨a1, a2⟩ := r_m0; obtain ⟨b1, b2⟩ := (⟨by decide, by decide⟩ : Rg 3 3 3); have f := i_eq c24; exact ⟨by omega, by omega⟩
            refine lv_iconst (v := 0) hx hb d_X11_reads_204 (by decide) ?_
            exact r_zret X hr hlocks hw hS rfl ⟨hI4, hK9, (rg_w (⟨by decide, by decide⟩ : Rg 0 0 0) (by decide) (by decide)), (hm11.trans hg0.symm)⟩ d_X11_reads_205
          · have f27 := i_ne c24
            have r28 : Rg m0 0 2 := by obtain ⟨a1, a2⟩ := r_m0; obtain ⟨b1, b2⟩ := (⟨by decide, by decide⟩ : Rg 3 3 3); have f := i_ne c24; exact ⟨by omega, by omega⟩
            refine lv_aload_n hx hb d_X11_reads_168 rfl (lv_at hl 1 rfl) ?_
            refine lv_bipush (v := 32) hx hb d_X11_reads_169 (by decide) ?_
            refine r_ci (r_runV (n := 1) (As := [.int 32]) (rest := []) X hw (ct_X11_takes_400 l D dA ad v3 hI4 32) gc_X11_205 (rfl : KD 400 = _) (by decide) rfl (by decide +kernel) ⟨rfl, rfl, Nat.le_of_ble_eq_true rfl, Nat.le_of_ble_eq_true rfl⟩ rfl hl.1 rfl (Nat.le_of_ble_eq_true rfl) ⟨Nat.zero_le _, Nat.zero_le _⟩ d_X11_reads_171) hS (fun x30 v31 H locs hp29 hw hS => ?_)
            obtain ⟨hI32, hK33, hp29, hk34, hF35⟩ := hp29
            have hK36 : Kp v v31 := Kp.tr hK9 hK33
            have hm37 : v31 438 (od.toNatClampNeg) = m0 := (hF35 438 (od.toNatClampNeg) (by decide)).trans hm10
            have hm38 : v31 400 (34) = g0 := hk34.trans hm11
            refine lv_if_eq (tgt := 204) hx hb d_X11_reads_174 (by decide) (fun c39 => ?_) (fun c39 => ?_)
            · have f40 := i_eq c39
              have r41 : Rg x30 0 0 := by obtain ⟨a1, a2⟩ := hp29; obtain ⟨b1, b2⟩ := (⟨by decide, by decide⟩ : Rg 0 0 0); have f := i_eq c39; exact ⟨by omega, by omega⟩
              refine lv_iconst (v := 0) hx hb d_X11_reads_204 (by decide) ?_
              exact r_zret X hr hlocks hw hS rfl ⟨hI32, hK36, (rg_w (⟨by decide, by decide⟩ : Rg 0 0 0) (by decide) (by decide)), (hm38.trans hg0.symm)⟩ d_X11_reads_205
            · have f42 := i_ne c39
              have r43 : Rg x30 1 1 := by obtain ⟨a1, a2⟩ := hp29; obtain ⟨b1, b2⟩ := (⟨by decide, by decide⟩ : Rg 0 0 0); have f := i_ne c39; exact ⟨by omega, by omega⟩
              refine lv_aload_n hx hb d_X11_reads_177 rfl (lv_at hl 1 rfl) ?_
              refine lv_bipush (v := 97) hx hb d_X11_reads_178 (by decide) ?_
              refine r_ci (r_runV (n := 1) (As := [.int 97]) (rest := []) X hw (ct_X11_takes_400 l D dA ad v31 hI32 97) gc_X11_205 (rfl : KD 400 = _) (by decide) rfl (by decide +kernel) ⟨rfl, rfl, Nat.le_of_ble_eq_true rfl, Nat.le_of_ble_eq_true rfl⟩ rfl hl.1 rfl (Nat.le_of_ble_eq_true rfl) ⟨Nat.zero_le _, Nat.zero_le _⟩ d_X11_reads_180) hS (fun x45 v46 H locs hp44 hw hS => ?_)
              obtain ⟨hI47, hK48, hp44, hk49, hF50⟩ := hp44
              have hK51 : Kp v v46 := Kp.tr hK36 hK48
              have hm52 : v46 438 (od.toNatClampNeg) = m0 := (hF50 438 (od.toNatClampNeg) (by decide)).trans hm37
              have hm53 : v46 400 (34) = g0 := hk49.trans hm38
              refine lv_if_eq (tgt := 204) hx hb d_X11_reads_183 (by decide) (fun c54 => ?_) (fun c54 => ?_)
              · have f55 := i_eq c54
                have r56 : Rg x45 0 0 := by obtain ⟨a1, a2⟩ := hp44; obtain ⟨b1, b2⟩ := (⟨by decide, by decide⟩ : Rg 0 0 0); have f := i_eq c54; exact ⟨by omega, by omega⟩
                refine lv_iconst (v := 0) hx hb d_X11_reads_204 (by decide) ?_
                exact r_zret X hr hlocks hw hS rfl ⟨hI47, hK51, (rg_w (⟨by decide, by decide⟩ : Rg 0 0 0) (by decide) (by decide)), (hm53.trans hg0.symm)⟩ d_X11_reads_205
              · have f57 := i_ne c54
                have r58 : Rg x45 1 1 := by obtain ⟨a1, a2⟩ := hp44; obtain ⟨b1, b2⟩ := (⟨by decide, by decide⟩ : Rg 0 0 0); have f := i_ne c54; exact ⟨by omega, by omega⟩
                refine lv_aload_n hx hb d_X11_reads_186 rfl (lv_at hl 1 rfl) ?_
                refine lv_bipush (v := 116) hx hb d_X11_reads_187 (by decide) ?_
                refine r_ci (r_runV (n := 1) (As := [.int 116]) (rest := []) X hw (ct_X11_takes_400 l D dA ad v46 hI47 116) gc_X11_205 (rfl : KD 400 = _) (by decide) rfl (by decide +kernel) ⟨rfl, rfl, Nat.le_of_ble_eq_true rfl, Nat.le_of_ble_eq_true rfl⟩ rfl hl.1 rfl (Nat.le_of_ble_eq_true rfl) ⟨Nat.zero_le _, Nat.zero_le _⟩ d_X11_reads_189) hS (fun x60 v61 H locs hp59 hw hS => ?_)
                obtain ⟨hI62, hK63, hp59, hk64, hF65⟩ := hp59
                have hK66 : Kp v v61 := Kp.tr hK51 hK63
                have hm67 : v61 438 (od.toNatClampNeg) = m0 := (hF65 438 (od.toNatClampNeg) (by decide)).trans hm52
                have hm68 : v61 400 (34) = g0 := hk64.trans hm53
                refine lv_if_eq (tgt := 204) hx hb d_X11_reads_192 (by decide) (fun c69 => ?_) (fun c69 => ?_)
                · have f70 := i_eq c69
                  have r71 : Rg x60 0 0 := by obtain ⟨a1, a2⟩ := hp59; obtain ⟨b1, b2⟩ := (⟨by decide, by decide⟩ : Rg 0 0 0); have f := i_eq c69; exact ⟨by omega, by omega⟩
                  refine lv_iconst (v := 0) hx hb d_X11_reads_204 (by decide) ?_
                  exact r_zret X hr hlocks hw hS rfl ⟨hI62, hK66, (rg_w (⟨by decide, by decide⟩ : Rg 0 0 0) (by decide) (by decide)), (hm68.trans hg0.symm)⟩ d_X11_reads_205
                · have f72 := i_ne c69
                  have r73 : Rg x60 1 1 := by obtain ⟨a1, a2⟩ := hp59; obtain ⟨b1, b2⟩ := (⟨by decide, by decide⟩ : Rg 0 0 0); have f := i_ne c69; exact ⟨by omega, by omega⟩
                  refine lv_aload_n hx hb d_X11_reads_195 rfl (lv_at hl 1 rfl) ?_
                  refine lv_bipush (v := 32) hx hb d_X11_reads_196 (by decide) ?_
                  refine r_ci (r_runV (n := 1) (As := [.int 32]) (rest := []) X hw (ct_X11_takes_400 l D dA ad v61 hI62 32) gc_X11_205 (rfl : KD 400 = _) (by decide) rfl (by decide +kernel) ⟨rfl, rfl, Nat.le_of_ble_eq_true rfl, Nat.le_of_ble_eq_true rfl⟩ rfl hl.1 rfl (Nat.le_of_ble_eq_true rfl) ⟨Nat.zero_le _, Nat.zero_le _⟩ d_X11_reads_198) hS (fun x75 v76 H locs hp74 hw hS => ?_)
                  obtain ⟨hI77, hK78, hp74, hk79, hF80⟩ := hp74
                  have hK81 : Kp v v76 := Kp.tr hK66 hK78
                  have hm82 : v76 438 (od.toNatClampNeg) = m0 := (hF80 438 (od.toNatClampNeg) (by decide)).trans hm67
                  have hm83 : v76 400 (34) = g0 := hk79.trans hm68
                  refine lv_if_ne (tgt := 206) hx hb d_X11_reads_201 (by decide) (fun c84 => ?_) (fun c84 => ?_)
                  · have f85 := i_ne c84
                    have r86 : Rg x75 1 1 := by obtain ⟨a1, a2⟩ := hp74; obtain ⟨b1, b2⟩ := (⟨by decide, by decide⟩ : Rg 0 0 0); have f := i_ne c84; exact ⟨by omega, by omega⟩
                    refine lv_iconst (v := 3) hx hb d_X11_reads_206 (by decide) ?_
                    refine lv_iload_n hx hb d_X11_reads_207 rfl (lv_at hl 2 rfl) ?_
                    refine lv_imul hx hb d_X11_reads_208 ?_
                    refine lv_topi (fun x87 ex87 => ?_)
                    have r88 : Rg x87 0 21 := rg_mulc ex87 (⟨by decide, by decide⟩ : Rg 3 3 3) r_od (by decide) (by decide) (by decide)
                    have s89 : x87.toInt = 3 * od.toInt := rg_mule ex87 r_od rfl (by decide) (by decide)
                    refine lv_aload_n hx hb d_X11_reads_209 rfl (lv_at hl 1 rfl) ?_
                    refine r_getr (r := 438) X hw FL_X11_102 (rfl : KD 400 = _) rfl d_X11_reads_210 ?_
                    refine lv_iload_n hx hb d_X11_reads_213 rfl (lv_at hl 2 rfl) ?_
                    refine r_iald X hw (rfl : KD 438 = _) (Rg.vp (b := 7) r_od (by decide)) rfl d_X11_reads_214 ?_
                    rw [hm82]
                    refine lv_iadd hx hb d_X11_reads_215 ?_
                    refine lv_topi (fun x90 ex90 => ?_)
                    have r91 : Rg x90 0 23 := rg_add ex90 r88 r28 (by decide) (by decide)
                    have s92 : x90.toInt = x87.toInt + (m0 : Int32).toInt := by rw [ex90]; exact i_add (by obtain ⟨_, _⟩ := r88; obtain ⟨_, _⟩ := r28; omega) (by obtain ⟨_, _⟩ := r88; obtain ⟨_, _⟩ := r28; omega)
                    refine lv_istore_n (lv' := [(3, .int x90), (2, .int x12), (0, .ref (ad 400)), (1, .int od)]) hx hb d_X11_reads_216 rfl hl (by decide) rfl (fun ls hl => ?_)
                    refine lv_aload_n hx hb d_X11_reads_217 rfl (lv_at hl 2 rfl) ?_
                    refine r_getr (r := 440) X hw FL_X11_108 (rfl : KD 400 = _) rfl d_X11_reads_218 ?_
                    refine lv_iload_n hx hb d_X11_reads_221 rfl (lv_at hl 0 rfl) ?_
                    refine lv_aload_n hx hb d_X11_reads_222 rfl (lv_at hl 2 rfl) ?_
                    refine lv_bipush (v := 60) hx hb d_X11_reads_223 (by decide) ?_
                    refine r_ci (r_runV (n := 1) (As := [.int 60]) (rest := [.int x90, .ref (ad 440)]) X hw (ct_X11_has_400 l D dA ad v76 hI77 60) gc_X11_196 (rfl : KD 400 = _) (by decide) rfl (by decide +kernel) ⟨rfl, rfl, Nat.le_of_ble_eq_true rfl, Nat.le_of_ble_eq_true rfl⟩ rfl hl.1 rfl (Nat.le_of_ble_eq_true rfl) ⟨Nat.zero_le _, Nat.zero_le _⟩ d_X11_reads_225) hS (fun x94 v95 H locs hp93 hw hS => ?_)
                    obtain ⟨ev95, hp93⟩ := hp93
                    rw [ev95] at hw
                    rcases hp93 with ⟨rfl, w96a⟩ | rfl
                    · skip
                      obtain ⟨x97, ex97⟩ : ∃ z, v76 400 42 = z := ⟨_, rfl⟩
                      have r98 : Rg x97 0 119 := by have q := hI77 400 42 0 120 rfl; obtain ⟨_, _⟩ := q; rw [ex97] at *; exact ⟨by omega, by omega⟩
                      refine r_zast (y := 1)  X hw hS (rfl : KD 440 = _) (Rg.vp (b := 23) r91 (by decide)) rfl rfl d_X11_reads_228 (fun H locs hw hS => ?_)
                      obtain ⟨v99, ev99⟩ : ∃ z, z = up2 v76 440 x90.toNatClampNeg 1 := ⟨_, rfl⟩
                      rw [← ev99] at hw
                      have hI100 : Inv v99 := by rw [ev99]; exact Inv.put0 hI77 _ rfl
                      have hK101 : Kp v v99 := by rw [ev99]; exact Kp.put hK81 _ rfl
                      have hm102 : v99 438 od.toNatClampNeg = m0 := by rw [ev99, up2_n _ _ (by omega)]; exact hm82
                      have hm103 : v99 400 34 = g0 := by rw [ev99, up2_n _ _ (by omega)]; exact hm83
                      have hm104 : v99 400 42 = x97 := by rw [ev99, up2_n _ _ (by omega)]; exact ex97
                      refine lv_aload_n hx hb d_X11_reads_229 rfl (lv_at hl 2 rfl) ?_
                      refine lv_bipush (v := 60) hx hb d_X11_reads_230 (by decide) ?_
                      refine r_ci (r_runV (n := 1) (As := [.int 60]) (rest := []) X hw (ct_X11_takes_400 l D dA ad v99 hI100 60) gc_X11_205 (rfl : KD 400 = _) (by decide) rfl (by decide +kernel) ⟨rfl, rfl, Nat.le_of_ble_eq_true rfl, Nat.le_of_ble_eq_true rfl⟩ rfl hl.1 rfl (Nat.le_of_ble_eq_true rfl) ⟨Nat.zero_le _, Nat.zero_le _⟩ d_X11_reads_232) hS (fun x106 v107 H locs hp105 hw hS => ?_)
                      obtain ⟨hI108, hK109, hp105, hk110, hF111⟩ := hp105
                      have hK112 : Kp v v107 := Kp.tr hK101 hK109
                      have hm113 : v107 438 (od.toNatClampNeg) = m0 := (hF111 438 (od.toNatClampNeg) (by decide)).trans hm102
                      have hm114 : v107 400 (34) = g0 := hk110.trans hm103
                      refine lv_if_ne (tgt := 247) hx hb d_X11_reads_235 (by decide) (fun c115 => ?_) (fun c115 => ?_)
                      · have f116 := i_ne c115
                        have r117 : Rg x106 1 1 := by obtain ⟨a1, a2⟩ := hp105; obtain ⟨b1, b2⟩ := (⟨by decide, by decide⟩ : Rg 0 0 0); have f := i_ne c115; exact ⟨by omega, by omega⟩
                        refine lv_aload_n hx hb d_X11_reads_247 rfl (lv_at hl 2 rfl) ?_
                        refine lv_iconst (v := 3) hx hb d_X11_reads_248 (by decide) ?_
                        refine r_ci (r_runV (n := 1) (As := [.int 3]) (rest := []) X hw (ct_X11_takesNumber_3 l D dA ad v107 hI108 3 (⟨by decide, by decide⟩ : Rg 3 3 3)) gc_X11_211 (rfl : KD 400 = _) (by decide) rfl (by decide +kernel) ⟨rfl, rfl, Nat.le_of_ble_eq_true rfl, Nat.le_of_ble_eq_true rfl⟩ rfl hl.1 rfl (Nat.le_of_ble_eq_true rfl) ⟨Nat.zero_le _, Nat.zero_le _⟩ d_X11_reads_249) hS (fun x119 v120 H locs hp118 hw hS => ?_)
                        obtain ⟨hI121, hK122, hp118, hk123, hF124, hx125⟩ := hp118
                        have hK126 : Kp v v120 := Kp.tr hK112 hK122
                        have hm127 : v120 438 (od.toNatClampNeg) = m0 := (hF124 438 (od.toNatClampNeg) (by decide)).trans hm113
                        have hm128 : v120 400 (34) = g0 := hk123.trans hm114
                        obtain ⟨x129, ex129⟩ : ∃ z, v120 400 43 = z := ⟨_, rfl⟩
                        rw [ex129] at hx125
                        refine lv_if_ne (tgt := 257) hx hb d_X11_reads_252 (by decide) (fun c130 => ?_) (fun c130 => ?_)
                        · have f131 := i_ne c130
                          have r132 : Rg x119 1 1 := by obtain ⟨a1, a2⟩ := hp118; obtain ⟨b1, b2⟩ := (⟨by decide, by decide⟩ : Rg 0 0 0); have f := i_ne c130; exact ⟨by omega, by omega⟩
                          refine lv_aload_n hx hb d_X11_reads_257 rfl (lv_at hl 2 rfl) ?_
                          refine r_getr (r := 439) X hw FL_X11_105 (rfl : KD 400 = _) rfl d_X11_reads_258 ?_
                          refine lv_iload_n hx hb d_X11_reads_261 rfl (lv_at hl 0 rfl) ?_
                          refine lv_iload_n hx hb d_X11_reads_262 rfl (lv_at hl 1 rfl) ?_
                          refine r_iast X hw hS (rfl : KD 439 = _) (Rg.vp (b := 23) r91 (by decide)) rfl d_X11_reads_263 (fun H locs hw hS => ?_)
                          obtain ⟨v133, ev133⟩ : ∃ z, z = up2 v120 439 x90.toNatClampNeg x12 := ⟨_, rfl⟩
                          rw [← ev133] at hw
                          have hI134 : Inv v133 := by rw [ev133]; exact Inv.putr hI121 rfl hx8
                          have hK135 : Kp v v133 := by rw [ev133]; exact Kp.put hK126 _ rfl
                          have hm136 : v133 438 od.toNatClampNeg = m0 := by rw [ev133, up2_n _ _ (by omega)]; exact hm127
                          have hm137 : v133 400 34 = g0 := by rw [ev133, up2_n _ _ (by omega)]; exact hm128
                          have hm138 : v133 400 43 = x129 := by rw [ev133, up2_n _ _ (by omega)]; exact ex129
                          refine lv_aload_n hx hb d_X11_reads_264 rfl (lv_at hl 2 rfl) ?_
                          refine r_getr (r := 441) X hw FL_X11_112 (rfl : KD 400 = _) rfl d_X11_reads_265 ?_
                          refine lv_iload_n hx hb d_X11_reads_268 rfl (lv_at hl 0 rfl) ?_
                          refine lv_aload_n hx hb d_X11_reads_269 rfl (lv_at hl 2 rfl) ?_
                          refine r_geti X hw FL_X11_199 (rfl : KD 400 = _) rfl d_X11_reads_270 ?_
                          rw [hm138]
                          refine r_iast X hw hS (rfl : KD 441 = _) (Rg.vp (b := 23) r91 (by decide)) rfl d_X11_reads_273 (fun H locs hw hS => ?_)
                          obtain ⟨v139, ev139⟩ : ∃ z, z = up2 v133 441 x90.toNatClampNeg x129 := ⟨_, rfl⟩
                          rw [← ev139] at hw
                          have hI140 : Inv v139 := by rw [ev139]; exact Inv.put0 hI134 _ rfl
                          have hK141 : Kp v v139 := by rw [ev139]; exact Kp.put hK135 _ rfl
                          have hm142 : v139 438 od.toNatClampNeg = m0 := by rw [ev139, up2_n _ _ (by omega)]; exact hm136
                          have hm143 : v139 400 34 = g0 := by rw [ev139, up2_n _ _ (by omega)]; exact hm137
                          have hm144 : v139 400 43 = x129 := by rw [ev139, up2_n _ _ (by omega)]; exact hm138
                          refine lv_aload_n hx hb d_X11_reads_274 rfl (lv_at hl 2 rfl) ?_
                          refine r_getr (r := 438) X hw FL_X11_102 (rfl : KD 400 = _) rfl d_X11_reads_275 ?_
                          refine lv_iload_n hx hb d_X11_reads_278 rfl (lv_at hl 3 rfl) ?_
                          refine lv_dup2_11 hx hb d_X11_reads_279 rfl rfl ?_
                          refine r_iald X hw (rfl : KD 438 = _) (Rg.vp (b := 7) r_od (by decide)) rfl d_X11_reads_280 ?_
                          rw [hm142]
                          refine lv_iconst (v := 1) hx hb d_X11_reads_281 (by decide) ?_
                          refine lv_iadd hx hb d_X11_reads_282 ?_
                          refine lv_topi (fun x145 ex145 => ?_)
                          have r146 : Rg x145 1 3 := rg_add ex145 r28 (⟨by decide, by decide⟩ : Rg 1 1 1) (by decide) (by decide)
                          have s147 : x145.toInt = m0.toInt + (1 : Int32).toInt := by rw [ex145]; exact i_add (by obtain ⟨_, _⟩ := r28; obtain ⟨_, _⟩ := (⟨by decide, by decide⟩ : Rg 1 1 1); omega) (by obtain ⟨_, _⟩ := r28; obtain ⟨_, _⟩ := (⟨by decide, by decide⟩ : Rg 1 1 1); omega)
                          have s147l : (1 : Int32).toInt = 1 := rfl
                          refine r_iast X hw hS (rfl : KD 438 = _) (Rg.vp (b := 7) r_od (by decide)) rfl d_X11_reads_283 (fun H locs hw hS => ?_)
                          obtain ⟨v148, ev148⟩ : ∃ z, z = up2 v139 438 od.toNatClampNeg x145 := ⟨_, rfl⟩
                          rw [← ev148] at hw
                          have hI149 : Inv v148 := by rw [ev148]; exact Inv.putr hI140 rfl (rg_w r146 (by decide) (by decide))
                          have hK150 : Kp v v148 := by rw [ev148]; exact Kp.put hK141 _ rfl
                          have hm151 : v148 400 34 = g0 := by rw [ev148, up2_n _ _ (by omega)]; exact hm143
                          have hm152 : v148 400 43 = x129 := by rw [ev148, up2_n _ _ (by omega)]; exact hm144
                          have hm153 : v148 438 od.toNatClampNeg = x145 := by rw [ev148, up2_s]
                          refine lv_aload_n hx hb d_X11_reads_284 rfl (lv_at hl 2 rfl) ?_
                          refine lv_bipush (v := 44) hx hb d_X11_reads_285 (by decide) ?_
                          refine r_ci (r_runV (n := 1) (As := [.int 44]) (rest := []) X hw (ct_X11_takes_400 l D dA ad v148 hI149 44) gc_X11_205 (rfl : KD 400 = _) (by decide) rfl (by decide +kernel) ⟨rfl, rfl, Nat.le_of_ble_eq_true rfl, Nat.le_of_ble_eq_true rfl⟩ rfl hl.1 rfl (Nat.le_of_ble_eq_true rfl) ⟨Nat.zero_le _, Nat.zero_le _⟩ d_X11_reads_287) hS (fun x155 v156 H locs hp154 hw hS => ?_)
                          obtain ⟨hI157, hK158, hp154, hk159, hF160⟩ := hp154
                          have hK161 : Kp v v156 := Kp.tr hK150 hK158
                          have hm162 : v156 400 (34) = g0 := hk159.trans hm151
                          have hm163 : v156 438 (od.toNatClampNeg) = x145 := (hF160 438 (od.toNatClampNeg) (by decide)).trans hm153
                          refine lv_if_ne (tgt := 295) hx hb d_X11_reads_290 (by decide) (fun c164 => ?_) (fun c164 => ?_)
                          · have f165 := i_ne c164
                            have r166 : Rg x155 1 1 := by obtain ⟨a1, a2⟩ := hp154; obtain ⟨b1, b2⟩ := (⟨by decide, by decide⟩ : Rg 0 0 0); have f := i_ne c164; exact ⟨by omega, by omega⟩
                            refine lv_goto (tgt := 123) hx hb d_X11_reads_295 (by decide) ?_
                            exact ih0 x145 v156 _ _ _ (by have := s89; have := s92; have := s147; omega) (rg_w r146 (by decide) (by decide)) hI157 hK161 hm163 hm162 hw hS (lv_sub hl [2, 3] rfl)
                          · have f167 := i_eq c164
                            have r168 : Rg x155 0 0 := by obtain ⟨a1, a2⟩ := hp154; obtain ⟨b1, b2⟩ := (⟨by decide, by decide⟩ : Rg 0 0 0); have f := i_eq c164; exact ⟨by omega, by omega⟩
                            refine lv_iconst (v := 0) hx hb d_X11_reads_293 (by decide) ?_
                            exact r_zret X hr hlocks hw hS rfl ⟨hI157, hK161, (rg_w (⟨by decide, by decide⟩ : Rg 0 0 0) (by decide) (by decide)), (hm162.trans hg0.symm)⟩ d_X11_reads_294
                        · have f169 := i_eq c130
                          have r170 : Rg x119 0 0 := by obtain ⟨a1, a2⟩ := hp118; obtain ⟨b1, b2⟩ := (⟨by decide, by decide⟩ : Rg 0 0 0); have f := i_eq c130; exact ⟨by omega, by omega⟩
                          refine lv_iconst (v := 0) hx hb d_X11_reads_255 (by decide) ?_
                          exact r_zret X hr hlocks hw hS rfl ⟨hI121, hK126, (rg_w (⟨by decide, by decide⟩ : Rg 0 0 0) (by decide) (by decide)), (hm128.trans hg0.symm)⟩ d_X11_reads_256
                      · have f171 := i_eq c115
                        have r172 : Rg x106 0 0 := by obtain ⟨a1, a2⟩ := hp105; obtain ⟨b1, b2⟩ := (⟨by decide, by decide⟩ : Rg 0 0 0); have f := i_eq c115; exact ⟨by omega, by omega⟩
                        refine lv_aload_n hx hb d_X11_reads_238 rfl (lv_at hl 2 rfl) ?_
                        refine lv_bipush (v := 62) hx hb d_X11_reads_239 (by decide) ?_
                        refine r_ci (r_runV (n := 1) (As := [.int 62]) (rest := []) X hw (ct_X11_takes_400 l D dA ad v107 hI108 62) gc_X11_205 (rfl : KD 400 = _) (by decide) rfl (by decide +kernel) ⟨rfl, rfl, Nat.le_of_ble_eq_true rfl, Nat.le_of_ble_eq_true rfl⟩ rfl hl.1 rfl (Nat.le_of_ble_eq_true rfl) ⟨Nat.zero_le _, Nat.zero_le _⟩ d_X11_reads_241) hS (fun x174 v175 H locs hp173 hw hS => ?_)
                        obtain ⟨hI176, hK177, hp173, hk178, hF179⟩ := hp173
                        have hK180 : Kp v v175 := Kp.tr hK112 hK177
                        have hm181 : v175 438 (od.toNatClampNeg) = m0 := (hF179 438 (od.toNatClampNeg) (by decide)).trans hm113
                        have hm182 : v175 400 (34) = g0 := hk178.trans hm114
                        refine lv_if_eq (tgt := 255) hx hb d_X11_reads_244 (by decide) (fun c183 => ?_) (fun c183 => ?_)
                        · have f184 := i_eq c183
                          have r185 : Rg x174 0 0 := by obtain ⟨a1, a2⟩ := hp173; obtain ⟨b1, b2⟩ := (⟨by decide, by decide⟩ : Rg 0 0 0); have f := i_eq c183; exact ⟨by omega, by omega⟩
                          refine lv_iconst (v := 0) hx hb d_X11_reads_255 (by decide) ?_
                          exact r_zret X hr hlocks hw hS rfl ⟨hI176, hK180, (rg_w (⟨by decide, by decide⟩ : Rg 0 0 0) (by decide) (by decide)), (hm182.trans hg0.symm)⟩ d_X11_reads_256
                        · have f186 := i_ne c183
                          have r187 : Rg x174 1 1 := by obtain ⟨a1, a2⟩ := hp173; obtain ⟨b1, b2⟩ := (⟨by decide, by decide⟩ : Rg 0 0 0); have f := i_ne c183; exact ⟨by omega, by omega⟩
                          refine lv_aload_n hx hb d_X11_reads_247 rfl (lv_at hl 2 rfl) ?_
                          refine lv_iconst (v := 3) hx hb d_X11_reads_248 (by decide) ?_
                          refine r_ci (r_runV (n := 1) (As := [.int 3]) (rest := []) X hw (ct_X11_takesNumber_3 l D dA ad v175 hI176 3 (⟨by decide, by decide⟩ : Rg 3 3 3)) gc_X11_211 (rfl : KD 400 = _) (by decide) rfl (by decide +kernel) ⟨rfl, rfl, Nat.le_of_ble_eq_true rfl, Nat.le_of_ble_eq_true rfl⟩ rfl hl.1 rfl (Nat.le_of_ble_eq_true rfl) ⟨Nat.zero_le _, Nat.zero_le _⟩ d_X11_reads_249) hS (fun x189 v190 H locs hp188 hw hS => ?_)
                          obtain ⟨hI191, hK192, hp188, hk193, hF194, hx195⟩ := hp188
                          have hK196 : Kp v v190 := Kp.tr hK180 hK192
                          have hm197 : v190 438 (od.toNatClampNeg) = m0 := (hF194 438 (od.toNatClampNeg) (by decide)).trans hm181
                          have hm198 : v190 400 (34) = g0 := hk193.trans hm182
                          obtain ⟨x199, ex199⟩ : ∃ z, v190 400 43 = z := ⟨_, rfl⟩
                          rw [ex199] at hx195
                          refine lv_if_ne (tgt := 257) hx hb d_X11_reads_252 (by decide) (fun c200 => ?_) (fun c200 => ?_)
                          · have f201 := i_ne c200
                            have r202 : Rg x189 1 1 := by obtain ⟨a1, a2⟩ := hp188; obtain ⟨b1, b2⟩ := (⟨by decide, by decide⟩ : Rg 0 0 0); have f := i_ne c200; exact ⟨by omega, by omega⟩
                            refine lv_aload_n hx hb d_X11_reads_257 rfl (lv_at hl 2 rfl) ?_
                            refine r_getr (r := 439) X hw FL_X11_105 (rfl : KD 400 = _) rfl d_X11_reads_258 ?_
                            refine lv_iload_n hx hb d_X11_reads_261 rfl (lv_at hl 0 rfl) ?_
                            refine lv_iload_n hx hb d_X11_reads_262 rfl (lv_at hl 1 rfl) ?_
                            refine r_iast X hw hS (rfl : KD 439 = _) (Rg.vp (b := 23) r91 (by decide)) rfl d_X11_reads_263 (fun H locs hw hS => ?_)
                            obtain ⟨v203, ev203⟩ : ∃ z, z = up2 v190 439 x90.toNatClampNeg x12 := ⟨_, rfl⟩
                            rw [← ev203] at hw
                            have hI204 : Inv v203 := by rw [ev203]; exact Inv.putr hI191 rfl hx8
                            have hK205 : Kp v v203 := by rw [ev203]; exact Kp.put hK196 _ rfl
                            have hm206 : v203 438 od.toNatClampNeg = m0 := by rw [ev203, up2_n _ _ (by omega)]; exact hm197
                            have hm207 : v203 400 34 = g0 := by rw [ev203, up2_n _ _ (by omega)]; exact hm198
                            have hm208 : v203 400 43 = x199 := by rw [ev203, up2_n _ _ (by omega)]; exact ex199
                            refine lv_aload_n hx hb d_X11_reads_264 rfl (lv_at hl 2 rfl) ?_
                            refine r_getr (r := 441) X hw FL_X11_112 (rfl : KD 400 = _) rfl d_X11_reads_265 ?_
                            refine lv_iload_n hx hb d_X11_reads_268 rfl (lv_at hl 0 rfl) ?_
                            refine lv_aload_n hx hb d_X11_reads_269 rfl (lv_at hl 2 rfl) ?_
                            refine r_geti X hw FL_X11_199 (rfl : KD 400 = _) rfl d_X11_reads_270 ?_
                            rw [hm208]
                            refine r_iast X hw hS (rfl : KD 441 = _) (Rg.vp (b := 23) r91 (by decide)) rfl d_X11_reads_273 (fun H locs hw hS => ?_)
                            obtain ⟨v209, ev209⟩ : ∃ z, z = up2 v203 441 x90.toNatClampNeg x199 := ⟨_, rfl⟩
                            rw [← ev209] at hw
                            have hI210 : Inv v209 := by rw [ev209]; exact Inv.put0 hI204 _ rfl
                            have hK211 : Kp v v209 := by rw [ev209]; exact Kp.put hK205 _ rfl
                            have hm212 : v209 438 od.toNatClampNeg = m0 := by rw [ev209, up2_n _ _ (by omega)]; exact hm206
                            have hm213 : v209 400 34 = g0 := by rw [ev209, up2_n _ _ (by omega)]; exact hm207
                            have hm214 : v209 400 43 = x199 := by rw [ev209, up2_n _ _ (by omega)]; exact hm208
                            refine lv_aload_n hx hb d_X11_reads_274 rfl (lv_at hl 2 rfl) ?_
                            refine r_getr (r := 438) X hw FL_X11_102 (rfl : KD 400 = _) rfl d_X11_reads_275 ?_
                            refine lv_iload_n hx hb d_X11_reads_278 rfl (lv_at hl 3 rfl) ?_
                            refine lv_dup2_11 hx hb d_X11_reads_279 rfl rfl ?_
                            refine r_iald X hw (rfl : KD 438 = _) (Rg.vp (b := 7) r_od (by decide)) rfl d_X11_reads_280 ?_
                            rw [hm212]
                            refine lv_iconst (v := 1) hx hb d_X11_reads_281 (by decide) ?_
                            refine lv_iadd hx hb d_X11_reads_282 ?_
                            refine lv_topi (fun x215 ex215 => ?_)
                            have r216 : Rg x215 1 3 := rg_add ex215 r28 (⟨by decide, by decide⟩ : Rg 1 1 1) (by decide) (by decide)
                            have s217 : x215.toInt = m0.toInt + (1 : Int32).toInt := by rw [ex215]; exact i_add (by obtain ⟨_, _⟩ := r28; obtain ⟨_, _⟩ := (⟨by decide, by decide⟩ : Rg 1 1 1); omega) (by obtain ⟨_, _⟩ := r28; obtain ⟨_, _⟩ := (⟨by decide, by decide⟩ : Rg 1 1 1); omega)
                            have s217l : (1 : Int32).toInt = 1 := rfl
                            refine r_iast X hw hS (rfl : KD 438 = _) (Rg.vp (b := 7) r_od (by decide)) rfl d_X11_reads_283 (fun H locs hw hS => ?_)
                            obtain ⟨v218, ev218⟩ : ∃ z, z = up2 v209 438 od.toNatClampNeg x215 := ⟨_, rfl⟩
                            rw [← ev218] at hw
                            have hI219 : Inv v218 := by rw [ev218]; exact Inv.putr hI210 rfl (rg_w r216 (by decide) (by decide))
                            have hK220 : Kp v v218 := by rw [ev218]; exact Kp.put hK211 _ rfl
                            have hm221 : v218 400 34 = g0 := by rw [ev218, up2_n _ _ (by omega)]; exact hm213
                            have hm222 : v218 400 43 = x199 := by rw [ev218, up2_n _ _ (by omega)]; exact hm214
                            have hm223 : v218 438 od.toNatClampNeg = x215 := by rw [ev218, up2_s]
                            refine lv_aload_n hx hb d_X11_reads_284 rfl (lv_at hl 2 rfl) ?_
                            refine lv_bipush (v := 44) hx hb d_X11_reads_285 (by decide) ?_
                            refine r_ci (r_runV (n := 1) (As := [.int 44]) (rest := []) X hw (ct_X11_takes_400 l D dA ad v218 hI219 44) gc_X11_205 (rfl : KD 400 = _) (by decide) rfl (by decide +kernel) ⟨rfl, rfl, Nat.le_of_ble_eq_true rfl, Nat.le_of_ble_eq_true rfl⟩ rfl hl.1 rfl (Nat.le_of_ble_eq_true rfl) ⟨Nat.zero_le _, Nat.zero_le _⟩ d_X11_reads_287) hS (fun x225 v226 H locs hp224 hw hS => ?_)
                            obtain ⟨hI227, hK228, hp224, hk229, hF230⟩ := hp224
                            have hK231 : Kp v v226 := Kp.tr hK220 hK228
                            have hm232 : v226 400 (34) = g0 := hk229.trans hm221
                            have hm233 : v226 438 (od.toNatClampNeg) = x215 := (hF230 438 (od.toNatClampNeg) (by decide)).trans hm223
                            refine lv_if_ne (tgt := 295) hx hb d_X11_reads_290 (by decide) (fun c234 => ?_) (fun c234 => ?_)
                            · have f235 := i_ne c234
                              have r236 : Rg x225 1 1 := by obtain ⟨a1, a2⟩ := hp224; obtain ⟨b1, b2⟩ := (⟨by decide, by decide⟩ : Rg 0 0 0); have f := i_ne c234; exact ⟨by omega, by omega⟩
                              refine lv_goto (tgt := 123) hx hb d_X11_reads_295 (by decide) ?_
                              exact ih0 x215 v226 _ _ _ (by have := s89; have := s92; have := s217; omega) (rg_w r216 (by decide) (by decide)) hI227 hK231 hm233 hm232 hw hS (lv_sub hl [2, 3] rfl)
                            · have f237 := i_eq c234
                              have r238 : Rg x225 0 0 := by obtain ⟨a1, a2⟩ := hp224; obtain ⟨b1, b2⟩ := (⟨by decide, by decide⟩ : Rg 0 0 0); have f := i_eq c234; exact ⟨by omega, by omega⟩
                              refine lv_iconst (v := 0) hx hb d_X11_reads_293 (by decide) ?_
                              exact r_zret X hr hlocks hw hS rfl ⟨hI227, hK231, (rg_w (⟨by decide, by decide⟩ : Rg 0 0 0) (by decide) (by decide)), (hm232.trans hg0.symm)⟩ d_X11_reads_294
                          · have f239 := i_eq c200
                            have r240 : Rg x189 0 0 := by obtain ⟨a1, a2⟩ := hp188; obtain ⟨b1, b2⟩ := (⟨by decide, by decide⟩ : Rg 0 0 0); have f := i_eq c200; exact ⟨by omega, by omega⟩
                            refine lv_iconst (v := 0) hx hb d_X11_reads_255 (by decide) ?_
                            exact r_zret X hr hlocks hw hS rfl ⟨hI191, hK196, (rg_w (⟨by decide, by decide⟩ : Rg 0 0 0) (by decide) (by decide)), (hm198.trans hg0.symm)⟩ d_X11_reads_256
                    · skip
                      refine r_zast (y := 0)  X hw hS (rfl : KD 440 = _) (Rg.vp (b := 23) r91 (by decide)) rfl rfl d_X11_reads_228 (fun H locs hw hS => ?_)
                      obtain ⟨v241, ev241⟩ : ∃ z, z = up2 v76 440 x90.toNatClampNeg 0 := ⟨_, rfl⟩
                      rw [← ev241] at hw
                      have hI242 : Inv v241 := by rw [ev241]; exact Inv.put0 hI77 _ rfl
                      have hK243 : Kp v v241 := by rw [ev241]; exact Kp.put hK81 _ rfl
                      have hm244 : v241 438 od.toNatClampNeg = m0 := by rw [ev241, up2_n _ _ (by omega)]; exact hm82
                      have hm245 : v241 400 34 = g0 := by rw [ev241, up2_n _ _ (by omega)]; exact hm83
                      refine lv_aload_n hx hb d_X11_reads_229 rfl (lv_at hl 2 rfl) ?_
                      refine lv_bipush (v := 60) hx hb d_X11_reads_230 (by decide) ?_
                      refine r_ci (r_runV (n := 1) (As := [.int 60]) (rest := []) X hw (ct_X11_takes_400 l D dA ad v241 hI242 60) gc_X11_205 (rfl : KD 400 = _) (by decide) rfl (by decide +kernel) ⟨rfl, rfl, Nat.le_of_ble_eq_true rfl, Nat.le_of_ble_eq_true rfl⟩ rfl hl.1 rfl (Nat.le_of_ble_eq_true rfl) ⟨Nat.zero_le _, Nat.zero_le _⟩ d_X11_reads_232) hS (fun x247 v248 H locs hp246 hw hS => ?_)
                      obtain ⟨hI249, hK250, hp246, hk251, hF252⟩ := hp246
                      have hK253 : Kp v v248 := Kp.tr hK243 hK250
                      have hm254 : v248 438 (od.toNatClampNeg) = m0 := (hF252 438 (od.toNatClampNeg) (by decide)).trans hm244
                      have hm255 : v248 400 (34) = g0 := hk251.trans hm245
                      refine lv_if_ne (tgt := 247) hx hb d_X11_reads_235 (by decide) (fun c256 => ?_) (fun c256 => ?_)
                      · have f257 := i_ne c256
                        have r258 : Rg x247 1 1 := by obtain ⟨a1, a2⟩ := hp246; obtain ⟨b1, b2⟩ := (⟨by decide, by decide⟩ : Rg 0 0 0); have f := i_ne c256; exact ⟨by omega, by omega⟩
                        refine lv_aload_n hx hb d_X11_reads_247 rfl (lv_at hl 2 rfl) ?_
                        refine lv_iconst (v := 3) hx hb d_X11_reads_248 (by decide) ?_
                        refine r_ci (r_runV (n := 1) (As := [.int 3]) (rest := []) X hw (ct_X11_takesNumber_3 l D dA ad v248 hI249 3 (⟨by decide, by decide⟩ : Rg 3 3 3)) gc_X11_211 (rfl : KD 400 = _) (by decide) rfl (by decide +kernel) ⟨rfl, rfl, Nat.le_of_ble_eq_true rfl, Nat.le_of_ble_eq_true rfl⟩ rfl hl.1 rfl (Nat.le_of_ble_eq_true rfl) ⟨Nat.zero_le _, Nat.zero_le _⟩ d_X11_reads_249) hS (fun x260 v261 H locs hp259 hw hS => ?_)
                        obtain ⟨hI262, hK263, hp259, hk264, hF265, hx266⟩ := hp259
                        have hK267 : Kp v v261 := Kp.tr hK253 hK263
                        have hm268 : v261 438 (od.toNatClampNeg) = m0 := (hF265 438 (od.toNatClampNeg) (by decide)).trans hm254
                        have hm269 : v261 400 (34) = g0 := hk264.trans hm255
                        obtain ⟨x270, ex270⟩ : ∃ z, v261 400 43 = z := ⟨_, rfl⟩
                        rw [ex270] at hx266
                        refine lv_if_ne (tgt := 257) hx hb d_X11_reads_252 (by decide) (fun c271 => ?_) (fun c271 => ?_)
                        · have f272 := i_ne c271
                          have r273 : Rg x260 1 1 := by obtain ⟨a1, a2⟩ := hp259; obtain ⟨b1, b2⟩ := (⟨by decide, by decide⟩ : Rg 0 0 0); have f := i_ne c271; exact ⟨by omega, by omega⟩
                          refine lv_aload_n hx hb d_X11_reads_257 rfl (lv_at hl 2 rfl) ?_
                          refine r_getr (r := 439) X hw FL_X11_105 (rfl : KD 400 = _) rfl d_X11_reads_258 ?_
                          refine lv_iload_n hx hb d_X11_reads_261 rfl (lv_at hl 0 rfl) ?_
                          refine lv_iload_n hx hb d_X11_reads_262 rfl (lv_at hl 1 rfl) ?_
                          refine r_iast X hw hS (rfl : KD 439 = _) (Rg.vp (b := 23) r91 (by decide)) rfl d_X11_reads_263 (fun H locs hw hS => ?_)
                          obtain ⟨v274, ev274⟩ : ∃ z, z = up2 v261 439 x90.toNatClampNeg x12 := ⟨_, rfl⟩
                          rw [← ev274] at hw
                          have hI275 : Inv v274 := by rw [ev274]; exact Inv.putr hI262 rfl hx8
                          have hK276 : Kp v v274 := by rw [ev274]; exact Kp.put hK267 _ rfl
                          have hm277 : v274 438 od.toNatClampNeg = m0 := by rw [ev274, up2_n _ _ (by omega)]; exact hm268
                          have hm278 : v274 400 34 = g0 := by rw [ev274, up2_n _ _ (by omega)]; exact hm269
                          have hm279 : v274 400 43 = x270 := by rw [ev274, up2_n _ _ (by omega)]; exact ex270
                          refine lv_aload_n hx hb d_X11_reads_264 rfl (lv_at hl 2 rfl) ?_
                          refine r_getr (r := 441) X hw FL_X11_112 (rfl : KD 400 = _) rfl d_X11_reads_265 ?_
                          refine lv_iload_n hx hb d_X11_reads_268 rfl (lv_at hl 0 rfl) ?_
                          refine lv_aload_n hx hb d_X11_reads_269 rfl (lv_at hl 2 rfl) ?_
                          refine r_geti X hw FL_X11_199 (rfl : KD 400 = _) rfl d_X11_reads_270 ?_
                          rw [hm279]
                          refine r_iast X hw hS (rfl : KD 441 = _) (Rg.vp (b := 23) r91 (by decide)) rfl d_X11_reads_273 (fun H locs hw hS => ?_)
                          obtain ⟨v280, ev280⟩ : ∃ z, z = up2 v274 441 x90.toNatClampNeg x270 := ⟨_, rfl⟩
                          rw [← ev280] at hw
                          have hI281 : Inv v280 := by rw [ev280]; exact Inv.put0 hI275 _ rfl
                          have hK282 : Kp v v280 := by rw [ev280]; exact Kp.put hK276 _ rfl
                          have hm283 : v280 438 od.toNatClampNeg = m0 := by rw [ev280, up2_n _ _ (by omega)]; exact hm277
                          have hm284 : v280 400 34 = g0 := by rw [ev280, up2_n _ _ (by omega)]; exact hm278
                          have hm285 : v280 400 43 = x270 := by rw [ev280, up2_n _ _ (by omega)]; exact hm279
                          refine lv_aload_n hx hb d_X11_reads_274 rfl (lv_at hl 2 rfl) ?_
                          refine r_getr (r := 438) X hw FL_X11_102 (rfl : KD 400 = _) rfl d_X11_reads_275 ?_
                          refine lv_iload_n hx hb d_X11_reads_278 rfl (lv_at hl 3 rfl) ?_
                          refine lv_dup2_11 hx hb d_X11_reads_279 rfl rfl ?_
                          refine r_iald X hw (rfl : KD 438 = _) (Rg.vp (b := 7) r_od (by decide)) rfl d_X11_reads_280 ?_
                          rw [hm283]
                          refine lv_iconst (v := 1) hx hb d_X11_reads_281 (by decide) ?_
                          refine lv_iadd hx hb d_X11_reads_282 ?_
                          refine lv_topi (fun x286 ex286 => ?_)
                          have r287 : Rg x286 1 3 := rg_add ex286 r28 (⟨by decide, by decide⟩ : Rg 1 1 1) (by decide) (by decide)
                          have s288 : x286.toInt = m0.toInt + (1 : Int32).toInt := by rw [ex286]; exact i_add (by obtain ⟨_, _⟩ := r28; obtain ⟨_, _⟩ := (⟨by decide, by decide⟩ : Rg 1 1 1); omega) (by obtain ⟨_, _⟩ := r28; obtain ⟨_, _⟩ := (⟨by decide, by decide⟩ : Rg 1 1 1); omega)
                          have s288l : (1 : Int32).toInt = 1 := rfl
                          refine r_iast X hw hS (rfl : KD 438 = _) (Rg.vp (b := 7) r_od (by decide)) rfl d_X11_reads_283 (fun H locs hw hS => ?_)
                          obtain ⟨v289, ev289⟩ : ∃ z, z = up2 v280 438 od.toNatClampNeg x286 := ⟨_, rfl⟩
                          rw [← ev289] at hw
                          have hI290 : Inv v289 := by rw [ev289]; exact Inv.putr hI281 rfl (rg_w r287 (by decide) (by decide))
                          have hK291 : Kp v v289 := by rw [ev289]; exact Kp.put hK282 _ rfl
                          have hm292 : v289 400 34 = g0 := by rw [ev289, up2_n _ _ (by omega)]; exact hm284
                          have hm293 : v289 400 43 = x270 := by rw [ev289, up2_n _ _ (by omega)]; exact hm285
                          have hm294 : v289 438 od.toNatClampNeg = x286 := by rw [ev289, up2_s]
                          refine lv_aload_n hx hb d_X11_reads_284 rfl (lv_at hl 2 rfl) ?_
                          refine lv_bipush (v := 44) hx hb d_X11_reads_285 (by decide) ?_
                          refine r_ci (r_runV (n := 1) (As := [.int 44]) (rest := []) X hw (ct_X11_takes_400 l D dA ad v289 hI290 44) gc_X11_205 (rfl : KD 400 = _) (by decide) rfl (by decide +kernel) ⟨rfl, rfl, Nat.le_of_ble_eq_true rfl, Nat.le_of_ble_eq_true rfl⟩ rfl hl.1 rfl (Nat.le_of_ble_eq_true rfl) ⟨Nat.zero_le _, Nat.zero_le _⟩ d_X11_reads_287) hS (fun x296 v297 H locs hp295 hw hS => ?_)
                          obtain ⟨hI298, hK299, hp295, hk300, hF301⟩ := hp295
                          have hK302 : Kp v v297 := Kp.tr hK291 hK299
                          have hm303 : v297 400 (34) = g0 := hk300.trans hm292
                          have hm304 : v297 438 (od.toNatClampNeg) = x286 := (hF301 438 (od.toNatClampNeg) (by decide)).trans hm294
                          refine lv_if_ne (tgt := 295) hx hb d_X11_reads_290 (by decide) (fun c305 => ?_) (fun c305 => ?_)
                          · have f306 := i_ne c305
                            have r307 : Rg x296 1 1 := by obtain ⟨a1, a2⟩ := hp295; obtain ⟨b1, b2⟩ := (⟨by decide, by decide⟩ : Rg 0 0 0); have f := i_ne c305; exact ⟨by omega, by omega⟩
                            refine lv_goto (tgt := 123) hx hb d_X11_reads_295 (by decide) ?_
                            exact ih0 x286 v297 _ _ _ (by have := s89; have := s92; have := s288; omega) (rg_w r287 (by decide) (by decide)) hI298 hK302 hm304 hm303 hw hS (lv_sub hl [2, 3] rfl)
                          · have f308 := i_eq c305
                            have r309 : Rg x296 0 0 := by obtain ⟨a1, a2⟩ := hp295; obtain ⟨b1, b2⟩ := (⟨by decide, by decide⟩ : Rg 0 0 0); have f := i_eq c305; exact ⟨by omega, by omega⟩
                            refine lv_iconst (v := 0) hx hb d_X11_reads_293 (by decide) ?_
                            exact r_zret X hr hlocks hw hS rfl ⟨hI298, hK302, (rg_w (⟨by decide, by decide⟩ : Rg 0 0 0) (by decide) (by decide)), (hm303.trans hg0.symm)⟩ d_X11_reads_294
                        · have f310 := i_eq c271
                          have r311 : Rg x260 0 0 := by obtain ⟨a1, a2⟩ := hp259; obtain ⟨b1, b2⟩ := (⟨by decide, by decide⟩ : Rg 0 0 0); have f := i_eq c271; exact ⟨by omega, by omega⟩
                          refine lv_iconst (v := 0) hx hb d_X11_reads_255 (by decide) ?_
                          exact r_zret X hr hlocks hw hS rfl ⟨hI262, hK267, (rg_w (⟨by decide, by decide⟩ : Rg 0 0 0) (by decide) (by decide)), (hm269.trans hg0.symm)⟩ d_X11_reads_256
                      · have f312 := i_eq c256
                        have r313 : Rg x247 0 0 := by obtain ⟨a1, a2⟩ := hp246; obtain ⟨b1, b2⟩ := (⟨by decide, by decide⟩ : Rg 0 0 0); have f := i_eq c256; exact ⟨by omega, by omega⟩
                        refine lv_aload_n hx hb d_X11_reads_238 rfl (lv_at hl 2 rfl) ?_
                        refine lv_bipush (v := 62) hx hb d_X11_reads_239 (by decide) ?_
                        refine r_ci (r_runV (n := 1) (As := [.int 62]) (rest := []) X hw (ct_X11_takes_400 l D dA ad v248 hI249 62) gc_X11_205 (rfl : KD 400 = _) (by decide) rfl (by decide +kernel) ⟨rfl, rfl, Nat.le_of_ble_eq_true rfl, Nat.le_of_ble_eq_true rfl⟩ rfl hl.1 rfl (Nat.le_of_ble_eq_true rfl) ⟨Nat.zero_le _, Nat.zero_le _⟩ d_X11_reads_241) hS (fun x315 v316 H locs hp314 hw hS => ?_)
                        obtain ⟨hI317, hK318, hp314, hk319, hF320⟩ := hp314
                        have hK321 : Kp v v316 := Kp.tr hK253 hK318
                        have hm322 : v316 438 (od.toNatClampNeg) = m0 := (hF320 438 (od.toNatClampNeg) (by decide)).trans hm254
                        have hm323 : v316 400 (34) = g0 := hk319.trans hm255
                        refine lv_if_eq (tgt := 255) hx hb d_X11_reads_244 (by decide) (fun c324 => ?_) (fun c324 => ?_)
                        · have f325 := i_eq c324
                          have r326 : Rg x315 0 0 := by obtain ⟨a1, a2⟩ := hp314; obtain ⟨b1, b2⟩ := (⟨by decide, by decide⟩ : Rg 0 0 0); have f := i_eq c324; exact ⟨by omega, by omega⟩
                          refine lv_iconst (v := 0) hx hb d_X11_reads_255 (by decide) ?_
                          exact r_zret X hr hlocks hw hS rfl ⟨hI317, hK321, (rg_w (⟨by decide, by decide⟩ : Rg 0 0 0) (by decide) (by decide)), (hm323.trans hg0.symm)⟩ d_X11_reads_256
                        · have f327 := i_ne c324
                          have r328 : Rg x315 1 1 := by obtain ⟨a1, a2⟩ := hp314; obtain ⟨b1, b2⟩ := (⟨by decide, by decide⟩ : Rg 0 0 0); have f := i_ne c324; exact ⟨by omega, by omega⟩
                          refine lv_aload_n hx hb d_X11_reads_247 rfl (lv_at hl 2 rfl) ?_
                          refine lv_iconst (v := 3) hx hb d_X11_reads_248 (by decide) ?_
                          refine r_ci (r_runV (n := 1) (As := [.int 3]) (rest := []) X hw (ct_X11_takesNumber_3 l D dA ad v316 hI317 3 (⟨by decide, by decide⟩ : Rg 3 3 3)) gc_X11_211 (rfl : KD 400 = _) (by decide) rfl (by decide +kernel) ⟨rfl, rfl, Nat.le_of_ble_eq_true rfl, Nat.le_of_ble_eq_true rfl⟩ rfl hl.1 rfl (Nat.le_of_ble_eq_true rfl) ⟨Nat.zero_le _, Nat.zero_le _⟩ d_X11_reads_249) hS (fun x330 v331 H locs hp329 hw hS => ?_)
                          obtain ⟨hI332, hK333, hp329, hk334, hF335, hx336⟩ := hp329
                          have hK337 : Kp v v331 := Kp.tr hK321 hK333
                          have hm338 : v331 438 (od.toNatClampNeg) = m0 := (hF335 438 (od.toNatClampNeg) (by decide)).trans hm322
                          have hm339 : v331 400 (34) = g0 := hk334.trans hm323
                          obtain ⟨x340, ex340⟩ : ∃ z, v331 400 43 = z := ⟨_, rfl⟩
                          rw [ex340] at hx336
                          refine lv_if_ne (tgt := 257) hx hb d_X11_reads_252 (by decide) (fun c341 => ?_) (fun c341 => ?_)
                          · have f342 := i_ne c341
                            have r343 : Rg x330 1 1 := by obtain ⟨a1, a2⟩ := hp329; obtain ⟨b1, b2⟩ := (⟨by decide, by decide⟩ : Rg 0 0 0); have f := i_ne c341; exact ⟨by omega, by omega⟩
                            refine lv_aload_n hx hb d_X11_reads_257 rfl (lv_at hl 2 rfl) ?_
                            refine r_getr (r := 439) X hw FL_X11_105 (rfl : KD 400 = _) rfl d_X11_reads_258 ?_
                            refine lv_iload_n hx hb d_X11_reads_261 rfl (lv_at hl 0 rfl) ?_
                            refine lv_iload_n hx hb d_X11_reads_262 rfl (lv_at hl 1 rfl) ?_
                            refine r_iast X hw hS (rfl : KD 439 = _) (Rg.vp (b := 23) r91 (by decide)) rfl d_X11_reads_263 (fun H locs hw hS => ?_)
                            obtain ⟨v344, ev344⟩ : ∃ z, z = up2 v331 439 x90.toNatClampNeg x12 := ⟨_, rfl⟩
                            rw [← ev344] at hw
                            have hI345 : Inv v344 := by rw [ev344]; exact Inv.putr hI332 rfl hx8
                            have hK346 : Kp v v344 := by rw [ev344]; exact Kp.put hK337 _ rfl
                            have hm347 : v344 438 od.toNatClampNeg = m0 := by rw [ev344, up2_n _ _ (by omega)]; exact hm338
                            have hm348 : v344 400 34 = g0 := by rw [ev344, up2_n _ _ (by omega)]; exact hm339
                            have hm349 : v344 400 43 = x340 := by rw [ev344, up2_n _ _ (by omega)]; exact ex340
                            refine lv_aload_n hx hb d_X11_reads_264 rfl (lv_at hl 2 rfl) ?_
                            refine r_getr (r := 441) X hw FL_X11_112 (rfl : KD 400 = _) rfl d_X11_reads_265 ?_
                            refine lv_iload_n hx hb d_X11_reads_268 rfl (lv_at hl 0 rfl) ?_
                            refine lv_aload_n hx hb d_X11_reads_269 rfl (lv_at hl 2 rfl) ?_
                            refine r_geti X hw FL_X11_199 (rfl : KD 400 = _) rfl d_X11_reads_270 ?_
                            rw [hm349]
                            refine r_iast X hw hS (rfl : KD 441 = _) (Rg.vp (b := 23) r91 (by decide)) rfl d_X11_reads_273 (fun H locs hw hS => ?_)
                            obtain ⟨v350, ev350⟩ : ∃ z, z = up2 v344 441 x90.toNatClampNeg x340 := ⟨_, rfl⟩
                            rw [← ev350] at hw
                            have hI351 : Inv v350 := by rw [ev350]; exact Inv.put0 hI345 _ rfl
                            have hK352 : Kp v v350 := by rw [ev350]; exact Kp.put hK346 _ rfl
                            have hm353 : v350 438 od.toNatClampNeg = m0 := by rw [ev350, up2_n _ _ (by omega)]; exact hm347
                            have hm354 : v350 400 34 = g0 := by rw [ev350, up2_n _ _ (by omega)]; exact hm348
                            have hm355 : v350 400 43 = x340 := by rw [ev350, up2_n _ _ (by omega)]; exact hm349
                            refine lv_aload_n hx hb d_X11_reads_274 rfl (lv_at hl 2 rfl) ?_
                            refine r_getr (r := 438) X hw FL_X11_102 (rfl : KD 400 = _) rfl d_X11_reads_275 ?_
                            refine lv_iload_n hx hb d_X11_reads_278 rfl (lv_at hl 3 rfl) ?_
                            refine lv_dup2_11 hx hb d_X11_reads_279 rfl rfl ?_
                            refine r_iald X hw (rfl : KD 438 = _) (Rg.vp (b := 7) r_od (by decide)) rfl d_X11_reads_280 ?_
                            rw [hm353]
                            refine lv_iconst (v := 1) hx hb d_X11_reads_281 (by decide) ?_
                            refine lv_iadd hx hb d_X11_reads_282 ?_
                            refine lv_topi (fun x356 ex356 => ?_)
                            have r357 : Rg x356 1 3 := rg_add ex356 r28 (⟨by decide, by decide⟩ : Rg 1 1 1) (by decide) (by decide)
                            have s358 : x356.toInt = m0.toInt + (1 : Int32).toInt := by rw [ex356]; exact i_add (by obtain ⟨_, _⟩ := r28; obtain ⟨_, _⟩ := (⟨by decide, by decide⟩ : Rg 1 1 1); omega) (by obtain ⟨_, _⟩ := r28; obtain ⟨_, _⟩ := (⟨by decide, by decide⟩ : Rg 1 1 1); omega)
                            have s358l : (1 : Int32).toInt = 1 := rfl
                            refine r_iast X hw hS (rfl : KD 438 = _) (Rg.vp (b := 7) r_od (by decide)) rfl d_X11_reads_283 (fun H locs hw hS => ?_)
                            obtain ⟨v359, ev359⟩ : ∃ z, z = up2 v350 438 od.toNatClampNeg x356 := ⟨_, rfl⟩
                            rw [← ev359] at hw
                            have hI360 : Inv v359 := by rw [ev359]; exact Inv.putr hI351 rfl (rg_w r357 (by decide) (by decide))
                            have hK361 : Kp v v359 := by rw [ev359]; exact Kp.put hK352 _ rfl
                            have hm362 : v359 400 34 = g0 := by rw [ev359, up2_n _ _ (by omega)]; exact hm354
                            have hm363 : v359 400 43 = x340 := by rw [ev359, up2_n _ _ (by omega)]; exact hm355
                            have hm364 : v359 438 od.toNatClampNeg = x356 := by rw [ev359, up2_s]
                            refine lv_aload_n hx hb d_X11_reads_284 rfl (lv_at hl 2 rfl) ?_
                            refine lv_bipush (v := 44) hx hb d_X11_reads_285 (by decide) ?_
                            refine r_ci (r_runV (n := 1) (As := [.int 44]) (rest := []) X hw (ct_X11_takes_400 l D dA ad v359 hI360 44) gc_X11_205 (rfl : KD 400 = _) (by decide) rfl (by decide +kernel) ⟨rfl, rfl, Nat.le_of_ble_eq_true rfl, Nat.le_of_ble_eq_true rfl⟩ rfl hl.1 rfl (Nat.le_of_ble_eq_true rfl) ⟨Nat.zero_le _, Nat.zero_le _⟩ d_X11_reads_287) hS (fun x366 v367 H locs hp365 hw hS => ?_)
                            obtain ⟨hI368, hK369, hp365, hk370, hF371⟩ := hp365
                            have hK372 : Kp v v367 := Kp.tr hK361 hK369
                            have hm373 : v367 400 (34) = g0 := hk370.trans hm362
                            have hm374 : v367 438 (od.toNatClampNeg) = x356 := (hF371 438 (od.toNatClampNeg) (by decide)).trans hm364
                            refine lv_if_ne (tgt := 295) hx hb d_X11_reads_290 (by decide) (fun c375 => ?_) (fun c375 => ?_)
                            · have f376 := i_ne c375
                              have r377 : Rg x366 1 1 := by obtain ⟨a1, a2⟩ := hp365; obtain ⟨b1, b2⟩ := (⟨by decide, by decide⟩ : Rg 0 0 0); have f := i_ne c375; exact ⟨by omega, by omega⟩
                              refine lv_goto (tgt := 123) hx hb d_X11_reads_295 (by decide) ?_
                              exact ih0 x356 v367 _ _ _ (by have := s89; have := s92; have := s358; omega) (rg_w r357 (by decide) (by decide)) hI368 hK372 hm374 hm373 hw hS (lv_sub hl [2, 3] rfl)
                            · have f378 := i_eq c375
                              have r379 : Rg x366 0 0 := by obtain ⟨a1, a2⟩ := hp365; obtain ⟨b1, b2⟩ := (⟨by decide, by decide⟩ : Rg 0 0 0); have f := i_eq c375; exact ⟨by omega, by omega⟩
                              refine lv_iconst (v := 0) hx hb d_X11_reads_293 (by decide) ?_
                              exact r_zret X hr hlocks hw hS rfl ⟨hI368, hK372, (rg_w (⟨by decide, by decide⟩ : Rg 0 0 0) (by decide) (by decide)), (hm373.trans hg0.symm)⟩ d_X11_reads_294
                          · have f380 := i_eq c341
                            have r381 : Rg x330 0 0 := by obtain ⟨a1, a2⟩ := hp329; obtain ⟨b1, b2⟩ := (⟨by decide, by decide⟩ : Rg 0 0 0); have f := i_eq c341; exact ⟨by omega, by omega⟩
                            refine lv_iconst (v := 0) hx hb d_X11_reads_255 (by decide) ?_
                            exact r_zret X hr hlocks hw hS rfl ⟨hI332, hK337, (rg_w (⟨by decide, by decide⟩ : Rg 0 0 0) (by decide) (by decide)), (hm339.trans hg0.symm)⟩ d_X11_reads_256
                  · have f382 := i_eq c84
                    have r383 : Rg x75 0 0 := by obtain ⟨a1, a2⟩ := hp74; obtain ⟨b1, b2⟩ := (⟨by decide, by decide⟩ : Rg 0 0 0); have f := i_eq c84; exact ⟨by omega, by omega⟩
                    refine lv_iconst (v := 0) hx hb d_X11_reads_204 (by decide) ?_
                    exact r_zret X hr hlocks hw hS rfl ⟨hI77, hK81, (rg_w (⟨by decide, by decide⟩ : Rg 0 0 0) (by decide) (by decide)), (hm83.trans hg0.symm)⟩ d_X11_reads_205
        · have f384 := i_eq c22
          refine lv_aload_n hx hb d_X11_reads_149 rfl (lv_at hl 1 rfl) ?_
          refine r_getr (r := 442) X hw FL_X11_115 (rfl : KD 400 = _) rfl d_X11_reads_150 ?_
          refine lv_iload_n hx hb d_X11_reads_153 rfl (lv_at hl 2 rfl) ?_
          refine lv_iload_n hx hb d_X11_reads_154 rfl (lv_at hl 0 rfl) ?_
          refine r_iast X hw hS (rfl : KD 442 = _) (Rg.vp (b := 7) r_od (by decide)) rfl d_X11_reads_155 (fun H locs hw hS => ?_)
          obtain ⟨v385, ev385⟩ : ∃ z, z = up2 v3 442 od.toNatClampNeg x12 := ⟨_, rfl⟩
          rw [← ev385] at hw
          have hI386 : Inv v385 := by rw [ev385]; exact Inv.putr hI4 rfl hx8
          have hK387 : Kp v v385 := by rw [ev385]; exact Kp.put hK9 _ rfl
          have hm388 : v385 438 od.toNatClampNeg = m0 := by rw [ev385, up2_n _ _ (by omega)]; exact hm10
          have hm389 : v385 400 34 = g0 := by rw [ev385, up2_n _ _ (by omega)]; exact hm11
          have hm390 : v385 400 43 = x12 := by rw [ev385, up2_n _ _ (by omega)]; exact ex12
          have hm391 : v385 400 42 = x16 := by rw [ev385, up2_n _ _ (by omega)]; exact hm18
          have hm392 : v385 400 33 = x19 := by rw [ev385, up2_n _ _ (by omega)]; exact hm21
          refine lv_iconst (v := 1) hx hb d_X11_reads_156 (by decide) ?_
          exact r_zret X hr hlocks hw hS rfl ⟨hI386, hK387, (rg_w (⟨by decide, by decide⟩ : Rg 1 1 1) (by decide) (by decide)), (hm389.trans hg0.symm)⟩ d_X11_reads_157
      · have f393 := i_eq c13
        have r394 : Rg x2 0 0 := by obtain ⟨a1, a2⟩ := hp1; obtain ⟨b1, b2⟩ := (⟨by decide, by decide⟩ : Rg 0 0 0); have f := i_eq c13; exact ⟨by omega, by omega⟩
        refine lv_iconst (v := 0) hx hb d_X11_reads_131 (by decide) ?_
        exact r_zret X hr hlocks hw hS rfl ⟨hI4, hK9, (rg_w (⟨by decide, by decide⟩ : Rg 0 0 0) (by decide) (by decide)), (hm11.trans hg0.symm)⟩ d_X11_reads_132
  have ih0 := LL 100000
  have hK0 : Kp v v := Kp.rf v
  refine lv_aload_n hx hb d_X11_reads_0 rfl (lv_at hl 0 rfl) ?_
  refine lv_iconst (v := 0) hx hb d_X11_reads_1 (by decide) ?_
  refine r_put X hw hS FP_X11_193 (rfl : KD 400 = _) rfl ⟨rfl, rfl⟩ d_X11_reads_2 (fun H locs hw hS => ?_)
  obtain ⟨v395, ev395⟩ : ∃ z, z = up2 v 400 42 0 := ⟨_, rfl⟩
  rw [← ev395] at hw
  have hI396 : Inv v395 := by rw [ev395]; exact Inv.putr hI rfl (rg_w (⟨by decide, by decide⟩ : Rg 0 0 0) (by decide) (by decide))
  have hK397 : Kp v v395 := by rw [ev395]; exact Kp.put hK0 _ rfl
  have hm398 : v395 400 34 = g0 := by rw [ev395, up2_n _ _ (by omega)]; exact hg0
  have hm399 : v395 400 42 = 0 := by rw [ev395, up2_s]
  refine lv_aload_n hx hb d_X11_reads_5 rfl (lv_at hl 0 rfl) ?_
  refine r_getr (r := 438) X hw FL_X11_102 (rfl : KD 400 = _) rfl d_X11_reads_6 ?_
  refine lv_iload_n hx hb d_X11_reads_9 rfl (lv_at hl 1 rfl) ?_
  refine lv_iconst (v := 0) hx hb d_X11_reads_10 (by decide) ?_
  refine r_iast X hw hS (rfl : KD 438 = _) (Rg.vp (b := 7) r_od (by decide)) rfl d_X11_reads_11 (fun H locs hw hS => ?_)
  obtain ⟨v400, ev400⟩ : ∃ z, z = up2 v395 438 od.toNatClampNeg 0 := ⟨_, rfl⟩
  rw [← ev400] at hw
  have hI401 : Inv v400 := by rw [ev400]; exact Inv.putr hI396 rfl (rg_w (⟨by decide, by decide⟩ : Rg 0 0 0) (by decide) (by decide))
  have hK402 : Kp v v400 := by rw [ev400]; exact Kp.put hK397 _ rfl
  have hm403 : v400 400 34 = g0 := by rw [ev400, up2_n _ _ (by omega)]; exact hm398
  have hm404 : v400 400 42 = 0 := by rw [ev400, up2_n _ _ (by omega)]; exact hm399
  have hm405 : v400 438 od.toNatClampNeg = 0 := by rw [ev400, up2_s]
  refine lv_aload_n hx hb d_X11_reads_12 rfl (lv_at hl 0 rfl) ?_
  refine lv_bipush (v := 116) hx hb d_X11_reads_13 (by decide) ?_
  refine r_ci (r_runV (n := 1) (As := [.int 116]) (rest := []) X hw (ct_X11_takes_400 l D dA ad v400 hI401 116) gc_X11_205 (rfl : KD 400 = _) (by decide) rfl (by decide +kernel) ⟨rfl, rfl, Nat.le_of_ble_eq_true rfl, Nat.le_of_ble_eq_true rfl⟩ rfl hl.1 rfl (Nat.le_of_ble_eq_true rfl) ⟨Nat.zero_le _, Nat.zero_le _⟩ d_X11_reads_15) hS (fun x407 v408 H locs hp406 hw hS => ?_)
  obtain ⟨hI409, hK410, hp406, hk411, hF412⟩ := hp406
  have hK413 : Kp v v408 := Kp.tr hK402 hK410
  have hm414 : v408 400 (34) = g0 := hk411.trans hm403
  have hm415 : v408 438 (od.toNatClampNeg) = 0 := (hF412 438 (od.toNatClampNeg) (by decide)).trans hm405
  refine lv_if_eq (tgt := 65) hx hb d_X11_reads_18 (by decide) (fun c416 => ?_) (fun c416 => ?_)
  · have f417 := i_eq c416
    have r418 : Rg x407 0 0 := by obtain ⟨a1, a2⟩ := hp406; obtain ⟨b1, b2⟩ := (⟨by decide, by decide⟩ : Rg 0 0 0); have f := i_eq c416; exact ⟨by omega, by omega⟩
    refine lv_iconst (v := 0) hx hb d_X11_reads_65 (by decide) ?_
    exact r_zret X hr hlocks hw hS rfl ⟨hI409, hK413, (rg_w (⟨by decide, by decide⟩ : Rg 0 0 0) (by decide) (by decide)), (hm414.trans hg0.symm)⟩ d_X11_reads_66
  · have f419 := i_ne c416
    have r420 : Rg x407 1 1 := by obtain ⟨a1, a2⟩ := hp406; obtain ⟨b1, b2⟩ := (⟨by decide, by decide⟩ : Rg 0 0 0); have f := i_ne c416; exact ⟨by omega, by omega⟩
    refine lv_aload_n hx hb d_X11_reads_21 rfl (lv_at hl 0 rfl) ?_
    refine lv_bipush (v := 117) hx hb d_X11_reads_22 (by decide) ?_
    refine r_ci (r_runV (n := 1) (As := [.int 117]) (rest := []) X hw (ct_X11_takes_400 l D dA ad v408 hI409 117) gc_X11_205 (rfl : KD 400 = _) (by decide) rfl (by decide +kernel) ⟨rfl, rfl, Nat.le_of_ble_eq_true rfl, Nat.le_of_ble_eq_true rfl⟩ rfl hl.1 rfl (Nat.le_of_ble_eq_true rfl) ⟨Nat.zero_le _, Nat.zero_le _⟩ d_X11_reads_24) hS (fun x422 v423 H locs hp421 hw hS => ?_)
    obtain ⟨hI424, hK425, hp421, hk426, hF427⟩ := hp421
    have hK428 : Kp v v423 := Kp.tr hK413 hK425
    have hm429 : v423 400 (34) = g0 := hk426.trans hm414
    have hm430 : v423 438 (od.toNatClampNeg) = 0 := (hF427 438 (od.toNatClampNeg) (by decide)).trans hm415
    refine lv_if_eq (tgt := 65) hx hb d_X11_reads_27 (by decide) (fun c431 => ?_) (fun c431 => ?_)
    · have f432 := i_eq c431
      have r433 : Rg x422 0 0 := by obtain ⟨a1, a2⟩ := hp421; obtain ⟨b1, b2⟩ := (⟨by decide, by decide⟩ : Rg 0 0 0); have f := i_eq c431; exact ⟨by omega, by omega⟩
      refine lv_iconst (v := 0) hx hb d_X11_reads_65 (by decide) ?_
      exact r_zret X hr hlocks hw hS rfl ⟨hI424, hK428, (rg_w (⟨by decide, by decide⟩ : Rg 0 0 0) (by decide) (by decide)), (hm429.trans hg0.symm)⟩ d_X11_reads_66
    · have f434 := i_ne c431
      have r435 : Rg x422 1 1 := by obtain ⟨a1, a2⟩ := hp421; obtain ⟨b1, b2⟩ := (⟨by decide, by decide⟩ : Rg 0 0 0); have f := i_ne c431; exact ⟨by omega, by omega⟩
      refine lv_aload_n hx hb d_X11_reads_30 rfl (lv_at hl 0 rfl) ?_
      refine lv_bipush (v := 114) hx hb d_X11_reads_31 (by decide) ?_
      refine r_ci (r_runV (n := 1) (As := [.int 114]) (rest := []) X hw (ct_X11_takes_400 l D dA ad v423 hI424 114) gc_X11_205 (rfl : KD 400 = _) (by decide) rfl (by decide +kernel) ⟨rfl, rfl, Nat.le_of_ble_eq_true rfl, Nat.le_of_ble_eq_true rfl⟩ rfl hl.1 rfl (Nat.le_of_ble_eq_true rfl) ⟨Nat.zero_le _, Nat.zero_le _⟩ d_X11_reads_33) hS (fun x437 v438 H locs hp436 hw hS => ?_)
      obtain ⟨hI439, hK440, hp436, hk441, hF442⟩ := hp436
      have hK443 : Kp v v438 := Kp.tr hK428 hK440
      have hm444 : v438 400 (34) = g0 := hk441.trans hm429
      have hm445 : v438 438 (od.toNatClampNeg) = 0 := (hF442 438 (od.toNatClampNeg) (by decide)).trans hm430
      refine lv_if_eq (tgt := 65) hx hb d_X11_reads_36 (by decide) (fun c446 => ?_) (fun c446 => ?_)
      · have f447 := i_eq c446
        have r448 : Rg x437 0 0 := by obtain ⟨a1, a2⟩ := hp436; obtain ⟨b1, b2⟩ := (⟨by decide, by decide⟩ : Rg 0 0 0); have f := i_eq c446; exact ⟨by omega, by omega⟩
        refine lv_iconst (v := 0) hx hb d_X11_reads_65 (by decide) ?_
        exact r_zret X hr hlocks hw hS rfl ⟨hI439, hK443, (rg_w (⟨by decide, by decide⟩ : Rg 0 0 0) (by decide) (by decide)), (hm444.trans hg0.symm)⟩ d_X11_reads_66
      · have f449 := i_ne c446
        have r450 : Rg x437 1 1 := by obtain ⟨a1, a2⟩ := hp436; obtain ⟨b1, b2⟩ := (⟨by decide, by decide⟩ : Rg 0 0 0); have f := i_ne c446; exact ⟨by omega, by omega⟩
        refine lv_aload_n hx hb d_X11_reads_39 rfl (lv_at hl 0 rfl) ?_
        refine lv_bipush (v := 110) hx hb d_X11_reads_40 (by decide) ?_
        refine r_ci (r_runV (n := 1) (As := [.int 110]) (rest := []) X hw (ct_X11_takes_400 l D dA ad v438 hI439 110) gc_X11_205 (rfl : KD 400 = _) (by decide) rfl (by decide +kernel) ⟨rfl, rfl, Nat.le_of_ble_eq_true rfl, Nat.le_of_ble_eq_true rfl⟩ rfl hl.1 rfl (Nat.le_of_ble_eq_true rfl) ⟨Nat.zero_le _, Nat.zero_le _⟩ d_X11_reads_42) hS (fun x452 v453 H locs hp451 hw hS => ?_)
        obtain ⟨hI454, hK455, hp451, hk456, hF457⟩ := hp451
        have hK458 : Kp v v453 := Kp.tr hK443 hK455
        have hm459 : v453 400 (34) = g0 := hk456.trans hm444
        have hm460 : v453 438 (od.toNatClampNeg) = 0 := (hF457 438 (od.toNatClampNeg) (by decide)).trans hm445
        refine lv_if_eq (tgt := 65) hx hb d_X11_reads_45 (by decide) (fun c461 => ?_) (fun c461 => ?_)
        · have f462 := i_eq c461
          have r463 : Rg x452 0 0 := by obtain ⟨a1, a2⟩ := hp451; obtain ⟨b1, b2⟩ := (⟨by decide, by decide⟩ : Rg 0 0 0); have f := i_eq c461; exact ⟨by omega, by omega⟩
          refine lv_iconst (v := 0) hx hb d_X11_reads_65 (by decide) ?_
          exact r_zret X hr hlocks hw hS rfl ⟨hI454, hK458, (rg_w (⟨by decide, by decide⟩ : Rg 0 0 0) (by decide) (by decide)), (hm459.trans hg0.symm)⟩ d_X11_reads_66
        · have f464 := i_ne c461
          have r465 : Rg x452 1 1 := by obtain ⟨a1, a2⟩ := hp451; obtain ⟨b1, b2⟩ := (⟨by decide, by decide⟩ : Rg 0 0 0); have f := i_ne c461; exact ⟨by omega, by omega⟩
          refine lv_aload_n hx hb d_X11_reads_48 rfl (lv_at hl 0 rfl) ?_
          refine lv_bipush (v := 32) hx hb d_X11_reads_49 (by decide) ?_
          refine r_ci (r_runV (n := 1) (As := [.int 32]) (rest := []) X hw (ct_X11_takes_400 l D dA ad v453 hI454 32) gc_X11_205 (rfl : KD 400 = _) (by decide) rfl (by decide +kernel) ⟨rfl, rfl, Nat.le_of_ble_eq_true rfl, Nat.le_of_ble_eq_true rfl⟩ rfl hl.1 rfl (Nat.le_of_ble_eq_true rfl) ⟨Nat.zero_le _, Nat.zero_le _⟩ d_X11_reads_51) hS (fun x467 v468 H locs hp466 hw hS => ?_)
          obtain ⟨hI469, hK470, hp466, hk471, hF472⟩ := hp466
          have hK473 : Kp v v468 := Kp.tr hK458 hK470
          have hm474 : v468 400 (34) = g0 := hk471.trans hm459
          have hm475 : v468 438 (od.toNatClampNeg) = 0 := (hF472 438 (od.toNatClampNeg) (by decide)).trans hm460
          refine lv_if_eq (tgt := 65) hx hb d_X11_reads_54 (by decide) (fun c476 => ?_) (fun c476 => ?_)
          · have f477 := i_eq c476
            have r478 : Rg x467 0 0 := by obtain ⟨a1, a2⟩ := hp466; obtain ⟨b1, b2⟩ := (⟨by decide, by decide⟩ : Rg 0 0 0); have f := i_eq c476; exact ⟨by omega, by omega⟩
            refine lv_iconst (v := 0) hx hb d_X11_reads_65 (by decide) ?_
            exact r_zret X hr hlocks hw hS rfl ⟨hI469, hK473, (rg_w (⟨by decide, by decide⟩ : Rg 0 0 0) (by decide) (by decide)), (hm474.trans hg0.symm)⟩ d_X11_reads_66
          · have f479 := i_ne c476
            have r480 : Rg x467 1 1 := by obtain ⟨a1, a2⟩ := hp466; obtain ⟨b1, b2⟩ := (⟨by decide, by decide⟩ : Rg 0 0 0); have f := i_ne c476; exact ⟨by omega, by omega⟩
            refine lv_aload_n hx hb d_X11_reads_57 rfl (lv_at hl 0 rfl) ?_
            refine lv_iload_n hx hb d_X11_reads_58 rfl (lv_at hl 1 rfl) ?_
            refine r_ci (r_runV (n := 1) (As := [.int od]) (rest := []) X hw (ct_X11_takesKey_400 l D dA ad v468 hI469 od r_od) gc_X11_208 (rfl : KD 400 = _) (by decide) rfl (by decide +kernel) ⟨rfl, rfl, Nat.le_of_ble_eq_true rfl, Nat.le_of_ble_eq_true rfl⟩ rfl hl.1 rfl (Nat.le_of_ble_eq_true rfl) ⟨Nat.zero_le _, Nat.zero_le _⟩ d_X11_reads_59) hS (fun x482 v483 H locs hp481 hw hS => ?_)
            obtain ⟨hI484, hK485, hp481, hk486⟩ := hp481
            have hK487 : Kp v v483 := Kp.tr hK473 hK485
            have hm488 : v483 400 (34) = g0 := hk486.trans hm474
            refine lv_if_ne (tgt := 67) hx hb d_X11_reads_62 (by decide) (fun c489 => ?_) (fun c489 => ?_)
            · have f490 := i_ne c489
              have r491 : Rg x482 1 1 := by obtain ⟨a1, a2⟩ := hp481; obtain ⟨b1, b2⟩ := (⟨by decide, by decide⟩ : Rg 0 0 0); have f := i_ne c489; exact ⟨by omega, by omega⟩
              refine lv_aload_n hx hb d_X11_reads_67 rfl (lv_at hl 0 rfl) ?_
              refine lv_bipush (v := 59) hx hb d_X11_reads_68 (by decide) ?_
              refine r_ci (r_runV (n := 1) (As := [.int 59]) (rest := []) X hw (ct_X11_takes_400 l D dA ad v483 hI484 59) gc_X11_205 (rfl : KD 400 = _) (by decide) rfl (by decide +kernel) ⟨rfl, rfl, Nat.le_of_ble_eq_true rfl, Nat.le_of_ble_eq_true rfl⟩ rfl hl.1 rfl (Nat.le_of_ble_eq_true rfl) ⟨Nat.zero_le _, Nat.zero_le _⟩ d_X11_reads_70) hS (fun x493 v494 H locs hp492 hw hS => ?_)
              obtain ⟨hI495, hK496, hp492, hk497, hF498⟩ := hp492
              have hK499 : Kp v v494 := Kp.tr hK487 hK496
              have hm500 : v494 400 (34) = g0 := hk497.trans hm488
              refine lv_if_eq (tgt := 121) hx hb d_X11_reads_73 (by decide) (fun c501 => ?_) (fun c501 => ?_)
              · have f502 := i_eq c501
                have r503 : Rg x493 0 0 := by obtain ⟨a1, a2⟩ := hp492; obtain ⟨b1, b2⟩ := (⟨by decide, by decide⟩ : Rg 0 0 0); have f := i_eq c501; exact ⟨by omega, by omega⟩
                refine lv_iconst (v := 0) hx hb d_X11_reads_121 (by decide) ?_
                exact r_zret X hr hlocks hw hS rfl ⟨hI495, hK499, (rg_w (⟨by decide, by decide⟩ : Rg 0 0 0) (by decide) (by decide)), (hm500.trans hg0.symm)⟩ d_X11_reads_122
              · have f504 := i_ne c501
                have r505 : Rg x493 1 1 := by obtain ⟨a1, a2⟩ := hp492; obtain ⟨b1, b2⟩ := (⟨by decide, by decide⟩ : Rg 0 0 0); have f := i_ne c501; exact ⟨by omega, by omega⟩
                refine lv_aload_n hx hb d_X11_reads_76 rfl (lv_at hl 0 rfl) ?_
                refine lv_bipush (v := 115) hx hb d_X11_reads_77 (by decide) ?_
                refine r_ci (r_runV (n := 1) (As := [.int 115]) (rest := []) X hw (ct_X11_takes_400 l D dA ad v494 hI495 115) gc_X11_205 (rfl : KD 400 = _) (by decide) rfl (by decide +kernel) ⟨rfl, rfl, Nat.le_of_ble_eq_true rfl, Nat.le_of_ble_eq_true rfl⟩ rfl hl.1 rfl (Nat.le_of_ble_eq_true rfl) ⟨Nat.zero_le _, Nat.zero_le _⟩ d_X11_reads_79) hS (fun x507 v508 H locs hp506 hw hS => ?_)
                obtain ⟨hI509, hK510, hp506, hk511, hF512⟩ := hp506
                have hK513 : Kp v v508 := Kp.tr hK499 hK510
                have hm514 : v508 400 (34) = g0 := hk511.trans hm500
                refine lv_if_eq (tgt := 121) hx hb d_X11_reads_82 (by decide) (fun c515 => ?_) (fun c515 => ?_)
                · have f516 := i_eq c515
                  have r517 : Rg x507 0 0 := by obtain ⟨a1, a2⟩ := hp506; obtain ⟨b1, b2⟩ := (⟨by decide, by decide⟩ : Rg 0 0 0); have f := i_eq c515; exact ⟨by omega, by omega⟩
                  refine lv_iconst (v := 0) hx hb d_X11_reads_121 (by decide) ?_
                  exact r_zret X hr hlocks hw hS rfl ⟨hI509, hK513, (rg_w (⟨by decide, by decide⟩ : Rg 0 0 0) (by decide) (by decide)), (hm514.trans hg0.symm)⟩ d_X11_reads_122
                · have f518 := i_ne c515
                  have r519 : Rg x507 1 1 := by obtain ⟨a1, a2⟩ := hp506; obtain ⟨b1, b2⟩ := (⟨by decide, by decide⟩ : Rg 0 0 0); have f := i_ne c515; exact ⟨by omega, by omega⟩
                  refine lv_aload_n hx hb d_X11_reads_85 rfl (lv_at hl 0 rfl) ?_
                  refine lv_bipush (v := 101) hx hb d_X11_reads_86 (by decide) ?_
                  refine r_ci (r_runV (n := 1) (As := [.int 101]) (rest := []) X hw (ct_X11_takes_400 l D dA ad v508 hI509 101) gc_X11_205 (rfl : KD 400 = _) (by decide) rfl (by decide +kernel) ⟨rfl, rfl, Nat.le_of_ble_eq_true rfl, Nat.le_of_ble_eq_true rfl⟩ rfl hl.1 rfl (Nat.le_of_ble_eq_true rfl) ⟨Nat.zero_le _, Nat.zero_le _⟩ d_X11_reads_88) hS (fun x521 v522 H locs hp520 hw hS => ?_)
                  obtain ⟨hI523, hK524, hp520, hk525, hF526⟩ := hp520
                  have hK527 : Kp v v522 := Kp.tr hK513 hK524
                  have hm528 : v522 400 (34) = g0 := hk525.trans hm514
                  refine lv_if_eq (tgt := 121) hx hb d_X11_reads_91 (by decide) (fun c529 => ?_) (fun c529 => ?_)
                  · have f530 := i_eq c529
                    have r531 : Rg x521 0 0 := by obtain ⟨a1, a2⟩ := hp520; obtain ⟨b1, b2⟩ := (⟨by decide, by decide⟩ : Rg 0 0 0); have f := i_eq c529; exact ⟨by omega, by omega⟩
                    refine lv_iconst (v := 0) hx hb d_X11_reads_121 (by decide) ?_
                    exact r_zret X hr hlocks hw hS rfl ⟨hI523, hK527, (rg_w (⟨by decide, by decide⟩ : Rg 0 0 0) (by decide) (by decide)), (hm528.trans hg0.symm)⟩ d_X11_reads_122
                  · have f532 := i_ne c529
                    have r533 : Rg x521 1 1 := by obtain ⟨a1, a2⟩ := hp520; obtain ⟨b1, b2⟩ := (⟨by decide, by decide⟩ : Rg 0 0 0); have f := i_ne c529; exact ⟨by omega, by omega⟩
                    refine lv_aload_n hx hb d_X11_reads_94 rfl (lv_at hl 0 rfl) ?_
                    refine lv_bipush (v := 108) hx hb d_X11_reads_95 (by decide) ?_
                    refine r_ci (r_runV (n := 1) (As := [.int 108]) (rest := []) X hw (ct_X11_takes_400 l D dA ad v522 hI523 108) gc_X11_205 (rfl : KD 400 = _) (by decide) rfl (by decide +kernel) ⟨rfl, rfl, Nat.le_of_ble_eq_true rfl, Nat.le_of_ble_eq_true rfl⟩ rfl hl.1 rfl (Nat.le_of_ble_eq_true rfl) ⟨Nat.zero_le _, Nat.zero_le _⟩ d_X11_reads_97) hS (fun x535 v536 H locs hp534 hw hS => ?_)
                    obtain ⟨hI537, hK538, hp534, hk539, hF540⟩ := hp534
                    have hK541 : Kp v v536 := Kp.tr hK527 hK538
                    have hm542 : v536 400 (34) = g0 := hk539.trans hm528
                    refine lv_if_eq (tgt := 121) hx hb d_X11_reads_100 (by decide) (fun c543 => ?_) (fun c543 => ?_)
                    · have f544 := i_eq c543
                      have r545 : Rg x535 0 0 := by obtain ⟨a1, a2⟩ := hp534; obtain ⟨b1, b2⟩ := (⟨by decide, by decide⟩ : Rg 0 0 0); have f := i_eq c543; exact ⟨by omega, by omega⟩
                      refine lv_iconst (v := 0) hx hb d_X11_reads_121 (by decide) ?_
                      exact r_zret X hr hlocks hw hS rfl ⟨hI537, hK541, (rg_w (⟨by decide, by decide⟩ : Rg 0 0 0) (by decide) (by decide)), (hm542.trans hg0.symm)⟩ d_X11_reads_122
                    · have f546 := i_ne c543
                      have r547 : Rg x535 1 1 := by obtain ⟨a1, a2⟩ := hp534; obtain ⟨b1, b2⟩ := (⟨by decide, by decide⟩ : Rg 0 0 0); have f := i_ne c543; exact ⟨by omega, by omega⟩
                      refine lv_aload_n hx hb d_X11_reads_103 rfl (lv_at hl 0 rfl) ?_
                      refine lv_bipush (v := 108) hx hb d_X11_reads_104 (by decide) ?_
                      refine r_ci (r_runV (n := 1) (As := [.int 108]) (rest := []) X hw (ct_X11_takes_400 l D dA ad v536 hI537 108) gc_X11_205 (rfl : KD 400 = _) (by decide) rfl (by decide +kernel) ⟨rfl, rfl, Nat.le_of_ble_eq_true rfl, Nat.le_of_ble_eq_true rfl⟩ rfl hl.1 rfl (Nat.le_of_ble_eq_true rfl) ⟨Nat.zero_le _, Nat.zero_le _⟩ d_X11_reads_106) hS (fun x549 v550 H locs hp548 hw hS => ?_)
                      obtain ⟨hI551, hK552, hp548, hk553, hF554⟩ := hp548
                      have hK555 : Kp v v550 := Kp.tr hK541 hK552
                      have hm556 : v550 400 (34) = g0 := hk553.trans hm542
                      refine lv_if_eq (tgt := 121) hx hb d_X11_reads_109 (by decide) (fun c557 => ?_) (fun c557 => ?_)
                      · have f558 := i_eq c557
                        have r559 : Rg x549 0 0 := by obtain ⟨a1, a2⟩ := hp548; obtain ⟨b1, b2⟩ := (⟨by decide, by decide⟩ : Rg 0 0 0); have f := i_eq c557; exact ⟨by omega, by omega⟩
                        refine lv_iconst (v := 0) hx hb d_X11_reads_121 (by decide) ?_
                        exact r_zret X hr hlocks hw hS rfl ⟨hI551, hK555, (rg_w (⟨by decide, by decide⟩ : Rg 0 0 0) (by decide) (by decide)), (hm556.trans hg0.symm)⟩ d_X11_reads_122
                      · have f560 := i_ne c557
                        have r561 : Rg x549 1 1 := by obtain ⟨a1, a2⟩ := hp548; obtain ⟨b1, b2⟩ := (⟨by decide, by decide⟩ : Rg 0 0 0); have f := i_ne c557; exact ⟨by omega, by omega⟩
                        refine lv_aload_n hx hb d_X11_reads_112 rfl (lv_at hl 0 rfl) ?_
                        refine lv_bipush (v := 32) hx hb d_X11_reads_113 (by decide) ?_
                        refine r_ci (r_runV (n := 1) (As := [.int 32]) (rest := []) X hw (ct_X11_takes_400 l D dA ad v550 hI551 32) gc_X11_205 (rfl : KD 400 = _) (by decide) rfl (by decide +kernel) ⟨rfl, rfl, Nat.le_of_ble_eq_true rfl, Nat.le_of_ble_eq_true rfl⟩ rfl hl.1 rfl (Nat.le_of_ble_eq_true rfl) ⟨Nat.zero_le _, Nat.zero_le _⟩ d_X11_reads_115) hS (fun x563 v564 H locs hp562 hw hS => ?_)
                        obtain ⟨hI565, hK566, hp562, hk567, hF568⟩ := hp562
                        have hK569 : Kp v v564 := Kp.tr hK555 hK566
                        have hm570 : v564 400 (34) = g0 := hk567.trans hm556
                        refine lv_if_ne (tgt := 123) hx hb d_X11_reads_118 (by decide) (fun c571 => ?_) (fun c571 => ?_)
                        · have f572 := i_ne c571
                          have r573 : Rg x563 1 1 := by obtain ⟨a1, a2⟩ := hp562; obtain ⟨b1, b2⟩ := (⟨by decide, by decide⟩ : Rg 0 0 0); have f := i_ne c571; exact ⟨by omega, by omega⟩
                          obtain ⟨x574, ex574⟩ : ∃ z, v564 438 (od.toNatClampNeg) = z := ⟨_, rfl⟩
                          have r575 : Rg x574 0 3 := by rw [← ex574]; exact hI565 _ _ _ _ rfl
                          exact ih0 x574 v564 _ _ _ (by omega) r575 hI565 hK569 ex574 hm570 hw hS (lv_sub hl [0, 1] rfl)
                        · have f576 := i_eq c571
                          have r577 : Rg x563 0 0 := by obtain ⟨a1, a2⟩ := hp562; obtain ⟨b1, b2⟩ := (⟨by decide, by decide⟩ : Rg 0 0 0); have f := i_eq c571; exact ⟨by omega, by omega⟩
                          refine lv_iconst (v := 0) hx hb d_X11_reads_121 (by decide) ?_
                          exact r_zret X hr hlocks hw hS rfl ⟨hI565, hK569, (rg_w (⟨by decide, by decide⟩ : Rg 0 0 0) (by decide) (by decide)), (hm570.trans hg0.symm)⟩ d_X11_reads_122
            · have f578 := i_eq c489
              have r579 : Rg x482 0 0 := by obtain ⟨a1, a2⟩ := hp481; obtain ⟨b1, b2⟩ := (⟨by decide, by decide⟩ : Rg 0 0 0); have f := i_eq c489; exact ⟨by omega, by omega⟩
              refine lv_iconst (v := 0) hx hb d_X11_reads_65 (by decide) ?_
              exact r_zret X hr hlocks hw hS rfl ⟨hI484, hK487, (rg_w (⟨by decide, by decide⟩ : Rg 0 0 0) (by decide) (by decide)), (hm488.trans hg0.symm)⟩ d_X11_reads_66
theorem d_X11_order_0 : decode c_X11_order 0 = .ok (.iload_n 1, 1) := by decide +kernel
theorem d_X11_order_1 : decode c_X11_order 1 = .ok (.iconst 0, 1) := by decide +kernel
theorem d_X11_order_2 : decode c_X11_order 2 = .ok (.sipush 999, 3) := by decide +kernel
theorem d_X11_order_5 : decode c_X11_order 5 = .ok (.invokestatic 169, 3) := by decide +kernel
theorem d_X11_order_8 : decode c_X11_order 8 = .ok (.ifCond .ne 6, 3) := by decide +kernel
theorem d_X11_order_11 : decode c_X11_order 11 = .ok (.bipush (-2), 2) := by decide +kernel
theorem d_X11_order_13 : decode c_X11_order 13 = .ok (.ireturn, 1) := by decide +kernel
theorem d_X11_order_14 : decode c_X11_order 14 = .ok (.aload_n 0, 1) := by decide +kernel
theorem d_X11_order_15 : decode c_X11_order 15 = .ok (.getfield 214, 3) := by decide +kernel
theorem d_X11_order_18 : decode c_X11_order 18 = .ok (.bipush 8, 2) := by decide +kernel
theorem d_X11_order_20 : decode c_X11_order 20 = .ok (.if_icmp .ne 6, 3) := by decide +kernel
theorem d_X11_order_23 : decode c_X11_order 23 = .ok (.bipush (-4), 2) := by decide +kernel
theorem d_X11_order_25 : decode c_X11_order 25 = .ok (.ireturn, 1) := by decide +kernel
theorem d_X11_order_26 : decode c_X11_order 26 = .ok (.aload_n 0, 1) := by decide +kernel
theorem d_X11_order_27 : decode c_X11_order 27 = .ok (.aload_n 0, 1) := by decide +kernel
theorem d_X11_order_28 : decode c_X11_order 28 = .ok (.getfield 214, 3) := by decide +kernel
theorem d_X11_order_31 : decode c_X11_order 31 = .ok (.invokevirtual 217, 3) := by decide +kernel
theorem d_X11_order_34 : decode c_X11_order 34 = .ok (.istore_n 2, 1) := by decide +kernel
theorem d_X11_order_35 : decode c_X11_order 35 = .ok (.aload_n 0, 1) := by decide +kernel
theorem d_X11_order_36 : decode c_X11_order 36 = .ok (.iconst 0, 1) := by decide +kernel
theorem d_X11_order_37 : decode c_X11_order 37 = .ok (.putfield 190, 3) := by decide +kernel
theorem d_X11_order_40 : decode c_X11_order 40 = .ok (.iload_n 2, 1) := by decide +kernel
theorem d_X11_order_41 : decode c_X11_order 41 = .ok (.ifCond .ne 11, 3) := by decide +kernel
theorem d_X11_order_44 : decode c_X11_order 44 = .ok (.bipush (-10), 2) := by decide +kernel
theorem d_X11_order_46 : decode c_X11_order 46 = .ok (.aload_n 0, 1) := by decide +kernel
theorem d_X11_order_47 : decode c_X11_order 47 = .ok (.getfield 193, 3) := by decide +kernel
theorem d_X11_order_50 : decode c_X11_order 50 = .ok (.isub, 1) := by decide +kernel
theorem d_X11_order_51 : decode c_X11_order 51 = .ok (.ireturn, 1) := by decide +kernel
theorem d_X11_order_52 : decode c_X11_order 52 = .ok (.aload_n 0, 1) := by decide +kernel
theorem d_X11_order_53 : decode c_X11_order 53 = .ok (.getfield 96, 3) := by decide +kernel
theorem d_X11_order_56 : decode c_X11_order 56 = .ok (.aload_n 0, 1) := by decide +kernel
theorem d_X11_order_57 : decode c_X11_order 57 = .ok (.getfield 214, 3) := by decide +kernel
theorem d_X11_order_60 : decode c_X11_order 60 = .ok (.iload_n 1, 1) := by decide +kernel
theorem d_X11_order_61 : decode c_X11_order 61 = .ok (.iastore, 1) := by decide +kernel
theorem d_X11_order_62 : decode c_X11_order 62 = .ok (.aload_n 0, 1) := by decide +kernel
theorem d_X11_order_63 : decode c_X11_order 63 = .ok (.dup, 1) := by decide +kernel
theorem d_X11_order_64 : decode c_X11_order 64 = .ok (.getfield 214, 3) := by decide +kernel
theorem d_X11_order_67 : decode c_X11_order 67 = .ok (.iconst 1, 1) := by decide +kernel
theorem d_X11_order_68 : decode c_X11_order 68 = .ok (.iadd, 1) := by decide +kernel
theorem d_X11_order_69 : decode c_X11_order 69 = .ok (.putfield 214, 3) := by decide +kernel
theorem d_X11_order_72 : decode c_X11_order 72 = .ok (.aload_n 0, 1) := by decide +kernel
theorem d_X11_order_73 : decode c_X11_order 73 = .ok (.getfield 214, 3) := by decide +kernel
theorem d_X11_order_76 : decode c_X11_order 76 = .ok (.iconst 1, 1) := by decide +kernel
theorem d_X11_order_77 : decode c_X11_order 77 = .ok (.isub, 1) := by decide +kernel
theorem d_X11_order_78 : decode c_X11_order 78 = .ok (.ireturn, 1) := by decide +kernel
set_option maxHeartbeats 4000000 in
set_option maxRecDepth 100000 in
theorem ct_X11_order_400 (l : Launch) (D : va_G) (dA : Nat → ClassId) (ad : Nat → Nat) (v : tV) (hI : Inv v) (dy : Int32) : Met l m_X11_order [.code m_X11_order c_X11_order 3 (some .int)] ({ frames := 5, cells := 0, slots := 0, locals := 126 } : Room) (tP D dA ad v [.ref (ad 400), .int dy]) (tQi D dA ad (fun r v' => Inv v')) 0 0 (tA ad) := by
  refine tMet (by decide) (Nat.le_of_ble_eq_true rfl) ?_
  intro p e s m below meth c ls X hr hlocks hw hl
  have X : CX p s m ([.ref (ad 400), .int dy] : List Value).toArray c c_X11_order N_X11 3 D dA := X
  have hx := X.1
  have hb := X.2.1
  have hS : va_S (tA ad) s.heap s.heap [] := va_S.rf
  have hl : lv_has ls 3 [(0, .ref (ad 400)), (1, .int dy)] := hl
  refine lv_iload_n hx hb d_X11_order_0 rfl (lv_at hl 1 rfl) ?_
  refine lv_iconst (v := 0) hx hb d_X11_order_1 (by decide) ?_
  refine lv_sipush (v := 999) hx hb d_X11_order_2 (by decide) ?_
  refine r_ci (r_runS (n := 3) (As := [.int dy, .int 0, .int 999]) (rest := []) X hw (ct_X11_in l D dA ad v hI dy 0 999) gc_X11_169 (by decide +kernel) ⟨rfl, rfl, Nat.le_of_ble_eq_true rfl, Nat.le_of_ble_eq_true rfl⟩ rfl hl.1 rfl (Nat.le_of_ble_eq_true rfl) ⟨Nat.zero_le _, Nat.zero_le _⟩ d_X11_order_5) hS (fun x2 v3 H locs hp1 hw hS => ?_)
  obtain ⟨ev3, hp1⟩ := hp1
  rw [ev3] at hw
  rcases hp1 with ⟨rfl, w4a, w4b⟩ | ⟨rfl, w4n⟩
  · skip
    have r5 : Rg dy 0 999 := by obtain ⟨_, _⟩ := (rg_any dy); have : (0 : Int32).toInt = 0 := rfl; have : (999 : Int32).toInt = 999 := rfl; exact ⟨by omega, by omega⟩
    refine lv_if_ne (tgt := 14) hx hb d_X11_order_8 (by decide) (fun c6 => ?_) (fun c6 => ?_)
    · refine lv_aload_n hx hb d_X11_order_14 rfl (lv_at hl 0 rfl) ?_
      refine r_geti X hw FL_X11_214 (rfl : KD 400 = _) rfl d_X11_order_15 ?_
      refine lv_topi (fun x7 ex7 => ?_)
      have r8 : Rg x7 0 8 := by rw [ex7]; exact hI _ _ _ _ rfl
      have hm9 : v 400 34 = x7 := ex7.symm
      refine lv_bipush (v := 8) hx hb d_X11_order_18 (by decide) ?_
      refine lv_icmp_ne (tgt := 26) hx hb d_X11_order_20 (by decide) (fun c10 => ?_) (fun c10 => ?_)
      · have f11 := i_ne c10
        have r12 : Rg x7 0 7 := by obtain ⟨a1, a2⟩ := r8; obtain ⟨b1, b2⟩ := (⟨by decide, by decide⟩ : Rg 8 8 8); have f := i_ne c10; exact ⟨by omega, by omega⟩
        refine lv_aload_n hx hb d_X11_order_26 rfl (lv_at hl 0 rfl) ?_
        refine lv_aload_n hx hb d_X11_order_27 rfl (lv_at hl 0 rfl) ?_
        refine r_geti X hw FL_X11_214 (rfl : KD 400 = _) rfl d_X11_order_28 ?_
        rw [hm9]
        refine r_ci (r_runV (n := 1) (As := [.int x7]) (rest := []) X hw (ct_X11_reads_400 l D dA ad v hI x7 r12) gc_X11_217 (rfl : KD 400 = _) (by decide) rfl (by decide +kernel) ⟨rfl, rfl, Nat.le_of_ble_eq_true rfl, Nat.le_of_ble_eq_true rfl⟩ rfl hl.1 rfl (Nat.le_of_ble_eq_true rfl) ⟨Nat.zero_le _, Nat.zero_le _⟩ d_X11_order_31) hS (fun x14 v15 H locs hp13 hw hS => ?_)
        obtain ⟨hI16, hK17, hp13, hk18⟩ := hp13
        have hm19 : v15 400 (34) = x7 := hk18.trans hm9
        refine lv_istore_n (lv' := [(2, .int x14), (0, .ref (ad 400)), (1, .int dy)]) hx hb d_X11_order_34 rfl hl (by decide) rfl (fun ls hl => ?_)
        refine lv_aload_n hx hb d_X11_order_35 rfl (lv_at hl 1 rfl) ?_
        refine lv_iconst (v := 0) hx hb d_X11_order_36 (by decide) ?_
        refine r_put X hw hS FP_X11_190 (rfl : KD 400 = _) rfl ⟨rfl, rfl⟩ d_X11_order_37 (fun H locs hw hS => ?_)
        obtain ⟨v20, ev20⟩ : ∃ z, z = up2 v15 400 33 0 := ⟨_, rfl⟩
        rw [← ev20] at hw
        have hI21 : Inv v20 := by rw [ev20]; exact Inv.putr hI16 rfl (rg_w (⟨by decide, by decide⟩ : Rg 0 0 0) (by decide) (by decide))
        have hm22 : v20 400 34 = x7 := by rw [ev20, up2_n _ _ (by omega)]; exact hm19
        have hm23 : v20 400 33 = 0 := by rw [ev20, up2_s]
        refine lv_iload_n hx hb d_X11_order_40 rfl (lv_at hl 0 rfl) ?_
        refine lv_if_ne (tgt := 52) hx hb d_X11_order_41 (by decide) (fun c24 => ?_) (fun c24 => ?_)
        · have f25 := i_ne c24
          have r26 : Rg x14 1 1 := by obtain ⟨a1, a2⟩ := hp13; obtain ⟨b1, b2⟩ := (⟨by decide, by decide⟩ : Rg 0 0 0); have f := i_ne c24; exact ⟨by omega, by omega⟩
          refine lv_aload_n hx hb d_X11_order_52 rfl (lv_at hl 1 rfl) ?_
          refine r_getr (r := 436) X hw FL_X11_96 (rfl : KD 400 = _) rfl d_X11_order_53 ?_
          refine lv_aload_n hx hb d_X11_order_56 rfl (lv_at hl 1 rfl) ?_
          refine r_geti X hw FL_X11_214 (rfl : KD 400 = _) rfl d_X11_order_57 ?_
          rw [hm22]
          refine lv_iload_n hx hb d_X11_order_60 rfl (lv_at hl 2 rfl) ?_
          refine r_iast X hw hS (rfl : KD 436 = _) (Rg.vp (b := 7) r12 (by decide)) rfl d_X11_order_61 (fun H locs hw hS => ?_)
          obtain ⟨v27, ev27⟩ : ∃ z, z = up2 v20 436 x7.toNatClampNeg dy := ⟨_, rfl⟩
          rw [← ev27] at hw
          have hI28 : Inv v27 := by rw [ev27]; exact Inv.put0 hI21 _ rfl
          have hm29 : v27 400 34 = x7 := by rw [ev27, up2_n _ _ (by omega)]; exact hm22
          have hm30 : v27 400 33 = 0 := by rw [ev27, up2_n _ _ (by omega)]; exact hm23
          refine lv_aload_n hx hb d_X11_order_62 rfl (lv_at hl 1 rfl) ?_
          refine lv_dup hx hb d_X11_order_63 rfl ?_
          refine r_geti X hw FL_X11_214 (rfl : KD 400 = _) rfl d_X11_order_64 ?_
          rw [hm29]
          refine lv_iconst (v := 1) hx hb d_X11_order_67 (by decide) ?_
          refine lv_iadd hx hb d_X11_order_68 ?_
          refine lv_topi (fun x31 ex31 => ?_)
          have r32 : Rg x31 1 8 := rg_add ex31 r12 (⟨by decide, by decide⟩ : Rg 1 1 1) (by decide) (by decide)
          have s33 : x31.toInt = x7.toInt + (1 : Int32).toInt := by rw [ex31]; exact i_add (by obtain ⟨_, _⟩ := r12; obtain ⟨_, _⟩ := (⟨by decide, by decide⟩ : Rg 1 1 1); omega) (by obtain ⟨_, _⟩ := r12; obtain ⟨_, _⟩ := (⟨by decide, by decide⟩ : Rg 1 1 1); omega)
          have s33l : (1 : Int32).toInt = 1 := rfl
          refine r_put X hw hS FP_X11_214 (rfl : KD 400 = _) rfl ⟨rfl, rfl⟩ d_X11_order_69 (fun H locs hw hS => ?_)
          obtain ⟨v34, ev34⟩ : ∃ z, z = up2 v27 400 34 x31 := ⟨_, rfl⟩
          rw [← ev34] at hw
          have hI35 : Inv v34 := by rw [ev34]; exact Inv.putr hI28 rfl (rg_w r32 (by decide) (by decide))
          have hm36 : v34 400 33 = 0 := by rw [ev34, up2_n _ _ (by omega)]; exact hm30
          have hm37 : v34 400 34 = x31 := by rw [ev34, up2_s]
          refine lv_aload_n hx hb d_X11_order_72 rfl (lv_at hl 1 rfl) ?_
          refine r_geti X hw FL_X11_214 (rfl : KD 400 = _) rfl d_X11_order_73 ?_
          rw [hm37]
          refine lv_iconst (v := 1) hx hb d_X11_order_76 (by decide) ?_
          refine lv_isub hx hb d_X11_order_77 ?_
          refine lv_topi (fun x38 ex38 => ?_)
          have r39 : Rg x38 0 7 := rg_sub ex38 r32 (⟨by decide, by decide⟩ : Rg 1 1 1) (by decide) (by decide)
          have s40 : x38.toInt = x31.toInt - (1 : Int32).toInt := by rw [ex38]; exact i_sub (by obtain ⟨_, _⟩ := r32; obtain ⟨_, _⟩ := (⟨by decide, by decide⟩ : Rg 1 1 1); omega) (by obtain ⟨_, _⟩ := r32; obtain ⟨_, _⟩ := (⟨by decide, by decide⟩ : Rg 1 1 1); omega)
          have s40l : (1 : Int32).toInt = 1 := rfl
          exact r_iret X hr hlocks hw hS hI35 d_X11_order_78
        · have f41 := i_eq c24
          have r42 : Rg x14 0 0 := by obtain ⟨a1, a2⟩ := hp13; obtain ⟨b1, b2⟩ := (⟨by decide, by decide⟩ : Rg 0 0 0); have f := i_eq c24; exact ⟨by omega, by omega⟩
          refine lv_bipush (v := -10) hx hb d_X11_order_44 (by decide) ?_
          refine lv_aload_n hx hb d_X11_order_46 rfl (lv_at hl 1 rfl) ?_
          refine r_geti X hw FL_X11_193 (rfl : KD 400 = _) rfl d_X11_order_47 ?_
          refine lv_topi (fun x43 ex43 => ?_)
          have r44 : Rg x43 0 120 := by rw [ex43]; exact hI21 _ _ _ _ rfl
          have hm45 : v20 400 42 = x43 := ex43.symm
          refine lv_isub hx hb d_X11_order_50 ?_
          refine lv_topi (fun x46 ex46 => ?_)
          have r47 : Rg x46 (-130) (-10) := rg_sub ex46 (⟨by decide, by decide⟩ : Rg (-10) (-10) (-10)) r44 (by decide) (by decide)
          have s48 : x46.toInt = (-10).toInt - (x43 : Int32).toInt := by rw [ex46]; exact i_sub (by obtain ⟨_, _⟩ := (⟨by decide, by decide⟩ : Rg (-10) (-10) (-10)); obtain ⟨_, _⟩ := r44; omega) (by obtain ⟨_, _⟩ := (⟨by decide, by decide⟩ : Rg (-10) (-10) (-10)); obtain ⟨_, _⟩ := r44; omega)
          exact r_iret X hr hlocks hw hS hI21 d_X11_order_51
      · have f49 := i_eq c10
        have r50 : Rg x7 8 8 := by obtain ⟨a1, a2⟩ := r8; obtain ⟨b1, b2⟩ := (⟨by decide, by decide⟩ : Rg 8 8 8); have f := i_eq c10; exact ⟨by omega, by omega⟩
        refine lv_bipush (v := -4) hx hb d_X11_order_23 (by decide) ?_
        exact r_iret X hr hlocks hw hS hI d_X11_order_25
    · exact absurd c6 (by decide)
  · skip
    refine lv_if_ne (tgt := 14) hx hb d_X11_order_8 (by decide) (fun c51 => ?_) (fun c51 => ?_)
    · exact absurd c51 (by decide)
    · refine lv_bipush (v := -2) hx hb d_X11_order_11 (by decide) ?_
      exact r_iret X hr hlocks hw hS hI d_X11_order_13
theorem d_X11_feed_0 : decode c_X11_feed 0 = .ok (.iload_n 3, 1) := by decide +kernel
theorem d_X11_feed_1 : decode c_X11_feed 1 = .ok (.iconst 1, 1) := by decide +kernel
theorem d_X11_feed_2 : decode c_X11_feed 2 = .ok (.bipush 8, 2) := by decide +kernel
theorem d_X11_feed_4 : decode c_X11_feed 4 = .ok (.invokestatic 169, 3) := by decide +kernel
theorem d_X11_feed_7 : decode c_X11_feed 7 = .ok (.ifCond .ne 6, 3) := by decide +kernel
theorem d_X11_feed_10 : decode c_X11_feed 10 = .ok (.bipush (-2), 2) := by decide +kernel
theorem d_X11_feed_12 : decode c_X11_feed 12 = .ok (.ireturn, 1) := by decide +kernel
theorem d_X11_feed_13 : decode c_X11_feed 13 = .ok (.aload_n 0, 1) := by decide +kernel
theorem d_X11_feed_14 : decode c_X11_feed 14 = .ok (.getfield 190, 3) := by decide +kernel
theorem d_X11_feed_17 : decode c_X11_feed 17 = .ok (.iload_n 3, 1) := by decide +kernel
theorem d_X11_feed_18 : decode c_X11_feed 18 = .ok (.iadd, 1) := by decide +kernel
theorem d_X11_feed_19 : decode c_X11_feed 19 = .ok (.bipush 120, 2) := by decide +kernel
theorem d_X11_feed_21 : decode c_X11_feed 21 = .ok (.if_icmp .le 6, 3) := by decide +kernel
theorem d_X11_feed_24 : decode c_X11_feed 24 = .ok (.bipush (-4), 2) := by decide +kernel
theorem d_X11_feed_26 : decode c_X11_feed 26 = .ok (.ireturn, 1) := by decide +kernel
theorem d_X11_feed_27 : decode c_X11_feed 27 = .ok (.iload_n 3, 1) := by decide +kernel
theorem d_X11_feed_28 : decode c_X11_feed 28 = .ok (.iconst 1, 1) := by decide +kernel
theorem d_X11_feed_29 : decode c_X11_feed 29 = .ok (.isub, 1) := by decide +kernel
theorem d_X11_feed_30 : decode c_X11_feed 30 = .ok (.istore 4, 2) := by decide +kernel
theorem d_X11_feed_32 : decode c_X11_feed 32 = .ok (.iload 4, 2) := by decide +kernel
theorem d_X11_feed_34 : decode c_X11_feed 34 = .ok (.ifCond .lt 37, 3) := by decide +kernel
theorem d_X11_feed_37 : decode c_X11_feed 37 = .ok (.aload_n 0, 1) := by decide +kernel
theorem d_X11_feed_38 : decode c_X11_feed 38 = .ok (.getfield 92, 3) := by decide +kernel
theorem d_X11_feed_41 : decode c_X11_feed 41 = .ok (.aload_n 0, 1) := by decide +kernel
theorem d_X11_feed_42 : decode c_X11_feed 42 = .ok (.getfield 190, 3) := by decide +kernel
theorem d_X11_feed_45 : decode c_X11_feed 45 = .ok (.lload_n 1, 1) := by decide +kernel
theorem d_X11_feed_46 : decode c_X11_feed 46 = .ok (.bipush 8, 2) := by decide +kernel
theorem d_X11_feed_48 : decode c_X11_feed 48 = .ok (.iload 4, 2) := by decide +kernel
theorem d_X11_feed_50 : decode c_X11_feed 50 = .ok (.imul, 1) := by decide +kernel
theorem d_X11_feed_51 : decode c_X11_feed 51 = .ok (.lshr, 1) := by decide +kernel
theorem d_X11_feed_52 : decode c_X11_feed 52 = .ok (.l2i, 1) := by decide +kernel
theorem d_X11_feed_53 : decode c_X11_feed 53 = .ok (.i2b, 1) := by decide +kernel
theorem d_X11_feed_54 : decode c_X11_feed 54 = .ok (.bastore, 1) := by decide +kernel
theorem d_X11_feed_55 : decode c_X11_feed 55 = .ok (.aload_n 0, 1) := by decide +kernel
theorem d_X11_feed_56 : decode c_X11_feed 56 = .ok (.dup, 1) := by decide +kernel
theorem d_X11_feed_57 : decode c_X11_feed 57 = .ok (.getfield 190, 3) := by decide +kernel
theorem d_X11_feed_60 : decode c_X11_feed 60 = .ok (.iconst 1, 1) := by decide +kernel
theorem d_X11_feed_61 : decode c_X11_feed 61 = .ok (.iadd, 1) := by decide +kernel
theorem d_X11_feed_62 : decode c_X11_feed 62 = .ok (.putfield 190, 3) := by decide +kernel
theorem d_X11_feed_65 : decode c_X11_feed 65 = .ok (.iinc 4 (-1), 3) := by decide +kernel
theorem d_X11_feed_68 : decode c_X11_feed 68 = .ok (.goto (-36), 3) := by decide +kernel
theorem d_X11_feed_71 : decode c_X11_feed 71 = .ok (.aload_n 0, 1) := by decide +kernel
theorem d_X11_feed_72 : decode c_X11_feed 72 = .ok (.getfield 190, 3) := by decide +kernel
theorem d_X11_feed_75 : decode c_X11_feed 75 = .ok (.ireturn, 1) := by decide +kernel
set_option maxHeartbeats 4000000 in
set_option maxRecDepth 100000 in
theorem ct_X11_feed_400 (l : Launch) (D : va_G) (dA : Nat → ClassId) (ad : Nat → Nat) (v : tV) (hI : Inv v) (w : Int64) (cnt : Int32) : Met l m_X11_feed [.code m_X11_feed c_X11_feed 5 (some .int)] ({ frames := 2, cells := 0, slots := 0, locals := 62 } : Room) (tP D dA ad v [.ref (ad 400), .long w, .int cnt]) (tQi D dA ad (fun r v' => Inv v')) 0 0 (tA ad) := by
  refine tMet (by decide) (Nat.le_of_ble_eq_true rfl) ?_
  intro p e s m below meth c ls X hr hlocks hw hl
  have X : CX p s m ([.ref (ad 400), .long w, .int cnt] : List Value).toArray c c_X11_feed N_X11 5 D dA := X
  have hx := X.1
  have hb := X.2.1
  have hS : va_S (tA ad) s.heap s.heap [] := va_S.rf
  have hl : lv_has ls 5 [(0, .ref (ad 400)), (1, .long w), (3, .int cnt)] := hl
  have LL : ∀ n : Nat, (∀ (y4 : Int32) (m0 : Int32) (v1 : tV) (H : Heap) (locs : List Loc) (ls : Array Slot), (y4.toInt + 1).toNat < n → Rg y4 (-1) 7 → Rg m0 0 120 → Inv v1 → v1 400 33 = m0 → m0.toInt + y4.toInt + 1 ≤ 120 → tI D dA ad v1 H → va_S (tA ad) s.heap H locs → lv_has ls 5 [(0, .ref (ad 400)), (1, .long w), (3, .int cnt), (4, .int y4)] → W p l e ({ frames := 2, cells := 0, slots := 0, locals := 62 } : Room) s m ([.ref (ad 400), .long w, .int cnt] : List Value).toArray below meth c H locs 0 0 (MQ below (tQi D dA ad (fun r v' => Inv v')) ([.ref (ad 400), .long w, .int cnt] : List Value).toArray s 0 0 (tA ad)) (F0 m 32 ls [])) := by
    intro n
    induction n with
    | zero => intros; omega
    | succ n ih =>
      have ih0 := ih
      intro y4 m0 v1 H locs ls hmu r_y4 r_m0 hI1 h_m0 hex hw hS hl
      refine lv_iload hx hb d_X11_feed_32 (lv_at hl 3 rfl) ?_
      refine lv_if_lt (tgt := 71) hx hb d_X11_feed_34 (by decide) (fun c1 => ?_) (fun c1 => ?_)
      · have f2 := i_lt c1
        have r3 : Rg y4 (-1) (-1) := by obtain ⟨a1, a2⟩ := r_y4; obtain ⟨b1, b2⟩ := (⟨by decide, by decide⟩ : Rg 0 0 0); have f := i_lt c1; exact ⟨by omega, by omega⟩
        refine lv_aload_n hx hb d_X11_feed_71 rfl (lv_at hl 0 rfl) ?_
        refine r_geti X hw FL_X11_190 (rfl : KD 400 = _) rfl d_X11_feed_72 ?_
        rw [h_m0]
        exact r_iret X hr hlocks hw hS hI1 d_X11_feed_75
      · have f4 := i_nlt c1
        have r5 : Rg y4 0 7 := by obtain ⟨a1, a2⟩ := r_y4; obtain ⟨b1, b2⟩ := (⟨by decide, by decide⟩ : Rg 0 0 0); have f := i_nlt c1; exact ⟨by omega, by omega⟩
        have r6 : Rg m0 0 119 := by obtain ⟨_, _⟩ := r_m0; obtain ⟨_, _⟩ := r5; exact ⟨by omega, by omega⟩
        refine lv_aload_n hx hb d_X11_feed_37 rfl (lv_at hl 0 rfl) ?_
        refine r_getr (r := 433) X hw FL_X11_92 (rfl : KD 400 = _) rfl d_X11_feed_38 ?_
        refine lv_aload_n hx hb d_X11_feed_41 rfl (lv_at hl 0 rfl) ?_
        refine r_geti X hw FL_X11_190 (rfl : KD 400 = _) rfl d_X11_feed_42 ?_
        rw [h_m0]
        refine lv_lload_n hx hb d_X11_feed_45 rfl (lv_at hl 1 rfl) ?_
        refine lv_bipush (v := 8) hx hb d_X11_feed_46 (by decide) ?_
        refine lv_iload hx hb d_X11_feed_48 (lv_at hl 3 rfl) ?_
        refine lv_imul hx hb d_X11_feed_50 ?_
        refine lv_topi (fun x7 ex7 => ?_)
        have r8 : Rg x7 0 56 := rg_mulc ex7 (⟨by decide, by decide⟩ : Rg 8 8 8) r5 (by decide) (by decide) (by decide)
        have s9 : x7.toInt = 8 * y4.toInt := rg_mule ex7 r5 rfl (by decide) (by decide)
        refine lv_lshr hx hb d_X11_feed_51 rfl ?_
        refine lv_topl (fun x10 ex10 => ?_)
        refine lv_l2i hx hb d_X11_feed_52 rfl ?_
        refine lv_topi (fun x11 ex11 => ?_)
        refine lv_i2b hx hb d_X11_feed_53 rfl ?_
        refine lv_topi (fun x12 ex12 => ?_)
        refine r_bast (y := x12)  X hw hS (rfl : KD 433 = _) (Rg.vp (b := 119) r6 (by decide)) rfl (pk_nb2 ex12) d_X11_feed_54 (fun H locs hw hS => ?_)
        obtain ⟨v13, ev13⟩ : ∃ z, z = up2 v1 433 m0.toNatClampNeg x12 := ⟨_, rfl⟩
        rw [← ev13] at hw
        have hI14 : Inv v13 := by rw [ev13]; exact Inv.put0 hI1 _ rfl
        have hm15 : v13 400 33 = m0 := by rw [ev13, up2_n _ _ (by omega)]; exact h_m0
        refine lv_aload_n hx hb d_X11_feed_55 rfl (lv_at hl 0 rfl) ?_
        refine lv_dup hx hb d_X11_feed_56 rfl ?_
        refine r_geti X hw FL_X11_190 (rfl : KD 400 = _) rfl d_X11_feed_57 ?_
        rw [hm15]
        refine lv_iconst (v := 1) hx hb d_X11_feed_60 (by decide) ?_
        refine lv_iadd hx hb d_X11_feed_61 ?_
        refine lv_topi (fun x16 ex16 => ?_)
        have r17 : Rg x16 1 120 := rg_add ex16 r6 (⟨by decide, by decide⟩ : Rg 1 1 1) (by decide) (by decide)
        have s18 : x16.toInt = m0.toInt + (1 : Int32).toInt := by rw [ex16]; exact i_add (by obtain ⟨_, _⟩ := r6; obtain ⟨_, _⟩ := (⟨by decide, by decide⟩ : Rg 1 1 1); omega) (by obtain ⟨_, _⟩ := r6; obtain ⟨_, _⟩ := (⟨by decide, by decide⟩ : Rg 1 1 1); omega)
        have s18l : (1 : Int32).toInt = 1 := rfl
        refine r_put X hw hS FP_X11_190 (rfl : KD 400 = _) rfl ⟨rfl, rfl⟩ d_X11_feed_62 (fun H locs hw hS => ?_)
        obtain ⟨v19, ev19⟩ : ∃ z, z = up2 v13 400 33 x16 := ⟨_, rfl⟩
        rw [← ev19] at hw
        have hI20 : Inv v19 := by rw [ev19]; exact Inv.putr hI14 rfl (rg_w r17 (by decide) (by decide))
        have hm21 : v19 400 33 = x16 := by rw [ev19, up2_s]
        obtain ⟨x22, ex22⟩ : ∃ y : Int32, y = y4 + -1 := ⟨_, rfl⟩
        refine lv_iinc (v := x22) (lv' := [(4, .int x22), (0, .ref (ad 400)), (1, .long w), (3, .int cnt)]) hx hb d_X11_feed_65 hl (k := 3) rfl (by rw [ex22]; rfl) (by decide) rfl (fun ls hl => ?_)
        have r23 : Rg x22 (-1) 6 := rg_add ex22 r5 (⟨by decide, by decide⟩ : Rg (-1) (-1) (-1)) (by decide) (by decide)
        have s24 : x22.toInt = y4.toInt + (-1 : Int32).toInt := by rw [ex22]; exact i_add (by obtain ⟨_, _⟩ := r5; obtain ⟨_, _⟩ := (⟨by decide, by decide⟩ : Rg (-1) (-1) (-1)); omega) (by obtain ⟨_, _⟩ := r5; obtain ⟨_, _⟩ := (⟨by decide, by decide⟩ : Rg (-1) (-1) (-1)); omega)
        have s24l : (-1 : Int32).toInt = (-1) := rfl
        refine lv_goto (tgt := 32) hx hb d_X11_feed_68 (by decide) ?_
        exact ih0 x22 x16 v19 _ _ _ (by have := s9; have := s18; have := s24; obtain ⟨_, _⟩ := r23; omega) (rg_w r23 (by decide) (by decide)) (rg_w r17 (by decide) (by decide)) hI20 hm21 (by obtain ⟨_, _⟩ := r5; obtain ⟨_, _⟩ := r6; obtain ⟨_, _⟩ := r8; obtain ⟨_, _⟩ := r17; obtain ⟨_, _⟩ := r23; omega) hw hS (lv_sub hl [1, 2, 3, 0] rfl)
  have ih0 := LL 100000
  refine lv_iload_n hx hb d_X11_feed_0 rfl (lv_at hl 2 rfl) ?_
  refine lv_iconst (v := 1) hx hb d_X11_feed_1 (by decide) ?_
  refine lv_bipush (v := 8) hx hb d_X11_feed_2 (by decide) ?_
  refine r_ci (r_runS (n := 3) (As := [.int cnt, .int 1, .int 8]) (rest := []) X hw (ct_X11_in l D dA ad v hI cnt 1 8) gc_X11_169 (by decide +kernel) ⟨rfl, rfl, Nat.le_of_ble_eq_true rfl, Nat.le_of_ble_eq_true rfl⟩ rfl hl.1 rfl (Nat.le_of_ble_eq_true rfl) ⟨Nat.zero_le _, Nat.zero_le _⟩ d_X11_feed_4) hS (fun x26 v27 H locs hp25 hw hS => ?_)
  obtain ⟨ev27, hp25⟩ := hp25
  rw [ev27] at hw
  rcases hp25 with ⟨rfl, w28a, w28b⟩ | ⟨rfl, w28n⟩
  · skip
    have r29 : Rg cnt 1 8 := by obtain ⟨_, _⟩ := (rg_any cnt); have : (1 : Int32).toInt = 1 := rfl; have : (8 : Int32).toInt = 8 := rfl; exact ⟨by omega, by omega⟩
    refine lv_if_ne (tgt := 13) hx hb d_X11_feed_7 (by decide) (fun c30 => ?_) (fun c30 => ?_)
    · refine lv_aload_n hx hb d_X11_feed_13 rfl (lv_at hl 0 rfl) ?_
      refine r_geti X hw FL_X11_190 (rfl : KD 400 = _) rfl d_X11_feed_14 ?_
      refine lv_topi (fun x31 ex31 => ?_)
      have r32 : Rg x31 0 120 := by rw [ex31]; exact hI _ _ _ _ rfl
      have hm33 : v 400 33 = x31 := ex31.symm
      refine lv_iload_n hx hb d_X11_feed_17 rfl (lv_at hl 2 rfl) ?_
      refine lv_iadd hx hb d_X11_feed_18 ?_
      refine lv_topi (fun x34 ex34 => ?_)
      have r35 : Rg x34 1 128 := rg_add ex34 r32 r29 (by decide) (by decide)
      have s36 : x34.toInt = x31.toInt + (cnt : Int32).toInt := by rw [ex34]; exact i_add (by obtain ⟨_, _⟩ := r32; obtain ⟨_, _⟩ := r29; omega) (by obtain ⟨_, _⟩ := r32; obtain ⟨_, _⟩ := r29; omega)
      refine lv_bipush (v := 120) hx hb d_X11_feed_19 (by decide) ?_
      refine lv_icmp_le (tgt := 27) hx hb d_X11_feed_21 (by decide) (fun c37 => ?_) (fun c37 => ?_)
      · have f38 := i_le c37
        have r39 : Rg x34 1 120 := by obtain ⟨a1, a2⟩ := r35; obtain ⟨b1, b2⟩ := (⟨by decide, by decide⟩ : Rg 120 120 120); have f := i_le c37; exact ⟨by omega, by omega⟩
        refine lv_iload_n hx hb d_X11_feed_27 rfl (lv_at hl 2 rfl) ?_
        refine lv_iconst (v := 1) hx hb d_X11_feed_28 (by decide) ?_
        refine lv_isub hx hb d_X11_feed_29 ?_
        refine lv_topi (fun x40 ex40 => ?_)
        have r41 : Rg x40 0 7 := rg_sub ex40 r29 (⟨by decide, by decide⟩ : Rg 1 1 1) (by decide) (by decide)
        have s42 : x40.toInt = cnt.toInt - (1 : Int32).toInt := by rw [ex40]; exact i_sub (by obtain ⟨_, _⟩ := r29; obtain ⟨_, _⟩ := (⟨by decide, by decide⟩ : Rg 1 1 1); omega) (by obtain ⟨_, _⟩ := r29; obtain ⟨_, _⟩ := (⟨by decide, by decide⟩ : Rg 1 1 1); omega)
        have s42l : (1 : Int32).toInt = 1 := rfl
        refine lv_istore (lv' := [(4, .int x40), (0, .ref (ad 400)), (1, .long w), (3, .int cnt)]) hx hb d_X11_feed_30 hl (by decide) rfl (fun ls hl => ?_)
        exact ih0 x40 x31 v _ _ _ (by have := s36; have := s42; obtain ⟨_, _⟩ := r41; omega) (rg_w r41 (by decide) (by decide)) r32 hI hm33 (by obtain ⟨_, _⟩ := r29; obtain ⟨_, _⟩ := r32; obtain ⟨_, _⟩ := r39; obtain ⟨_, _⟩ := r41; omega) hw hS (lv_sub hl [1, 2, 3, 0] rfl)
      · have f43 := i_nle c37
        have r44 : Rg x34 121 128 := by obtain ⟨a1, a2⟩ := r35; obtain ⟨b1, b2⟩ := (⟨by decide, by decide⟩ : Rg 120 120 120); have f := i_nle c37; exact ⟨by omega, by omega⟩
        refine lv_bipush (v := -4) hx hb d_X11_feed_24 (by decide) ?_
        exact r_iret X hr hlocks hw hS hI d_X11_feed_26
    · exact absurd c30 (by decide)
  · skip
    refine lv_if_ne (tgt := 13) hx hb d_X11_feed_7 (by decide) (fun c45 => ?_) (fun c45 => ?_)
    · exact absurd c45 (by decide)
    · refine lv_bipush (v := -2) hx hb d_X11_feed_10 (by decide) ?_
      exact r_iret X hr hlocks hw hS hI d_X11_feed_12
theorem d_X11_note_0 : decode c_X11_note 0 = .ok (.aload_n 0, 1) := by decide +kernel
theorem d_X11_note_1 : decode c_X11_note 1 = .ok (.iconst 1, 1) := by decide +kernel
theorem d_X11_note_2 : decode c_X11_note 2 = .ok (.putfield 265, 3) := by decide +kernel
theorem d_X11_note_5 : decode c_X11_note 5 = .ok (.aload_n 0, 1) := by decide +kernel
theorem d_X11_note_6 : decode c_X11_note 6 = .ok (.aload_n 0, 1) := by decide +kernel
theorem d_X11_note_7 : decode c_X11_note 7 = .ok (.getfield 166, 3) := by decide +kernel
theorem d_X11_note_10 : decode c_X11_note 10 = .ok (.putfield 269, 3) := by decide +kernel
theorem d_X11_note_13 : decode c_X11_note 13 = .ok (.aload_n 0, 1) := by decide +kernel
theorem d_X11_note_14 : decode c_X11_note 14 = .ok (.aload_n 0, 1) := by decide +kernel
theorem d_X11_note_15 : decode c_X11_note 15 = .ok (.getfield 233, 3) := by decide +kernel
theorem d_X11_note_18 : decode c_X11_note 18 = .ok (.putfield 272, 3) := by decide +kernel
theorem d_X11_note_21 : decode c_X11_note 21 = .ok (.aload_n 0, 1) := by decide +kernel
theorem d_X11_note_22 : decode c_X11_note 22 = .ok (.aload_n 0, 1) := by decide +kernel
theorem d_X11_note_23 : decode c_X11_note 23 = .ok (.getfield 173, 3) := by decide +kernel
theorem d_X11_note_26 : decode c_X11_note 26 = .ok (.putfield 275, 3) := by decide +kernel
theorem d_X11_note_29 : decode c_X11_note 29 = .ok (.aload_n 0, 1) := by decide +kernel
theorem d_X11_note_30 : decode c_X11_note 30 = .ok (.aload_n 0, 1) := by decide +kernel
theorem d_X11_note_31 : decode c_X11_note 31 = .ok (.getfield 76, 3) := by decide +kernel
theorem d_X11_note_34 : decode c_X11_note 34 = .ok (.putfield 278, 3) := by decide +kernel
theorem d_X11_note_37 : decode c_X11_note 37 = .ok (.iconst 0, 1) := by decide +kernel
theorem d_X11_note_38 : decode c_X11_note 38 = .ok (.istore_n 1, 1) := by decide +kernel
theorem d_X11_note_39 : decode c_X11_note 39 = .ok (.iload_n 1, 1) := by decide +kernel
theorem d_X11_note_40 : decode c_X11_note 40 = .ok (.aload_n 0, 1) := by decide +kernel
theorem d_X11_note_41 : decode c_X11_note 41 = .ok (.getfield 166, 3) := by decide +kernel
theorem d_X11_note_44 : decode c_X11_note 44 = .ok (.if_icmp .ge 55, 3) := by decide +kernel
theorem d_X11_note_47 : decode c_X11_note 47 = .ok (.aload_n 0, 1) := by decide +kernel
theorem d_X11_note_48 : decode c_X11_note 48 = .ok (.getfield 130, 3) := by decide +kernel
theorem d_X11_note_51 : decode c_X11_note 51 = .ok (.iconst 4, 1) := by decide +kernel
theorem d_X11_note_52 : decode c_X11_note 52 = .ok (.iload_n 1, 1) := by decide +kernel
theorem d_X11_note_53 : decode c_X11_note 53 = .ok (.imul, 1) := by decide +kernel
theorem d_X11_note_54 : decode c_X11_note 54 = .ok (.aload_n 0, 1) := by decide +kernel
theorem d_X11_note_55 : decode c_X11_note 55 = .ok (.getfield 31, 3) := by decide +kernel
theorem d_X11_note_58 : decode c_X11_note 58 = .ok (.iload_n 1, 1) := by decide +kernel
theorem d_X11_note_59 : decode c_X11_note 59 = .ok (.iaload, 1) := by decide +kernel
theorem d_X11_note_60 : decode c_X11_note 60 = .ok (.iastore, 1) := by decide +kernel
theorem d_X11_note_61 : decode c_X11_note 61 = .ok (.aload_n 0, 1) := by decide +kernel
theorem d_X11_note_62 : decode c_X11_note 62 = .ok (.getfield 130, 3) := by decide +kernel
theorem d_X11_note_65 : decode c_X11_note 65 = .ok (.iconst 4, 1) := by decide +kernel
theorem d_X11_note_66 : decode c_X11_note 66 = .ok (.iload_n 1, 1) := by decide +kernel
theorem d_X11_note_67 : decode c_X11_note 67 = .ok (.imul, 1) := by decide +kernel
theorem d_X11_note_68 : decode c_X11_note 68 = .ok (.iconst 1, 1) := by decide +kernel
theorem d_X11_note_69 : decode c_X11_note 69 = .ok (.iadd, 1) := by decide +kernel
theorem d_X11_note_70 : decode c_X11_note 70 = .ok (.aload_n 0, 1) := by decide +kernel
theorem d_X11_note_71 : decode c_X11_note 71 = .ok (.getfield 28, 3) := by decide +kernel
theorem d_X11_note_74 : decode c_X11_note 74 = .ok (.iload_n 1, 1) := by decide +kernel
theorem d_X11_note_75 : decode c_X11_note 75 = .ok (.iaload, 1) := by decide +kernel
theorem d_X11_note_76 : decode c_X11_note 76 = .ok (.iastore, 1) := by decide +kernel
theorem d_X11_note_77 : decode c_X11_note 77 = .ok (.aload_n 0, 1) := by decide +kernel
theorem d_X11_note_78 : decode c_X11_note 78 = .ok (.getfield 130, 3) := by decide +kernel
theorem d_X11_note_81 : decode c_X11_note 81 = .ok (.iconst 4, 1) := by decide +kernel
theorem d_X11_note_82 : decode c_X11_note 82 = .ok (.iload_n 1, 1) := by decide +kernel
theorem d_X11_note_83 : decode c_X11_note 83 = .ok (.imul, 1) := by decide +kernel
theorem d_X11_note_84 : decode c_X11_note 84 = .ok (.iconst 2, 1) := by decide +kernel
theorem d_X11_note_85 : decode c_X11_note 85 = .ok (.iadd, 1) := by decide +kernel
theorem d_X11_note_86 : decode c_X11_note 86 = .ok (.aload_n 0, 1) := by decide +kernel
theorem d_X11_note_87 : decode c_X11_note 87 = .ok (.getfield 19, 3) := by decide +kernel
theorem d_X11_note_90 : decode c_X11_note 90 = .ok (.iload_n 1, 1) := by decide +kernel
theorem d_X11_note_91 : decode c_X11_note 91 = .ok (.iaload, 1) := by decide +kernel
theorem d_X11_note_92 : decode c_X11_note 92 = .ok (.iastore, 1) := by decide +kernel
theorem d_X11_note_93 : decode c_X11_note 93 = .ok (.iinc 1 1, 3) := by decide +kernel
theorem d_X11_note_96 : decode c_X11_note 96 = .ok (.goto (-57), 3) := by decide +kernel
theorem d_X11_note_99 : decode c_X11_note 99 = .ok (.iconst 0, 1) := by decide +kernel
theorem d_X11_note_100 : decode c_X11_note 100 = .ok (.istore_n 1, 1) := by decide +kernel
theorem d_X11_note_101 : decode c_X11_note 101 = .ok (.iload_n 1, 1) := by decide +kernel
theorem d_X11_note_102 : decode c_X11_note 102 = .ok (.aload_n 0, 1) := by decide +kernel
theorem d_X11_note_103 : decode c_X11_note 103 = .ok (.getfield 173, 3) := by decide +kernel
theorem d_X11_note_106 : decode c_X11_note 106 = .ok (.if_icmp .ge 33, 3) := by decide +kernel
theorem d_X11_note_109 : decode c_X11_note 109 = .ok (.aload_n 0, 1) := by decide +kernel
theorem d_X11_note_110 : decode c_X11_note 110 = .ok (.getfield 133, 3) := by decide +kernel
theorem d_X11_note_113 : decode c_X11_note 113 = .ok (.iload_n 1, 1) := by decide +kernel
theorem d_X11_note_114 : decode c_X11_note 114 = .ok (.aload_n 0, 1) := by decide +kernel
theorem d_X11_note_115 : decode c_X11_note 115 = .ok (.getfield 55, 3) := by decide +kernel
theorem d_X11_note_118 : decode c_X11_note 118 = .ok (.iload_n 1, 1) := by decide +kernel
theorem d_X11_note_119 : decode c_X11_note 119 = .ok (.iaload, 1) := by decide +kernel
theorem d_X11_note_120 : decode c_X11_note 120 = .ok (.iastore, 1) := by decide +kernel
theorem d_X11_note_121 : decode c_X11_note 121 = .ok (.aload_n 0, 1) := by decide +kernel
theorem d_X11_note_122 : decode c_X11_note 122 = .ok (.getfield 136, 3) := by decide +kernel
theorem d_X11_note_125 : decode c_X11_note 125 = .ok (.iload_n 1, 1) := by decide +kernel
theorem d_X11_note_126 : decode c_X11_note 126 = .ok (.aload_n 0, 1) := by decide +kernel
theorem d_X11_note_127 : decode c_X11_note 127 = .ok (.getfield 58, 3) := by decide +kernel
theorem d_X11_note_130 : decode c_X11_note 130 = .ok (.iload_n 1, 1) := by decide +kernel
theorem d_X11_note_131 : decode c_X11_note 131 = .ok (.iaload, 1) := by decide +kernel
theorem d_X11_note_132 : decode c_X11_note 132 = .ok (.iastore, 1) := by decide +kernel
theorem d_X11_note_133 : decode c_X11_note 133 = .ok (.iinc 1 1, 3) := by decide +kernel
theorem d_X11_note_136 : decode c_X11_note 136 = .ok (.goto (-35), 3) := by decide +kernel
theorem d_X11_note_139 : decode c_X11_note 139 = .ok (.iconst 0, 1) := by decide +kernel
theorem d_X11_note_140 : decode c_X11_note 140 = .ok (.istore_n 1, 1) := by decide +kernel
theorem d_X11_note_141 : decode c_X11_note 141 = .ok (.iload_n 1, 1) := by decide +kernel
theorem d_X11_note_142 : decode c_X11_note 142 = .ok (.aload_n 0, 1) := by decide +kernel
theorem d_X11_note_143 : decode c_X11_note 143 = .ok (.getfield 233, 3) := by decide +kernel
theorem d_X11_note_146 : decode c_X11_note 146 = .ok (.if_icmp .ge 21, 3) := by decide +kernel
theorem d_X11_note_149 : decode c_X11_note 149 = .ok (.aload_n 0, 1) := by decide +kernel
theorem d_X11_note_150 : decode c_X11_note 150 = .ok (.getfield 139, 3) := by decide +kernel
theorem d_X11_note_153 : decode c_X11_note 153 = .ok (.iload_n 1, 1) := by decide +kernel
theorem d_X11_note_154 : decode c_X11_note 154 = .ok (.aload_n 0, 1) := by decide +kernel
theorem d_X11_note_155 : decode c_X11_note 155 = .ok (.getfield 118, 3) := by decide +kernel
theorem d_X11_note_158 : decode c_X11_note 158 = .ok (.iload_n 1, 1) := by decide +kernel
theorem d_X11_note_159 : decode c_X11_note 159 = .ok (.iaload, 1) := by decide +kernel
theorem d_X11_note_160 : decode c_X11_note 160 = .ok (.iastore, 1) := by decide +kernel
theorem d_X11_note_161 : decode c_X11_note 161 = .ok (.iinc 1 1, 3) := by decide +kernel
theorem d_X11_note_164 : decode c_X11_note 164 = .ok (.goto (-23), 3) := by decide +kernel
theorem d_X11_note_167 : decode c_X11_note 167 = .ok (.return_, 1) := by decide +kernel
set_option maxHeartbeats 4000000 in
set_option maxRecDepth 100000 in
theorem ct_X11_note_400 (l : Launch) (D : va_G) (dA : Nat → ClassId) (ad : Nat → Nat) (v : tV) (hI : Inv v)  : Met l m_X11_note [.code m_X11_note c_X11_note 2 none] ({ frames := 1, cells := 0, slots := 0, locals := 40 } : Room) (tP D dA ad v [.ref (ad 400)]) (tQv D dA ad (fun v' => Inv v' ∧ Kp v v' ∧ v' 400 27 = v 400 27)) 0 0 (tA ad) := by
  refine tMet (by decide) (Nat.le_of_ble_eq_true rfl) ?_
  intro p e s m below meth c ls X hr hlocks hw hl
  have X : CX p s m ([.ref (ad 400)] : List Value).toArray c c_X11_note N_X11 2 D dA := X
  have hx := X.1
  have hb := X.2.1
  have hS : va_S (tA ad) s.heap s.heap [] := va_S.rf
  have hl : lv_has ls 2 [(0, .ref (ad 400))] := hl
  obtain ⟨g0, hg0⟩ : ∃ g, v 400 27 = g := ⟨_, rfl⟩
  have r_g0 : Rg g0 0 200 := by rw [← hg0]; exact hI 400 27 _ _ rfl
  have LL : ∀ n : Nat, (∀ (y1 : Int32) (v1 : tV) (H : Heap) (locs : List Loc) (ls : Array Slot), (20 - y1.toInt).toNat + 300 < n → Rg y1 0 20 → Inv v1 → Kp v v1 → v1 400 27 = g0 → tI D dA ad v1 H → va_S (tA ad) s.heap H locs → lv_has ls 2 [(0, .ref (ad 400)), (1, .int y1)] → W p l e ({ frames := 1, cells := 0, slots := 0, locals := 40 } : Room) s m ([.ref (ad 400)] : List Value).toArray below meth c H locs 0 0 (MQ below (tQv D dA ad (fun v' => Inv v' ∧ Kp v v' ∧ v' 400 27 = v 400 27)) ([.ref (ad 400)] : List Value).toArray s 0 0 (tA ad)) (F0 m 39 ls [])) ∧ (∀ (y1 : Int32) (v1 : tV) (H : Heap) (locs : List Loc) (ls : Array Slot), (10 - y1.toInt).toNat + 200 < n → Rg y1 0 10 → Inv v1 → Kp v v1 → v1 400 27 = g0 → tI D dA ad v1 H → va_S (tA ad) s.heap H locs → lv_has ls 2 [(0, .ref (ad 400)), (1, .int y1)] → W p l e ({ frames := 1, cells := 0, slots := 0, locals := 40 } : Room) s m ([.ref (ad 400)] : List Value).toArray below meth c H locs 0 0 (MQ below (tQv D dA ad (fun v' => Inv v' ∧ Kp v v' ∧ v' 400 27 = v 400 27)) ([.ref (ad 400)] : List Value).toArray s 0 0 (tA ad)) (F0 m 101 ls [])) ∧ (∀ (y1 : Int32) (v1 : tV) (H : Heap) (locs : List Loc) (ls : Array Slot), (20 - y1.toInt).toNat + 0 < n → Rg y1 0 20 → Inv v1 → Kp v v1 → v1 400 27 = g0 → tI D dA ad v1 H → va_S (tA ad) s.heap H locs → lv_has ls 2 [(0, .ref (ad 400)), (1, .int y1)] → W p l e ({ frames := 1, cells := 0, slots := 0, locals := 40 } : Room) s m ([.ref (ad 400)] : List Value).toArray below meth c H locs 0 0 (MQ below (tQv D dA ad (fun v' => Inv v' ∧ Kp v v' ∧ v' 400 27 = v 400 27)) ([.ref (ad 400)] : List Value).toArray s 0 0 (tA ad)) (F0 m 141 ls [])) := by
    intro n
    induction n with
    | zero => refine ⟨?_, ?_, ?_⟩ <;> (intros; omega)
    | succ n ih =>
      obtain ⟨ih0, ih1, ih2⟩ := ih
      refine ⟨?_, ?_, ?_⟩
      · intro y1 v1 H locs ls hmu r_y1 hI1 hK1 hfx0 hw hS hl
        refine lv_iload_n hx hb d_X11_note_39 rfl (lv_at hl 1 rfl) ?_
        refine lv_aload_n hx hb d_X11_note_40 rfl (lv_at hl 0 rfl) ?_
        refine r_geti X hw FL_X11_166 (rfl : KD 400 = _) rfl d_X11_note_41 ?_
        refine lv_topi (fun x1 ex1 => ?_)
        have r2 : Rg x1 0 20 := by rw [ex1]; exact hI1 _ _ _ _ rfl
        have hm3 : v1 400 1 = x1 := ex1.symm
        refine lv_icmp_ge (tgt := 99) hx hb d_X11_note_44 (by decide) (fun c4 => ?_) (fun c4 => ?_)
        · have f5 := i_le c4
          refine lv_iconst (v := 0) hx hb d_X11_note_99 (by decide) ?_
          refine lv_istore_n (lv' := [(1, .int 0), (0, .ref (ad 400))]) hx hb d_X11_note_100 rfl hl (by decide) rfl (fun ls hl => ?_)
          exact ih1 0 v1 _ _ _ (by obtain ⟨_, _⟩ := (⟨by decide, by decide⟩ : Rg 0 0 0); omega) (rg_w (⟨by decide, by decide⟩ : Rg 0 0 0) (by decide) (by decide)) hI1 hK1 hfx0 hw hS (lv_sub hl [1, 0] rfl)
        · have f6 := i_nle c4
          have r7 : Rg y1 0 19 := by obtain ⟨a1, a2⟩ := r_y1; obtain ⟨b1, b2⟩ := r2; have f := i_nle c4; exact ⟨by omega, by omega⟩
          have r8 : Rg x1 1 20 := by obtain ⟨a1, a2⟩ := r_y1; obtain ⟨b1, b2⟩ := r2; have f := i_nle c4; exact ⟨by omega, by omega⟩
          refine lv_aload_n hx hb d_X11_note_47 rfl (lv_at hl 0 rfl) ?_
          refine r_getr (r := 450) X hw FL_X11_130 (rfl : KD 400 = _) rfl d_X11_note_48 ?_
          refine lv_iconst (v := 4) hx hb d_X11_note_51 (by decide) ?_
          refine lv_iload_n hx hb d_X11_note_52 rfl (lv_at hl 1 rfl) ?_
          refine lv_imul hx hb d_X11_note_53 ?_
          refine lv_topi (fun x9 ex9 => ?_)
          have r10 : Rg x9 0 76 := rg_mulc ex9 (⟨by decide, by decide⟩ : Rg 4 4 4) r7 (by decide) (by decide) (by decide)
          have s11 : x9.toInt = 4 * y1.toInt := rg_mule ex9 r7 rfl (by decide) (by decide)
          refine lv_aload_n hx hb d_X11_note_54 rfl (lv_at hl 0 rfl) ?_
          refine r_getr (r := 410) X hw FL_X11_31 (rfl : KD 400 = _) rfl d_X11_note_55 ?_
          refine lv_iload_n hx hb d_X11_note_58 rfl (lv_at hl 1 rfl) ?_
          refine r_iald X hw (rfl : KD 410 = _) (Rg.vp (b := 19) r7 (by decide)) rfl d_X11_note_59 ?_
          refine lv_topi (fun x12 ex12 => ?_)
          refine r_iast X hw hS (rfl : KD 450 = _) (Rg.vp (b := 76) r10 (by decide)) rfl d_X11_note_60 (fun H locs hw hS => ?_)
          obtain ⟨v13, ev13⟩ : ∃ z, z = up2 v1 450 x9.toNatClampNeg x12 := ⟨_, rfl⟩
          rw [← ev13] at hw
          have hI14 : Inv v13 := by rw [ev13]; exact Inv.put0 hI1 _ rfl
          have hK15 : Kp v v13 := by rw [ev13]; exact Kp.put hK1 _ rfl
          have hm16 : v13 400 27 = g0 := by rw [ev13, up2_n _ _ (by omega)]; exact hfx0
          have hm17 : v13 400 1 = x1 := by rw [ev13, up2_n _ _ (by omega)]; exact hm3
          refine lv_aload_n hx hb d_X11_note_61 rfl (lv_at hl 0 rfl) ?_
          refine r_getr (r := 450) X hw FL_X11_130 (rfl : KD 400 = _) rfl d_X11_note_62 ?_
          refine lv_iconst (v := 4) hx hb d_X11_note_65 (by decide) ?_
          refine lv_iload_n hx hb d_X11_note_66 rfl (lv_at hl 1 rfl) ?_
          refine lv_imul hx hb d_X11_note_67 ?_
          refine lv_topi (fun x18 ex18 => ?_)
          have r19 : Rg x18 0 76 := rg_mulc ex18 (⟨by decide, by decide⟩ : Rg 4 4 4) r7 (by decide) (by decide) (by decide)
          have s20 : x18.toInt = 4 * y1.toInt := rg_mule ex18 r7 rfl (by decide) (by decide)
          refine lv_iconst (v := 1) hx hb d_X11_note_68 (by decide) ?_
          refine lv_iadd hx hb d_X11_note_69 ?_
          refine lv_topi (fun x21 ex21 => ?_)
          have r22 : Rg x21 1 77 := rg_add ex21 r19 (⟨by decide, by decide⟩ : Rg 1 1 1) (by decide) (by decide)
          have s23 : x21.toInt = x18.toInt + (1 : Int32).toInt := by rw [ex21]; exact i_add (by obtain ⟨_, _⟩ := r19; obtain ⟨_, _⟩ := (⟨by decide, by decide⟩ : Rg 1 1 1); omega) (by obtain ⟨_, _⟩ := r19; obtain ⟨_, _⟩ := (⟨by decide, by decide⟩ : Rg 1 1 1); omega)
          have s23l : (1 : Int32).toInt = 1 := rfl
          refine lv_aload_n hx hb d_X11_note_70 rfl (lv_at hl 0 rfl) ?_
          refine r_getr (r := 409) X hw FL_X11_28 (rfl : KD 400 = _) rfl d_X11_note_71 ?_
          refine lv_iload_n hx hb d_X11_note_74 rfl (lv_at hl 1 rfl) ?_
          refine r_iald X hw (rfl : KD 409 = _) (Rg.vp (b := 19) r7 (by decide)) rfl d_X11_note_75 ?_
          refine lv_topi (fun x24 ex24 => ?_)
          refine r_iast X hw hS (rfl : KD 450 = _) (Rg.vp (b := 77) (rg_w r22 (by decide) (by decide)) (by decide)) rfl d_X11_note_76 (fun H locs hw hS => ?_)
          obtain ⟨v25, ev25⟩ : ∃ z, z = up2 v13 450 x21.toNatClampNeg x24 := ⟨_, rfl⟩
          rw [← ev25] at hw
          have hI26 : Inv v25 := by rw [ev25]; exact Inv.put0 hI14 _ rfl
          have hK27 : Kp v v25 := by rw [ev25]; exact Kp.put hK15 _ rfl
          have hm28 : v25 400 27 = g0 := by rw [ev25, up2_n _ _ (by omega)]; exact hm16
          have hm29 : v25 400 1 = x1 := by rw [ev25, up2_n _ _ (by omega)]; exact hm17
          refine lv_aload_n hx hb d_X11_note_77 rfl (lv_at hl 0 rfl) ?_
          refine r_getr (r := 450) X hw FL_X11_130 (rfl : KD 400 = _) rfl d_X11_note_78 ?_
          refine lv_iconst (v := 4) hx hb d_X11_note_81 (by decide) ?_
          refine lv_iload_n hx hb d_X11_note_82 rfl (lv_at hl 1 rfl) ?_
          refine lv_imul hx hb d_X11_note_83 ?_
          refine lv_topi (fun x30 ex30 => ?_)
          have r31 : Rg x30 0 76 := rg_mulc ex30 (⟨by decide, by decide⟩ : Rg 4 4 4) r7 (by decide) (by decide) (by decide)
          have s32 : x30.toInt = 4 * y1.toInt := rg_mule ex30 r7 rfl (by decide) (by decide)
          refine lv_iconst (v := 2) hx hb d_X11_note_84 (by decide) ?_
          refine lv_iadd hx hb d_X11_note_85 ?_
          refine lv_topi (fun x33 ex33 => ?_)
          have r34 : Rg x33 2 78 := rg_add ex33 r31 (⟨by decide, by decide⟩ : Rg 2 2 2) (by decide) (by decide)
          have s35 : x33.toInt = x30.toInt + (2 : Int32).toInt := by rw [ex33]; exact i_add (by obtain ⟨_, _⟩ := r31; obtain ⟨_, _⟩ := (⟨by decide, by decide⟩ : Rg 2 2 2); omega) (by obtain ⟨_, _⟩ := r31; obtain ⟨_, _⟩ := (⟨by decide, by decide⟩ : Rg 2 2 2); omega)
          have s35l : (2 : Int32).toInt = 2 := rfl
          refine lv_aload_n hx hb d_X11_note_86 rfl (lv_at hl 0 rfl) ?_
          refine r_getr (r := 406) X hw FL_X11_19 (rfl : KD 400 = _) rfl d_X11_note_87 ?_
          refine lv_iload_n hx hb d_X11_note_90 rfl (lv_at hl 1 rfl) ?_
          refine r_iald X hw (rfl : KD 406 = _) (Rg.vp (b := 19) r7 (by decide)) rfl d_X11_note_91 ?_
          refine lv_topi (fun x36 ex36 => ?_)
          refine r_iast X hw hS (rfl : KD 450 = _) (Rg.vp (b := 78) (rg_w r34 (by decide) (by decide)) (by decide)) rfl d_X11_note_92 (fun H locs hw hS => ?_)
          obtain ⟨v37, ev37⟩ : ∃ z, z = up2 v25 450 x33.toNatClampNeg x36 := ⟨_, rfl⟩
          rw [← ev37] at hw
          have hI38 : Inv v37 := by rw [ev37]; exact Inv.put0 hI26 _ rfl
          have hK39 : Kp v v37 := by rw [ev37]; exact Kp.put hK27 _ rfl
          have hm40 : v37 400 27 = g0 := by rw [ev37, up2_n _ _ (by omega)]; exact hm28
          have hm41 : v37 400 1 = x1 := by rw [ev37, up2_n _ _ (by omega)]; exact hm29
          obtain ⟨x42, ex42⟩ : ∃ y : Int32, y = y1 + 1 := ⟨_, rfl⟩
          refine lv_iinc (v := x42) (lv' := [(1, .int x42), (0, .ref (ad 400))]) hx hb d_X11_note_93 hl (k := 1) rfl (by rw [ex42]; rfl) (by decide) rfl (fun ls hl => ?_)
          have r43 : Rg x42 1 20 := rg_add ex42 r7 (⟨by decide, by decide⟩ : Rg 1 1 1) (by decide) (by decide)
          have s44 : x42.toInt = y1.toInt + (1 : Int32).toInt := by rw [ex42]; exact i_add (by obtain ⟨_, _⟩ := r7; obtain ⟨_, _⟩ := (⟨by decide, by decide⟩ : Rg 1 1 1); omega) (by obtain ⟨_, _⟩ := r7; obtain ⟨_, _⟩ := (⟨by decide, by decide⟩ : Rg 1 1 1); omega)
          have s44l : (1 : Int32).toInt = 1 := rfl
          refine lv_goto (tgt := 39) hx hb d_X11_note_96 (by decide) ?_
          exact ih0 x42 v37 _ _ _ (by have := s11; have := s20; have := s23; have := s32; have := s35; have := s44; obtain ⟨_, _⟩ := r43; omega) (rg_w r43 (by decide) (by decide)) hI38 hK39 hm40 hw hS (lv_sub hl [1, 0] rfl)
      · intro y1 v1 H locs ls hmu r_y1 hI1 hK1 hfx0 hw hS hl
        refine lv_iload_n hx hb d_X11_note_101 rfl (lv_at hl 1 rfl) ?_
        refine lv_aload_n hx hb d_X11_note_102 rfl (lv_at hl 0 rfl) ?_
        refine r_geti X hw FL_X11_173 (rfl : KD 400 = _) rfl d_X11_note_103 ?_
        refine lv_topi (fun x45 ex45 => ?_)
        have r46 : Rg x45 0 10 := by rw [ex45]; exact hI1 _ _ _ _ rfl
        have hm47 : v1 400 15 = x45 := ex45.symm
        refine lv_icmp_ge (tgt := 139) hx hb d_X11_note_106 (by decide) (fun c48 => ?_) (fun c48 => ?_)
        · have f49 := i_le c48
          refine lv_iconst (v := 0) hx hb d_X11_note_139 (by decide) ?_
          refine lv_istore_n (lv' := [(1, .int 0), (0, .ref (ad 400))]) hx hb d_X11_note_140 rfl hl (by decide) rfl (fun ls hl => ?_)
          exact ih2 0 v1 _ _ _ (by obtain ⟨_, _⟩ := (⟨by decide, by decide⟩ : Rg 0 0 0); omega) (rg_w (⟨by decide, by decide⟩ : Rg 0 0 0) (by decide) (by decide)) hI1 hK1 hfx0 hw hS (lv_sub hl [1, 0] rfl)
        · have f50 := i_nle c48
          have r51 : Rg y1 0 9 := by obtain ⟨a1, a2⟩ := r_y1; obtain ⟨b1, b2⟩ := r46; have f := i_nle c48; exact ⟨by omega, by omega⟩
          have r52 : Rg x45 1 10 := by obtain ⟨a1, a2⟩ := r_y1; obtain ⟨b1, b2⟩ := r46; have f := i_nle c48; exact ⟨by omega, by omega⟩
          refine lv_aload_n hx hb d_X11_note_109 rfl (lv_at hl 0 rfl) ?_
          refine r_getr (r := 451) X hw FL_X11_133 (rfl : KD 400 = _) rfl d_X11_note_110 ?_
          refine lv_iload_n hx hb d_X11_note_113 rfl (lv_at hl 1 rfl) ?_
          refine lv_aload_n hx hb d_X11_note_114 rfl (lv_at hl 0 rfl) ?_
          refine r_getr (r := 419) X hw FL_X11_55 (rfl : KD 400 = _) rfl d_X11_note_115 ?_
          refine lv_iload_n hx hb d_X11_note_118 rfl (lv_at hl 1 rfl) ?_
          refine r_iald X hw (rfl : KD 419 = _) (Rg.vp (b := 9) r51 (by decide)) rfl d_X11_note_119 ?_
          refine lv_topi (fun x53 ex53 => ?_)
          refine r_iast X hw hS (rfl : KD 451 = _) (Rg.vp (b := 9) r51 (by decide)) rfl d_X11_note_120 (fun H locs hw hS => ?_)
          obtain ⟨v54, ev54⟩ : ∃ z, z = up2 v1 451 y1.toNatClampNeg x53 := ⟨_, rfl⟩
          rw [← ev54] at hw
          have hI55 : Inv v54 := by rw [ev54]; exact Inv.put0 hI1 _ rfl
          have hK56 : Kp v v54 := by rw [ev54]; exact Kp.put hK1 _ rfl
          have hm57 : v54 400 27 = g0 := by rw [ev54, up2_n _ _ (by omega)]; exact hfx0
          have hm58 : v54 400 15 = x45 := by rw [ev54, up2_n _ _ (by omega)]; exact hm47
          refine lv_aload_n hx hb d_X11_note_121 rfl (lv_at hl 0 rfl) ?_
          refine r_getr (r := 452) X hw FL_X11_136 (rfl : KD 400 = _) rfl d_X11_note_122 ?_
          refine lv_iload_n hx hb d_X11_note_125 rfl (lv_at hl 1 rfl) ?_
          refine lv_aload_n hx hb d_X11_note_126 rfl (lv_at hl 0 rfl) ?_
          refine r_getr (r := 420) X hw FL_X11_58 (rfl : KD 400 = _) rfl d_X11_note_127 ?_
          refine lv_iload_n hx hb d_X11_note_130 rfl (lv_at hl 1 rfl) ?_
          refine r_iald X hw (rfl : KD 420 = _) (Rg.vp (b := 9) r51 (by decide)) rfl d_X11_note_131 ?_
          refine lv_topi (fun x59 ex59 => ?_)
          refine r_iast X hw hS (rfl : KD 452 = _) (Rg.vp (b := 9) r51 (by decide)) rfl d_X11_note_132 (fun H locs hw hS => ?_)
          obtain ⟨v60, ev60⟩ : ∃ z, z = up2 v54 452 y1.toNatClampNeg x59 := ⟨_, rfl⟩
          rw [← ev60] at hw
          have hI61 : Inv v60 := by rw [ev60]; exact Inv.put0 hI55 _ rfl
          have hK62 : Kp v v60 := by rw [ev60]; exact Kp.put hK56 _ rfl
          have hm63 : v60 400 27 = g0 := by rw [ev60, up2_n _ _ (by omega)]; exact hm57
          have hm64 : v60 400 15 = x45 := by rw [ev60, up2_n _ _ (by omega)]; exact hm58
          obtain ⟨x65, ex65⟩ : ∃ y : Int32, y = y1 + 1 := ⟨_, rfl⟩
          refine lv_iinc (v := x65) (lv' := [(1, .int x65), (0, .ref (ad 400))]) hx hb d_X11_note_133 hl (k := 1) rfl (by rw [ex65]; rfl) (by decide) rfl (fun ls hl => ?_)
          have r66 : Rg x65 1 10 := rg_add ex65 r51 (⟨by decide, by decide⟩ : Rg 1 1 1) (by decide) (by decide)
          have s67 : x65.toInt = y1.toInt + (1 : Int32).toInt := by rw [ex65]; exact i_add (by obtain ⟨_, _⟩ := r51; obtain ⟨_, _⟩ := (⟨by decide, by decide⟩ : Rg 1 1 1); omega) (by obtain ⟨_, _⟩ := r51; obtain ⟨_, _⟩ := (⟨by decide, by decide⟩ : Rg 1 1 1); omega)
          have s67l : (1 : Int32).toInt = 1 := rfl
          refine lv_goto (tgt := 101) hx hb d_X11_note_136 (by decide) ?_
          exact ih1 x65 v60 _ _ _ (by have := s67; obtain ⟨_, _⟩ := r66; omega) (rg_w r66 (by decide) (by decide)) hI61 hK62 hm63 hw hS (lv_sub hl [1, 0] rfl)
      · intro y1 v1 H locs ls hmu r_y1 hI1 hK1 hfx0 hw hS hl
        refine lv_iload_n hx hb d_X11_note_141 rfl (lv_at hl 1 rfl) ?_
        refine lv_aload_n hx hb d_X11_note_142 rfl (lv_at hl 0 rfl) ?_
        refine r_geti X hw FL_X11_233 (rfl : KD 400 = _) rfl d_X11_note_143 ?_
        refine lv_topi (fun x68 ex68 => ?_)
        have r69 : Rg x68 0 20 := by rw [ex68]; exact hI1 _ _ _ _ rfl
        have hm70 : v1 400 44 = x68 := ex68.symm
        refine lv_icmp_ge (tgt := 167) hx hb d_X11_note_146 (by decide) (fun c71 => ?_) (fun c71 => ?_)
        · have f72 := i_le c71
          exact r_vret X hr hlocks hw hS ⟨hI1, hK1, (hfx0.trans hg0.symm)⟩ d_X11_note_167
        · have f73 := i_nle c71
          have r74 : Rg y1 0 19 := by obtain ⟨a1, a2⟩ := r_y1; obtain ⟨b1, b2⟩ := r69; have f := i_nle c71; exact ⟨by omega, by omega⟩
          have r75 : Rg x68 1 20 := by obtain ⟨a1, a2⟩ := r_y1; obtain ⟨b1, b2⟩ := r69; have f := i_nle c71; exact ⟨by omega, by omega⟩
          refine lv_aload_n hx hb d_X11_note_149 rfl (lv_at hl 0 rfl) ?_
          refine r_getr (r := 453) X hw FL_X11_139 (rfl : KD 400 = _) rfl d_X11_note_150 ?_
          refine lv_iload_n hx hb d_X11_note_153 rfl (lv_at hl 1 rfl) ?_
          refine lv_aload_n hx hb d_X11_note_154 rfl (lv_at hl 0 rfl) ?_
          refine r_getr (r := 446) X hw FL_X11_118 (rfl : KD 400 = _) rfl d_X11_note_155 ?_
          refine lv_iload_n hx hb d_X11_note_158 rfl (lv_at hl 1 rfl) ?_
          refine r_iald X hw (rfl : KD 446 = _) (Rg.vp (b := 19) r74 (by decide)) rfl d_X11_note_159 ?_
          refine lv_topi (fun x76 ex76 => ?_)
          have r77 : Rg x76 0 19 := by rw [ex76]; exact hI1 _ _ _ _ rfl
          refine r_iast X hw hS (rfl : KD 453 = _) (Rg.vp (b := 19) r74 (by decide)) rfl d_X11_note_160 (fun H locs hw hS => ?_)
          obtain ⟨v78, ev78⟩ : ∃ z, z = up2 v1 453 y1.toNatClampNeg x76 := ⟨_, rfl⟩
          rw [← ev78] at hw
          have hI79 : Inv v78 := by rw [ev78]; exact Inv.putr hI1 rfl r77
          have hK80 : Kp v v78 := by rw [ev78]; exact Kp.put hK1 _ rfl
          have hm81 : v78 400 27 = g0 := by rw [ev78, up2_n _ _ (by omega)]; exact hfx0
          have hm82 : v78 400 44 = x68 := by rw [ev78, up2_n _ _ (by omega)]; exact hm70
          obtain ⟨x83, ex83⟩ : ∃ y : Int32, y = y1 + 1 := ⟨_, rfl⟩
          refine lv_iinc (v := x83) (lv' := [(1, .int x83), (0, .ref (ad 400))]) hx hb d_X11_note_161 hl (k := 1) rfl (by rw [ex83]; rfl) (by decide) rfl (fun ls hl => ?_)
          have r84 : Rg x83 1 20 := rg_add ex83 r74 (⟨by decide, by decide⟩ : Rg 1 1 1) (by decide) (by decide)
          have s85 : x83.toInt = y1.toInt + (1 : Int32).toInt := by rw [ex83]; exact i_add (by obtain ⟨_, _⟩ := r74; obtain ⟨_, _⟩ := (⟨by decide, by decide⟩ : Rg 1 1 1); omega) (by obtain ⟨_, _⟩ := r74; obtain ⟨_, _⟩ := (⟨by decide, by decide⟩ : Rg 1 1 1); omega)
          have s85l : (1 : Int32).toInt = 1 := rfl
          refine lv_goto (tgt := 141) hx hb d_X11_note_164 (by decide) ?_
          exact ih2 x83 v78 _ _ _ (by have := s85; obtain ⟨_, _⟩ := r84; omega) (rg_w r84 (by decide) (by decide)) hI79 hK80 hm81 hw hS (lv_sub hl [1, 0] rfl)
  obtain ⟨ih0, ih1, ih2⟩ := LL 100000
  have hK0 : Kp v v := Kp.rf v
  refine lv_aload_n hx hb d_X11_note_0 rfl (lv_at hl 0 rfl) ?_
  refine lv_iconst (v := 1) hx hb d_X11_note_1 (by decide) ?_
  refine r_put X hw hS FP_X11_265 (rfl : KD 400 = _) rfl ⟨rfl, rfl⟩ d_X11_note_2 (fun H locs hw hS => ?_)
  obtain ⟨v86, ev86⟩ : ∃ z, z = up2 v 400 57 1 := ⟨_, rfl⟩
  rw [← ev86] at hw
  have hI87 : Inv v86 := by rw [ev86]; exact Inv.put0 hI _ rfl
  have hK88 : Kp v v86 := by rw [ev86]; exact Kp.put hK0 _ rfl
  have hm89 : v86 400 27 = g0 := by rw [ev86, up2_n _ _ (by omega)]; exact hg0
  refine lv_aload_n hx hb d_X11_note_5 rfl (lv_at hl 0 rfl) ?_
  refine lv_aload_n hx hb d_X11_note_6 rfl (lv_at hl 0 rfl) ?_
  refine r_geti X hw FL_X11_166 (rfl : KD 400 = _) rfl d_X11_note_7 ?_
  refine lv_topi (fun x90 ex90 => ?_)
  have r91 : Rg x90 0 20 := by rw [ex90]; exact hI87 _ _ _ _ rfl
  have hm92 : v86 400 1 = x90 := ex90.symm
  refine r_put X hw hS FP_X11_269 (rfl : KD 400 = _) rfl ⟨rfl, rfl⟩ d_X11_note_10 (fun H locs hw hS => ?_)
  obtain ⟨v93, ev93⟩ : ∃ z, z = up2 v86 400 53 x90 := ⟨_, rfl⟩
  rw [← ev93] at hw
  have hI94 : Inv v93 := by rw [ev93]; exact Inv.putr hI87 rfl r91
  have hK95 : Kp v v93 := by rw [ev93]; exact Kp.put hK88 _ rfl
  have hm96 : v93 400 27 = g0 := by rw [ev93, up2_n _ _ (by omega)]; exact hm89
  have hm97 : v93 400 1 = x90 := by rw [ev93, up2_n _ _ (by omega)]; exact hm92
  have hm98 : v93 400 53 = x90 := by rw [ev93, up2_s]
  refine lv_aload_n hx hb d_X11_note_13 rfl (lv_at hl 0 rfl) ?_
  refine lv_aload_n hx hb d_X11_note_14 rfl (lv_at hl 0 rfl) ?_
  refine r_geti X hw FL_X11_233 (rfl : KD 400 = _) rfl d_X11_note_15 ?_
  refine lv_topi (fun x99 ex99 => ?_)
  have r100 : Rg x99 0 20 := by rw [ex99]; exact hI94 _ _ _ _ rfl
  have hm101 : v93 400 44 = x99 := ex99.symm
  refine r_put X hw hS FP_X11_272 (rfl : KD 400 = _) rfl ⟨rfl, rfl⟩ d_X11_note_18 (fun H locs hw hS => ?_)
  obtain ⟨v102, ev102⟩ : ∃ z, z = up2 v93 400 54 x99 := ⟨_, rfl⟩
  rw [← ev102] at hw
  have hI103 : Inv v102 := by rw [ev102]; exact Inv.putr hI94 rfl r100
  have hK104 : Kp v v102 := by rw [ev102]; exact Kp.put hK95 _ rfl
  have hm105 : v102 400 27 = g0 := by rw [ev102, up2_n _ _ (by omega)]; exact hm96
  have hm106 : v102 400 1 = x90 := by rw [ev102, up2_n _ _ (by omega)]; exact hm97
  have hm107 : v102 400 53 = x90 := by rw [ev102, up2_n _ _ (by omega)]; exact hm98
  have hm108 : v102 400 44 = x99 := by rw [ev102, up2_n _ _ (by omega)]; exact hm101
  have hm109 : v102 400 54 = x99 := by rw [ev102, up2_s]
  refine lv_aload_n hx hb d_X11_note_21 rfl (lv_at hl 0 rfl) ?_
  refine lv_aload_n hx hb d_X11_note_22 rfl (lv_at hl 0 rfl) ?_
  refine r_geti X hw FL_X11_173 (rfl : KD 400 = _) rfl d_X11_note_23 ?_
  refine lv_topi (fun x110 ex110 => ?_)
  have r111 : Rg x110 0 10 := by rw [ex110]; exact hI103 _ _ _ _ rfl
  have hm112 : v102 400 15 = x110 := ex110.symm
  refine r_put X hw hS FP_X11_275 (rfl : KD 400 = _) rfl ⟨rfl, rfl⟩ d_X11_note_26 (fun H locs hw hS => ?_)
  obtain ⟨v113, ev113⟩ : ∃ z, z = up2 v102 400 55 x110 := ⟨_, rfl⟩
  rw [← ev113] at hw
  have hI114 : Inv v113 := by rw [ev113]; exact Inv.putr hI103 rfl r111
  have hK115 : Kp v v113 := by rw [ev113]; exact Kp.put hK104 _ rfl
  have hm116 : v113 400 27 = g0 := by rw [ev113, up2_n _ _ (by omega)]; exact hm105
  have hm117 : v113 400 1 = x90 := by rw [ev113, up2_n _ _ (by omega)]; exact hm106
  have hm118 : v113 400 53 = x90 := by rw [ev113, up2_n _ _ (by omega)]; exact hm107
  have hm119 : v113 400 44 = x99 := by rw [ev113, up2_n _ _ (by omega)]; exact hm108
  have hm120 : v113 400 54 = x99 := by rw [ev113, up2_n _ _ (by omega)]; exact hm109
  have hm121 : v113 400 15 = x110 := by rw [ev113, up2_n _ _ (by omega)]; exact hm112
  have hm122 : v113 400 55 = x110 := by rw [ev113, up2_s]
  refine lv_aload_n hx hb d_X11_note_29 rfl (lv_at hl 0 rfl) ?_
  refine lv_aload_n hx hb d_X11_note_30 rfl (lv_at hl 0 rfl) ?_
  refine r_geti X hw FL_X11_76 (rfl : KD 400 = _) rfl d_X11_note_31 ?_
  refine lv_topi (fun x123 ex123 => ?_)
  refine r_put X hw hS FP_X11_278 (rfl : KD 400 = _) rfl ⟨rfl, rfl⟩ d_X11_note_34 (fun H locs hw hS => ?_)
  obtain ⟨v124, ev124⟩ : ∃ z, z = up2 v113 400 56 x123 := ⟨_, rfl⟩
  rw [← ev124] at hw
  have hI125 : Inv v124 := by rw [ev124]; exact Inv.put0 hI114 _ rfl
  have hK126 : Kp v v124 := by rw [ev124]; exact Kp.put hK115 _ rfl
  have hm127 : v124 400 27 = g0 := by rw [ev124, up2_n _ _ (by omega)]; exact hm116
  have hm128 : v124 400 1 = x90 := by rw [ev124, up2_n _ _ (by omega)]; exact hm117
  have hm129 : v124 400 53 = x90 := by rw [ev124, up2_n _ _ (by omega)]; exact hm118
  have hm130 : v124 400 44 = x99 := by rw [ev124, up2_n _ _ (by omega)]; exact hm119
  have hm131 : v124 400 54 = x99 := by rw [ev124, up2_n _ _ (by omega)]; exact hm120
  have hm132 : v124 400 15 = x110 := by rw [ev124, up2_n _ _ (by omega)]; exact hm121
  have hm133 : v124 400 55 = x110 := by rw [ev124, up2_n _ _ (by omega)]; exact hm122
  refine lv_iconst (v := 0) hx hb d_X11_note_37 (by decide) ?_
  refine lv_istore_n (lv' := [(1, .int 0), (0, .ref (ad 400))]) hx hb d_X11_note_38 rfl hl (by decide) rfl (fun ls hl => ?_)
  exact ih0 0 v124 _ _ _ (by obtain ⟨_, _⟩ := (⟨by decide, by decide⟩ : Rg 0 0 0); omega) (rg_w (⟨by decide, by decide⟩ : Rg 0 0 0) (by decide) (by decide)) hI125 hK126 hm127 hw hS (lv_sub hl [1, 0] rfl)
theorem d_X11_keep_0 : decode c_X11_keep 0 = .ok (.iconst 0, 1) := by decide +kernel
theorem d_X11_keep_1 : decode c_X11_keep 1 = .ok (.istore_n 1, 1) := by decide +kernel
theorem d_X11_keep_2 : decode c_X11_keep 2 = .ok (.iload_n 1, 1) := by decide +kernel
theorem d_X11_keep_3 : decode c_X11_keep 3 = .ok (.aload_n 0, 1) := by decide +kernel
theorem d_X11_keep_4 : decode c_X11_keep 4 = .ok (.getfield 166, 3) := by decide +kernel
theorem d_X11_keep_7 : decode c_X11_keep 7 = .ok (.if_icmp .ge 145, 3) := by decide +kernel
theorem d_X11_keep_10 : decode c_X11_keep 10 = .ok (.aload_n 0, 1) := by decide +kernel
theorem d_X11_keep_11 : decode c_X11_keep 11 = .ok (.getfield 121, 3) := by decide +kernel
theorem d_X11_keep_14 : decode c_X11_keep 14 = .ok (.bipush 9, 2) := by decide +kernel
theorem d_X11_keep_16 : decode c_X11_keep 16 = .ok (.iload_n 1, 1) := by decide +kernel
theorem d_X11_keep_17 : decode c_X11_keep 17 = .ok (.imul, 1) := by decide +kernel
theorem d_X11_keep_18 : decode c_X11_keep 18 = .ok (.aload_n 0, 1) := by decide +kernel
theorem d_X11_keep_19 : decode c_X11_keep 19 = .ok (.getfield 25, 3) := by decide +kernel
theorem d_X11_keep_22 : decode c_X11_keep 22 = .ok (.iload_n 1, 1) := by decide +kernel
theorem d_X11_keep_23 : decode c_X11_keep 23 = .ok (.iaload, 1) := by decide +kernel
theorem d_X11_keep_24 : decode c_X11_keep 24 = .ok (.iastore, 1) := by decide +kernel
theorem d_X11_keep_25 : decode c_X11_keep 25 = .ok (.aload_n 0, 1) := by decide +kernel
theorem d_X11_keep_26 : decode c_X11_keep 26 = .ok (.getfield 121, 3) := by decide +kernel
theorem d_X11_keep_29 : decode c_X11_keep 29 = .ok (.bipush 9, 2) := by decide +kernel
theorem d_X11_keep_31 : decode c_X11_keep 31 = .ok (.iload_n 1, 1) := by decide +kernel
theorem d_X11_keep_32 : decode c_X11_keep 32 = .ok (.imul, 1) := by decide +kernel
theorem d_X11_keep_33 : decode c_X11_keep 33 = .ok (.iconst 1, 1) := by decide +kernel
theorem d_X11_keep_34 : decode c_X11_keep 34 = .ok (.iadd, 1) := by decide +kernel
theorem d_X11_keep_35 : decode c_X11_keep 35 = .ok (.aload_n 0, 1) := by decide +kernel
theorem d_X11_keep_36 : decode c_X11_keep 36 = .ok (.getfield 28, 3) := by decide +kernel
theorem d_X11_keep_39 : decode c_X11_keep 39 = .ok (.iload_n 1, 1) := by decide +kernel
theorem d_X11_keep_40 : decode c_X11_keep 40 = .ok (.iaload, 1) := by decide +kernel
theorem d_X11_keep_41 : decode c_X11_keep 41 = .ok (.iastore, 1) := by decide +kernel
theorem d_X11_keep_42 : decode c_X11_keep 42 = .ok (.aload_n 0, 1) := by decide +kernel
theorem d_X11_keep_43 : decode c_X11_keep 43 = .ok (.getfield 121, 3) := by decide +kernel
theorem d_X11_keep_46 : decode c_X11_keep 46 = .ok (.bipush 9, 2) := by decide +kernel
theorem d_X11_keep_48 : decode c_X11_keep 48 = .ok (.iload_n 1, 1) := by decide +kernel
theorem d_X11_keep_49 : decode c_X11_keep 49 = .ok (.imul, 1) := by decide +kernel
theorem d_X11_keep_50 : decode c_X11_keep 50 = .ok (.iconst 2, 1) := by decide +kernel
theorem d_X11_keep_51 : decode c_X11_keep 51 = .ok (.iadd, 1) := by decide +kernel
theorem d_X11_keep_52 : decode c_X11_keep 52 = .ok (.aload_n 0, 1) := by decide +kernel
theorem d_X11_keep_53 : decode c_X11_keep 53 = .ok (.getfield 31, 3) := by decide +kernel
theorem d_X11_keep_56 : decode c_X11_keep 56 = .ok (.iload_n 1, 1) := by decide +kernel
theorem d_X11_keep_57 : decode c_X11_keep 57 = .ok (.iaload, 1) := by decide +kernel
theorem d_X11_keep_58 : decode c_X11_keep 58 = .ok (.iastore, 1) := by decide +kernel
theorem d_X11_keep_59 : decode c_X11_keep 59 = .ok (.aload_n 0, 1) := by decide +kernel
theorem d_X11_keep_60 : decode c_X11_keep 60 = .ok (.getfield 121, 3) := by decide +kernel
theorem d_X11_keep_63 : decode c_X11_keep 63 = .ok (.bipush 9, 2) := by decide +kernel
theorem d_X11_keep_65 : decode c_X11_keep 65 = .ok (.iload_n 1, 1) := by decide +kernel
theorem d_X11_keep_66 : decode c_X11_keep 66 = .ok (.imul, 1) := by decide +kernel
theorem d_X11_keep_67 : decode c_X11_keep 67 = .ok (.iconst 3, 1) := by decide +kernel
theorem d_X11_keep_68 : decode c_X11_keep 68 = .ok (.iadd, 1) := by decide +kernel
theorem d_X11_keep_69 : decode c_X11_keep 69 = .ok (.aload_n 0, 1) := by decide +kernel
theorem d_X11_keep_70 : decode c_X11_keep 70 = .ok (.getfield 34, 3) := by decide +kernel
theorem d_X11_keep_73 : decode c_X11_keep 73 = .ok (.iload_n 1, 1) := by decide +kernel
theorem d_X11_keep_74 : decode c_X11_keep 74 = .ok (.iaload, 1) := by decide +kernel
theorem d_X11_keep_75 : decode c_X11_keep 75 = .ok (.iastore, 1) := by decide +kernel
theorem d_X11_keep_76 : decode c_X11_keep 76 = .ok (.aload_n 0, 1) := by decide +kernel
theorem d_X11_keep_77 : decode c_X11_keep 77 = .ok (.getfield 121, 3) := by decide +kernel
theorem d_X11_keep_80 : decode c_X11_keep 80 = .ok (.bipush 9, 2) := by decide +kernel
theorem d_X11_keep_82 : decode c_X11_keep 82 = .ok (.iload_n 1, 1) := by decide +kernel
theorem d_X11_keep_83 : decode c_X11_keep 83 = .ok (.imul, 1) := by decide +kernel
theorem d_X11_keep_84 : decode c_X11_keep 84 = .ok (.iconst 4, 1) := by decide +kernel
theorem d_X11_keep_85 : decode c_X11_keep 85 = .ok (.iadd, 1) := by decide +kernel
theorem d_X11_keep_86 : decode c_X11_keep 86 = .ok (.aload_n 0, 1) := by decide +kernel
theorem d_X11_keep_87 : decode c_X11_keep 87 = .ok (.getfield 37, 3) := by decide +kernel
theorem d_X11_keep_90 : decode c_X11_keep 90 = .ok (.iload_n 1, 1) := by decide +kernel
theorem d_X11_keep_91 : decode c_X11_keep 91 = .ok (.iaload, 1) := by decide +kernel
theorem d_X11_keep_92 : decode c_X11_keep 92 = .ok (.iastore, 1) := by decide +kernel
theorem d_X11_keep_93 : decode c_X11_keep 93 = .ok (.aload_n 0, 1) := by decide +kernel
theorem d_X11_keep_94 : decode c_X11_keep 94 = .ok (.getfield 121, 3) := by decide +kernel
theorem d_X11_keep_97 : decode c_X11_keep 97 = .ok (.bipush 9, 2) := by decide +kernel
theorem d_X11_keep_99 : decode c_X11_keep 99 = .ok (.iload_n 1, 1) := by decide +kernel
theorem d_X11_keep_100 : decode c_X11_keep 100 = .ok (.imul, 1) := by decide +kernel
theorem d_X11_keep_101 : decode c_X11_keep 101 = .ok (.iconst 5, 1) := by decide +kernel
theorem d_X11_keep_102 : decode c_X11_keep 102 = .ok (.iadd, 1) := by decide +kernel
theorem d_X11_keep_103 : decode c_X11_keep 103 = .ok (.aload_n 0, 1) := by decide +kernel
theorem d_X11_keep_104 : decode c_X11_keep 104 = .ok (.getfield 40, 3) := by decide +kernel
theorem d_X11_keep_107 : decode c_X11_keep 107 = .ok (.iload_n 1, 1) := by decide +kernel
theorem d_X11_keep_108 : decode c_X11_keep 108 = .ok (.iaload, 1) := by decide +kernel
theorem d_X11_keep_109 : decode c_X11_keep 109 = .ok (.iastore, 1) := by decide +kernel
theorem d_X11_keep_110 : decode c_X11_keep 110 = .ok (.aload_n 0, 1) := by decide +kernel
theorem d_X11_keep_111 : decode c_X11_keep 111 = .ok (.getfield 121, 3) := by decide +kernel
theorem d_X11_keep_114 : decode c_X11_keep 114 = .ok (.bipush 9, 2) := by decide +kernel
theorem d_X11_keep_116 : decode c_X11_keep 116 = .ok (.iload_n 1, 1) := by decide +kernel
theorem d_X11_keep_117 : decode c_X11_keep 117 = .ok (.imul, 1) := by decide +kernel
theorem d_X11_keep_118 : decode c_X11_keep 118 = .ok (.bipush 6, 2) := by decide +kernel
theorem d_X11_keep_120 : decode c_X11_keep 120 = .ok (.iadd, 1) := by decide +kernel
theorem d_X11_keep_121 : decode c_X11_keep 121 = .ok (.aload_n 0, 1) := by decide +kernel
theorem d_X11_keep_122 : decode c_X11_keep 122 = .ok (.getfield 43, 3) := by decide +kernel
theorem d_X11_keep_125 : decode c_X11_keep 125 = .ok (.iload_n 1, 1) := by decide +kernel
theorem d_X11_keep_126 : decode c_X11_keep 126 = .ok (.iaload, 1) := by decide +kernel
theorem d_X11_keep_127 : decode c_X11_keep 127 = .ok (.iastore, 1) := by decide +kernel
theorem d_X11_keep_128 : decode c_X11_keep 128 = .ok (.aload_n 0, 1) := by decide +kernel
theorem d_X11_keep_129 : decode c_X11_keep 129 = .ok (.getfield 121, 3) := by decide +kernel
theorem d_X11_keep_132 : decode c_X11_keep 132 = .ok (.bipush 9, 2) := by decide +kernel
theorem d_X11_keep_134 : decode c_X11_keep 134 = .ok (.iload_n 1, 1) := by decide +kernel
theorem d_X11_keep_135 : decode c_X11_keep 135 = .ok (.imul, 1) := by decide +kernel
theorem d_X11_keep_136 : decode c_X11_keep 136 = .ok (.bipush 7, 2) := by decide +kernel
theorem d_X11_keep_138 : decode c_X11_keep 138 = .ok (.iadd, 1) := by decide +kernel
theorem d_X11_keep_139 : decode c_X11_keep 139 = .ok (.aload_n 0, 1) := by decide +kernel
theorem d_X11_keep_140 : decode c_X11_keep 140 = .ok (.getfield 46, 3) := by decide +kernel
theorem d_X11_keep_143 : decode c_X11_keep 143 = .ok (.iload_n 1, 1) := by decide +kernel
theorem d_X11_keep_144 : decode c_X11_keep 144 = .ok (.iaload, 1) := by decide +kernel
theorem d_X11_keep_145 : decode c_X11_keep 145 = .ok (.iastore, 1) := by decide +kernel
theorem d_X11_keep_146 : decode c_X11_keep 146 = .ok (.iinc 1 1, 3) := by decide +kernel
theorem d_X11_keep_149 : decode c_X11_keep 149 = .ok (.goto (-147), 3) := by decide +kernel
theorem d_X11_keep_152 : decode c_X11_keep 152 = .ok (.iconst 0, 1) := by decide +kernel
theorem d_X11_keep_153 : decode c_X11_keep 153 = .ok (.istore_n 1, 1) := by decide +kernel
theorem d_X11_keep_154 : decode c_X11_keep 154 = .ok (.iload_n 1, 1) := by decide +kernel
theorem d_X11_keep_155 : decode c_X11_keep 155 = .ok (.bipush 6, 2) := by decide +kernel
theorem d_X11_keep_157 : decode c_X11_keep 157 = .ok (.if_icmp .ge 66, 3) := by decide +kernel
theorem d_X11_keep_160 : decode c_X11_keep 160 = .ok (.aload_n 0, 1) := by decide +kernel
theorem d_X11_keep_161 : decode c_X11_keep 161 = .ok (.getfield 124, 3) := by decide +kernel
theorem d_X11_keep_164 : decode c_X11_keep 164 = .ok (.iload_n 1, 1) := by decide +kernel
theorem d_X11_keep_165 : decode c_X11_keep 165 = .ok (.aload_n 0, 1) := by decide +kernel
theorem d_X11_keep_166 : decode c_X11_keep 166 = .ok (.getfield 61, 3) := by decide +kernel
theorem d_X11_keep_169 : decode c_X11_keep 169 = .ok (.iload_n 1, 1) := by decide +kernel
theorem d_X11_keep_170 : decode c_X11_keep 170 = .ok (.iaload, 1) := by decide +kernel
theorem d_X11_keep_171 : decode c_X11_keep 171 = .ok (.iastore, 1) := by decide +kernel
theorem d_X11_keep_172 : decode c_X11_keep 172 = .ok (.aload_n 0, 1) := by decide +kernel
theorem d_X11_keep_173 : decode c_X11_keep 173 = .ok (.getfield 124, 3) := by decide +kernel
theorem d_X11_keep_176 : decode c_X11_keep 176 = .ok (.bipush 6, 2) := by decide +kernel
theorem d_X11_keep_178 : decode c_X11_keep 178 = .ok (.iload_n 1, 1) := by decide +kernel
theorem d_X11_keep_179 : decode c_X11_keep 179 = .ok (.iadd, 1) := by decide +kernel
theorem d_X11_keep_180 : decode c_X11_keep 180 = .ok (.aload_n 0, 1) := by decide +kernel
theorem d_X11_keep_181 : decode c_X11_keep 181 = .ok (.getfield 64, 3) := by decide +kernel
theorem d_X11_keep_184 : decode c_X11_keep 184 = .ok (.iload_n 1, 1) := by decide +kernel
theorem d_X11_keep_185 : decode c_X11_keep 185 = .ok (.iaload, 1) := by decide +kernel
theorem d_X11_keep_186 : decode c_X11_keep 186 = .ok (.iastore, 1) := by decide +kernel
theorem d_X11_keep_187 : decode c_X11_keep 187 = .ok (.aload_n 0, 1) := by decide +kernel
theorem d_X11_keep_188 : decode c_X11_keep 188 = .ok (.getfield 124, 3) := by decide +kernel
theorem d_X11_keep_191 : decode c_X11_keep 191 = .ok (.bipush 12, 2) := by decide +kernel
theorem d_X11_keep_193 : decode c_X11_keep 193 = .ok (.iload_n 1, 1) := by decide +kernel
theorem d_X11_keep_194 : decode c_X11_keep 194 = .ok (.iadd, 1) := by decide +kernel
theorem d_X11_keep_195 : decode c_X11_keep 195 = .ok (.aload_n 0, 1) := by decide +kernel
theorem d_X11_keep_196 : decode c_X11_keep 196 = .ok (.getfield 67, 3) := by decide +kernel
theorem d_X11_keep_199 : decode c_X11_keep 199 = .ok (.iload_n 1, 1) := by decide +kernel
theorem d_X11_keep_200 : decode c_X11_keep 200 = .ok (.iaload, 1) := by decide +kernel
theorem d_X11_keep_201 : decode c_X11_keep 201 = .ok (.iastore, 1) := by decide +kernel
theorem d_X11_keep_202 : decode c_X11_keep 202 = .ok (.aload_n 0, 1) := by decide +kernel
theorem d_X11_keep_203 : decode c_X11_keep 203 = .ok (.getfield 124, 3) := by decide +kernel
theorem d_X11_keep_206 : decode c_X11_keep 206 = .ok (.bipush 18, 2) := by decide +kernel
theorem d_X11_keep_208 : decode c_X11_keep 208 = .ok (.iload_n 1, 1) := by decide +kernel
theorem d_X11_keep_209 : decode c_X11_keep 209 = .ok (.iadd, 1) := by decide +kernel
theorem d_X11_keep_210 : decode c_X11_keep 210 = .ok (.aload_n 0, 1) := by decide +kernel
theorem d_X11_keep_211 : decode c_X11_keep 211 = .ok (.getfield 70, 3) := by decide +kernel
theorem d_X11_keep_214 : decode c_X11_keep 214 = .ok (.iload_n 1, 1) := by decide +kernel
theorem d_X11_keep_215 : decode c_X11_keep 215 = .ok (.iaload, 1) := by decide +kernel
theorem d_X11_keep_216 : decode c_X11_keep 216 = .ok (.iastore, 1) := by decide +kernel
theorem d_X11_keep_217 : decode c_X11_keep 217 = .ok (.iinc 1 1, 3) := by decide +kernel
theorem d_X11_keep_220 : decode c_X11_keep 220 = .ok (.goto (-66), 3) := by decide +kernel
theorem d_X11_keep_223 : decode c_X11_keep 223 = .ok (.iconst 0, 1) := by decide +kernel
theorem d_X11_keep_224 : decode c_X11_keep 224 = .ok (.istore_n 1, 1) := by decide +kernel
theorem d_X11_keep_225 : decode c_X11_keep 225 = .ok (.iload_n 1, 1) := by decide +kernel
theorem d_X11_keep_226 : decode c_X11_keep 226 = .ok (.aload_n 0, 1) := by decide +kernel
theorem d_X11_keep_227 : decode c_X11_keep 227 = .ok (.getfield 173, 3) := by decide +kernel
theorem d_X11_keep_230 : decode c_X11_keep 230 = .ok (.if_icmp .ge 24, 3) := by decide +kernel
theorem d_X11_keep_233 : decode c_X11_keep 233 = .ok (.aload_n 0, 1) := by decide +kernel
theorem d_X11_keep_234 : decode c_X11_keep 234 = .ok (.getfield 124, 3) := by decide +kernel
theorem d_X11_keep_237 : decode c_X11_keep 237 = .ok (.bipush 24, 2) := by decide +kernel
theorem d_X11_keep_239 : decode c_X11_keep 239 = .ok (.iload_n 1, 1) := by decide +kernel
theorem d_X11_keep_240 : decode c_X11_keep 240 = .ok (.iadd, 1) := by decide +kernel
theorem d_X11_keep_241 : decode c_X11_keep 241 = .ok (.aload_n 0, 1) := by decide +kernel
theorem d_X11_keep_242 : decode c_X11_keep 242 = .ok (.getfield 55, 3) := by decide +kernel
theorem d_X11_keep_245 : decode c_X11_keep 245 = .ok (.iload_n 1, 1) := by decide +kernel
theorem d_X11_keep_246 : decode c_X11_keep 246 = .ok (.iaload, 1) := by decide +kernel
theorem d_X11_keep_247 : decode c_X11_keep 247 = .ok (.iastore, 1) := by decide +kernel
theorem d_X11_keep_248 : decode c_X11_keep 248 = .ok (.iinc 1 1, 3) := by decide +kernel
theorem d_X11_keep_251 : decode c_X11_keep 251 = .ok (.goto (-26), 3) := by decide +kernel
theorem d_X11_keep_254 : decode c_X11_keep 254 = .ok (.aload_n 0, 1) := by decide +kernel
theorem d_X11_keep_255 : decode c_X11_keep 255 = .ok (.getfield 124, 3) := by decide +kernel
theorem d_X11_keep_258 : decode c_X11_keep 258 = .ok (.bipush 34, 2) := by decide +kernel
theorem d_X11_keep_260 : decode c_X11_keep 260 = .ok (.aload_n 0, 1) := by decide +kernel
theorem d_X11_keep_261 : decode c_X11_keep 261 = .ok (.getfield 227, 3) := by decide +kernel
theorem d_X11_keep_264 : decode c_X11_keep 264 = .ok (.iastore, 1) := by decide +kernel
theorem d_X11_keep_265 : decode c_X11_keep 265 = .ok (.aload_n 0, 1) := by decide +kernel
theorem d_X11_keep_266 : decode c_X11_keep 266 = .ok (.getfield 124, 3) := by decide +kernel
theorem d_X11_keep_269 : decode c_X11_keep 269 = .ok (.bipush 35, 2) := by decide +kernel
theorem d_X11_keep_271 : decode c_X11_keep 271 = .ok (.aload_n 0, 1) := by decide +kernel
theorem d_X11_keep_272 : decode c_X11_keep 272 = .ok (.getfield 76, 3) := by decide +kernel
theorem d_X11_keep_275 : decode c_X11_keep 275 = .ok (.iastore, 1) := by decide +kernel
theorem d_X11_keep_276 : decode c_X11_keep 276 = .ok (.aload_n 0, 1) := by decide +kernel
theorem d_X11_keep_277 : decode c_X11_keep 277 = .ok (.getfield 124, 3) := by decide +kernel
theorem d_X11_keep_280 : decode c_X11_keep 280 = .ok (.bipush 36, 2) := by decide +kernel
theorem d_X11_keep_282 : decode c_X11_keep 282 = .ok (.aload_n 0, 1) := by decide +kernel
theorem d_X11_keep_283 : decode c_X11_keep 283 = .ok (.getfield 243, 3) := by decide +kernel
theorem d_X11_keep_286 : decode c_X11_keep 286 = .ok (.iastore, 1) := by decide +kernel
theorem d_X11_keep_287 : decode c_X11_keep 287 = .ok (.aload_n 0, 1) := by decide +kernel
theorem d_X11_keep_288 : decode c_X11_keep 288 = .ok (.getfield 124, 3) := by decide +kernel
theorem d_X11_keep_291 : decode c_X11_keep 291 = .ok (.bipush 37, 2) := by decide +kernel
theorem d_X11_keep_293 : decode c_X11_keep 293 = .ok (.aload_n 0, 1) := by decide +kernel
theorem d_X11_keep_294 : decode c_X11_keep 294 = .ok (.getfield 246, 3) := by decide +kernel
theorem d_X11_keep_297 : decode c_X11_keep 297 = .ok (.iastore, 1) := by decide +kernel
theorem d_X11_keep_298 : decode c_X11_keep 298 = .ok (.aload_n 0, 1) := by decide +kernel
theorem d_X11_keep_299 : decode c_X11_keep 299 = .ok (.getfield 124, 3) := by decide +kernel
theorem d_X11_keep_302 : decode c_X11_keep 302 = .ok (.bipush 38, 2) := by decide +kernel
theorem d_X11_keep_304 : decode c_X11_keep 304 = .ok (.aload_n 0, 1) := by decide +kernel
theorem d_X11_keep_305 : decode c_X11_keep 305 = .ok (.getfield 249, 3) := by decide +kernel
theorem d_X11_keep_308 : decode c_X11_keep 308 = .ok (.iastore, 1) := by decide +kernel
theorem d_X11_keep_309 : decode c_X11_keep 309 = .ok (.iconst 0, 1) := by decide +kernel
theorem d_X11_keep_310 : decode c_X11_keep 310 = .ok (.istore_n 1, 1) := by decide +kernel
theorem d_X11_keep_311 : decode c_X11_keep 311 = .ok (.iload_n 1, 1) := by decide +kernel
theorem d_X11_keep_312 : decode c_X11_keep 312 = .ok (.aload_n 0, 1) := by decide +kernel
theorem d_X11_keep_313 : decode c_X11_keep 313 = .ok (.getfield 243, 3) := by decide +kernel
theorem d_X11_keep_316 : decode c_X11_keep 316 = .ok (.if_icmp .ge 71, 3) := by decide +kernel
theorem d_X11_keep_319 : decode c_X11_keep 319 = .ok (.aload_n 0, 1) := by decide +kernel
theorem d_X11_keep_320 : decode c_X11_keep 320 = .ok (.getfield 127, 3) := by decide +kernel
theorem d_X11_keep_323 : decode c_X11_keep 323 = .ok (.iconst 4, 1) := by decide +kernel
theorem d_X11_keep_324 : decode c_X11_keep 324 = .ok (.iload_n 1, 1) := by decide +kernel
theorem d_X11_keep_325 : decode c_X11_keep 325 = .ok (.imul, 1) := by decide +kernel
theorem d_X11_keep_326 : decode c_X11_keep 326 = .ok (.aload_n 0, 1) := by decide +kernel
theorem d_X11_keep_327 : decode c_X11_keep 327 = .ok (.getfield 80, 3) := by decide +kernel
theorem d_X11_keep_330 : decode c_X11_keep 330 = .ok (.iload_n 1, 1) := by decide +kernel
theorem d_X11_keep_331 : decode c_X11_keep 331 = .ok (.iaload, 1) := by decide +kernel
theorem d_X11_keep_332 : decode c_X11_keep 332 = .ok (.iastore, 1) := by decide +kernel
theorem d_X11_keep_333 : decode c_X11_keep 333 = .ok (.aload_n 0, 1) := by decide +kernel
theorem d_X11_keep_334 : decode c_X11_keep 334 = .ok (.getfield 127, 3) := by decide +kernel
theorem d_X11_keep_337 : decode c_X11_keep 337 = .ok (.iconst 4, 1) := by decide +kernel
theorem d_X11_keep_338 : decode c_X11_keep 338 = .ok (.iload_n 1, 1) := by decide +kernel
theorem d_X11_keep_339 : decode c_X11_keep 339 = .ok (.imul, 1) := by decide +kernel
theorem d_X11_keep_340 : decode c_X11_keep 340 = .ok (.iconst 1, 1) := by decide +kernel
theorem d_X11_keep_341 : decode c_X11_keep 341 = .ok (.iadd, 1) := by decide +kernel
theorem d_X11_keep_342 : decode c_X11_keep 342 = .ok (.aload_n 0, 1) := by decide +kernel
theorem d_X11_keep_343 : decode c_X11_keep 343 = .ok (.getfield 83, 3) := by decide +kernel
theorem d_X11_keep_346 : decode c_X11_keep 346 = .ok (.iload_n 1, 1) := by decide +kernel
theorem d_X11_keep_347 : decode c_X11_keep 347 = .ok (.iaload, 1) := by decide +kernel
theorem d_X11_keep_348 : decode c_X11_keep 348 = .ok (.iastore, 1) := by decide +kernel
theorem d_X11_keep_349 : decode c_X11_keep 349 = .ok (.aload_n 0, 1) := by decide +kernel
theorem d_X11_keep_350 : decode c_X11_keep 350 = .ok (.getfield 127, 3) := by decide +kernel
theorem d_X11_keep_353 : decode c_X11_keep 353 = .ok (.iconst 4, 1) := by decide +kernel
theorem d_X11_keep_354 : decode c_X11_keep 354 = .ok (.iload_n 1, 1) := by decide +kernel
theorem d_X11_keep_355 : decode c_X11_keep 355 = .ok (.imul, 1) := by decide +kernel
theorem d_X11_keep_356 : decode c_X11_keep 356 = .ok (.iconst 2, 1) := by decide +kernel
theorem d_X11_keep_357 : decode c_X11_keep 357 = .ok (.iadd, 1) := by decide +kernel
theorem d_X11_keep_358 : decode c_X11_keep 358 = .ok (.aload_n 0, 1) := by decide +kernel
theorem d_X11_keep_359 : decode c_X11_keep 359 = .ok (.getfield 86, 3) := by decide +kernel
theorem d_X11_keep_362 : decode c_X11_keep 362 = .ok (.iload_n 1, 1) := by decide +kernel
theorem d_X11_keep_363 : decode c_X11_keep 363 = .ok (.iaload, 1) := by decide +kernel
theorem d_X11_keep_364 : decode c_X11_keep 364 = .ok (.iastore, 1) := by decide +kernel
theorem d_X11_keep_365 : decode c_X11_keep 365 = .ok (.aload_n 0, 1) := by decide +kernel
theorem d_X11_keep_366 : decode c_X11_keep 366 = .ok (.getfield 127, 3) := by decide +kernel
theorem d_X11_keep_369 : decode c_X11_keep 369 = .ok (.iconst 4, 1) := by decide +kernel
theorem d_X11_keep_370 : decode c_X11_keep 370 = .ok (.iload_n 1, 1) := by decide +kernel
theorem d_X11_keep_371 : decode c_X11_keep 371 = .ok (.imul, 1) := by decide +kernel
theorem d_X11_keep_372 : decode c_X11_keep 372 = .ok (.iconst 3, 1) := by decide +kernel
theorem d_X11_keep_373 : decode c_X11_keep 373 = .ok (.iadd, 1) := by decide +kernel
theorem d_X11_keep_374 : decode c_X11_keep 374 = .ok (.aload_n 0, 1) := by decide +kernel
theorem d_X11_keep_375 : decode c_X11_keep 375 = .ok (.getfield 89, 3) := by decide +kernel
theorem d_X11_keep_378 : decode c_X11_keep 378 = .ok (.iload_n 1, 1) := by decide +kernel
theorem d_X11_keep_379 : decode c_X11_keep 379 = .ok (.iaload, 1) := by decide +kernel
theorem d_X11_keep_380 : decode c_X11_keep 380 = .ok (.iastore, 1) := by decide +kernel
theorem d_X11_keep_381 : decode c_X11_keep 381 = .ok (.iinc 1 1, 3) := by decide +kernel
theorem d_X11_keep_384 : decode c_X11_keep 384 = .ok (.goto (-73), 3) := by decide +kernel
theorem d_X11_keep_387 : decode c_X11_keep 387 = .ok (.return_, 1) := by decide +kernel
set_option maxHeartbeats 4000000 in
set_option maxRecDepth 100000 in
theorem ct_X11_keep_400 (l : Launch) (D : va_G) (dA : Nat → ClassId) (ad : Nat → Nat) (v : tV) (hI : Inv v)  : Met l m_X11_keep [.code m_X11_keep c_X11_keep 2 none] ({ frames := 1, cells := 0, slots := 0, locals := 40 } : Room) (tP D dA ad v [.ref (ad 400)]) (tQv D dA ad (fun v' => Inv v' ∧ Kp v v')) 0 0 (tA ad) := by
  refine tMet (by decide) (Nat.le_of_ble_eq_true rfl) ?_
  intro p e s m below meth c ls X hr hlocks hw hl
  have X : CX p s m ([.ref (ad 400)] : List Value).toArray c c_X11_keep N_X11 2 D dA := X
  have hx := X.1
  have hb := X.2.1
  have hS : va_S (tA ad) s.heap s.heap [] := va_S.rf
  have hl : lv_has ls 2 [(0, .ref (ad 400))] := hl
  have LL : ∀ n : Nat, (∀ (y1 : Int32) (v1 : tV) (H : Heap) (locs : List Loc) (ls : Array Slot), (20 - y1.toInt).toNat + 900 < n → Rg y1 0 20 → Inv v1 → Kp v v1 → tI D dA ad v1 H → va_S (tA ad) s.heap H locs → lv_has ls 2 [(0, .ref (ad 400)), (1, .int y1)] → W p l e ({ frames := 1, cells := 0, slots := 0, locals := 40 } : Room) s m ([.ref (ad 400)] : List Value).toArray below meth c H locs 0 0 (MQ below (tQv D dA ad (fun v' => Inv v' ∧ Kp v v')) ([.ref (ad 400)] : List Value).toArray s 0 0 (tA ad)) (F0 m 2 ls [])) ∧ (∀ (y1 : Int32) (v1 : tV) (H : Heap) (locs : List Loc) (ls : Array Slot), (6 - y1.toInt).toNat + 800 < n → Rg y1 0 6 → Inv v1 → Kp v v1 → tI D dA ad v1 H → va_S (tA ad) s.heap H locs → lv_has ls 2 [(0, .ref (ad 400)), (1, .int y1)] → W p l e ({ frames := 1, cells := 0, slots := 0, locals := 40 } : Room) s m ([.ref (ad 400)] : List Value).toArray below meth c H locs 0 0 (MQ below (tQv D dA ad (fun v' => Inv v' ∧ Kp v v')) ([.ref (ad 400)] : List Value).toArray s 0 0 (tA ad)) (F0 m 154 ls [])) ∧ (∀ (y1 : Int32) (v1 : tV) (H : Heap) (locs : List Loc) (ls : Array Slot), (10 - y1.toInt).toNat + 700 < n → Rg y1 0 10 → Inv v1 → Kp v v1 → tI D dA ad v1 H → va_S (tA ad) s.heap H locs → lv_has ls 2 [(0, .ref (ad 400)), (1, .int y1)] → W p l e ({ frames := 1, cells := 0, slots := 0, locals := 40 } : Room) s m ([.ref (ad 400)] : List Value).toArray below meth c H locs 0 0 (MQ below (tQv D dA ad (fun v' => Inv v' ∧ Kp v v')) ([.ref (ad 400)] : List Value).toArray s 0 0 (tA ad)) (F0 m 225 ls [])) ∧ (∀ (y1 : Int32) (v1 : tV) (H : Heap) (locs : List Loc) (ls : Array Slot), (200 - y1.toInt).toNat + 0 < n → Rg y1 0 200 → Inv v1 → Kp v v1 → tI D dA ad v1 H → va_S (tA ad) s.heap H locs → lv_has ls 2 [(0, .ref (ad 400)), (1, .int y1)] → W p l e ({ frames := 1, cells := 0, slots := 0, locals := 40 } : Room) s m ([.ref (ad 400)] : List Value).toArray below meth c H locs 0 0 (MQ below (tQv D dA ad (fun v' => Inv v' ∧ Kp v v')) ([.ref (ad 400)] : List Value).toArray s 0 0 (tA ad)) (F0 m 311 ls [])) := by
    intro n
    induction n with
    | zero => refine ⟨?_, ?_, ?_, ?_⟩ <;> (intros; omega)
    | succ n ih =>
      obtain ⟨ih0, ih1, ih2, ih3⟩ := ih
      refine ⟨?_, ?_, ?_, ?_⟩
      · intro y1 v1 H locs ls hmu r_y1 hI1 hK1 hw hS hl
        refine lv_iload_n hx hb d_X11_keep_2 rfl (lv_at hl 1 rfl) ?_
        refine lv_aload_n hx hb d_X11_keep_3 rfl (lv_at hl 0 rfl) ?_
        refine r_geti X hw FL_X11_166 (rfl : KD 400 = _) rfl d_X11_keep_4 ?_
        refine lv_topi (fun x1 ex1 => ?_)
        have r2 : Rg x1 0 20 := by rw [ex1]; exact hI1 _ _ _ _ rfl
        have hm3 : v1 400 1 = x1 := ex1.symm
        refine lv_icmp_ge (tgt := 152) hx hb d_X11_keep_7 (by decide) (fun c4 => ?_) (fun c4 => ?_)
        · have f5 := i_le c4
          refine lv_iconst (v := 0) hx hb d_X11_keep_152 (by decide) ?_
          refine lv_istore_n (lv' := [(1, .int 0), (0, .ref (ad 400))]) hx hb d_X11_keep_153 rfl hl (by decide) rfl (fun ls hl => ?_)
          exact ih1 0 v1 _ _ _ (by obtain ⟨_, _⟩ := (⟨by decide, by decide⟩ : Rg 0 0 0); omega) (rg_w (⟨by decide, by decide⟩ : Rg 0 0 0) (by decide) (by decide)) hI1 hK1 hw hS (lv_sub hl [1, 0] rfl)
        · have f6 := i_nle c4
          have r7 : Rg y1 0 19 := by obtain ⟨a1, a2⟩ := r_y1; obtain ⟨b1, b2⟩ := r2; have f := i_nle c4; exact ⟨by omega, by omega⟩
          have r8 : Rg x1 1 20 := by obtain ⟨a1, a2⟩ := r_y1; obtain ⟨b1, b2⟩ := r2; have f := i_nle c4; exact ⟨by omega, by omega⟩
          refine lv_aload_n hx hb d_X11_keep_10 rfl (lv_at hl 0 rfl) ?_
          refine r_getr (r := 447) X hw FL_X11_121 (rfl : KD 400 = _) rfl d_X11_keep_11 ?_
          refine lv_bipush (v := 9) hx hb d_X11_keep_14 (by decide) ?_
          refine lv_iload_n hx hb d_X11_keep_16 rfl (lv_at hl 1 rfl) ?_
          refine lv_imul hx hb d_X11_keep_17 ?_
          refine lv_topi (fun x9 ex9 => ?_)
          have r10 : Rg x9 0 171 := rg_mulc ex9 (⟨by decide, by decide⟩ : Rg 9 9 9) r7 (by decide) (by decide) (by decide)
          have s11 : x9.toInt = 9 * y1.toInt := rg_mule ex9 r7 rfl (by decide) (by decide)
          refine lv_aload_n hx hb d_X11_keep_18 rfl (lv_at hl 0 rfl) ?_
          refine r_getr (r := 408) X hw FL_X11_25 (rfl : KD 400 = _) rfl d_X11_keep_19 ?_
          refine lv_iload_n hx hb d_X11_keep_22 rfl (lv_at hl 1 rfl) ?_
          refine r_iald X hw (rfl : KD 408 = _) (Rg.vp (b := 19) r7 (by decide)) rfl d_X11_keep_23 ?_
          refine lv_topi (fun x12 ex12 => ?_)
          refine r_iast X hw hS (rfl : KD 447 = _) (Rg.vp (b := 171) r10 (by decide)) rfl d_X11_keep_24 (fun H locs hw hS => ?_)
          obtain ⟨v13, ev13⟩ : ∃ z, z = up2 v1 447 x9.toNatClampNeg x12 := ⟨_, rfl⟩
          rw [← ev13] at hw
          have hI14 : Inv v13 := by rw [ev13]; exact Inv.put0 hI1 _ rfl
          have hK15 : Kp v v13 := by rw [ev13]; exact Kp.put hK1 _ rfl
          have hm16 : v13 400 1 = x1 := by rw [ev13, up2_n _ _ (by omega)]; exact hm3
          refine lv_aload_n hx hb d_X11_keep_25 rfl (lv_at hl 0 rfl) ?_
          refine r_getr (r := 447) X hw FL_X11_121 (rfl : KD 400 = _) rfl d_X11_keep_26 ?_
          refine lv_bipush (v := 9) hx hb d_X11_keep_29 (by decide) ?_
          refine lv_iload_n hx hb d_X11_keep_31 rfl (lv_at hl 1 rfl) ?_
          refine lv_imul hx hb d_X11_keep_32 ?_
          refine lv_topi (fun x17 ex17 => ?_)
          have r18 : Rg x17 0 171 := rg_mulc ex17 (⟨by decide, by decide⟩ : Rg 9 9 9) r7 (by decide) (by decide) (by decide)
          have s19 : x17.toInt = 9 * y1.toInt := rg_mule ex17 r7 rfl (by decide) (by decide)
          refine lv_iconst (v := 1) hx hb d_X11_keep_33 (by decide) ?_
          refine lv_iadd hx hb d_X11_keep_34 ?_
          refine lv_topi (fun x20 ex20 => ?_)
          have r21 : Rg x20 1 172 := rg_add ex20 r18 (⟨by decide, by decide⟩ : Rg 1 1 1) (by decide) (by decide)
          have s22 : x20.toInt = x17.toInt + (1 : Int32).toInt := by rw [ex20]; exact i_add (by obtain ⟨_, _⟩ := r18; obtain ⟨_, _⟩ := (⟨by decide, by decide⟩ : Rg 1 1 1); omega) (by obtain ⟨_, _⟩ := r18; obtain ⟨_, _⟩ := (⟨by decide, by decide⟩ : Rg 1 1 1); omega)
          have s22l : (1 : Int32).toInt = 1 := rfl
          refine lv_aload_n hx hb d_X11_keep_35 rfl (lv_at hl 0 rfl) ?_
          refine r_getr (r := 409) X hw FL_X11_28 (rfl : KD 400 = _) rfl d_X11_keep_36 ?_
          refine lv_iload_n hx hb d_X11_keep_39 rfl (lv_at hl 1 rfl) ?_
          refine r_iald X hw (rfl : KD 409 = _) (Rg.vp (b := 19) r7 (by decide)) rfl d_X11_keep_40 ?_
          refine lv_topi (fun x23 ex23 => ?_)
          refine r_iast X hw hS (rfl : KD 447 = _) (Rg.vp (b := 172) (rg_w r21 (by decide) (by decide)) (by decide)) rfl d_X11_keep_41 (fun H locs hw hS => ?_)
          obtain ⟨v24, ev24⟩ : ∃ z, z = up2 v13 447 x20.toNatClampNeg x23 := ⟨_, rfl⟩
          rw [← ev24] at hw
          have hI25 : Inv v24 := by rw [ev24]; exact Inv.put0 hI14 _ rfl
          have hK26 : Kp v v24 := by rw [ev24]; exact Kp.put hK15 _ rfl
          have hm27 : v24 400 1 = x1 := by rw [ev24, up2_n _ _ (by omega)]; exact hm16
          refine lv_aload_n hx hb d_X11_keep_42 rfl (lv_at hl 0 rfl) ?_
          refine r_getr (r := 447) X hw FL_X11_121 (rfl : KD 400 = _) rfl d_X11_keep_43 ?_
          refine lv_bipush (v := 9) hx hb d_X11_keep_46 (by decide) ?_
          refine lv_iload_n hx hb d_X11_keep_48 rfl (lv_at hl 1 rfl) ?_
          refine lv_imul hx hb d_X11_keep_49 ?_
          refine lv_topi (fun x28 ex28 => ?_)
          have r29 : Rg x28 0 171 := rg_mulc ex28 (⟨by decide, by decide⟩ : Rg 9 9 9) r7 (by decide) (by decide) (by decide)
          have s30 : x28.toInt = 9 * y1.toInt := rg_mule ex28 r7 rfl (by decide) (by decide)
          refine lv_iconst (v := 2) hx hb d_X11_keep_50 (by decide) ?_
          refine lv_iadd hx hb d_X11_keep_51 ?_
          refine lv_topi (fun x31 ex31 => ?_)
          have r32 : Rg x31 2 173 := rg_add ex31 r29 (⟨by decide, by decide⟩ : Rg 2 2 2) (by decide) (by decide)
          have s33 : x31.toInt = x28.toInt + (2 : Int32).toInt := by rw [ex31]; exact i_add (by obtain ⟨_, _⟩ := r29; obtain ⟨_, _⟩ := (⟨by decide, by decide⟩ : Rg 2 2 2); omega) (by obtain ⟨_, _⟩ := r29; obtain ⟨_, _⟩ := (⟨by decide, by decide⟩ : Rg 2 2 2); omega)
          have s33l : (2 : Int32).toInt = 2 := rfl
          refine lv_aload_n hx hb d_X11_keep_52 rfl (lv_at hl 0 rfl) ?_
          refine r_getr (r := 410) X hw FL_X11_31 (rfl : KD 400 = _) rfl d_X11_keep_53 ?_
          refine lv_iload_n hx hb d_X11_keep_56 rfl (lv_at hl 1 rfl) ?_
          refine r_iald X hw (rfl : KD 410 = _) (Rg.vp (b := 19) r7 (by decide)) rfl d_X11_keep_57 ?_
          refine lv_topi (fun x34 ex34 => ?_)
          refine r_iast X hw hS (rfl : KD 447 = _) (Rg.vp (b := 173) (rg_w r32 (by decide) (by decide)) (by decide)) rfl d_X11_keep_58 (fun H locs hw hS => ?_)
          obtain ⟨v35, ev35⟩ : ∃ z, z = up2 v24 447 x31.toNatClampNeg x34 := ⟨_, rfl⟩
          rw [← ev35] at hw
          have hI36 : Inv v35 := by rw [ev35]; exact Inv.put0 hI25 _ rfl
          have hK37 : Kp v v35 := by rw [ev35]; exact Kp.put hK26 _ rfl
          have hm38 : v35 400 1 = x1 := by rw [ev35, up2_n _ _ (by omega)]; exact hm27
          refine lv_aload_n hx hb d_X11_keep_59 rfl (lv_at hl 0 rfl) ?_
          refine r_getr (r := 447) X hw FL_X11_121 (rfl : KD 400 = _) rfl d_X11_keep_60 ?_
          refine lv_bipush (v := 9) hx hb d_X11_keep_63 (by decide) ?_
          refine lv_iload_n hx hb d_X11_keep_65 rfl (lv_at hl 1 rfl) ?_
          refine lv_imul hx hb d_X11_keep_66 ?_
          refine lv_topi (fun x39 ex39 => ?_)
          have r40 : Rg x39 0 171 := rg_mulc ex39 (⟨by decide, by decide⟩ : Rg 9 9 9) r7 (by decide) (by decide) (by decide)
          have s41 : x39.toInt = 9 * y1.toInt := rg_mule ex39 r7 rfl (by decide) (by decide)
          refine lv_iconst (v := 3) hx hb d_X11_keep_67 (by decide) ?_
          refine lv_iadd hx hb d_X11_keep_68 ?_
          refine lv_topi (fun x42 ex42 => ?_)
          have r43 : Rg x42 3 174 := rg_add ex42 r40 (⟨by decide, by decide⟩ : Rg 3 3 3) (by decide) (by decide)
          have s44 : x42.toInt = x39.toInt + (3 : Int32).toInt := by rw [ex42]; exact i_add (by obtain ⟨_, _⟩ := r40; obtain ⟨_, _⟩ := (⟨by decide, by decide⟩ : Rg 3 3 3); omega) (by obtain ⟨_, _⟩ := r40; obtain ⟨_, _⟩ := (⟨by decide, by decide⟩ : Rg 3 3 3); omega)
          have s44l : (3 : Int32).toInt = 3 := rfl
          refine lv_aload_n hx hb d_X11_keep_69 rfl (lv_at hl 0 rfl) ?_
          refine r_getr (r := 411) X hw FL_X11_34 (rfl : KD 400 = _) rfl d_X11_keep_70 ?_
          refine lv_iload_n hx hb d_X11_keep_73 rfl (lv_at hl 1 rfl) ?_
          refine r_iald X hw (rfl : KD 411 = _) (Rg.vp (b := 19) r7 (by decide)) rfl d_X11_keep_74 ?_
          refine lv_topi (fun x45 ex45 => ?_)
          refine r_iast X hw hS (rfl : KD 447 = _) (Rg.vp (b := 174) (rg_w r43 (by decide) (by decide)) (by decide)) rfl d_X11_keep_75 (fun H locs hw hS => ?_)
          obtain ⟨v46, ev46⟩ : ∃ z, z = up2 v35 447 x42.toNatClampNeg x45 := ⟨_, rfl⟩
          rw [← ev46] at hw
          have hI47 : Inv v46 := by rw [ev46]; exact Inv.put0 hI36 _ rfl
          have hK48 : Kp v v46 := by rw [ev46]; exact Kp.put hK37 _ rfl
          have hm49 : v46 400 1 = x1 := by rw [ev46, up2_n _ _ (by omega)]; exact hm38
          refine lv_aload_n hx hb d_X11_keep_76 rfl (lv_at hl 0 rfl) ?_
          refine r_getr (r := 447) X hw FL_X11_121 (rfl : KD 400 = _) rfl d_X11_keep_77 ?_
          refine lv_bipush (v := 9) hx hb d_X11_keep_80 (by decide) ?_
          refine lv_iload_n hx hb d_X11_keep_82 rfl (lv_at hl 1 rfl) ?_
          refine lv_imul hx hb d_X11_keep_83 ?_
          refine lv_topi (fun x50 ex50 => ?_)
          have r51 : Rg x50 0 171 := rg_mulc ex50 (⟨by decide, by decide⟩ : Rg 9 9 9) r7 (by decide) (by decide) (by decide)
          have s52 : x50.toInt = 9 * y1.toInt := rg_mule ex50 r7 rfl (by decide) (by decide)
          refine lv_iconst (v := 4) hx hb d_X11_keep_84 (by decide) ?_
          refine lv_iadd hx hb d_X11_keep_85 ?_
          refine lv_topi (fun x53 ex53 => ?_)
          have r54 : Rg x53 4 175 := rg_add ex53 r51 (⟨by decide, by decide⟩ : Rg 4 4 4) (by decide) (by decide)
          have s55 : x53.toInt = x50.toInt + (4 : Int32).toInt := by rw [ex53]; exact i_add (by obtain ⟨_, _⟩ := r51; obtain ⟨_, _⟩ := (⟨by decide, by decide⟩ : Rg 4 4 4); omega) (by obtain ⟨_, _⟩ := r51; obtain ⟨_, _⟩ := (⟨by decide, by decide⟩ : Rg 4 4 4); omega)
          have s55l : (4 : Int32).toInt = 4 := rfl
          refine lv_aload_n hx hb d_X11_keep_86 rfl (lv_at hl 0 rfl) ?_
          refine r_getr (r := 412) X hw FL_X11_37 (rfl : KD 400 = _) rfl d_X11_keep_87 ?_
          refine lv_iload_n hx hb d_X11_keep_90 rfl (lv_at hl 1 rfl) ?_
          refine r_iald X hw (rfl : KD 412 = _) (Rg.vp (b := 19) r7 (by decide)) rfl d_X11_keep_91 ?_
          refine lv_topi (fun x56 ex56 => ?_)
          refine r_iast X hw hS (rfl : KD 447 = _) (Rg.vp (b := 175) (rg_w r54 (by decide) (by decide)) (by decide)) rfl d_X11_keep_92 (fun H locs hw hS => ?_)
          obtain ⟨v57, ev57⟩ : ∃ z, z = up2 v46 447 x53.toNatClampNeg x56 := ⟨_, rfl⟩
          rw [← ev57] at hw
          have hI58 : Inv v57 := by rw [ev57]; exact Inv.put0 hI47 _ rfl
          have hK59 : Kp v v57 := by rw [ev57]; exact Kp.put hK48 _ rfl
          have hm60 : v57 400 1 = x1 := by rw [ev57, up2_n _ _ (by omega)]; exact hm49
          refine lv_aload_n hx hb d_X11_keep_93 rfl (lv_at hl 0 rfl) ?_
          refine r_getr (r := 447) X hw FL_X11_121 (rfl : KD 400 = _) rfl d_X11_keep_94 ?_
          refine lv_bipush (v := 9) hx hb d_X11_keep_97 (by decide) ?_
          refine lv_iload_n hx hb d_X11_keep_99 rfl (lv_at hl 1 rfl) ?_
          refine lv_imul hx hb d_X11_keep_100 ?_
          refine lv_topi (fun x61 ex61 => ?_)
          have r62 : Rg x61 0 171 := rg_mulc ex61 (⟨by decide, by decide⟩ : Rg 9 9 9) r7 (by decide) (by decide) (by decide)
          have s63 : x61.toInt = 9 * y1.toInt := rg_mule ex61 r7 rfl (by decide) (by decide)
          refine lv_iconst (v := 5) hx hb d_X11_keep_101 (by decide) ?_
          refine lv_iadd hx hb d_X11_keep_102 ?_
          refine lv_topi (fun x64 ex64 => ?_)
          have r65 : Rg x64 5 176 := rg_add ex64 r62 (⟨by decide, by decide⟩ : Rg 5 5 5) (by decide) (by decide)
          have s66 : x64.toInt = x61.toInt + (5 : Int32).toInt := by rw [ex64]; exact i_add (by obtain ⟨_, _⟩ := r62; obtain ⟨_, _⟩ := (⟨by decide, by decide⟩ : Rg 5 5 5); omega) (by obtain ⟨_, _⟩ := r62; obtain ⟨_, _⟩ := (⟨by decide, by decide⟩ : Rg 5 5 5); omega)
          have s66l : (5 : Int32).toInt = 5 := rfl
          refine lv_aload_n hx hb d_X11_keep_103 rfl (lv_at hl 0 rfl) ?_
          refine r_getr (r := 413) X hw FL_X11_40 (rfl : KD 400 = _) rfl d_X11_keep_104 ?_
          refine lv_iload_n hx hb d_X11_keep_107 rfl (lv_at hl 1 rfl) ?_
          refine r_iald X hw (rfl : KD 413 = _) (Rg.vp (b := 19) r7 (by decide)) rfl d_X11_keep_108 ?_
          refine lv_topi (fun x67 ex67 => ?_)
          refine r_iast X hw hS (rfl : KD 447 = _) (Rg.vp (b := 176) (rg_w r65 (by decide) (by decide)) (by decide)) rfl d_X11_keep_109 (fun H locs hw hS => ?_)
          obtain ⟨v68, ev68⟩ : ∃ z, z = up2 v57 447 x64.toNatClampNeg x67 := ⟨_, rfl⟩
          rw [← ev68] at hw
          have hI69 : Inv v68 := by rw [ev68]; exact Inv.put0 hI58 _ rfl
          have hK70 : Kp v v68 := by rw [ev68]; exact Kp.put hK59 _ rfl
          have hm71 : v68 400 1 = x1 := by rw [ev68, up2_n _ _ (by omega)]; exact hm60
          refine lv_aload_n hx hb d_X11_keep_110 rfl (lv_at hl 0 rfl) ?_
          refine r_getr (r := 447) X hw FL_X11_121 (rfl : KD 400 = _) rfl d_X11_keep_111 ?_
          refine lv_bipush (v := 9) hx hb d_X11_keep_114 (by decide) ?_
          refine lv_iload_n hx hb d_X11_keep_116 rfl (lv_at hl 1 rfl) ?_
          refine lv_imul hx hb d_X11_keep_117 ?_
          refine lv_topi (fun x72 ex72 => ?_)
          have r73 : Rg x72 0 171 := rg_mulc ex72 (⟨by decide, by decide⟩ : Rg 9 9 9) r7 (by decide) (by decide) (by decide)
          have s74 : x72.toInt = 9 * y1.toInt := rg_mule ex72 r7 rfl (by decide) (by decide)
          refine lv_bipush (v := 6) hx hb d_X11_keep_118 (by decide) ?_
          refine lv_iadd hx hb d_X11_keep_120 ?_
          refine lv_topi (fun x75 ex75 => ?_)
          have r76 : Rg x75 6 177 := rg_add ex75 r73 (⟨by decide, by decide⟩ : Rg 6 6 6) (by decide) (by decide)
          have s77 : x75.toInt = x72.toInt + (6 : Int32).toInt := by rw [ex75]; exact i_add (by obtain ⟨_, _⟩ := r73; obtain ⟨_, _⟩ := (⟨by decide, by decide⟩ : Rg 6 6 6); omega) (by obtain ⟨_, _⟩ := r73; obtain ⟨_, _⟩ := (⟨by decide, by decide⟩ : Rg 6 6 6); omega)
          have s77l : (6 : Int32).toInt = 6 := rfl
          refine lv_aload_n hx hb d_X11_keep_121 rfl (lv_at hl 0 rfl) ?_
          refine r_getr (r := 414) X hw FL_X11_43 (rfl : KD 400 = _) rfl d_X11_keep_122 ?_
          refine lv_iload_n hx hb d_X11_keep_125 rfl (lv_at hl 1 rfl) ?_
          refine r_iald X hw (rfl : KD 414 = _) (Rg.vp (b := 19) r7 (by decide)) rfl d_X11_keep_126 ?_
          refine lv_topi (fun x78 ex78 => ?_)
          refine r_iast X hw hS (rfl : KD 447 = _) (Rg.vp (b := 177) (rg_w r76 (by decide) (by decide)) (by decide)) rfl d_X11_keep_127 (fun H locs hw hS => ?_)
          obtain ⟨v79, ev79⟩ : ∃ z, z = up2 v68 447 x75.toNatClampNeg x78 := ⟨_, rfl⟩
          rw [← ev79] at hw
          have hI80 : Inv v79 := by rw [ev79]; exact Inv.put0 hI69 _ rfl
          have hK81 : Kp v v79 := by rw [ev79]; exact Kp.put hK70 _ rfl
          have hm82 : v79 400 1 = x1 := by rw [ev79, up2_n _ _ (by omega)]; exact hm71
          refine lv_aload_n hx hb d_X11_keep_128 rfl (lv_at hl 0 rfl) ?_
          refine r_getr (r := 447) X hw FL_X11_121 (rfl : KD 400 = _) rfl d_X11_keep_129 ?_
          refine lv_bipush (v := 9) hx hb d_X11_keep_132 (by decide) ?_
          refine lv_iload_n hx hb d_X11_keep_134 rfl (lv_at hl 1 rfl) ?_
          refine lv_imul hx hb d_X11_keep_135 ?_
          refine lv_topi (fun x83 ex83 => ?_)
          have r84 : Rg x83 0 171 := rg_mulc ex83 (⟨by decide, by decide⟩ : Rg 9 9 9) r7 (by decide) (by decide) (by decide)
          have s85 : x83.toInt = 9 * y1.toInt := rg_mule ex83 r7 rfl (by decide) (by decide)
          refine lv_bipush (v := 7) hx hb d_X11_keep_136 (by decide) ?_
          refine lv_iadd hx hb d_X11_keep_138 ?_
          refine lv_topi (fun x86 ex86 => ?_)
          have r87 : Rg x86 7 178 := rg_add ex86 r84 (⟨by decide, by decide⟩ : Rg 7 7 7) (by decide) (by decide)
          have s88 : x86.toInt = x83.toInt + (7 : Int32).toInt := by rw [ex86]; exact i_add (by obtain ⟨_, _⟩ := r84; obtain ⟨_, _⟩ := (⟨by decide, by decide⟩ : Rg 7 7 7); omega) (by obtain ⟨_, _⟩ := r84; obtain ⟨_, _⟩ := (⟨by decide, by decide⟩ : Rg 7 7 7); omega)
          have s88l : (7 : Int32).toInt = 7 := rfl
          refine lv_aload_n hx hb d_X11_keep_139 rfl (lv_at hl 0 rfl) ?_
          refine r_getr (r := 415) X hw FL_X11_46 (rfl : KD 400 = _) rfl d_X11_keep_140 ?_
          refine lv_iload_n hx hb d_X11_keep_143 rfl (lv_at hl 1 rfl) ?_
          refine r_iald X hw (rfl : KD 415 = _) (Rg.vp (b := 19) r7 (by decide)) rfl d_X11_keep_144 ?_
          refine lv_topi (fun x89 ex89 => ?_)
          refine r_iast X hw hS (rfl : KD 447 = _) (Rg.vp (b := 178) (rg_w r87 (by decide) (by decide)) (by decide)) rfl d_X11_keep_145 (fun H locs hw hS => ?_)
          obtain ⟨v90, ev90⟩ : ∃ z, z = up2 v79 447 x86.toNatClampNeg x89 := ⟨_, rfl⟩
          rw [← ev90] at hw
          have hI91 : Inv v90 := by rw [ev90]; exact Inv.put0 hI80 _ rfl
          have hK92 : Kp v v90 := by rw [ev90]; exact Kp.put hK81 _ rfl
          have hm93 : v90 400 1 = x1 := by rw [ev90, up2_n _ _ (by omega)]; exact hm82
          obtain ⟨x94, ex94⟩ : ∃ y : Int32, y = y1 + 1 := ⟨_, rfl⟩
          refine lv_iinc (v := x94) (lv' := [(1, .int x94), (0, .ref (ad 400))]) hx hb d_X11_keep_146 hl (k := 1) rfl (by rw [ex94]; rfl) (by decide) rfl (fun ls hl => ?_)
          have r95 : Rg x94 1 20 := rg_add ex94 r7 (⟨by decide, by decide⟩ : Rg 1 1 1) (by decide) (by decide)
          have s96 : x94.toInt = y1.toInt + (1 : Int32).toInt := by rw [ex94]; exact i_add (by obtain ⟨_, _⟩ := r7; obtain ⟨_, _⟩ := (⟨by decide, by decide⟩ : Rg 1 1 1); omega) (by obtain ⟨_, _⟩ := r7; obtain ⟨_, _⟩ := (⟨by decide, by decide⟩ : Rg 1 1 1); omega)
          have s96l : (1 : Int32).toInt = 1 := rfl
          refine lv_goto (tgt := 2) hx hb d_X11_keep_149 (by decide) ?_
          exact ih0 x94 v90 _ _ _ (by have := s11; have := s19; have := s22; have := s30; have := s33; have := s41; have := s44; have := s52; have := s55; have := s63; have := s66; have := s74; have := s77; have := s85; have := s88; have := s96; obtain ⟨_, _⟩ := r95; omega) (rg_w r95 (by decide) (by decide)) hI91 hK92 hw hS (lv_sub hl [1, 0] rfl)
      · intro y1 v1 H locs ls hmu r_y1 hI1 hK1 hw hS hl
        refine lv_iload_n hx hb d_X11_keep_154 rfl (lv_at hl 1 rfl) ?_
        refine lv_bipush (v := 6) hx hb d_X11_keep_155 (by decide) ?_
        refine lv_icmp_ge (tgt := 223) hx hb d_X11_keep_157 (by decide) (fun c97 => ?_) (fun c97 => ?_)
        · have f98 := i_le c97
          have r99 : Rg y1 6 6 := by obtain ⟨a1, a2⟩ := r_y1; obtain ⟨b1, b2⟩ := (⟨by decide, by decide⟩ : Rg 6 6 6); have f := i_le c97; exact ⟨by omega, by omega⟩
          refine lv_iconst (v := 0) hx hb d_X11_keep_223 (by decide) ?_
          refine lv_istore_n (lv' := [(1, .int 0), (0, .ref (ad 400))]) hx hb d_X11_keep_224 rfl hl (by decide) rfl (fun ls hl => ?_)
          exact ih2 0 v1 _ _ _ (by obtain ⟨_, _⟩ := (⟨by decide, by decide⟩ : Rg 0 0 0); omega) (rg_w (⟨by decide, by decide⟩ : Rg 0 0 0) (by decide) (by decide)) hI1 hK1 hw hS (lv_sub hl [1, 0] rfl)
        · have f100 := i_nle c97
          have r101 : Rg y1 0 5 := by obtain ⟨a1, a2⟩ := r_y1; obtain ⟨b1, b2⟩ := (⟨by decide, by decide⟩ : Rg 6 6 6); have f := i_nle c97; exact ⟨by omega, by omega⟩
          refine lv_aload_n hx hb d_X11_keep_160 rfl (lv_at hl 0 rfl) ?_
          refine r_getr (r := 448) X hw FL_X11_124 (rfl : KD 400 = _) rfl d_X11_keep_161 ?_
          refine lv_iload_n hx hb d_X11_keep_164 rfl (lv_at hl 1 rfl) ?_
          refine lv_aload_n hx hb d_X11_keep_165 rfl (lv_at hl 0 rfl) ?_
          refine r_getr (r := 421) X hw FL_X11_61 (rfl : KD 400 = _) rfl d_X11_keep_166 ?_
          refine lv_iload_n hx hb d_X11_keep_169 rfl (lv_at hl 1 rfl) ?_
          refine r_iald X hw (rfl : KD 421 = _) (Rg.vp (b := 5) r101 (by decide)) rfl d_X11_keep_170 ?_
          refine lv_topi (fun x102 ex102 => ?_)
          refine r_iast X hw hS (rfl : KD 448 = _) (Rg.vp (b := 5) r101 (by decide)) rfl d_X11_keep_171 (fun H locs hw hS => ?_)
          obtain ⟨v103, ev103⟩ : ∃ z, z = up2 v1 448 y1.toNatClampNeg x102 := ⟨_, rfl⟩
          rw [← ev103] at hw
          have hI104 : Inv v103 := by rw [ev103]; exact Inv.put0 hI1 _ (RG_kr (by have := Rg.nat r101; omega))
          have hK105 : Kp v v103 := by rw [ev103]; exact Kp.put hK1 _ rfl
          refine lv_aload_n hx hb d_X11_keep_172 rfl (lv_at hl 0 rfl) ?_
          refine r_getr (r := 448) X hw FL_X11_124 (rfl : KD 400 = _) rfl d_X11_keep_173 ?_
          refine lv_bipush (v := 6) hx hb d_X11_keep_176 (by decide) ?_
          refine lv_iload_n hx hb d_X11_keep_178 rfl (lv_at hl 1 rfl) ?_
          refine lv_iadd hx hb d_X11_keep_179 ?_
          refine lv_topi (fun x106 ex106 => ?_)
          have r107 : Rg x106 6 11 := rg_add ex106 (⟨by decide, by decide⟩ : Rg 6 6 6) r101 (by decide) (by decide)
          have s108 : x106.toInt = 6.toInt + (y1 : Int32).toInt := by rw [ex106]; exact i_add (by obtain ⟨_, _⟩ := (⟨by decide, by decide⟩ : Rg 6 6 6); obtain ⟨_, _⟩ := r101; omega) (by obtain ⟨_, _⟩ := (⟨by decide, by decide⟩ : Rg 6 6 6); obtain ⟨_, _⟩ := r101; omega)
          refine lv_aload_n hx hb d_X11_keep_180 rfl (lv_at hl 0 rfl) ?_
          refine r_getr (r := 422) X hw FL_X11_64 (rfl : KD 400 = _) rfl d_X11_keep_181 ?_
          refine lv_iload_n hx hb d_X11_keep_184 rfl (lv_at hl 1 rfl) ?_
          refine r_iald X hw (rfl : KD 422 = _) (Rg.vp (b := 5) r101 (by decide)) rfl d_X11_keep_185 ?_
          refine lv_topi (fun x109 ex109 => ?_)
          refine r_iast X hw hS (rfl : KD 448 = _) (Rg.vp (b := 11) (rg_w r107 (by decide) (by decide)) (by decide)) rfl d_X11_keep_186 (fun H locs hw hS => ?_)
          obtain ⟨v110, ev110⟩ : ∃ z, z = up2 v103 448 x106.toNatClampNeg x109 := ⟨_, rfl⟩
          rw [← ev110] at hw
          have hI111 : Inv v110 := by rw [ev110]; exact Inv.put0 hI104 _ (RG_kr (by have := Rg.nat r107; omega))
          have hK112 : Kp v v110 := by rw [ev110]; exact Kp.put hK105 _ rfl
          refine lv_aload_n hx hb d_X11_keep_187 rfl (lv_at hl 0 rfl) ?_
          refine r_getr (r := 448) X hw FL_X11_124 (rfl : KD 400 = _) rfl d_X11_keep_188 ?_
          refine lv_bipush (v := 12) hx hb d_X11_keep_191 (by decide) ?_
          refine lv_iload_n hx hb d_X11_keep_193 rfl (lv_at hl 1 rfl) ?_
          refine lv_iadd hx hb d_X11_keep_194 ?_
          refine lv_topi (fun x113 ex113 => ?_)
          have r114 : Rg x113 12 17 := rg_add ex113 (⟨by decide, by decide⟩ : Rg 12 12 12) r101 (by decide) (by decide)
          have s115 : x113.toInt = 12.toInt + (y1 : Int32).toInt := by rw [ex113]; exact i_add (by obtain ⟨_, _⟩ := (⟨by decide, by decide⟩ : Rg 12 12 12); obtain ⟨_, _⟩ := r101; omega) (by obtain ⟨_, _⟩ := (⟨by decide, by decide⟩ : Rg 12 12 12); obtain ⟨_, _⟩ := r101; omega)
          refine lv_aload_n hx hb d_X11_keep_195 rfl (lv_at hl 0 rfl) ?_
          refine r_getr (r := 423) X hw FL_X11_67 (rfl : KD 400 = _) rfl d_X11_keep_196 ?_
          refine lv_iload_n hx hb d_X11_keep_199 rfl (lv_at hl 1 rfl) ?_
          refine r_iald X hw (rfl : KD 423 = _) (Rg.vp (b := 5) r101 (by decide)) rfl d_X11_keep_200 ?_
          refine lv_topi (fun x116 ex116 => ?_)
          refine r_iast X hw hS (rfl : KD 448 = _) (Rg.vp (b := 17) (rg_w r114 (by decide) (by decide)) (by decide)) rfl d_X11_keep_201 (fun H locs hw hS => ?_)
          obtain ⟨v117, ev117⟩ : ∃ z, z = up2 v110 448 x113.toNatClampNeg x116 := ⟨_, rfl⟩
          rw [← ev117] at hw
          have hI118 : Inv v117 := by rw [ev117]; exact Inv.put0 hI111 _ (RG_kr (by have := Rg.nat r114; omega))
          have hK119 : Kp v v117 := by rw [ev117]; exact Kp.put hK112 _ rfl
          refine lv_aload_n hx hb d_X11_keep_202 rfl (lv_at hl 0 rfl) ?_
          refine r_getr (r := 448) X hw FL_X11_124 (rfl : KD 400 = _) rfl d_X11_keep_203 ?_
          refine lv_bipush (v := 18) hx hb d_X11_keep_206 (by decide) ?_
          refine lv_iload_n hx hb d_X11_keep_208 rfl (lv_at hl 1 rfl) ?_
          refine lv_iadd hx hb d_X11_keep_209 ?_
          refine lv_topi (fun x120 ex120 => ?_)
          have r121 : Rg x120 18 23 := rg_add ex120 (⟨by decide, by decide⟩ : Rg 18 18 18) r101 (by decide) (by decide)
          have s122 : x120.toInt = 18.toInt + (y1 : Int32).toInt := by rw [ex120]; exact i_add (by obtain ⟨_, _⟩ := (⟨by decide, by decide⟩ : Rg 18 18 18); obtain ⟨_, _⟩ := r101; omega) (by obtain ⟨_, _⟩ := (⟨by decide, by decide⟩ : Rg 18 18 18); obtain ⟨_, _⟩ := r101; omega)
          refine lv_aload_n hx hb d_X11_keep_210 rfl (lv_at hl 0 rfl) ?_
          refine r_getr (r := 424) X hw FL_X11_70 (rfl : KD 400 = _) rfl d_X11_keep_211 ?_
          refine lv_iload_n hx hb d_X11_keep_214 rfl (lv_at hl 1 rfl) ?_
          refine r_iald X hw (rfl : KD 424 = _) (Rg.vp (b := 5) r101 (by decide)) rfl d_X11_keep_215 ?_
          refine lv_topi (fun x123 ex123 => ?_)
          refine r_iast X hw hS (rfl : KD 448 = _) (Rg.vp (b := 23) (rg_w r121 (by decide) (by decide)) (by decide)) rfl d_X11_keep_216 (fun H locs hw hS => ?_)
          obtain ⟨v124, ev124⟩ : ∃ z, z = up2 v117 448 x120.toNatClampNeg x123 := ⟨_, rfl⟩
          rw [← ev124] at hw
          have hI125 : Inv v124 := by rw [ev124]; exact Inv.put0 hI118 _ (RG_kr (by have := Rg.nat r121; omega))
          have hK126 : Kp v v124 := by rw [ev124]; exact Kp.put hK119 _ rfl
          obtain ⟨x127, ex127⟩ : ∃ y : Int32, y = y1 + 1 := ⟨_, rfl⟩
          refine lv_iinc (v := x127) (lv' := [(1, .int x127), (0, .ref (ad 400))]) hx hb d_X11_keep_217 hl (k := 1) rfl (by rw [ex127]; rfl) (by decide) rfl (fun ls hl => ?_)
          have r128 : Rg x127 1 6 := rg_add ex127 r101 (⟨by decide, by decide⟩ : Rg 1 1 1) (by decide) (by decide)
          have s129 : x127.toInt = y1.toInt + (1 : Int32).toInt := by rw [ex127]; exact i_add (by obtain ⟨_, _⟩ := r101; obtain ⟨_, _⟩ := (⟨by decide, by decide⟩ : Rg 1 1 1); omega) (by obtain ⟨_, _⟩ := r101; obtain ⟨_, _⟩ := (⟨by decide, by decide⟩ : Rg 1 1 1); omega)
          have s129l : (1 : Int32).toInt = 1 := rfl
          refine lv_goto (tgt := 154) hx hb d_X11_keep_220 (by decide) ?_
          exact ih1 x127 v124 _ _ _ (by have := s108; have := s115; have := s122; have := s129; obtain ⟨_, _⟩ := r128; omega) (rg_w r128 (by decide) (by decide)) hI125 hK126 hw hS (lv_sub hl [1, 0] rfl)
      · intro y1 v1 H locs ls hmu r_y1 hI1 hK1 hw hS hl
        refine lv_iload_n hx hb d_X11_keep_225 rfl (lv_at hl 1 rfl) ?_
        refine lv_aload_n hx hb d_X11_keep_226 rfl (lv_at hl 0 rfl) ?_
        refine r_geti X hw FL_X11_173 (rfl : KD 400 = _) rfl d_X11_keep_227 ?_
        refine lv_topi (fun x130 ex130 => ?_)
        have r131 : Rg x130 0 10 := by rw [ex130]; exact hI1 _ _ _ _ rfl
        have hm132 : v1 400 15 = x130 := ex130.symm
        refine lv_icmp_ge (tgt := 254) hx hb d_X11_keep_230 (by decide) (fun c133 => ?_) (fun c133 => ?_)
        · have f134 := i_le c133
          refine lv_aload_n hx hb d_X11_keep_254 rfl (lv_at hl 0 rfl) ?_
          refine r_getr (r := 448) X hw FL_X11_124 (rfl : KD 400 = _) rfl d_X11_keep_255 ?_
          refine lv_bipush (v := 34) hx hb d_X11_keep_258 (by decide) ?_
          refine lv_aload_n hx hb d_X11_keep_260 rfl (lv_at hl 0 rfl) ?_
          refine r_geti X hw FL_X11_227 (rfl : KD 400 = _) rfl d_X11_keep_261 ?_
          refine lv_topi (fun x135 ex135 => ?_)
          refine r_iast X hw hS (rfl : KD 448 = _) (Rg.vp (b := 34) (rg_w (⟨by decide, by decide⟩ : Rg 34 34 34) (by decide) (by decide)) (by decide)) rfl d_X11_keep_264 (fun H locs hw hS => ?_)
          obtain ⟨v136, ev136⟩ : ∃ z, z = up2 v1 448 (34 : Int32).toNatClampNeg x135 := ⟨_, rfl⟩
          rw [← ev136] at hw
          have hI137 : Inv v136 := by rw [ev136]; exact Inv.put0 hI1 _ rfl
          have hK138 : Kp v v136 := by rw [ev136]; exact Kp.put hK1 _ rfl
          have hm139 : v136 400 15 = x130 := by rw [ev136, up2_n _ _ (by omega)]; exact hm132
          refine lv_aload_n hx hb d_X11_keep_265 rfl (lv_at hl 0 rfl) ?_
          refine r_getr (r := 448) X hw FL_X11_124 (rfl : KD 400 = _) rfl d_X11_keep_266 ?_
          refine lv_bipush (v := 35) hx hb d_X11_keep_269 (by decide) ?_
          refine lv_aload_n hx hb d_X11_keep_271 rfl (lv_at hl 0 rfl) ?_
          refine r_geti X hw FL_X11_76 (rfl : KD 400 = _) rfl d_X11_keep_272 ?_
          refine lv_topi (fun x140 ex140 => ?_)
          refine r_iast X hw hS (rfl : KD 448 = _) (Rg.vp (b := 35) (rg_w (⟨by decide, by decide⟩ : Rg 35 35 35) (by decide) (by decide)) (by decide)) rfl d_X11_keep_275 (fun H locs hw hS => ?_)
          obtain ⟨v141, ev141⟩ : ∃ z, z = up2 v136 448 (35 : Int32).toNatClampNeg x140 := ⟨_, rfl⟩
          rw [← ev141] at hw
          have hI142 : Inv v141 := by rw [ev141]; exact Inv.put0 hI137 _ rfl
          have hK143 : Kp v v141 := by rw [ev141]; exact Kp.put hK138 _ rfl
          have hm144 : v141 400 15 = x130 := by rw [ev141, up2_n _ _ (by omega)]; exact hm139
          refine lv_aload_n hx hb d_X11_keep_276 rfl (lv_at hl 0 rfl) ?_
          refine r_getr (r := 448) X hw FL_X11_124 (rfl : KD 400 = _) rfl d_X11_keep_277 ?_
          refine lv_bipush (v := 36) hx hb d_X11_keep_280 (by decide) ?_
          refine lv_aload_n hx hb d_X11_keep_282 rfl (lv_at hl 0 rfl) ?_
          refine r_geti X hw FL_X11_243 (rfl : KD 400 = _) rfl d_X11_keep_283 ?_
          refine lv_topi (fun x145 ex145 => ?_)
          have r146 : Rg x145 0 200 := by rw [ex145]; exact hI142 _ _ _ _ rfl
          have hm147 : v141 400 27 = x145 := ex145.symm
          refine r_iast X hw hS (rfl : KD 448 = _) (Rg.vp (b := 36) (rg_w (⟨by decide, by decide⟩ : Rg 36 36 36) (by decide) (by decide)) (by decide)) rfl d_X11_keep_286 (fun H locs hw hS => ?_)
          obtain ⟨v148, ev148⟩ : ∃ z, z = up2 v141 448 (36 : Int32).toNatClampNeg x145 := ⟨_, rfl⟩
          rw [← ev148] at hw
          have hI149 : Inv v148 := by rw [ev148]; exact Inv.putr hI142 rfl r146
          have hK150 : Kp v v148 := by rw [ev148]; exact Kp.put hK143 _ rfl
          have hm151 : v148 400 15 = x130 := by rw [ev148, up2_n _ _ (by omega)]; exact hm144
          have hm152 : v148 400 27 = x145 := by rw [ev148, up2_n _ _ (by omega)]; exact hm147
          refine lv_aload_n hx hb d_X11_keep_287 rfl (lv_at hl 0 rfl) ?_
          refine r_getr (r := 448) X hw FL_X11_124 (rfl : KD 400 = _) rfl d_X11_keep_288 ?_
          refine lv_bipush (v := 37) hx hb d_X11_keep_291 (by decide) ?_
          refine lv_aload_n hx hb d_X11_keep_293 rfl (lv_at hl 0 rfl) ?_
          refine r_geti X hw FL_X11_246 (rfl : KD 400 = _) rfl d_X11_keep_294 ?_
          refine lv_topi (fun x153 ex153 => ?_)
          refine r_iast X hw hS (rfl : KD 448 = _) (Rg.vp (b := 37) (rg_w (⟨by decide, by decide⟩ : Rg 37 37 37) (by decide) (by decide)) (by decide)) rfl d_X11_keep_297 (fun H locs hw hS => ?_)
          obtain ⟨v154, ev154⟩ : ∃ z, z = up2 v148 448 (37 : Int32).toNatClampNeg x153 := ⟨_, rfl⟩
          rw [← ev154] at hw
          have hI155 : Inv v154 := by rw [ev154]; exact Inv.put0 hI149 _ rfl
          have hK156 : Kp v v154 := by rw [ev154]; exact Kp.put hK150 _ rfl
          have hm157 : v154 400 15 = x130 := by rw [ev154, up2_n _ _ (by omega)]; exact hm151
          have hm158 : v154 400 27 = x145 := by rw [ev154, up2_n _ _ (by omega)]; exact hm152
          refine lv_aload_n hx hb d_X11_keep_298 rfl (lv_at hl 0 rfl) ?_
          refine r_getr (r := 448) X hw FL_X11_124 (rfl : KD 400 = _) rfl d_X11_keep_299 ?_
          refine lv_bipush (v := 38) hx hb d_X11_keep_302 (by decide) ?_
          refine lv_aload_n hx hb d_X11_keep_304 rfl (lv_at hl 0 rfl) ?_
          refine r_geti X hw FL_X11_249 (rfl : KD 400 = _) rfl d_X11_keep_305 ?_
          refine lv_topi (fun x159 ex159 => ?_)
          refine r_iast X hw hS (rfl : KD 448 = _) (Rg.vp (b := 38) (rg_w (⟨by decide, by decide⟩ : Rg 38 38 38) (by decide) (by decide)) (by decide)) rfl d_X11_keep_308 (fun H locs hw hS => ?_)
          obtain ⟨v160, ev160⟩ : ∃ z, z = up2 v154 448 (38 : Int32).toNatClampNeg x159 := ⟨_, rfl⟩
          rw [← ev160] at hw
          have hI161 : Inv v160 := by rw [ev160]; exact Inv.put0 hI155 _ rfl
          have hK162 : Kp v v160 := by rw [ev160]; exact Kp.put hK156 _ rfl
          have hm163 : v160 400 15 = x130 := by rw [ev160, up2_n _ _ (by omega)]; exact hm157
          have hm164 : v160 400 27 = x145 := by rw [ev160, up2_n _ _ (by omega)]; exact hm158
          refine lv_iconst (v := 0) hx hb d_X11_keep_309 (by decide) ?_
          refine lv_istore_n (lv' := [(1, .int 0), (0, .ref (ad 400))]) hx hb d_X11_keep_310 rfl hl (by decide) rfl (fun ls hl => ?_)
          exact ih3 0 v160 _ _ _ (by obtain ⟨_, _⟩ := (⟨by decide, by decide⟩ : Rg 0 0 0); omega) (rg_w (⟨by decide, by decide⟩ : Rg 0 0 0) (by decide) (by decide)) hI161 hK162 hw hS (lv_sub hl [1, 0] rfl)
        · have f165 := i_nle c133
          have r166 : Rg y1 0 9 := by obtain ⟨a1, a2⟩ := r_y1; obtain ⟨b1, b2⟩ := r131; have f := i_nle c133; exact ⟨by omega, by omega⟩
          have r167 : Rg x130 1 10 := by obtain ⟨a1, a2⟩ := r_y1; obtain ⟨b1, b2⟩ := r131; have f := i_nle c133; exact ⟨by omega, by omega⟩
          refine lv_aload_n hx hb d_X11_keep_233 rfl (lv_at hl 0 rfl) ?_
          refine r_getr (r := 448) X hw FL_X11_124 (rfl : KD 400 = _) rfl d_X11_keep_234 ?_
          refine lv_bipush (v := 24) hx hb d_X11_keep_237 (by decide) ?_
          refine lv_iload_n hx hb d_X11_keep_239 rfl (lv_at hl 1 rfl) ?_
          refine lv_iadd hx hb d_X11_keep_240 ?_
          refine lv_topi (fun x168 ex168 => ?_)
          have r169 : Rg x168 24 33 := rg_add ex168 (⟨by decide, by decide⟩ : Rg 24 24 24) r166 (by decide) (by decide)
          have s170 : x168.toInt = 24.toInt + (y1 : Int32).toInt := by rw [ex168]; exact i_add (by obtain ⟨_, _⟩ := (⟨by decide, by decide⟩ : Rg 24 24 24); obtain ⟨_, _⟩ := r166; omega) (by obtain ⟨_, _⟩ := (⟨by decide, by decide⟩ : Rg 24 24 24); obtain ⟨_, _⟩ := r166; omega)
          refine lv_aload_n hx hb d_X11_keep_241 rfl (lv_at hl 0 rfl) ?_
          refine r_getr (r := 419) X hw FL_X11_55 (rfl : KD 400 = _) rfl d_X11_keep_242 ?_
          refine lv_iload_n hx hb d_X11_keep_245 rfl (lv_at hl 1 rfl) ?_
          refine r_iald X hw (rfl : KD 419 = _) (Rg.vp (b := 9) r166 (by decide)) rfl d_X11_keep_246 ?_
          refine lv_topi (fun x171 ex171 => ?_)
          refine r_iast X hw hS (rfl : KD 448 = _) (Rg.vp (b := 33) (rg_w r169 (by decide) (by decide)) (by decide)) rfl d_X11_keep_247 (fun H locs hw hS => ?_)
          obtain ⟨v172, ev172⟩ : ∃ z, z = up2 v1 448 x168.toNatClampNeg x171 := ⟨_, rfl⟩
          rw [← ev172] at hw
          have hI173 : Inv v172 := by rw [ev172]; exact Inv.put0 hI1 _ (RG_kr (by have := Rg.nat r169; omega))
          have hK174 : Kp v v172 := by rw [ev172]; exact Kp.put hK1 _ rfl
          have hm175 : v172 400 15 = x130 := by rw [ev172, up2_n _ _ (by omega)]; exact hm132
          obtain ⟨x176, ex176⟩ : ∃ y : Int32, y = y1 + 1 := ⟨_, rfl⟩
          refine lv_iinc (v := x176) (lv' := [(1, .int x176), (0, .ref (ad 400))]) hx hb d_X11_keep_248 hl (k := 1) rfl (by rw [ex176]; rfl) (by decide) rfl (fun ls hl => ?_)
          have r177 : Rg x176 1 10 := rg_add ex176 r166 (⟨by decide, by decide⟩ : Rg 1 1 1) (by decide) (by decide)
          have s178 : x176.toInt = y1.toInt + (1 : Int32).toInt := by rw [ex176]; exact i_add (by obtain ⟨_, _⟩ := r166; obtain ⟨_, _⟩ := (⟨by decide, by decide⟩ : Rg 1 1 1); omega) (by obtain ⟨_, _⟩ := r166; obtain ⟨_, _⟩ := (⟨by decide, by decide⟩ : Rg 1 1 1); omega)
          have s178l : (1 : Int32).toInt = 1 := rfl
          refine lv_goto (tgt := 225) hx hb d_X11_keep_251 (by decide) ?_
          exact ih2 x176 v172 _ _ _ (by have := s170; have := s178; obtain ⟨_, _⟩ := r177; omega) (rg_w r177 (by decide) (by decide)) hI173 hK174 hw hS (lv_sub hl [1, 0] rfl)
      · intro y1 v1 H locs ls hmu r_y1 hI1 hK1 hw hS hl
        refine lv_iload_n hx hb d_X11_keep_311 rfl (lv_at hl 1 rfl) ?_
        refine lv_aload_n hx hb d_X11_keep_312 rfl (lv_at hl 0 rfl) ?_
        refine r_geti X hw FL_X11_243 (rfl : KD 400 = _) rfl d_X11_keep_313 ?_
        refine lv_topi (fun x179 ex179 => ?_)
        have r180 : Rg x179 0 200 := by rw [ex179]; exact hI1 _ _ _ _ rfl
        have hm181 : v1 400 27 = x179 := ex179.symm
        refine lv_icmp_ge (tgt := 387) hx hb d_X11_keep_316 (by decide) (fun c182 => ?_) (fun c182 => ?_)
        · have f183 := i_le c182
          exact r_vret X hr hlocks hw hS ⟨hI1, hK1⟩ d_X11_keep_387
        · have f184 := i_nle c182
          have r185 : Rg y1 0 199 := by obtain ⟨a1, a2⟩ := r_y1; obtain ⟨b1, b2⟩ := r180; have f := i_nle c182; exact ⟨by omega, by omega⟩
          have r186 : Rg x179 1 200 := by obtain ⟨a1, a2⟩ := r_y1; obtain ⟨b1, b2⟩ := r180; have f := i_nle c182; exact ⟨by omega, by omega⟩
          refine lv_aload_n hx hb d_X11_keep_319 rfl (lv_at hl 0 rfl) ?_
          refine r_getr (r := 449) X hw FL_X11_127 (rfl : KD 400 = _) rfl d_X11_keep_320 ?_
          refine lv_iconst (v := 4) hx hb d_X11_keep_323 (by decide) ?_
          refine lv_iload_n hx hb d_X11_keep_324 rfl (lv_at hl 1 rfl) ?_
          refine lv_imul hx hb d_X11_keep_325 ?_
          refine lv_topi (fun x187 ex187 => ?_)
          have r188 : Rg x187 0 796 := rg_mulc ex187 (⟨by decide, by decide⟩ : Rg 4 4 4) r185 (by decide) (by decide) (by decide)
          have s189 : x187.toInt = 4 * y1.toInt := rg_mule ex187 r185 rfl (by decide) (by decide)
          refine lv_aload_n hx hb d_X11_keep_326 rfl (lv_at hl 0 rfl) ?_
          refine r_getr (r := 429) X hw FL_X11_80 (rfl : KD 400 = _) rfl d_X11_keep_327 ?_
          refine lv_iload_n hx hb d_X11_keep_330 rfl (lv_at hl 1 rfl) ?_
          refine r_iald X hw (rfl : KD 429 = _) (Rg.vp (b := 199) r185 (by decide)) rfl d_X11_keep_331 ?_
          refine lv_topi (fun x190 ex190 => ?_)
          have r191 : Rg x190 0 19 := by rw [ex190]; exact hI1 _ _ _ _ rfl
          refine r_iast X hw hS (rfl : KD 449 = _) (Rg.vp (b := 796) r188 (by decide)) rfl d_X11_keep_332 (fun H locs hw hS => ?_)
          obtain ⟨v192, ev192⟩ : ∃ z, z = up2 v1 449 x187.toNatClampNeg x190 := ⟨_, rfl⟩
          rw [← ev192] at hw
          have hI193 : Inv v192 := by rw [ev192]; exact Inv.putr hI1 (RG_kb0 (by have := Rg.clamp r188; omega)) r191
          have hK194 : Kp v v192 := by rw [ev192]; exact Kp.put hK1 _ rfl
          have hm195 : v192 400 27 = x179 := by rw [ev192, up2_n _ _ (by omega)]; exact hm181
          refine lv_aload_n hx hb d_X11_keep_333 rfl (lv_at hl 0 rfl) ?_
          refine r_getr (r := 449) X hw FL_X11_127 (rfl : KD 400 = _) rfl d_X11_keep_334 ?_
          refine lv_iconst (v := 4) hx hb d_X11_keep_337 (by decide) ?_
          refine lv_iload_n hx hb d_X11_keep_338 rfl (lv_at hl 1 rfl) ?_
          refine lv_imul hx hb d_X11_keep_339 ?_
          refine lv_topi (fun x196 ex196 => ?_)
          have r197 : Rg x196 0 796 := rg_mulc ex196 (⟨by decide, by decide⟩ : Rg 4 4 4) r185 (by decide) (by decide) (by decide)
          have s198 : x196.toInt = 4 * y1.toInt := rg_mule ex196 r185 rfl (by decide) (by decide)
          refine lv_iconst (v := 1) hx hb d_X11_keep_340 (by decide) ?_
          refine lv_iadd hx hb d_X11_keep_341 ?_
          refine lv_topi (fun x199 ex199 => ?_)
          have r200 : Rg x199 1 797 := rg_add ex199 r197 (⟨by decide, by decide⟩ : Rg 1 1 1) (by decide) (by decide)
          have s201 : x199.toInt = x196.toInt + (1 : Int32).toInt := by rw [ex199]; exact i_add (by obtain ⟨_, _⟩ := r197; obtain ⟨_, _⟩ := (⟨by decide, by decide⟩ : Rg 1 1 1); omega) (by obtain ⟨_, _⟩ := r197; obtain ⟨_, _⟩ := (⟨by decide, by decide⟩ : Rg 1 1 1); omega)
          have s201l : (1 : Int32).toInt = 1 := rfl
          refine lv_aload_n hx hb d_X11_keep_342 rfl (lv_at hl 0 rfl) ?_
          refine r_getr (r := 430) X hw FL_X11_83 (rfl : KD 400 = _) rfl d_X11_keep_343 ?_
          refine lv_iload_n hx hb d_X11_keep_346 rfl (lv_at hl 1 rfl) ?_
          refine r_iald X hw (rfl : KD 430 = _) (Rg.vp (b := 199) r185 (by decide)) rfl d_X11_keep_347 ?_
          refine lv_topi (fun x202 ex202 => ?_)
          refine r_iast X hw hS (rfl : KD 449 = _) (Rg.vp (b := 797) (rg_w r200 (by decide) (by decide)) (by decide)) rfl d_X11_keep_348 (fun H locs hw hS => ?_)
          obtain ⟨v203, ev203⟩ : ∃ z, z = up2 v192 449 x199.toNatClampNeg x202 := ⟨_, rfl⟩
          rw [← ev203] at hw
          have hI204 : Inv v203 := by rw [ev203]; exact Inv.put0 hI193 _ (RG_kbn (by have := Rg.clamp r200; omega))
          have hK205 : Kp v v203 := by rw [ev203]; exact Kp.put hK194 _ rfl
          have hm206 : v203 400 27 = x179 := by rw [ev203, up2_n _ _ (by omega)]; exact hm195
          refine lv_aload_n hx hb d_X11_keep_349 rfl (lv_at hl 0 rfl) ?_
          refine r_getr (r := 449) X hw FL_X11_127 (rfl : KD 400 = _) rfl d_X11_keep_350 ?_
          refine lv_iconst (v := 4) hx hb d_X11_keep_353 (by decide) ?_
          refine lv_iload_n hx hb d_X11_keep_354 rfl (lv_at hl 1 rfl) ?_
          refine lv_imul hx hb d_X11_keep_355 ?_
          refine lv_topi (fun x207 ex207 => ?_)
          have r208 : Rg x207 0 796 := rg_mulc ex207 (⟨by decide, by decide⟩ : Rg 4 4 4) r185 (by decide) (by decide) (by decide)
          have s209 : x207.toInt = 4 * y1.toInt := rg_mule ex207 r185 rfl (by decide) (by decide)
          refine lv_iconst (v := 2) hx hb d_X11_keep_356 (by decide) ?_
          refine lv_iadd hx hb d_X11_keep_357 ?_
          refine lv_topi (fun x210 ex210 => ?_)
          have r211 : Rg x210 2 798 := rg_add ex210 r208 (⟨by decide, by decide⟩ : Rg 2 2 2) (by decide) (by decide)
          have s212 : x210.toInt = x207.toInt + (2 : Int32).toInt := by rw [ex210]; exact i_add (by obtain ⟨_, _⟩ := r208; obtain ⟨_, _⟩ := (⟨by decide, by decide⟩ : Rg 2 2 2); omega) (by obtain ⟨_, _⟩ := r208; obtain ⟨_, _⟩ := (⟨by decide, by decide⟩ : Rg 2 2 2); omega)
          have s212l : (2 : Int32).toInt = 2 := rfl
          refine lv_aload_n hx hb d_X11_keep_358 rfl (lv_at hl 0 rfl) ?_
          refine r_getr (r := 431) X hw FL_X11_86 (rfl : KD 400 = _) rfl d_X11_keep_359 ?_
          refine lv_iload_n hx hb d_X11_keep_362 rfl (lv_at hl 1 rfl) ?_
          refine r_iald X hw (rfl : KD 431 = _) (Rg.vp (b := 199) r185 (by decide)) rfl d_X11_keep_363 ?_
          refine lv_topi (fun x213 ex213 => ?_)
          refine r_iast X hw hS (rfl : KD 449 = _) (Rg.vp (b := 798) (rg_w r211 (by decide) (by decide)) (by decide)) rfl d_X11_keep_364 (fun H locs hw hS => ?_)
          obtain ⟨v214, ev214⟩ : ∃ z, z = up2 v203 449 x210.toNatClampNeg x213 := ⟨_, rfl⟩
          rw [← ev214] at hw
          have hI215 : Inv v214 := by rw [ev214]; exact Inv.put0 hI204 _ (RG_kbn (by have := Rg.clamp r211; omega))
          have hK216 : Kp v v214 := by rw [ev214]; exact Kp.put hK205 _ rfl
          have hm217 : v214 400 27 = x179 := by rw [ev214, up2_n _ _ (by omega)]; exact hm206
          refine lv_aload_n hx hb d_X11_keep_365 rfl (lv_at hl 0 rfl) ?_
          refine r_getr (r := 449) X hw FL_X11_127 (rfl : KD 400 = _) rfl d_X11_keep_366 ?_
          refine lv_iconst (v := 4) hx hb d_X11_keep_369 (by decide) ?_
          refine lv_iload_n hx hb d_X11_keep_370 rfl (lv_at hl 1 rfl) ?_
          refine lv_imul hx hb d_X11_keep_371 ?_
          refine lv_topi (fun x218 ex218 => ?_)
          have r219 : Rg x218 0 796 := rg_mulc ex218 (⟨by decide, by decide⟩ : Rg 4 4 4) r185 (by decide) (by decide) (by decide)
          have s220 : x218.toInt = 4 * y1.toInt := rg_mule ex218 r185 rfl (by decide) (by decide)
          refine lv_iconst (v := 3) hx hb d_X11_keep_372 (by decide) ?_
          refine lv_iadd hx hb d_X11_keep_373 ?_
          refine lv_topi (fun x221 ex221 => ?_)
          have r222 : Rg x221 3 799 := rg_add ex221 r219 (⟨by decide, by decide⟩ : Rg 3 3 3) (by decide) (by decide)
          have s223 : x221.toInt = x218.toInt + (3 : Int32).toInt := by rw [ex221]; exact i_add (by obtain ⟨_, _⟩ := r219; obtain ⟨_, _⟩ := (⟨by decide, by decide⟩ : Rg 3 3 3); omega) (by obtain ⟨_, _⟩ := r219; obtain ⟨_, _⟩ := (⟨by decide, by decide⟩ : Rg 3 3 3); omega)
          have s223l : (3 : Int32).toInt = 3 := rfl
          refine lv_aload_n hx hb d_X11_keep_374 rfl (lv_at hl 0 rfl) ?_
          refine r_getr (r := 432) X hw FL_X11_89 (rfl : KD 400 = _) rfl d_X11_keep_375 ?_
          refine lv_iload_n hx hb d_X11_keep_378 rfl (lv_at hl 1 rfl) ?_
          refine r_iald X hw (rfl : KD 432 = _) (Rg.vp (b := 199) r185 (by decide)) rfl d_X11_keep_379 ?_
          refine lv_topi (fun x224 ex224 => ?_)
          refine r_iast X hw hS (rfl : KD 449 = _) (Rg.vp (b := 799) (rg_w r222 (by decide) (by decide)) (by decide)) rfl d_X11_keep_380 (fun H locs hw hS => ?_)
          obtain ⟨v225, ev225⟩ : ∃ z, z = up2 v214 449 x221.toNatClampNeg x224 := ⟨_, rfl⟩
          rw [← ev225] at hw
          have hI226 : Inv v225 := by rw [ev225]; exact Inv.put0 hI215 _ (RG_kbn (by have := Rg.clamp r222; omega))
          have hK227 : Kp v v225 := by rw [ev225]; exact Kp.put hK216 _ rfl
          have hm228 : v225 400 27 = x179 := by rw [ev225, up2_n _ _ (by omega)]; exact hm217
          obtain ⟨x229, ex229⟩ : ∃ y : Int32, y = y1 + 1 := ⟨_, rfl⟩
          refine lv_iinc (v := x229) (lv' := [(1, .int x229), (0, .ref (ad 400))]) hx hb d_X11_keep_381 hl (k := 1) rfl (by rw [ex229]; rfl) (by decide) rfl (fun ls hl => ?_)
          have r230 : Rg x229 1 200 := rg_add ex229 r185 (⟨by decide, by decide⟩ : Rg 1 1 1) (by decide) (by decide)
          have s231 : x229.toInt = y1.toInt + (1 : Int32).toInt := by rw [ex229]; exact i_add (by obtain ⟨_, _⟩ := r185; obtain ⟨_, _⟩ := (⟨by decide, by decide⟩ : Rg 1 1 1); omega) (by obtain ⟨_, _⟩ := r185; obtain ⟨_, _⟩ := (⟨by decide, by decide⟩ : Rg 1 1 1); omega)
          have s231l : (1 : Int32).toInt = 1 := rfl
          refine lv_goto (tgt := 311) hx hb d_X11_keep_384 (by decide) ?_
          exact ih3 x229 v225 _ _ _ (by have := s189; have := s198; have := s201; have := s209; have := s212; have := s220; have := s223; have := s231; obtain ⟨_, _⟩ := r230; omega) (rg_w r230 (by decide) (by decide)) hI226 hK227 hw hS (lv_sub hl [1, 0] rfl)
  obtain ⟨ih0, ih1, ih2, ih3⟩ := LL 100000
  have hK0 : Kp v v := Kp.rf v
  refine lv_iconst (v := 0) hx hb d_X11_keep_0 (by decide) ?_
  refine lv_istore_n (lv' := [(1, .int 0), (0, .ref (ad 400))]) hx hb d_X11_keep_1 rfl hl (by decide) rfl (fun ls hl => ?_)
  exact ih0 0 v _ _ _ (by obtain ⟨_, _⟩ := (⟨by decide, by decide⟩ : Rg 0 0 0); omega) (rg_w (⟨by decide, by decide⟩ : Rg 0 0 0) (by decide) (by decide)) hI hK0 hw hS (lv_sub hl [1, 0] rfl)
theorem d_X11_putBack_0 : decode c_X11_putBack 0 = .ok (.iconst 0, 1) := by decide +kernel
theorem d_X11_putBack_1 : decode c_X11_putBack 1 = .ok (.istore_n 1, 1) := by decide +kernel
theorem d_X11_putBack_2 : decode c_X11_putBack 2 = .ok (.iload_n 1, 1) := by decide +kernel
theorem d_X11_putBack_3 : decode c_X11_putBack 3 = .ok (.aload_n 0, 1) := by decide +kernel
theorem d_X11_putBack_4 : decode c_X11_putBack 4 = .ok (.getfield 166, 3) := by decide +kernel
theorem d_X11_putBack_7 : decode c_X11_putBack 7 = .ok (.if_icmp .ge 145, 3) := by decide +kernel
theorem d_X11_putBack_10 : decode c_X11_putBack 10 = .ok (.aload_n 0, 1) := by decide +kernel
theorem d_X11_putBack_11 : decode c_X11_putBack 11 = .ok (.getfield 25, 3) := by decide +kernel
theorem d_X11_putBack_14 : decode c_X11_putBack 14 = .ok (.iload_n 1, 1) := by decide +kernel
theorem d_X11_putBack_15 : decode c_X11_putBack 15 = .ok (.aload_n 0, 1) := by decide +kernel
theorem d_X11_putBack_16 : decode c_X11_putBack 16 = .ok (.getfield 121, 3) := by decide +kernel
theorem d_X11_putBack_19 : decode c_X11_putBack 19 = .ok (.bipush 9, 2) := by decide +kernel
theorem d_X11_putBack_21 : decode c_X11_putBack 21 = .ok (.iload_n 1, 1) := by decide +kernel
theorem d_X11_putBack_22 : decode c_X11_putBack 22 = .ok (.imul, 1) := by decide +kernel
theorem d_X11_putBack_23 : decode c_X11_putBack 23 = .ok (.iaload, 1) := by decide +kernel
theorem d_X11_putBack_24 : decode c_X11_putBack 24 = .ok (.iastore, 1) := by decide +kernel
theorem d_X11_putBack_25 : decode c_X11_putBack 25 = .ok (.aload_n 0, 1) := by decide +kernel
theorem d_X11_putBack_26 : decode c_X11_putBack 26 = .ok (.getfield 28, 3) := by decide +kernel
theorem d_X11_putBack_29 : decode c_X11_putBack 29 = .ok (.iload_n 1, 1) := by decide +kernel
theorem d_X11_putBack_30 : decode c_X11_putBack 30 = .ok (.aload_n 0, 1) := by decide +kernel
theorem d_X11_putBack_31 : decode c_X11_putBack 31 = .ok (.getfield 121, 3) := by decide +kernel
theorem d_X11_putBack_34 : decode c_X11_putBack 34 = .ok (.bipush 9, 2) := by decide +kernel
theorem d_X11_putBack_36 : decode c_X11_putBack 36 = .ok (.iload_n 1, 1) := by decide +kernel
theorem d_X11_putBack_37 : decode c_X11_putBack 37 = .ok (.imul, 1) := by decide +kernel
theorem d_X11_putBack_38 : decode c_X11_putBack 38 = .ok (.iconst 1, 1) := by decide +kernel
theorem d_X11_putBack_39 : decode c_X11_putBack 39 = .ok (.iadd, 1) := by decide +kernel
theorem d_X11_putBack_40 : decode c_X11_putBack 40 = .ok (.iaload, 1) := by decide +kernel
theorem d_X11_putBack_41 : decode c_X11_putBack 41 = .ok (.iastore, 1) := by decide +kernel
theorem d_X11_putBack_42 : decode c_X11_putBack 42 = .ok (.aload_n 0, 1) := by decide +kernel
theorem d_X11_putBack_43 : decode c_X11_putBack 43 = .ok (.getfield 31, 3) := by decide +kernel
theorem d_X11_putBack_46 : decode c_X11_putBack 46 = .ok (.iload_n 1, 1) := by decide +kernel
theorem d_X11_putBack_47 : decode c_X11_putBack 47 = .ok (.aload_n 0, 1) := by decide +kernel
theorem d_X11_putBack_48 : decode c_X11_putBack 48 = .ok (.getfield 121, 3) := by decide +kernel
theorem d_X11_putBack_51 : decode c_X11_putBack 51 = .ok (.bipush 9, 2) := by decide +kernel
theorem d_X11_putBack_53 : decode c_X11_putBack 53 = .ok (.iload_n 1, 1) := by decide +kernel
theorem d_X11_putBack_54 : decode c_X11_putBack 54 = .ok (.imul, 1) := by decide +kernel
theorem d_X11_putBack_55 : decode c_X11_putBack 55 = .ok (.iconst 2, 1) := by decide +kernel
theorem d_X11_putBack_56 : decode c_X11_putBack 56 = .ok (.iadd, 1) := by decide +kernel
theorem d_X11_putBack_57 : decode c_X11_putBack 57 = .ok (.iaload, 1) := by decide +kernel
theorem d_X11_putBack_58 : decode c_X11_putBack 58 = .ok (.iastore, 1) := by decide +kernel
theorem d_X11_putBack_59 : decode c_X11_putBack 59 = .ok (.aload_n 0, 1) := by decide +kernel
theorem d_X11_putBack_60 : decode c_X11_putBack 60 = .ok (.getfield 34, 3) := by decide +kernel
theorem d_X11_putBack_63 : decode c_X11_putBack 63 = .ok (.iload_n 1, 1) := by decide +kernel
theorem d_X11_putBack_64 : decode c_X11_putBack 64 = .ok (.aload_n 0, 1) := by decide +kernel
theorem d_X11_putBack_65 : decode c_X11_putBack 65 = .ok (.getfield 121, 3) := by decide +kernel
theorem d_X11_putBack_68 : decode c_X11_putBack 68 = .ok (.bipush 9, 2) := by decide +kernel
theorem d_X11_putBack_70 : decode c_X11_putBack 70 = .ok (.iload_n 1, 1) := by decide +kernel
theorem d_X11_putBack_71 : decode c_X11_putBack 71 = .ok (.imul, 1) := by decide +kernel
theorem d_X11_putBack_72 : decode c_X11_putBack 72 = .ok (.iconst 3, 1) := by decide +kernel
theorem d_X11_putBack_73 : decode c_X11_putBack 73 = .ok (.iadd, 1) := by decide +kernel
theorem d_X11_putBack_74 : decode c_X11_putBack 74 = .ok (.iaload, 1) := by decide +kernel
theorem d_X11_putBack_75 : decode c_X11_putBack 75 = .ok (.iastore, 1) := by decide +kernel
theorem d_X11_putBack_76 : decode c_X11_putBack 76 = .ok (.aload_n 0, 1) := by decide +kernel
theorem d_X11_putBack_77 : decode c_X11_putBack 77 = .ok (.getfield 37, 3) := by decide +kernel
theorem d_X11_putBack_80 : decode c_X11_putBack 80 = .ok (.iload_n 1, 1) := by decide +kernel
theorem d_X11_putBack_81 : decode c_X11_putBack 81 = .ok (.aload_n 0, 1) := by decide +kernel
theorem d_X11_putBack_82 : decode c_X11_putBack 82 = .ok (.getfield 121, 3) := by decide +kernel
theorem d_X11_putBack_85 : decode c_X11_putBack 85 = .ok (.bipush 9, 2) := by decide +kernel
theorem d_X11_putBack_87 : decode c_X11_putBack 87 = .ok (.iload_n 1, 1) := by decide +kernel
theorem d_X11_putBack_88 : decode c_X11_putBack 88 = .ok (.imul, 1) := by decide +kernel
theorem d_X11_putBack_89 : decode c_X11_putBack 89 = .ok (.iconst 4, 1) := by decide +kernel
theorem d_X11_putBack_90 : decode c_X11_putBack 90 = .ok (.iadd, 1) := by decide +kernel
theorem d_X11_putBack_91 : decode c_X11_putBack 91 = .ok (.iaload, 1) := by decide +kernel
theorem d_X11_putBack_92 : decode c_X11_putBack 92 = .ok (.iastore, 1) := by decide +kernel
theorem d_X11_putBack_93 : decode c_X11_putBack 93 = .ok (.aload_n 0, 1) := by decide +kernel
theorem d_X11_putBack_94 : decode c_X11_putBack 94 = .ok (.getfield 40, 3) := by decide +kernel
theorem d_X11_putBack_97 : decode c_X11_putBack 97 = .ok (.iload_n 1, 1) := by decide +kernel
theorem d_X11_putBack_98 : decode c_X11_putBack 98 = .ok (.aload_n 0, 1) := by decide +kernel
theorem d_X11_putBack_99 : decode c_X11_putBack 99 = .ok (.getfield 121, 3) := by decide +kernel
theorem d_X11_putBack_102 : decode c_X11_putBack 102 = .ok (.bipush 9, 2) := by decide +kernel
theorem d_X11_putBack_104 : decode c_X11_putBack 104 = .ok (.iload_n 1, 1) := by decide +kernel
theorem d_X11_putBack_105 : decode c_X11_putBack 105 = .ok (.imul, 1) := by decide +kernel
theorem d_X11_putBack_106 : decode c_X11_putBack 106 = .ok (.iconst 5, 1) := by decide +kernel
theorem d_X11_putBack_107 : decode c_X11_putBack 107 = .ok (.iadd, 1) := by decide +kernel
theorem d_X11_putBack_108 : decode c_X11_putBack 108 = .ok (.iaload, 1) := by decide +kernel
theorem d_X11_putBack_109 : decode c_X11_putBack 109 = .ok (.iastore, 1) := by decide +kernel
theorem d_X11_putBack_110 : decode c_X11_putBack 110 = .ok (.aload_n 0, 1) := by decide +kernel
theorem d_X11_putBack_111 : decode c_X11_putBack 111 = .ok (.getfield 43, 3) := by decide +kernel
theorem d_X11_putBack_114 : decode c_X11_putBack 114 = .ok (.iload_n 1, 1) := by decide +kernel
theorem d_X11_putBack_115 : decode c_X11_putBack 115 = .ok (.aload_n 0, 1) := by decide +kernel
theorem d_X11_putBack_116 : decode c_X11_putBack 116 = .ok (.getfield 121, 3) := by decide +kernel
theorem d_X11_putBack_119 : decode c_X11_putBack 119 = .ok (.bipush 9, 2) := by decide +kernel
theorem d_X11_putBack_121 : decode c_X11_putBack 121 = .ok (.iload_n 1, 1) := by decide +kernel
theorem d_X11_putBack_122 : decode c_X11_putBack 122 = .ok (.imul, 1) := by decide +kernel
theorem d_X11_putBack_123 : decode c_X11_putBack 123 = .ok (.bipush 6, 2) := by decide +kernel
theorem d_X11_putBack_125 : decode c_X11_putBack 125 = .ok (.iadd, 1) := by decide +kernel
theorem d_X11_putBack_126 : decode c_X11_putBack 126 = .ok (.iaload, 1) := by decide +kernel
theorem d_X11_putBack_127 : decode c_X11_putBack 127 = .ok (.iastore, 1) := by decide +kernel
theorem d_X11_putBack_128 : decode c_X11_putBack 128 = .ok (.aload_n 0, 1) := by decide +kernel
theorem d_X11_putBack_129 : decode c_X11_putBack 129 = .ok (.getfield 46, 3) := by decide +kernel
theorem d_X11_putBack_132 : decode c_X11_putBack 132 = .ok (.iload_n 1, 1) := by decide +kernel
theorem d_X11_putBack_133 : decode c_X11_putBack 133 = .ok (.aload_n 0, 1) := by decide +kernel
theorem d_X11_putBack_134 : decode c_X11_putBack 134 = .ok (.getfield 121, 3) := by decide +kernel
theorem d_X11_putBack_137 : decode c_X11_putBack 137 = .ok (.bipush 9, 2) := by decide +kernel
theorem d_X11_putBack_139 : decode c_X11_putBack 139 = .ok (.iload_n 1, 1) := by decide +kernel
theorem d_X11_putBack_140 : decode c_X11_putBack 140 = .ok (.imul, 1) := by decide +kernel
theorem d_X11_putBack_141 : decode c_X11_putBack 141 = .ok (.bipush 7, 2) := by decide +kernel
theorem d_X11_putBack_143 : decode c_X11_putBack 143 = .ok (.iadd, 1) := by decide +kernel
theorem d_X11_putBack_144 : decode c_X11_putBack 144 = .ok (.iaload, 1) := by decide +kernel
theorem d_X11_putBack_145 : decode c_X11_putBack 145 = .ok (.iastore, 1) := by decide +kernel
theorem d_X11_putBack_146 : decode c_X11_putBack 146 = .ok (.iinc 1 1, 3) := by decide +kernel
theorem d_X11_putBack_149 : decode c_X11_putBack 149 = .ok (.goto (-147), 3) := by decide +kernel
theorem d_X11_putBack_152 : decode c_X11_putBack 152 = .ok (.iconst 0, 1) := by decide +kernel
theorem d_X11_putBack_153 : decode c_X11_putBack 153 = .ok (.istore_n 1, 1) := by decide +kernel
theorem d_X11_putBack_154 : decode c_X11_putBack 154 = .ok (.iload_n 1, 1) := by decide +kernel
theorem d_X11_putBack_155 : decode c_X11_putBack 155 = .ok (.bipush 6, 2) := by decide +kernel
theorem d_X11_putBack_157 : decode c_X11_putBack 157 = .ok (.if_icmp .ge 66, 3) := by decide +kernel
theorem d_X11_putBack_160 : decode c_X11_putBack 160 = .ok (.aload_n 0, 1) := by decide +kernel
theorem d_X11_putBack_161 : decode c_X11_putBack 161 = .ok (.getfield 61, 3) := by decide +kernel
theorem d_X11_putBack_164 : decode c_X11_putBack 164 = .ok (.iload_n 1, 1) := by decide +kernel
theorem d_X11_putBack_165 : decode c_X11_putBack 165 = .ok (.aload_n 0, 1) := by decide +kernel
theorem d_X11_putBack_166 : decode c_X11_putBack 166 = .ok (.getfield 124, 3) := by decide +kernel
theorem d_X11_putBack_169 : decode c_X11_putBack 169 = .ok (.iload_n 1, 1) := by decide +kernel
theorem d_X11_putBack_170 : decode c_X11_putBack 170 = .ok (.iaload, 1) := by decide +kernel
theorem d_X11_putBack_171 : decode c_X11_putBack 171 = .ok (.iastore, 1) := by decide +kernel
theorem d_X11_putBack_172 : decode c_X11_putBack 172 = .ok (.aload_n 0, 1) := by decide +kernel
theorem d_X11_putBack_173 : decode c_X11_putBack 173 = .ok (.getfield 64, 3) := by decide +kernel
theorem d_X11_putBack_176 : decode c_X11_putBack 176 = .ok (.iload_n 1, 1) := by decide +kernel
theorem d_X11_putBack_177 : decode c_X11_putBack 177 = .ok (.aload_n 0, 1) := by decide +kernel
theorem d_X11_putBack_178 : decode c_X11_putBack 178 = .ok (.getfield 124, 3) := by decide +kernel
theorem d_X11_putBack_181 : decode c_X11_putBack 181 = .ok (.bipush 6, 2) := by decide +kernel
theorem d_X11_putBack_183 : decode c_X11_putBack 183 = .ok (.iload_n 1, 1) := by decide +kernel
theorem d_X11_putBack_184 : decode c_X11_putBack 184 = .ok (.iadd, 1) := by decide +kernel
theorem d_X11_putBack_185 : decode c_X11_putBack 185 = .ok (.iaload, 1) := by decide +kernel
theorem d_X11_putBack_186 : decode c_X11_putBack 186 = .ok (.iastore, 1) := by decide +kernel
theorem d_X11_putBack_187 : decode c_X11_putBack 187 = .ok (.aload_n 0, 1) := by decide +kernel
theorem d_X11_putBack_188 : decode c_X11_putBack 188 = .ok (.getfield 67, 3) := by decide +kernel
theorem d_X11_putBack_191 : decode c_X11_putBack 191 = .ok (.iload_n 1, 1) := by decide +kernel
theorem d_X11_putBack_192 : decode c_X11_putBack 192 = .ok (.aload_n 0, 1) := by decide +kernel
theorem d_X11_putBack_193 : decode c_X11_putBack 193 = .ok (.getfield 124, 3) := by decide +kernel
theorem d_X11_putBack_196 : decode c_X11_putBack 196 = .ok (.bipush 12, 2) := by decide +kernel
theorem d_X11_putBack_198 : decode c_X11_putBack 198 = .ok (.iload_n 1, 1) := by decide +kernel
theorem d_X11_putBack_199 : decode c_X11_putBack 199 = .ok (.iadd, 1) := by decide +kernel
theorem d_X11_putBack_200 : decode c_X11_putBack 200 = .ok (.iaload, 1) := by decide +kernel
theorem d_X11_putBack_201 : decode c_X11_putBack 201 = .ok (.iastore, 1) := by decide +kernel
theorem d_X11_putBack_202 : decode c_X11_putBack 202 = .ok (.aload_n 0, 1) := by decide +kernel
theorem d_X11_putBack_203 : decode c_X11_putBack 203 = .ok (.getfield 70, 3) := by decide +kernel
theorem d_X11_putBack_206 : decode c_X11_putBack 206 = .ok (.iload_n 1, 1) := by decide +kernel
theorem d_X11_putBack_207 : decode c_X11_putBack 207 = .ok (.aload_n 0, 1) := by decide +kernel
theorem d_X11_putBack_208 : decode c_X11_putBack 208 = .ok (.getfield 124, 3) := by decide +kernel
theorem d_X11_putBack_211 : decode c_X11_putBack 211 = .ok (.bipush 18, 2) := by decide +kernel
theorem d_X11_putBack_213 : decode c_X11_putBack 213 = .ok (.iload_n 1, 1) := by decide +kernel
theorem d_X11_putBack_214 : decode c_X11_putBack 214 = .ok (.iadd, 1) := by decide +kernel
theorem d_X11_putBack_215 : decode c_X11_putBack 215 = .ok (.iaload, 1) := by decide +kernel
theorem d_X11_putBack_216 : decode c_X11_putBack 216 = .ok (.iastore, 1) := by decide +kernel
theorem d_X11_putBack_217 : decode c_X11_putBack 217 = .ok (.iinc 1 1, 3) := by decide +kernel
theorem d_X11_putBack_220 : decode c_X11_putBack 220 = .ok (.goto (-66), 3) := by decide +kernel
theorem d_X11_putBack_223 : decode c_X11_putBack 223 = .ok (.iconst 0, 1) := by decide +kernel
theorem d_X11_putBack_224 : decode c_X11_putBack 224 = .ok (.istore_n 1, 1) := by decide +kernel
theorem d_X11_putBack_225 : decode c_X11_putBack 225 = .ok (.iload_n 1, 1) := by decide +kernel
theorem d_X11_putBack_226 : decode c_X11_putBack 226 = .ok (.aload_n 0, 1) := by decide +kernel
theorem d_X11_putBack_227 : decode c_X11_putBack 227 = .ok (.getfield 173, 3) := by decide +kernel
theorem d_X11_putBack_230 : decode c_X11_putBack 230 = .ok (.if_icmp .ge 24, 3) := by decide +kernel
theorem d_X11_putBack_233 : decode c_X11_putBack 233 = .ok (.aload_n 0, 1) := by decide +kernel
theorem d_X11_putBack_234 : decode c_X11_putBack 234 = .ok (.getfield 55, 3) := by decide +kernel
theorem d_X11_putBack_237 : decode c_X11_putBack 237 = .ok (.iload_n 1, 1) := by decide +kernel
theorem d_X11_putBack_238 : decode c_X11_putBack 238 = .ok (.aload_n 0, 1) := by decide +kernel
theorem d_X11_putBack_239 : decode c_X11_putBack 239 = .ok (.getfield 124, 3) := by decide +kernel
theorem d_X11_putBack_242 : decode c_X11_putBack 242 = .ok (.bipush 24, 2) := by decide +kernel
theorem d_X11_putBack_244 : decode c_X11_putBack 244 = .ok (.iload_n 1, 1) := by decide +kernel
theorem d_X11_putBack_245 : decode c_X11_putBack 245 = .ok (.iadd, 1) := by decide +kernel
theorem d_X11_putBack_246 : decode c_X11_putBack 246 = .ok (.iaload, 1) := by decide +kernel
theorem d_X11_putBack_247 : decode c_X11_putBack 247 = .ok (.iastore, 1) := by decide +kernel
theorem d_X11_putBack_248 : decode c_X11_putBack 248 = .ok (.iinc 1 1, 3) := by decide +kernel
theorem d_X11_putBack_251 : decode c_X11_putBack 251 = .ok (.goto (-26), 3) := by decide +kernel
theorem d_X11_putBack_254 : decode c_X11_putBack 254 = .ok (.aload_n 0, 1) := by decide +kernel
theorem d_X11_putBack_255 : decode c_X11_putBack 255 = .ok (.aload_n 0, 1) := by decide +kernel
theorem d_X11_putBack_256 : decode c_X11_putBack 256 = .ok (.getfield 124, 3) := by decide +kernel
theorem d_X11_putBack_259 : decode c_X11_putBack 259 = .ok (.bipush 34, 2) := by decide +kernel
theorem d_X11_putBack_261 : decode c_X11_putBack 261 = .ok (.iaload, 1) := by decide +kernel
theorem d_X11_putBack_262 : decode c_X11_putBack 262 = .ok (.putfield 227, 3) := by decide +kernel
theorem d_X11_putBack_265 : decode c_X11_putBack 265 = .ok (.aload_n 0, 1) := by decide +kernel
theorem d_X11_putBack_266 : decode c_X11_putBack 266 = .ok (.aload_n 0, 1) := by decide +kernel
theorem d_X11_putBack_267 : decode c_X11_putBack 267 = .ok (.getfield 124, 3) := by decide +kernel
theorem d_X11_putBack_270 : decode c_X11_putBack 270 = .ok (.bipush 35, 2) := by decide +kernel
theorem d_X11_putBack_272 : decode c_X11_putBack 272 = .ok (.iaload, 1) := by decide +kernel
theorem d_X11_putBack_273 : decode c_X11_putBack 273 = .ok (.putfield 76, 3) := by decide +kernel
theorem d_X11_putBack_276 : decode c_X11_putBack 276 = .ok (.aload_n 0, 1) := by decide +kernel
theorem d_X11_putBack_277 : decode c_X11_putBack 277 = .ok (.aload_n 0, 1) := by decide +kernel
theorem d_X11_putBack_278 : decode c_X11_putBack 278 = .ok (.getfield 124, 3) := by decide +kernel
theorem d_X11_putBack_281 : decode c_X11_putBack 281 = .ok (.bipush 36, 2) := by decide +kernel
theorem d_X11_putBack_283 : decode c_X11_putBack 283 = .ok (.iaload, 1) := by decide +kernel
theorem d_X11_putBack_284 : decode c_X11_putBack 284 = .ok (.putfield 243, 3) := by decide +kernel
theorem d_X11_putBack_287 : decode c_X11_putBack 287 = .ok (.aload_n 0, 1) := by decide +kernel
theorem d_X11_putBack_288 : decode c_X11_putBack 288 = .ok (.aload_n 0, 1) := by decide +kernel
theorem d_X11_putBack_289 : decode c_X11_putBack 289 = .ok (.getfield 124, 3) := by decide +kernel
theorem d_X11_putBack_292 : decode c_X11_putBack 292 = .ok (.bipush 37, 2) := by decide +kernel
theorem d_X11_putBack_294 : decode c_X11_putBack 294 = .ok (.iaload, 1) := by decide +kernel
theorem d_X11_putBack_295 : decode c_X11_putBack 295 = .ok (.putfield 246, 3) := by decide +kernel
theorem d_X11_putBack_298 : decode c_X11_putBack 298 = .ok (.aload_n 0, 1) := by decide +kernel
theorem d_X11_putBack_299 : decode c_X11_putBack 299 = .ok (.aload_n 0, 1) := by decide +kernel
theorem d_X11_putBack_300 : decode c_X11_putBack 300 = .ok (.getfield 124, 3) := by decide +kernel
theorem d_X11_putBack_303 : decode c_X11_putBack 303 = .ok (.bipush 38, 2) := by decide +kernel
theorem d_X11_putBack_305 : decode c_X11_putBack 305 = .ok (.iaload, 1) := by decide +kernel
theorem d_X11_putBack_306 : decode c_X11_putBack 306 = .ok (.putfield 249, 3) := by decide +kernel
theorem d_X11_putBack_309 : decode c_X11_putBack 309 = .ok (.iconst 0, 1) := by decide +kernel
theorem d_X11_putBack_310 : decode c_X11_putBack 310 = .ok (.istore_n 1, 1) := by decide +kernel
theorem d_X11_putBack_311 : decode c_X11_putBack 311 = .ok (.iload_n 1, 1) := by decide +kernel
theorem d_X11_putBack_312 : decode c_X11_putBack 312 = .ok (.aload_n 0, 1) := by decide +kernel
theorem d_X11_putBack_313 : decode c_X11_putBack 313 = .ok (.getfield 243, 3) := by decide +kernel
theorem d_X11_putBack_316 : decode c_X11_putBack 316 = .ok (.if_icmp .ge 71, 3) := by decide +kernel
theorem d_X11_putBack_319 : decode c_X11_putBack 319 = .ok (.aload_n 0, 1) := by decide +kernel
theorem d_X11_putBack_320 : decode c_X11_putBack 320 = .ok (.getfield 80, 3) := by decide +kernel
theorem d_X11_putBack_323 : decode c_X11_putBack 323 = .ok (.iload_n 1, 1) := by decide +kernel
theorem d_X11_putBack_324 : decode c_X11_putBack 324 = .ok (.aload_n 0, 1) := by decide +kernel
theorem d_X11_putBack_325 : decode c_X11_putBack 325 = .ok (.getfield 127, 3) := by decide +kernel
theorem d_X11_putBack_328 : decode c_X11_putBack 328 = .ok (.iconst 4, 1) := by decide +kernel
theorem d_X11_putBack_329 : decode c_X11_putBack 329 = .ok (.iload_n 1, 1) := by decide +kernel
theorem d_X11_putBack_330 : decode c_X11_putBack 330 = .ok (.imul, 1) := by decide +kernel
theorem d_X11_putBack_331 : decode c_X11_putBack 331 = .ok (.iaload, 1) := by decide +kernel
theorem d_X11_putBack_332 : decode c_X11_putBack 332 = .ok (.iastore, 1) := by decide +kernel
theorem d_X11_putBack_333 : decode c_X11_putBack 333 = .ok (.aload_n 0, 1) := by decide +kernel
theorem d_X11_putBack_334 : decode c_X11_putBack 334 = .ok (.getfield 83, 3) := by decide +kernel
theorem d_X11_putBack_337 : decode c_X11_putBack 337 = .ok (.iload_n 1, 1) := by decide +kernel
theorem d_X11_putBack_338 : decode c_X11_putBack 338 = .ok (.aload_n 0, 1) := by decide +kernel
theorem d_X11_putBack_339 : decode c_X11_putBack 339 = .ok (.getfield 127, 3) := by decide +kernel
theorem d_X11_putBack_342 : decode c_X11_putBack 342 = .ok (.iconst 4, 1) := by decide +kernel
theorem d_X11_putBack_343 : decode c_X11_putBack 343 = .ok (.iload_n 1, 1) := by decide +kernel
theorem d_X11_putBack_344 : decode c_X11_putBack 344 = .ok (.imul, 1) := by decide +kernel
theorem d_X11_putBack_345 : decode c_X11_putBack 345 = .ok (.iconst 1, 1) := by decide +kernel
theorem d_X11_putBack_346 : decode c_X11_putBack 346 = .ok (.iadd, 1) := by decide +kernel
theorem d_X11_putBack_347 : decode c_X11_putBack 347 = .ok (.iaload, 1) := by decide +kernel
theorem d_X11_putBack_348 : decode c_X11_putBack 348 = .ok (.iastore, 1) := by decide +kernel
theorem d_X11_putBack_349 : decode c_X11_putBack 349 = .ok (.aload_n 0, 1) := by decide +kernel
theorem d_X11_putBack_350 : decode c_X11_putBack 350 = .ok (.getfield 86, 3) := by decide +kernel
theorem d_X11_putBack_353 : decode c_X11_putBack 353 = .ok (.iload_n 1, 1) := by decide +kernel
theorem d_X11_putBack_354 : decode c_X11_putBack 354 = .ok (.aload_n 0, 1) := by decide +kernel
theorem d_X11_putBack_355 : decode c_X11_putBack 355 = .ok (.getfield 127, 3) := by decide +kernel
theorem d_X11_putBack_358 : decode c_X11_putBack 358 = .ok (.iconst 4, 1) := by decide +kernel
theorem d_X11_putBack_359 : decode c_X11_putBack 359 = .ok (.iload_n 1, 1) := by decide +kernel
theorem d_X11_putBack_360 : decode c_X11_putBack 360 = .ok (.imul, 1) := by decide +kernel
theorem d_X11_putBack_361 : decode c_X11_putBack 361 = .ok (.iconst 2, 1) := by decide +kernel
theorem d_X11_putBack_362 : decode c_X11_putBack 362 = .ok (.iadd, 1) := by decide +kernel
theorem d_X11_putBack_363 : decode c_X11_putBack 363 = .ok (.iaload, 1) := by decide +kernel
theorem d_X11_putBack_364 : decode c_X11_putBack 364 = .ok (.iastore, 1) := by decide +kernel
theorem d_X11_putBack_365 : decode c_X11_putBack 365 = .ok (.aload_n 0, 1) := by decide +kernel
theorem d_X11_putBack_366 : decode c_X11_putBack 366 = .ok (.getfield 89, 3) := by decide +kernel
theorem d_X11_putBack_369 : decode c_X11_putBack 369 = .ok (.iload_n 1, 1) := by decide +kernel
theorem d_X11_putBack_370 : decode c_X11_putBack 370 = .ok (.aload_n 0, 1) := by decide +kernel
theorem d_X11_putBack_371 : decode c_X11_putBack 371 = .ok (.getfield 127, 3) := by decide +kernel
theorem d_X11_putBack_374 : decode c_X11_putBack 374 = .ok (.iconst 4, 1) := by decide +kernel
theorem d_X11_putBack_375 : decode c_X11_putBack 375 = .ok (.iload_n 1, 1) := by decide +kernel
theorem d_X11_putBack_376 : decode c_X11_putBack 376 = .ok (.imul, 1) := by decide +kernel
theorem d_X11_putBack_377 : decode c_X11_putBack 377 = .ok (.iconst 3, 1) := by decide +kernel
theorem d_X11_putBack_378 : decode c_X11_putBack 378 = .ok (.iadd, 1) := by decide +kernel
theorem d_X11_putBack_379 : decode c_X11_putBack 379 = .ok (.iaload, 1) := by decide +kernel
theorem d_X11_putBack_380 : decode c_X11_putBack 380 = .ok (.iastore, 1) := by decide +kernel
theorem d_X11_putBack_381 : decode c_X11_putBack 381 = .ok (.iinc 1 1, 3) := by decide +kernel
theorem d_X11_putBack_384 : decode c_X11_putBack 384 = .ok (.goto (-73), 3) := by decide +kernel
theorem d_X11_putBack_387 : decode c_X11_putBack 387 = .ok (.return_, 1) := by decide +kernel
set_option maxHeartbeats 4000000 in
set_option maxRecDepth 100000 in
theorem ct_X11_putBack_400 (l : Launch) (D : va_G) (dA : Nat → ClassId) (ad : Nat → Nat) (v : tV) (hI : Inv v)  : Met l m_X11_putBack [.code m_X11_putBack c_X11_putBack 2 none] ({ frames := 1, cells := 0, slots := 0, locals := 40 } : Room) (tP D dA ad v [.ref (ad 400)]) (tQv D dA ad (fun v' => Inv v' ∧ Kp v v')) 0 0 (tA ad) := by
  refine tMet (by decide) (Nat.le_of_ble_eq_true rfl) ?_
  intro p e s m below meth c ls X hr hlocks hw hl
  have X : CX p s m ([.ref (ad 400)] : List Value).toArray c c_X11_putBack N_X11 2 D dA := X
  have hx := X.1
  have hb := X.2.1
  have hS : va_S (tA ad) s.heap s.heap [] := va_S.rf
  have hl : lv_has ls 2 [(0, .ref (ad 400))] := hl
  have LL : ∀ n : Nat, (∀ (y1 : Int32) (v1 : tV) (H : Heap) (locs : List Loc) (ls : Array Slot), (20 - y1.toInt).toNat + 900 < n → Rg y1 0 20 → Inv v1 → Kp v v1 → tI D dA ad v1 H → va_S (tA ad) s.heap H locs → lv_has ls 2 [(0, .ref (ad 400)), (1, .int y1)] → W p l e ({ frames := 1, cells := 0, slots := 0, locals := 40 } : Room) s m ([.ref (ad 400)] : List Value).toArray below meth c H locs 0 0 (MQ below (tQv D dA ad (fun v' => Inv v' ∧ Kp v v')) ([.ref (ad 400)] : List Value).toArray s 0 0 (tA ad)) (F0 m 2 ls [])) ∧ (∀ (y1 : Int32) (v1 : tV) (H : Heap) (locs : List Loc) (ls : Array Slot), (6 - y1.toInt).toNat + 800 < n → Rg y1 0 6 → Inv v1 → Kp v v1 → tI D dA ad v1 H → va_S (tA ad) s.heap H locs → lv_has ls 2 [(0, .ref (ad 400)), (1, .int y1)] → W p l e ({ frames := 1, cells := 0, slots := 0, locals := 40 } : Room) s m ([.ref (ad 400)] : List Value).toArray below meth c H locs 0 0 (MQ below (tQv D dA ad (fun v' => Inv v' ∧ Kp v v')) ([.ref (ad 400)] : List Value).toArray s 0 0 (tA ad)) (F0 m 154 ls [])) ∧ (∀ (y1 : Int32) (v1 : tV) (H : Heap) (locs : List Loc) (ls : Array Slot), (10 - y1.toInt).toNat + 700 < n → Rg y1 0 10 → Inv v1 → Kp v v1 → tI D dA ad v1 H → va_S (tA ad) s.heap H locs → lv_has ls 2 [(0, .ref (ad 400)), (1, .int y1)] → W p l e ({ frames := 1, cells := 0, slots := 0, locals := 40 } : Room) s m ([.ref (ad 400)] : List Value).toArray below meth c H locs 0 0 (MQ below (tQv D dA ad (fun v' => Inv v' ∧ Kp v v')) ([.ref (ad 400)] : List Value).toArray s 0 0 (tA ad)) (F0 m 225 ls [])) ∧ (∀ (y1 : Int32) (v1 : tV) (H : Heap) (locs : List Loc) (ls : Array Slot), (200 - y1.toInt).toNat + 0 < n → Rg y1 0 200 → Inv v1 → Kp v v1 → tI D dA ad v1 H → va_S (tA ad) s.heap H locs → lv_has ls 2 [(0, .ref (ad 400)), (1, .int y1)] → W p l e ({ frames := 1, cells := 0, slots := 0, locals := 40 } : Room) s m ([.ref (ad 400)] : List Value).toArray below meth c H locs 0 0 (MQ below (tQv D dA ad (fun v' => Inv v' ∧ Kp v v')) ([.ref (ad 400)] : List Value).toArray s 0 0 (tA ad)) (F0 m 311 ls [])) := by
    intro n
    induction n with
    | zero => refine ⟨?_, ?_, ?_, ?_⟩ <;> (intros; omega)
    | succ n ih =>
      obtain ⟨ih0, ih1, ih2, ih3⟩ := ih
      refine ⟨?_, ?_, ?_, ?_⟩
      · intro y1 v1 H locs ls hmu r_y1 hI1 hK1 hw hS hl
        refine lv_iload_n hx hb d_X11_putBack_2 rfl (lv_at hl 1 rfl) ?_
        refine lv_aload_n hx hb d_X11_putBack_3 rfl (lv_at hl 0 rfl) ?_
        refine r_geti X hw FL_X11_166 (rfl : KD 400 = _) rfl d_X11_putBack_4 ?_
        refine lv_topi (fun x1 ex1 => ?_)
        have r2 : Rg x1 0 20 := by rw [ex1]; exact hI1 _ _ _ _ rfl
        have hm3 : v1 400 1 = x1 := ex1.symm
        refine lv_icmp_ge (tgt := 152) hx hb d_X11_putBack_7 (by decide) (fun c4 => ?_) (fun c4 => ?_)
        · have f5 := i_le c4
          refine lv_iconst (v := 0) hx hb d_X11_putBack_152 (by decide) ?_
          refine lv_istore_n (lv' := [(1, .int 0), (0, .ref (ad 400))]) hx hb d_X11_putBack_153 rfl hl (by decide) rfl (fun ls hl => ?_)
          exact ih1 0 v1 _ _ _ (by obtain ⟨_, _⟩ := (⟨by decide, by decide⟩ : Rg 0 0 0); omega) (rg_w (⟨by decide, by decide⟩ : Rg 0 0 0) (by decide) (by decide)) hI1 hK1 hw hS (lv_sub hl [1, 0] rfl)
        · have f6 := i_nle c4
          have r7 : Rg y1 0 19 := by obtain ⟨a1, a2⟩ := r_y1; obtain ⟨b1, b2⟩ := r2; have f := i_nle c4; exact ⟨by omega, by omega⟩
          have r8 : Rg x1 1 20 := by obtain ⟨a1, a2⟩ := r_y1; obtain ⟨b1, b2⟩ := r2; have f := i_nle c4; exact ⟨by omega, by omega⟩
          refine lv_aload_n hx hb d_X11_putBack_10 rfl (lv_at hl 0 rfl) ?_
          refine r_getr (r := 408) X hw FL_X11_25 (rfl : KD 400 = _) rfl d_X11_putBack_11 ?_
          refine lv_iload_n hx hb d_X11_putBack_14 rfl (lv_at hl 1 rfl) ?_
          refine lv_aload_n hx hb d_X11_putBack_15 rfl (lv_at hl 0 rfl) ?_
          refine r_getr (r := 447) X hw FL_X11_121 (rfl : KD 400 = _) rfl d_X11_putBack_16 ?_
          refine lv_bipush (v := 9) hx hb d_X11_putBack_19 (by decide) ?_
          refine lv_iload_n hx hb d_X11_putBack_21 rfl (lv_at hl 1 rfl) ?_
          refine lv_imul hx hb d_X11_putBack_22 ?_
          refine lv_topi (fun x9 ex9 => ?_)
          have r10 : Rg x9 0 171 := rg_mulc ex9 (⟨by decide, by decide⟩ : Rg 9 9 9) r7 (by decide) (by decide) (by decide)
          have s11 : x9.toInt = 9 * y1.toInt := rg_mule ex9 r7 rfl (by decide) (by decide)
          refine r_iald X hw (rfl : KD 447 = _) (Rg.vp (b := 171) r10 (by decide)) rfl d_X11_putBack_23 ?_
          refine lv_topi (fun x12 ex12 => ?_)
          refine r_iast X hw hS (rfl : KD 408 = _) (Rg.vp (b := 19) r7 (by decide)) rfl d_X11_putBack_24 (fun H locs hw hS => ?_)
          obtain ⟨v13, ev13⟩ : ∃ z, z = up2 v1 408 y1.toNatClampNeg x12 := ⟨_, rfl⟩
          rw [← ev13] at hw
          have hI14 : Inv v13 := by rw [ev13]; exact Inv.put0 hI1 _ rfl
          have hK15 : Kp v v13 := by rw [ev13]; exact Kp.put hK1 _ rfl
          have hm16 : v13 400 1 = x1 := by rw [ev13, up2_n _ _ (by omega)]; exact hm3
          refine lv_aload_n hx hb d_X11_putBack_25 rfl (lv_at hl 0 rfl) ?_
          refine r_getr (r := 409) X hw FL_X11_28 (rfl : KD 400 = _) rfl d_X11_putBack_26 ?_
          refine lv_iload_n hx hb d_X11_putBack_29 rfl (lv_at hl 1 rfl) ?_
          refine lv_aload_n hx hb d_X11_putBack_30 rfl (lv_at hl 0 rfl) ?_
          refine r_getr (r := 447) X hw FL_X11_121 (rfl : KD 400 = _) rfl d_X11_putBack_31 ?_
          refine lv_bipush (v := 9) hx hb d_X11_putBack_34 (by decide) ?_
          refine lv_iload_n hx hb d_X11_putBack_36 rfl (lv_at hl 1 rfl) ?_
          refine lv_imul hx hb d_X11_putBack_37 ?_
          refine lv_topi (fun x17 ex17 => ?_)
          have r18 : Rg x17 0 171 := rg_mulc ex17 (⟨by decide, by decide⟩ : Rg 9 9 9) r7 (by decide) (by decide) (by decide)
          have s19 : x17.toInt = 9 * y1.toInt := rg_mule ex17 r7 rfl (by decide) (by decide)
          refine lv_iconst (v := 1) hx hb d_X11_putBack_38 (by decide) ?_
          refine lv_iadd hx hb d_X11_putBack_39 ?_
          refine lv_topi (fun x20 ex20 => ?_)
          have r21 : Rg x20 1 172 := rg_add ex20 r18 (⟨by decide, by decide⟩ : Rg 1 1 1) (by decide) (by decide)
          have s22 : x20.toInt = x17.toInt + (1 : Int32).toInt := by rw [ex20]; exact i_add (by obtain ⟨_, _⟩ := r18; obtain ⟨_, _⟩ := (⟨by decide, by decide⟩ : Rg 1 1 1); omega) (by obtain ⟨_, _⟩ := r18; obtain ⟨_, _⟩ := (⟨by decide, by decide⟩ : Rg 1 1 1); omega)
          have s22l : (1 : Int32).toInt = 1 := rfl
          refine r_iald X hw (rfl : KD 447 = _) (Rg.vp (b := 172) (rg_w r21 (by decide) (by decide)) (by decide)) rfl d_X11_putBack_40 ?_
          refine lv_topi (fun x23 ex23 => ?_)
          refine r_iast X hw hS (rfl : KD 409 = _) (Rg.vp (b := 19) r7 (by decide)) rfl d_X11_putBack_41 (fun H locs hw hS => ?_)
          obtain ⟨v24, ev24⟩ : ∃ z, z = up2 v13 409 y1.toNatClampNeg x23 := ⟨_, rfl⟩
          rw [← ev24] at hw
          have hI25 : Inv v24 := by rw [ev24]; exact Inv.put0 hI14 _ rfl
          have hK26 : Kp v v24 := by rw [ev24]; exact Kp.put hK15 _ rfl
          have hm27 : v24 400 1 = x1 := by rw [ev24, up2_n _ _ (by omega)]; exact hm16
          refine lv_aload_n hx hb d_X11_putBack_42 rfl (lv_at hl 0 rfl) ?_
          refine r_getr (r := 410) X hw FL_X11_31 (rfl : KD 400 = _) rfl d_X11_putBack_43 ?_
          refine lv_iload_n hx hb d_X11_putBack_46 rfl (lv_at hl 1 rfl) ?_
          refine lv_aload_n hx hb d_X11_putBack_47 rfl (lv_at hl 0 rfl) ?_
          refine r_getr (r := 447) X hw FL_X11_121 (rfl : KD 400 = _) rfl d_X11_putBack_48 ?_
          refine lv_bipush (v := 9) hx hb d_X11_putBack_51 (by decide) ?_
          refine lv_iload_n hx hb d_X11_putBack_53 rfl (lv_at hl 1 rfl) ?_
          refine lv_imul hx hb d_X11_putBack_54 ?_
          refine lv_topi (fun x28 ex28 => ?_)
          have r29 : Rg x28 0 171 := rg_mulc ex28 (⟨by decide, by decide⟩ : Rg 9 9 9) r7 (by decide) (by decide) (by decide)
          have s30 : x28.toInt = 9 * y1.toInt := rg_mule ex28 r7 rfl (by decide) (by decide)
          refine lv_iconst (v := 2) hx hb d_X11_putBack_55 (by decide) ?_
          refine lv_iadd hx hb d_X11_putBack_56 ?_
          refine lv_topi (fun x31 ex31 => ?_)
          have r32 : Rg x31 2 173 := rg_add ex31 r29 (⟨by decide, by decide⟩ : Rg 2 2 2) (by decide) (by decide)
          have s33 : x31.toInt = x28.toInt + (2 : Int32).toInt := by rw [ex31]; exact i_add (by obtain ⟨_, _⟩ := r29; obtain ⟨_, _⟩ := (⟨by decide, by decide⟩ : Rg 2 2 2); omega) (by obtain ⟨_, _⟩ := r29; obtain ⟨_, _⟩ := (⟨by decide, by decide⟩ : Rg 2 2 2); omega)
          have s33l : (2 : Int32).toInt = 2 := rfl
          refine r_iald X hw (rfl : KD 447 = _) (Rg.vp (b := 173) (rg_w r32 (by decide) (by decide)) (by decide)) rfl d_X11_putBack_57 ?_
          refine lv_topi (fun x34 ex34 => ?_)
          refine r_iast X hw hS (rfl : KD 410 = _) (Rg.vp (b := 19) r7 (by decide)) rfl d_X11_putBack_58 (fun H locs hw hS => ?_)
          obtain ⟨v35, ev35⟩ : ∃ z, z = up2 v24 410 y1.toNatClampNeg x34 := ⟨_, rfl⟩
          rw [← ev35] at hw
          have hI36 : Inv v35 := by rw [ev35]; exact Inv.put0 hI25 _ rfl
          have hK37 : Kp v v35 := by rw [ev35]; exact Kp.put hK26 _ rfl
          have hm38 : v35 400 1 = x1 := by rw [ev35, up2_n _ _ (by omega)]; exact hm27
          refine lv_aload_n hx hb d_X11_putBack_59 rfl (lv_at hl 0 rfl) ?_
          refine r_getr (r := 411) X hw FL_X11_34 (rfl : KD 400 = _) rfl d_X11_putBack_60 ?_
          refine lv_iload_n hx hb d_X11_putBack_63 rfl (lv_at hl 1 rfl) ?_
          refine lv_aload_n hx hb d_X11_putBack_64 rfl (lv_at hl 0 rfl) ?_
          refine r_getr (r := 447) X hw FL_X11_121 (rfl : KD 400 = _) rfl d_X11_putBack_65 ?_
          refine lv_bipush (v := 9) hx hb d_X11_putBack_68 (by decide) ?_
          refine lv_iload_n hx hb d_X11_putBack_70 rfl (lv_at hl 1 rfl) ?_
          refine lv_imul hx hb d_X11_putBack_71 ?_
          refine lv_topi (fun x39 ex39 => ?_)
          have r40 : Rg x39 0 171 := rg_mulc ex39 (⟨by decide, by decide⟩ : Rg 9 9 9) r7 (by decide) (by decide) (by decide)
          have s41 : x39.toInt = 9 * y1.toInt := rg_mule ex39 r7 rfl (by decide) (by decide)
          refine lv_iconst (v := 3) hx hb d_X11_putBack_72 (by decide) ?_
          refine lv_iadd hx hb d_X11_putBack_73 ?_
          refine lv_topi (fun x42 ex42 => ?_)
          have r43 : Rg x42 3 174 := rg_add ex42 r40 (⟨by decide, by decide⟩ : Rg 3 3 3) (by decide) (by decide)
          have s44 : x42.toInt = x39.toInt + (3 : Int32).toInt := by rw [ex42]; exact i_add (by obtain ⟨_, _⟩ := r40; obtain ⟨_, _⟩ := (⟨by decide, by decide⟩ : Rg 3 3 3); omega) (by obtain ⟨_, _⟩ := r40; obtain ⟨_, _⟩ := (⟨by decide, by decide⟩ : Rg 3 3 3); omega)
          have s44l : (3 : Int32).toInt = 3 := rfl
          refine r_iald X hw (rfl : KD 447 = _) (Rg.vp (b := 174) (rg_w r43 (by decide) (by decide)) (by decide)) rfl d_X11_putBack_74 ?_
          refine lv_topi (fun x45 ex45 => ?_)
          refine r_iast X hw hS (rfl : KD 411 = _) (Rg.vp (b := 19) r7 (by decide)) rfl d_X11_putBack_75 (fun H locs hw hS => ?_)
          obtain ⟨v46, ev46⟩ : ∃ z, z = up2 v35 411 y1.toNatClampNeg x45 := ⟨_, rfl⟩
          rw [← ev46] at hw
          have hI47 : Inv v46 := by rw [ev46]; exact Inv.put0 hI36 _ rfl
          have hK48 : Kp v v46 := by rw [ev46]; exact Kp.put hK37 _ rfl
          have hm49 : v46 400 1 = x1 := by rw [ev46, up2_n _ _ (by omega)]; exact hm38
          refine lv_aload_n hx hb d_X11_putBack_76 rfl (lv_at hl 0 rfl) ?_
          refine r_getr (r := 412) X hw FL_X11_37 (rfl : KD 400 = _) rfl d_X11_putBack_77 ?_
          refine lv_iload_n hx hb d_X11_putBack_80 rfl (lv_at hl 1 rfl) ?_
          refine lv_aload_n hx hb d_X11_putBack_81 rfl (lv_at hl 0 rfl) ?_
          refine r_getr (r := 447) X hw FL_X11_121 (rfl : KD 400 = _) rfl d_X11_putBack_82 ?_
          refine lv_bipush (v := 9) hx hb d_X11_putBack_85 (by decide) ?_
          refine lv_iload_n hx hb d_X11_putBack_87 rfl (lv_at hl 1 rfl) ?_
          refine lv_imul hx hb d_X11_putBack_88 ?_
          refine lv_topi (fun x50 ex50 => ?_)
          have r51 : Rg x50 0 171 := rg_mulc ex50 (⟨by decide, by decide⟩ : Rg 9 9 9) r7 (by decide) (by decide) (by decide)
          have s52 : x50.toInt = 9 * y1.toInt := rg_mule ex50 r7 rfl (by decide) (by decide)
          refine lv_iconst (v := 4) hx hb d_X11_putBack_89 (by decide) ?_
          refine lv_iadd hx hb d_X11_putBack_90 ?_
          refine lv_topi (fun x53 ex53 => ?_)
          have r54 : Rg x53 4 175 := rg_add ex53 r51 (⟨by decide, by decide⟩ : Rg 4 4 4) (by decide) (by decide)
          have s55 : x53.toInt = x50.toInt + (4 : Int32).toInt := by rw [ex53]; exact i_add (by obtain ⟨_, _⟩ := r51; obtain ⟨_, _⟩ := (⟨by decide, by decide⟩ : Rg 4 4 4); omega) (by obtain ⟨_, _⟩ := r51; obtain ⟨_, _⟩ := (⟨by decide, by decide⟩ : Rg 4 4 4); omega)
          have s55l : (4 : Int32).toInt = 4 := rfl
          refine r_iald X hw (rfl : KD 447 = _) (Rg.vp (b := 175) (rg_w r54 (by decide) (by decide)) (by decide)) rfl d_X11_putBack_91 ?_
          refine lv_topi (fun x56 ex56 => ?_)
          refine r_iast X hw hS (rfl : KD 412 = _) (Rg.vp (b := 19) r7 (by decide)) rfl d_X11_putBack_92 (fun H locs hw hS => ?_)
          obtain ⟨v57, ev57⟩ : ∃ z, z = up2 v46 412 y1.toNatClampNeg x56 := ⟨_, rfl⟩
          rw [← ev57] at hw
          have hI58 : Inv v57 := by rw [ev57]; exact Inv.put0 hI47 _ rfl
          have hK59 : Kp v v57 := by rw [ev57]; exact Kp.put hK48 _ rfl
          have hm60 : v57 400 1 = x1 := by rw [ev57, up2_n _ _ (by omega)]; exact hm49
          refine lv_aload_n hx hb d_X11_putBack_93 rfl (lv_at hl 0 rfl) ?_
          refine r_getr (r := 413) X hw FL_X11_40 (rfl : KD 400 = _) rfl d_X11_putBack_94 ?_
          refine lv_iload_n hx hb d_X11_putBack_97 rfl (lv_at hl 1 rfl) ?_
          refine lv_aload_n hx hb d_X11_putBack_98 rfl (lv_at hl 0 rfl) ?_
          refine r_getr (r := 447) X hw FL_X11_121 (rfl : KD 400 = _) rfl d_X11_putBack_99 ?_
          refine lv_bipush (v := 9) hx hb d_X11_putBack_102 (by decide) ?_
          refine lv_iload_n hx hb d_X11_putBack_104 rfl (lv_at hl 1 rfl) ?_
          refine lv_imul hx hb d_X11_putBack_105 ?_
          refine lv_topi (fun x61 ex61 => ?_)
          have r62 : Rg x61 0 171 := rg_mulc ex61 (⟨by decide, by decide⟩ : Rg 9 9 9) r7 (by decide) (by decide) (by decide)
          have s63 : x61.toInt = 9 * y1.toInt := rg_mule ex61 r7 rfl (by decide) (by decide)
          refine lv_iconst (v := 5) hx hb d_X11_putBack_106 (by decide) ?_
          refine lv_iadd hx hb d_X11_putBack_107 ?_
          refine lv_topi (fun x64 ex64 => ?_)
          have r65 : Rg x64 5 176 := rg_add ex64 r62 (⟨by decide, by decide⟩ : Rg 5 5 5) (by decide) (by decide)
          have s66 : x64.toInt = x61.toInt + (5 : Int32).toInt := by rw [ex64]; exact i_add (by obtain ⟨_, _⟩ := r62; obtain ⟨_, _⟩ := (⟨by decide, by decide⟩ : Rg 5 5 5); omega) (by obtain ⟨_, _⟩ := r62; obtain ⟨_, _⟩ := (⟨by decide, by decide⟩ : Rg 5 5 5); omega)
          have s66l : (5 : Int32).toInt = 5 := rfl
          refine r_iald X hw (rfl : KD 447 = _) (Rg.vp (b := 176) (rg_w r65 (by decide) (by decide)) (by decide)) rfl d_X11_putBack_108 ?_
          refine lv_topi (fun x67 ex67 => ?_)
          refine r_iast X hw hS (rfl : KD 413 = _) (Rg.vp (b := 19) r7 (by decide)) rfl d_X11_putBack_109 (fun H locs hw hS => ?_)
          obtain ⟨v68, ev68⟩ : ∃ z, z = up2 v57 413 y1.toNatClampNeg x67 := ⟨_, rfl⟩
          rw [← ev68] at hw
          have hI69 : Inv v68 := by rw [ev68]; exact Inv.put0 hI58 _ rfl
          have hK70 : Kp v v68 := by rw [ev68]; exact Kp.put hK59 _ rfl
          have hm71 : v68 400 1 = x1 := by rw [ev68, up2_n _ _ (by omega)]; exact hm60
          refine lv_aload_n hx hb d_X11_putBack_110 rfl (lv_at hl 0 rfl) ?_
          refine r_getr (r := 414) X hw FL_X11_43 (rfl : KD 400 = _) rfl d_X11_putBack_111 ?_
          refine lv_iload_n hx hb d_X11_putBack_114 rfl (lv_at hl 1 rfl) ?_
          refine lv_aload_n hx hb d_X11_putBack_115 rfl (lv_at hl 0 rfl) ?_
          refine r_getr (r := 447) X hw FL_X11_121 (rfl : KD 400 = _) rfl d_X11_putBack_116 ?_
          refine lv_bipush (v := 9) hx hb d_X11_putBack_119 (by decide) ?_
          refine lv_iload_n hx hb d_X11_putBack_121 rfl (lv_at hl 1 rfl) ?_
          refine lv_imul hx hb d_X11_putBack_122 ?_
          refine lv_topi (fun x72 ex72 => ?_)
          have r73 : Rg x72 0 171 := rg_mulc ex72 (⟨by decide, by decide⟩ : Rg 9 9 9) r7 (by decide) (by decide) (by decide)
          have s74 : x72.toInt = 9 * y1.toInt := rg_mule ex72 r7 rfl (by decide) (by decide)
          refine lv_bipush (v := 6) hx hb d_X11_putBack_123 (by decide) ?_
          refine lv_iadd hx hb d_X11_putBack_125 ?_
          refine lv_topi (fun x75 ex75 => ?_)
          have r76 : Rg x75 6 177 := rg_add ex75 r73 (⟨by decide, by decide⟩ : Rg 6 6 6) (by decide) (by decide)
          have s77 : x75.toInt = x72.toInt + (6 : Int32).toInt := by rw [ex75]; exact i_add (by obtain ⟨_, _⟩ := r73; obtain ⟨_, _⟩ := (⟨by decide, by decide⟩ : Rg 6 6 6); omega) (by obtain ⟨_, _⟩ := r73; obtain ⟨_, _⟩ := (⟨by decide, by decide⟩ : Rg 6 6 6); omega)
          have s77l : (6 : Int32).toInt = 6 := rfl
          refine r_iald X hw (rfl : KD 447 = _) (Rg.vp (b := 177) (rg_w r76 (by decide) (by decide)) (by decide)) rfl d_X11_putBack_126 ?_
          refine lv_topi (fun x78 ex78 => ?_)
          refine r_iast X hw hS (rfl : KD 414 = _) (Rg.vp (b := 19) r7 (by decide)) rfl d_X11_putBack_127 (fun H locs hw hS => ?_)
          obtain ⟨v79, ev79⟩ : ∃ z, z = up2 v68 414 y1.toNatClampNeg x78 := ⟨_, rfl⟩
          rw [← ev79] at hw
          have hI80 : Inv v79 := by rw [ev79]; exact Inv.put0 hI69 _ rfl
          have hK81 : Kp v v79 := by rw [ev79]; exact Kp.put hK70 _ rfl
          have hm82 : v79 400 1 = x1 := by rw [ev79, up2_n _ _ (by omega)]; exact hm71
          refine lv_aload_n hx hb d_X11_putBack_128 rfl (lv_at hl 0 rfl) ?_
          refine r_getr (r := 415) X hw FL_X11_46 (rfl : KD 400 = _) rfl d_X11_putBack_129 ?_
          refine lv_iload_n hx hb d_X11_putBack_132 rfl (lv_at hl 1 rfl) ?_
          refine lv_aload_n hx hb d_X11_putBack_133 rfl (lv_at hl 0 rfl) ?_
          refine r_getr (r := 447) X hw FL_X11_121 (rfl : KD 400 = _) rfl d_X11_putBack_134 ?_
          refine lv_bipush (v := 9) hx hb d_X11_putBack_137 (by decide) ?_
          refine lv_iload_n hx hb d_X11_putBack_139 rfl (lv_at hl 1 rfl) ?_
          refine lv_imul hx hb d_X11_putBack_140 ?_
          refine lv_topi (fun x83 ex83 => ?_)
          have r84 : Rg x83 0 171 := rg_mulc ex83 (⟨by decide, by decide⟩ : Rg 9 9 9) r7 (by decide) (by decide) (by decide)
          have s85 : x83.toInt = 9 * y1.toInt := rg_mule ex83 r7 rfl (by decide) (by decide)
          refine lv_bipush (v := 7) hx hb d_X11_putBack_141 (by decide) ?_
          refine lv_iadd hx hb d_X11_putBack_143 ?_
          refine lv_topi (fun x86 ex86 => ?_)
          have r87 : Rg x86 7 178 := rg_add ex86 r84 (⟨by decide, by decide⟩ : Rg 7 7 7) (by decide) (by decide)
          have s88 : x86.toInt = x83.toInt + (7 : Int32).toInt := by rw [ex86]; exact i_add (by obtain ⟨_, _⟩ := r84; obtain ⟨_, _⟩ := (⟨by decide, by decide⟩ : Rg 7 7 7); omega) (by obtain ⟨_, _⟩ := r84; obtain ⟨_, _⟩ := (⟨by decide, by decide⟩ : Rg 7 7 7); omega)
          have s88l : (7 : Int32).toInt = 7 := rfl
          refine r_iald X hw (rfl : KD 447 = _) (Rg.vp (b := 178) (rg_w r87 (by decide) (by decide)) (by decide)) rfl d_X11_putBack_144 ?_
          refine lv_topi (fun x89 ex89 => ?_)
          refine r_iast X hw hS (rfl : KD 415 = _) (Rg.vp (b := 19) r7 (by decide)) rfl d_X11_putBack_145 (fun H locs hw hS => ?_)
          obtain ⟨v90, ev90⟩ : ∃ z, z = up2 v79 415 y1.toNatClampNeg x89 := ⟨_, rfl⟩
          rw [← ev90] at hw
          have hI91 : Inv v90 := by rw [ev90]; exact Inv.put0 hI80 _ rfl
          have hK92 : Kp v v90 := by rw [ev90]; exact Kp.put hK81 _ rfl
          have hm93 : v90 400 1 = x1 := by rw [ev90, up2_n _ _ (by omega)]; exact hm82
          obtain ⟨x94, ex94⟩ : ∃ y : Int32, y = y1 + 1 := ⟨_, rfl⟩
          refine lv_iinc (v := x94) (lv' := [(1, .int x94), (0, .ref (ad 400))]) hx hb d_X11_putBack_146 hl (k := 1) rfl (by rw [ex94]; rfl) (by decide) rfl (fun ls hl => ?_)
          have r95 : Rg x94 1 20 := rg_add ex94 r7 (⟨by decide, by decide⟩ : Rg 1 1 1) (by decide) (by decide)
          have s96 : x94.toInt = y1.toInt + (1 : Int32).toInt := by rw [ex94]; exact i_add (by obtain ⟨_, _⟩ := r7; obtain ⟨_, _⟩ := (⟨by decide, by decide⟩ : Rg 1 1 1); omega) (by obtain ⟨_, _⟩ := r7; obtain ⟨_, _⟩ := (⟨by decide, by decide⟩ : Rg 1 1 1); omega)
          have s96l : (1 : Int32).toInt = 1 := rfl
          refine lv_goto (tgt := 2) hx hb d_X11_putBack_149 (by decide) ?_
          exact ih0 x94 v90 _ _ _ (by have := s11; have := s19; have := s22; have := s30; have := s33; have := s41; have := s44; have := s52; have := s55; have := s63; have := s66; have := s74; have := s77; have := s85; have := s88; have := s96; obtain ⟨_, _⟩ := r95; omega) (rg_w r95 (by decide) (by decide)) hI91 hK92 hw hS (lv_sub hl [1, 0] rfl)
      · intro y1 v1 H locs ls hmu r_y1 hI1 hK1 hw hS hl
        refine lv_iload_n hx hb d_X11_putBack_154 rfl (lv_at hl 1 rfl) ?_
        refine lv_bipush (v := 6) hx hb d_X11_putBack_155 (by decide) ?_
        refine lv_icmp_ge (tgt := 223) hx hb d_X11_putBack_157 (by decide) (fun c97 => ?_) (fun c97 => ?_)
        · have f98 := i_le c97
          have r99 : Rg y1 6 6 := by obtain ⟨a1, a2⟩ := r_y1; obtain ⟨b1, b2⟩ := (⟨by decide, by decide⟩ : Rg 6 6 6); have f := i_le c97; exact ⟨by omega, by omega⟩
          refine lv_iconst (v := 0) hx hb d_X11_putBack_223 (by decide) ?_
          refine lv_istore_n (lv' := [(1, .int 0), (0, .ref (ad 400))]) hx hb d_X11_putBack_224 rfl hl (by decide) rfl (fun ls hl => ?_)
          exact ih2 0 v1 _ _ _ (by obtain ⟨_, _⟩ := (⟨by decide, by decide⟩ : Rg 0 0 0); omega) (rg_w (⟨by decide, by decide⟩ : Rg 0 0 0) (by decide) (by decide)) hI1 hK1 hw hS (lv_sub hl [1, 0] rfl)
        · have f100 := i_nle c97
          have r101 : Rg y1 0 5 := by obtain ⟨a1, a2⟩ := r_y1; obtain ⟨b1, b2⟩ := (⟨by decide, by decide⟩ : Rg 6 6 6); have f := i_nle c97; exact ⟨by omega, by omega⟩
          refine lv_aload_n hx hb d_X11_putBack_160 rfl (lv_at hl 0 rfl) ?_
          refine r_getr (r := 421) X hw FL_X11_61 (rfl : KD 400 = _) rfl d_X11_putBack_161 ?_
          refine lv_iload_n hx hb d_X11_putBack_164 rfl (lv_at hl 1 rfl) ?_
          refine lv_aload_n hx hb d_X11_putBack_165 rfl (lv_at hl 0 rfl) ?_
          refine r_getr (r := 448) X hw FL_X11_124 (rfl : KD 400 = _) rfl d_X11_putBack_166 ?_
          refine lv_iload_n hx hb d_X11_putBack_169 rfl (lv_at hl 1 rfl) ?_
          refine r_iald X hw (rfl : KD 448 = _) (Rg.vp (b := 5) r101 (by decide)) rfl d_X11_putBack_170 ?_
          refine lv_topi (fun x102 ex102 => ?_)
          refine r_iast X hw hS (rfl : KD 421 = _) (Rg.vp (b := 5) r101 (by decide)) rfl d_X11_putBack_171 (fun H locs hw hS => ?_)
          obtain ⟨v103, ev103⟩ : ∃ z, z = up2 v1 421 y1.toNatClampNeg x102 := ⟨_, rfl⟩
          rw [← ev103] at hw
          have hI104 : Inv v103 := by rw [ev103]; exact Inv.put0 hI1 _ rfl
          have hK105 : Kp v v103 := by rw [ev103]; exact Kp.put hK1 _ rfl
          refine lv_aload_n hx hb d_X11_putBack_172 rfl (lv_at hl 0 rfl) ?_
          refine r_getr (r := 422) X hw FL_X11_64 (rfl : KD 400 = _) rfl d_X11_putBack_173 ?_
          refine lv_iload_n hx hb d_X11_putBack_176 rfl (lv_at hl 1 rfl) ?_
          refine lv_aload_n hx hb d_X11_putBack_177 rfl (lv_at hl 0 rfl) ?_
          refine r_getr (r := 448) X hw FL_X11_124 (rfl : KD 400 = _) rfl d_X11_putBack_178 ?_
          refine lv_bipush (v := 6) hx hb d_X11_putBack_181 (by decide) ?_
          refine lv_iload_n hx hb d_X11_putBack_183 rfl (lv_at hl 1 rfl) ?_
          refine lv_iadd hx hb d_X11_putBack_184 ?_
          refine lv_topi (fun x106 ex106 => ?_)
          have r107 : Rg x106 6 11 := rg_add ex106 (⟨by decide, by decide⟩ : Rg 6 6 6) r101 (by decide) (by decide)
          have s108 : x106.toInt = 6.toInt + (y1 : Int32).toInt := by rw [ex106]; exact i_add (by obtain ⟨_, _⟩ := (⟨by decide, by decide⟩ : Rg 6 6 6); obtain ⟨_, _⟩ := r101; omega) (by obtain ⟨_, _⟩ := (⟨by decide, by decide⟩ : Rg 6 6 6); obtain ⟨_, _⟩ := r101; omega)
          refine r_iald X hw (rfl : KD 448 = _) (Rg.vp (b := 11) (rg_w r107 (by decide) (by decide)) (by decide)) rfl d_X11_putBack_185 ?_
          refine lv_topi (fun x109 ex109 => ?_)
          refine r_iast X hw hS (rfl : KD 422 = _) (Rg.vp (b := 5) r101 (by decide)) rfl d_X11_putBack_186 (fun H locs hw hS => ?_)
          obtain ⟨v110, ev110⟩ : ∃ z, z = up2 v103 422 y1.toNatClampNeg x109 := ⟨_, rfl⟩
          rw [← ev110] at hw
          have hI111 : Inv v110 := by rw [ev110]; exact Inv.put0 hI104 _ rfl
          have hK112 : Kp v v110 := by rw [ev110]; exact Kp.put hK105 _ rfl
          refine lv_aload_n hx hb d_X11_putBack_187 rfl (lv_at hl 0 rfl) ?_
          refine r_getr (r := 423) X hw FL_X11_67 (rfl : KD 400 = _) rfl d_X11_putBack_188 ?_
          refine lv_iload_n hx hb d_X11_putBack_191 rfl (lv_at hl 1 rfl) ?_
          refine lv_aload_n hx hb d_X11_putBack_192 rfl (lv_at hl 0 rfl) ?_
          refine r_getr (r := 448) X hw FL_X11_124 (rfl : KD 400 = _) rfl d_X11_putBack_193 ?_
          refine lv_bipush (v := 12) hx hb d_X11_putBack_196 (by decide) ?_
          refine lv_iload_n hx hb d_X11_putBack_198 rfl (lv_at hl 1 rfl) ?_
          refine lv_iadd hx hb d_X11_putBack_199 ?_
          refine lv_topi (fun x113 ex113 => ?_)
          have r114 : Rg x113 12 17 := rg_add ex113 (⟨by decide, by decide⟩ : Rg 12 12 12) r101 (by decide) (by decide)
          have s115 : x113.toInt = 12.toInt + (y1 : Int32).toInt := by rw [ex113]; exact i_add (by obtain ⟨_, _⟩ := (⟨by decide, by decide⟩ : Rg 12 12 12); obtain ⟨_, _⟩ := r101; omega) (by obtain ⟨_, _⟩ := (⟨by decide, by decide⟩ : Rg 12 12 12); obtain ⟨_, _⟩ := r101; omega)
          refine r_iald X hw (rfl : KD 448 = _) (Rg.vp (b := 17) (rg_w r114 (by decide) (by decide)) (by decide)) rfl d_X11_putBack_200 ?_
          refine lv_topi (fun x116 ex116 => ?_)
          refine r_iast X hw hS (rfl : KD 423 = _) (Rg.vp (b := 5) r101 (by decide)) rfl d_X11_putBack_201 (fun H locs hw hS => ?_)
          obtain ⟨v117, ev117⟩ : ∃ z, z = up2 v110 423 y1.toNatClampNeg x116 := ⟨_, rfl⟩
          rw [← ev117] at hw
          have hI118 : Inv v117 := by rw [ev117]; exact Inv.put0 hI111 _ rfl
          have hK119 : Kp v v117 := by rw [ev117]; exact Kp.put hK112 _ rfl
          refine lv_aload_n hx hb d_X11_putBack_202 rfl (lv_at hl 0 rfl) ?_
          refine r_getr (r := 424) X hw FL_X11_70 (rfl : KD 400 = _) rfl d_X11_putBack_203 ?_
          refine lv_iload_n hx hb d_X11_putBack_206 rfl (lv_at hl 1 rfl) ?_
          refine lv_aload_n hx hb d_X11_putBack_207 rfl (lv_at hl 0 rfl) ?_
          refine r_getr (r := 448) X hw FL_X11_124 (rfl : KD 400 = _) rfl d_X11_putBack_208 ?_
          refine lv_bipush (v := 18) hx hb d_X11_putBack_211 (by decide) ?_
          refine lv_iload_n hx hb d_X11_putBack_213 rfl (lv_at hl 1 rfl) ?_
          refine lv_iadd hx hb d_X11_putBack_214 ?_
          refine lv_topi (fun x120 ex120 => ?_)
          have r121 : Rg x120 18 23 := rg_add ex120 (⟨by decide, by decide⟩ : Rg 18 18 18) r101 (by decide) (by decide)
          have s122 : x120.toInt = 18.toInt + (y1 : Int32).toInt := by rw [ex120]; exact i_add (by obtain ⟨_, _⟩ := (⟨by decide, by decide⟩ : Rg 18 18 18); obtain ⟨_, _⟩ := r101; omega) (by obtain ⟨_, _⟩ := (⟨by decide, by decide⟩ : Rg 18 18 18); obtain ⟨_, _⟩ := r101; omega)
          refine r_iald X hw (rfl : KD 448 = _) (Rg.vp (b := 23) (rg_w r121 (by decide) (by decide)) (by decide)) rfl d_X11_putBack_215 ?_
          refine lv_topi (fun x123 ex123 => ?_)
          refine r_iast X hw hS (rfl : KD 424 = _) (Rg.vp (b := 5) r101 (by decide)) rfl d_X11_putBack_216 (fun H locs hw hS => ?_)
          obtain ⟨v124, ev124⟩ : ∃ z, z = up2 v117 424 y1.toNatClampNeg x123 := ⟨_, rfl⟩
          rw [← ev124] at hw
          have hI125 : Inv v124 := by rw [ev124]; exact Inv.put0 hI118 _ rfl
          have hK126 : Kp v v124 := by rw [ev124]; exact Kp.put hK119 _ rfl
          obtain ⟨x127, ex127⟩ : ∃ y : Int32, y = y1 + 1 := ⟨_, rfl⟩
          refine lv_iinc (v := x127) (lv' := [(1, .int x127), (0, .ref (ad 400))]) hx hb d_X11_putBack_217 hl (k := 1) rfl (by rw [ex127]; rfl) (by decide) rfl (fun ls hl => ?_)
          have r128 : Rg x127 1 6 := rg_add ex127 r101 (⟨by decide, by decide⟩ : Rg 1 1 1) (by decide) (by decide)
          have s129 : x127.toInt = y1.toInt + (1 : Int32).toInt := by rw [ex127]; exact i_add (by obtain ⟨_, _⟩ := r101; obtain ⟨_, _⟩ := (⟨by decide, by decide⟩ : Rg 1 1 1); omega) (by obtain ⟨_, _⟩ := r101; obtain ⟨_, _⟩ := (⟨by decide, by decide⟩ : Rg 1 1 1); omega)
          have s129l : (1 : Int32).toInt = 1 := rfl
          refine lv_goto (tgt := 154) hx hb d_X11_putBack_220 (by decide) ?_
          exact ih1 x127 v124 _ _ _ (by have := s108; have := s115; have := s122; have := s129; obtain ⟨_, _⟩ := r128; omega) (rg_w r128 (by decide) (by decide)) hI125 hK126 hw hS (lv_sub hl [1, 0] rfl)
      · intro y1 v1 H locs ls hmu r_y1 hI1 hK1 hw hS hl
        refine lv_iload_n hx hb d_X11_putBack_225 rfl (lv_at hl 1 rfl) ?_
        refine lv_aload_n hx hb d_X11_putBack_226 rfl (lv_at hl 0 rfl) ?_
        refine r_geti X hw FL_X11_173 (rfl : KD 400 = _) rfl d_X11_putBack_227 ?_
        refine lv_topi (fun x130 ex130 => ?_)
        have r131 : Rg x130 0 10 := by rw [ex130]; exact hI1 _ _ _ _ rfl
        have hm132 : v1 400 15 = x130 := ex130.symm
        refine lv_icmp_ge (tgt := 254) hx hb d_X11_putBack_230 (by decide) (fun c133 => ?_) (fun c133 => ?_)
        · have f134 := i_le c133
          refine lv_aload_n hx hb d_X11_putBack_254 rfl (lv_at hl 0 rfl) ?_
          refine lv_aload_n hx hb d_X11_putBack_255 rfl (lv_at hl 0 rfl) ?_
          refine r_getr (r := 448) X hw FL_X11_124 (rfl : KD 400 = _) rfl d_X11_putBack_256 ?_
          refine lv_bipush (v := 34) hx hb d_X11_putBack_259 (by decide) ?_
          refine r_iald X hw (rfl : KD 448 = _) (Rg.vp (b := 34) (rg_w (⟨by decide, by decide⟩ : Rg 34 34 34) (by decide) (by decide)) (by decide)) rfl d_X11_putBack_261 ?_
          refine lv_topi (fun x135 ex135 => ?_)
          refine r_put X hw hS FP_X11_227 (rfl : KD 400 = _) rfl ⟨rfl, rfl⟩ d_X11_putBack_262 (fun H locs hw hS => ?_)
          obtain ⟨v136, ev136⟩ : ∃ z, z = up2 v1 400 25 x135 := ⟨_, rfl⟩
          rw [← ev136] at hw
          have hI137 : Inv v136 := by rw [ev136]; exact Inv.put0 hI1 _ rfl
          have hK138 : Kp v v136 := by rw [ev136]; exact Kp.put hK1 _ rfl
          have hm139 : v136 400 15 = x130 := by rw [ev136, up2_n _ _ (by omega)]; exact hm132
          refine lv_aload_n hx hb d_X11_putBack_265 rfl (lv_at hl 0 rfl) ?_
          refine lv_aload_n hx hb d_X11_putBack_266 rfl (lv_at hl 0 rfl) ?_
          refine r_getr (r := 448) X hw FL_X11_124 (rfl : KD 400 = _) rfl d_X11_putBack_267 ?_
          refine lv_bipush (v := 35) hx hb d_X11_putBack_270 (by decide) ?_
          refine r_iald X hw (rfl : KD 448 = _) (Rg.vp (b := 35) (rg_w (⟨by decide, by decide⟩ : Rg 35 35 35) (by decide) (by decide)) (by decide)) rfl d_X11_putBack_272 ?_
          refine lv_topi (fun x140 ex140 => ?_)
          refine r_put X hw hS FP_X11_76 (rfl : KD 400 = _) rfl ⟨rfl, rfl⟩ d_X11_putBack_273 (fun H locs hw hS => ?_)
          obtain ⟨v141, ev141⟩ : ∃ z, z = up2 v136 400 26 x140 := ⟨_, rfl⟩
          rw [← ev141] at hw
          have hI142 : Inv v141 := by rw [ev141]; exact Inv.put0 hI137 _ rfl
          have hK143 : Kp v v141 := by rw [ev141]; exact Kp.put hK138 _ rfl
          have hm144 : v141 400 15 = x130 := by rw [ev141, up2_n _ _ (by omega)]; exact hm139
          refine lv_aload_n hx hb d_X11_putBack_276 rfl (lv_at hl 0 rfl) ?_
          refine lv_aload_n hx hb d_X11_putBack_277 rfl (lv_at hl 0 rfl) ?_
          refine r_getr (r := 448) X hw FL_X11_124 (rfl : KD 400 = _) rfl d_X11_putBack_278 ?_
          refine lv_bipush (v := 36) hx hb d_X11_putBack_281 (by decide) ?_
          refine r_iald X hw (rfl : KD 448 = _) (Rg.vp (b := 36) (rg_w (⟨by decide, by decide⟩ : Rg 36 36 36) (by decide) (by decide)) (by decide)) rfl d_X11_putBack_283 ?_
          refine lv_topi (fun x145 ex145 => ?_)
          have r146 : Rg x145 0 200 := by rw [ex145]; exact hI142 _ _ _ _ rfl
          refine r_put X hw hS FP_X11_243 (rfl : KD 400 = _) rfl ⟨rfl, rfl⟩ d_X11_putBack_284 (fun H locs hw hS => ?_)
          obtain ⟨v147, ev147⟩ : ∃ z, z = up2 v141 400 27 x145 := ⟨_, rfl⟩
          rw [← ev147] at hw
          have hI148 : Inv v147 := by rw [ev147]; exact Inv.putr hI142 rfl r146
          have hK149 : Kp v v147 := by rw [ev147]; exact Kp.put hK143 _ rfl
          have hm150 : v147 400 15 = x130 := by rw [ev147, up2_n _ _ (by omega)]; exact hm144
          have hm151 : v147 400 27 = x145 := by rw [ev147, up2_s]
          refine lv_aload_n hx hb d_X11_putBack_287 rfl (lv_at hl 0 rfl) ?_
          refine lv_aload_n hx hb d_X11_putBack_288 rfl (lv_at hl 0 rfl) ?_
          refine r_getr (r := 448) X hw FL_X11_124 (rfl : KD 400 = _) rfl d_X11_putBack_289 ?_
          refine lv_bipush (v := 37) hx hb d_X11_putBack_292 (by decide) ?_
          refine r_iald X hw (rfl : KD 448 = _) (Rg.vp (b := 37) (rg_w (⟨by decide, by decide⟩ : Rg 37 37 37) (by decide) (by decide)) (by decide)) rfl d_X11_putBack_294 ?_
          refine lv_topi (fun x152 ex152 => ?_)
          refine r_put X hw hS FP_X11_246 (rfl : KD 400 = _) rfl ⟨rfl, rfl⟩ d_X11_putBack_295 (fun H locs hw hS => ?_)
          obtain ⟨v153, ev153⟩ : ∃ z, z = up2 v147 400 58 x152 := ⟨_, rfl⟩
          rw [← ev153] at hw
          have hI154 : Inv v153 := by rw [ev153]; exact Inv.put0 hI148 _ rfl
          have hK155 : Kp v v153 := by rw [ev153]; exact Kp.put hK149 _ rfl
          have hm156 : v153 400 15 = x130 := by rw [ev153, up2_n _ _ (by omega)]; exact hm150
          have hm157 : v153 400 27 = x145 := by rw [ev153, up2_n _ _ (by omega)]; exact hm151
          refine lv_aload_n hx hb d_X11_putBack_298 rfl (lv_at hl 0 rfl) ?_
          refine lv_aload_n hx hb d_X11_putBack_299 rfl (lv_at hl 0 rfl) ?_
          refine r_getr (r := 448) X hw FL_X11_124 (rfl : KD 400 = _) rfl d_X11_putBack_300 ?_
          refine lv_bipush (v := 38) hx hb d_X11_putBack_303 (by decide) ?_
          refine r_iald X hw (rfl : KD 448 = _) (Rg.vp (b := 38) (rg_w (⟨by decide, by decide⟩ : Rg 38 38 38) (by decide) (by decide)) (by decide)) rfl d_X11_putBack_305 ?_
          refine lv_topi (fun x158 ex158 => ?_)
          refine r_put X hw hS FP_X11_249 (rfl : KD 400 = _) rfl ⟨rfl, rfl⟩ d_X11_putBack_306 (fun H locs hw hS => ?_)
          obtain ⟨v159, ev159⟩ : ∃ z, z = up2 v153 400 59 x158 := ⟨_, rfl⟩
          rw [← ev159] at hw
          have hI160 : Inv v159 := by rw [ev159]; exact Inv.put0 hI154 _ rfl
          have hK161 : Kp v v159 := by rw [ev159]; exact Kp.put hK155 _ rfl
          have hm162 : v159 400 15 = x130 := by rw [ev159, up2_n _ _ (by omega)]; exact hm156
          have hm163 : v159 400 27 = x145 := by rw [ev159, up2_n _ _ (by omega)]; exact hm157
          refine lv_iconst (v := 0) hx hb d_X11_putBack_309 (by decide) ?_
          refine lv_istore_n (lv' := [(1, .int 0), (0, .ref (ad 400))]) hx hb d_X11_putBack_310 rfl hl (by decide) rfl (fun ls hl => ?_)
          exact ih3 0 v159 _ _ _ (by obtain ⟨_, _⟩ := (⟨by decide, by decide⟩ : Rg 0 0 0); omega) (rg_w (⟨by decide, by decide⟩ : Rg 0 0 0) (by decide) (by decide)) hI160 hK161 hw hS (lv_sub hl [1, 0] rfl)
        · have f164 := i_nle c133
          have r165 : Rg y1 0 9 := by obtain ⟨a1, a2⟩ := r_y1; obtain ⟨b1, b2⟩ := r131; have f := i_nle c133; exact ⟨by omega, by omega⟩
          have r166 : Rg x130 1 10 := by obtain ⟨a1, a2⟩ := r_y1; obtain ⟨b1, b2⟩ := r131; have f := i_nle c133; exact ⟨by omega, by omega⟩
          refine lv_aload_n hx hb d_X11_putBack_233 rfl (lv_at hl 0 rfl) ?_
          refine r_getr (r := 419) X hw FL_X11_55 (rfl : KD 400 = _) rfl d_X11_putBack_234 ?_
          refine lv_iload_n hx hb d_X11_putBack_237 rfl (lv_at hl 1 rfl) ?_
          refine lv_aload_n hx hb d_X11_putBack_238 rfl (lv_at hl 0 rfl) ?_
          refine r_getr (r := 448) X hw FL_X11_124 (rfl : KD 400 = _) rfl d_X11_putBack_239 ?_
          refine lv_bipush (v := 24) hx hb d_X11_putBack_242 (by decide) ?_
          refine lv_iload_n hx hb d_X11_putBack_244 rfl (lv_at hl 1 rfl) ?_
          refine lv_iadd hx hb d_X11_putBack_245 ?_
          refine lv_topi (fun x167 ex167 => ?_)
          have r168 : Rg x167 24 33 := rg_add ex167 (⟨by decide, by decide⟩ : Rg 24 24 24) r165 (by decide) (by decide)
          have s169 : x167.toInt = 24.toInt + (y1 : Int32).toInt := by rw [ex167]; exact i_add (by obtain ⟨_, _⟩ := (⟨by decide, by decide⟩ : Rg 24 24 24); obtain ⟨_, _⟩ := r165; omega) (by obtain ⟨_, _⟩ := (⟨by decide, by decide⟩ : Rg 24 24 24); obtain ⟨_, _⟩ := r165; omega)
          refine r_iald X hw (rfl : KD 448 = _) (Rg.vp (b := 33) (rg_w r168 (by decide) (by decide)) (by decide)) rfl d_X11_putBack_246 ?_
          refine lv_topi (fun x170 ex170 => ?_)
          refine r_iast X hw hS (rfl : KD 419 = _) (Rg.vp (b := 9) r165 (by decide)) rfl d_X11_putBack_247 (fun H locs hw hS => ?_)
          obtain ⟨v171, ev171⟩ : ∃ z, z = up2 v1 419 y1.toNatClampNeg x170 := ⟨_, rfl⟩
          rw [← ev171] at hw
          have hI172 : Inv v171 := by rw [ev171]; exact Inv.put0 hI1 _ rfl
          have hK173 : Kp v v171 := by rw [ev171]; exact Kp.put hK1 _ rfl
          have hm174 : v171 400 15 = x130 := by rw [ev171, up2_n _ _ (by omega)]; exact hm132
          obtain ⟨x175, ex175⟩ : ∃ y : Int32, y = y1 + 1 := ⟨_, rfl⟩
          refine lv_iinc (v := x175) (lv' := [(1, .int x175), (0, .ref (ad 400))]) hx hb d_X11_putBack_248 hl (k := 1) rfl (by rw [ex175]; rfl) (by decide) rfl (fun ls hl => ?_)
          have r176 : Rg x175 1 10 := rg_add ex175 r165 (⟨by decide, by decide⟩ : Rg 1 1 1) (by decide) (by decide)
          have s177 : x175.toInt = y1.toInt + (1 : Int32).toInt := by rw [ex175]; exact i_add (by obtain ⟨_, _⟩ := r165; obtain ⟨_, _⟩ := (⟨by decide, by decide⟩ : Rg 1 1 1); omega) (by obtain ⟨_, _⟩ := r165; obtain ⟨_, _⟩ := (⟨by decide, by decide⟩ : Rg 1 1 1); omega)
          have s177l : (1 : Int32).toInt = 1 := rfl
          refine lv_goto (tgt := 225) hx hb d_X11_putBack_251 (by decide) ?_
          exact ih2 x175 v171 _ _ _ (by have := s169; have := s177; obtain ⟨_, _⟩ := r176; omega) (rg_w r176 (by decide) (by decide)) hI172 hK173 hw hS (lv_sub hl [1, 0] rfl)
      · intro y1 v1 H locs ls hmu r_y1 hI1 hK1 hw hS hl
        refine lv_iload_n hx hb d_X11_putBack_311 rfl (lv_at hl 1 rfl) ?_
        refine lv_aload_n hx hb d_X11_putBack_312 rfl (lv_at hl 0 rfl) ?_
        refine r_geti X hw FL_X11_243 (rfl : KD 400 = _) rfl d_X11_putBack_313 ?_
        refine lv_topi (fun x178 ex178 => ?_)
        have r179 : Rg x178 0 200 := by rw [ex178]; exact hI1 _ _ _ _ rfl
        have hm180 : v1 400 27 = x178 := ex178.symm
        refine lv_icmp_ge (tgt := 387) hx hb d_X11_putBack_316 (by decide) (fun c181 => ?_) (fun c181 => ?_)
        · have f182 := i_le c181
          exact r_vret X hr hlocks hw hS ⟨hI1, hK1⟩ d_X11_putBack_387
        · have f183 := i_nle c181
          have r184 : Rg y1 0 199 := by obtain ⟨a1, a2⟩ := r_y1; obtain ⟨b1, b2⟩ := r179; have f := i_nle c181; exact ⟨by omega, by omega⟩
          have r185 : Rg x178 1 200 := by obtain ⟨a1, a2⟩ := r_y1; obtain ⟨b1, b2⟩ := r179; have f := i_nle c181; exact ⟨by omega, by omega⟩
          refine lv_aload_n hx hb d_X11_putBack_319 rfl (lv_at hl 0 rfl) ?_
          refine r_getr (r := 429) X hw FL_X11_80 (rfl : KD 400 = _) rfl d_X11_putBack_320 ?_
          refine lv_iload_n hx hb d_X11_putBack_323 rfl (lv_at hl 1 rfl) ?_
          refine lv_aload_n hx hb d_X11_putBack_324 rfl (lv_at hl 0 rfl) ?_
          refine r_getr (r := 449) X hw FL_X11_127 (rfl : KD 400 = _) rfl d_X11_putBack_325 ?_
          refine lv_iconst (v := 4) hx hb d_X11_putBack_328 (by decide) ?_
          refine lv_iload_n hx hb d_X11_putBack_329 rfl (lv_at hl 1 rfl) ?_
          refine lv_imul hx hb d_X11_putBack_330 ?_
          refine lv_topi (fun x186 ex186 => ?_)
          have r187 : Rg x186 0 796 := rg_mulc ex186 (⟨by decide, by decide⟩ : Rg 4 4 4) r184 (by decide) (by decide) (by decide)
          have s188 : x186.toInt = 4 * y1.toInt := rg_mule ex186 r184 rfl (by decide) (by decide)
          refine r_iald X hw (rfl : KD 449 = _) (Rg.vp (b := 796) r187 (by decide)) rfl d_X11_putBack_331 ?_
          refine lv_topi (fun x189 ex189 => ?_)
          have r190 : Rg x189 0 19 := by rw [ex189]; exact hI1 _ _ _ _ (RG_kb0 (by have := Rg.clamp r187; omega))
          refine r_iast X hw hS (rfl : KD 429 = _) (Rg.vp (b := 199) r184 (by decide)) rfl d_X11_putBack_332 (fun H locs hw hS => ?_)
          obtain ⟨v191, ev191⟩ : ∃ z, z = up2 v1 429 y1.toNatClampNeg x189 := ⟨_, rfl⟩
          rw [← ev191] at hw
          have hI192 : Inv v191 := by rw [ev191]; exact Inv.putr hI1 rfl r190
          have hK193 : Kp v v191 := by rw [ev191]; exact Kp.put hK1 _ rfl
          have hm194 : v191 400 27 = x178 := by rw [ev191, up2_n _ _ (by omega)]; exact hm180
          refine lv_aload_n hx hb d_X11_putBack_333 rfl (lv_at hl 0 rfl) ?_
          refine r_getr (r := 430) X hw FL_X11_83 (rfl : KD 400 = _) rfl d_X11_putBack_334 ?_
          refine lv_iload_n hx hb d_X11_putBack_337 rfl (lv_at hl 1 rfl) ?_
          refine lv_aload_n hx hb d_X11_putBack_338 rfl (lv_at hl 0 rfl) ?_
          refine r_getr (r := 449) X hw FL_X11_127 (rfl : KD 400 = _) rfl d_X11_putBack_339 ?_
          refine lv_iconst (v := 4) hx hb d_X11_putBack_342 (by decide) ?_
          refine lv_iload_n hx hb d_X11_putBack_343 rfl (lv_at hl 1 rfl) ?_
          refine lv_imul hx hb d_X11_putBack_344 ?_
          refine lv_topi (fun x195 ex195 => ?_)
          have r196 : Rg x195 0 796 := rg_mulc ex195 (⟨by decide, by decide⟩ : Rg 4 4 4) r184 (by decide) (by decide) (by decide)
          have s197 : x195.toInt = 4 * y1.toInt := rg_mule ex195 r184 rfl (by decide) (by decide)
          refine lv_iconst (v := 1) hx hb d_X11_putBack_345 (by decide) ?_
          refine lv_iadd hx hb d_X11_putBack_346 ?_
          refine lv_topi (fun x198 ex198 => ?_)
          have r199 : Rg x198 1 797 := rg_add ex198 r196 (⟨by decide, by decide⟩ : Rg 1 1 1) (by decide) (by decide)
          have s200 : x198.toInt = x195.toInt + (1 : Int32).toInt := by rw [ex198]; exact i_add (by obtain ⟨_, _⟩ := r196; obtain ⟨_, _⟩ := (⟨by decide, by decide⟩ : Rg 1 1 1); omega) (by obtain ⟨_, _⟩ := r196; obtain ⟨_, _⟩ := (⟨by decide, by decide⟩ : Rg 1 1 1); omega)
          have s200l : (1 : Int32).toInt = 1 := rfl
          refine r_iald X hw (rfl : KD 449 = _) (Rg.vp (b := 797) (rg_w r199 (by decide) (by decide)) (by decide)) rfl d_X11_putBack_347 ?_
          refine lv_topi (fun x201 ex201 => ?_)
          refine r_iast X hw hS (rfl : KD 430 = _) (Rg.vp (b := 199) r184 (by decide)) rfl d_X11_putBack_348 (fun H locs hw hS => ?_)
          obtain ⟨v202, ev202⟩ : ∃ z, z = up2 v191 430 y1.toNatClampNeg x201 := ⟨_, rfl⟩
          rw [← ev202] at hw
          have hI203 : Inv v202 := by rw [ev202]; exact Inv.put0 hI192 _ rfl
          have hK204 : Kp v v202 := by rw [ev202]; exact Kp.put hK193 _ rfl
          have hm205 : v202 400 27 = x178 := by rw [ev202, up2_n _ _ (by omega)]; exact hm194
          refine lv_aload_n hx hb d_X11_putBack_349 rfl (lv_at hl 0 rfl) ?_
          refine r_getr (r := 431) X hw FL_X11_86 (rfl : KD 400 = _) rfl d_X11_putBack_350 ?_
          refine lv_iload_n hx hb d_X11_putBack_353 rfl (lv_at hl 1 rfl) ?_
          refine lv_aload_n hx hb d_X11_putBack_354 rfl (lv_at hl 0 rfl) ?_
          refine r_getr (r := 449) X hw FL_X11_127 (rfl : KD 400 = _) rfl d_X11_putBack_355 ?_
          refine lv_iconst (v := 4) hx hb d_X11_putBack_358 (by decide) ?_
          refine lv_iload_n hx hb d_X11_putBack_359 rfl (lv_at hl 1 rfl) ?_
          refine lv_imul hx hb d_X11_putBack_360 ?_
          refine lv_topi (fun x206 ex206 => ?_)
          have r207 : Rg x206 0 796 := rg_mulc ex206 (⟨by decide, by decide⟩ : Rg 4 4 4) r184 (by decide) (by decide) (by decide)
          have s208 : x206.toInt = 4 * y1.toInt := rg_mule ex206 r184 rfl (by decide) (by decide)
          refine lv_iconst (v := 2) hx hb d_X11_putBack_361 (by decide) ?_
          refine lv_iadd hx hb d_X11_putBack_362 ?_
          refine lv_topi (fun x209 ex209 => ?_)
          have r210 : Rg x209 2 798 := rg_add ex209 r207 (⟨by decide, by decide⟩ : Rg 2 2 2) (by decide) (by decide)
          have s211 : x209.toInt = x206.toInt + (2 : Int32).toInt := by rw [ex209]; exact i_add (by obtain ⟨_, _⟩ := r207; obtain ⟨_, _⟩ := (⟨by decide, by decide⟩ : Rg 2 2 2); omega) (by obtain ⟨_, _⟩ := r207; obtain ⟨_, _⟩ := (⟨by decide, by decide⟩ : Rg 2 2 2); omega)
          have s211l : (2 : Int32).toInt = 2 := rfl
          refine r_iald X hw (rfl : KD 449 = _) (Rg.vp (b := 798) (rg_w r210 (by decide) (by decide)) (by decide)) rfl d_X11_putBack_363 ?_
          refine lv_topi (fun x212 ex212 => ?_)
          refine r_iast X hw hS (rfl : KD 431 = _) (Rg.vp (b := 199) r184 (by decide)) rfl d_X11_putBack_364 (fun H locs hw hS => ?_)
          obtain ⟨v213, ev213⟩ : ∃ z, z = up2 v202 431 y1.toNatClampNeg x212 := ⟨_, rfl⟩
          rw [← ev213] at hw
          have hI214 : Inv v213 := by rw [ev213]; exact Inv.put0 hI203 _ rfl
          have hK215 : Kp v v213 := by rw [ev213]; exact Kp.put hK204 _ rfl
          have hm216 : v213 400 27 = x178 := by rw [ev213, up2_n _ _ (by omega)]; exact hm205
          refine lv_aload_n hx hb d_X11_putBack_365 rfl (lv_at hl 0 rfl) ?_
          refine r_getr (r := 432) X hw FL_X11_89 (rfl : KD 400 = _) rfl d_X11_putBack_366 ?_
          refine lv_iload_n hx hb d_X11_putBack_369 rfl (lv_at hl 1 rfl) ?_
          refine lv_aload_n hx hb d_X11_putBack_370 rfl (lv_at hl 0 rfl) ?_
          refine r_getr (r := 449) X hw FL_X11_127 (rfl : KD 400 = _) rfl d_X11_putBack_371 ?_
          refine lv_iconst (v := 4) hx hb d_X11_putBack_374 (by decide) ?_
          refine lv_iload_n hx hb d_X11_putBack_375 rfl (lv_at hl 1 rfl) ?_
          refine lv_imul hx hb d_X11_putBack_376 ?_
          refine lv_topi (fun x217 ex217 => ?_)
          have r218 : Rg x217 0 796 := rg_mulc ex217 (⟨by decide, by decide⟩ : Rg 4 4 4) r184 (by decide) (by decide) (by decide)
          have s219 : x217.toInt = 4 * y1.toInt := rg_mule ex217 r184 rfl (by decide) (by decide)
          refine lv_iconst (v := 3) hx hb d_X11_putBack_377 (by decide) ?_
          refine lv_iadd hx hb d_X11_putBack_378 ?_
          refine lv_topi (fun x220 ex220 => ?_)
          have r221 : Rg x220 3 799 := rg_add ex220 r218 (⟨by decide, by decide⟩ : Rg 3 3 3) (by decide) (by decide)
          have s222 : x220.toInt = x217.toInt + (3 : Int32).toInt := by rw [ex220]; exact i_add (by obtain ⟨_, _⟩ := r218; obtain ⟨_, _⟩ := (⟨by decide, by decide⟩ : Rg 3 3 3); omega) (by obtain ⟨_, _⟩ := r218; obtain ⟨_, _⟩ := (⟨by decide, by decide⟩ : Rg 3 3 3); omega)
          have s222l : (3 : Int32).toInt = 3 := rfl
          refine r_iald X hw (rfl : KD 449 = _) (Rg.vp (b := 799) (rg_w r221 (by decide) (by decide)) (by decide)) rfl d_X11_putBack_379 ?_
          refine lv_topi (fun x223 ex223 => ?_)
          refine r_iast X hw hS (rfl : KD 432 = _) (Rg.vp (b := 199) r184 (by decide)) rfl d_X11_putBack_380 (fun H locs hw hS => ?_)
          obtain ⟨v224, ev224⟩ : ∃ z, z = up2 v213 432 y1.toNatClampNeg x223 := ⟨_, rfl⟩
          rw [← ev224] at hw
          have hI225 : Inv v224 := by rw [ev224]; exact Inv.put0 hI214 _ rfl
          have hK226 : Kp v v224 := by rw [ev224]; exact Kp.put hK215 _ rfl
          have hm227 : v224 400 27 = x178 := by rw [ev224, up2_n _ _ (by omega)]; exact hm216
          obtain ⟨x228, ex228⟩ : ∃ y : Int32, y = y1 + 1 := ⟨_, rfl⟩
          refine lv_iinc (v := x228) (lv' := [(1, .int x228), (0, .ref (ad 400))]) hx hb d_X11_putBack_381 hl (k := 1) rfl (by rw [ex228]; rfl) (by decide) rfl (fun ls hl => ?_)
          have r229 : Rg x228 1 200 := rg_add ex228 r184 (⟨by decide, by decide⟩ : Rg 1 1 1) (by decide) (by decide)
          have s230 : x228.toInt = y1.toInt + (1 : Int32).toInt := by rw [ex228]; exact i_add (by obtain ⟨_, _⟩ := r184; obtain ⟨_, _⟩ := (⟨by decide, by decide⟩ : Rg 1 1 1); omega) (by obtain ⟨_, _⟩ := r184; obtain ⟨_, _⟩ := (⟨by decide, by decide⟩ : Rg 1 1 1); omega)
          have s230l : (1 : Int32).toInt = 1 := rfl
          refine lv_goto (tgt := 311) hx hb d_X11_putBack_384 (by decide) ?_
          exact ih3 x228 v224 _ _ _ (by have := s188; have := s197; have := s200; have := s208; have := s211; have := s219; have := s222; have := s230; obtain ⟨_, _⟩ := r229; omega) (rg_w r229 (by decide) (by decide)) hI225 hK226 hw hS (lv_sub hl [1, 0] rfl)
  obtain ⟨ih0, ih1, ih2, ih3⟩ := LL 100000
  have hK0 : Kp v v := Kp.rf v
  refine lv_iconst (v := 0) hx hb d_X11_putBack_0 (by decide) ?_
  refine lv_istore_n (lv' := [(1, .int 0), (0, .ref (ad 400))]) hx hb d_X11_putBack_1 rfl hl (by decide) rfl (fun ls hl => ?_)
  exact ih0 0 v _ _ _ (by obtain ⟨_, _⟩ := (⟨by decide, by decide⟩ : Rg 0 0 0); omega) (rg_w (⟨by decide, by decide⟩ : Rg 0 0 0) (by decide) (by decide)) hI hK0 hw hS (lv_sub hl [1, 0] rfl)
