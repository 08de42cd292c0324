theorem narz {x : Int32} (h : Rg x 0 1) : narrow .boolean (.int x) = .int x := by
  obtain ⟨h1, h2⟩ := h
  have e : x = 0 ∨ x = 1 := by
    by_cases q : x.toInt = 0
    · exact Or.inl (Int32.toInt_inj.mp q)
    · exact Or.inr (Int32.toInt_inj.mp (show x.toInt = 1 by omega))
  rcases e with rfl | rfl <;> rfl
theorem ml_X10_249 : Cond.methodLink N_X10 249 Lib.Math.min.name ∈ BIG := tb_in 787 (by decide +kernel) rfl
theorem ml_X2_48 : Cond.methodLink N_X2 48 Lib.Math.min.name ∈ BIG := tb_in 758 (by decide +kernel) rfl
theorem ml_X2_54 : Cond.methodLink N_X2 54 Lib.Math.max.name ∈ BIG := tb_in 757 (by decide +kernel) rfl
theorem ml_X5_59 : Cond.methodLink N_X5 59 Lib.Math.min.name ∈ BIG := tb_in 629 (by decide +kernel) rfl
theorem ml_X6_107 : Cond.methodLink N_X6 107 Lib.Math.min.name ∈ BIG := tb_in 693 (by decide +kernel) rfl
theorem ml_X7_51 : Cond.methodLink N_X7 51 Lib.Math.max.name ∈ BIG := tb_in 652 (by decide +kernel) rfl
theorem ml_X8_94 : Cond.methodLink N_X8 94 Lib.Math.max.name ∈ BIG := tb_in 562 (by decide +kernel) rfl
theorem ml_X9_34 : Cond.methodLink N_X9 34 Lib.Math.min.name ∈ BIG := tb_in 718 (by decide +kernel) rfl
theorem ml_mins : Cond.static Lib.Math.min.name ∈ BIG := tb_in 630 (by decide +kernel) rfl
theorem ml_minc : Cond.code Lib.Math.min.name Lib.Math.min.code 2 (some .int) ∈ BIG := tb_in 631 (by decide +kernel) rfl
theorem ml_maxs : Cond.static Lib.Math.max.name ∈ BIG := tb_in 563 (by decide +kernel) rfl
theorem ml_maxc : Cond.code Lib.Math.max.name Lib.Math.max.code 2 (some .int) ∈ BIG := tb_in 564 (by decide +kernel) rfl
theorem ml_mi : Cond.initialized "java/lang/Math" ∈ BIG := tb_in 53 (by decide +kernel) rfl
theorem d_X10_within_0 : decode c_X10_within 0 = .ok (.iload_n 0, 1) := by decide +kernel
theorem d_X10_within_1 : decode c_X10_within 1 = .ok (.iload_n 1, 1) := by decide +kernel
theorem d_X10_within_2 : decode c_X10_within 2 = .ok (.if_icmp .lt 12, 3) := by decide +kernel
theorem d_X10_within_5 : decode c_X10_within 5 = .ok (.iload_n 0, 1) := by decide +kernel
theorem d_X10_within_6 : decode c_X10_within 6 = .ok (.iload_n 2, 1) := by decide +kernel
theorem d_X10_within_7 : decode c_X10_within 7 = .ok (.if_icmp .gt 7, 3) := by decide +kernel
theorem d_X10_within_10 : decode c_X10_within 10 = .ok (.iconst 1, 1) := by decide +kernel
theorem d_X10_within_11 : decode c_X10_within 11 = .ok (.goto 4, 3) := by decide +kernel
theorem d_X10_within_14 : decode c_X10_within 14 = .ok (.iconst 0, 1) := by decide +kernel
theorem d_X10_within_15 : decode c_X10_within 15 = .ok (.ireturn, 1) := by decide +kernel
set_option maxHeartbeats 4000000 in
set_option maxRecDepth 100000 in
theorem ct_X10_within (l : Launch) (D : va_G) (dA : Nat → ClassId) (ad : Nat → Nat) (v : tV) (hI : Inv v) (x : Int32) (lo : Int32) (hi : Int32) : Met l m_X10_within [.code m_X10_within c_X10_within 3 (some .boolean)] ({ frames := 1, cells := 0, slots := 0, locals := 40 } : Room) (tP D dA ad v [.int x, .int lo, .int hi]) (tQi D dA ad (fun r v' => v' = v ∧ ((r = 1 ∧ lo.toInt ≤ x.toInt ∧ x.toInt ≤ hi.toInt) ∨ (r = 0 ∧ ¬ (lo.toInt ≤ x.toInt ∧ x.toInt ≤ hi.toInt))))) 0 0 (tA ad) := by
  refine tMet (by decide) (Nat.le_of_ble_eq_true rfl) ?_
  intro p e s m below meth c ls X hr hlocks hw hl
  have X : CX p s m ([.int x, .int lo, .int hi] : List Value).toArray c c_X10_within N_X10 3 D dA := X
  have hx := X.1
  have hb := X.2.1
  have hS : va_S (tA ad) s.heap s.heap [] := va_S.rf
  have hl : lv_has ls 3 [(0, .int x), (1, .int lo), (2, .int hi)] := hl
  refine lv_iload_n hx hb d_X10_within_0 rfl (lv_at hl 0 rfl) ?_
  refine lv_iload_n hx hb d_X10_within_1 rfl (lv_at hl 1 rfl) ?_
  refine lv_icmp_lt (tgt := 14) hx hb d_X10_within_2 (by decide) (fun c1 => ?_) (fun c1 => ?_)
  · have f2 := i_lt c1
    refine lv_iconst (v := 0) hx hb d_X10_within_14 (by decide) ?_
    exact r_zret X hr hlocks hw hS rfl ⟨rfl, Or.inr ⟨rfl, by omega⟩⟩ d_X10_within_15
  · have f3 := i_nlt c1
    refine lv_iload_n hx hb d_X10_within_5 rfl (lv_at hl 0 rfl) ?_
    refine lv_iload_n hx hb d_X10_within_6 rfl (lv_at hl 2 rfl) ?_
    refine lv_icmp_gt (tgt := 14) hx hb d_X10_within_7 (by decide) (fun c4 => ?_) (fun c4 => ?_)
    · have f5 := i_lt c4
      refine lv_iconst (v := 0) hx hb d_X10_within_14 (by decide) ?_
      exact r_zret X hr hlocks hw hS rfl ⟨rfl, Or.inr ⟨rfl, by omega⟩⟩ d_X10_within_15
    · have f6 := i_nlt c4
      refine lv_iconst (v := 1) hx hb d_X10_within_10 (by decide) ?_
      refine lv_goto (tgt := 15) hx hb d_X10_within_11 (by decide) ?_
      exact r_zret X hr hlocks hw hS rfl ⟨rfl, Or.inl ⟨rfl, by omega, by omega⟩⟩ d_X10_within_15
theorem d_X10_isAsk_0 : decode c_X10_isAsk 0 = .ok (.iload_n 0, 1) := by decide +kernel
theorem d_X10_isAsk_1 : decode c_X10_isAsk 1 = .ok (.iconst 1, 1) := by decide +kernel
theorem d_X10_isAsk_2 : decode c_X10_isAsk 2 = .ok (.bipush 99, 2) := by decide +kernel
theorem d_X10_isAsk_4 : decode c_X10_isAsk 4 = .ok (.invokestatic 74, 3) := by decide +kernel
theorem d_X10_isAsk_7 : decode c_X10_isAsk 7 = .ok (.ireturn, 1) := by decide +kernel
set_option maxHeartbeats 4000000 in
set_option maxRecDepth 100000 in
theorem ct_X10_isAsk (l : Launch) (D : va_G) (dA : Nat → ClassId) (ad : Nat → Nat) (v : tV) (hI : Inv v) (x : Int32) : Met l m_X10_isAsk [.code m_X10_isAsk c_X10_isAsk 1 (some .boolean)] ({ frames := 2, cells := 0, slots := 0, locals := 62 } : Room) (tP D dA ad v [.int x]) (tQi D dA ad (fun r v' => v' = v ∧ ((r = 1 ∧ 1 ≤ x.toInt ∧ x.toInt ≤ 99) ∨ (r = 0 ∧ ¬ (1 ≤ x.toInt ∧ x.toInt ≤ 99))))) 0 0 (tA ad) := by
  refine tMet (by decide) (Nat.le_of_ble_eq_true rfl) ?_
  intro p e s m below meth c ls X hr hlocks hw hl
  have X : CX p s m ([.int x] : List Value).toArray c c_X10_isAsk N_X10 1 D dA := X
  have hx := X.1
  have hb := X.2.1
  have hS : va_S (tA ad) s.heap s.heap [] := va_S.rf
  have hl : lv_has ls 1 [(0, .int x)] := hl
  refine lv_iload_n hx hb d_X10_isAsk_0 rfl (lv_at hl 0 rfl) ?_
  refine lv_iconst (v := 1) hx hb d_X10_isAsk_1 (by decide) ?_
  refine lv_bipush (v := 99) hx hb d_X10_isAsk_2 (by decide) ?_
  refine r_ci (r_runS (n := 3) (As := [.int x, .int 1, .int 99]) (rest := []) X hw (ct_X10_within l D dA ad v hI x 1 99) gc_X10_74 (by decide +kernel) ⟨rfl, rfl, Nat.le_of_ble_eq_true rfl, Nat.le_of_ble_eq_true rfl⟩ rfl hl.1 rfl (Nat.le_of_ble_eq_true rfl) ⟨Nat.zero_le _, Nat.zero_le _⟩ d_X10_isAsk_4) hS (fun x2 v3 H locs hp1 hw hS => ?_)
  obtain ⟨ev3, hp1⟩ := hp1
  rw [ev3] at hw
  rcases hp1 with ⟨rfl, w4a, w4b⟩ | ⟨rfl, w4n⟩
  · skip
    have r5 : Rg x 1 99 := by obtain ⟨_, _⟩ := (rg_any x); have : (1 : Int32).toInt = 1 := rfl; have : (99 : Int32).toInt = 99 := rfl; exact ⟨by omega, by omega⟩
    exact r_zret X hr hlocks hw hS rfl ⟨rfl, Or.inl ⟨rfl, by have : (1 : Int32).toInt = 1 := rfl; have : (99 : Int32).toInt = 99 := rfl; omega, by have : (1 : Int32).toInt = 1 := rfl; have : (99 : Int32).toInt = 99 := rfl; omega⟩⟩ d_X10_isAsk_7
  · skip
    exact r_zret X hr hlocks hw hS rfl ⟨rfl, Or.inr ⟨rfl, by have : (1 : Int32).toInt = 1 := rfl; have : (99 : Int32).toInt = 99 := rfl; omega⟩⟩ d_X10_isAsk_7
theorem d_X10_isBid_0 : decode c_X10_isBid 0 = .ok (.iload_n 0, 1) := by decide +kernel
theorem d_X10_isBid_1 : decode c_X10_isBid 1 = .ok (.iconst 1, 1) := by decide +kernel
theorem d_X10_isBid_2 : decode c_X10_isBid 2 = .ok (.bipush 120, 2) := by decide +kernel
theorem d_X10_isBid_4 : decode c_X10_isBid 4 = .ok (.invokestatic 74, 3) := by decide +kernel
theorem d_X10_isBid_7 : decode c_X10_isBid 7 = .ok (.ireturn, 1) := by decide +kernel
set_option maxHeartbeats 4000000 in
set_option maxRecDepth 100000 in
theorem ct_X10_isBid (l : Launch) (D : va_G) (dA : Nat → ClassId) (ad : Nat → Nat) (v : tV) (hI : Inv v) (x : Int32) : Met l m_X10_isBid [.code m_X10_isBid c_X10_isBid 1 (some .boolean)] ({ frames := 2, cells := 0, slots := 0, locals := 62 } : Room) (tP D dA ad v [.int x]) (tQi D dA ad (fun r v' => v' = v ∧ ((r = 1 ∧ 1 ≤ x.toInt ∧ x.toInt ≤ 120) ∨ (r = 0 ∧ ¬ (1 ≤ x.toInt ∧ x.toInt ≤ 120))))) 0 0 (tA ad) := by
  refine tMet (by decide) (Nat.le_of_ble_eq_true rfl) ?_
  intro p e s m below meth c ls X hr hlocks hw hl
  have X : CX p s m ([.int x] : List Value).toArray c c_X10_isBid N_X10 1 D dA := X
  have hx := X.1
  have hb := X.2.1
  have hS : va_S (tA ad) s.heap s.heap [] := va_S.rf
  have hl : lv_has ls 1 [(0, .int x)] := hl
  refine lv_iload_n hx hb d_X10_isBid_0 rfl (lv_at hl 0 rfl) ?_
  refine lv_iconst (v := 1) hx hb d_X10_isBid_1 (by decide) ?_
  refine lv_bipush (v := 120) hx hb d_X10_isBid_2 (by decide) ?_
  refine r_ci (r_runS (n := 3) (As := [.int x, .int 1, .int 120]) (rest := []) X hw (ct_X10_within l D dA ad v hI x 1 120) gc_X10_74 (by decide +kernel) ⟨rfl, rfl, Nat.le_of_ble_eq_true rfl, Nat.le_of_ble_eq_true rfl⟩ rfl hl.1 rfl (Nat.le_of_ble_eq_true rfl) ⟨Nat.zero_le _, Nat.zero_le _⟩ d_X10_isBid_4) hS (fun x2 v3 H locs hp1 hw hS => ?_)
  obtain ⟨ev3, hp1⟩ := hp1
  rw [ev3] at hw
  rcases hp1 with ⟨rfl, w4a, w4b⟩ | ⟨rfl, w4n⟩
  · skip
    have r5 : Rg x 1 120 := by obtain ⟨_, _⟩ := (rg_any x); have : (1 : Int32).toInt = 1 := rfl; have : (120 : Int32).toInt = 120 := rfl; exact ⟨by omega, by omega⟩
    exact r_zret X hr hlocks hw hS rfl ⟨rfl, Or.inl ⟨rfl, by have : (1 : Int32).toInt = 1 := rfl; have : (120 : Int32).toInt = 120 := rfl; omega, by have : (1 : Int32).toInt = 1 := rfl; have : (120 : Int32).toInt = 120 := rfl; omega⟩⟩ d_X10_isBid_7
  · skip
    exact r_zret X hr hlocks hw hS rfl ⟨rfl, Or.inr ⟨rfl, by have : (1 : Int32).toInt = 1 := rfl; have : (120 : Int32).toInt = 120 := rfl; omega⟩⟩ d_X10_isBid_7
theorem d_X10_isWant_0 : decode c_X10_isWant 0 = .ok (.iload_n 0, 1) := by decide +kernel
theorem d_X10_isWant_1 : decode c_X10_isWant 1 = .ok (.iconst 0, 1) := by decide +kernel
theorem d_X10_isWant_2 : decode c_X10_isWant 2 = .ok (.sipush 2000, 3) := by decide +kernel
theorem d_X10_isWant_5 : decode c_X10_isWant 5 = .ok (.invokestatic 74, 3) := by decide +kernel
theorem d_X10_isWant_8 : decode c_X10_isWant 8 = .ok (.ireturn, 1) := by decide +kernel
set_option maxHeartbeats 4000000 in
set_option maxRecDepth 100000 in
theorem ct_X10_isWant (l : Launch) (D : va_G) (dA : Nat → ClassId) (ad : Nat → Nat) (v : tV) (hI : Inv v) (x : Int32) : Met l m_X10_isWant [.code m_X10_isWant c_X10_isWant 1 (some .boolean)] ({ frames := 2, cells := 0, slots := 0, locals := 62 } : Room) (tP D dA ad v [.int x]) (tQi D dA ad (fun r v' => v' = v ∧ ((r = 1 ∧ 0 ≤ x.toInt ∧ x.toInt ≤ 2000) ∨ (r = 0 ∧ ¬ (0 ≤ x.toInt ∧ x.toInt ≤ 2000))))) 0 0 (tA ad) := by
  refine tMet (by decide) (Nat.le_of_ble_eq_true rfl) ?_
  intro p e s m below meth c ls X hr hlocks hw hl
  have X : CX p s m ([.int x] : List Value).toArray c c_X10_isWant N_X10 1 D dA := X
  have hx := X.1
  have hb := X.2.1
  have hS : va_S (tA ad) s.heap s.heap [] := va_S.rf
  have hl : lv_has ls 1 [(0, .int x)] := hl
  refine lv_iload_n hx hb d_X10_isWant_0 rfl (lv_at hl 0 rfl) ?_
  refine lv_iconst (v := 0) hx hb d_X10_isWant_1 (by decide) ?_
  refine lv_sipush (v := 2000) hx hb d_X10_isWant_2 (by decide) ?_
  refine r_ci (r_runS (n := 3) (As := [.int x, .int 0, .int 2000]) (rest := []) X hw (ct_X10_within l D dA ad v hI x 0 2000) gc_X10_74 (by decide +kernel) ⟨rfl, rfl, Nat.le_of_ble_eq_true rfl, Nat.le_of_ble_eq_true rfl⟩ rfl hl.1 rfl (Nat.le_of_ble_eq_true rfl) ⟨Nat.zero_le _, Nat.zero_le _⟩ d_X10_isWant_5) hS (fun x2 v3 H locs hp1 hw hS => ?_)
  obtain ⟨ev3, hp1⟩ := hp1
  rw [ev3] at hw
  rcases hp1 with ⟨rfl, w4a, w4b⟩ | ⟨rfl, w4n⟩
  · skip
    have r5 : Rg x 0 2000 := by obtain ⟨_, _⟩ := (rg_any x); have : (0 : Int32).toInt = 0 := rfl; have : (2000 : Int32).toInt = 2000 := rfl; exact ⟨by omega, by omega⟩
    exact r_zret X hr hlocks hw hS rfl ⟨rfl, Or.inl ⟨rfl, by have : (0 : Int32).toInt = 0 := rfl; have : (2000 : Int32).toInt = 2000 := rfl; omega, by have : (0 : Int32).toInt = 0 := rfl; have : (2000 : Int32).toInt = 2000 := rfl; omega⟩⟩ d_X10_isWant_8
  · skip
    exact r_zret X hr hlocks hw hS rfl ⟨rfl, Or.inr ⟨rfl, by have : (0 : Int32).toInt = 0 := rfl; have : (2000 : Int32).toInt = 2000 := rfl; omega⟩⟩ d_X10_isWant_8
theorem d_X10_isWard_0 : decode c_X10_isWard 0 = .ok (.iload_n 0, 1) := by decide +kernel
theorem d_X10_isWard_1 : decode c_X10_isWard 1 = .ok (.iconst 0, 1) := by decide +kernel
theorem d_X10_isWard_2 : decode c_X10_isWard 2 = .ok (.iconst 5, 1) := by decide +kernel
theorem d_X10_isWard_3 : decode c_X10_isWard 3 = .ok (.invokestatic 74, 3) := by decide +kernel
theorem d_X10_isWard_6 : decode c_X10_isWard 6 = .ok (.ireturn, 1) := by decide +kernel
set_option maxHeartbeats 4000000 in
set_option maxRecDepth 100000 in
theorem ct_X10_isWard (l : Launch) (D : va_G) (dA : Nat → ClassId) (ad : Nat → Nat) (v : tV) (hI : Inv v) (x : Int32) : Met l m_X10_isWard [.code m_X10_isWard c_X10_isWard 1 (some .boolean)] ({ frames := 2, cells := 0, slots := 0, locals := 62 } : Room) (tP D dA ad v [.int x]) (tQi D dA ad (fun r v' => v' = v ∧ ((r = 1 ∧ 0 ≤ x.toInt ∧ x.toInt ≤ 5) ∨ (r = 0 ∧ ¬ (0 ≤ x.toInt ∧ x.toInt ≤ 5))))) 0 0 (tA ad) := by
  refine tMet (by decide) (Nat.le_of_ble_eq_true rfl) ?_
  intro p e s m below meth c ls X hr hlocks hw hl
  have X : CX p s m ([.int x] : List Value).toArray c c_X10_isWard N_X10 1 D dA := X
  have hx := X.1
  have hb := X.2.1
  have hS : va_S (tA ad) s.heap s.heap [] := va_S.rf
  have hl : lv_has ls 1 [(0, .int x)] := hl
  refine lv_iload_n hx hb d_X10_isWard_0 rfl (lv_at hl 0 rfl) ?_
  refine lv_iconst (v := 0) hx hb d_X10_isWard_1 (by decide) ?_
  refine lv_iconst (v := 5) hx hb d_X10_isWard_2 (by decide) ?_
  refine r_ci (r_runS (n := 3) (As := [.int x, .int 0, .int 5]) (rest := []) X hw (ct_X10_within l D dA ad v hI x 0 5) gc_X10_74 (by decide +kernel) ⟨rfl, rfl, Nat.le_of_ble_eq_true rfl, Nat.le_of_ble_eq_true rfl⟩ rfl hl.1 rfl (Nat.le_of_ble_eq_true rfl) ⟨Nat.zero_le _, Nat.zero_le _⟩ d_X10_isWard_3) hS (fun x2 v3 H locs hp1 hw hS => ?_)
  obtain ⟨ev3, hp1⟩ := hp1
  rw [ev3] at hw
  rcases hp1 with ⟨rfl, w4a, w4b⟩ | ⟨rfl, w4n⟩
  · skip
    have r5 : Rg x 0 5 := by obtain ⟨_, _⟩ := (rg_any x); have : (0 : Int32).toInt = 0 := rfl; have : (5 : Int32).toInt = 5 := rfl; exact ⟨by omega, by omega⟩
    exact r_zret X hr hlocks hw hS rfl ⟨rfl, Or.inl ⟨rfl, by have : (0 : Int32).toInt = 0 := rfl; have : (5 : Int32).toInt = 5 := rfl; omega, by have : (0 : Int32).toInt = 0 := rfl; have : (5 : Int32).toInt = 5 := rfl; omega⟩⟩ d_X10_isWard_6
  · skip
    exact r_zret X hr hlocks hw hS rfl ⟨rfl, Or.inr ⟨rfl, by have : (0 : Int32).toInt = 0 := rfl; have : (5 : Int32).toInt = 5 := rfl; omega⟩⟩ d_X10_isWard_6
theorem d_X10_isCold_0 : decode c_X10_isCold 0 = .ok (.iload_n 0, 1) := by decide +kernel
theorem d_X10_isCold_1 : decode c_X10_isCold 1 = .ok (.iconst 0, 1) := by decide +kernel
theorem d_X10_isCold_2 : decode c_X10_isCold 2 = .ok (.iconst 4, 1) := by decide +kernel
theorem d_X10_isCold_3 : decode c_X10_isCold 3 = .ok (.invokestatic 74, 3) := by decide +kernel
theorem d_X10_isCold_6 : decode c_X10_isCold 6 = .ok (.ireturn, 1) := by decide +kernel
set_option maxHeartbeats 4000000 in
set_option maxRecDepth 100000 in
theorem ct_X10_isCold (l : Launch) (D : va_G) (dA : Nat → ClassId) (ad : Nat → Nat) (v : tV) (hI : Inv v) (x : Int32) : Met l m_X10_isCold [.code m_X10_isCold c_X10_isCold 1 (some .boolean)] ({ frames := 2, cells := 0, slots := 0, locals := 62 } : Room) (tP D dA ad v [.int x]) (tQi D dA ad (fun r v' => v' = v ∧ ((r = 1 ∧ 0 ≤ x.toInt ∧ x.toInt ≤ 4) ∨ (r = 0 ∧ ¬ (0 ≤ x.toInt ∧ x.toInt ≤ 4))))) 0 0 (tA ad) := by
  refine tMet (by decide) (Nat.le_of_ble_eq_true rfl) ?_
  intro p e s m below meth c ls X hr hlocks hw hl
  have X : CX p s m ([.int x] : List Value).toArray c c_X10_isCold N_X10 1 D dA := X
  have hx := X.1
  have hb := X.2.1
  have hS : va_S (tA ad) s.heap s.heap [] := va_S.rf
  have hl : lv_has ls 1 [(0, .int x)] := hl
  refine lv_iload_n hx hb d_X10_isCold_0 rfl (lv_at hl 0 rfl) ?_
  refine lv_iconst (v := 0) hx hb d_X10_isCold_1 (by decide) ?_
  refine lv_iconst (v := 4) hx hb d_X10_isCold_2 (by decide) ?_
  refine r_ci (r_runS (n := 3) (As := [.int x, .int 0, .int 4]) (rest := []) X hw (ct_X10_within l D dA ad v hI x 0 4) gc_X10_74 (by decide +kernel) ⟨rfl, rfl, Nat.le_of_ble_eq_true rfl, Nat.le_of_ble_eq_true rfl⟩ rfl hl.1 rfl (Nat.le_of_ble_eq_true rfl) ⟨Nat.zero_le _, Nat.zero_le _⟩ d_X10_isCold_3) hS (fun x2 v3 H locs hp1 hw hS => ?_)
  obtain ⟨ev3, hp1⟩ := hp1
  rw [ev3] at hw
  rcases hp1 with ⟨rfl, w4a, w4b⟩ | ⟨rfl, w4n⟩
  · skip
    have r5 : Rg x 0 4 := by obtain ⟨_, _⟩ := (rg_any x); have : (0 : Int32).toInt = 0 := rfl; have : (4 : Int32).toInt = 4 := rfl; exact ⟨by omega, by omega⟩
    exact r_zret X hr hlocks hw hS rfl ⟨rfl, Or.inl ⟨rfl, by have : (0 : Int32).toInt = 0 := rfl; have : (4 : Int32).toInt = 4 := rfl; omega, by have : (0 : Int32).toInt = 0 := rfl; have : (4 : Int32).toInt = 4 := rfl; omega⟩⟩ d_X10_isCold_6
  · skip
    exact r_zret X hr hlocks hw hS rfl ⟨rfl, Or.inr ⟨rfl, by have : (0 : Int32).toInt = 0 := rfl; have : (4 : Int32).toInt = 4 := rfl; omega⟩⟩ d_X10_isCold_6
theorem d_X10_isWind_0 : decode c_X10_isWind 0 = .ok (.iload_n 0, 1) := by decide +kernel
theorem d_X10_isWind_1 : decode c_X10_isWind 1 = .ok (.iconst 0, 1) := by decide +kernel
theorem d_X10_isWind_2 : decode c_X10_isWind 2 = .ok (.bipush 9, 2) := by decide +kernel
theorem d_X10_isWind_4 : decode c_X10_isWind 4 = .ok (.invokestatic 74, 3) := by decide +kernel
theorem d_X10_isWind_7 : decode c_X10_isWind 7 = .ok (.ireturn, 1) := by decide +kernel
set_option maxHeartbeats 4000000 in
set_option maxRecDepth 100000 in
theorem ct_X10_isWind (l : Launch) (D : va_G) (dA : Nat → ClassId) (ad : Nat → Nat) (v : tV) (hI : Inv v) (x : Int32) : Met l m_X10_isWind [.code m_X10_isWind c_X10_isWind 1 (some .boolean)] ({ frames := 2, cells := 0, slots := 0, locals := 62 } : Room) (tP D dA ad v [.int x]) (tQi D dA ad (fun r v' => v' = v ∧ ((r = 1 ∧ 0 ≤ x.toInt ∧ x.toInt ≤ 9) ∨ (r = 0 ∧ ¬ (0 ≤ x.toInt ∧ x.toInt ≤ 9))))) 0 0 (tA ad) := by
  refine tMet (by decide) (Nat.le_of_ble_eq_true rfl) ?_
  intro p e s m below meth c ls X hr hlocks hw hl
  have X : CX p s m ([.int x] : List Value).toArray c c_X10_isWind N_X10 1 D dA := X
  have hx := X.1
  have hb := X.2.1
  have hS : va_S (tA ad) s.heap s.heap [] := va_S.rf
  have hl : lv_has ls 1 [(0, .int x)] := hl
  refine lv_iload_n hx hb d_X10_isWind_0 rfl (lv_at hl 0 rfl) ?_
  refine lv_iconst (v := 0) hx hb d_X10_isWind_1 (by decide) ?_
  refine lv_bipush (v := 9) hx hb d_X10_isWind_2 (by decide) ?_
  refine r_ci (r_runS (n := 3) (As := [.int x, .int 0, .int 9]) (rest := []) X hw (ct_X10_within l D dA ad v hI x 0 9) gc_X10_74 (by decide +kernel) ⟨rfl, rfl, Nat.le_of_ble_eq_true rfl, Nat.le_of_ble_eq_true rfl⟩ rfl hl.1 rfl (Nat.le_of_ble_eq_true rfl) ⟨Nat.zero_le _, Nat.zero_le _⟩ d_X10_isWind_4) hS (fun x2 v3 H locs hp1 hw hS => ?_)
  obtain ⟨ev3, hp1⟩ := hp1
  rw [ev3] at hw
  rcases hp1 with ⟨rfl, w4a, w4b⟩ | ⟨rfl, w4n⟩
  · skip
    have r5 : Rg x 0 9 := by obtain ⟨_, _⟩ := (rg_any x); have : (0 : Int32).toInt = 0 := rfl; have : (9 : Int32).toInt = 9 := rfl; exact ⟨by omega, by omega⟩
    exact r_zret X hr hlocks hw hS rfl ⟨rfl, Or.inl ⟨rfl, by have : (0 : Int32).toInt = 0 := rfl; have : (9 : Int32).toInt = 9 := rfl; omega, by have : (0 : Int32).toInt = 0 := rfl; have : (9 : Int32).toInt = 9 := rfl; omega⟩⟩ d_X10_isWind_7
  · skip
    exact r_zret X hr hlocks hw hS rfl ⟨rfl, Or.inr ⟨rfl, by have : (0 : Int32).toInt = 0 := rfl; have : (9 : Int32).toInt = 9 := rfl; omega⟩⟩ d_X10_isWind_7
theorem d_X7_fact_0 : decode c_X7_fact 0 = .ok (.iload_n 1, 1) := by decide +kernel
theorem d_X7_fact_1 : decode c_X7_fact 1 = .ok (.tableswitch 132 0 12 #[67, 72, 77, 82, 87, 92, 97, 102, 107, 112, 117, 122, 127], 67) := by decide +kernel
theorem d_X7_fact_68 : decode c_X7_fact 68 = .ok (.aload_n 0, 1) := by decide +kernel
theorem d_X7_fact_69 : decode c_X7_fact 69 = .ok (.getfield 9, 3) := by decide +kernel
theorem d_X7_fact_72 : decode c_X7_fact 72 = .ok (.ireturn, 1) := by decide +kernel
theorem d_X7_fact_73 : decode c_X7_fact 73 = .ok (.aload_n 0, 1) := by decide +kernel
theorem d_X7_fact_74 : decode c_X7_fact 74 = .ok (.getfield 15, 3) := by decide +kernel
theorem d_X7_fact_77 : decode c_X7_fact 77 = .ok (.ireturn, 1) := by decide +kernel
theorem d_X7_fact_78 : decode c_X7_fact 78 = .ok (.aload_n 0, 1) := by decide +kernel
theorem d_X7_fact_79 : decode c_X7_fact 79 = .ok (.getfield 18, 3) := by decide +kernel
theorem d_X7_fact_82 : decode c_X7_fact 82 = .ok (.ireturn, 1) := by decide +kernel
theorem d_X7_fact_83 : decode c_X7_fact 83 = .ok (.aload_n 0, 1) := by decide +kernel
theorem d_X7_fact_84 : decode c_X7_fact 84 = .ok (.getfield 21, 3) := by decide +kernel
theorem d_X7_fact_87 : decode c_X7_fact 87 = .ok (.ireturn, 1) := by decide +kernel
theorem d_X7_fact_88 : decode c_X7_fact 88 = .ok (.aload_n 0, 1) := by decide +kernel
theorem d_X7_fact_89 : decode c_X7_fact 89 = .ok (.getfield 24, 3) := by decide +kernel
theorem d_X7_fact_92 : decode c_X7_fact 92 = .ok (.ireturn, 1) := by decide +kernel
theorem d_X7_fact_93 : decode c_X7_fact 93 = .ok (.aload_n 0, 1) := by decide +kernel
theorem d_X7_fact_94 : decode c_X7_fact 94 = .ok (.getfield 27, 3) := by decide +kernel
theorem d_X7_fact_97 : decode c_X7_fact 97 = .ok (.ireturn, 1) := by decide +kernel
theorem d_X7_fact_98 : decode c_X7_fact 98 = .ok (.aload_n 0, 1) := by decide +kernel
theorem d_X7_fact_99 : decode c_X7_fact 99 = .ok (.getfield 30, 3) := by decide +kernel
theorem d_X7_fact_102 : decode c_X7_fact 102 = .ok (.ireturn, 1) := by decide +kernel
theorem d_X7_fact_103 : decode c_X7_fact 103 = .ok (.aload_n 0, 1) := by decide +kernel
theorem d_X7_fact_104 : decode c_X7_fact 104 = .ok (.getfield 33, 3) := by decide +kernel
theorem d_X7_fact_107 : decode c_X7_fact 107 = .ok (.ireturn, 1) := by decide +kernel
theorem d_X7_fact_108 : decode c_X7_fact 108 = .ok (.aload_n 0, 1) := by decide +kernel
theorem d_X7_fact_109 : decode c_X7_fact 109 = .ok (.getfield 36, 3) := by decide +kernel
theorem d_X7_fact_112 : decode c_X7_fact 112 = .ok (.ireturn, 1) := by decide +kernel
theorem d_X7_fact_113 : decode c_X7_fact 113 = .ok (.aload_n 0, 1) := by decide +kernel
theorem d_X7_fact_114 : decode c_X7_fact 114 = .ok (.getfield 39, 3) := by decide +kernel
theorem d_X7_fact_117 : decode c_X7_fact 117 = .ok (.ireturn, 1) := by decide +kernel
theorem d_X7_fact_118 : decode c_X7_fact 118 = .ok (.aload_n 0, 1) := by decide +kernel
theorem d_X7_fact_119 : decode c_X7_fact 119 = .ok (.getfield 42, 3) := by decide +kernel
theorem d_X7_fact_122 : decode c_X7_fact 122 = .ok (.ireturn, 1) := by decide +kernel
theorem d_X7_fact_123 : decode c_X7_fact 123 = .ok (.aload_n 0, 1) := by decide +kernel
theorem d_X7_fact_124 : decode c_X7_fact 124 = .ok (.getfield 45, 3) := by decide +kernel
theorem d_X7_fact_127 : decode c_X7_fact 127 = .ok (.ireturn, 1) := by decide +kernel
theorem d_X7_fact_128 : decode c_X7_fact 128 = .ok (.aload_n 0, 1) := by decide +kernel
theorem d_X7_fact_129 : decode c_X7_fact 129 = .ok (.getfield 48, 3) := by decide +kernel
theorem d_X7_fact_132 : decode c_X7_fact 132 = .ok (.ireturn, 1) := by decide +kernel
theorem d_X7_fact_133 : decode c_X7_fact 133 = .ok (.iconst (-1), 1) := by decide +kernel
theorem d_X7_fact_134 : decode c_X7_fact 134 = .ok (.ireturn, 1) := by decide +kernel
def f_X7_fact (v : tV) (k : Nat) (what : Int32) : Int32 := (if what.toInt < 0 ∨ 12 < what.toInt then (-1 : Int32) else (if what.toInt = 0 then bnd (v k 0) fun x2 => x2 else (if what.toInt = 1 then bnd (v k 1) fun x3 => x3 else (if what.toInt = 2 then bnd (v k 2) fun x4 => x4 else (if what.toInt = 3 then bnd (v k 3) fun x5 => x5 else (if what.toInt = 4 then bnd (v k 4) fun x6 => x6 else (if what.toInt = 5 then bnd (v k 5) fun x7 => x7 else (if what.toInt = 6 then bnd (v k 6) fun x8 => x8 else (if what.toInt = 7 then bnd (v k 7) fun x9 => x9 else (if what.toInt = 8 then bnd (v k 8) fun x10 => x10 else (if what.toInt = 9 then bnd (v k 9) fun x11 => x11 else (if what.toInt = 10 then bnd (v k 10) fun x12 => x12 else (if what.toInt = 11 then bnd (v k 11) fun x13 => x13 else bnd (v k 12) fun x14 => x14)))))))))))))
set_option maxHeartbeats 4000000 in
set_option maxRecDepth 100000 in
theorem ct_X7_fact (l : Launch) (D : va_G) (dA : Nat → ClassId) (ad : Nat → Nat) (v : tV) (hI : Inv v) (k : Nat) (what : Int32) (ka : 100 ≤ k) (kb : k < 160) : Met l m_X7_fact [.code m_X7_fact c_X7_fact 2 (some .int)] ({ frames := 1, cells := 0, slots := 0, locals := 40 } : Room) (tP D dA ad v [.ref (ad k), .int what]) (tQi D dA ad (fun r v' => (v' = v) ∧ r = f_X7_fact v k what)) 0 0 (tA ad) := by
  refine tMet (by decide) (Nat.le_of_ble_eq_true rfl) ?_
  intro p e s m below meth c ls X hr hlocks hw hl
  have X : CX p s m ([.ref (ad k), .int what] : List Value).toArray c c_X7_fact N_X7 2 D dA := X
  have hx := X.1
  have hb := X.2.1
  have hS : va_S (tA ad) s.heap s.heap [] := va_S.rf
  have hl : lv_has ls 2 [(0, .ref (ad k)), (1, .int what)] := hl
  obtain ⟨RR, eRR⟩ : ∃ z, f_X7_fact v k what = z := ⟨_, rfl⟩
  have hG := eRR
  unfold f_X7_fact at hG
  refine lv_iload_n hx hb d_X7_fact_0 rfl (lv_at hl 1 rfl) ?_
  by_cases c1 : what.toInt < 0 ∨ 12 < what.toInt
  · refine lv_tableOut (tgt := 133) hx hb d_X7_fact_1 c1 (by decide) ?_
    have hG := g_pos c1 hG
    refine lv_iconst (v := -1) hx hb d_X7_fact_133 (by decide) ?_
    exact r_iret X hr hlocks hw hS ⟨rfl, hG.trans eRR.symm⟩ d_X7_fact_134
  · have c1b : what.toInt = 0 ∨ what.toInt = 1 ∨ what.toInt = 2 ∨ what.toInt = 3 ∨ what.toInt = 4 ∨ what.toInt = 5 ∨ what.toInt = 6 ∨ what.toInt = 7 ∨ what.toInt = 8 ∨ what.toInt = 9 ∨ what.toInt = 10 ∨ what.toInt = 11 ∨ what.toInt = 12 := by omega
    have hG := g_neg c1 hG
    rcases c1b with c1e | c1e | c1e | c1e | c1e | c1e | c1e | c1e | c1e | c1e | c1e | c1e | c1e
    · refine lv_tableIn (off := 67) (tgt := 68) hx hb d_X7_fact_1 (by omega) (by omega) (by rw [c1e]; rfl) (by decide) ?_
      have hG := g_pos c1e hG
      refine lv_aload_n hx hb d_X7_fact_68 rfl (lv_at hl 0 rfl) ?_
      refine r_geti X hw FL_X7_9 (KD_ship (by omega) (by omega)) (SH_ship (by omega) (by omega)) d_X7_fact_69 ?_
      refine lv_topi (fun x2 ex2 => ?_)
      have hG := bnd_use ex2 hG
      exact r_iret X hr hlocks hw hS ⟨rfl, hG.trans eRR.symm⟩ d_X7_fact_72
    · refine lv_tableIn (off := 72) (tgt := 73) hx hb d_X7_fact_1 (by omega) (by omega) (by rw [c1e]; rfl) (by decide) ?_
      have hG := g_neg (by omega) hG
      have hG := g_pos c1e hG
      refine lv_aload_n hx hb d_X7_fact_73 rfl (lv_at hl 0 rfl) ?_
      refine r_geti X hw FL_X7_15 (KD_ship (by omega) (by omega)) (SH_ship (by omega) (by omega)) d_X7_fact_74 ?_
      refine lv_topi (fun x3 ex3 => ?_)
      have hG := bnd_use ex3 hG
      exact r_iret X hr hlocks hw hS ⟨rfl, hG.trans eRR.symm⟩ d_X7_fact_77
    · refine lv_tableIn (off := 77) (tgt := 78) hx hb d_X7_fact_1 (by omega) (by omega) (by rw [c1e]; rfl) (by decide) ?_
      have hG := g_neg (by omega) hG
      have hG := g_neg (by omega) hG
      have hG := g_pos c1e hG
      refine lv_aload_n hx hb d_X7_fact_78 rfl (lv_at hl 0 rfl) ?_
      refine r_geti X hw FL_X7_18 (KD_ship (by omega) (by omega)) (SH_ship (by omega) (by omega)) d_X7_fact_79 ?_
      refine lv_topi (fun x4 ex4 => ?_)
      have hG := bnd_use ex4 hG
      exact r_iret X hr hlocks hw hS ⟨rfl, hG.trans eRR.symm⟩ d_X7_fact_82
    · refine lv_tableIn (off := 82) (tgt := 83) hx hb d_X7_fact_1 (by omega) (by omega) (by rw [c1e]; rfl) (by decide) ?_
      have hG := g_neg (by omega) hG
      have hG := g_neg (by omega) hG
      have hG := g_neg (by omega) hG
      have hG := g_pos c1e hG
      refine lv_aload_n hx hb d_X7_fact_83 rfl (lv_at hl 0 rfl) ?_
      refine r_geti X hw FL_X7_21 (KD_ship (by omega) (by omega)) (SH_ship (by omega) (by omega)) d_X7_fact_84 ?_
      refine lv_topi (fun x5 ex5 => ?_)
      have hG := bnd_use ex5 hG
      exact r_iret X hr hlocks hw hS ⟨rfl, hG.trans eRR.symm⟩ d_X7_fact_87
    · refine lv_tableIn (off := 87) (tgt := 88) hx hb d_X7_fact_1 (by omega) (by omega) (by rw [c1e]; rfl) (by decide) ?_
      have hG := g_neg (by omega) hG
      have hG := g_neg (by omega) hG
      have hG := g_neg (by omega) hG
      have hG := g_neg (by omega) hG
      have hG := g_pos c1e hG
      refine lv_aload_n hx hb d_X7_fact_88 rfl (lv_at hl 0 rfl) ?_
      refine r_geti X hw FL_X7_24 (KD_ship (by omega) (by omega)) (SH_ship (by omega) (by omega)) d_X7_fact_89 ?_
      refine lv_topi (fun x6 ex6 => ?_)
      have hG := bnd_use ex6 hG
      exact r_iret X hr hlocks hw hS ⟨rfl, hG.trans eRR.symm⟩ d_X7_fact_92
    · refine lv_tableIn (off := 92) (tgt := 93) hx hb d_X7_fact_1 (by omega) (by omega) (by rw [c1e]; rfl) (by decide) ?_
      have hG := g_neg (by omega) hG
      have hG := g_neg (by omega) hG
      have hG := g_neg (by omega) hG
      have hG := g_neg (by omega) hG
      have hG := g_neg (by omega) hG
      have hG := g_pos c1e hG
      refine lv_aload_n hx hb d_X7_fact_93 rfl (lv_at hl 0 rfl) ?_
      refine r_geti X hw FL_X7_27 (KD_ship (by omega) (by omega)) (SH_ship (by omega) (by omega)) d_X7_fact_94 ?_
      refine lv_topi (fun x7 ex7 => ?_)
      have hG := bnd_use ex7 hG
      exact r_iret X hr hlocks hw hS ⟨rfl, hG.trans eRR.symm⟩ d_X7_fact_97
    · refine lv_tableIn (off := 97) (tgt := 98) hx hb d_X7_fact_1 (by omega) (by omega) (by rw [c1e]; rfl) (by decide) ?_
      have hG := g_neg (by omega) hG
      have hG := g_neg (by omega) hG
      have hG := g_neg (by omega) hG
      have hG := g_neg (by omega) hG
      have hG := g_neg (by omega) hG
      have hG := g_neg (by omega) hG
      have hG := g_pos c1e hG
      refine lv_aload_n hx hb d_X7_fact_98 rfl (lv_at hl 0 rfl) ?_
      refine r_geti X hw FL_X7_30 (KD_ship (by omega) (by omega)) (SH_ship (by omega) (by omega)) d_X7_fact_99 ?_
      refine lv_topi (fun x8 ex8 => ?_)
      have hG := bnd_use ex8 hG
      exact r_iret X hr hlocks hw hS ⟨rfl, hG.trans eRR.symm⟩ d_X7_fact_102
    · refine lv_tableIn (off := 102) (tgt := 103) hx hb d_X7_fact_1 (by omega) (by omega) (by rw [c1e]; rfl) (by decide) ?_
      have hG := g_neg (by omega) hG
      have hG := g_neg (by omega) hG
      have hG := g_neg (by omega) hG
      have hG := g_neg (by omega) hG
      have hG := g_neg (by omega) hG
      have hG := g_neg (by omega) hG
      have hG := g_neg (by omega) hG
      have hG := g_pos c1e hG
      refine lv_aload_n hx hb d_X7_fact_103 rfl (lv_at hl 0 rfl) ?_
      refine r_geti X hw FL_X7_33 (KD_ship (by omega) (by omega)) (SH_ship (by omega) (by omega)) d_X7_fact_104 ?_
      refine lv_topi (fun x9 ex9 => ?_)
      have hG := bnd_use ex9 hG
      exact r_iret X hr hlocks hw hS ⟨rfl, hG.trans eRR.symm⟩ d_X7_fact_107
    · refine lv_tableIn (off := 107) (tgt := 108) hx hb d_X7_fact_1 (by omega) (by omega) (by rw [c1e]; rfl) (by decide) ?_
      have hG := g_neg (by omega) hG
      have hG := g_neg (by omega) hG
      have hG := g_neg (by omega) hG
      have hG := g_neg (by omega) hG
      have hG := g_neg (by omega) hG
      have hG := g_neg (by omega) hG
      have hG := g_neg (by omega) hG
      have hG := g_neg (by omega) hG
      have hG := g_pos c1e hG
      refine lv_aload_n hx hb d_X7_fact_108 rfl (lv_at hl 0 rfl) ?_
      refine r_geti X hw FL_X7_36 (KD_ship (by omega) (by omega)) (SH_ship (by omega) (by omega)) d_X7_fact_109 ?_
      refine lv_topi (fun x10 ex10 => ?_)
      have hG := bnd_use ex10 hG
      exact r_iret X hr hlocks hw hS ⟨rfl, hG.trans eRR.symm⟩ d_X7_fact_112
    · refine lv_tableIn (off := 112) (tgt := 113) hx hb d_X7_fact_1 (by omega) (by omega) (by rw [c1e]; rfl) (by decide) ?_
      have hG := g_neg (by omega) hG
      have hG := g_neg (by omega) hG
      have hG := g_neg (by omega) hG
      have hG := g_neg (by omega) hG
      have hG := g_neg (by omega) hG
      have hG := g_neg (by omega) hG
      have hG := g_neg (by omega) hG
      have hG := g_neg (by omega) hG
      have hG := g_neg (by omega) hG
      have hG := g_pos c1e hG
      refine lv_aload_n hx hb d_X7_fact_113 rfl (lv_at hl 0 rfl) ?_
      refine r_geti X hw FL_X7_39 (KD_ship (by omega) (by omega)) (SH_ship (by omega) (by omega)) d_X7_fact_114 ?_
      refine lv_topi (fun x11 ex11 => ?_)
      have hG := bnd_use ex11 hG
      exact r_iret X hr hlocks hw hS ⟨rfl, hG.trans eRR.symm⟩ d_X7_fact_117
    · refine lv_tableIn (off := 117) (tgt := 118) hx hb d_X7_fact_1 (by omega) (by omega) (by rw [c1e]; rfl) (by decide) ?_
      have hG := g_neg (by omega) hG
      have hG := g_neg (by omega) hG
      have hG := g_neg (by omega) hG
      have hG := g_neg (by omega) hG
      have hG := g_neg (by omega) hG
      have hG := g_neg (by omega) hG
      have hG := g_neg (by omega) hG
      have hG := g_neg (by omega) hG
      have hG := g_neg (by omega) hG
      have hG := g_neg (by omega) hG
      have hG := g_pos c1e hG
      refine lv_aload_n hx hb d_X7_fact_118 rfl (lv_at hl 0 rfl) ?_
      refine r_geti X hw FL_X7_42 (KD_ship (by omega) (by omega)) (SH_ship (by omega) (by omega)) d_X7_fact_119 ?_
      refine lv_topi (fun x12 ex12 => ?_)
      have hG := bnd_use ex12 hG
      exact r_iret X hr hlocks hw hS ⟨rfl, hG.trans eRR.symm⟩ d_X7_fact_122
    · refine lv_tableIn (off := 122) (tgt := 123) hx hb d_X7_fact_1 (by omega) (by omega) (by rw [c1e]; rfl) (by decide) ?_
      have hG := g_neg (by omega) hG
      have hG := g_neg (by omega) hG
      have hG := g_neg (by omega) hG
      have hG := g_neg (by omega) hG
      have hG := g_neg (by omega) hG
      have hG := g_neg (by omega) hG
      have hG := g_neg (by omega) hG
      have hG := g_neg (by omega) hG
      have hG := g_neg (by omega) hG
      have hG := g_neg (by omega) hG
      have hG := g_neg (by omega) hG
      have hG := g_pos c1e hG
      refine lv_aload_n hx hb d_X7_fact_123 rfl (lv_at hl 0 rfl) ?_
      refine r_geti X hw FL_X7_45 (KD_ship (by omega) (by omega)) (SH_ship (by omega) (by omega)) d_X7_fact_124 ?_
      refine lv_topi (fun x13 ex13 => ?_)
      have hG := bnd_use ex13 hG
      exact r_iret X hr hlocks hw hS ⟨rfl, hG.trans eRR.symm⟩ d_X7_fact_127
    · refine lv_tableIn (off := 127) (tgt := 128) hx hb d_X7_fact_1 (by omega) (by omega) (by rw [c1e]; rfl) (by decide) ?_
      have hG := g_neg (by omega) hG
      have hG := g_neg (by omega) hG
      have hG := g_neg (by omega) hG
      have hG := g_neg (by omega) hG
      have hG := g_neg (by omega) hG
      have hG := g_neg (by omega) hG
      have hG := g_neg (by omega) hG
      have hG := g_neg (by omega) hG
      have hG := g_neg (by omega) hG
      have hG := g_neg (by omega) hG
      have hG := g_neg (by omega) hG
      have hG := g_neg (by omega) hG
      refine lv_aload_n hx hb d_X7_fact_128 rfl (lv_at hl 0 rfl) ?_
      refine r_geti X hw FL_X7_48 (KD_ship (by omega) (by omega)) (SH_ship (by omega) (by omega)) d_X7_fact_129 ?_
      refine lv_topi (fun x14 ex14 => ?_)
      have hG := bnd_use ex14 hG
      exact r_iret X hr hlocks hw hS ⟨rfl, hG.trans eRR.symm⟩ d_X7_fact_132
theorem d_X7_sail_0 : decode c_X7_sail 0 = .ok (.aload_n 0, 1) := by decide +kernel
theorem d_X7_sail_1 : decode c_X7_sail 1 = .ok (.getfield 33, 3) := by decide +kernel
theorem d_X7_sail_4 : decode c_X7_sail 4 = .ok (.ifCond .eq 4, 3) := by decide +kernel
theorem d_X7_sail_7 : decode c_X7_sail 7 = .ok (.return_, 1) := by decide +kernel
theorem d_X7_sail_8 : decode c_X7_sail 8 = .ok (.aload_n 0, 1) := by decide +kernel
theorem d_X7_sail_9 : decode c_X7_sail 9 = .ok (.iconst 0, 1) := by decide +kernel
theorem d_X7_sail_10 : decode c_X7_sail 10 = .ok (.aload_n 0, 1) := by decide +kernel
theorem d_X7_sail_11 : decode c_X7_sail 11 = .ok (.getfield 27, 3) := by decide +kernel
theorem d_X7_sail_14 : decode c_X7_sail 14 = .ok (.aload_n 0, 1) := by decide +kernel
theorem d_X7_sail_15 : decode c_X7_sail 15 = .ok (.getfield 9, 3) := by decide +kernel
theorem d_X7_sail_18 : decode c_X7_sail 18 = .ok (.iconst 1, 1) := by decide +kernel
theorem d_X7_sail_19 : decode c_X7_sail 19 = .ok (.if_icmp .ne 9, 3) := by decide +kernel
theorem d_X7_sail_22 : decode c_X7_sail 22 = .ok (.iconst 2, 1) := by decide +kernel
theorem d_X7_sail_23 : decode c_X7_sail 23 = .ok (.iload_n 1, 1) := by decide +kernel
theorem d_X7_sail_24 : decode c_X7_sail 24 = .ok (.imul, 1) := by decide +kernel
theorem d_X7_sail_25 : decode c_X7_sail 25 = .ok (.goto 4, 3) := by decide +kernel
theorem d_X7_sail_28 : decode c_X7_sail 28 = .ok (.iload_n 1, 1) := by decide +kernel
theorem d_X7_sail_29 : decode c_X7_sail 29 = .ok (.isub, 1) := by decide +kernel
theorem d_X7_sail_30 : decode c_X7_sail 30 = .ok (.invokestatic 51, 3) := by decide +kernel
theorem d_X7_sail_33 : decode c_X7_sail 33 = .ok (.putfield 27, 3) := by decide +kernel
theorem d_X7_sail_36 : decode c_X7_sail 36 = .ok (.aload_n 0, 1) := by decide +kernel
theorem d_X7_sail_37 : decode c_X7_sail 37 = .ok (.getfield 27, 3) := by decide +kernel
theorem d_X7_sail_40 : decode c_X7_sail 40 = .ok (.ifCond .le 4, 3) := by decide +kernel
theorem d_X7_sail_43 : decode c_X7_sail 43 = .ok (.return_, 1) := by decide +kernel
theorem d_X7_sail_44 : decode c_X7_sail 44 = .ok (.aload_n 0, 1) := by decide +kernel
theorem d_X7_sail_45 : decode c_X7_sail 45 = .ok (.iconst 1, 1) := by decide +kernel
theorem d_X7_sail_46 : decode c_X7_sail 46 = .ok (.putfield 33, 3) := by decide +kernel
theorem d_X7_sail_49 : decode c_X7_sail 49 = .ok (.aload_n 0, 1) := by decide +kernel
theorem d_X7_sail_50 : decode c_X7_sail 50 = .ok (.iload_n 2, 1) := by decide +kernel
theorem d_X7_sail_51 : decode c_X7_sail 51 = .ok (.putfield 36, 3) := by decide +kernel
theorem d_X7_sail_54 : decode c_X7_sail 54 = .ok (.aload_n 0, 1) := by decide +kernel
theorem d_X7_sail_55 : decode c_X7_sail 55 = .ok (.getfield 9, 3) := by decide +kernel
theorem d_X7_sail_58 : decode c_X7_sail 58 = .ok (.iconst 3, 1) := by decide +kernel
theorem d_X7_sail_59 : decode c_X7_sail 59 = .ok (.if_icmp .ne 18, 3) := by decide +kernel
theorem d_X7_sail_62 : decode c_X7_sail 62 = .ok (.aload_n 0, 1) := by decide +kernel
theorem d_X7_sail_63 : decode c_X7_sail 63 = .ok (.dup, 1) := by decide +kernel
theorem d_X7_sail_64 : decode c_X7_sail 64 = .ok (.getfield 48, 3) := by decide +kernel
theorem d_X7_sail_67 : decode c_X7_sail 67 = .ok (.iconst 3, 1) := by decide +kernel
theorem d_X7_sail_68 : decode c_X7_sail 68 = .ok (.aload_n 0, 1) := by decide +kernel
theorem d_X7_sail_69 : decode c_X7_sail 69 = .ok (.getfield 18, 3) := by decide +kernel
theorem d_X7_sail_72 : decode c_X7_sail 72 = .ok (.imul, 1) := by decide +kernel
theorem d_X7_sail_73 : decode c_X7_sail 73 = .ok (.iadd, 1) := by decide +kernel
theorem d_X7_sail_74 : decode c_X7_sail 74 = .ok (.putfield 48, 3) := by decide +kernel
theorem d_X7_sail_77 : decode c_X7_sail 77 = .ok (.return_, 1) := by decide +kernel
def kp_X7_sail (k : Nat) (wind : Int32) (today : Int32) (a j : Nat) : Prop := a ≠ k ∨ j ≤ 4
def f_X7_sail (v : tV) (k : Nat) (wind : Int32) (today : Int32) : tV := bnd (v k 7) fun x1 => (if x1 = (0 : Int32) then bnd (v k 5) fun x5 => bnd (v k 0) fun x6 => (if x6 = (1 : Int32) then bnd ((2 : Int32) * wind) fun x41 => bnd (x5 - x41) fun x42 => bnd (if (0 : Int32) < x42 then x42 else (0 : Int32)) fun x43 => bnd (up2 v k 5 x43) fun v45 => bnd (v45 k 5) fun x48 => (if x48 ≤ (0 : Int32) then bnd (up2 v45 k 7 1) fun v52 => bnd (up2 v52 k 8 today) fun v55 => bnd (v55 k 0) fun x58 => (if x58 = (3 : Int32) then bnd (v55 k 12) fun x63 => bnd (v55 k 2) fun x64 => bnd ((3 : Int32) * x64) fun x65 => bnd (x63 + x65) fun x66 => bnd (up2 v55 k 12 x66) fun v67 => v67 else v55) else v45) else bnd (x5 - wind) fun x9 => bnd (if (0 : Int32) < x9 then x9 else (0 : Int32)) fun x10 => bnd (up2 v k 5 x10) fun v12 => bnd (v12 k 5) fun x15 => (if x15 ≤ (0 : Int32) then bnd (up2 v12 k 7 1) fun v19 => bnd (up2 v19 k 8 today) fun v22 => bnd (v22 k 0) fun x25 => (if x25 = (3 : Int32) then bnd (v22 k 12) fun x30 => bnd (v22 k 2) fun x31 => bnd ((3 : Int32) * x31) fun x32 => bnd (x30 + x32) fun x33 => bnd (up2 v22 k 12 x33) fun v34 => v34 else v22) else v12)) else v)
set_option maxHeartbeats 4000000 in
set_option maxRecDepth 100000 in
theorem ct_X7_sail (l : Launch) (D : va_G) (dA : Nat → ClassId) (ad : Nat → Nat) (v : tV) (hI : Inv v) (k : Nat) (wind : Int32) (today : Int32) (ka : 100 ≤ k) (kb : k < 160) : Met l m_X7_sail [.code m_X7_sail c_X7_sail 3 none] ({ frames := 1, cells := 0, slots := 0, locals := 40 } : Room) (tP D dA ad v [.ref (ad k), .int wind, .int today]) (tQv D dA ad (fun v' => (Inv v' ∧ Kp (kp_X7_sail k wind today) v v') ∧ v' = f_X7_sail v k wind today)) 0 0 (tA ad) := by
  refine tMet (by decide) (Nat.le_of_ble_eq_true rfl) ?_
  intro p e s m below meth c ls X hr hlocks hw hl
  have X : CX p s m ([.ref (ad k), .int wind, .int today] : List Value).toArray c c_X7_sail N_X7 3 D dA := X
  have hx := X.1
  have hb := X.2.1
  have hS : va_S (tA ad) s.heap s.heap [] := va_S.rf
  have hl : lv_has ls 3 [(0, .ref (ad k)), (1, .int wind), (2, .int today)] := hl
  obtain ⟨RR, eRR⟩ : ∃ z, f_X7_sail v k wind today = z := ⟨_, rfl⟩
  have hK0 : Kp (kp_X7_sail k wind today) v v := Kp.rf _ v
  have hG := eRR
  unfold f_X7_sail at hG
  refine lv_aload_n hx hb d_X7_sail_0 rfl (lv_at hl 0 rfl) ?_
  refine r_geti X hw FL_X7_33 (KD_ship (by omega) (by omega)) (SH_ship (by omega) (by omega)) d_X7_sail_1 ?_
  refine lv_topi (fun x1 ex1 => ?_)
  have hG := bnd_use ex1 hG
  refine lv_if_eq (tgt := 8) hx hb d_X7_sail_4 (by decide) (fun c2 => ?_) (fun c2 => ?_)
  · have f3 := i_eq c2
    have r4 : Rg x1 0 0 := by obtain ⟨a1, a2⟩ := (rg_any x1); obtain ⟨b1, b2⟩ := (⟨by decide, by decide⟩ : Rg 0 0 0); have f := i_eq c2; exact ⟨by omega, by omega⟩
    have hG := g_pos c2 hG
    refine lv_aload_n hx hb d_X7_sail_8 rfl (lv_at hl 0 rfl) ?_
    refine lv_iconst (v := 0) hx hb d_X7_sail_9 (by decide) ?_
    refine lv_aload_n hx hb d_X7_sail_10 rfl (lv_at hl 0 rfl) ?_
    refine r_geti X hw FL_X7_27 (KD_ship (by omega) (by omega)) (SH_ship (by omega) (by omega)) d_X7_sail_11 ?_
    refine lv_topi (fun x5 ex5 => ?_)
    have hG := bnd_use ex5 hG
    refine lv_aload_n hx hb d_X7_sail_14 rfl (lv_at hl 0 rfl) ?_
    refine r_geti X hw FL_X7_9 (KD_ship (by omega) (by omega)) (SH_ship (by omega) (by omega)) d_X7_sail_15 ?_
    refine lv_topi (fun x6 ex6 => ?_)
    have hG := bnd_use ex6 hG
    refine lv_iconst (v := 1) hx hb d_X7_sail_18 (by decide) ?_
    refine lv_icmp_ne (tgt := 28) hx hb d_X7_sail_19 (by decide) (fun c7 => ?_) (fun c7 => ?_)
    · have f8 := i_ne c7
      have hG := g_neg c7 hG
      refine lv_iload_n hx hb d_X7_sail_28 rfl (lv_at hl 1 rfl) ?_
      refine lv_isub hx hb d_X7_sail_29 ?_
      refine lv_topi (fun x9 ex9 => ?_)
      have hG := bnd_use ex9 hG
      refine va_mmax hx hb (X.2.2.1.trans hl.1.symm) X.2.2.2.1 (X.2.2.2.2.1 _ ml_X7_51) (X.2.2.2.2.1 _ ml_maxs) (X.2.2.2.2.1 _ ml_mi) (X.2.2.2.2.1 _ ml_maxc) (Nat.le_of_ble_eq_true rfl) (Nat.le_of_ble_eq_true rfl) (Nat.zero_le _) (Nat.zero_le _) d_X7_sail_30 ?_
      refine lv_topi (fun x10 ex10 => ?_)
      have hG := bnd_use ex10 hG
      have r11 : Rg x10 0 2147483647 := by obtain ⟨a1, a2⟩ := (⟨by decide, by decide⟩ : Rg 0 0 0); obtain ⟨b1, b2⟩ := (rg_any x9); rw [ex10]; split <;> rename_i q <;> first | (have := i_lt q; exact ⟨by omega, by omega⟩) | (have := i_nlt q; exact ⟨by omega, by omega⟩)
      refine r_put X hw hS FP_X7_27 (KD_ship (by omega) (by omega)) (SH_ship (by omega) (by omega)) ⟨rfl, rfl⟩ d_X7_sail_33 (fun H locs hw hS => ?_)
      obtain ⟨v12, ev12⟩ : ∃ z, z = up2 v k 5 x10 := ⟨_, rfl⟩
      rw [← ev12] at hw
      have hG := bnd_use ev12 hG
      have hI13 : Inv v12 := by rw [ev12]; exact Inv.put0 hI _ (RG_ship (by omega) (by omega))
      have hK14 : Kp (kp_X7_sail k wind today) v v12 := by rw [ev12]; exact Kp.put hK0 _ (by unfold kp_X7_sail; omega)
      refine lv_aload_n hx hb d_X7_sail_36 rfl (lv_at hl 0 rfl) ?_
      refine r_geti X hw FL_X7_27 (KD_ship (by omega) (by omega)) (SH_ship (by omega) (by omega)) d_X7_sail_37 ?_
      refine lv_topi (fun x15 ex15 => ?_)
      have hG := bnd_use ex15 hG
      refine lv_if_le (tgt := 44) hx hb d_X7_sail_40 (by decide) (fun c16 => ?_) (fun c16 => ?_)
      · have f17 := i_le c16
        have r18 : Rg x15 (-2147483648) 0 := by obtain ⟨a1, a2⟩ := (rg_any x15); obtain ⟨b1, b2⟩ := (⟨by decide, by decide⟩ : Rg 0 0 0); have f := i_le c16; exact ⟨by omega, by omega⟩
        have hG := g_pos c16 hG
        refine lv_aload_n hx hb d_X7_sail_44 rfl (lv_at hl 0 rfl) ?_
        refine lv_iconst (v := 1) hx hb d_X7_sail_45 (by decide) ?_
        refine r_put X hw hS FP_X7_33 (KD_ship (by omega) (by omega)) (SH_ship (by omega) (by omega)) ⟨rfl, rfl⟩ d_X7_sail_46 (fun H locs hw hS => ?_)
        obtain ⟨v19, ev19⟩ : ∃ z, z = up2 v12 k 7 1 := ⟨_, rfl⟩
        rw [← ev19] at hw
        have hG := bnd_use ev19 hG
        have hI20 : Inv v19 := by rw [ev19]; exact Inv.put0 hI13 _ (RG_ship (by omega) (by omega))
        have hK21 : Kp (kp_X7_sail k wind today) v v19 := by rw [ev19]; exact Kp.put hK14 _ (by unfold kp_X7_sail; omega)
        refine lv_aload_n hx hb d_X7_sail_49 rfl (lv_at hl 0 rfl) ?_
        refine lv_iload_n hx hb d_X7_sail_50 rfl (lv_at hl 2 rfl) ?_
        refine r_put X hw hS FP_X7_36 (KD_ship (by omega) (by omega)) (SH_ship (by omega) (by omega)) ⟨rfl, rfl⟩ d_X7_sail_51 (fun H locs hw hS => ?_)
        obtain ⟨v22, ev22⟩ : ∃ z, z = up2 v19 k 8 today := ⟨_, rfl⟩
        rw [← ev22] at hw
        have hG := bnd_use ev22 hG
        have hI23 : Inv v22 := by rw [ev22]; exact Inv.put0 hI20 _ (RG_ship (by omega) (by omega))
        have hK24 : Kp (kp_X7_sail k wind today) v v22 := by rw [ev22]; exact Kp.put hK21 _ (by unfold kp_X7_sail; omega)
        refine lv_aload_n hx hb d_X7_sail_54 rfl (lv_at hl 0 rfl) ?_
        refine r_geti X hw FL_X7_9 (KD_ship (by omega) (by omega)) (SH_ship (by omega) (by omega)) d_X7_sail_55 ?_
        refine lv_topi (fun x25 ex25 => ?_)
        have hG := bnd_use ex25 hG
        refine lv_iconst (v := 3) hx hb d_X7_sail_58 (by decide) ?_
        refine lv_icmp_ne (tgt := 77) hx hb d_X7_sail_59 (by decide) (fun c26 => ?_) (fun c26 => ?_)
        · have f27 := i_ne c26
          have hG := g_neg c26 hG
          exact r_vret X hr hlocks hw hS ⟨⟨hI23, hK24⟩, hG.trans eRR.symm⟩ d_X7_sail_77
        · have f28 := i_eq c26
          have r29 : Rg x25 3 3 := by obtain ⟨a1, a2⟩ := (rg_any x25); obtain ⟨b1, b2⟩ := (⟨by decide, by decide⟩ : Rg 3 3 3); have f := i_eq c26; exact ⟨by omega, by omega⟩
          have hG := g_pos c26 hG
          refine lv_aload_n hx hb d_X7_sail_62 rfl (lv_at hl 0 rfl) ?_
          refine lv_dup hx hb d_X7_sail_63 rfl ?_
          refine r_geti X hw FL_X7_48 (KD_ship (by omega) (by omega)) (SH_ship (by omega) (by omega)) d_X7_sail_64 ?_
          refine lv_topi (fun x30 ex30 => ?_)
          have hG := bnd_use ex30 hG
          refine lv_iconst (v := 3) hx hb d_X7_sail_67 (by decide) ?_
          refine lv_aload_n hx hb d_X7_sail_68 rfl (lv_at hl 0 rfl) ?_
          refine r_geti X hw FL_X7_18 (KD_ship (by omega) (by omega)) (SH_ship (by omega) (by omega)) d_X7_sail_69 ?_
          refine lv_topi (fun x31 ex31 => ?_)
          have hG := bnd_use ex31 hG
          refine lv_imul hx hb d_X7_sail_72 ?_
          refine lv_topi (fun x32 ex32 => ?_)
          have hG := bnd_use ex32 hG
          refine lv_iadd hx hb d_X7_sail_73 ?_
          refine lv_topi (fun x33 ex33 => ?_)
          have hG := bnd_use ex33 hG
          refine r_put X hw hS FP_X7_48 (KD_ship (by omega) (by omega)) (SH_ship (by omega) (by omega)) ⟨rfl, rfl⟩ d_X7_sail_74 (fun H locs hw hS => ?_)
          obtain ⟨v34, ev34⟩ : ∃ z, z = up2 v22 k 12 x33 := ⟨_, rfl⟩
          rw [← ev34] at hw
          have hG := bnd_use ev34 hG
          have hI35 : Inv v34 := by rw [ev34]; exact Inv.put0 hI23 _ (RG_ship (by omega) (by omega))
          have hK36 : Kp (kp_X7_sail k wind today) v v34 := by rw [ev34]; exact Kp.put hK24 _ (by unfold kp_X7_sail; omega)
          exact r_vret X hr hlocks hw hS ⟨⟨hI35, hK36⟩, hG.trans eRR.symm⟩ d_X7_sail_77
      · have f37 := i_nle c16
        have r38 : Rg x15 1 2147483647 := by obtain ⟨a1, a2⟩ := (rg_any x15); obtain ⟨b1, b2⟩ := (⟨by decide, by decide⟩ : Rg 0 0 0); have f := i_nle c16; exact ⟨by omega, by omega⟩
        have hG := g_neg c16 hG
        exact r_vret X hr hlocks hw hS ⟨⟨hI13, hK14⟩, hG.trans eRR.symm⟩ d_X7_sail_43
    · have f39 := i_eq c7
      have r40 : Rg x6 1 1 := by obtain ⟨a1, a2⟩ := (rg_any x6); obtain ⟨b1, b2⟩ := (⟨by decide, by decide⟩ : Rg 1 1 1); have f := i_eq c7; exact ⟨by omega, by omega⟩
      have hG := g_pos c7 hG
      refine lv_iconst (v := 2) hx hb d_X7_sail_22 (by decide) ?_
      refine lv_iload_n hx hb d_X7_sail_23 rfl (lv_at hl 1 rfl) ?_
      refine lv_imul hx hb d_X7_sail_24 ?_
      refine lv_topi (fun x41 ex41 => ?_)
      have hG := bnd_use ex41 hG
      refine lv_goto (tgt := 29) hx hb d_X7_sail_25 (by decide) ?_
      refine lv_isub hx hb d_X7_sail_29 ?_
      refine lv_topi (fun x42 ex42 => ?_)
      have hG := bnd_use ex42 hG
      refine va_mmax hx hb (X.2.2.1.trans hl.1.symm) X.2.2.2.1 (X.2.2.2.2.1 _ ml_X7_51) (X.2.2.2.2.1 _ ml_maxs) (X.2.2.2.2.1 _ ml_mi) (X.2.2.2.2.1 _ ml_maxc) (Nat.le_of_ble_eq_true rfl) (Nat.le_of_ble_eq_true rfl) (Nat.zero_le _) (Nat.zero_le _) d_X7_sail_30 ?_
      refine lv_topi (fun x43 ex43 => ?_)
      have hG := bnd_use ex43 hG
      have r44 : Rg x43 0 2147483647 := by obtain ⟨a1, a2⟩ := (⟨by decide, by decide⟩ : Rg 0 0 0); obtain ⟨b1, b2⟩ := (rg_any x42); rw [ex43]; split <;> rename_i q <;> first | (have := i_lt q; exact ⟨by omega, by omega⟩) | (have := i_nlt q; exact ⟨by omega, by omega⟩)
      refine r_put X hw hS FP_X7_27 (KD_ship (by omega) (by omega)) (SH_ship (by omega) (by omega)) ⟨rfl, rfl⟩ d_X7_sail_33 (fun H locs hw hS => ?_)
      obtain ⟨v45, ev45⟩ : ∃ z, z = up2 v k 5 x43 := ⟨_, rfl⟩
      rw [← ev45] at hw
      have hG := bnd_use ev45 hG
      have hI46 : Inv v45 := by rw [ev45]; exact Inv.put0 hI _ (RG_ship (by omega) (by omega))
      have hK47 : Kp (kp_X7_sail k wind today) v v45 := by rw [ev45]; exact Kp.put hK0 _ (by unfold kp_X7_sail; omega)
      refine lv_aload_n hx hb d_X7_sail_36 rfl (lv_at hl 0 rfl) ?_
      refine r_geti X hw FL_X7_27 (KD_ship (by omega) (by omega)) (SH_ship (by omega) (by omega)) d_X7_sail_37 ?_
      refine lv_topi (fun x48 ex48 => ?_)
      have hG := bnd_use ex48 hG
      refine lv_if_le (tgt := 44) hx hb d_X7_sail_40 (by decide) (fun c49 => ?_) (fun c49 => ?_)
      · have f50 := i_le c49
        have r51 : Rg x48 (-2147483648) 0 := by obtain ⟨a1, a2⟩ := (rg_any x48); obtain ⟨b1, b2⟩ := (⟨by decide, by decide⟩ : Rg 0 0 0); have f := i_le c49; exact ⟨by omega, by omega⟩
        have hG := g_pos c49 hG
        refine lv_aload_n hx hb d_X7_sail_44 rfl (lv_at hl 0 rfl) ?_
        refine lv_iconst (v := 1) hx hb d_X7_sail_45 (by decide) ?_
        refine r_put X hw hS FP_X7_33 (KD_ship (by omega) (by omega)) (SH_ship (by omega) (by omega)) ⟨rfl, rfl⟩ d_X7_sail_46 (fun H locs hw hS => ?_)
        obtain ⟨v52, ev52⟩ : ∃ z, z = up2 v45 k 7 1 := ⟨_, rfl⟩
        rw [← ev52] at hw
        have hG := bnd_use ev52 hG
        have hI53 : Inv v52 := by rw [ev52]; exact Inv.put0 hI46 _ (RG_ship (by omega) (by omega))
        have hK54 : Kp (kp_X7_sail k wind today) v v52 := by rw [ev52]; exact Kp.put hK47 _ (by unfold kp_X7_sail; omega)
        refine lv_aload_n hx hb d_X7_sail_49 rfl (lv_at hl 0 rfl) ?_
        refine lv_iload_n hx hb d_X7_sail_50 rfl (lv_at hl 2 rfl) ?_
        refine r_put X hw hS FP_X7_36 (KD_ship (by omega) (by omega)) (SH_ship (by omega) (by omega)) ⟨rfl, rfl⟩ d_X7_sail_51 (fun H locs hw hS => ?_)
        obtain ⟨v55, ev55⟩ : ∃ z, z = up2 v52 k 8 today := ⟨_, rfl⟩
        rw [← ev55] at hw
        have hG := bnd_use ev55 hG
        have hI56 : Inv v55 := by rw [ev55]; exact Inv.put0 hI53 _ (RG_ship (by omega) (by omega))
        have hK57 : Kp (kp_X7_sail k wind today) v v55 := by rw [ev55]; exact Kp.put hK54 _ (by unfold kp_X7_sail; omega)
        refine lv_aload_n hx hb d_X7_sail_54 rfl (lv_at hl 0 rfl) ?_
        refine r_geti X hw FL_X7_9 (KD_ship (by omega) (by omega)) (SH_ship (by omega) (by omega)) d_X7_sail_55 ?_
        refine lv_topi (fun x58 ex58 => ?_)
        have hG := bnd_use ex58 hG
        refine lv_iconst (v := 3) hx hb d_X7_sail_58 (by decide) ?_
        refine lv_icmp_ne (tgt := 77) hx hb d_X7_sail_59 (by decide) (fun c59 => ?_) (fun c59 => ?_)
        · have f60 := i_ne c59
          have hG := g_neg c59 hG
          exact r_vret X hr hlocks hw hS ⟨⟨hI56, hK57⟩, hG.trans eRR.symm⟩ d_X7_sail_77
        · have f61 := i_eq c59
          have r62 : Rg x58 3 3 := by obtain ⟨a1, a2⟩ := (rg_any x58); obtain ⟨b1, b2⟩ := (⟨by decide, by decide⟩ : Rg 3 3 3); have f := i_eq c59; exact ⟨by omega, by omega⟩
          have hG := g_pos c59 hG
          refine lv_aload_n hx hb d_X7_sail_62 rfl (lv_at hl 0 rfl) ?_
          refine lv_dup hx hb d_X7_sail_63 rfl ?_
          refine r_geti X hw FL_X7_48 (KD_ship (by omega) (by omega)) (SH_ship (by omega) (by omega)) d_X7_sail_64 ?_
          refine lv_topi (fun x63 ex63 => ?_)
          have hG := bnd_use ex63 hG
          refine lv_iconst (v := 3) hx hb d_X7_sail_67 (by decide) ?_
          refine lv_aload_n hx hb d_X7_sail_68 rfl (lv_at hl 0 rfl) ?_
          refine r_geti X hw FL_X7_18 (KD_ship (by omega) (by omega)) (SH_ship (by omega) (by omega)) d_X7_sail_69 ?_
          refine lv_topi (fun x64 ex64 => ?_)
          have hG := bnd_use ex64 hG
          refine lv_imul hx hb d_X7_sail_72 ?_
          refine lv_topi (fun x65 ex65 => ?_)
          have hG := bnd_use ex65 hG
          refine lv_iadd hx hb d_X7_sail_73 ?_
          refine lv_topi (fun x66 ex66 => ?_)
          have hG := bnd_use ex66 hG
          refine r_put X hw hS FP_X7_48 (KD_ship (by omega) (by omega)) (SH_ship (by omega) (by omega)) ⟨rfl, rfl⟩ d_X7_sail_74 (fun H locs hw hS => ?_)
          obtain ⟨v67, ev67⟩ : ∃ z, z = up2 v55 k 12 x66 := ⟨_, rfl⟩
          rw [← ev67] at hw
          have hG := bnd_use ev67 hG
          have hI68 : Inv v67 := by rw [ev67]; exact Inv.put0 hI56 _ (RG_ship (by omega) (by omega))
          have hK69 : Kp (kp_X7_sail k wind today) v v67 := by rw [ev67]; exact Kp.put hK57 _ (by unfold kp_X7_sail; omega)
          exact r_vret X hr hlocks hw hS ⟨⟨hI68, hK69⟩, hG.trans eRR.symm⟩ d_X7_sail_77
      · have f70 := i_nle c49
        have r71 : Rg x48 1 2147483647 := by obtain ⟨a1, a2⟩ := (rg_any x48); obtain ⟨b1, b2⟩ := (⟨by decide, by decide⟩ : Rg 0 0 0); have f := i_nle c49; exact ⟨by omega, by omega⟩
        have hG := g_neg c49 hG
        exact r_vret X hr hlocks hw hS ⟨⟨hI46, hK47⟩, hG.trans eRR.symm⟩ d_X7_sail_43
  · have f72 := i_ne c2
    have hG := g_neg c2 hG
    exact r_vret X hr hlocks hw hS ⟨⟨hI, hK0⟩, hG.trans eRR.symm⟩ d_X7_sail_7
theorem d_X7_duesFor_0 : decode c_X7_duesFor 0 = .ok (.aload_n 0, 1) := by decide +kernel
theorem d_X7_duesFor_1 : decode c_X7_duesFor 1 = .ok (.getfield 9, 3) := by decide +kernel
theorem d_X7_duesFor_4 : decode c_X7_duesFor 4 = .ok (.iconst 2, 1) := by decide +kernel
theorem d_X7_duesFor_5 : decode c_X7_duesFor 5 = .ok (.if_icmp .ne 7, 3) := by decide +kernel
theorem d_X7_duesFor_8 : decode c_X7_duesFor 8 = .ok (.iload_n 1, 1) := by decide +kernel
theorem d_X7_duesFor_9 : decode c_X7_duesFor 9 = .ok (.goto 6, 3) := by decide +kernel
theorem d_X7_duesFor_12 : decode c_X7_duesFor 12 = .ok (.iconst 2, 1) := by decide +kernel
theorem d_X7_duesFor_13 : decode c_X7_duesFor 13 = .ok (.iload_n 1, 1) := by decide +kernel
theorem d_X7_duesFor_14 : decode c_X7_duesFor 14 = .ok (.imul, 1) := by decide +kernel
theorem d_X7_duesFor_15 : decode c_X7_duesFor 15 = .ok (.ireturn, 1) := by decide +kernel
def f_X7_duesFor (v : tV) (k : Nat) (ms : Int32) : Int32 := bnd (v k 0) fun x1 => (if x1 = (2 : Int32) then ms else bnd ((2 : Int32) * ms) fun x4 => x4)
set_option maxHeartbeats 4000000 in
set_option maxRecDepth 100000 in
theorem ct_X7_duesFor (l : Launch) (D : va_G) (dA : Nat → ClassId) (ad : Nat → Nat) (v : tV) (hI : Inv v) (k : Nat) (ms : Int32) (ka : 100 ≤ k) (kb : k < 160) : Met l m_X7_duesFor [.code m_X7_duesFor c_X7_duesFor 2 (some .int)] ({ frames := 1, cells := 0, slots := 0, locals := 40 } : Room) (tP D dA ad v [.ref (ad k), .int ms]) (tQi D dA ad (fun r v' => (v' = v) ∧ r = f_X7_duesFor v k ms)) 0 0 (tA ad) := by
  refine tMet (by decide) (Nat.le_of_ble_eq_true rfl) ?_
  intro p e s m below meth c ls X hr hlocks hw hl
  have X : CX p s m ([.ref (ad k), .int ms] : List Value).toArray c c_X7_duesFor N_X7 2 D dA := X
  have hx := X.1
  have hb := X.2.1
  have hS : va_S (tA ad) s.heap s.heap [] := va_S.rf
  have hl : lv_has ls 2 [(0, .ref (ad k)), (1, .int ms)] := hl
  obtain ⟨RR, eRR⟩ : ∃ z, f_X7_duesFor v k ms = z := ⟨_, rfl⟩
  have hG := eRR
  unfold f_X7_duesFor at hG
  refine lv_aload_n hx hb d_X7_duesFor_0 rfl (lv_at hl 0 rfl) ?_
  refine r_geti X hw FL_X7_9 (KD_ship (by omega) (by omega)) (SH_ship (by omega) (by omega)) d_X7_duesFor_1 ?_
  refine lv_topi (fun x1 ex1 => ?_)
  have hG := bnd_use ex1 hG
  refine lv_iconst (v := 2) hx hb d_X7_duesFor_4 (by decide) ?_
  refine lv_icmp_ne (tgt := 12) hx hb d_X7_duesFor_5 (by decide) (fun c2 => ?_) (fun c2 => ?_)
  · have f3 := i_ne c2
    have hG := g_neg c2 hG
    refine lv_iconst (v := 2) hx hb d_X7_duesFor_12 (by decide) ?_
    refine lv_iload_n hx hb d_X7_duesFor_13 rfl (lv_at hl 1 rfl) ?_
    refine lv_imul hx hb d_X7_duesFor_14 ?_
    refine lv_topi (fun x4 ex4 => ?_)
    have hG := bnd_use ex4 hG
    exact r_iret X hr hlocks hw hS ⟨rfl, hG.trans eRR.symm⟩ d_X7_duesFor_15
  · have f5 := i_eq c2
    have r6 : Rg x1 2 2 := by obtain ⟨a1, a2⟩ := (rg_any x1); obtain ⟨b1, b2⟩ := (⟨by decide, by decide⟩ : Rg 2 2 2); have f := i_eq c2; exact ⟨by omega, by omega⟩
    have hG := g_pos c2 hG
    refine lv_iload_n hx hb d_X7_duesFor_8 rfl (lv_at hl 1 rfl) ?_
    refine lv_goto (tgt := 15) hx hb d_X7_duesFor_9 (by decide) ?_
    exact r_iret X hr hlocks hw hS ⟨rfl, hG.trans eRR.symm⟩ d_X7_duesFor_15
theorem d_X7_founder_0 : decode c_X7_founder 0 = .ok (.aload_n 0, 1) := by decide +kernel
theorem d_X7_founder_1 : decode c_X7_founder 1 = .ok (.iload_n 1, 1) := by decide +kernel
theorem d_X7_founder_2 : decode c_X7_founder 2 = .ok (.invokevirtual 57, 3) := by decide +kernel
theorem d_X7_founder_5 : decode c_X7_founder 5 = .ok (.istore_n 2, 1) := by decide +kernel
theorem d_X7_founder_6 : decode c_X7_founder 6 = .ok (.aload_n 0, 1) := by decide +kernel
theorem d_X7_founder_7 : decode c_X7_founder 7 = .ok (.dup, 1) := by decide +kernel
theorem d_X7_founder_8 : decode c_X7_founder 8 = .ok (.getfield 30, 3) := by decide +kernel
theorem d_X7_founder_11 : decode c_X7_founder 11 = .ok (.iload_n 1, 1) := by decide +kernel
theorem d_X7_founder_12 : decode c_X7_founder 12 = .ok (.isub, 1) := by decide +kernel
theorem d_X7_founder_13 : decode c_X7_founder 13 = .ok (.putfield 30, 3) := by decide +kernel
theorem d_X7_founder_16 : decode c_X7_founder 16 = .ok (.aload_n 0, 1) := by decide +kernel
theorem d_X7_founder_17 : decode c_X7_founder 17 = .ok (.dup, 1) := by decide +kernel
theorem d_X7_founder_18 : decode c_X7_founder 18 = .ok (.getfield 48, 3) := by decide +kernel
theorem d_X7_founder_21 : decode c_X7_founder 21 = .ok (.iload_n 2, 1) := by decide +kernel
theorem d_X7_founder_22 : decode c_X7_founder 22 = .ok (.iadd, 1) := by decide +kernel
theorem d_X7_founder_23 : decode c_X7_founder 23 = .ok (.putfield 48, 3) := by decide +kernel
theorem d_X7_founder_26 : decode c_X7_founder 26 = .ok (.aload_n 0, 1) := by decide +kernel
theorem d_X7_founder_27 : decode c_X7_founder 27 = .ok (.iconst 5, 1) := by decide +kernel
theorem d_X7_founder_28 : decode c_X7_founder 28 = .ok (.putfield 33, 3) := by decide +kernel
theorem d_X7_founder_31 : decode c_X7_founder 31 = .ok (.iload_n 2, 1) := by decide +kernel
theorem d_X7_founder_32 : decode c_X7_founder 32 = .ok (.ireturn, 1) := by decide +kernel
def kp_X7_founder (k : Nat) (saved : Int32) (a j : Nat) : Prop := a ≠ k ∨ j ≤ 4
def f_X7_founder (v : tV) (k : Nat) (saved : Int32) : Int32 × tV := bnd (f_X7_duesFor v k saved) fun x2 => bnd (v k 6) fun x5 => bnd (x5 - saved) fun x6 => bnd (up2 v k 6 x6) fun v7 => bnd (v7 k 12) fun x10 => bnd (x10 + x2) fun x11 => bnd (up2 v7 k 12 x11) fun v12 => bnd (up2 v12 k 7 5) fun v15 => (x2, v15)
set_option maxHeartbeats 4000000 in
set_option maxRecDepth 100000 in
theorem ct_X7_founder (l : Launch) (D : va_G) (dA : Nat → ClassId) (ad : Nat → Nat) (v : tV) (hI : Inv v) (k : Nat) (saved : Int32) (ka : 100 ≤ k) (kb : k < 160) : Met l m_X7_founder [.code m_X7_founder c_X7_founder 3 (some .int)] ({ frames := 2, cells := 0, slots := 0, locals := 61 } : Room) (tP D dA ad v [.ref (ad k), .int saved]) (tQi D dA ad (fun r v' => (Inv v' ∧ Kp (kp_X7_founder k saved) v v') ∧ (r, v') = f_X7_founder v k saved)) 0 0 (tA ad) := by
  refine tMet (by decide) (Nat.le_of_ble_eq_true rfl) ?_
  intro p e s m below meth c ls X hr hlocks hw hl
  have X : CX p s m ([.ref (ad k), .int saved] : List Value).toArray c c_X7_founder N_X7 3 D dA := X
  have hx := X.1
  have hb := X.2.1
  have hS : va_S (tA ad) s.heap s.heap [] := va_S.rf
  have hl : lv_has ls 3 [(0, .ref (ad k)), (1, .int saved)] := hl
  obtain ⟨RR, eRR⟩ : ∃ z, f_X7_founder v k saved = z := ⟨_, rfl⟩
  have hK0 : Kp (kp_X7_founder k saved) v v := Kp.rf _ v
  have hG := eRR
  unfold f_X7_founder at hG
  refine lv_aload_n hx hb d_X7_founder_0 rfl (lv_at hl 0 rfl) ?_
  refine lv_iload_n hx hb d_X7_founder_1 rfl (lv_at hl 1 rfl) ?_
  refine r_ci (r_runV (n := 1) (As := [.int saved]) (rest := []) X hw (ct_X7_duesFor l D dA ad v hI k saved (by omega) (by omega)) gc_X7_57 (KD_ship (by omega) (by omega)) (by decide) rfl (by decide +kernel) ⟨rfl, rfl, Nat.le_of_ble_eq_true rfl, Nat.le_of_ble_eq_true rfl⟩ rfl hl.1 rfl (Nat.le_of_ble_eq_true rfl) ⟨Nat.zero_le _, Nat.zero_le _⟩ d_X7_founder_2) hS (fun x2 v3 H locs hp1 hw hS => ?_)
  obtain ⟨hp1, hE4⟩ := hp1
  rw [hp1] at hw
  have hG := bnd_use hE4 hG
  refine lv_istore_n (lv' := [(2, .int x2), (0, .ref (ad k)), (1, .int saved)]) hx hb d_X7_founder_5 rfl hl (by decide) rfl (fun ls hl => ?_)
  refine lv_aload_n hx hb d_X7_founder_6 rfl (lv_at hl 1 rfl) ?_
  refine lv_dup hx hb d_X7_founder_7 rfl ?_
  refine r_geti X hw FL_X7_30 (KD_ship (by omega) (by omega)) (SH_ship (by omega) (by omega)) d_X7_founder_8 ?_
  refine lv_topi (fun x5 ex5 => ?_)
  have hG := bnd_use ex5 hG
  refine lv_iload_n hx hb d_X7_founder_11 rfl (lv_at hl 2 rfl) ?_
  refine lv_isub hx hb d_X7_founder_12 ?_
  refine lv_topi (fun x6 ex6 => ?_)
  have hG := bnd_use ex6 hG
  refine r_put X hw hS FP_X7_30 (KD_ship (by omega) (by omega)) (SH_ship (by omega) (by omega)) ⟨rfl, rfl⟩ d_X7_founder_13 (fun H locs hw hS => ?_)
  obtain ⟨v7, ev7⟩ : ∃ z, z = up2 v k 6 x6 := ⟨_, rfl⟩
  rw [← ev7] at hw
  have hG := bnd_use ev7 hG
  have hI8 : Inv v7 := by rw [ev7]; exact Inv.put0 hI _ (RG_ship (by omega) (by omega))
  have hK9 : Kp (kp_X7_founder k saved) v v7 := by rw [ev7]; exact Kp.put hK0 _ (by unfold kp_X7_founder; omega)
  refine lv_aload_n hx hb d_X7_founder_16 rfl (lv_at hl 1 rfl) ?_
  refine lv_dup hx hb d_X7_founder_17 rfl ?_
  refine r_geti X hw FL_X7_48 (KD_ship (by omega) (by omega)) (SH_ship (by omega) (by omega)) d_X7_founder_18 ?_
  refine lv_topi (fun x10 ex10 => ?_)
  have hG := bnd_use ex10 hG
  refine lv_iload_n hx hb d_X7_founder_21 rfl (lv_at hl 0 rfl) ?_
  refine lv_iadd hx hb d_X7_founder_22 ?_
  refine lv_topi (fun x11 ex11 => ?_)
  have hG := bnd_use ex11 hG
  refine r_put X hw hS FP_X7_48 (KD_ship (by omega) (by omega)) (SH_ship (by omega) (by omega)) ⟨rfl, rfl⟩ d_X7_founder_23 (fun H locs hw hS => ?_)
  obtain ⟨v12, ev12⟩ : ∃ z, z = up2 v7 k 12 x11 := ⟨_, rfl⟩
  rw [← ev12] at hw
  have hG := bnd_use ev12 hG
  have hI13 : Inv v12 := by rw [ev12]; exact Inv.put0 hI8 _ (RG_ship (by omega) (by omega))
  have hK14 : Kp (kp_X7_founder k saved) v v12 := by rw [ev12]; exact Kp.put hK9 _ (by unfold kp_X7_founder; omega)
  refine lv_aload_n hx hb d_X7_founder_26 rfl (lv_at hl 1 rfl) ?_
  refine lv_iconst (v := 5) hx hb d_X7_founder_27 (by decide) ?_
  refine r_put X hw hS FP_X7_33 (KD_ship (by omega) (by omega)) (SH_ship (by omega) (by omega)) ⟨rfl, rfl⟩ d_X7_founder_28 (fun H locs hw hS => ?_)
  obtain ⟨v15, ev15⟩ : ∃ z, z = up2 v12 k 7 5 := ⟨_, rfl⟩
  rw [← ev15] at hw
  have hG := bnd_use ev15 hG
  have hI16 : Inv v15 := by rw [ev15]; exact Inv.put0 hI13 _ (RG_ship (by omega) (by omega))
  have hK17 : Kp (kp_X7_founder k saved) v v15 := by rw [ev15]; exact Kp.put hK14 _ (by unfold kp_X7_founder; omega)
  refine lv_iload_n hx hb d_X7_founder_31 rfl (lv_at hl 0 rfl) ?_
  exact r_iret X hr hlocks hw hS ⟨⟨hI16, hK17⟩, hG.trans eRR.symm⟩ d_X7_founder_32
theorem d_X7_leave_0 : decode c_X7_leave 0 = .ok (.iconst 2, 1) := by decide +kernel
theorem d_X7_leave_1 : decode c_X7_leave 1 = .ok (.aload_n 0, 1) := by decide +kernel
theorem d_X7_leave_2 : decode c_X7_leave 2 = .ok (.getfield 18, 3) := by decide +kernel
theorem d_X7_leave_5 : decode c_X7_leave 5 = .ok (.imul, 1) := by decide +kernel
theorem d_X7_leave_6 : decode c_X7_leave 6 = .ok (.istore_n 1, 1) := by decide +kernel
theorem d_X7_leave_7 : decode c_X7_leave 7 = .ok (.aload_n 0, 1) := by decide +kernel
theorem d_X7_leave_8 : decode c_X7_leave 8 = .ok (.dup, 1) := by decide +kernel
theorem d_X7_leave_9 : decode c_X7_leave 9 = .ok (.getfield 48, 3) := by decide +kernel
theorem d_X7_leave_12 : decode c_X7_leave 12 = .ok (.iload_n 1, 1) := by decide +kernel
theorem d_X7_leave_13 : decode c_X7_leave 13 = .ok (.isub, 1) := by decide +kernel
theorem d_X7_leave_14 : decode c_X7_leave 14 = .ok (.putfield 48, 3) := by decide +kernel
theorem d_X7_leave_17 : decode c_X7_leave 17 = .ok (.aload_n 0, 1) := by decide +kernel
theorem d_X7_leave_18 : decode c_X7_leave 18 = .ok (.iconst 4, 1) := by decide +kernel
theorem d_X7_leave_19 : decode c_X7_leave 19 = .ok (.putfield 33, 3) := by decide +kernel
theorem d_X7_leave_22 : decode c_X7_leave 22 = .ok (.iload_n 1, 1) := by decide +kernel
theorem d_X7_leave_23 : decode c_X7_leave 23 = .ok (.ireturn, 1) := by decide +kernel
def kp_X7_leave (k : Nat) (a j : Nat) : Prop := a ≠ k ∨ j ≤ 4
def f_X7_leave (v : tV) (k : Nat) : Int32 × tV := bnd (v k 2) fun x1 => bnd ((2 : Int32) * x1) fun x2 => bnd (v k 12) fun x3 => bnd (x3 - x2) fun x4 => bnd (up2 v k 12 x4) fun v5 => bnd (up2 v5 k 7 4) fun v8 => (x2, v8)
set_option maxHeartbeats 4000000 in
set_option maxRecDepth 100000 in
theorem ct_X7_leave (l : Launch) (D : va_G) (dA : Nat → ClassId) (ad : Nat → Nat) (v : tV) (hI : Inv v) (k : Nat) (ka : 100 ≤ k) (kb : k < 160) : Met l m_X7_leave [.code m_X7_leave c_X7_leave 2 (some .int)] ({ frames := 1, cells := 0, slots := 0, locals := 40 } : Room) (tP D dA ad v [.ref (ad k)]) (tQi D dA ad (fun r v' => (Inv v' ∧ Kp (kp_X7_leave k) v v') ∧ (r, v') = f_X7_leave v k)) 0 0 (tA ad) := by
  refine tMet (by decide) (Nat.le_of_ble_eq_true rfl) ?_
  intro p e s m below meth c ls X hr hlocks hw hl
  have X : CX p s m ([.ref (ad k)] : List Value).toArray c c_X7_leave N_X7 2 D dA := X
  have hx := X.1
  have hb := X.2.1
  have hS : va_S (tA ad) s.heap s.heap [] := va_S.rf
  have hl : lv_has ls 2 [(0, .ref (ad k))] := hl
  obtain ⟨RR, eRR⟩ : ∃ z, f_X7_leave v k = z := ⟨_, rfl⟩
  have hK0 : Kp (kp_X7_leave k) v v := Kp.rf _ v
  have hG := eRR
  unfold f_X7_leave at hG
  refine lv_iconst (v := 2) hx hb d_X7_leave_0 (by decide) ?_
  refine lv_aload_n hx hb d_X7_leave_1 rfl (lv_at hl 0 rfl) ?_
  refine r_geti X hw FL_X7_18 (KD_ship (by omega) (by omega)) (SH_ship (by omega) (by omega)) d_X7_leave_2 ?_
  refine lv_topi (fun x1 ex1 => ?_)
  have hG := bnd_use ex1 hG
  refine lv_imul hx hb d_X7_leave_5 ?_
  refine lv_topi (fun x2 ex2 => ?_)
  have hG := bnd_use ex2 hG
  refine lv_istore_n (lv' := [(1, .int x2), (0, .ref (ad k))]) hx hb d_X7_leave_6 rfl hl (by decide) rfl (fun ls hl => ?_)
  refine lv_aload_n hx hb d_X7_leave_7 rfl (lv_at hl 1 rfl) ?_
  refine lv_dup hx hb d_X7_leave_8 rfl ?_
  refine r_geti X hw FL_X7_48 (KD_ship (by omega) (by omega)) (SH_ship (by omega) (by omega)) d_X7_leave_9 ?_
  refine lv_topi (fun x3 ex3 => ?_)
  have hG := bnd_use ex3 hG
  refine lv_iload_n hx hb d_X7_leave_12 rfl (lv_at hl 0 rfl) ?_
  refine lv_isub hx hb d_X7_leave_13 ?_
  refine lv_topi (fun x4 ex4 => ?_)
  have hG := bnd_use ex4 hG
  refine r_put X hw hS FP_X7_48 (KD_ship (by omega) (by omega)) (SH_ship (by omega) (by omega)) ⟨rfl, rfl⟩ d_X7_leave_14 (fun H locs hw hS => ?_)
  obtain ⟨v5, ev5⟩ : ∃ z, z = up2 v k 12 x4 := ⟨_, rfl⟩
  rw [← ev5] at hw
  have hG := bnd_use ev5 hG
  have hI6 : Inv v5 := by rw [ev5]; exact Inv.put0 hI _ (RG_ship (by omega) (by omega))
  have hK7 : Kp (kp_X7_leave k) v v5 := by rw [ev5]; exact Kp.put hK0 _ (by unfold kp_X7_leave; omega)
  refine lv_aload_n hx hb d_X7_leave_17 rfl (lv_at hl 1 rfl) ?_
  refine lv_iconst (v := 4) hx hb d_X7_leave_18 (by decide) ?_
  refine r_put X hw hS FP_X7_33 (KD_ship (by omega) (by omega)) (SH_ship (by omega) (by omega)) ⟨rfl, rfl⟩ d_X7_leave_19 (fun H locs hw hS => ?_)
  obtain ⟨v8, ev8⟩ : ∃ z, z = up2 v5 k 7 4 := ⟨_, rfl⟩
  rw [← ev8] at hw
  have hG := bnd_use ev8 hG
  have hI9 : Inv v8 := by rw [ev8]; exact Inv.put0 hI6 _ (RG_ship (by omega) (by omega))
  have hK10 : Kp (kp_X7_leave k) v v8 := by rw [ev8]; exact Kp.put hK7 _ (by unfold kp_X7_leave; omega)
  refine lv_iload_n hx hb d_X7_leave_22 rfl (lv_at hl 0 rfl) ?_
  exact r_iret X hr hlocks hw hS ⟨⟨hI9, hK10⟩, hG.trans eRR.symm⟩ d_X7_leave_23
theorem d_X7_deliver_0 : decode c_X7_deliver 0 = .ok (.aload_n 0, 1) := by decide +kernel
theorem d_X7_deliver_1 : decode c_X7_deliver 1 = .ok (.dup, 1) := by decide +kernel
theorem d_X7_deliver_2 : decode c_X7_deliver 2 = .ok (.getfield 30, 3) := by decide +kernel
theorem d_X7_deliver_5 : decode c_X7_deliver 5 = .ok (.iload_n 1, 1) := by decide +kernel
theorem d_X7_deliver_6 : decode c_X7_deliver 6 = .ok (.isub, 1) := by decide +kernel
theorem d_X7_deliver_7 : decode c_X7_deliver 7 = .ok (.putfield 30, 3) := by decide +kernel
theorem d_X7_deliver_10 : decode c_X7_deliver 10 = .ok (.aload_n 0, 1) := by decide +kernel
theorem d_X7_deliver_11 : decode c_X7_deliver 11 = .ok (.dup, 1) := by decide +kernel
theorem d_X7_deliver_12 : decode c_X7_deliver 12 = .ok (.getfield 42, 3) := by decide +kernel
theorem d_X7_deliver_15 : decode c_X7_deliver 15 = .ok (.iload_n 1, 1) := by decide +kernel
theorem d_X7_deliver_16 : decode c_X7_deliver 16 = .ok (.iadd, 1) := by decide +kernel
theorem d_X7_deliver_17 : decode c_X7_deliver 17 = .ok (.putfield 42, 3) := by decide +kernel
theorem d_X7_deliver_20 : decode c_X7_deliver 20 = .ok (.aload_n 0, 1) := by decide +kernel
theorem d_X7_deliver_21 : decode c_X7_deliver 21 = .ok (.dup, 1) := by decide +kernel
theorem d_X7_deliver_22 : decode c_X7_deliver 22 = .ok (.getfield 45, 3) := by decide +kernel
theorem d_X7_deliver_25 : decode c_X7_deliver 25 = .ok (.iload_n 1, 1) := by decide +kernel
theorem d_X7_deliver_26 : decode c_X7_deliver 26 = .ok (.iload_n 2, 1) := by decide +kernel
theorem d_X7_deliver_27 : decode c_X7_deliver 27 = .ok (.imul, 1) := by decide +kernel
theorem d_X7_deliver_28 : decode c_X7_deliver 28 = .ok (.iadd, 1) := by decide +kernel
theorem d_X7_deliver_29 : decode c_X7_deliver 29 = .ok (.putfield 45, 3) := by decide +kernel
theorem d_X7_deliver_32 : decode c_X7_deliver 32 = .ok (.aload_n 0, 1) := by decide +kernel
theorem d_X7_deliver_33 : decode c_X7_deliver 33 = .ok (.dup, 1) := by decide +kernel
theorem d_X7_deliver_34 : decode c_X7_deliver 34 = .ok (.getfield 48, 3) := by decide +kernel
theorem d_X7_deliver_37 : decode c_X7_deliver 37 = .ok (.aload_n 0, 1) := by decide +kernel
theorem d_X7_deliver_38 : decode c_X7_deliver 38 = .ok (.iload_n 1, 1) := by decide +kernel
theorem d_X7_deliver_39 : decode c_X7_deliver 39 = .ok (.invokevirtual 57, 3) := by decide +kernel
theorem d_X7_deliver_42 : decode c_X7_deliver 42 = .ok (.iadd, 1) := by decide +kernel
theorem d_X7_deliver_43 : decode c_X7_deliver 43 = .ok (.putfield 48, 3) := by decide +kernel
theorem d_X7_deliver_46 : decode c_X7_deliver 46 = .ok (.aload_n 0, 1) := by decide +kernel
theorem d_X7_deliver_47 : decode c_X7_deliver 47 = .ok (.getfield 30, 3) := by decide +kernel
theorem d_X7_deliver_50 : decode c_X7_deliver 50 = .ok (.ifCond .ne 8, 3) := by decide +kernel
theorem d_X7_deliver_53 : decode c_X7_deliver 53 = .ok (.aload_n 0, 1) := by decide +kernel
theorem d_X7_deliver_54 : decode c_X7_deliver 54 = .ok (.iconst 3, 1) := by decide +kernel
theorem d_X7_deliver_55 : decode c_X7_deliver 55 = .ok (.putfield 33, 3) := by decide +kernel
theorem d_X7_deliver_58 : decode c_X7_deliver 58 = .ok (.return_, 1) := by decide +kernel
def kp_X7_deliver (k : Nat) (ms : Int32) (price : Int32) (a j : Nat) : Prop := a ≠ k ∨ j ≤ 4
def f_X7_deliver (v : tV) (k : Nat) (ms : Int32) (price : Int32) : tV := bnd (v k 6) fun x1 => bnd (x1 - ms) fun x2 => bnd (up2 v k 6 x2) fun v3 => bnd (v3 k 10) fun x6 => bnd (x6 + ms) fun x7 => bnd (up2 v3 k 10 x7) fun v8 => bnd (v8 k 11) fun x11 => bnd (ms * price) fun x12 => bnd (x11 + x12) fun x13 => bnd (up2 v8 k 11 x13) fun v14 => bnd (v14 k 12) fun x17 => bnd (f_X7_duesFor v14 k ms) fun x19 => bnd (x17 + x19) fun x22 => bnd (up2 v14 k 12 x22) fun v23 => bnd (v23 k 6) fun x26 => (if x26 = (0 : Int32) then bnd (up2 v23 k 7 3) fun v31 => v31 else v23)
set_option maxHeartbeats 4000000 in
set_option maxRecDepth 100000 in
theorem ct_X7_deliver (l : Launch) (D : va_G) (dA : Nat → ClassId) (ad : Nat → Nat) (v : tV) (hI : Inv v) (k : Nat) (ms : Int32) (price : Int32) (ka : 100 ≤ k) (kb : k < 160) : Met l m_X7_deliver [.code m_X7_deliver c_X7_deliver 3 none] ({ frames := 2, cells := 0, slots := 0, locals := 61 } : Room) (tP D dA ad v [.ref (ad k), .int ms, .int price]) (tQv D dA ad (fun v' => (Inv v' ∧ Kp (kp_X7_deliver k ms price) v v') ∧ v' = f_X7_deliver v k ms price)) 0 0 (tA ad) := by
  refine tMet (by decide) (Nat.le_of_ble_eq_true rfl) ?_
  intro p e s m below meth c ls X hr hlocks hw hl
  have X : CX p s m ([.ref (ad k), .int ms, .int price] : List Value).toArray c c_X7_deliver N_X7 3 D dA := X
  have hx := X.1
  have hb := X.2.1
  have hS : va_S (tA ad) s.heap s.heap [] := va_S.rf
  have hl : lv_has ls 3 [(0, .ref (ad k)), (1, .int ms), (2, .int price)] := hl
  obtain ⟨RR, eRR⟩ : ∃ z, f_X7_deliver v k ms price = z := ⟨_, rfl⟩
  have hK0 : Kp (kp_X7_deliver k ms price) v v := Kp.rf _ v
  have hG := eRR
  unfold f_X7_deliver at hG
  refine lv_aload_n hx hb d_X7_deliver_0 rfl (lv_at hl 0 rfl) ?_
  refine lv_dup hx hb d_X7_deliver_1 rfl ?_
  refine r_geti X hw FL_X7_30 (KD_ship (by omega) (by omega)) (SH_ship (by omega) (by omega)) d_X7_deliver_2 ?_
  refine lv_topi (fun x1 ex1 => ?_)
  have hG := bnd_use ex1 hG
  refine lv_iload_n hx hb d_X7_deliver_5 rfl (lv_at hl 1 rfl) ?_
  refine lv_isub hx hb d_X7_deliver_6 ?_
  refine lv_topi (fun x2 ex2 => ?_)
  have hG := bnd_use ex2 hG
  refine r_put X hw hS FP_X7_30 (KD_ship (by omega) (by omega)) (SH_ship (by omega) (by omega)) ⟨rfl, rfl⟩ d_X7_deliver_7 (fun H locs hw hS => ?_)
  obtain ⟨v3, ev3⟩ : ∃ z, z = up2 v k 6 x2 := ⟨_, rfl⟩
  rw [← ev3] at hw
  have hG := bnd_use ev3 hG
  have hI4 : Inv v3 := by rw [ev3]; exact Inv.put0 hI _ (RG_ship (by omega) (by omega))
  have hK5 : Kp (kp_X7_deliver k ms price) v v3 := by rw [ev3]; exact Kp.put hK0 _ (by unfold kp_X7_deliver; omega)
  refine lv_aload_n hx hb d_X7_deliver_10 rfl (lv_at hl 0 rfl) ?_
  refine lv_dup hx hb d_X7_deliver_11 rfl ?_
  refine r_geti X hw FL_X7_42 (KD_ship (by omega) (by omega)) (SH_ship (by omega) (by omega)) d_X7_deliver_12 ?_
  refine lv_topi (fun x6 ex6 => ?_)
  have hG := bnd_use ex6 hG
  refine lv_iload_n hx hb d_X7_deliver_15 rfl (lv_at hl 1 rfl) ?_
  refine lv_iadd hx hb d_X7_deliver_16 ?_
  refine lv_topi (fun x7 ex7 => ?_)
  have hG := bnd_use ex7 hG
  refine r_put X hw hS FP_X7_42 (KD_ship (by omega) (by omega)) (SH_ship (by omega) (by omega)) ⟨rfl, rfl⟩ d_X7_deliver_17 (fun H locs hw hS => ?_)
  obtain ⟨v8, ev8⟩ : ∃ z, z = up2 v3 k 10 x7 := ⟨_, rfl⟩
  rw [← ev8] at hw
  have hG := bnd_use ev8 hG
  have hI9 : Inv v8 := by rw [ev8]; exact Inv.put0 hI4 _ (RG_ship (by omega) (by omega))
  have hK10 : Kp (kp_X7_deliver k ms price) v v8 := by rw [ev8]; exact Kp.put hK5 _ (by unfold kp_X7_deliver; omega)
  refine lv_aload_n hx hb d_X7_deliver_20 rfl (lv_at hl 0 rfl) ?_
  refine lv_dup hx hb d_X7_deliver_21 rfl ?_
  refine r_geti X hw FL_X7_45 (KD_ship (by omega) (by omega)) (SH_ship (by omega) (by omega)) d_X7_deliver_22 ?_
  refine lv_topi (fun x11 ex11 => ?_)
  have hG := bnd_use ex11 hG
  refine lv_iload_n hx hb d_X7_deliver_25 rfl (lv_at hl 1 rfl) ?_
  refine lv_iload_n hx hb d_X7_deliver_26 rfl (lv_at hl 2 rfl) ?_
  refine lv_imul hx hb d_X7_deliver_27 ?_
  refine lv_topi (fun x12 ex12 => ?_)
  have hG := bnd_use ex12 hG
  refine lv_iadd hx hb d_X7_deliver_28 ?_
  refine lv_topi (fun x13 ex13 => ?_)
  have hG := bnd_use ex13 hG
  refine r_put X hw hS FP_X7_45 (KD_ship (by omega) (by omega)) (SH_ship (by omega) (by omega)) ⟨rfl, rfl⟩ d_X7_deliver_29 (fun H locs hw hS => ?_)
  obtain ⟨v14, ev14⟩ : ∃ z, z = up2 v8 k 11 x13 := ⟨_, rfl⟩
  rw [← ev14] at hw
  have hG := bnd_use ev14 hG
  have hI15 : Inv v14 := by rw [ev14]; exact Inv.put0 hI9 _ (RG_ship (by omega) (by omega))
  have hK16 : Kp (kp_X7_deliver k ms price) v v14 := by rw [ev14]; exact Kp.put hK10 _ (by unfold kp_X7_deliver; omega)
  refine lv_aload_n hx hb d_X7_deliver_32 rfl (lv_at hl 0 rfl) ?_
  refine lv_dup hx hb d_X7_deliver_33 rfl ?_
  refine r_geti X hw FL_X7_48 (KD_ship (by omega) (by omega)) (SH_ship (by omega) (by omega)) d_X7_deliver_34 ?_
  refine lv_topi (fun x17 ex17 => ?_)
  have hG := bnd_use ex17 hG
  refine lv_aload_n hx hb d_X7_deliver_37 rfl (lv_at hl 0 rfl) ?_
  refine lv_iload_n hx hb d_X7_deliver_38 rfl (lv_at hl 1 rfl) ?_
  refine r_ci (r_runV (n := 1) (As := [.int ms]) (rest := [.int x17, .ref (ad k)]) X hw (ct_X7_duesFor l D dA ad v14 hI15 k ms (by omega) (by omega)) gc_X7_57 (KD_ship (by omega) (by omega)) (by decide) rfl (by decide +kernel) ⟨rfl, rfl, Nat.le_of_ble_eq_true rfl, Nat.le_of_ble_eq_true rfl⟩ rfl hl.1 rfl (Nat.le_of_ble_eq_true rfl) ⟨Nat.zero_le _, Nat.zero_le _⟩ d_X7_deliver_39) hS (fun x19 v20 H locs hp18 hw hS => ?_)
  obtain ⟨hp18, hE21⟩ := hp18
  rw [hp18] at hw
  have hG := bnd_use hE21 hG
  refine lv_iadd hx hb d_X7_deliver_42 ?_
  refine lv_topi (fun x22 ex22 => ?_)
  have hG := bnd_use ex22 hG
  refine r_put X hw hS FP_X7_48 (KD_ship (by omega) (by omega)) (SH_ship (by omega) (by omega)) ⟨rfl, rfl⟩ d_X7_deliver_43 (fun H locs hw hS => ?_)
  obtain ⟨v23, ev23⟩ : ∃ z, z = up2 v14 k 12 x22 := ⟨_, rfl⟩
  rw [← ev23] at hw
  have hG := bnd_use ev23 hG
  have hI24 : Inv v23 := by rw [ev23]; exact Inv.put0 hI15 _ (RG_ship (by omega) (by omega))
  have hK25 : Kp (kp_X7_deliver k ms price) v v23 := by rw [ev23]; exact Kp.put hK16 _ (by unfold kp_X7_deliver; omega)
  refine lv_aload_n hx hb d_X7_deliver_46 rfl (lv_at hl 0 rfl) ?_
  refine r_geti X hw FL_X7_30 (KD_ship (by omega) (by omega)) (SH_ship (by omega) (by omega)) d_X7_deliver_47 ?_
  refine lv_topi (fun x26 ex26 => ?_)
  have hG := bnd_use ex26 hG
  refine lv_if_ne (tgt := 58) hx hb d_X7_deliver_50 (by decide) (fun c27 => ?_) (fun c27 => ?_)
  · have f28 := i_ne c27
    have hG := g_neg c27 hG
    exact r_vret X hr hlocks hw hS ⟨⟨hI24, hK25⟩, hG.trans eRR.symm⟩ d_X7_deliver_58
  · have f29 := i_eq c27
    have r30 : Rg x26 0 0 := by obtain ⟨a1, a2⟩ := (rg_any x26); obtain ⟨b1, b2⟩ := (⟨by decide, by decide⟩ : Rg 0 0 0); have f := i_eq c27; exact ⟨by omega, by omega⟩
    have hG := g_pos c27 hG
    refine lv_aload_n hx hb d_X7_deliver_53 rfl (lv_at hl 0 rfl) ?_
    refine lv_iconst (v := 3) hx hb d_X7_deliver_54 (by decide) ?_
    refine r_put X hw hS FP_X7_33 (KD_ship (by omega) (by omega)) (SH_ship (by omega) (by omega)) ⟨rfl, rfl⟩ d_X7_deliver_55 (fun H locs hw hS => ?_)
    obtain ⟨v31, ev31⟩ : ∃ z, z = up2 v23 k 7 3 := ⟨_, rfl⟩
    rw [← ev31] at hw
    have hG := bnd_use ev31 hG
    have hI32 : Inv v31 := by rw [ev31]; exact Inv.put0 hI24 _ (RG_ship (by omega) (by omega))
    have hK33 : Kp (kp_X7_deliver k ms price) v v31 := by rw [ev31]; exact Kp.put hK25 _ (by unfold kp_X7_deliver; omega)
    exact r_vret X hr hlocks hw hS ⟨⟨hI32, hK33⟩, hG.trans eRR.symm⟩ d_X7_deliver_58
theorem d_X7_miss_0 : decode c_X7_miss 0 = .ok (.aload_n 0, 1) := by decide +kernel
theorem d_X7_miss_1 : decode c_X7_miss 1 = .ok (.dup, 1) := by decide +kernel
theorem d_X7_miss_2 : decode c_X7_miss 2 = .ok (.getfield 39, 3) := by decide +kernel
theorem d_X7_miss_5 : decode c_X7_miss 5 = .ok (.iconst 1, 1) := by decide +kernel
theorem d_X7_miss_6 : decode c_X7_miss 6 = .ok (.iadd, 1) := by decide +kernel
theorem d_X7_miss_7 : decode c_X7_miss 7 = .ok (.putfield 39, 3) := by decide +kernel
theorem d_X7_miss_10 : decode c_X7_miss 10 = .ok (.aload_n 0, 1) := by decide +kernel
theorem d_X7_miss_11 : decode c_X7_miss 11 = .ok (.getfield 39, 3) := by decide +kernel
theorem d_X7_miss_14 : decode c_X7_miss 14 = .ok (.iconst 2, 1) := by decide +kernel
theorem d_X7_miss_15 : decode c_X7_miss 15 = .ok (.if_icmp .lt 16, 3) := by decide +kernel
theorem d_X7_miss_18 : decode c_X7_miss 18 = .ok (.aload_n 0, 1) := by decide +kernel
theorem d_X7_miss_19 : decode c_X7_miss 19 = .ok (.getfield 9, 3) := by decide +kernel
theorem d_X7_miss_22 : decode c_X7_miss 22 = .ok (.iconst 2, 1) := by decide +kernel
theorem d_X7_miss_23 : decode c_X7_miss 23 = .ok (.if_icmp .eq 8, 3) := by decide +kernel
theorem d_X7_miss_26 : decode c_X7_miss 26 = .ok (.aload_n 0, 1) := by decide +kernel
theorem d_X7_miss_27 : decode c_X7_miss 27 = .ok (.iconst 2, 1) := by decide +kernel
theorem d_X7_miss_28 : decode c_X7_miss 28 = .ok (.putfield 33, 3) := by decide +kernel
theorem d_X7_miss_31 : decode c_X7_miss 31 = .ok (.return_, 1) := by decide +kernel
def kp_X7_miss (k : Nat) (a j : Nat) : Prop := a ≠ k ∨ j ≤ 4
def f_X7_miss (v : tV) (k : Nat) : tV := bnd (v k 9) fun x1 => bnd (x1 + (1 : Int32)) fun x2 => bnd (up2 v k 9 x2) fun v3 => bnd (v3 k 9) fun x6 => (if x6 < (2 : Int32) then v3 else bnd (v3 k 0) fun x12 => (if x12 = (2 : Int32) then v3 else bnd (up2 v3 k 7 2) fun v17 => v17))
set_option maxHeartbeats 4000000 in
set_option maxRecDepth 100000 in
theorem ct_X7_miss (l : Launch) (D : va_G) (dA : Nat → ClassId) (ad : Nat → Nat) (v : tV) (hI : Inv v) (k : Nat) (ka : 100 ≤ k) (kb : k < 160) : Met l m_X7_miss [.code m_X7_miss c_X7_miss 1 none] ({ frames := 1, cells := 0, slots := 0, locals := 40 } : Room) (tP D dA ad v [.ref (ad k)]) (tQv D dA ad (fun v' => (Inv v' ∧ Kp (kp_X7_miss k) v v') ∧ v' = f_X7_miss v k)) 0 0 (tA ad) := by
  refine tMet (by decide) (Nat.le_of_ble_eq_true rfl) ?_
  intro p e s m below meth c ls X hr hlocks hw hl
  have X : CX p s m ([.ref (ad k)] : List Value).toArray c c_X7_miss N_X7 1 D dA := X
  have hx := X.1
  have hb := X.2.1
  have hS : va_S (tA ad) s.heap s.heap [] := va_S.rf
  have hl : lv_has ls 1 [(0, .ref (ad k))] := hl
  obtain ⟨RR, eRR⟩ : ∃ z, f_X7_miss v k = z := ⟨_, rfl⟩
  have hK0 : Kp (kp_X7_miss k) v v := Kp.rf _ v
  have hG := eRR
  unfold f_X7_miss at hG
  refine lv_aload_n hx hb d_X7_miss_0 rfl (lv_at hl 0 rfl) ?_
  refine lv_dup hx hb d_X7_miss_1 rfl ?_
  refine r_geti X hw FL_X7_39 (KD_ship (by omega) (by omega)) (SH_ship (by omega) (by omega)) d_X7_miss_2 ?_
  refine lv_topi (fun x1 ex1 => ?_)
  have hG := bnd_use ex1 hG
  refine lv_iconst (v := 1) hx hb d_X7_miss_5 (by decide) ?_
  refine lv_iadd hx hb d_X7_miss_6 ?_
  refine lv_topi (fun x2 ex2 => ?_)
  have hG := bnd_use ex2 hG
  refine r_put X hw hS FP_X7_39 (KD_ship (by omega) (by omega)) (SH_ship (by omega) (by omega)) ⟨rfl, rfl⟩ d_X7_miss_7 (fun H locs hw hS => ?_)
  obtain ⟨v3, ev3⟩ : ∃ z, z = up2 v k 9 x2 := ⟨_, rfl⟩
  rw [← ev3] at hw
  have hG := bnd_use ev3 hG
  have hI4 : Inv v3 := by rw [ev3]; exact Inv.put0 hI _ (RG_ship (by omega) (by omega))
  have hK5 : Kp (kp_X7_miss k) v v3 := by rw [ev3]; exact Kp.put hK0 _ (by unfold kp_X7_miss; omega)
  refine lv_aload_n hx hb d_X7_miss_10 rfl (lv_at hl 0 rfl) ?_
  refine r_geti X hw FL_X7_39 (KD_ship (by omega) (by omega)) (SH_ship (by omega) (by omega)) d_X7_miss_11 ?_
  refine lv_topi (fun x6 ex6 => ?_)
  have hG := bnd_use ex6 hG
  refine lv_iconst (v := 2) hx hb d_X7_miss_14 (by decide) ?_
  refine lv_icmp_lt (tgt := 31) hx hb d_X7_miss_15 (by decide) (fun c7 => ?_) (fun c7 => ?_)
  · have f8 := i_lt c7
    have r9 : Rg x6 (-2147483648) 1 := by obtain ⟨a1, a2⟩ := (rg_any x6); obtain ⟨b1, b2⟩ := (⟨by decide, by decide⟩ : Rg 2 2 2); have f := i_lt c7; exact ⟨by omega, by omega⟩
    have hG := g_pos c7 hG
    exact r_vret X hr hlocks hw hS ⟨⟨hI4, hK5⟩, hG.trans eRR.symm⟩ d_X7_miss_31
  · have f10 := i_nlt c7
    have r11 : Rg x6 2 2147483647 := by obtain ⟨a1, a2⟩ := (rg_any x6); obtain ⟨b1, b2⟩ := (⟨by decide, by decide⟩ : Rg 2 2 2); have f := i_nlt c7; exact ⟨by omega, by omega⟩
    have hG := g_neg c7 hG
    refine lv_aload_n hx hb d_X7_miss_18 rfl (lv_at hl 0 rfl) ?_
    refine r_geti X hw FL_X7_9 (KD_ship (by omega) (by omega)) (SH_ship (by omega) (by omega)) d_X7_miss_19 ?_
    refine lv_topi (fun x12 ex12 => ?_)
    have hG := bnd_use ex12 hG
    refine lv_iconst (v := 2) hx hb d_X7_miss_22 (by decide) ?_
    refine lv_icmp_eq (tgt := 31) hx hb d_X7_miss_23 (by decide) (fun c13 => ?_) (fun c13 => ?_)
    · have f14 := i_eq c13
      have r15 : Rg x12 2 2 := by obtain ⟨a1, a2⟩ := (rg_any x12); obtain ⟨b1, b2⟩ := (⟨by decide, by decide⟩ : Rg 2 2 2); have f := i_eq c13; exact ⟨by omega, by omega⟩
      have hG := g_pos c13 hG
      exact r_vret X hr hlocks hw hS ⟨⟨hI4, hK5⟩, hG.trans eRR.symm⟩ d_X7_miss_31
    · have f16 := i_ne c13
      have hG := g_neg c13 hG
      refine lv_aload_n hx hb d_X7_miss_26 rfl (lv_at hl 0 rfl) ?_
      refine lv_iconst (v := 2) hx hb d_X7_miss_27 (by decide) ?_
      refine r_put X hw hS FP_X7_33 (KD_ship (by omega) (by omega)) (SH_ship (by omega) (by omega)) ⟨rfl, rfl⟩ d_X7_miss_28 (fun H locs hw hS => ?_)
      obtain ⟨v17, ev17⟩ : ∃ z, z = up2 v3 k 7 2 := ⟨_, rfl⟩
      rw [← ev17] at hw
      have hG := bnd_use ev17 hG
      have hI18 : Inv v17 := by rw [ev17]; exact Inv.put0 hI4 _ (RG_ship (by omega) (by omega))
      have hK19 : Kp (kp_X7_miss k) v v17 := by rw [ev17]; exact Kp.put hK5 _ (by unfold kp_X7_miss; omega)
      exact r_vret X hr hlocks hw hS ⟨⟨hI18, hK19⟩, hG.trans eRR.symm⟩ d_X7_miss_31
theorem d_X7_isInPort_0 : decode c_X7_isInPort 0 = .ok (.aload_n 0, 1) := by decide +kernel
theorem d_X7_isInPort_1 : decode c_X7_isInPort 1 = .ok (.getfield 33, 3) := by decide +kernel
theorem d_X7_isInPort_4 : decode c_X7_isInPort 4 = .ok (.iconst 1, 1) := by decide +kernel
theorem d_X7_isInPort_5 : decode c_X7_isInPort 5 = .ok (.if_icmp .eq 11, 3) := by decide +kernel
theorem d_X7_isInPort_8 : decode c_X7_isInPort 8 = .ok (.aload_n 0, 1) := by decide +kernel
theorem d_X7_isInPort_9 : decode c_X7_isInPort 9 = .ok (.getfield 33, 3) := by decide +kernel
theorem d_X7_isInPort_12 : decode c_X7_isInPort 12 = .ok (.iconst 2, 1) := by decide +kernel
theorem d_X7_isInPort_13 : decode c_X7_isInPort 13 = .ok (.if_icmp .ne 7, 3) := by decide +kernel
theorem d_X7_isInPort_16 : decode c_X7_isInPort 16 = .ok (.iconst 1, 1) := by decide +kernel
theorem d_X7_isInPort_17 : decode c_X7_isInPort 17 = .ok (.goto 4, 3) := by decide +kernel
theorem d_X7_isInPort_20 : decode c_X7_isInPort 20 = .ok (.iconst 0, 1) := by decide +kernel
theorem d_X7_isInPort_21 : decode c_X7_isInPort 21 = .ok (.ireturn, 1) := by decide +kernel
def f_X7_isInPort (v : tV) (k : Nat) : Int32 := bnd (v k 7) fun x1 => (if x1 = (1 : Int32) then (1 : Int32) else bnd (v k 7) fun x6 => (if x6 = (2 : Int32) then (1 : Int32) else (0 : Int32)))
set_option maxHeartbeats 4000000 in
set_option maxRecDepth 100000 in
theorem ct_X7_isInPort (l : Launch) (D : va_G) (dA : Nat → ClassId) (ad : Nat → Nat) (v : tV) (hI : Inv v) (k : Nat) (ka : 100 ≤ k) (kb : k < 160) : Met l m_X7_isInPort [.code m_X7_isInPort c_X7_isInPort 1 (some .boolean)] ({ frames := 1, cells := 0, slots := 0, locals := 40 } : Room) (tP D dA ad v [.ref (ad k)]) (tQi D dA ad (fun r v' => (v' = v ∧ Rg r 0 1) ∧ r = f_X7_isInPort v k)) 0 0 (tA ad) := by
  refine tMet (by decide) (Nat.le_of_ble_eq_true rfl) ?_
  intro p e s m below meth c ls X hr hlocks hw hl
  have X : CX p s m ([.ref (ad k)] : List Value).toArray c c_X7_isInPort N_X7 1 D dA := X
  have hx := X.1
  have hb := X.2.1
  have hS : va_S (tA ad) s.heap s.heap [] := va_S.rf
  have hl : lv_has ls 1 [(0, .ref (ad k))] := hl
  obtain ⟨RR, eRR⟩ : ∃ z, f_X7_isInPort v k = z := ⟨_, rfl⟩
  have hG := eRR
  unfold f_X7_isInPort at hG
  refine lv_aload_n hx hb d_X7_isInPort_0 rfl (lv_at hl 0 rfl) ?_
  refine r_geti X hw FL_X7_33 (KD_ship (by omega) (by omega)) (SH_ship (by omega) (by omega)) d_X7_isInPort_1 ?_
  refine lv_topi (fun x1 ex1 => ?_)
  have hG := bnd_use ex1 hG
  refine lv_iconst (v := 1) hx hb d_X7_isInPort_4 (by decide) ?_
  refine lv_icmp_eq (tgt := 16) hx hb d_X7_isInPort_5 (by decide) (fun c2 => ?_) (fun c2 => ?_)
  · have f3 := i_eq c2
    have r4 : Rg x1 1 1 := by obtain ⟨a1, a2⟩ := (rg_any x1); obtain ⟨b1, b2⟩ := (⟨by decide, by decide⟩ : Rg 1 1 1); have f := i_eq c2; exact ⟨by omega, by omega⟩
    have hG := g_pos c2 hG
    refine lv_iconst (v := 1) hx hb d_X7_isInPort_16 (by decide) ?_
    refine lv_goto (tgt := 21) hx hb d_X7_isInPort_17 (by decide) ?_
    exact r_zret X hr hlocks hw hS rfl ⟨⟨rfl, (rg_w (⟨by decide, by decide⟩ : Rg 1 1 1) (by decide) (by decide))⟩, hG.trans eRR.symm⟩ d_X7_isInPort_21
  · have f5 := i_ne c2
    have hG := g_neg c2 hG
    refine lv_aload_n hx hb d_X7_isInPort_8 rfl (lv_at hl 0 rfl) ?_
    refine r_geti X hw FL_X7_33 (KD_ship (by omega) (by omega)) (SH_ship (by omega) (by omega)) d_X7_isInPort_9 ?_
    refine lv_topi (fun x6 ex6 => ?_)
    have hG := bnd_use ex6 hG
    refine lv_iconst (v := 2) hx hb d_X7_isInPort_12 (by decide) ?_
    refine lv_icmp_ne (tgt := 20) hx hb d_X7_isInPort_13 (by decide) (fun c7 => ?_) (fun c7 => ?_)
    · have f8 := i_ne c7
      have hG := g_neg c7 hG
      refine lv_iconst (v := 0) hx hb d_X7_isInPort_20 (by decide) ?_
      exact r_zret X hr hlocks hw hS rfl ⟨⟨rfl, (rg_w (⟨by decide, by decide⟩ : Rg 0 0 0) (by decide) (by decide))⟩, hG.trans eRR.symm⟩ d_X7_isInPort_21
    · have f9 := i_eq c7
      have r10 : Rg x6 2 2 := by obtain ⟨a1, a2⟩ := (rg_any x6); obtain ⟨b1, b2⟩ := (⟨by decide, by decide⟩ : Rg 2 2 2); have f := i_eq c7; exact ⟨by omega, by omega⟩
      have hG := g_pos c7 hG
      refine lv_iconst (v := 1) hx hb d_X7_isInPort_16 (by decide) ?_
      refine lv_goto (tgt := 21) hx hb d_X7_isInPort_17 (by decide) ?_
      exact r_zret X hr hlocks hw hS rfl ⟨⟨rfl, (rg_w (⟨by decide, by decide⟩ : Rg 1 1 1) (by decide) (by decide))⟩, hG.trans eRR.symm⟩ d_X7_isInPort_21
theorem d_X0_begin_0 : decode c_X0_begin 0 = .ok (.aload_n 0, 1) := by decide +kernel
theorem d_X0_begin_1 : decode c_X0_begin 1 = .ok (.iload_n 1, 1) := by decide +kernel
theorem d_X0_begin_2 : decode c_X0_begin 2 = .ok (.putfield 7, 3) := by decide +kernel
theorem d_X0_begin_5 : decode c_X0_begin 5 = .ok (.aload_n 0, 1) := by decide +kernel
theorem d_X0_begin_6 : decode c_X0_begin 6 = .ok (.iload_n 2, 1) := by decide +kernel
theorem d_X0_begin_7 : decode c_X0_begin 7 = .ok (.putfield 13, 3) := by decide +kernel
theorem d_X0_begin_10 : decode c_X0_begin 10 = .ok (.aload_n 0, 1) := by decide +kernel
theorem d_X0_begin_11 : decode c_X0_begin 11 = .ok (.iload_n 3, 1) := by decide +kernel
theorem d_X0_begin_12 : decode c_X0_begin 12 = .ok (.putfield 16, 3) := by decide +kernel
theorem d_X0_begin_15 : decode c_X0_begin 15 = .ok (.aload_n 0, 1) := by decide +kernel
theorem d_X0_begin_16 : decode c_X0_begin 16 = .ok (.iload 4, 2) := by decide +kernel
theorem d_X0_begin_18 : decode c_X0_begin 18 = .ok (.putfield 19, 3) := by decide +kernel
theorem d_X0_begin_21 : decode c_X0_begin 21 = .ok (.return_, 1) := by decide +kernel
def kp_X0_begin (k : Nat) (ward : Int32) (sort : Int32) (want : Int32) (bid : Int32) (a j : Nat) : Prop := a ≠ k
def f_X0_begin (v : tV) (k : Nat) (ward : Int32) (sort : Int32) (want : Int32) (bid : Int32) : tV := bnd (up2 v k 0 ward) fun v1 => bnd (up2 v1 k 1 sort) fun v5 => bnd (up2 v5 k 2 want) fun v9 => bnd (up2 v9 k 3 bid) fun v13 => v13
set_option maxHeartbeats 4000000 in
set_option maxRecDepth 100000 in
theorem ct_X0_begin (l : Launch) (D : va_G) (dA : Nat → ClassId) (ad : Nat → Nat) (v : tV) (hI : Inv v) (k : Nat) (ward : Int32) (sort : Int32) (want : Int32) (bid : Int32) (ka : 200 ≤ k) (kb : k < 230) (r_ward : Rg ward 0 5) : Met l m_X0_begin [.code m_X0_begin c_X0_begin 5 none] ({ frames := 1, cells := 0, slots := 0, locals := 40 } : Room) (tP D dA ad v [.ref (ad k), .int ward, .int sort, .int want, .int bid]) (tQv D dA ad (fun v' => (Inv v' ∧ Kp (kp_X0_begin k ward sort want bid) v v') ∧ v' = f_X0_begin v k ward sort want bid)) 0 0 (tA ad) := by
  refine tMet (by decide) (Nat.le_of_ble_eq_true rfl) ?_
  intro p e s m below meth c ls X hr hlocks hw hl
  have X : CX p s m ([.ref (ad k), .int ward, .int sort, .int want, .int bid] : List Value).toArray c c_X0_begin N_X0 5 D dA := X
  have hx := X.1
  have hb := X.2.1
  have hS : va_S (tA ad) s.heap s.heap [] := va_S.rf
  have hl : lv_has ls 5 [(0, .ref (ad k)), (1, .int ward), (2, .int sort), (3, .int want), (4, .int bid)] := hl
  obtain ⟨RR, eRR⟩ : ∃ z, f_X0_begin v k ward sort want bid = z := ⟨_, rfl⟩
  have hK0 : Kp (kp_X0_begin k ward sort want bid) v v := Kp.rf _ v
  have hG := eRR
  unfold f_X0_begin at hG
  refine lv_aload_n hx hb d_X0_begin_0 rfl (lv_at hl 0 rfl) ?_
  refine lv_iload_n hx hb d_X0_begin_1 rfl (lv_at hl 1 rfl) ?_
  refine r_put X hw hS FP_X0_7 (KD_buyer (by omega) (by omega)) (SH_buyer (by omega) (by omega)) ⟨rfl, rfl⟩ d_X0_begin_2 (fun H locs hw hS => ?_)
  obtain ⟨v1, ev1⟩ : ∃ z, z = up2 v k 0 ward := ⟨_, rfl⟩
  rw [← ev1] at hw
  have hG := bnd_use ev1 hG
  have hI2 : Inv v1 := by rw [ev1]; exact Inv.putr hI (RG_buyer0 (by omega) (by omega)) r_ward
  have hK3 : Kp (kp_X0_begin k ward sort want bid) v v1 := by rw [ev1]; exact Kp.put hK0 _ (by unfold kp_X0_begin; omega)
  have hm4 : v1 k 0 = ward := by rw [ev1, up2_s]
  refine lv_aload_n hx hb d_X0_begin_5 rfl (lv_at hl 0 rfl) ?_
  refine lv_iload_n hx hb d_X0_begin_6 rfl (lv_at hl 2 rfl) ?_
  refine r_put X hw hS FP_X0_13 (KD_buyer (by omega) (by omega)) (SH_buyer (by omega) (by omega)) ⟨rfl, rfl⟩ d_X0_begin_7 (fun H locs hw hS => ?_)
  obtain ⟨v5, ev5⟩ : ∃ z, z = up2 v1 k 1 sort := ⟨_, rfl⟩
  rw [← ev5] at hw
  have hG := bnd_use ev5 hG
  have hI6 : Inv v5 := by rw [ev5]; exact Inv.put0 hI2 _ (RG_buyer (by omega) (by omega) (by decide))
  have hK7 : Kp (kp_X0_begin k ward sort want bid) v v5 := by rw [ev5]; exact Kp.put hK3 _ (by unfold kp_X0_begin; omega)
  have hm8 : v5 k 0 = ward := by rw [ev5, up2_n _ _ (by omega)]; exact hm4
  refine lv_aload_n hx hb d_X0_begin_10 rfl (lv_at hl 0 rfl) ?_
  refine lv_iload_n hx hb d_X0_begin_11 rfl (lv_at hl 3 rfl) ?_
  refine r_put X hw hS FP_X0_16 (KD_buyer (by omega) (by omega)) (SH_buyer (by omega) (by omega)) ⟨rfl, rfl⟩ d_X0_begin_12 (fun H locs hw hS => ?_)
  obtain ⟨v9, ev9⟩ : ∃ z, z = up2 v5 k 2 want := ⟨_, rfl⟩
  rw [← ev9] at hw
  have hG := bnd_use ev9 hG
  have hI10 : Inv v9 := by rw [ev9]; exact Inv.put0 hI6 _ (RG_buyer (by omega) (by omega) (by decide))
  have hK11 : Kp (kp_X0_begin k ward sort want bid) v v9 := by rw [ev9]; exact Kp.put hK7 _ (by unfold kp_X0_begin; omega)
  have hm12 : v9 k 0 = ward := by rw [ev9, up2_n _ _ (by omega)]; exact hm8
  refine lv_aload_n hx hb d_X0_begin_15 rfl (lv_at hl 0 rfl) ?_
  refine lv_iload hx hb d_X0_begin_16 (lv_at hl 4 rfl) ?_
  refine r_put X hw hS FP_X0_19 (KD_buyer (by omega) (by omega)) (SH_buyer (by omega) (by omega)) ⟨rfl, rfl⟩ d_X0_begin_18 (fun H locs hw hS => ?_)
  obtain ⟨v13, ev13⟩ : ∃ z, z = up2 v9 k 3 bid := ⟨_, rfl⟩
  rw [← ev13] at hw
  have hG := bnd_use ev13 hG
  have hI14 : Inv v13 := by rw [ev13]; exact Inv.put0 hI10 _ (RG_buyer (by omega) (by omega) (by decide))
  have hK15 : Kp (kp_X0_begin k ward sort want bid) v v13 := by rw [ev13]; exact Kp.put hK11 _ (by unfold kp_X0_begin; omega)
  have hm16 : v13 k 0 = ward := by rw [ev13, up2_n _ _ (by omega)]; exact hm12
  exact r_vret X hr hlocks hw hS ⟨⟨hI14, hK15⟩, hG.trans eRR.symm⟩ d_X0_begin_21
theorem d_X0_copy_0 : decode c_X0_copy 0 = .ok (.aload_n 0, 1) := by decide +kernel
theorem d_X0_copy_1 : decode c_X0_copy 1 = .ok (.aload_n 1, 1) := by decide +kernel
theorem d_X0_copy_2 : decode c_X0_copy 2 = .ok (.getfield 7, 3) := by decide +kernel
theorem d_X0_copy_5 : decode c_X0_copy 5 = .ok (.aload_n 1, 1) := by decide +kernel
theorem d_X0_copy_6 : decode c_X0_copy 6 = .ok (.getfield 13, 3) := by decide +kernel
theorem d_X0_copy_9 : decode c_X0_copy 9 = .ok (.aload_n 1, 1) := by decide +kernel
theorem d_X0_copy_10 : decode c_X0_copy 10 = .ok (.getfield 16, 3) := by decide +kernel
theorem d_X0_copy_13 : decode c_X0_copy 13 = .ok (.aload_n 1, 1) := by decide +kernel
theorem d_X0_copy_14 : decode c_X0_copy 14 = .ok (.getfield 19, 3) := by decide +kernel
theorem d_X0_copy_17 : decode c_X0_copy 17 = .ok (.invokevirtual 22, 3) := by decide +kernel
theorem d_X0_copy_20 : decode c_X0_copy 20 = .ok (.return_, 1) := by decide +kernel
def kp_X0_copy (k : Nat) (k2 : Nat) (a j : Nat) : Prop := a ≠ k
def f_X0_copy (v : tV) (k : Nat) (k2 : Nat) : tV := bnd (v k2 0) fun x1 => bnd (v k2 1) fun x4 => bnd (v k2 2) fun x5 => bnd (v k2 3) fun x6 => bnd (f_X0_begin v k x1 x4 x5 x6) fun v8 => v8
set_option maxHeartbeats 4000000 in
set_option maxRecDepth 100000 in
theorem ct_X0_copy (l : Launch) (D : va_G) (dA : Nat → ClassId) (ad : Nat → Nat) (v : tV) (hI : Inv v) (k : Nat) (k2 : Nat) (ka : 200 ≤ k) (kb : k < 230) (k2a : 200 ≤ k2) (k2b : k2 < 230) : Met l m_X0_copy [.code m_X0_copy c_X0_copy 2 none] ({ frames := 2, cells := 0, slots := 0, locals := 64 } : Room) (tP D dA ad v [.ref (ad k), .ref (ad k2)]) (tQv D dA ad (fun v' => (Inv v' ∧ Kp (kp_X0_copy k k2) v v') ∧ v' = f_X0_copy v k k2)) 0 0 (tA ad) := by
  refine tMet (by decide) (Nat.le_of_ble_eq_true rfl) ?_
  intro p e s m below meth c ls X hr hlocks hw hl
  have X : CX p s m ([.ref (ad k), .ref (ad k2)] : List Value).toArray c c_X0_copy N_X0 2 D dA := X
  have hx := X.1
  have hb := X.2.1
  have hS : va_S (tA ad) s.heap s.heap [] := va_S.rf
  have hl : lv_has ls 2 [(0, .ref (ad k)), (1, .ref (ad k2))] := hl
  obtain ⟨RR, eRR⟩ : ∃ z, f_X0_copy v k k2 = z := ⟨_, rfl⟩
  have hK0 : Kp (kp_X0_copy k k2) v v := Kp.rf _ v
  have hG := eRR
  unfold f_X0_copy at hG
  refine lv_aload_n hx hb d_X0_copy_0 rfl (lv_at hl 0 rfl) ?_
  refine lv_aload_n hx hb d_X0_copy_1 rfl (lv_at hl 1 rfl) ?_
  refine r_geti X hw FL_X0_7 (KD_buyer (by omega) (by omega)) (SH_buyer (by omega) (by omega)) d_X0_copy_2 ?_
  refine lv_topi (fun x1 ex1 => ?_)
  have hG := bnd_use ex1 hG
  have r2 : Rg x1 0 5 := by rw [ex1]; exact hI _ _ _ _ (RG_buyer0 (by omega) (by omega))
  have hm3 : v k2 0 = x1 := ex1.symm
  refine lv_aload_n hx hb d_X0_copy_5 rfl (lv_at hl 1 rfl) ?_
  refine r_geti X hw FL_X0_13 (KD_buyer (by omega) (by omega)) (SH_buyer (by omega) (by omega)) d_X0_copy_6 ?_
  refine lv_topi (fun x4 ex4 => ?_)
  have hG := bnd_use ex4 hG
  refine lv_aload_n hx hb d_X0_copy_9 rfl (lv_at hl 1 rfl) ?_
  refine r_geti X hw FL_X0_16 (KD_buyer (by omega) (by omega)) (SH_buyer (by omega) (by omega)) d_X0_copy_10 ?_
  refine lv_topi (fun x5 ex5 => ?_)
  have hG := bnd_use ex5 hG
  refine lv_aload_n hx hb d_X0_copy_13 rfl (lv_at hl 1 rfl) ?_
  refine r_geti X hw FL_X0_19 (KD_buyer (by omega) (by omega)) (SH_buyer (by omega) (by omega)) d_X0_copy_14 ?_
  refine lv_topi (fun x6 ex6 => ?_)
  have hG := bnd_use ex6 hG
  refine r_cv (r_runV (n := 4) (As := [.int x1, .int x4, .int x5, .int x6]) (rest := []) X hw (ct_X0_begin l D dA ad v hI k x1 x4 x5 x6 (by omega) (by omega) r2) gc_X0_22 (KD_buyer (by omega) (by omega)) (by decide) rfl (by decide +kernel) ⟨rfl, rfl, Nat.le_of_ble_eq_true rfl, Nat.le_of_ble_eq_true rfl⟩ rfl hl.1 rfl (Nat.le_of_ble_eq_true rfl) ⟨Nat.zero_le _, Nat.zero_le _⟩ d_X0_copy_17) hS (fun v8 H locs hp7 hw hS => ?_)
  obtain ⟨hp7, hE9⟩ := hp7
  obtain ⟨hI10, hK11⟩ := hp7
  have hK12 : Kp (kp_X0_copy k k2) v v8 := Kp.tr hK0 hK11 (by have z0 : (0 : Int32).toInt = 0 := rfl; intro a j; unfold kp_X0_copy kp_X0_begin; omega)
  have hG := bnd_use hE9 hG
  exact r_vret X hr hlocks hw hS ⟨⟨hI10, hK12⟩, hG.trans eRR.symm⟩ d_X0_copy_20
theorem d_X0_takes_0 : decode c_X0_takes 0 = .ok (.aload_n 0, 1) := by decide +kernel
theorem d_X0_takes_1 : decode c_X0_takes 1 = .ok (.getfield 16, 3) := by decide +kernel
theorem d_X0_takes_4 : decode c_X0_takes 4 = .ok (.ifCond .le 29, 3) := by decide +kernel
theorem d_X0_takes_7 : decode c_X0_takes 7 = .ok (.aload_n 0, 1) := by decide +kernel
theorem d_X0_takes_8 : decode c_X0_takes 8 = .ok (.getfield 13, 3) := by decide +kernel
theorem d_X0_takes_11 : decode c_X0_takes 11 = .ok (.aload_n 1, 1) := by decide +kernel
theorem d_X0_takes_12 : decode c_X0_takes 12 = .ok (.getfield 26, 3) := by decide +kernel
theorem d_X0_takes_15 : decode c_X0_takes 15 = .ok (.if_icmp .ne 18, 3) := by decide +kernel
theorem d_X0_takes_18 : decode c_X0_takes 18 = .ok (.aload_n 0, 1) := by decide +kernel
theorem d_X0_takes_19 : decode c_X0_takes 19 = .ok (.getfield 19, 3) := by decide +kernel
theorem d_X0_takes_22 : decode c_X0_takes 22 = .ok (.aload_n 1, 1) := by decide +kernel
theorem d_X0_takes_23 : decode c_X0_takes 23 = .ok (.getfield 29, 3) := by decide +kernel
theorem d_X0_takes_26 : decode c_X0_takes 26 = .ok (.if_icmp .lt 7, 3) := by decide +kernel
theorem d_X0_takes_29 : decode c_X0_takes 29 = .ok (.iconst 1, 1) := by decide +kernel
theorem d_X0_takes_30 : decode c_X0_takes 30 = .ok (.goto 4, 3) := by decide +kernel
theorem d_X0_takes_33 : decode c_X0_takes 33 = .ok (.iconst 0, 1) := by decide +kernel
theorem d_X0_takes_34 : decode c_X0_takes 34 = .ok (.ireturn, 1) := by decide +kernel
def f_X0_takes (v : tV) (k : Nat) (k2 : Nat) : Int32 := bnd (v k 2) fun x1 => (if x1 ≤ (0 : Int32) then (0 : Int32) else bnd (v k 1) fun x7 => bnd (v k2 1) fun x8 => (if x7 = x8 then bnd (v k 3) fun x12 => bnd (v k2 3) fun x13 => (if x12 < x13 then (0 : Int32) else (1 : Int32)) else (0 : Int32)))
set_option maxHeartbeats 4000000 in
set_option maxRecDepth 100000 in
theorem ct_X0_takes (l : Launch) (D : va_G) (dA : Nat → ClassId) (ad : Nat → Nat) (v : tV) (hI : Inv v) (k : Nat) (k2 : Nat) (ka : 200 ≤ k) (kb : k < 230) (k2a : 100 ≤ k2) (k2b : k2 < 160) : Met l m_X0_takes [.code m_X0_takes c_X0_takes 2 (some .boolean)] ({ frames := 1, cells := 0, slots := 0, locals := 40 } : Room) (tP D dA ad v [.ref (ad k), .ref (ad k2)]) (tQi D dA ad (fun r v' => (v' = v ∧ Rg r 0 1) ∧ r = f_X0_takes v k k2)) 0 0 (tA ad) := by
  refine tMet (by decide) (Nat.le_of_ble_eq_true rfl) ?_
  intro p e s m below meth c ls X hr hlocks hw hl
  have X : CX p s m ([.ref (ad k), .ref (ad k2)] : List Value).toArray c c_X0_takes N_X0 2 D dA := X
  have hx := X.1
  have hb := X.2.1
  have hS : va_S (tA ad) s.heap s.heap [] := va_S.rf
  have hl : lv_has ls 2 [(0, .ref (ad k)), (1, .ref (ad k2))] := hl
  obtain ⟨RR, eRR⟩ : ∃ z, f_X0_takes v k k2 = z := ⟨_, rfl⟩
  have hG := eRR
  unfold f_X0_takes at hG
  refine lv_aload_n hx hb d_X0_takes_0 rfl (lv_at hl 0 rfl) ?_
  refine r_geti X hw FL_X0_16 (KD_buyer (by omega) (by omega)) (SH_buyer (by omega) (by omega)) d_X0_takes_1 ?_
  refine lv_topi (fun x1 ex1 => ?_)
  have hG := bnd_use ex1 hG
  refine lv_if_le (tgt := 33) hx hb d_X0_takes_4 (by decide) (fun c2 => ?_) (fun c2 => ?_)
  · have f3 := i_le c2
    have r4 : Rg x1 (-2147483648) 0 := by obtain ⟨a1, a2⟩ := (rg_any x1); obtain ⟨b1, b2⟩ := (⟨by decide, by decide⟩ : Rg 0 0 0); have f := i_le c2; exact ⟨by omega, by omega⟩
    have hG := g_pos c2 hG
    refine lv_iconst (v := 0) hx hb d_X0_takes_33 (by decide) ?_
    exact r_zret X hr hlocks hw hS rfl ⟨⟨rfl, (rg_w (⟨by decide, by decide⟩ : Rg 0 0 0) (by decide) (by decide))⟩, hG.trans eRR.symm⟩ d_X0_takes_34
  · have f5 := i_nle c2
    have r6 : Rg x1 1 2147483647 := by obtain ⟨a1, a2⟩ := (rg_any x1); obtain ⟨b1, b2⟩ := (⟨by decide, by decide⟩ : Rg 0 0 0); have f := i_nle c2; exact ⟨by omega, by omega⟩
    have hG := g_neg c2 hG
    refine lv_aload_n hx hb d_X0_takes_7 rfl (lv_at hl 0 rfl) ?_
    refine r_geti X hw FL_X0_13 (KD_buyer (by omega) (by omega)) (SH_buyer (by omega) (by omega)) d_X0_takes_8 ?_
    refine lv_topi (fun x7 ex7 => ?_)
    have hG := bnd_use ex7 hG
    refine lv_aload_n hx hb d_X0_takes_11 rfl (lv_at hl 1 rfl) ?_
    refine r_geti X hw FL_X0_26 (KD_ship (by omega) (by omega)) (SH_ship (by omega) (by omega)) d_X0_takes_12 ?_
    refine lv_topi (fun x8 ex8 => ?_)
    have hG := bnd_use ex8 hG
    refine lv_icmp_ne (tgt := 33) hx hb d_X0_takes_15 (by decide) (fun c9 => ?_) (fun c9 => ?_)
    · have f10 := i_ne c9
      have hG := g_neg c9 hG
      refine lv_iconst (v := 0) hx hb d_X0_takes_33 (by decide) ?_
      exact r_zret X hr hlocks hw hS rfl ⟨⟨rfl, (rg_w (⟨by decide, by decide⟩ : Rg 0 0 0) (by decide) (by decide))⟩, hG.trans eRR.symm⟩ d_X0_takes_34
    · have f11 := i_eq c9
      have hG := g_pos c9 hG
      refine lv_aload_n hx hb d_X0_takes_18 rfl (lv_at hl 0 rfl) ?_
      refine r_geti X hw FL_X0_19 (KD_buyer (by omega) (by omega)) (SH_buyer (by omega) (by omega)) d_X0_takes_19 ?_
      refine lv_topi (fun x12 ex12 => ?_)
      have hG := bnd_use ex12 hG
      refine lv_aload_n hx hb d_X0_takes_22 rfl (lv_at hl 1 rfl) ?_
      refine r_geti X hw FL_X0_29 (KD_ship (by omega) (by omega)) (SH_ship (by omega) (by omega)) d_X0_takes_23 ?_
      refine lv_topi (fun x13 ex13 => ?_)
      have hG := bnd_use ex13 hG
      refine lv_icmp_lt (tgt := 33) hx hb d_X0_takes_26 (by decide) (fun c14 => ?_) (fun c14 => ?_)
      · have f15 := i_lt c14
        have hG := g_pos c14 hG
        refine lv_iconst (v := 0) hx hb d_X0_takes_33 (by decide) ?_
        exact r_zret X hr hlocks hw hS rfl ⟨⟨rfl, (rg_w (⟨by decide, by decide⟩ : Rg 0 0 0) (by decide) (by decide))⟩, hG.trans eRR.symm⟩ d_X0_takes_34
      · have f16 := i_nlt c14
        have hG := g_neg c14 hG
        refine lv_iconst (v := 1) hx hb d_X0_takes_29 (by decide) ?_
        refine lv_goto (tgt := 34) hx hb d_X0_takes_30 (by decide) ?_
        exact r_zret X hr hlocks hw hS rfl ⟨⟨rfl, (rg_w (⟨by decide, by decide⟩ : Rg 1 1 1) (by decide) (by decide))⟩, hG.trans eRR.symm⟩ d_X0_takes_34
theorem d_X9_fact_0 : decode c_X9_fact 0 = .ok (.iload_n 1, 1) := by decide +kernel
theorem d_X9_fact_1 : decode c_X9_fact 1 = .ok (.tableswitch 51 0 3 #[31, 36, 41, 46], 31) := by decide +kernel
theorem d_X9_fact_32 : decode c_X9_fact 32 = .ok (.aload_n 0, 1) := by decide +kernel
theorem d_X9_fact_33 : decode c_X9_fact 33 = .ok (.getfield 21, 3) := by decide +kernel
theorem d_X9_fact_36 : decode c_X9_fact 36 = .ok (.ireturn, 1) := by decide +kernel
theorem d_X9_fact_37 : decode c_X9_fact 37 = .ok (.aload_n 0, 1) := by decide +kernel
theorem d_X9_fact_38 : decode c_X9_fact 38 = .ok (.getfield 25, 3) := by decide +kernel
theorem d_X9_fact_41 : decode c_X9_fact 41 = .ok (.ireturn, 1) := by decide +kernel
theorem d_X9_fact_42 : decode c_X9_fact 42 = .ok (.aload_n 0, 1) := by decide +kernel
theorem d_X9_fact_43 : decode c_X9_fact 43 = .ok (.getfield 28, 3) := by decide +kernel
theorem d_X9_fact_46 : decode c_X9_fact 46 = .ok (.ireturn, 1) := by decide +kernel
theorem d_X9_fact_47 : decode c_X9_fact 47 = .ok (.aload_n 0, 1) := by decide +kernel
theorem d_X9_fact_48 : decode c_X9_fact 48 = .ok (.getfield 31, 3) := by decide +kernel
theorem d_X9_fact_51 : decode c_X9_fact 51 = .ok (.ireturn, 1) := by decide +kernel
theorem d_X9_fact_52 : decode c_X9_fact 52 = .ok (.iconst (-1), 1) := by decide +kernel
theorem d_X9_fact_53 : decode c_X9_fact 53 = .ok (.ireturn, 1) := by decide +kernel
def f_X9_fact (v : tV) (k : Nat) (what : Int32) : Int32 := (if what.toInt < 0 ∨ 3 < what.toInt then (-1 : Int32) else (if what.toInt = 0 then bnd (v k 1) fun x2 => x2 else (if what.toInt = 1 then bnd (v k 2) fun x3 => x3 else (if what.toInt = 2 then bnd (v k 3) fun x4 => x4 else bnd (v k 4) fun x5 => x5))))
set_option maxHeartbeats 4000000 in
set_option maxRecDepth 100000 in
theorem ct_X9_fact (l : Launch) (D : va_G) (dA : Nat → ClassId) (ad : Nat → Nat) (v : tV) (hI : Inv v) (k : Nat) (what : Int32) (ka : 300 ≤ k) (kb : k < 318) : Met l m_X9_fact [.code m_X9_fact c_X9_fact 2 (some .int)] ({ frames := 1, cells := 0, slots := 0, locals := 40 } : Room) (tP D dA ad v [.ref (ad k), .int what]) (tQi D dA ad (fun r v' => (v' = v) ∧ r = f_X9_fact v k what)) 0 0 (tA ad) := by
  refine tMet (by decide) (Nat.le_of_ble_eq_true rfl) ?_
  intro p e s m below meth c ls X hr hlocks hw hl
  have X : CX p s m ([.ref (ad k), .int what] : List Value).toArray c c_X9_fact N_X9 2 D dA := X
  have hx := X.1
  have hb := X.2.1
  have hS : va_S (tA ad) s.heap s.heap [] := va_S.rf
  have hl : lv_has ls 2 [(0, .ref (ad k)), (1, .int what)] := hl
  obtain ⟨RR, eRR⟩ : ∃ z, f_X9_fact v k what = z := ⟨_, rfl⟩
  have hG := eRR
  unfold f_X9_fact at hG
  refine lv_iload_n hx hb d_X9_fact_0 rfl (lv_at hl 1 rfl) ?_
  by_cases c1 : what.toInt < 0 ∨ 3 < what.toInt
  · refine lv_tableOut (tgt := 52) hx hb d_X9_fact_1 c1 (by decide) ?_
    have hG := g_pos c1 hG
    refine lv_iconst (v := -1) hx hb d_X9_fact_52 (by decide) ?_
    exact r_iret X hr hlocks hw hS ⟨rfl, hG.trans eRR.symm⟩ d_X9_fact_53
  · have c1b : what.toInt = 0 ∨ what.toInt = 1 ∨ what.toInt = 2 ∨ what.toInt = 3 := by omega
    have hG := g_neg c1 hG
    rcases c1b with c1e | c1e | c1e | c1e
    · refine lv_tableIn (off := 31) (tgt := 32) hx hb d_X9_fact_1 (by omega) (by omega) (by rw [c1e]; rfl) (by decide) ?_
      have hG := g_pos c1e hG
      refine lv_aload_n hx hb d_X9_fact_32 rfl (lv_at hl 0 rfl) ?_
      refine r_geti X hw FL_X9_21 (KD_ward (by omega) (by omega)) (SH_ward (by omega) (by omega) (by decide)) d_X9_fact_33 ?_
      refine lv_topi (fun x2 ex2 => ?_)
      have hG := bnd_use ex2 hG
      exact r_iret X hr hlocks hw hS ⟨rfl, hG.trans eRR.symm⟩ d_X9_fact_36
    · refine lv_tableIn (off := 36) (tgt := 37) hx hb d_X9_fact_1 (by omega) (by omega) (by rw [c1e]; rfl) (by decide) ?_
      have hG := g_neg (by omega) hG
      have hG := g_pos c1e hG
      refine lv_aload_n hx hb d_X9_fact_37 rfl (lv_at hl 0 rfl) ?_
      refine r_geti X hw FL_X9_25 (KD_ward (by omega) (by omega)) (SH_ward (by omega) (by omega) (by decide)) d_X9_fact_38 ?_
      refine lv_topi (fun x3 ex3 => ?_)
      have hG := bnd_use ex3 hG
      exact r_iret X hr hlocks hw hS ⟨rfl, hG.trans eRR.symm⟩ d_X9_fact_41
    · refine lv_tableIn (off := 41) (tgt := 42) hx hb d_X9_fact_1 (by omega) (by omega) (by rw [c1e]; rfl) (by decide) ?_
      have hG := g_neg (by omega) hG
      have hG := g_neg (by omega) hG
      have hG := g_pos c1e hG
      refine lv_aload_n hx hb d_X9_fact_42 rfl (lv_at hl 0 rfl) ?_
      refine r_geti X hw FL_X9_28 (KD_ward (by omega) (by omega)) (SH_ward (by omega) (by omega) (by decide)) d_X9_fact_43 ?_
      refine lv_topi (fun x4 ex4 => ?_)
      have hG := bnd_use ex4 hG
      exact r_iret X hr hlocks hw hS ⟨rfl, hG.trans eRR.symm⟩ d_X9_fact_46
    · refine lv_tableIn (off := 46) (tgt := 47) hx hb d_X9_fact_1 (by omega) (by omega) (by rw [c1e]; rfl) (by decide) ?_
      have hG := g_neg (by omega) hG
      have hG := g_neg (by omega) hG
      have hG := g_neg (by omega) hG
      refine lv_aload_n hx hb d_X9_fact_47 rfl (lv_at hl 0 rfl) ?_
      refine r_geti X hw FL_X9_31 (KD_ward (by omega) (by omega)) (SH_ward (by omega) (by omega) (by decide)) d_X9_fact_48 ?_
      refine lv_topi (fun x5 ex5 => ?_)
      have hG := bnd_use ex5 hG
      exact r_iret X hr hlocks hw hS ⟨rfl, hG.trans eRR.symm⟩ d_X9_fact_51
theorem d_X9_receive_0 : decode c_X9_receive 0 = .ok (.aload_n 0, 1) := by decide +kernel
theorem d_X9_receive_1 : decode c_X9_receive 1 = .ok (.dup, 1) := by decide +kernel
theorem d_X9_receive_2 : decode c_X9_receive 2 = .ok (.getfield 21, 3) := by decide +kernel
theorem d_X9_receive_5 : decode c_X9_receive 5 = .ok (.iload_n 1, 1) := by decide +kernel
theorem d_X9_receive_6 : decode c_X9_receive 6 = .ok (.iadd, 1) := by decide +kernel
theorem d_X9_receive_7 : decode c_X9_receive 7 = .ok (.putfield 21, 3) := by decide +kernel
theorem d_X9_receive_10 : decode c_X9_receive 10 = .ok (.aload_n 0, 1) := by decide +kernel
theorem d_X9_receive_11 : decode c_X9_receive 11 = .ok (.dup, 1) := by decide +kernel
theorem d_X9_receive_12 : decode c_X9_receive 12 = .ok (.getfield 31, 3) := by decide +kernel
theorem d_X9_receive_15 : decode c_X9_receive 15 = .ok (.iload_n 1, 1) := by decide +kernel
theorem d_X9_receive_16 : decode c_X9_receive 16 = .ok (.iadd, 1) := by decide +kernel
theorem d_X9_receive_17 : decode c_X9_receive 17 = .ok (.putfield 31, 3) := by decide +kernel
theorem d_X9_receive_20 : decode c_X9_receive 20 = .ok (.return_, 1) := by decide +kernel
def kp_X9_receive (k : Nat) (ms : Int32) (a j : Nat) : Prop := a ≠ k
def f_X9_receive (v : tV) (k : Nat) (ms : Int32) : tV := bnd (v k 1) fun x1 => bnd (x1 + ms) fun x2 => bnd (up2 v k 1 x2) fun v3 => bnd (v3 k 4) fun x6 => bnd (x6 + ms) fun x7 => bnd (up2 v3 k 4 x7) fun v8 => v8
set_option maxHeartbeats 4000000 in
set_option maxRecDepth 100000 in
theorem ct_X9_receive (l : Launch) (D : va_G) (dA : Nat → ClassId) (ad : Nat → Nat) (v : tV) (hI : Inv v) (k : Nat) (ms : Int32) (ka : 300 ≤ k) (kb : k < 318) : Met l m_X9_receive [.code m_X9_receive c_X9_receive 2 none] ({ frames := 1, cells := 0, slots := 0, locals := 40 } : Room) (tP D dA ad v [.ref (ad k), .int ms]) (tQv D dA ad (fun v' => (Inv v' ∧ Kp (kp_X9_receive k ms) v v') ∧ v' = f_X9_receive v k ms)) 0 0 (tA ad) := by
  refine tMet (by decide) (Nat.le_of_ble_eq_true rfl) ?_
  intro p e s m below meth c ls X hr hlocks hw hl
  have X : CX p s m ([.ref (ad k), .int ms] : List Value).toArray c c_X9_receive N_X9 2 D dA := X
  have hx := X.1
  have hb := X.2.1
  have hS : va_S (tA ad) s.heap s.heap [] := va_S.rf
  have hl : lv_has ls 2 [(0, .ref (ad k)), (1, .int ms)] := hl
  obtain ⟨RR, eRR⟩ : ∃ z, f_X9_receive v k ms = z := ⟨_, rfl⟩
  have hK0 : Kp (kp_X9_receive k ms) v v := Kp.rf _ v
  have hG := eRR
  unfold f_X9_receive at hG
  refine lv_aload_n hx hb d_X9_receive_0 rfl (lv_at hl 0 rfl) ?_
  refine lv_dup hx hb d_X9_receive_1 rfl ?_
  refine r_geti X hw FL_X9_21 (KD_ward (by omega) (by omega)) (SH_ward (by omega) (by omega) (by decide)) d_X9_receive_2 ?_
  refine lv_topi (fun x1 ex1 => ?_)
  have hG := bnd_use ex1 hG
  refine lv_iload_n hx hb d_X9_receive_5 rfl (lv_at hl 1 rfl) ?_
  refine lv_iadd hx hb d_X9_receive_6 ?_
  refine lv_topi (fun x2 ex2 => ?_)
  have hG := bnd_use ex2 hG
  refine r_put X hw hS FP_X9_21 (KD_ward (by omega) (by omega)) (SH_ward (by omega) (by omega) (by decide)) ⟨rfl, rfl⟩ d_X9_receive_7 (fun H locs hw hS => ?_)
  obtain ⟨v3, ev3⟩ : ∃ z, z = up2 v k 1 x2 := ⟨_, rfl⟩
  rw [← ev3] at hw
  have hG := bnd_use ev3 hG
  have hI4 : Inv v3 := by rw [ev3]; exact Inv.put0 hI _ (RG_ward (by omega) (by omega))
  have hK5 : Kp (kp_X9_receive k ms) v v3 := by rw [ev3]; exact Kp.put hK0 _ (by unfold kp_X9_receive; omega)
  refine lv_aload_n hx hb d_X9_receive_10 rfl (lv_at hl 0 rfl) ?_
  refine lv_dup hx hb d_X9_receive_11 rfl ?_
  refine r_geti X hw FL_X9_31 (KD_ward (by omega) (by omega)) (SH_ward (by omega) (by omega) (by decide)) d_X9_receive_12 ?_
  refine lv_topi (fun x6 ex6 => ?_)
  have hG := bnd_use ex6 hG
  refine lv_iload_n hx hb d_X9_receive_15 rfl (lv_at hl 1 rfl) ?_
  refine lv_iadd hx hb d_X9_receive_16 ?_
  refine lv_topi (fun x7 ex7 => ?_)
  have hG := bnd_use ex7 hG
  refine r_put X hw hS FP_X9_31 (KD_ward (by omega) (by omega)) (SH_ward (by omega) (by omega) (by decide)) ⟨rfl, rfl⟩ d_X9_receive_17 (fun H locs hw hS => ?_)
  obtain ⟨v8, ev8⟩ : ∃ z, z = up2 v3 k 4 x7 := ⟨_, rfl⟩
  rw [← ev8] at hw
  have hG := bnd_use ev8 hG
  have hI9 : Inv v8 := by rw [ev8]; exact Inv.put0 hI4 _ (RG_ward (by omega) (by omega))
  have hK10 : Kp (kp_X9_receive k ms) v v8 := by rw [ev8]; exact Kp.put hK5 _ (by unfold kp_X9_receive; omega)
  exact r_vret X hr hlocks hw hS ⟨⟨hI9, hK10⟩, hG.trans eRR.symm⟩ d_X9_receive_20
theorem d_X9_heat_0 : decode c_X9_heat 0 = .ok (.aload_n 0, 1) := by decide +kernel
theorem d_X9_heat_1 : decode c_X9_heat 1 = .ok (.getfield 9, 3) := by decide +kernel
theorem d_X9_heat_4 : decode c_X9_heat 4 = .ok (.iload_n 1, 1) := by decide +kernel
theorem d_X9_heat_5 : decode c_X9_heat 5 = .ok (.iaload, 1) := by decide +kernel
theorem d_X9_heat_6 : decode c_X9_heat 6 = .ok (.istore_n 2, 1) := by decide +kernel
theorem d_X9_heat_7 : decode c_X9_heat 7 = .ok (.aload_n 0, 1) := by decide +kernel
theorem d_X9_heat_8 : decode c_X9_heat 8 = .ok (.getfield 21, 3) := by decide +kernel
theorem d_X9_heat_11 : decode c_X9_heat 11 = .ok (.iload_n 2, 1) := by decide +kernel
theorem d_X9_heat_12 : decode c_X9_heat 12 = .ok (.if_icmp .ge 13, 3) := by decide +kernel
theorem d_X9_heat_15 : decode c_X9_heat 15 = .ok (.aload_n 0, 1) := by decide +kernel
theorem d_X9_heat_16 : decode c_X9_heat 16 = .ok (.dup, 1) := by decide +kernel
theorem d_X9_heat_17 : decode c_X9_heat 17 = .ok (.getfield 25, 3) := by decide +kernel
theorem d_X9_heat_20 : decode c_X9_heat 20 = .ok (.iconst 1, 1) := by decide +kernel
theorem d_X9_heat_21 : decode c_X9_heat 21 = .ok (.iadd, 1) := by decide +kernel
theorem d_X9_heat_22 : decode c_X9_heat 22 = .ok (.putfield 25, 3) := by decide +kernel
theorem d_X9_heat_25 : decode c_X9_heat 25 = .ok (.aload_n 0, 1) := by decide +kernel
theorem d_X9_heat_26 : decode c_X9_heat 26 = .ok (.getfield 21, 3) := by decide +kernel
theorem d_X9_heat_29 : decode c_X9_heat 29 = .ok (.iload_n 2, 1) := by decide +kernel
theorem d_X9_heat_30 : decode c_X9_heat 30 = .ok (.invokestatic 34, 3) := by decide +kernel
theorem d_X9_heat_33 : decode c_X9_heat 33 = .ok (.istore_n 3, 1) := by decide +kernel
theorem d_X9_heat_34 : decode c_X9_heat 34 = .ok (.aload_n 0, 1) := by decide +kernel
theorem d_X9_heat_35 : decode c_X9_heat 35 = .ok (.dup, 1) := by decide +kernel
theorem d_X9_heat_36 : decode c_X9_heat 36 = .ok (.getfield 21, 3) := by decide +kernel
theorem d_X9_heat_39 : decode c_X9_heat 39 = .ok (.iload_n 3, 1) := by decide +kernel
theorem d_X9_heat_40 : decode c_X9_heat 40 = .ok (.isub, 1) := by decide +kernel
theorem d_X9_heat_41 : decode c_X9_heat 41 = .ok (.putfield 21, 3) := by decide +kernel
theorem d_X9_heat_44 : decode c_X9_heat 44 = .ok (.aload_n 0, 1) := by decide +kernel
theorem d_X9_heat_45 : decode c_X9_heat 45 = .ok (.dup, 1) := by decide +kernel
theorem d_X9_heat_46 : decode c_X9_heat 46 = .ok (.getfield 28, 3) := by decide +kernel
theorem d_X9_heat_49 : decode c_X9_heat 49 = .ok (.iload_n 3, 1) := by decide +kernel
theorem d_X9_heat_50 : decode c_X9_heat 50 = .ok (.iadd, 1) := by decide +kernel
theorem d_X9_heat_51 : decode c_X9_heat 51 = .ok (.putfield 28, 3) := by decide +kernel
theorem d_X9_heat_54 : decode c_X9_heat 54 = .ok (.return_, 1) := by decide +kernel
def kp_X9_heat (k : Nat) (cold : Int32) (a j : Nat) : Prop := a ≠ k
def f_X9_heat (v : tV) (k : Nat) (cold : Int32) : tV := bnd (k + 20) fun kc1 => bnd (v kc1 cold.toNatClampNeg) fun x2 => bnd (v k 1) fun x3 => (if x2 ≤ x3 then bnd (v k 1) fun x6 => bnd (if x2 < x6 then x2 else x6) fun x7 => bnd (v k 1) fun x8 => bnd (x8 - x7) fun x9 => bnd (up2 v k 1 x9) fun v10 => bnd (v10 k 3) fun x13 => bnd (x13 + x7) fun x14 => bnd (up2 v10 k 3 x14) fun v15 => v15 else bnd (v k 2) fun x19 => bnd (x19 + (1 : Int32)) fun x20 => bnd (up2 v k 2 x20) fun v21 => bnd (v21 k 1) fun x24 => bnd (if x2 < x24 then x2 else x24) fun x25 => bnd (v21 k 1) fun x26 => bnd (x26 - x25) fun x27 => bnd (up2 v21 k 1 x27) fun v28 => bnd (v28 k 3) fun x31 => bnd (x31 + x25) fun x32 => bnd (up2 v28 k 3 x32) fun v33 => v33)
set_option maxHeartbeats 4000000 in
set_option maxRecDepth 100000 in
theorem ct_X9_heat (l : Launch) (D : va_G) (dA : Nat → ClassId) (ad : Nat → Nat) (v : tV) (hI : Inv v) (k : Nat) (cold : Int32) (ka : 300 ≤ k) (kb : k < 318) (r_cold : Rg cold 0 4) : Met l m_X9_heat [.code m_X9_heat c_X9_heat 4 none] ({ frames := 1, cells := 0, slots := 0, locals := 40 } : Room) (tP D dA ad v [.ref (ad k), .int cold]) (tQv D dA ad (fun v' => (Inv v' ∧ Kp (kp_X9_heat k cold) v v') ∧ v' = f_X9_heat v k cold)) 0 0 (tA ad) := by
  refine tMet (by decide) (Nat.le_of_ble_eq_true rfl) ?_
  intro p e s m below meth c ls X hr hlocks hw hl
  have X : CX p s m ([.ref (ad k), .int cold] : List Value).toArray c c_X9_heat N_X9 4 D dA := X
  have hx := X.1
  have hb := X.2.1
  have hS : va_S (tA ad) s.heap s.heap [] := va_S.rf
  have hl : lv_has ls 4 [(0, .ref (ad k)), (1, .int cold)] := hl
  obtain ⟨RR, eRR⟩ : ∃ z, f_X9_heat v k cold = z := ⟨_, rfl⟩
  have hK0 : Kp (kp_X9_heat k cold) v v := Kp.rf _ v
  have hG := eRR
  unfold f_X9_heat at hG
  refine lv_aload_n hx hb d_X9_heat_0 rfl (lv_at hl 0 rfl) ?_
  refine r_getr (r := k + 20) X hw FL_X9_9 (KD_ward (by omega) (by omega)) (SH_ward0 (by omega) (by omega)) d_X9_heat_1 ?_
  refine r_nm (fun kc1 ekc1 => ?_)
  have hG := bnd_use ekc1 hG
  refine lv_iload_n hx hb d_X9_heat_4 rfl (lv_at hl 1 rfl) ?_
  refine r_iald X hw (KD_burns (by omega) (by omega)) (Rg.vp (b := 4) r_cold (by decide)) (SH_burns (by omega) (by omega)) d_X9_heat_5 ?_
  refine lv_topi (fun x2 ex2 => ?_)
  have hG := bnd_use ex2 hG
  refine lv_istore_n (lv' := [(2, .int x2), (0, .ref (ad k)), (1, .int cold)]) hx hb d_X9_heat_6 rfl hl (by decide) rfl (fun ls hl => ?_)
  refine lv_aload_n hx hb d_X9_heat_7 rfl (lv_at hl 1 rfl) ?_
  refine r_geti X hw FL_X9_21 (KD_ward (by omega) (by omega)) (SH_ward (by omega) (by omega) (by decide)) d_X9_heat_8 ?_
  refine lv_topi (fun x3 ex3 => ?_)
  have hG := bnd_use ex3 hG
  refine lv_iload_n hx hb d_X9_heat_11 rfl (lv_at hl 0 rfl) ?_
  refine lv_icmp_ge (tgt := 25) hx hb d_X9_heat_12 (by decide) (fun c4 => ?_) (fun c4 => ?_)
  · have f5 := i_le c4
    have hG := g_pos c4 hG
    refine lv_aload_n hx hb d_X9_heat_25 rfl (lv_at hl 1 rfl) ?_
    refine r_geti X hw FL_X9_21 (KD_ward (by omega) (by omega)) (SH_ward (by omega) (by omega) (by decide)) d_X9_heat_26 ?_
    refine lv_topi (fun x6 ex6 => ?_)
    have hG := bnd_use ex6 hG
    refine lv_iload_n hx hb d_X9_heat_29 rfl (lv_at hl 0 rfl) ?_
    refine va_mmin hx hb (X.2.2.1.trans hl.1.symm) X.2.2.2.1 (X.2.2.2.2.1 _ ml_X9_34) (X.2.2.2.2.1 _ ml_mins) (X.2.2.2.2.1 _ ml_mi) (X.2.2.2.2.1 _ ml_minc) (Nat.le_of_ble_eq_true rfl) (Nat.le_of_ble_eq_true rfl) (Nat.zero_le _) (Nat.zero_le _) d_X9_heat_30 ?_
    refine lv_topi (fun x7 ex7 => ?_)
    have hG := bnd_use ex7 hG
    refine lv_istore_n (lv' := [(3, .int x7), (2, .int x2), (0, .ref (ad k)), (1, .int cold)]) hx hb d_X9_heat_33 rfl hl (by decide) rfl (fun ls hl => ?_)
    refine lv_aload_n hx hb d_X9_heat_34 rfl (lv_at hl 2 rfl) ?_
    refine lv_dup hx hb d_X9_heat_35 rfl ?_
    refine r_geti X hw FL_X9_21 (KD_ward (by omega) (by omega)) (SH_ward (by omega) (by omega) (by decide)) d_X9_heat_36 ?_
    refine lv_topi (fun x8 ex8 => ?_)
    have hG := bnd_use ex8 hG
    refine lv_iload_n hx hb d_X9_heat_39 rfl (lv_at hl 0 rfl) ?_
    refine lv_isub hx hb d_X9_heat_40 ?_
    refine lv_topi (fun x9 ex9 => ?_)
    have hG := bnd_use ex9 hG
    refine r_put X hw hS FP_X9_21 (KD_ward (by omega) (by omega)) (SH_ward (by omega) (by omega) (by decide)) ⟨rfl, rfl⟩ d_X9_heat_41 (fun H locs hw hS => ?_)
    obtain ⟨v10, ev10⟩ : ∃ z, z = up2 v k 1 x9 := ⟨_, rfl⟩
    rw [← ev10] at hw
    have hG := bnd_use ev10 hG
    have hI11 : Inv v10 := by rw [ev10]; exact Inv.put0 hI _ (RG_ward (by omega) (by omega))
    have hK12 : Kp (kp_X9_heat k cold) v v10 := by rw [ev10]; exact Kp.put hK0 _ (by unfold kp_X9_heat; omega)
    refine lv_aload_n hx hb d_X9_heat_44 rfl (lv_at hl 2 rfl) ?_
    refine lv_dup hx hb d_X9_heat_45 rfl ?_
    refine r_geti X hw FL_X9_28 (KD_ward (by omega) (by omega)) (SH_ward (by omega) (by omega) (by decide)) d_X9_heat_46 ?_
    refine lv_topi (fun x13 ex13 => ?_)
    have hG := bnd_use ex13 hG
    refine lv_iload_n hx hb d_X9_heat_49 rfl (lv_at hl 0 rfl) ?_
    refine lv_iadd hx hb d_X9_heat_50 ?_
    refine lv_topi (fun x14 ex14 => ?_)
    have hG := bnd_use ex14 hG
    refine r_put X hw hS FP_X9_28 (KD_ward (by omega) (by omega)) (SH_ward (by omega) (by omega) (by decide)) ⟨rfl, rfl⟩ d_X9_heat_51 (fun H locs hw hS => ?_)
    obtain ⟨v15, ev15⟩ : ∃ z, z = up2 v10 k 3 x14 := ⟨_, rfl⟩
    rw [← ev15] at hw
    have hG := bnd_use ev15 hG
    have hI16 : Inv v15 := by rw [ev15]; exact Inv.put0 hI11 _ (RG_ward (by omega) (by omega))
    have hK17 : Kp (kp_X9_heat k cold) v v15 := by rw [ev15]; exact Kp.put hK12 _ (by unfold kp_X9_heat; omega)
    exact r_vret X hr hlocks hw hS ⟨⟨hI16, hK17⟩, hG.trans eRR.symm⟩ d_X9_heat_54
  · have f18 := i_nle c4
    have hG := g_neg c4 hG
    refine lv_aload_n hx hb d_X9_heat_15 rfl (lv_at hl 1 rfl) ?_
    refine lv_dup hx hb d_X9_heat_16 rfl ?_
    refine r_geti X hw FL_X9_25 (KD_ward (by omega) (by omega)) (SH_ward (by omega) (by omega) (by decide)) d_X9_heat_17 ?_
    refine lv_topi (fun x19 ex19 => ?_)
    have hG := bnd_use ex19 hG
    refine lv_iconst (v := 1) hx hb d_X9_heat_20 (by decide) ?_
    refine lv_iadd hx hb d_X9_heat_21 ?_
    refine lv_topi (fun x20 ex20 => ?_)
    have hG := bnd_use ex20 hG
    refine r_put X hw hS FP_X9_25 (KD_ward (by omega) (by omega)) (SH_ward (by omega) (by omega) (by decide)) ⟨rfl, rfl⟩ d_X9_heat_22 (fun H locs hw hS => ?_)
    obtain ⟨v21, ev21⟩ : ∃ z, z = up2 v k 2 x20 := ⟨_, rfl⟩
    rw [← ev21] at hw
    have hG := bnd_use ev21 hG
    have hI22 : Inv v21 := by rw [ev21]; exact Inv.put0 hI _ (RG_ward (by omega) (by omega))
    have hK23 : Kp (kp_X9_heat k cold) v v21 := by rw [ev21]; exact Kp.put hK0 _ (by unfold kp_X9_heat; omega)
    refine lv_aload_n hx hb d_X9_heat_25 rfl (lv_at hl 1 rfl) ?_
    refine r_geti X hw FL_X9_21 (KD_ward (by omega) (by omega)) (SH_ward (by omega) (by omega) (by decide)) d_X9_heat_26 ?_
    refine lv_topi (fun x24 ex24 => ?_)
    have hG := bnd_use ex24 hG
    refine lv_iload_n hx hb d_X9_heat_29 rfl (lv_at hl 0 rfl) ?_
    refine va_mmin hx hb (X.2.2.1.trans hl.1.symm) X.2.2.2.1 (X.2.2.2.2.1 _ ml_X9_34) (X.2.2.2.2.1 _ ml_mins) (X.2.2.2.2.1 _ ml_mi) (X.2.2.2.2.1 _ ml_minc) (Nat.le_of_ble_eq_true rfl) (Nat.le_of_ble_eq_true rfl) (Nat.zero_le _) (Nat.zero_le _) d_X9_heat_30 ?_
    refine lv_topi (fun x25 ex25 => ?_)
    have hG := bnd_use ex25 hG
    refine lv_istore_n (lv' := [(3, .int x25), (2, .int x2), (0, .ref (ad k)), (1, .int cold)]) hx hb d_X9_heat_33 rfl hl (by decide) rfl (fun ls hl => ?_)
    refine lv_aload_n hx hb d_X9_heat_34 rfl (lv_at hl 2 rfl) ?_
    refine lv_dup hx hb d_X9_heat_35 rfl ?_
    refine r_geti X hw FL_X9_21 (KD_ward (by omega) (by omega)) (SH_ward (by omega) (by omega) (by decide)) d_X9_heat_36 ?_
    refine lv_topi (fun x26 ex26 => ?_)
    have hG := bnd_use ex26 hG
    refine lv_iload_n hx hb d_X9_heat_39 rfl (lv_at hl 0 rfl) ?_
    refine lv_isub hx hb d_X9_heat_40 ?_
    refine lv_topi (fun x27 ex27 => ?_)
    have hG := bnd_use ex27 hG
    refine r_put X hw hS FP_X9_21 (KD_ward (by omega) (by omega)) (SH_ward (by omega) (by omega) (by decide)) ⟨rfl, rfl⟩ d_X9_heat_41 (fun H locs hw hS => ?_)
    obtain ⟨v28, ev28⟩ : ∃ z, z = up2 v21 k 1 x27 := ⟨_, rfl⟩
    rw [← ev28] at hw
    have hG := bnd_use ev28 hG
    have hI29 : Inv v28 := by rw [ev28]; exact Inv.put0 hI22 _ (RG_ward (by omega) (by omega))
    have hK30 : Kp (kp_X9_heat k cold) v v28 := by rw [ev28]; exact Kp.put hK23 _ (by unfold kp_X9_heat; omega)
    refine lv_aload_n hx hb d_X9_heat_44 rfl (lv_at hl 2 rfl) ?_
    refine lv_dup hx hb d_X9_heat_45 rfl ?_
    refine r_geti X hw FL_X9_28 (KD_ward (by omega) (by omega)) (SH_ward (by omega) (by omega) (by decide)) d_X9_heat_46 ?_
    refine lv_topi (fun x31 ex31 => ?_)
    have hG := bnd_use ex31 hG
    refine lv_iload_n hx hb d_X9_heat_49 rfl (lv_at hl 0 rfl) ?_
    refine lv_iadd hx hb d_X9_heat_50 ?_
    refine lv_topi (fun x32 ex32 => ?_)
    have hG := bnd_use ex32 hG
    refine r_put X hw hS FP_X9_28 (KD_ward (by omega) (by omega)) (SH_ward (by omega) (by omega) (by decide)) ⟨rfl, rfl⟩ d_X9_heat_51 (fun H locs hw hS => ?_)
    obtain ⟨v33, ev33⟩ : ∃ z, z = up2 v28 k 3 x32 := ⟨_, rfl⟩
    rw [← ev33] at hw
    have hG := bnd_use ev33 hG
    have hI34 : Inv v33 := by rw [ev33]; exact Inv.put0 hI29 _ (RG_ward (by omega) (by omega))
    have hK35 : Kp (kp_X9_heat k cold) v v33 := by rw [ev33]; exact Kp.put hK30 _ (by unfold kp_X9_heat; omega)
    exact r_vret X hr hlocks hw hS ⟨⟨hI34, hK35⟩, hG.trans eRR.symm⟩ d_X9_heat_54
