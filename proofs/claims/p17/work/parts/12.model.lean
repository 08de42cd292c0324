theorem pk_nb2 {x z : Int32} (e : x = z.toInt8.toInt32) : narrow .byte (.int x) = .int x := by rw [e]; exact pk_nb z
theorem RG_kr {j : Nat} (h : j ≠ 36) : RG 448 j = none := by
  show (match j with | 36 => some ((0, 200) : Int × Int) | _ => none) = none
  split
  · exact absurd rfl h
  · rfl
theorem RG_kb0 {j : Nat} (h : j % 4 = 0) : RG 449 j = some (0, 19) := by
  show (if j % 4 = 0 then some ((0, 19) : Int × Int) else none) = _
  rw [if_pos h]
theorem RG_kbn {j : Nat} (h : j % 4 ≠ 0) : RG 449 j = none := by
  show (if j % 4 = 0 then some ((0, 19) : Int × Int) else none) = _
  rw [if_neg h]
theorem rg_mule {x a b : Int32} {l h c : Int} (e : x = a * b) (rb : Rg b l h) (hc : a.toInt = c) (q0 : 0 ≤ c) (q : -2147483648 ≤ c * l ∧ c * h ≤ 2147483647) : x.toInt = c * b.toInt := by
  obtain ⟨b1, b2⟩ := rb
  have m1 : c * l ≤ c * b.toInt := Int.mul_le_mul_of_nonneg_left b1 q0
  have m2 : c * b.toInt ≤ c * h := Int.mul_le_mul_of_nonneg_left b2 q0
  rw [e, i_mul (by rw [hc]; omega) (by rw [hc]; omega), hc]
theorem rg_nat {a : Int32} {M : Int} (h : Rg a 0 M) : ∃ n : Nat, a = nI n ∧ (n : Int) = a.toInt ∧ n < 2 ^ 31 := by
  obtain ⟨h1, h2⟩ := h
  have h3 := Int32.toInt_lt a
  refine ⟨a.toInt.toNat, ?_, by omega, by omega⟩
  apply Int32.toInt_inj.mp
  rw [nI_toInt (by omega)]
  omega
theorem rg_div {x a b : Int32} {M N : Int} {L : Int} (e : x = a / b) (ra : Rg a 0 M) (rb : Rg b L N) (h1 : 0 < L) (_ : True) : Rg x 0 M := by
  obtain ⟨n, rfl, en, hn⟩ := rg_nat ra
  obtain ⟨k, rfl, ek, hk⟩ := rg_nat (rg_w rb (Int.le_of_lt h1) (Int.le_refl N))
  have hk0 : 0 < k := by have := rb.1; omega
  rw [pk_div hn hk0 hk] at e
  have hd : n / k ≤ n := Nat.div_le_self n k
  generalize n / k = d at e hd
  rw [e]
  unfold Rg
  rw [nI_toInt (by omega)]
  have := ra.2
  exact ⟨by omega, by omega⟩
theorem rg_rem {x a b : Int32} {M N : Int} {L : Int} (e : x = a - a / b * b) (ra : Rg a 0 M) (rb : Rg b L N) (h1 : 0 < L) (_ : True) : Rg x 0 (N - 1) := by
  obtain ⟨n, rfl, en, hn⟩ := rg_nat ra
  obtain ⟨k, rfl, ek, hk⟩ := rg_nat (rg_w rb (Int.le_of_lt h1) (Int.le_refl N))
  have hk0 : 0 < k := by have := rb.1; omega
  rw [pk_rem hn hk0 hk] at e
  have hd : n % k < k := Nat.mod_lt n hk0
  generalize n % k = d at e hd
  rw [e]
  unfold Rg
  rw [nI_toInt (by omega)]
  have := rb.2
  exact ⟨by omega, by omega⟩
theorem d_X11_in_0 : decode c_X11_in 0 = .ok (.iload_n 0, 1) := by decide +kernel
theorem d_X11_in_1 : decode c_X11_in 1 = .ok (.iload_n 1, 1) := by decide +kernel
theorem d_X11_in_2 : decode c_X11_in 2 = .ok (.if_icmp .lt 12, 3) := by decide +kernel
theorem d_X11_in_5 : decode c_X11_in 5 = .ok (.iload_n 0, 1) := by decide +kernel
theorem d_X11_in_6 : decode c_X11_in 6 = .ok (.iload_n 2, 1) := by decide +kernel
theorem d_X11_in_7 : decode c_X11_in 7 = .ok (.if_icmp .gt 7, 3) := by decide +kernel
theorem d_X11_in_10 : decode c_X11_in 10 = .ok (.iconst 1, 1) := by decide +kernel
theorem d_X11_in_11 : decode c_X11_in 11 = .ok (.goto 4, 3) := by decide +kernel
theorem d_X11_in_14 : decode c_X11_in 14 = .ok (.iconst 0, 1) := by decide +kernel
theorem d_X11_in_15 : decode c_X11_in 15 = .ok (.ireturn, 1) := by decide +kernel
set_option maxHeartbeats 4000000 in
set_option maxRecDepth 100000 in
theorem ct_X11_in (l : Launch) (D : va_G) (dA : Nat → ClassId) (ad : Nat → Nat) (v : tV) (hI : Inv v) (x : Int32) (lo : Int32) (hi : Int32) : Met l m_X11_in [.code m_X11_in c_X11_in 3 (some .boolean)] ({ frames := 1, cells := 0, slots := 0, locals := 40 } : Room) (tP D dA ad v [.int x, .int lo, .int hi]) (tQi D dA ad (fun r v' => v' = v ∧ ((r = 1 ∧ lo.toInt ≤ x.toInt ∧ x.toInt ≤ hi.toInt) ∨ (r = 0 ∧ ¬ (lo.toInt ≤ x.toInt ∧ x.toInt ≤ hi.toInt))))) 0 0 (tA ad) := by
  refine tMet (by decide) (Nat.le_of_ble_eq_true rfl) ?_
  intro p e s m below meth c ls X hr hlocks hw hl
  have X : CX p s m ([.int x, .int lo, .int hi] : List Value).toArray c c_X11_in N_X11 3 D dA := X
  have hx := X.1
  have hb := X.2.1
  have hS : va_S (tA ad) s.heap s.heap [] := va_S.rf
  have hl : lv_has ls 3 [(0, .int x), (1, .int lo), (2, .int hi)] := hl
  refine lv_iload_n hx hb d_X11_in_0 rfl (lv_at hl 0 rfl) ?_
  refine lv_iload_n hx hb d_X11_in_1 rfl (lv_at hl 1 rfl) ?_
  refine lv_icmp_lt (tgt := 14) hx hb d_X11_in_2 (by decide) (fun c1 => ?_) (fun c1 => ?_)
  · have f2 := i_lt c1
    refine lv_iconst (v := 0) hx hb d_X11_in_14 (by decide) ?_
    exact r_zret X hr hlocks hw hS rfl ⟨rfl, Or.inr ⟨rfl, by omega⟩⟩ d_X11_in_15
  · have f3 := i_nlt c1
    refine lv_iload_n hx hb d_X11_in_5 rfl (lv_at hl 0 rfl) ?_
    refine lv_iload_n hx hb d_X11_in_6 rfl (lv_at hl 2 rfl) ?_
    refine lv_icmp_gt (tgt := 14) hx hb d_X11_in_7 (by decide) (fun c4 => ?_) (fun c4 => ?_)
    · have f5 := i_lt c4
      refine lv_iconst (v := 0) hx hb d_X11_in_14 (by decide) ?_
      exact r_zret X hr hlocks hw hS rfl ⟨rfl, Or.inr ⟨rfl, by omega⟩⟩ d_X11_in_15
    · have f6 := i_nlt c4
      refine lv_iconst (v := 1) hx hb d_X11_in_10 (by decide) ?_
      refine lv_goto (tgt := 15) hx hb d_X11_in_11 (by decide) ?_
      exact r_zret X hr hlocks hw hS rfl ⟨rfl, Or.inl ⟨rfl, by omega, by omega⟩⟩ d_X11_in_15
theorem d_X11_isShip_0 : decode c_X11_isShip 0 = .ok (.iload_n 1, 1) := by decide +kernel
theorem d_X11_isShip_1 : decode c_X11_isShip 1 = .ok (.iconst 0, 1) := by decide +kernel
theorem d_X11_isShip_2 : decode c_X11_isShip 2 = .ok (.aload_n 0, 1) := by decide +kernel
theorem d_X11_isShip_3 : decode c_X11_isShip 3 = .ok (.getfield 166, 3) := by decide +kernel
theorem d_X11_isShip_6 : decode c_X11_isShip 6 = .ok (.iconst 1, 1) := by decide +kernel
theorem d_X11_isShip_7 : decode c_X11_isShip 7 = .ok (.isub, 1) := by decide +kernel
theorem d_X11_isShip_8 : decode c_X11_isShip 8 = .ok (.invokestatic 169, 3) := by decide +kernel
theorem d_X11_isShip_11 : decode c_X11_isShip 11 = .ok (.ireturn, 1) := by decide +kernel
set_option maxHeartbeats 4000000 in
set_option maxRecDepth 100000 in
theorem ct_X11_isShip_400 (l : Launch) (D : va_G) (dA : Nat → ClassId) (ad : Nat → Nat) (v : tV) (hI : Inv v) (si : Int32) : Met l m_X11_isShip [.code m_X11_isShip c_X11_isShip 2 (some .boolean)] ({ frames := 2, cells := 0, slots := 0, locals := 62 } : Room) (tP D dA ad v [.ref (ad 400), .int si]) (tQi D dA ad (fun r v' => v' = v ∧ ((r = 1 ∧ 0 ≤ si.toInt ∧ si.toInt ≤ (v 400 1).toInt - 1) ∨ (r = 0 ∧ ¬ (0 ≤ si.toInt ∧ si.toInt ≤ (v 400 1).toInt - 1))))) 0 0 (tA ad) := by
  refine tMet (by decide) (Nat.le_of_ble_eq_true rfl) ?_
  intro p e s m below meth c ls X hr hlocks hw hl
  have X : CX p s m ([.ref (ad 400), .int si] : List Value).toArray c c_X11_isShip N_X11 2 D dA := X
  have hx := X.1
  have hb := X.2.1
  have hS : va_S (tA ad) s.heap s.heap [] := va_S.rf
  have hl : lv_has ls 2 [(0, .ref (ad 400)), (1, .int si)] := hl
  refine lv_iload_n hx hb d_X11_isShip_0 rfl (lv_at hl 1 rfl) ?_
  refine lv_iconst (v := 0) hx hb d_X11_isShip_1 (by decide) ?_
  refine lv_aload_n hx hb d_X11_isShip_2 rfl (lv_at hl 0 rfl) ?_
  refine r_geti X hw FL_X11_166 (rfl : KD 400 = _) rfl d_X11_isShip_3 ?_
  refine lv_topi (fun x1 ex1 => ?_)
  have r2 : Rg x1 0 20 := by rw [ex1]; exact hI _ _ _ _ rfl
  have hm3 : v 400 1 = x1 := ex1.symm
  refine lv_iconst (v := 1) hx hb d_X11_isShip_6 (by decide) ?_
  refine lv_isub hx hb d_X11_isShip_7 ?_
  refine lv_topi (fun x4 ex4 => ?_)
  have r5 : Rg x4 (-1) 19 := rg_sub ex4 r2 (⟨by decide, by decide⟩ : Rg 1 1 1) (by decide) (by decide)
  have s6 : x4.toInt = x1.toInt - (1 : Int32).toInt := by rw [ex4]; exact i_sub (by obtain ⟨_, _⟩ := r2; obtain ⟨_, _⟩ := (⟨by decide, by decide⟩ : Rg 1 1 1); omega) (by obtain ⟨_, _⟩ := r2; obtain ⟨_, _⟩ := (⟨by decide, by decide⟩ : Rg 1 1 1); omega)
  have s6l : (1 : Int32).toInt = 1 := rfl
  refine r_ci (r_runS (n := 3) (As := [.int si, .int 0, .int x4]) (rest := []) X hw (ct_X11_in l D dA ad v hI si 0 x4) gc_X11_169 (by decide +kernel) ⟨rfl, rfl, Nat.le_of_ble_eq_true rfl, Nat.le_of_ble_eq_true rfl⟩ rfl hl.1 rfl (Nat.le_of_ble_eq_true rfl) ⟨Nat.zero_le _, Nat.zero_le _⟩ d_X11_isShip_8) hS (fun x8 v9 H locs hp7 hw hS => ?_)
  obtain ⟨ev9, hp7⟩ := hp7
  rw [ev9] at hw
  rcases hp7 with ⟨rfl, w10a, w10b⟩ | ⟨rfl, w10n⟩
  · skip
    have r11 : Rg si 0 19 := by obtain ⟨_, _⟩ := (rg_any si); have : (0 : Int32).toInt = 0 := rfl; obtain ⟨_, _⟩ := r5; exact ⟨by omega, by omega⟩
    exact r_zret X hr hlocks hw hS rfl ⟨rfl, Or.inl ⟨rfl, by have q := congrArg Int32.toInt hm3; have : (0 : Int32).toInt = 0 := rfl; omega, by have q := congrArg Int32.toInt hm3; have : (0 : Int32).toInt = 0 := rfl; omega⟩⟩ d_X11_isShip_11
  · skip
    exact r_zret X hr hlocks hw hS rfl ⟨rfl, Or.inr ⟨rfl, by have q := congrArg Int32.toInt hm3; have : (0 : Int32).toInt = 0 := rfl; omega⟩⟩ d_X11_isShip_11
theorem d_X11_isBuyer_0 : decode c_X11_isBuyer 0 = .ok (.iload_n 1, 1) := by decide +kernel
theorem d_X11_isBuyer_1 : decode c_X11_isBuyer 1 = .ok (.iconst 0, 1) := by decide +kernel
theorem d_X11_isBuyer_2 : decode c_X11_isBuyer 2 = .ok (.aload_n 0, 1) := by decide +kernel
theorem d_X11_isBuyer_3 : decode c_X11_isBuyer 3 = .ok (.getfield 173, 3) := by decide +kernel
theorem d_X11_isBuyer_6 : decode c_X11_isBuyer 6 = .ok (.iconst 1, 1) := by decide +kernel
theorem d_X11_isBuyer_7 : decode c_X11_isBuyer 7 = .ok (.isub, 1) := by decide +kernel
theorem d_X11_isBuyer_8 : decode c_X11_isBuyer 8 = .ok (.invokestatic 169, 3) := by decide +kernel
theorem d_X11_isBuyer_11 : decode c_X11_isBuyer 11 = .ok (.ireturn, 1) := by decide +kernel
set_option maxHeartbeats 4000000 in
set_option maxRecDepth 100000 in
theorem ct_X11_isBuyer_400 (l : Launch) (D : va_G) (dA : Nat → ClassId) (ad : Nat → Nat) (v : tV) (hI : Inv v) (bi : Int32) : Met l m_X11_isBuyer [.code m_X11_isBuyer c_X11_isBuyer 2 (some .boolean)] ({ frames := 2, cells := 0, slots := 0, locals := 62 } : Room) (tP D dA ad v [.ref (ad 400), .int bi]) (tQi D dA ad (fun r v' => v' = v ∧ ((r = 1 ∧ 0 ≤ bi.toInt ∧ bi.toInt ≤ (v 400 15).toInt - 1) ∨ (r = 0 ∧ ¬ (0 ≤ bi.toInt ∧ bi.toInt ≤ (v 400 15).toInt - 1))))) 0 0 (tA ad) := by
  refine tMet (by decide) (Nat.le_of_ble_eq_true rfl) ?_
  intro p e s m below meth c ls X hr hlocks hw hl
  have X : CX p s m ([.ref (ad 400), .int bi] : List Value).toArray c c_X11_isBuyer N_X11 2 D dA := X
  have hx := X.1
  have hb := X.2.1
  have hS : va_S (tA ad) s.heap s.heap [] := va_S.rf
  have hl : lv_has ls 2 [(0, .ref (ad 400)), (1, .int bi)] := hl
  refine lv_iload_n hx hb d_X11_isBuyer_0 rfl (lv_at hl 1 rfl) ?_
  refine lv_iconst (v := 0) hx hb d_X11_isBuyer_1 (by decide) ?_
  refine lv_aload_n hx hb d_X11_isBuyer_2 rfl (lv_at hl 0 rfl) ?_
  refine r_geti X hw FL_X11_173 (rfl : KD 400 = _) rfl d_X11_isBuyer_3 ?_
  refine lv_topi (fun x1 ex1 => ?_)
  have r2 : Rg x1 0 10 := by rw [ex1]; exact hI _ _ _ _ rfl
  have hm3 : v 400 15 = x1 := ex1.symm
  refine lv_iconst (v := 1) hx hb d_X11_isBuyer_6 (by decide) ?_
  refine lv_isub hx hb d_X11_isBuyer_7 ?_
  refine lv_topi (fun x4 ex4 => ?_)
  have r5 : Rg x4 (-1) 9 := rg_sub ex4 r2 (⟨by decide, by decide⟩ : Rg 1 1 1) (by decide) (by decide)
  have s6 : x4.toInt = x1.toInt - (1 : Int32).toInt := by rw [ex4]; exact i_sub (by obtain ⟨_, _⟩ := r2; obtain ⟨_, _⟩ := (⟨by decide, by decide⟩ : Rg 1 1 1); omega) (by obtain ⟨_, _⟩ := r2; obtain ⟨_, _⟩ := (⟨by decide, by decide⟩ : Rg 1 1 1); omega)
  have s6l : (1 : Int32).toInt = 1 := rfl
  refine r_ci (r_runS (n := 3) (As := [.int bi, .int 0, .int x4]) (rest := []) X hw (ct_X11_in l D dA ad v hI bi 0 x4) gc_X11_169 (by decide +kernel) ⟨rfl, rfl, Nat.le_of_ble_eq_true rfl, Nat.le_of_ble_eq_true rfl⟩ rfl hl.1 rfl (Nat.le_of_ble_eq_true rfl) ⟨Nat.zero_le _, Nat.zero_le _⟩ d_X11_isBuyer_8) hS (fun x8 v9 H locs hp7 hw hS => ?_)
  obtain ⟨ev9, hp7⟩ := hp7
  rw [ev9] at hw
  rcases hp7 with ⟨rfl, w10a, w10b⟩ | ⟨rfl, w10n⟩
  · skip
    have r11 : Rg bi 0 9 := by obtain ⟨_, _⟩ := (rg_any bi); have : (0 : Int32).toInt = 0 := rfl; obtain ⟨_, _⟩ := r5; exact ⟨by omega, by omega⟩
    exact r_zret X hr hlocks hw hS rfl ⟨rfl, Or.inl ⟨rfl, by have q := congrArg Int32.toInt hm3; have : (0 : Int32).toInt = 0 := rfl; omega, by have q := congrArg Int32.toInt hm3; have : (0 : Int32).toInt = 0 := rfl; omega⟩⟩ d_X11_isBuyer_11
  · skip
    exact r_zret X hr hlocks hw hS rfl ⟨rfl, Or.inr ⟨rfl, by have q := congrArg Int32.toInt hm3; have : (0 : Int32).toInt = 0 := rfl; omega⟩⟩ d_X11_isBuyer_11
theorem d_X11_isWard_0 : decode c_X11_isWard 0 = .ok (.iload_n 0, 1) := by decide +kernel
theorem d_X11_isWard_1 : decode c_X11_isWard 1 = .ok (.iconst 0, 1) := by decide +kernel
theorem d_X11_isWard_2 : decode c_X11_isWard 2 = .ok (.iconst 5, 1) := by decide +kernel
theorem d_X11_isWard_3 : decode c_X11_isWard 3 = .ok (.invokestatic 169, 3) := by decide +kernel
theorem d_X11_isWard_6 : decode c_X11_isWard 6 = .ok (.ireturn, 1) := by decide +kernel
set_option maxHeartbeats 4000000 in
set_option maxRecDepth 100000 in
theorem ct_X11_isWard (l : Launch) (D : va_G) (dA : Nat → ClassId) (ad : Nat → Nat) (v : tV) (hI : Inv v) (x : Int32) : Met l m_X11_isWard [.code m_X11_isWard c_X11_isWard 1 (some .boolean)] ({ frames := 2, cells := 0, slots := 0, locals := 62 } : Room) (tP D dA ad v [.int x]) (tQi D dA ad (fun r v' => v' = v ∧ ((r = 1 ∧ 0 ≤ x.toInt ∧ x.toInt ≤ 5) ∨ (r = 0 ∧ ¬ (0 ≤ x.toInt ∧ x.toInt ≤ 5))))) 0 0 (tA ad) := by
  refine tMet (by decide) (Nat.le_of_ble_eq_true rfl) ?_
  intro p e s m below meth c ls X hr hlocks hw hl
  have X : CX p s m ([.int x] : List Value).toArray c c_X11_isWard N_X11 1 D dA := X
  have hx := X.1
  have hb := X.2.1
  have hS : va_S (tA ad) s.heap s.heap [] := va_S.rf
  have hl : lv_has ls 1 [(0, .int x)] := hl
  refine lv_iload_n hx hb d_X11_isWard_0 rfl (lv_at hl 0 rfl) ?_
  refine lv_iconst (v := 0) hx hb d_X11_isWard_1 (by decide) ?_
  refine lv_iconst (v := 5) hx hb d_X11_isWard_2 (by decide) ?_
  refine r_ci (r_runS (n := 3) (As := [.int x, .int 0, .int 5]) (rest := []) X hw (ct_X11_in l D dA ad v hI x 0 5) gc_X11_169 (by decide +kernel) ⟨rfl, rfl, Nat.le_of_ble_eq_true rfl, Nat.le_of_ble_eq_true rfl⟩ rfl hl.1 rfl (Nat.le_of_ble_eq_true rfl) ⟨Nat.zero_le _, Nat.zero_le _⟩ d_X11_isWard_3) hS (fun x2 v3 H locs hp1 hw hS => ?_)
  obtain ⟨ev3, hp1⟩ := hp1
  rw [ev3] at hw
  rcases hp1 with ⟨rfl, w4a, w4b⟩ | ⟨rfl, w4n⟩
  · skip
    have r5 : Rg x 0 5 := by obtain ⟨_, _⟩ := (rg_any x); have : (0 : Int32).toInt = 0 := rfl; have : (5 : Int32).toInt = 5 := rfl; exact ⟨by omega, by omega⟩
    exact r_zret X hr hlocks hw hS rfl ⟨rfl, Or.inl ⟨rfl, by have : (0 : Int32).toInt = 0 := rfl; have : (5 : Int32).toInt = 5 := rfl; omega, by have : (0 : Int32).toInt = 0 := rfl; have : (5 : Int32).toInt = 5 := rfl; omega⟩⟩ d_X11_isWard_6
  · skip
    exact r_zret X hr hlocks hw hS rfl ⟨rfl, Or.inr ⟨rfl, by have : (0 : Int32).toInt = 0 := rfl; have : (5 : Int32).toInt = 5 := rfl; omega⟩⟩ d_X11_isWard_6
theorem d_X11_isDigit_0 : decode c_X11_isDigit 0 = .ok (.iload_n 0, 1) := by decide +kernel
theorem d_X11_isDigit_1 : decode c_X11_isDigit 1 = .ok (.bipush 48, 2) := by decide +kernel
theorem d_X11_isDigit_3 : decode c_X11_isDigit 3 = .ok (.if_icmp .lt 13, 3) := by decide +kernel
theorem d_X11_isDigit_6 : decode c_X11_isDigit 6 = .ok (.iload_n 0, 1) := by decide +kernel
theorem d_X11_isDigit_7 : decode c_X11_isDigit 7 = .ok (.bipush 57, 2) := by decide +kernel
theorem d_X11_isDigit_9 : decode c_X11_isDigit 9 = .ok (.if_icmp .gt 7, 3) := by decide +kernel
theorem d_X11_isDigit_12 : decode c_X11_isDigit 12 = .ok (.iconst 1, 1) := by decide +kernel
theorem d_X11_isDigit_13 : decode c_X11_isDigit 13 = .ok (.goto 4, 3) := by decide +kernel
theorem d_X11_isDigit_16 : decode c_X11_isDigit 16 = .ok (.iconst 0, 1) := by decide +kernel
theorem d_X11_isDigit_17 : decode c_X11_isDigit 17 = .ok (.ireturn, 1) := by decide +kernel
set_option maxHeartbeats 4000000 in
set_option maxRecDepth 100000 in
theorem ct_X11_isDigit (l : Launch) (D : va_G) (dA : Nat → ClassId) (ad : Nat → Nat) (v : tV) (hI : Inv v) (x : Int32) : Met l m_X11_isDigit [.code m_X11_isDigit c_X11_isDigit 1 (some .boolean)] ({ frames := 1, cells := 0, slots := 0, locals := 40 } : Room) (tP D dA ad v [.int x]) (tQi D dA ad (fun r v' => v' = v ∧ ((r = 1 ∧ 48 ≤ x.toInt ∧ x.toInt ≤ 57) ∨ (r = 0 ∧ ¬ (48 ≤ x.toInt ∧ x.toInt ≤ 57))))) 0 0 (tA ad) := by
  refine tMet (by decide) (Nat.le_of_ble_eq_true rfl) ?_
  intro p e s m below meth c ls X hr hlocks hw hl
  have X : CX p s m ([.int x] : List Value).toArray c c_X11_isDigit N_X11 1 D dA := X
  have hx := X.1
  have hb := X.2.1
  have hS : va_S (tA ad) s.heap s.heap [] := va_S.rf
  have hl : lv_has ls 1 [(0, .int x)] := hl
  refine lv_iload_n hx hb d_X11_isDigit_0 rfl (lv_at hl 0 rfl) ?_
  refine lv_bipush (v := 48) hx hb d_X11_isDigit_1 (by decide) ?_
  refine lv_icmp_lt (tgt := 16) hx hb d_X11_isDigit_3 (by decide) (fun c1 => ?_) (fun c1 => ?_)
  · have f2 := i_lt c1
    have r3 : Rg x (-2147483648) 47 := by obtain ⟨a1, a2⟩ := (rg_any x); obtain ⟨b1, b2⟩ := (⟨by decide, by decide⟩ : Rg 48 48 48); have f := i_lt c1; exact ⟨by omega, by omega⟩
    refine lv_iconst (v := 0) hx hb d_X11_isDigit_16 (by decide) ?_
    exact r_zret X hr hlocks hw hS rfl ⟨rfl, Or.inr ⟨rfl, by have : (48 : Int32).toInt = 48 := rfl; have : (57 : Int32).toInt = 57 := rfl; omega⟩⟩ d_X11_isDigit_17
  · have f4 := i_nlt c1
    have r5 : Rg x 48 2147483647 := by obtain ⟨a1, a2⟩ := (rg_any x); obtain ⟨b1, b2⟩ := (⟨by decide, by decide⟩ : Rg 48 48 48); have f := i_nlt c1; exact ⟨by omega, by omega⟩
    refine lv_iload_n hx hb d_X11_isDigit_6 rfl (lv_at hl 0 rfl) ?_
    refine lv_bipush (v := 57) hx hb d_X11_isDigit_7 (by decide) ?_
    refine lv_icmp_gt (tgt := 16) hx hb d_X11_isDigit_9 (by decide) (fun c6 => ?_) (fun c6 => ?_)
    · have f7 := i_lt c6
      have r8 : Rg x 58 2147483647 := by obtain ⟨a1, a2⟩ := r5; obtain ⟨b1, b2⟩ := (⟨by decide, by decide⟩ : Rg 57 57 57); have f := i_lt c6; exact ⟨by omega, by omega⟩
      refine lv_iconst (v := 0) hx hb d_X11_isDigit_16 (by decide) ?_
      exact r_zret X hr hlocks hw hS rfl ⟨rfl, Or.inr ⟨rfl, by have : (48 : Int32).toInt = 48 := rfl; have : (57 : Int32).toInt = 57 := rfl; omega⟩⟩ d_X11_isDigit_17
    · have f9 := i_nlt c6
      have r10 : Rg x 48 57 := by obtain ⟨a1, a2⟩ := r5; obtain ⟨b1, b2⟩ := (⟨by decide, by decide⟩ : Rg 57 57 57); have f := i_nlt c6; exact ⟨by omega, by omega⟩
      refine lv_iconst (v := 1) hx hb d_X11_isDigit_12 (by decide) ?_
      refine lv_goto (tgt := 17) hx hb d_X11_isDigit_13 (by decide) ?_
      exact r_zret X hr hlocks hw hS rfl ⟨rfl, Or.inl ⟨rfl, by have : (48 : Int32).toInt = 48 := rfl; have : (57 : Int32).toInt = 57 := rfl; omega, by have : (48 : Int32).toInt = 48 := rfl; have : (57 : Int32).toInt = 57 := rfl; omega⟩⟩ d_X11_isDigit_17
theorem d_X11_ship_0 : decode c_X11_ship 0 = .ok (.iload_n 1, 1) := by decide +kernel
theorem d_X11_ship_1 : decode c_X11_ship 1 = .ok (.iconst 0, 1) := by decide +kernel
theorem d_X11_ship_2 : decode c_X11_ship 2 = .ok (.iconst 3, 1) := by decide +kernel
theorem d_X11_ship_3 : decode c_X11_ship 3 = .ok (.invokestatic 169, 3) := by decide +kernel
theorem d_X11_ship_6 : decode c_X11_ship 6 = .ok (.ifCond .eq 55, 3) := by decide +kernel
theorem d_X11_ship_9 : decode c_X11_ship 9 = .ok (.iload_n 2, 1) := by decide +kernel
theorem d_X11_ship_10 : decode c_X11_ship 10 = .ok (.iconst 0, 1) := by decide +kernel
theorem d_X11_ship_11 : decode c_X11_ship 11 = .ok (.iconst 3, 1) := by decide +kernel
theorem d_X11_ship_12 : decode c_X11_ship 12 = .ok (.invokestatic 169, 3) := by decide +kernel
theorem d_X11_ship_15 : decode c_X11_ship 15 = .ok (.ifCond .eq 46, 3) := by decide +kernel
theorem d_X11_ship_18 : decode c_X11_ship 18 = .ok (.iload_n 3, 1) := by decide +kernel
theorem d_X11_ship_19 : decode c_X11_ship 19 = .ok (.iconst 1, 1) := by decide +kernel
theorem d_X11_ship_20 : decode c_X11_ship 20 = .ok (.sipush 400, 3) := by decide +kernel
theorem d_X11_ship_23 : decode c_X11_ship 23 = .ok (.invokestatic 169, 3) := by decide +kernel
theorem d_X11_ship_26 : decode c_X11_ship 26 = .ok (.ifCond .eq 35, 3) := by decide +kernel
theorem d_X11_ship_29 : decode c_X11_ship 29 = .ok (.iload 4, 2) := by decide +kernel
theorem d_X11_ship_31 : decode c_X11_ship 31 = .ok (.iconst 1, 1) := by decide +kernel
theorem d_X11_ship_32 : decode c_X11_ship 32 = .ok (.bipush 99, 2) := by decide +kernel
theorem d_X11_ship_34 : decode c_X11_ship 34 = .ok (.invokestatic 169, 3) := by decide +kernel
theorem d_X11_ship_37 : decode c_X11_ship 37 = .ok (.ifCond .eq 24, 3) := by decide +kernel
theorem d_X11_ship_40 : decode c_X11_ship 40 = .ok (.iload 5, 2) := by decide +kernel
theorem d_X11_ship_42 : decode c_X11_ship 42 = .ok (.iconst 0, 1) := by decide +kernel
theorem d_X11_ship_43 : decode c_X11_ship 43 = .ok (.iconst 5, 1) := by decide +kernel
theorem d_X11_ship_44 : decode c_X11_ship 44 = .ok (.invokestatic 169, 3) := by decide +kernel
theorem d_X11_ship_47 : decode c_X11_ship 47 = .ok (.ifCond .eq 14, 3) := by decide +kernel
theorem d_X11_ship_50 : decode c_X11_ship 50 = .ok (.iload 6, 2) := by decide +kernel
theorem d_X11_ship_52 : decode c_X11_ship 52 = .ok (.iconst 1, 1) := by decide +kernel
theorem d_X11_ship_53 : decode c_X11_ship 53 = .ok (.bipush 60, 2) := by decide +kernel
theorem d_X11_ship_55 : decode c_X11_ship 55 = .ok (.invokestatic 169, 3) := by decide +kernel
theorem d_X11_ship_58 : decode c_X11_ship 58 = .ok (.ifCond .ne 6, 3) := by decide +kernel
theorem d_X11_ship_61 : decode c_X11_ship 61 = .ok (.bipush (-2), 2) := by decide +kernel
theorem d_X11_ship_63 : decode c_X11_ship 63 = .ok (.ireturn, 1) := by decide +kernel
theorem d_X11_ship_64 : decode c_X11_ship 64 = .ok (.aload_n 0, 1) := by decide +kernel
theorem d_X11_ship_65 : decode c_X11_ship 65 = .ok (.getfield 166, 3) := by decide +kernel
theorem d_X11_ship_68 : decode c_X11_ship 68 = .ok (.bipush 20, 2) := by decide +kernel
theorem d_X11_ship_70 : decode c_X11_ship 70 = .ok (.if_icmp .ne 6, 3) := by decide +kernel
theorem d_X11_ship_73 : decode c_X11_ship 73 = .ok (.bipush (-4), 2) := by decide +kernel
theorem d_X11_ship_75 : decode c_X11_ship 75 = .ok (.ireturn, 1) := by decide +kernel
theorem d_X11_ship_76 : decode c_X11_ship 76 = .ok (.aload_n 0, 1) := by decide +kernel
theorem d_X11_ship_77 : decode c_X11_ship 77 = .ok (.getfield 166, 3) := by decide +kernel
theorem d_X11_ship_80 : decode c_X11_ship 80 = .ok (.istore 7, 2) := by decide +kernel
theorem d_X11_ship_82 : decode c_X11_ship 82 = .ok (.aload_n 0, 1) := by decide +kernel
theorem d_X11_ship_83 : decode c_X11_ship 83 = .ok (.getfield 7, 3) := by decide +kernel
theorem d_X11_ship_86 : decode c_X11_ship 86 = .ok (.iload 7, 2) := by decide +kernel
theorem d_X11_ship_88 : decode c_X11_ship 88 = .ok (.iload_n 1, 1) := by decide +kernel
theorem d_X11_ship_89 : decode c_X11_ship 89 = .ok (.iastore, 1) := by decide +kernel
theorem d_X11_ship_90 : decode c_X11_ship 90 = .ok (.aload_n 0, 1) := by decide +kernel
theorem d_X11_ship_91 : decode c_X11_ship 91 = .ok (.getfield 13, 3) := by decide +kernel
theorem d_X11_ship_94 : decode c_X11_ship 94 = .ok (.iload 7, 2) := by decide +kernel
theorem d_X11_ship_96 : decode c_X11_ship 96 = .ok (.iload_n 2, 1) := by decide +kernel
theorem d_X11_ship_97 : decode c_X11_ship 97 = .ok (.iastore, 1) := by decide +kernel
theorem d_X11_ship_98 : decode c_X11_ship 98 = .ok (.aload_n 0, 1) := by decide +kernel
theorem d_X11_ship_99 : decode c_X11_ship 99 = .ok (.getfield 16, 3) := by decide +kernel
theorem d_X11_ship_102 : decode c_X11_ship 102 = .ok (.iload 7, 2) := by decide +kernel
theorem d_X11_ship_104 : decode c_X11_ship 104 = .ok (.iload_n 3, 1) := by decide +kernel
theorem d_X11_ship_105 : decode c_X11_ship 105 = .ok (.iastore, 1) := by decide +kernel
theorem d_X11_ship_106 : decode c_X11_ship 106 = .ok (.aload_n 0, 1) := by decide +kernel
theorem d_X11_ship_107 : decode c_X11_ship 107 = .ok (.getfield 19, 3) := by decide +kernel
theorem d_X11_ship_110 : decode c_X11_ship 110 = .ok (.iload 7, 2) := by decide +kernel
theorem d_X11_ship_112 : decode c_X11_ship 112 = .ok (.iload 4, 2) := by decide +kernel
theorem d_X11_ship_114 : decode c_X11_ship 114 = .ok (.iastore, 1) := by decide +kernel
theorem d_X11_ship_115 : decode c_X11_ship 115 = .ok (.aload_n 0, 1) := by decide +kernel
theorem d_X11_ship_116 : decode c_X11_ship 116 = .ok (.getfield 22, 3) := by decide +kernel
theorem d_X11_ship_119 : decode c_X11_ship 119 = .ok (.iload 7, 2) := by decide +kernel
theorem d_X11_ship_121 : decode c_X11_ship 121 = .ok (.iload 5, 2) := by decide +kernel
theorem d_X11_ship_123 : decode c_X11_ship 123 = .ok (.iastore, 1) := by decide +kernel
theorem d_X11_ship_124 : decode c_X11_ship 124 = .ok (.aload_n 0, 1) := by decide +kernel
theorem d_X11_ship_125 : decode c_X11_ship 125 = .ok (.getfield 25, 3) := by decide +kernel
theorem d_X11_ship_128 : decode c_X11_ship 128 = .ok (.iload 7, 2) := by decide +kernel
theorem d_X11_ship_130 : decode c_X11_ship 130 = .ok (.iload 6, 2) := by decide +kernel
theorem d_X11_ship_132 : decode c_X11_ship 132 = .ok (.iastore, 1) := by decide +kernel
theorem d_X11_ship_133 : decode c_X11_ship 133 = .ok (.aload_n 0, 1) := by decide +kernel
theorem d_X11_ship_134 : decode c_X11_ship 134 = .ok (.getfield 28, 3) := by decide +kernel
theorem d_X11_ship_137 : decode c_X11_ship 137 = .ok (.iload 7, 2) := by decide +kernel
theorem d_X11_ship_139 : decode c_X11_ship 139 = .ok (.iload_n 3, 1) := by decide +kernel
theorem d_X11_ship_140 : decode c_X11_ship 140 = .ok (.iastore, 1) := by decide +kernel
theorem d_X11_ship_141 : decode c_X11_ship 141 = .ok (.aload_n 0, 1) := by decide +kernel
theorem d_X11_ship_142 : decode c_X11_ship 142 = .ok (.getfield 31, 3) := by decide +kernel
theorem d_X11_ship_145 : decode c_X11_ship 145 = .ok (.iload 7, 2) := by decide +kernel
theorem d_X11_ship_147 : decode c_X11_ship 147 = .ok (.iconst 0, 1) := by decide +kernel
theorem d_X11_ship_148 : decode c_X11_ship 148 = .ok (.iastore, 1) := by decide +kernel
theorem d_X11_ship_149 : decode c_X11_ship 149 = .ok (.aload_n 0, 1) := by decide +kernel
theorem d_X11_ship_150 : decode c_X11_ship 150 = .ok (.getfield 34, 3) := by decide +kernel
theorem d_X11_ship_153 : decode c_X11_ship 153 = .ok (.iload 7, 2) := by decide +kernel
theorem d_X11_ship_155 : decode c_X11_ship 155 = .ok (.iconst (-1), 1) := by decide +kernel
theorem d_X11_ship_156 : decode c_X11_ship 156 = .ok (.iastore, 1) := by decide +kernel
theorem d_X11_ship_157 : decode c_X11_ship 157 = .ok (.aload_n 0, 1) := by decide +kernel
theorem d_X11_ship_158 : decode c_X11_ship 158 = .ok (.dup, 1) := by decide +kernel
theorem d_X11_ship_159 : decode c_X11_ship 159 = .ok (.getfield 166, 3) := by decide +kernel
theorem d_X11_ship_162 : decode c_X11_ship 162 = .ok (.iconst 1, 1) := by decide +kernel
theorem d_X11_ship_163 : decode c_X11_ship 163 = .ok (.iadd, 1) := by decide +kernel
theorem d_X11_ship_164 : decode c_X11_ship 164 = .ok (.putfield 166, 3) := by decide +kernel
theorem d_X11_ship_167 : decode c_X11_ship 167 = .ok (.iload 7, 2) := by decide +kernel
theorem d_X11_ship_169 : decode c_X11_ship 169 = .ok (.ireturn, 1) := by decide +kernel
def kp_X11_ship_400 (kd : Int32) (so : Int32) (lo : Int32) (ak : Int32) (fa : Int32) (wy : Int32) (a j : Nat) : Prop := (a ≠ 400 ∨ (j ≠ 1)) ∧ (a < 403 ∨ 412 ≤ a)
def f_X11_ship_400 (v : tV) (kd : Int32) (so : Int32) (lo : Int32) (ak : Int32) (fa : Int32) (wy : Int32) : Int32 × tV := (if (0 : Int32).toInt ≤ kd.toInt ∧ kd.toInt ≤ (3 : Int32).toInt then (if (0 : Int32).toInt ≤ so.toInt ∧ so.toInt ≤ (3 : Int32).toInt then (if (1 : Int32).toInt ≤ lo.toInt ∧ lo.toInt ≤ (400 : Int32).toInt then (if (1 : Int32).toInt ≤ ak.toInt ∧ ak.toInt ≤ (99 : Int32).toInt then (if (0 : Int32).toInt ≤ fa.toInt ∧ fa.toInt ≤ (5 : Int32).toInt then (if (1 : Int32).toInt ≤ wy.toInt ∧ wy.toInt ≤ (60 : Int32).toInt then bnd (v 400 1) fun x37 => (if x37 = (20 : Int32) then ((-4 : Int32), v) else bnd (up2 v 403 (x37.toNatClampNeg) kd) fun v43 => bnd (up2 v43 404 (x37.toNatClampNeg) so) fun v47 => bnd (up2 v47 405 (x37.toNatClampNeg) lo) fun v51 => bnd (up2 v51 406 (x37.toNatClampNeg) ak) fun v55 => bnd (up2 v55 407 (x37.toNatClampNeg) fa) fun v59 => bnd (up2 v59 408 (x37.toNatClampNeg) wy) fun v63 => bnd (up2 v63 409 (x37.toNatClampNeg) lo) fun v67 => bnd (up2 v67 410 (x37.toNatClampNeg) 0) fun v71 => bnd (up2 v71 411 (x37.toNatClampNeg) (-1)) fun v75 => bnd (x37 + (1 : Int32)) fun x79 => bnd (up2 v75 400 1 x79) fun v82 => (x37, v82)) else ((-2 : Int32), v)) else ((-2 : Int32), v)) else ((-2 : Int32), v)) else ((-2 : Int32), v)) else ((-2 : Int32), v)) else ((-2 : Int32), v))
set_option maxHeartbeats 4000000 in
set_option maxRecDepth 100000 in
theorem ct_X11_ship_400 (l : Launch) (D : va_G) (dA : Nat → ClassId) (ad : Nat → Nat) (v : tV) (hI : Inv v) (kd : Int32) (so : Int32) (lo : Int32) (ak : Int32) (fa : Int32) (wy : Int32) : Met l m_X11_ship [.code m_X11_ship c_X11_ship 8 (some .int)] ({ frames := 2, cells := 0, slots := 0, locals := 62 } : Room) (tP D dA ad v [.ref (ad 400), .int kd, .int so, .int lo, .int ak, .int fa, .int wy]) (tQi D dA ad (fun r v' => (Inv v' ∧ Kp (kp_X11_ship_400 kd so lo ak fa wy) v v') ∧ (r, v') = f_X11_ship_400 v kd so lo ak fa wy)) 0 0 (tA ad) := by
  refine tMet (by decide) (Nat.le_of_ble_eq_true rfl) ?_
  intro p e s m below meth c ls X hr hlocks hw hl
  have X : CX p s m ([.ref (ad 400), .int kd, .int so, .int lo, .int ak, .int fa, .int wy] : List Value).toArray c c_X11_ship N_X11 8 D dA := X
  have hx := X.1
  have hb := X.2.1
  have hS : va_S (tA ad) s.heap s.heap [] := va_S.rf
  have hl : lv_has ls 8 [(0, .ref (ad 400)), (1, .int kd), (2, .int so), (3, .int lo), (4, .int ak), (5, .int fa), (6, .int wy)] := hl
  obtain ⟨RR, eRR⟩ : ∃ z, f_X11_ship_400 v kd so lo ak fa wy = z := ⟨_, rfl⟩
  have hK0 : Kp (kp_X11_ship_400 kd so lo ak fa wy) v v := Kp.rf _ v
  have hG := eRR
  unfold f_X11_ship_400 at hG
  refine lv_iload_n hx hb d_X11_ship_0 rfl (lv_at hl 1 rfl) ?_
  refine lv_iconst (v := 0) hx hb d_X11_ship_1 (by decide) ?_
  refine lv_iconst (v := 3) hx hb d_X11_ship_2 (by decide) ?_
  refine r_ci (r_runS (n := 3) (As := [.int kd, .int 0, .int 3]) (rest := []) X hw (ct_X11_in l D dA ad v hI kd 0 3) gc_X11_169 (by decide +kernel) ⟨rfl, rfl, Nat.le_of_ble_eq_true rfl, Nat.le_of_ble_eq_true rfl⟩ rfl hl.1 rfl (Nat.le_of_ble_eq_true rfl) ⟨Nat.zero_le _, Nat.zero_le _⟩ d_X11_ship_3) hS (fun x2 v3 H locs hp1 hw hS => ?_)
  obtain ⟨ev3, hp1⟩ := hp1
  rw [ev3] at hw
  rcases hp1 with ⟨rfl, w4a, w4b⟩ | ⟨rfl, w4n⟩
  · skip
    have hG := g_pos ⟨w4a, w4b⟩ hG
    have r5 : Rg kd 0 3 := by obtain ⟨_, _⟩ := (rg_any kd); have : (0 : Int32).toInt = 0 := rfl; have : (3 : Int32).toInt = 3 := rfl; exact ⟨by omega, by omega⟩
    refine lv_if_eq (tgt := 61) hx hb d_X11_ship_6 (by decide) (fun c6 => ?_) (fun c6 => ?_)
    · exact absurd c6 (by decide)
    · refine lv_iload_n hx hb d_X11_ship_9 rfl (lv_at hl 2 rfl) ?_
      refine lv_iconst (v := 0) hx hb d_X11_ship_10 (by decide) ?_
      refine lv_iconst (v := 3) hx hb d_X11_ship_11 (by decide) ?_
      refine r_ci (r_runS (n := 3) (As := [.int so, .int 0, .int 3]) (rest := []) X hw (ct_X11_in l D dA ad v hI so 0 3) gc_X11_169 (by decide +kernel) ⟨rfl, rfl, Nat.le_of_ble_eq_true rfl, Nat.le_of_ble_eq_true rfl⟩ rfl hl.1 rfl (Nat.le_of_ble_eq_true rfl) ⟨Nat.zero_le _, Nat.zero_le _⟩ d_X11_ship_12) hS (fun x8 v9 H locs hp7 hw hS => ?_)
      obtain ⟨ev9, hp7⟩ := hp7
      rw [ev9] at hw
      rcases hp7 with ⟨rfl, w10a, w10b⟩ | ⟨rfl, w10n⟩
      · skip
        have hG := g_pos ⟨w10a, w10b⟩ hG
        have r11 : Rg so 0 3 := by obtain ⟨_, _⟩ := (rg_any so); have : (0 : Int32).toInt = 0 := rfl; have : (3 : Int32).toInt = 3 := rfl; exact ⟨by omega, by omega⟩
        refine lv_if_eq (tgt := 61) hx hb d_X11_ship_15 (by decide) (fun c12 => ?_) (fun c12 => ?_)
        · exact absurd c12 (by decide)
        · refine lv_iload_n hx hb d_X11_ship_18 rfl (lv_at hl 3 rfl) ?_
          refine lv_iconst (v := 1) hx hb d_X11_ship_19 (by decide) ?_
          refine lv_sipush (v := 400) hx hb d_X11_ship_20 (by decide) ?_
          refine r_ci (r_runS (n := 3) (As := [.int lo, .int 1, .int 400]) (rest := []) X hw (ct_X11_in l D dA ad v hI lo 1 400) gc_X11_169 (by decide +kernel) ⟨rfl, rfl, Nat.le_of_ble_eq_true rfl, Nat.le_of_ble_eq_true rfl⟩ rfl hl.1 rfl (Nat.le_of_ble_eq_true rfl) ⟨Nat.zero_le _, Nat.zero_le _⟩ d_X11_ship_23) hS (fun x14 v15 H locs hp13 hw hS => ?_)
          obtain ⟨ev15, hp13⟩ := hp13
          rw [ev15] at hw
          rcases hp13 with ⟨rfl, w16a, w16b⟩ | ⟨rfl, w16n⟩
          · skip
            have hG := g_pos ⟨w16a, w16b⟩ hG
            have r17 : Rg lo 1 400 := by obtain ⟨_, _⟩ := (rg_any lo); have : (1 : Int32).toInt = 1 := rfl; have : (400 : Int32).toInt = 400 := rfl; exact ⟨by omega, by omega⟩
            refine lv_if_eq (tgt := 61) hx hb d_X11_ship_26 (by decide) (fun c18 => ?_) (fun c18 => ?_)
            · exact absurd c18 (by decide)
            · refine lv_iload hx hb d_X11_ship_29 (lv_at hl 4 rfl) ?_
              refine lv_iconst (v := 1) hx hb d_X11_ship_31 (by decide) ?_
              refine lv_bipush (v := 99) hx hb d_X11_ship_32 (by decide) ?_
              refine r_ci (r_runS (n := 3) (As := [.int ak, .int 1, .int 99]) (rest := []) X hw (ct_X11_in l D dA ad v hI ak 1 99) gc_X11_169 (by decide +kernel) ⟨rfl, rfl, Nat.le_of_ble_eq_true rfl, Nat.le_of_ble_eq_true rfl⟩ rfl hl.1 rfl (Nat.le_of_ble_eq_true rfl) ⟨Nat.zero_le _, Nat.zero_le _⟩ d_X11_ship_34) hS (fun x20 v21 H locs hp19 hw hS => ?_)
              obtain ⟨ev21, hp19⟩ := hp19
              rw [ev21] at hw
              rcases hp19 with ⟨rfl, w22a, w22b⟩ | ⟨rfl, w22n⟩
              · skip
                have hG := g_pos ⟨w22a, w22b⟩ hG
                have r23 : Rg ak 1 99 := by obtain ⟨_, _⟩ := (rg_any ak); have : (1 : Int32).toInt = 1 := rfl; have : (99 : Int32).toInt = 99 := rfl; exact ⟨by omega, by omega⟩
                refine lv_if_eq (tgt := 61) hx hb d_X11_ship_37 (by decide) (fun c24 => ?_) (fun c24 => ?_)
                · exact absurd c24 (by decide)
                · refine lv_iload hx hb d_X11_ship_40 (lv_at hl 5 rfl) ?_
                  refine lv_iconst (v := 0) hx hb d_X11_ship_42 (by decide) ?_
                  refine lv_iconst (v := 5) hx hb d_X11_ship_43 (by decide) ?_
                  refine r_ci (r_runS (n := 3) (As := [.int fa, .int 0, .int 5]) (rest := []) X hw (ct_X11_in l D dA ad v hI fa 0 5) gc_X11_169 (by decide +kernel) ⟨rfl, rfl, Nat.le_of_ble_eq_true rfl, Nat.le_of_ble_eq_true rfl⟩ rfl hl.1 rfl (Nat.le_of_ble_eq_true rfl) ⟨Nat.zero_le _, Nat.zero_le _⟩ d_X11_ship_44) hS (fun x26 v27 H locs hp25 hw hS => ?_)
                  obtain ⟨ev27, hp25⟩ := hp25
                  rw [ev27] at hw
                  rcases hp25 with ⟨rfl, w28a, w28b⟩ | ⟨rfl, w28n⟩
                  · skip
                    have hG := g_pos ⟨w28a, w28b⟩ hG
                    have r29 : Rg fa 0 5 := by obtain ⟨_, _⟩ := (rg_any fa); have : (0 : Int32).toInt = 0 := rfl; have : (5 : Int32).toInt = 5 := rfl; exact ⟨by omega, by omega⟩
                    refine lv_if_eq (tgt := 61) hx hb d_X11_ship_47 (by decide) (fun c30 => ?_) (fun c30 => ?_)
                    · exact absurd c30 (by decide)
                    · refine lv_iload hx hb d_X11_ship_50 (lv_at hl 6 rfl) ?_
                      refine lv_iconst (v := 1) hx hb d_X11_ship_52 (by decide) ?_
                      refine lv_bipush (v := 60) hx hb d_X11_ship_53 (by decide) ?_
                      refine r_ci (r_runS (n := 3) (As := [.int wy, .int 1, .int 60]) (rest := []) X hw (ct_X11_in l D dA ad v hI wy 1 60) gc_X11_169 (by decide +kernel) ⟨rfl, rfl, Nat.le_of_ble_eq_true rfl, Nat.le_of_ble_eq_true rfl⟩ rfl hl.1 rfl (Nat.le_of_ble_eq_true rfl) ⟨Nat.zero_le _, Nat.zero_le _⟩ d_X11_ship_55) hS (fun x32 v33 H locs hp31 hw hS => ?_)
                      obtain ⟨ev33, hp31⟩ := hp31
                      rw [ev33] at hw
                      rcases hp31 with ⟨rfl, w34a, w34b⟩ | ⟨rfl, w34n⟩
                      · skip
                        have hG := g_pos ⟨w34a, w34b⟩ hG
                        have r35 : Rg wy 1 60 := by obtain ⟨_, _⟩ := (rg_any wy); have : (1 : Int32).toInt = 1 := rfl; have : (60 : Int32).toInt = 60 := rfl; exact ⟨by omega, by omega⟩
                        refine lv_if_ne (tgt := 64) hx hb d_X11_ship_58 (by decide) (fun c36 => ?_) (fun c36 => ?_)
                        · refine lv_aload_n hx hb d_X11_ship_64 rfl (lv_at hl 0 rfl) ?_
                          refine r_geti X hw FL_X11_166 (rfl : KD 400 = _) rfl d_X11_ship_65 ?_
                          refine lv_topi (fun x37 ex37 => ?_)
                          have hG := bnd_use ex37 hG
                          have r38 : Rg x37 0 20 := by rw [ex37]; exact hI _ _ _ _ rfl
                          have hm39 : v 400 1 = x37 := ex37.symm
                          refine lv_bipush (v := 20) hx hb d_X11_ship_68 (by decide) ?_
                          refine lv_icmp_ne (tgt := 76) hx hb d_X11_ship_70 (by decide) (fun c40 => ?_) (fun c40 => ?_)
                          · have f41 := i_ne c40
                            have r42 : Rg x37 0 19 := by obtain ⟨a1, a2⟩ := r38; obtain ⟨b1, b2⟩ := (⟨by decide, by decide⟩ : Rg 20 20 20); have f := i_ne c40; exact ⟨by omega, by omega⟩
                            have hG := g_neg c40 hG
                            refine lv_aload_n hx hb d_X11_ship_76 rfl (lv_at hl 0 rfl) ?_
                            refine r_geti X hw FL_X11_166 (rfl : KD 400 = _) rfl d_X11_ship_77 ?_
                            rw [hm39]
                            refine lv_istore (lv' := [(7, .int x37), (0, .ref (ad 400)), (1, .int kd), (2, .int so), (3, .int lo), (4, .int ak), (5, .int fa), (6, .int wy)]) hx hb d_X11_ship_80 hl (by decide) rfl (fun ls hl => ?_)
                            refine lv_aload_n hx hb d_X11_ship_82 rfl (lv_at hl 1 rfl) ?_
                            refine r_getr (r := 403) X hw FL_X11_7 (rfl : KD 400 = _) rfl d_X11_ship_83 ?_
                            refine lv_iload hx hb d_X11_ship_86 (lv_at hl 0 rfl) ?_
                            refine lv_iload_n hx hb d_X11_ship_88 rfl (lv_at hl 2 rfl) ?_
                            refine r_iast X hw hS (rfl : KD 403 = _) (Rg.vp (b := 19) r42 (by decide)) rfl d_X11_ship_89 (fun H locs hw hS => ?_)
                            obtain ⟨v43, ev43⟩ : ∃ z, z = up2 v 403 x37.toNatClampNeg kd := ⟨_, rfl⟩
                            rw [← ev43] at hw
                            have hG := bnd_use ev43 hG
                            have hI44 : Inv v43 := by rw [ev43]; exact Inv.put0 hI _ rfl
                            have hK45 : Kp (kp_X11_ship_400 kd so lo ak fa wy) v v43 := by rw [ev43]; exact Kp.put hK0 _ (by unfold kp_X11_ship_400; omega)
                            have hm46 : v43 400 1 = x37 := by rw [ev43, up2_n _ _ (by omega)]; exact hm39
                            refine lv_aload_n hx hb d_X11_ship_90 rfl (lv_at hl 1 rfl) ?_
                            refine r_getr (r := 404) X hw FL_X11_13 (rfl : KD 400 = _) rfl d_X11_ship_91 ?_
                            refine lv_iload hx hb d_X11_ship_94 (lv_at hl 0 rfl) ?_
                            refine lv_iload_n hx hb d_X11_ship_96 rfl (lv_at hl 3 rfl) ?_
                            refine r_iast X hw hS (rfl : KD 404 = _) (Rg.vp (b := 19) r42 (by decide)) rfl d_X11_ship_97 (fun H locs hw hS => ?_)
                            obtain ⟨v47, ev47⟩ : ∃ z, z = up2 v43 404 x37.toNatClampNeg so := ⟨_, rfl⟩
                            rw [← ev47] at hw
                            have hG := bnd_use ev47 hG
                            have hI48 : Inv v47 := by rw [ev47]; exact Inv.put0 hI44 _ rfl
                            have hK49 : Kp (kp_X11_ship_400 kd so lo ak fa wy) v v47 := by rw [ev47]; exact Kp.put hK45 _ (by unfold kp_X11_ship_400; omega)
                            have hm50 : v47 400 1 = x37 := by rw [ev47, up2_n _ _ (by omega)]; exact hm46
                            refine lv_aload_n hx hb d_X11_ship_98 rfl (lv_at hl 1 rfl) ?_
                            refine r_getr (r := 405) X hw FL_X11_16 (rfl : KD 400 = _) rfl d_X11_ship_99 ?_
                            refine lv_iload hx hb d_X11_ship_102 (lv_at hl 0 rfl) ?_
                            refine lv_iload_n hx hb d_X11_ship_104 rfl (lv_at hl 4 rfl) ?_
                            refine r_iast X hw hS (rfl : KD 405 = _) (Rg.vp (b := 19) r42 (by decide)) rfl d_X11_ship_105 (fun H locs hw hS => ?_)
                            obtain ⟨v51, ev51⟩ : ∃ z, z = up2 v47 405 x37.toNatClampNeg lo := ⟨_, rfl⟩
                            rw [← ev51] at hw
                            have hG := bnd_use ev51 hG
                            have hI52 : Inv v51 := by rw [ev51]; exact Inv.put0 hI48 _ rfl
                            have hK53 : Kp (kp_X11_ship_400 kd so lo ak fa wy) v v51 := by rw [ev51]; exact Kp.put hK49 _ (by unfold kp_X11_ship_400; omega)
                            have hm54 : v51 400 1 = x37 := by rw [ev51, up2_n _ _ (by omega)]; exact hm50
                            refine lv_aload_n hx hb d_X11_ship_106 rfl (lv_at hl 1 rfl) ?_
                            refine r_getr (r := 406) X hw FL_X11_19 (rfl : KD 400 = _) rfl d_X11_ship_107 ?_
                            refine lv_iload hx hb d_X11_ship_110 (lv_at hl 0 rfl) ?_
                            refine lv_iload hx hb d_X11_ship_112 (lv_at hl 5 rfl) ?_
                            refine r_iast X hw hS (rfl : KD 406 = _) (Rg.vp (b := 19) r42 (by decide)) rfl d_X11_ship_114 (fun H locs hw hS => ?_)
                            obtain ⟨v55, ev55⟩ : ∃ z, z = up2 v51 406 x37.toNatClampNeg ak := ⟨_, rfl⟩
                            rw [← ev55] at hw
                            have hG := bnd_use ev55 hG
                            have hI56 : Inv v55 := by rw [ev55]; exact Inv.put0 hI52 _ rfl
                            have hK57 : Kp (kp_X11_ship_400 kd so lo ak fa wy) v v55 := by rw [ev55]; exact Kp.put hK53 _ (by unfold kp_X11_ship_400; omega)
                            have hm58 : v55 400 1 = x37 := by rw [ev55, up2_n _ _ (by omega)]; exact hm54
                            refine lv_aload_n hx hb d_X11_ship_115 rfl (lv_at hl 1 rfl) ?_
                            refine r_getr (r := 407) X hw FL_X11_22 (rfl : KD 400 = _) rfl d_X11_ship_116 ?_
                            refine lv_iload hx hb d_X11_ship_119 (lv_at hl 0 rfl) ?_
                            refine lv_iload hx hb d_X11_ship_121 (lv_at hl 6 rfl) ?_
                            refine r_iast X hw hS (rfl : KD 407 = _) (Rg.vp (b := 19) r42 (by decide)) rfl d_X11_ship_123 (fun H locs hw hS => ?_)
                            obtain ⟨v59, ev59⟩ : ∃ z, z = up2 v55 407 x37.toNatClampNeg fa := ⟨_, rfl⟩
                            rw [← ev59] at hw
                            have hG := bnd_use ev59 hG
                            have hI60 : Inv v59 := by rw [ev59]; exact Inv.put0 hI56 _ rfl
                            have hK61 : Kp (kp_X11_ship_400 kd so lo ak fa wy) v v59 := by rw [ev59]; exact Kp.put hK57 _ (by unfold kp_X11_ship_400; omega)
                            have hm62 : v59 400 1 = x37 := by rw [ev59, up2_n _ _ (by omega)]; exact hm58
                            refine lv_aload_n hx hb d_X11_ship_124 rfl (lv_at hl 1 rfl) ?_
                            refine r_getr (r := 408) X hw FL_X11_25 (rfl : KD 400 = _) rfl d_X11_ship_125 ?_
                            refine lv_iload hx hb d_X11_ship_128 (lv_at hl 0 rfl) ?_
                            refine lv_iload hx hb d_X11_ship_130 (lv_at hl 7 rfl) ?_
                            refine r_iast X hw hS (rfl : KD 408 = _) (Rg.vp (b := 19) r42 (by decide)) rfl d_X11_ship_132 (fun H locs hw hS => ?_)
                            obtain ⟨v63, ev63⟩ : ∃ z, z = up2 v59 408 x37.toNatClampNeg wy := ⟨_, rfl⟩
                            rw [← ev63] at hw
                            have hG := bnd_use ev63 hG
                            have hI64 : Inv v63 := by rw [ev63]; exact Inv.put0 hI60 _ rfl
                            have hK65 : Kp (kp_X11_ship_400 kd so lo ak fa wy) v v63 := by rw [ev63]; exact Kp.put hK61 _ (by unfold kp_X11_ship_400; omega)
                            have hm66 : v63 400 1 = x37 := by rw [ev63, up2_n _ _ (by omega)]; exact hm62
                            refine lv_aload_n hx hb d_X11_ship_133 rfl (lv_at hl 1 rfl) ?_
                            refine r_getr (r := 409) X hw FL_X11_28 (rfl : KD 400 = _) rfl d_X11_ship_134 ?_
                            refine lv_iload hx hb d_X11_ship_137 (lv_at hl 0 rfl) ?_
                            refine lv_iload_n hx hb d_X11_ship_139 rfl (lv_at hl 4 rfl) ?_
                            refine r_iast X hw hS (rfl : KD 409 = _) (Rg.vp (b := 19) r42 (by decide)) rfl d_X11_ship_140 (fun H locs hw hS => ?_)
                            obtain ⟨v67, ev67⟩ : ∃ z, z = up2 v63 409 x37.toNatClampNeg lo := ⟨_, rfl⟩
                            rw [← ev67] at hw
                            have hG := bnd_use ev67 hG
                            have hI68 : Inv v67 := by rw [ev67]; exact Inv.put0 hI64 _ rfl
                            have hK69 : Kp (kp_X11_ship_400 kd so lo ak fa wy) v v67 := by rw [ev67]; exact Kp.put hK65 _ (by unfold kp_X11_ship_400; omega)
                            have hm70 : v67 400 1 = x37 := by rw [ev67, up2_n _ _ (by omega)]; exact hm66
                            refine lv_aload_n hx hb d_X11_ship_141 rfl (lv_at hl 1 rfl) ?_
                            refine r_getr (r := 410) X hw FL_X11_31 (rfl : KD 400 = _) rfl d_X11_ship_142 ?_
                            refine lv_iload hx hb d_X11_ship_145 (lv_at hl 0 rfl) ?_
                            refine lv_iconst (v := 0) hx hb d_X11_ship_147 (by decide) ?_
                            refine r_iast X hw hS (rfl : KD 410 = _) (Rg.vp (b := 19) r42 (by decide)) rfl d_X11_ship_148 (fun H locs hw hS => ?_)
                            obtain ⟨v71, ev71⟩ : ∃ z, z = up2 v67 410 x37.toNatClampNeg 0 := ⟨_, rfl⟩
                            rw [← ev71] at hw
                            have hG := bnd_use ev71 hG
                            have hI72 : Inv v71 := by rw [ev71]; exact Inv.put0 hI68 _ rfl
                            have hK73 : Kp (kp_X11_ship_400 kd so lo ak fa wy) v v71 := by rw [ev71]; exact Kp.put hK69 _ (by unfold kp_X11_ship_400; omega)
                            have hm74 : v71 400 1 = x37 := by rw [ev71, up2_n _ _ (by omega)]; exact hm70
                            refine lv_aload_n hx hb d_X11_ship_149 rfl (lv_at hl 1 rfl) ?_
                            refine r_getr (r := 411) X hw FL_X11_34 (rfl : KD 400 = _) rfl d_X11_ship_150 ?_
                            refine lv_iload hx hb d_X11_ship_153 (lv_at hl 0 rfl) ?_
                            refine lv_iconst (v := -1) hx hb d_X11_ship_155 (by decide) ?_
                            refine r_iast X hw hS (rfl : KD 411 = _) (Rg.vp (b := 19) r42 (by decide)) rfl d_X11_ship_156 (fun H locs hw hS => ?_)
                            obtain ⟨v75, ev75⟩ : ∃ z, z = up2 v71 411 x37.toNatClampNeg (-1) := ⟨_, rfl⟩
                            rw [← ev75] at hw
                            have hG := bnd_use ev75 hG
                            have hI76 : Inv v75 := by rw [ev75]; exact Inv.put0 hI72 _ rfl
                            have hK77 : Kp (kp_X11_ship_400 kd so lo ak fa wy) v v75 := by rw [ev75]; exact Kp.put hK73 _ (by unfold kp_X11_ship_400; omega)
                            have hm78 : v75 400 1 = x37 := by rw [ev75, up2_n _ _ (by omega)]; exact hm74
                            refine lv_aload_n hx hb d_X11_ship_157 rfl (lv_at hl 1 rfl) ?_
                            refine lv_dup hx hb d_X11_ship_158 rfl ?_
                            refine r_geti X hw FL_X11_166 (rfl : KD 400 = _) rfl d_X11_ship_159 ?_
                            rw [hm78]
                            refine lv_iconst (v := 1) hx hb d_X11_ship_162 (by decide) ?_
                            refine lv_iadd hx hb d_X11_ship_163 ?_
                            refine lv_topi (fun x79 ex79 => ?_)
                            have hG := bnd_use ex79 hG
                            have r80 : Rg x79 1 20 := rg_add ex79 r42 (⟨by decide, by decide⟩ : Rg 1 1 1) (by decide) (by decide)
                            have s81 : x79.toInt = x37.toInt + (1 : Int32).toInt := by rw [ex79]; exact i_add (by obtain ⟨_, _⟩ := r42; obtain ⟨_, _⟩ := (⟨by decide, by decide⟩ : Rg 1 1 1); omega) (by obtain ⟨_, _⟩ := r42; obtain ⟨_, _⟩ := (⟨by decide, by decide⟩ : Rg 1 1 1); omega)
                            have s81l : (1 : Int32).toInt = 1 := rfl
                            refine r_put X hw hS FP_X11_166 (rfl : KD 400 = _) rfl ⟨rfl, rfl⟩ d_X11_ship_164 (fun H locs hw hS => ?_)
                            obtain ⟨v82, ev82⟩ : ∃ z, z = up2 v75 400 1 x79 := ⟨_, rfl⟩
                            rw [← ev82] at hw
                            have hG := bnd_use ev82 hG
                            have hI83 : Inv v82 := by rw [ev82]; exact Inv.putr hI76 rfl (rg_w r80 (by decide) (by decide))
                            have hK84 : Kp (kp_X11_ship_400 kd so lo ak fa wy) v v82 := by rw [ev82]; exact Kp.put hK77 _ (by unfold kp_X11_ship_400; omega)
                            have hm85 : v82 400 1 = x79 := by rw [ev82, up2_s]
                            refine lv_iload hx hb d_X11_ship_167 (lv_at hl 0 rfl) ?_
                            exact r_iret X hr hlocks hw hS ⟨⟨hI83, hK84⟩, hG.trans eRR.symm⟩ d_X11_ship_169
                          · have f86 := i_eq c40
                            have r87 : Rg x37 20 20 := by obtain ⟨a1, a2⟩ := r38; obtain ⟨b1, b2⟩ := (⟨by decide, by decide⟩ : Rg 20 20 20); have f := i_eq c40; exact ⟨by omega, by omega⟩
                            have hG := g_pos c40 hG
                            refine lv_bipush (v := -4) hx hb d_X11_ship_73 (by decide) ?_
                            exact r_iret X hr hlocks hw hS ⟨⟨hI, hK0⟩, hG.trans eRR.symm⟩ d_X11_ship_75
                        · exact absurd c36 (by decide)
                      · skip
                        have hG := g_neg w34n hG
                        refine lv_if_ne (tgt := 64) hx hb d_X11_ship_58 (by decide) (fun c88 => ?_) (fun c88 => ?_)
                        · exact absurd c88 (by decide)
                        · refine lv_bipush (v := -2) hx hb d_X11_ship_61 (by decide) ?_
                          exact r_iret X hr hlocks hw hS ⟨⟨hI, hK0⟩, hG.trans eRR.symm⟩ d_X11_ship_63
                  · skip
                    have hG := g_neg w28n hG
                    refine lv_if_eq (tgt := 61) hx hb d_X11_ship_47 (by decide) (fun c89 => ?_) (fun c89 => ?_)
                    · refine lv_bipush (v := -2) hx hb d_X11_ship_61 (by decide) ?_
                      exact r_iret X hr hlocks hw hS ⟨⟨hI, hK0⟩, hG.trans eRR.symm⟩ d_X11_ship_63
                    · exact absurd c89 (by decide)
              · skip
                have hG := g_neg w22n hG
                refine lv_if_eq (tgt := 61) hx hb d_X11_ship_37 (by decide) (fun c90 => ?_) (fun c90 => ?_)
                · refine lv_bipush (v := -2) hx hb d_X11_ship_61 (by decide) ?_
                  exact r_iret X hr hlocks hw hS ⟨⟨hI, hK0⟩, hG.trans eRR.symm⟩ d_X11_ship_63
                · exact absurd c90 (by decide)
          · skip
            have hG := g_neg w16n hG
            refine lv_if_eq (tgt := 61) hx hb d_X11_ship_26 (by decide) (fun c91 => ?_) (fun c91 => ?_)
            · refine lv_bipush (v := -2) hx hb d_X11_ship_61 (by decide) ?_
              exact r_iret X hr hlocks hw hS ⟨⟨hI, hK0⟩, hG.trans eRR.symm⟩ d_X11_ship_63
            · exact absurd c91 (by decide)
      · skip
        have hG := g_neg w10n hG
        refine lv_if_eq (tgt := 61) hx hb d_X11_ship_15 (by decide) (fun c92 => ?_) (fun c92 => ?_)
        · refine lv_bipush (v := -2) hx hb d_X11_ship_61 (by decide) ?_
          exact r_iret X hr hlocks hw hS ⟨⟨hI, hK0⟩, hG.trans eRR.symm⟩ d_X11_ship_63
        · exact absurd c92 (by decide)
  · skip
    have hG := g_neg w4n hG
    refine lv_if_eq (tgt := 61) hx hb d_X11_ship_6 (by decide) (fun c93 => ?_) (fun c93 => ?_)
    · refine lv_bipush (v := -2) hx hb d_X11_ship_61 (by decide) ?_
      exact r_iret X hr hlocks hw hS ⟨⟨hI, hK0⟩, hG.trans eRR.symm⟩ d_X11_ship_63
    · exact absurd c93 (by decide)
theorem d_X11_ask_0 : decode c_X11_ask 0 = .ok (.aload_n 0, 1) := by decide +kernel
theorem d_X11_ask_1 : decode c_X11_ask 1 = .ok (.iload_n 1, 1) := by decide +kernel
theorem d_X11_ask_2 : decode c_X11_ask 2 = .ok (.invokevirtual 176, 3) := by decide +kernel
theorem d_X11_ask_5 : decode c_X11_ask 5 = .ok (.ifCond .ne 5, 3) := by decide +kernel
theorem d_X11_ask_8 : decode c_X11_ask 8 = .ok (.iconst (-1), 1) := by decide +kernel
theorem d_X11_ask_9 : decode c_X11_ask 9 = .ok (.ireturn, 1) := by decide +kernel
theorem d_X11_ask_10 : decode c_X11_ask 10 = .ok (.iload_n 2, 1) := by decide +kernel
theorem d_X11_ask_11 : decode c_X11_ask 11 = .ok (.iconst 1, 1) := by decide +kernel
theorem d_X11_ask_12 : decode c_X11_ask 12 = .ok (.bipush 99, 2) := by decide +kernel
theorem d_X11_ask_14 : decode c_X11_ask 14 = .ok (.invokestatic 169, 3) := by decide +kernel
theorem d_X11_ask_17 : decode c_X11_ask 17 = .ok (.ifCond .ne 6, 3) := by decide +kernel
theorem d_X11_ask_20 : decode c_X11_ask 20 = .ok (.bipush (-2), 2) := by decide +kernel
theorem d_X11_ask_22 : decode c_X11_ask 22 = .ok (.ireturn, 1) := by decide +kernel
theorem d_X11_ask_23 : decode c_X11_ask 23 = .ok (.aload_n 0, 1) := by decide +kernel
theorem d_X11_ask_24 : decode c_X11_ask 24 = .ok (.getfield 19, 3) := by decide +kernel
theorem d_X11_ask_27 : decode c_X11_ask 27 = .ok (.iload_n 1, 1) := by decide +kernel
theorem d_X11_ask_28 : decode c_X11_ask 28 = .ok (.iaload, 1) := by decide +kernel
theorem d_X11_ask_29 : decode c_X11_ask 29 = .ok (.istore_n 3, 1) := by decide +kernel
theorem d_X11_ask_30 : decode c_X11_ask 30 = .ok (.aload_n 0, 1) := by decide +kernel
theorem d_X11_ask_31 : decode c_X11_ask 31 = .ok (.getfield 19, 3) := by decide +kernel
theorem d_X11_ask_34 : decode c_X11_ask 34 = .ok (.iload_n 1, 1) := by decide +kernel
theorem d_X11_ask_35 : decode c_X11_ask 35 = .ok (.iload_n 2, 1) := by decide +kernel
theorem d_X11_ask_36 : decode c_X11_ask 36 = .ok (.iastore, 1) := by decide +kernel
theorem d_X11_ask_37 : decode c_X11_ask 37 = .ok (.iload_n 3, 1) := by decide +kernel
theorem d_X11_ask_38 : decode c_X11_ask 38 = .ok (.ireturn, 1) := by decide +kernel
def kp_X11_ask_400 (si : Int32) (ak : Int32) (a j : Nat) : Prop := a ≠ 406
def f_X11_ask_400 (v : tV) (si : Int32) (ak : Int32) : Int32 × tV := (if 0 ≤ si.toInt ∧ si.toInt ≤ (v 400 1).toInt - 1 then (if (1 : Int32).toInt ≤ ak.toInt ∧ ak.toInt ≤ (99 : Int32).toInt then bnd (v 406 si.toNatClampNeg) fun x13 => bnd (up2 v 406 (si.toNatClampNeg) ak) fun v14 => (x13, v14) else ((-2 : Int32), v)) else ((-1 : Int32), v))
set_option maxHeartbeats 4000000 in
set_option maxRecDepth 100000 in
theorem ct_X11_ask_400 (l : Launch) (D : va_G) (dA : Nat → ClassId) (ad : Nat → Nat) (v : tV) (hI : Inv v) (si : Int32) (ak : Int32) : Met l m_X11_ask [.code m_X11_ask c_X11_ask 4 (some .int)] ({ frames := 3, cells := 0, slots := 0, locals := 83 } : Room) (tP D dA ad v [.ref (ad 400), .int si, .int ak]) (tQi D dA ad (fun r v' => (Inv v' ∧ Kp (kp_X11_ask_400 si ak) v v') ∧ (r, v') = f_X11_ask_400 v si ak)) 0 0 (tA ad) := by
  refine tMet (by decide) (Nat.le_of_ble_eq_true rfl) ?_
  intro p e s m below meth c ls X hr hlocks hw hl
  have X : CX p s m ([.ref (ad 400), .int si, .int ak] : List Value).toArray c c_X11_ask N_X11 4 D dA := X
  have hx := X.1
  have hb := X.2.1
  have hS : va_S (tA ad) s.heap s.heap [] := va_S.rf
  have hl : lv_has ls 4 [(0, .ref (ad 400)), (1, .int si), (2, .int ak)] := hl
  obtain ⟨RR, eRR⟩ : ∃ z, f_X11_ask_400 v si ak = z := ⟨_, rfl⟩
  have hK0 : Kp (kp_X11_ask_400 si ak) v v := Kp.rf _ v
  have hG := eRR
  unfold f_X11_ask_400 at hG
  refine lv_aload_n hx hb d_X11_ask_0 rfl (lv_at hl 0 rfl) ?_
  refine lv_iload_n hx hb d_X11_ask_1 rfl (lv_at hl 1 rfl) ?_
  refine r_ci (r_runV (n := 1) (As := [.int si]) (rest := []) X hw (ct_X11_isShip_400 l D dA ad v hI si) gc_X11_176 (rfl : KD 400 = _) (by decide) rfl (by decide +kernel) ⟨rfl, rfl, Nat.le_of_ble_eq_true rfl, Nat.le_of_ble_eq_true rfl⟩ rfl hl.1 rfl (Nat.le_of_ble_eq_true rfl) ⟨Nat.zero_le _, Nat.zero_le _⟩ d_X11_ask_2) hS (fun x2 v3 H locs hp1 hw hS => ?_)
  obtain ⟨ev3, hp1⟩ := hp1
  rw [ev3] at hw
  rcases hp1 with ⟨rfl, w4a, w4b⟩ | ⟨rfl, w4n⟩
  · skip
    have hG := g_pos ⟨w4a, w4b⟩ hG
    have r5 : Rg si 0 19 := by have q := hI 400 1 0 20 rfl; obtain ⟨_, _⟩ := q; obtain ⟨_, _⟩ := (rg_any si); exact ⟨by omega, by omega⟩
    refine lv_if_ne (tgt := 10) hx hb d_X11_ask_5 (by decide) (fun c6 => ?_) (fun c6 => ?_)
    · refine lv_iload_n hx hb d_X11_ask_10 rfl (lv_at hl 2 rfl) ?_
      refine lv_iconst (v := 1) hx hb d_X11_ask_11 (by decide) ?_
      refine lv_bipush (v := 99) hx hb d_X11_ask_12 (by decide) ?_
      refine r_ci (r_runS (n := 3) (As := [.int ak, .int 1, .int 99]) (rest := []) X hw (ct_X11_in l D dA ad v hI ak 1 99) gc_X11_169 (by decide +kernel) ⟨rfl, rfl, Nat.le_of_ble_eq_true rfl, Nat.le_of_ble_eq_true rfl⟩ rfl hl.1 rfl (Nat.le_of_ble_eq_true rfl) ⟨Nat.zero_le _, Nat.zero_le _⟩ d_X11_ask_14) hS (fun x8 v9 H locs hp7 hw hS => ?_)
      obtain ⟨ev9, hp7⟩ := hp7
      rw [ev9] at hw
      rcases hp7 with ⟨rfl, w10a, w10b⟩ | ⟨rfl, w10n⟩
      · skip
        have hG := g_pos ⟨w10a, w10b⟩ hG
        have r11 : Rg ak 1 99 := by obtain ⟨_, _⟩ := (rg_any ak); have : (1 : Int32).toInt = 1 := rfl; have : (99 : Int32).toInt = 99 := rfl; exact ⟨by omega, by omega⟩
        refine lv_if_ne (tgt := 23) hx hb d_X11_ask_17 (by decide) (fun c12 => ?_) (fun c12 => ?_)
        · refine lv_aload_n hx hb d_X11_ask_23 rfl (lv_at hl 0 rfl) ?_
          refine r_getr (r := 406) X hw FL_X11_19 (rfl : KD 400 = _) rfl d_X11_ask_24 ?_
          refine lv_iload_n hx hb d_X11_ask_27 rfl (lv_at hl 1 rfl) ?_
          refine r_iald X hw (rfl : KD 406 = _) (Rg.vp (b := 19) r5 (by decide)) rfl d_X11_ask_28 ?_
          refine lv_topi (fun x13 ex13 => ?_)
          have hG := bnd_use ex13 hG
          refine lv_istore_n (lv' := [(3, .int x13), (0, .ref (ad 400)), (1, .int si), (2, .int ak)]) hx hb d_X11_ask_29 rfl hl (by decide) rfl (fun ls hl => ?_)
          refine lv_aload_n hx hb d_X11_ask_30 rfl (lv_at hl 1 rfl) ?_
          refine r_getr (r := 406) X hw FL_X11_19 (rfl : KD 400 = _) rfl d_X11_ask_31 ?_
          refine lv_iload_n hx hb d_X11_ask_34 rfl (lv_at hl 2 rfl) ?_
          refine lv_iload_n hx hb d_X11_ask_35 rfl (lv_at hl 3 rfl) ?_
          refine r_iast X hw hS (rfl : KD 406 = _) (Rg.vp (b := 19) r5 (by decide)) rfl d_X11_ask_36 (fun H locs hw hS => ?_)
          obtain ⟨v14, ev14⟩ : ∃ z, z = up2 v 406 si.toNatClampNeg ak := ⟨_, rfl⟩
          rw [← ev14] at hw
          have hG := bnd_use ev14 hG
          have hI15 : Inv v14 := by rw [ev14]; exact Inv.put0 hI _ rfl
          have hK16 : Kp (kp_X11_ask_400 si ak) v v14 := by rw [ev14]; exact Kp.put hK0 _ (by unfold kp_X11_ask_400; omega)
          refine lv_iload_n hx hb d_X11_ask_37 rfl (lv_at hl 0 rfl) ?_
          exact r_iret X hr hlocks hw hS ⟨⟨hI15, hK16⟩, hG.trans eRR.symm⟩ d_X11_ask_38
        · exact absurd c12 (by decide)
      · skip
        have hG := g_neg w10n hG
        refine lv_if_ne (tgt := 23) hx hb d_X11_ask_17 (by decide) (fun c17 => ?_) (fun c17 => ?_)
        · exact absurd c17 (by decide)
        · refine lv_bipush (v := -2) hx hb d_X11_ask_20 (by decide) ?_
          exact r_iret X hr hlocks hw hS ⟨⟨hI, hK0⟩, hG.trans eRR.symm⟩ d_X11_ask_22
    · exact absurd c6 (by decide)
  · skip
    have hG := g_neg w4n hG
    refine lv_if_ne (tgt := 10) hx hb d_X11_ask_5 (by decide) (fun c18 => ?_) (fun c18 => ?_)
    · exact absurd c18 (by decide)
    · refine lv_iconst (v := -1) hx hb d_X11_ask_8 (by decide) ?_
      exact r_iret X hr hlocks hw hS ⟨⟨hI, hK0⟩, hG.trans eRR.symm⟩ d_X11_ask_9
theorem d_X11_rate_0 : decode c_X11_rate 0 = .ok (.aload_n 0, 1) := by decide +kernel
theorem d_X11_rate_1 : decode c_X11_rate 1 = .ok (.getfield 7, 3) := by decide +kernel
theorem d_X11_rate_4 : decode c_X11_rate 4 = .ok (.iload_n 1, 1) := by decide +kernel
theorem d_X11_rate_5 : decode c_X11_rate 5 = .ok (.iaload, 1) := by decide +kernel
theorem d_X11_rate_6 : decode c_X11_rate 6 = .ok (.iconst 2, 1) := by decide +kernel
theorem d_X11_rate_7 : decode c_X11_rate 7 = .ok (.if_icmp .ne 7, 3) := by decide +kernel
theorem d_X11_rate_10 : decode c_X11_rate 10 = .ok (.iconst 1, 1) := by decide +kernel
theorem d_X11_rate_11 : decode c_X11_rate 11 = .ok (.goto 4, 3) := by decide +kernel
theorem d_X11_rate_14 : decode c_X11_rate 14 = .ok (.iconst 2, 1) := by decide +kernel
theorem d_X11_rate_15 : decode c_X11_rate 15 = .ok (.ireturn, 1) := by decide +kernel
def f_X11_rate_400 (v : tV) (si : Int32) : Int32 := bnd (v 403 si.toNatClampNeg) fun x1 => (if x1 = (2 : Int32) then (1 : Int32) else (2 : Int32))
set_option maxHeartbeats 4000000 in
set_option maxRecDepth 100000 in
theorem ct_X11_rate_400 (l : Launch) (D : va_G) (dA : Nat → ClassId) (ad : Nat → Nat) (v : tV) (hI : Inv v) (si : Int32) (r_si : Rg si 0 19) : Met l m_X11_rate [.code m_X11_rate c_X11_rate 2 (some .int)] ({ frames := 1, cells := 0, slots := 0, locals := 40 } : Room) (tP D dA ad v [.ref (ad 400), .int si]) (tQi D dA ad (fun r v' => (v' = v) ∧ r = f_X11_rate_400 v si)) 0 0 (tA ad) := by
  refine tMet (by decide) (Nat.le_of_ble_eq_true rfl) ?_
  intro p e s m below meth c ls X hr hlocks hw hl
  have X : CX p s m ([.ref (ad 400), .int si] : List Value).toArray c c_X11_rate N_X11 2 D dA := X
  have hx := X.1
  have hb := X.2.1
  have hS : va_S (tA ad) s.heap s.heap [] := va_S.rf
  have hl : lv_has ls 2 [(0, .ref (ad 400)), (1, .int si)] := hl
  obtain ⟨RR, eRR⟩ : ∃ z, f_X11_rate_400 v si = z := ⟨_, rfl⟩
  have hG := eRR
  unfold f_X11_rate_400 at hG
  refine lv_aload_n hx hb d_X11_rate_0 rfl (lv_at hl 0 rfl) ?_
  refine r_getr (r := 403) X hw FL_X11_7 (rfl : KD 400 = _) rfl d_X11_rate_1 ?_
  refine lv_iload_n hx hb d_X11_rate_4 rfl (lv_at hl 1 rfl) ?_
  refine r_iald X hw (rfl : KD 403 = _) (Rg.vp (b := 19) r_si (by decide)) rfl d_X11_rate_5 ?_
  refine lv_topi (fun x1 ex1 => ?_)
  have hG := bnd_use ex1 hG
  refine lv_iconst (v := 2) hx hb d_X11_rate_6 (by decide) ?_
  refine lv_icmp_ne (tgt := 14) hx hb d_X11_rate_7 (by decide) (fun c2 => ?_) (fun c2 => ?_)
  · have f3 := i_ne c2
    have hG := g_neg c2 hG
    refine lv_iconst (v := 2) hx hb d_X11_rate_14 (by decide) ?_
    exact r_iret X hr hlocks hw hS ⟨rfl, hG.trans eRR.symm⟩ d_X11_rate_15
  · have f4 := i_eq c2
    have r5 : Rg x1 2 2 := by obtain ⟨a1, a2⟩ := (rg_any x1); obtain ⟨b1, b2⟩ := (⟨by decide, by decide⟩ : Rg 2 2 2); have f := i_eq c2; exact ⟨by omega, by omega⟩
    have hG := g_pos c2 hG
    refine lv_iconst (v := 1) hx hb d_X11_rate_10 (by decide) ?_
    refine lv_goto (tgt := 15) hx hb d_X11_rate_11 (by decide) ?_
    exact r_iret X hr hlocks hw hS ⟨rfl, hG.trans eRR.symm⟩ d_X11_rate_15
theorem d_X11_wreck_0 : decode c_X11_wreck 0 = .ok (.aload_n 0, 1) := by decide +kernel
theorem d_X11_wreck_1 : decode c_X11_wreck 1 = .ok (.iload_n 1, 1) := by decide +kernel
theorem d_X11_wreck_2 : decode c_X11_wreck 2 = .ok (.invokevirtual 176, 3) := by decide +kernel
theorem d_X11_wreck_5 : decode c_X11_wreck 5 = .ok (.ifCond .ne 5, 3) := by decide +kernel
theorem d_X11_wreck_8 : decode c_X11_wreck 8 = .ok (.iconst (-1), 1) := by decide +kernel
theorem d_X11_wreck_9 : decode c_X11_wreck 9 = .ok (.ireturn, 1) := by decide +kernel
theorem d_X11_wreck_10 : decode c_X11_wreck 10 = .ok (.iload_n 2, 1) := by decide +kernel
theorem d_X11_wreck_11 : decode c_X11_wreck 11 = .ok (.iconst 0, 1) := by decide +kernel
theorem d_X11_wreck_12 : decode c_X11_wreck 12 = .ok (.aload_n 0, 1) := by decide +kernel
theorem d_X11_wreck_13 : decode c_X11_wreck 13 = .ok (.getfield 28, 3) := by decide +kernel
theorem d_X11_wreck_16 : decode c_X11_wreck 16 = .ok (.iload_n 1, 1) := by decide +kernel
theorem d_X11_wreck_17 : decode c_X11_wreck 17 = .ok (.iaload, 1) := by decide +kernel
theorem d_X11_wreck_18 : decode c_X11_wreck 18 = .ok (.invokestatic 169, 3) := by decide +kernel
theorem d_X11_wreck_21 : decode c_X11_wreck 21 = .ok (.ifCond .ne 6, 3) := by decide +kernel
theorem d_X11_wreck_24 : decode c_X11_wreck 24 = .ok (.bipush (-2), 2) := by decide +kernel
theorem d_X11_wreck_26 : decode c_X11_wreck 26 = .ok (.ireturn, 1) := by decide +kernel
theorem d_X11_wreck_27 : decode c_X11_wreck 27 = .ok (.aload_n 0, 1) := by decide +kernel
theorem d_X11_wreck_28 : decode c_X11_wreck 28 = .ok (.getfield 31, 3) := by decide +kernel
theorem d_X11_wreck_31 : decode c_X11_wreck 31 = .ok (.iload_n 1, 1) := by decide +kernel
theorem d_X11_wreck_32 : decode c_X11_wreck 32 = .ok (.iaload, 1) := by decide +kernel
theorem d_X11_wreck_33 : decode c_X11_wreck 33 = .ok (.iconst 2, 1) := by decide +kernel
theorem d_X11_wreck_34 : decode c_X11_wreck 34 = .ok (.if_icmp .le 6, 3) := by decide +kernel
theorem d_X11_wreck_37 : decode c_X11_wreck 37 = .ok (.bipush (-3), 2) := by decide +kernel
theorem d_X11_wreck_39 : decode c_X11_wreck 39 = .ok (.ireturn, 1) := by decide +kernel
theorem d_X11_wreck_40 : decode c_X11_wreck 40 = .ok (.aload_n 0, 1) := by decide +kernel
theorem d_X11_wreck_41 : decode c_X11_wreck 41 = .ok (.getfield 31, 3) := by decide +kernel
theorem d_X11_wreck_44 : decode c_X11_wreck 44 = .ok (.iload_n 1, 1) := by decide +kernel
theorem d_X11_wreck_45 : decode c_X11_wreck 45 = .ok (.iconst 5, 1) := by decide +kernel
theorem d_X11_wreck_46 : decode c_X11_wreck 46 = .ok (.iastore, 1) := by decide +kernel
theorem d_X11_wreck_47 : decode c_X11_wreck 47 = .ok (.aload_n 0, 1) := by decide +kernel
theorem d_X11_wreck_48 : decode c_X11_wreck 48 = .ok (.getfield 28, 3) := by decide +kernel
theorem d_X11_wreck_51 : decode c_X11_wreck 51 = .ok (.iload_n 1, 1) := by decide +kernel
theorem d_X11_wreck_52 : decode c_X11_wreck 52 = .ok (.dup2, 1) := by decide +kernel
theorem d_X11_wreck_53 : decode c_X11_wreck 53 = .ok (.iaload, 1) := by decide +kernel
theorem d_X11_wreck_54 : decode c_X11_wreck 54 = .ok (.iload_n 2, 1) := by decide +kernel
theorem d_X11_wreck_55 : decode c_X11_wreck 55 = .ok (.isub, 1) := by decide +kernel
theorem d_X11_wreck_56 : decode c_X11_wreck 56 = .ok (.iastore, 1) := by decide +kernel
theorem d_X11_wreck_57 : decode c_X11_wreck 57 = .ok (.aload_n 0, 1) := by decide +kernel
theorem d_X11_wreck_58 : decode c_X11_wreck 58 = .ok (.getfield 46, 3) := by decide +kernel
theorem d_X11_wreck_61 : decode c_X11_wreck 61 = .ok (.iload_n 1, 1) := by decide +kernel
theorem d_X11_wreck_62 : decode c_X11_wreck 62 = .ok (.dup2, 1) := by decide +kernel
theorem d_X11_wreck_63 : decode c_X11_wreck 63 = .ok (.iaload, 1) := by decide +kernel
theorem d_X11_wreck_64 : decode c_X11_wreck 64 = .ok (.aload_n 0, 1) := by decide +kernel
theorem d_X11_wreck_65 : decode c_X11_wreck 65 = .ok (.iload_n 1, 1) := by decide +kernel
theorem d_X11_wreck_66 : decode c_X11_wreck 66 = .ok (.invokevirtual 180, 3) := by decide +kernel
theorem d_X11_wreck_69 : decode c_X11_wreck 69 = .ok (.iload_n 2, 1) := by decide +kernel
theorem d_X11_wreck_70 : decode c_X11_wreck 70 = .ok (.imul, 1) := by decide +kernel
theorem d_X11_wreck_71 : decode c_X11_wreck 71 = .ok (.iadd, 1) := by decide +kernel
theorem d_X11_wreck_72 : decode c_X11_wreck 72 = .ok (.iastore, 1) := by decide +kernel
theorem d_X11_wreck_73 : decode c_X11_wreck 73 = .ok (.aload_n 0, 1) := by decide +kernel
theorem d_X11_wreck_74 : decode c_X11_wreck 74 = .ok (.iload_n 1, 1) := by decide +kernel
theorem d_X11_wreck_75 : decode c_X11_wreck 75 = .ok (.invokevirtual 180, 3) := by decide +kernel
theorem d_X11_wreck_78 : decode c_X11_wreck 78 = .ok (.iload_n 2, 1) := by decide +kernel
theorem d_X11_wreck_79 : decode c_X11_wreck 79 = .ok (.imul, 1) := by decide +kernel
theorem d_X11_wreck_80 : decode c_X11_wreck 80 = .ok (.ireturn, 1) := by decide +kernel
def kp_X11_wreck_400 (si : Int32) (sv : Int32) (a j : Nat) : Prop := a ≠ 409 ∧ a ≠ 410 ∧ a ≠ 415
def f_X11_wreck_400 (v : tV) (si : Int32) (sv : Int32) : Int32 × tV := (if 0 ≤ si.toInt ∧ si.toInt ≤ (v 400 1).toInt - 1 then bnd (v 409 si.toNatClampNeg) fun x7 => (if (0 : Int32).toInt ≤ sv.toInt ∧ sv.toInt ≤ x7.toInt then bnd (v 410 si.toNatClampNeg) fun x14 => (if x14 ≤ (2 : Int32) then bnd (up2 v 410 (si.toNatClampNeg) 5) fun v18 => bnd (v18 409 si.toNatClampNeg) fun x21 => bnd (x21 - sv) fun x22 => bnd (up2 v18 409 (si.toNatClampNeg) x22) fun v23 => bnd (v23 415 si.toNatClampNeg) fun x26 => bnd (f_X11_rate_400 v23 si) fun x28 => bnd (x28 * sv) fun x31 => bnd (x26 + x31) fun x32 => bnd (up2 v23 415 (si.toNatClampNeg) x32) fun v33 => bnd (f_X11_rate_400 v33 si) fun x37 => bnd (x37 * sv) fun x40 => (x40, v33) else ((-3 : Int32), v)) else ((-2 : Int32), v)) else ((-1 : Int32), v))
set_option maxHeartbeats 4000000 in
set_option maxRecDepth 100000 in
theorem ct_X11_wreck_400 (l : Launch) (D : va_G) (dA : Nat → ClassId) (ad : Nat → Nat) (v : tV) (hI : Inv v) (si : Int32) (sv : Int32) : Met l m_X11_wreck [.code m_X11_wreck c_X11_wreck 3 (some .int)] ({ frames := 3, cells := 0, slots := 0, locals := 83 } : Room) (tP D dA ad v [.ref (ad 400), .int si, .int sv]) (tQi D dA ad (fun r v' => (Inv v' ∧ Kp (kp_X11_wreck_400 si sv) v v') ∧ (r, v') = f_X11_wreck_400 v si sv)) 0 0 (tA ad) := by
  refine tMet (by decide) (Nat.le_of_ble_eq_true rfl) ?_
  intro p e s m below meth c ls X hr hlocks hw hl
  have X : CX p s m ([.ref (ad 400), .int si, .int sv] : List Value).toArray c c_X11_wreck N_X11 3 D dA := X
  have hx := X.1
  have hb := X.2.1
  have hS : va_S (tA ad) s.heap s.heap [] := va_S.rf
  have hl : lv_has ls 3 [(0, .ref (ad 400)), (1, .int si), (2, .int sv)] := hl
  obtain ⟨RR, eRR⟩ : ∃ z, f_X11_wreck_400 v si sv = z := ⟨_, rfl⟩
  have hK0 : Kp (kp_X11_wreck_400 si sv) v v := Kp.rf _ v
  have hG := eRR
  unfold f_X11_wreck_400 at hG
  refine lv_aload_n hx hb d_X11_wreck_0 rfl (lv_at hl 0 rfl) ?_
  refine lv_iload_n hx hb d_X11_wreck_1 rfl (lv_at hl 1 rfl) ?_
  refine r_ci (r_runV (n := 1) (As := [.int si]) (rest := []) X hw (ct_X11_isShip_400 l D dA ad v hI si) gc_X11_176 (rfl : KD 400 = _) (by decide) rfl (by decide +kernel) ⟨rfl, rfl, Nat.le_of_ble_eq_true rfl, Nat.le_of_ble_eq_true rfl⟩ rfl hl.1 rfl (Nat.le_of_ble_eq_true rfl) ⟨Nat.zero_le _, Nat.zero_le _⟩ d_X11_wreck_2) hS (fun x2 v3 H locs hp1 hw hS => ?_)
  obtain ⟨ev3, hp1⟩ := hp1
  rw [ev3] at hw
  rcases hp1 with ⟨rfl, w4a, w4b⟩ | ⟨rfl, w4n⟩
  · skip
    have hG := g_pos ⟨w4a, w4b⟩ hG
    have r5 : Rg si 0 19 := by have q := hI 400 1 0 20 rfl; obtain ⟨_, _⟩ := q; obtain ⟨_, _⟩ := (rg_any si); exact ⟨by omega, by omega⟩
    refine lv_if_ne (tgt := 10) hx hb d_X11_wreck_5 (by decide) (fun c6 => ?_) (fun c6 => ?_)
    · refine lv_iload_n hx hb d_X11_wreck_10 rfl (lv_at hl 2 rfl) ?_
      refine lv_iconst (v := 0) hx hb d_X11_wreck_11 (by decide) ?_
      refine lv_aload_n hx hb d_X11_wreck_12 rfl (lv_at hl 0 rfl) ?_
      refine r_getr (r := 409) X hw FL_X11_28 (rfl : KD 400 = _) rfl d_X11_wreck_13 ?_
      refine lv_iload_n hx hb d_X11_wreck_16 rfl (lv_at hl 1 rfl) ?_
      refine r_iald X hw (rfl : KD 409 = _) (Rg.vp (b := 19) r5 (by decide)) rfl d_X11_wreck_17 ?_
      refine lv_topi (fun x7 ex7 => ?_)
      have hG := bnd_use ex7 hG
      refine r_ci (r_runS (n := 3) (As := [.int sv, .int 0, .int x7]) (rest := []) X hw (ct_X11_in l D dA ad v hI sv 0 x7) gc_X11_169 (by decide +kernel) ⟨rfl, rfl, Nat.le_of_ble_eq_true rfl, Nat.le_of_ble_eq_true rfl⟩ rfl hl.1 rfl (Nat.le_of_ble_eq_true rfl) ⟨Nat.zero_le _, Nat.zero_le _⟩ d_X11_wreck_18) hS (fun x9 v10 H locs hp8 hw hS => ?_)
      obtain ⟨ev10, hp8⟩ := hp8
      rw [ev10] at hw
      rcases hp8 with ⟨rfl, w11a, w11b⟩ | ⟨rfl, w11n⟩
      · skip
        have hG := g_pos ⟨w11a, w11b⟩ hG
        have r12 : Rg sv 0 2147483647 := by obtain ⟨_, _⟩ := (rg_any sv); have : (0 : Int32).toInt = 0 := rfl; exact ⟨by omega, by omega⟩
        refine lv_if_ne (tgt := 27) hx hb d_X11_wreck_21 (by decide) (fun c13 => ?_) (fun c13 => ?_)
        · refine lv_aload_n hx hb d_X11_wreck_27 rfl (lv_at hl 0 rfl) ?_
          refine r_getr (r := 410) X hw FL_X11_31 (rfl : KD 400 = _) rfl d_X11_wreck_28 ?_
          refine lv_iload_n hx hb d_X11_wreck_31 rfl (lv_at hl 1 rfl) ?_
          refine r_iald X hw (rfl : KD 410 = _) (Rg.vp (b := 19) r5 (by decide)) rfl d_X11_wreck_32 ?_
          refine lv_topi (fun x14 ex14 => ?_)
          have hG := bnd_use ex14 hG
          refine lv_iconst (v := 2) hx hb d_X11_wreck_33 (by decide) ?_
          refine lv_icmp_le (tgt := 40) hx hb d_X11_wreck_34 (by decide) (fun c15 => ?_) (fun c15 => ?_)
          · have f16 := i_le c15
            have r17 : Rg x14 (-2147483648) 2 := by obtain ⟨a1, a2⟩ := (rg_any x14); obtain ⟨b1, b2⟩ := (⟨by decide, by decide⟩ : Rg 2 2 2); have f := i_le c15; exact ⟨by omega, by omega⟩
            have hG := g_pos c15 hG
            refine lv_aload_n hx hb d_X11_wreck_40 rfl (lv_at hl 0 rfl) ?_
            refine r_getr (r := 410) X hw FL_X11_31 (rfl : KD 400 = _) rfl d_X11_wreck_41 ?_
            refine lv_iload_n hx hb d_X11_wreck_44 rfl (lv_at hl 1 rfl) ?_
            refine lv_iconst (v := 5) hx hb d_X11_wreck_45 (by decide) ?_
            refine r_iast X hw hS (rfl : KD 410 = _) (Rg.vp (b := 19) r5 (by decide)) rfl d_X11_wreck_46 (fun H locs hw hS => ?_)
            obtain ⟨v18, ev18⟩ : ∃ z, z = up2 v 410 si.toNatClampNeg 5 := ⟨_, rfl⟩
            rw [← ev18] at hw
            have hG := bnd_use ev18 hG
            have hI19 : Inv v18 := by rw [ev18]; exact Inv.put0 hI _ rfl
            have hK20 : Kp (kp_X11_wreck_400 si sv) v v18 := by rw [ev18]; exact Kp.put hK0 _ (by unfold kp_X11_wreck_400; omega)
            refine lv_aload_n hx hb d_X11_wreck_47 rfl (lv_at hl 0 rfl) ?_
            refine r_getr (r := 409) X hw FL_X11_28 (rfl : KD 400 = _) rfl d_X11_wreck_48 ?_
            refine lv_iload_n hx hb d_X11_wreck_51 rfl (lv_at hl 1 rfl) ?_
            refine lv_dup2_11 hx hb d_X11_wreck_52 rfl rfl ?_
            refine r_iald X hw (rfl : KD 409 = _) (Rg.vp (b := 19) r5 (by decide)) rfl d_X11_wreck_53 ?_
            refine lv_topi (fun x21 ex21 => ?_)
            have hG := bnd_use ex21 hG
            refine lv_iload_n hx hb d_X11_wreck_54 rfl (lv_at hl 2 rfl) ?_
            refine lv_isub hx hb d_X11_wreck_55 ?_
            refine lv_topi (fun x22 ex22 => ?_)
            have hG := bnd_use ex22 hG
            refine r_iast X hw hS (rfl : KD 409 = _) (Rg.vp (b := 19) r5 (by decide)) rfl d_X11_wreck_56 (fun H locs hw hS => ?_)
            obtain ⟨v23, ev23⟩ : ∃ z, z = up2 v18 409 si.toNatClampNeg x22 := ⟨_, rfl⟩
            rw [← ev23] at hw
            have hG := bnd_use ev23 hG
            have hI24 : Inv v23 := by rw [ev23]; exact Inv.put0 hI19 _ rfl
            have hK25 : Kp (kp_X11_wreck_400 si sv) v v23 := by rw [ev23]; exact Kp.put hK20 _ (by unfold kp_X11_wreck_400; omega)
            refine lv_aload_n hx hb d_X11_wreck_57 rfl (lv_at hl 0 rfl) ?_
            refine r_getr (r := 415) X hw FL_X11_46 (rfl : KD 400 = _) rfl d_X11_wreck_58 ?_
            refine lv_iload_n hx hb d_X11_wreck_61 rfl (lv_at hl 1 rfl) ?_
            refine lv_dup2_11 hx hb d_X11_wreck_62 rfl rfl ?_
            refine r_iald X hw (rfl : KD 415 = _) (Rg.vp (b := 19) r5 (by decide)) rfl d_X11_wreck_63 ?_
            refine lv_topi (fun x26 ex26 => ?_)
            have hG := bnd_use ex26 hG
            refine lv_aload_n hx hb d_X11_wreck_64 rfl (lv_at hl 0 rfl) ?_
            refine lv_iload_n hx hb d_X11_wreck_65 rfl (lv_at hl 1 rfl) ?_
            refine r_ci (r_runV (n := 1) (As := [.int si]) (rest := [.int x26, .int si, .ref (ad 415)]) X hw (ct_X11_rate_400 l D dA ad v23 hI24 si r5) gc_X11_180 (rfl : KD 400 = _) (by decide) rfl (by decide +kernel) ⟨rfl, rfl, Nat.le_of_ble_eq_true rfl, Nat.le_of_ble_eq_true rfl⟩ rfl hl.1 rfl (Nat.le_of_ble_eq_true rfl) ⟨Nat.zero_le _, Nat.zero_le _⟩ d_X11_wreck_66) hS (fun x28 v29 H locs hp27 hw hS => ?_)
            obtain ⟨hp27, hE30⟩ := hp27
            rw [hp27] at hw
            have hG := bnd_use hE30 hG
            refine lv_iload_n hx hb d_X11_wreck_69 rfl (lv_at hl 2 rfl) ?_
            refine lv_imul hx hb d_X11_wreck_70 ?_
            refine lv_topi (fun x31 ex31 => ?_)
            have hG := bnd_use ex31 hG
            refine lv_iadd hx hb d_X11_wreck_71 ?_
            refine lv_topi (fun x32 ex32 => ?_)
            have hG := bnd_use ex32 hG
            refine r_iast X hw hS (rfl : KD 415 = _) (Rg.vp (b := 19) r5 (by decide)) rfl d_X11_wreck_72 (fun H locs hw hS => ?_)
            obtain ⟨v33, ev33⟩ : ∃ z, z = up2 v23 415 si.toNatClampNeg x32 := ⟨_, rfl⟩
            rw [← ev33] at hw
            have hG := bnd_use ev33 hG
            have hI34 : Inv v33 := by rw [ev33]; exact Inv.put0 hI24 _ rfl
            have hK35 : Kp (kp_X11_wreck_400 si sv) v v33 := by rw [ev33]; exact Kp.put hK25 _ (by unfold kp_X11_wreck_400; omega)
            refine lv_aload_n hx hb d_X11_wreck_73 rfl (lv_at hl 0 rfl) ?_
            refine lv_iload_n hx hb d_X11_wreck_74 rfl (lv_at hl 1 rfl) ?_
            refine r_ci (r_runV (n := 1) (As := [.int si]) (rest := []) X hw (ct_X11_rate_400 l D dA ad v33 hI34 si r5) gc_X11_180 (rfl : KD 400 = _) (by decide) rfl (by decide +kernel) ⟨rfl, rfl, Nat.le_of_ble_eq_true rfl, Nat.le_of_ble_eq_true rfl⟩ rfl hl.1 rfl (Nat.le_of_ble_eq_true rfl) ⟨Nat.zero_le _, Nat.zero_le _⟩ d_X11_wreck_75) hS (fun x37 v38 H locs hp36 hw hS => ?_)
            obtain ⟨hp36, hE39⟩ := hp36
            rw [hp36] at hw
            have hG := bnd_use hE39 hG
            refine lv_iload_n hx hb d_X11_wreck_78 rfl (lv_at hl 2 rfl) ?_
            refine lv_imul hx hb d_X11_wreck_79 ?_
            refine lv_topi (fun x40 ex40 => ?_)
            have hG := bnd_use ex40 hG
            exact r_iret X hr hlocks hw hS ⟨⟨hI34, hK35⟩, hG.trans eRR.symm⟩ d_X11_wreck_80
          · have f41 := i_nle c15
            have r42 : Rg x14 3 2147483647 := by obtain ⟨a1, a2⟩ := (rg_any x14); obtain ⟨b1, b2⟩ := (⟨by decide, by decide⟩ : Rg 2 2 2); have f := i_nle c15; exact ⟨by omega, by omega⟩
            have hG := g_neg c15 hG
            refine lv_bipush (v := -3) hx hb d_X11_wreck_37 (by decide) ?_
            exact r_iret X hr hlocks hw hS ⟨⟨hI, hK0⟩, hG.trans eRR.symm⟩ d_X11_wreck_39
        · exact absurd c13 (by decide)
      · skip
        have hG := g_neg w11n hG
        refine lv_if_ne (tgt := 27) hx hb d_X11_wreck_21 (by decide) (fun c43 => ?_) (fun c43 => ?_)
        · exact absurd c43 (by decide)
        · refine lv_bipush (v := -2) hx hb d_X11_wreck_24 (by decide) ?_
          exact r_iret X hr hlocks hw hS ⟨⟨hI, hK0⟩, hG.trans eRR.symm⟩ d_X11_wreck_26
    · exact absurd c6 (by decide)
  · skip
    have hG := g_neg w4n hG
    refine lv_if_ne (tgt := 10) hx hb d_X11_wreck_5 (by decide) (fun c44 => ?_) (fun c44 => ?_)
    · exact absurd c44 (by decide)
    · refine lv_iconst (v := -1) hx hb d_X11_wreck_8 (by decide) ?_
      exact r_iret X hr hlocks hw hS ⟨⟨hI, hK0⟩, hG.trans eRR.symm⟩ d_X11_wreck_9
theorem d_X11_goOn_0 : decode c_X11_goOn 0 = .ok (.aload_n 0, 1) := by decide +kernel
theorem d_X11_goOn_1 : decode c_X11_goOn 1 = .ok (.iload_n 1, 1) := by decide +kernel
theorem d_X11_goOn_2 : decode c_X11_goOn 2 = .ok (.invokevirtual 176, 3) := by decide +kernel
theorem d_X11_goOn_5 : decode c_X11_goOn 5 = .ok (.ifCond .ne 5, 3) := by decide +kernel
theorem d_X11_goOn_8 : decode c_X11_goOn 8 = .ok (.iconst (-1), 1) := by decide +kernel
theorem d_X11_goOn_9 : decode c_X11_goOn 9 = .ok (.ireturn, 1) := by decide +kernel
theorem d_X11_goOn_10 : decode c_X11_goOn 10 = .ok (.aload_n 0, 1) := by decide +kernel
theorem d_X11_goOn_11 : decode c_X11_goOn 11 = .ok (.getfield 7, 3) := by decide +kernel
theorem d_X11_goOn_14 : decode c_X11_goOn 14 = .ok (.iload_n 1, 1) := by decide +kernel
theorem d_X11_goOn_15 : decode c_X11_goOn 15 = .ok (.iaload, 1) := by decide +kernel
theorem d_X11_goOn_16 : decode c_X11_goOn 16 = .ok (.iconst 3, 1) := by decide +kernel
theorem d_X11_goOn_17 : decode c_X11_goOn 17 = .ok (.if_icmp .ne 13, 3) := by decide +kernel
theorem d_X11_goOn_20 : decode c_X11_goOn 20 = .ok (.aload_n 0, 1) := by decide +kernel
theorem d_X11_goOn_21 : decode c_X11_goOn 21 = .ok (.getfield 31, 3) := by decide +kernel
theorem d_X11_goOn_24 : decode c_X11_goOn 24 = .ok (.iload_n 1, 1) := by decide +kernel
theorem d_X11_goOn_25 : decode c_X11_goOn 25 = .ok (.iaload, 1) := by decide +kernel
theorem d_X11_goOn_26 : decode c_X11_goOn 26 = .ok (.iconst 1, 1) := by decide +kernel
theorem d_X11_goOn_27 : decode c_X11_goOn 27 = .ok (.if_icmp .eq 6, 3) := by decide +kernel
theorem d_X11_goOn_30 : decode c_X11_goOn 30 = .ok (.bipush (-3), 2) := by decide +kernel
theorem d_X11_goOn_32 : decode c_X11_goOn 32 = .ok (.ireturn, 1) := by decide +kernel
theorem d_X11_goOn_33 : decode c_X11_goOn 33 = .ok (.aload_n 0, 1) := by decide +kernel
theorem d_X11_goOn_34 : decode c_X11_goOn 34 = .ok (.getfield 31, 3) := by decide +kernel
theorem d_X11_goOn_37 : decode c_X11_goOn 37 = .ok (.iload_n 1, 1) := by decide +kernel
theorem d_X11_goOn_38 : decode c_X11_goOn 38 = .ok (.iconst 4, 1) := by decide +kernel
theorem d_X11_goOn_39 : decode c_X11_goOn 39 = .ok (.iastore, 1) := by decide +kernel
theorem d_X11_goOn_40 : decode c_X11_goOn 40 = .ok (.aload_n 0, 1) := by decide +kernel
theorem d_X11_goOn_41 : decode c_X11_goOn 41 = .ok (.getfield 46, 3) := by decide +kernel
theorem d_X11_goOn_44 : decode c_X11_goOn 44 = .ok (.iload_n 1, 1) := by decide +kernel
theorem d_X11_goOn_45 : decode c_X11_goOn 45 = .ok (.dup2, 1) := by decide +kernel
theorem d_X11_goOn_46 : decode c_X11_goOn 46 = .ok (.iaload, 1) := by decide +kernel
theorem d_X11_goOn_47 : decode c_X11_goOn 47 = .ok (.iconst 2, 1) := by decide +kernel
theorem d_X11_goOn_48 : decode c_X11_goOn 48 = .ok (.aload_n 0, 1) := by decide +kernel
theorem d_X11_goOn_49 : decode c_X11_goOn 49 = .ok (.getfield 16, 3) := by decide +kernel
theorem d_X11_goOn_52 : decode c_X11_goOn 52 = .ok (.iload_n 1, 1) := by decide +kernel
theorem d_X11_goOn_53 : decode c_X11_goOn 53 = .ok (.iaload, 1) := by decide +kernel
theorem d_X11_goOn_54 : decode c_X11_goOn 54 = .ok (.imul, 1) := by decide +kernel
theorem d_X11_goOn_55 : decode c_X11_goOn 55 = .ok (.isub, 1) := by decide +kernel
theorem d_X11_goOn_56 : decode c_X11_goOn 56 = .ok (.iastore, 1) := by decide +kernel
theorem d_X11_goOn_57 : decode c_X11_goOn 57 = .ok (.iconst 2, 1) := by decide +kernel
theorem d_X11_goOn_58 : decode c_X11_goOn 58 = .ok (.aload_n 0, 1) := by decide +kernel
theorem d_X11_goOn_59 : decode c_X11_goOn 59 = .ok (.getfield 16, 3) := by decide +kernel
theorem d_X11_goOn_62 : decode c_X11_goOn 62 = .ok (.iload_n 1, 1) := by decide +kernel
theorem d_X11_goOn_63 : decode c_X11_goOn 63 = .ok (.iaload, 1) := by decide +kernel
theorem d_X11_goOn_64 : decode c_X11_goOn 64 = .ok (.imul, 1) := by decide +kernel
theorem d_X11_goOn_65 : decode c_X11_goOn 65 = .ok (.ireturn, 1) := by decide +kernel
def kp_X11_goOn_400 (si : Int32) (a j : Nat) : Prop := a ≠ 410 ∧ a ≠ 415
def f_X11_goOn_400 (v : tV) (si : Int32) : Int32 × tV := (if 0 ≤ si.toInt ∧ si.toInt ≤ (v 400 1).toInt - 1 then bnd (v 403 si.toNatClampNeg) fun x7 => (if x7 = (3 : Int32) then bnd (v 410 si.toNatClampNeg) fun x12 => (if x12 = (1 : Int32) then bnd (up2 v 410 (si.toNatClampNeg) 4) fun v16 => bnd (v16 415 si.toNatClampNeg) fun x19 => bnd (v16 405 si.toNatClampNeg) fun x20 => bnd ((2 : Int32) * x20) fun x21 => bnd (x19 - x21) fun x22 => bnd (up2 v16 415 (si.toNatClampNeg) x22) fun v23 => bnd (v23 405 si.toNatClampNeg) fun x26 => bnd ((2 : Int32) * x26) fun x27 => (x27, v23) else ((-3 : Int32), v)) else ((-3 : Int32), v)) else ((-1 : Int32), v))
set_option maxHeartbeats 4000000 in
set_option maxRecDepth 100000 in
theorem ct_X11_goOn_400 (l : Launch) (D : va_G) (dA : Nat → ClassId) (ad : Nat → Nat) (v : tV) (hI : Inv v) (si : Int32) : Met l m_X11_goOn [.code m_X11_goOn c_X11_goOn 2 (some .int)] ({ frames := 3, cells := 0, slots := 0, locals := 83 } : Room) (tP D dA ad v [.ref (ad 400), .int si]) (tQi D dA ad (fun r v' => (Inv v' ∧ Kp (kp_X11_goOn_400 si) v v') ∧ (r, v') = f_X11_goOn_400 v si)) 0 0 (tA ad) := by
  refine tMet (by decide) (Nat.le_of_ble_eq_true rfl) ?_
  intro p e s m below meth c ls X hr hlocks hw hl
  have X : CX p s m ([.ref (ad 400), .int si] : List Value).toArray c c_X11_goOn N_X11 2 D dA := X
  have hx := X.1
  have hb := X.2.1
  have hS : va_S (tA ad) s.heap s.heap [] := va_S.rf
  have hl : lv_has ls 2 [(0, .ref (ad 400)), (1, .int si)] := hl
  obtain ⟨RR, eRR⟩ : ∃ z, f_X11_goOn_400 v si = z := ⟨_, rfl⟩
  have hK0 : Kp (kp_X11_goOn_400 si) v v := Kp.rf _ v
  have hG := eRR
  unfold f_X11_goOn_400 at hG
  refine lv_aload_n hx hb d_X11_goOn_0 rfl (lv_at hl 0 rfl) ?_
  refine lv_iload_n hx hb d_X11_goOn_1 rfl (lv_at hl 1 rfl) ?_
  refine r_ci (r_runV (n := 1) (As := [.int si]) (rest := []) X hw (ct_X11_isShip_400 l D dA ad v hI si) gc_X11_176 (rfl : KD 400 = _) (by decide) rfl (by decide +kernel) ⟨rfl, rfl, Nat.le_of_ble_eq_true rfl, Nat.le_of_ble_eq_true rfl⟩ rfl hl.1 rfl (Nat.le_of_ble_eq_true rfl) ⟨Nat.zero_le _, Nat.zero_le _⟩ d_X11_goOn_2) hS (fun x2 v3 H locs hp1 hw hS => ?_)
  obtain ⟨ev3, hp1⟩ := hp1
  rw [ev3] at hw
  rcases hp1 with ⟨rfl, w4a, w4b⟩ | ⟨rfl, w4n⟩
  · skip
    have hG := g_pos ⟨w4a, w4b⟩ hG
    have r5 : Rg si 0 19 := by have q := hI 400 1 0 20 rfl; obtain ⟨_, _⟩ := q; obtain ⟨_, _⟩ := (rg_any si); exact ⟨by omega, by omega⟩
    refine lv_if_ne (tgt := 10) hx hb d_X11_goOn_5 (by decide) (fun c6 => ?_) (fun c6 => ?_)
    · refine lv_aload_n hx hb d_X11_goOn_10 rfl (lv_at hl 0 rfl) ?_
      refine r_getr (r := 403) X hw FL_X11_7 (rfl : KD 400 = _) rfl d_X11_goOn_11 ?_
      refine lv_iload_n hx hb d_X11_goOn_14 rfl (lv_at hl 1 rfl) ?_
      refine r_iald X hw (rfl : KD 403 = _) (Rg.vp (b := 19) r5 (by decide)) rfl d_X11_goOn_15 ?_
      refine lv_topi (fun x7 ex7 => ?_)
      have hG := bnd_use ex7 hG
      refine lv_iconst (v := 3) hx hb d_X11_goOn_16 (by decide) ?_
      refine lv_icmp_ne (tgt := 30) hx hb d_X11_goOn_17 (by decide) (fun c8 => ?_) (fun c8 => ?_)
      · have f9 := i_ne c8
        have hG := g_neg c8 hG
        refine lv_bipush (v := -3) hx hb d_X11_goOn_30 (by decide) ?_
        exact r_iret X hr hlocks hw hS ⟨⟨hI, hK0⟩, hG.trans eRR.symm⟩ d_X11_goOn_32
      · have f10 := i_eq c8
        have r11 : Rg x7 3 3 := by obtain ⟨a1, a2⟩ := (rg_any x7); obtain ⟨b1, b2⟩ := (⟨by decide, by decide⟩ : Rg 3 3 3); have f := i_eq c8; exact ⟨by omega, by omega⟩
        have hG := g_pos c8 hG
        refine lv_aload_n hx hb d_X11_goOn_20 rfl (lv_at hl 0 rfl) ?_
        refine r_getr (r := 410) X hw FL_X11_31 (rfl : KD 400 = _) rfl d_X11_goOn_21 ?_
        refine lv_iload_n hx hb d_X11_goOn_24 rfl (lv_at hl 1 rfl) ?_
        refine r_iald X hw (rfl : KD 410 = _) (Rg.vp (b := 19) r5 (by decide)) rfl d_X11_goOn_25 ?_
        refine lv_topi (fun x12 ex12 => ?_)
        have hG := bnd_use ex12 hG
        refine lv_iconst (v := 1) hx hb d_X11_goOn_26 (by decide) ?_
        refine lv_icmp_eq (tgt := 33) hx hb d_X11_goOn_27 (by decide) (fun c13 => ?_) (fun c13 => ?_)
        · have f14 := i_eq c13
          have r15 : Rg x12 1 1 := by obtain ⟨a1, a2⟩ := (rg_any x12); obtain ⟨b1, b2⟩ := (⟨by decide, by decide⟩ : Rg 1 1 1); have f := i_eq c13; exact ⟨by omega, by omega⟩
          have hG := g_pos c13 hG
          refine lv_aload_n hx hb d_X11_goOn_33 rfl (lv_at hl 0 rfl) ?_
          refine r_getr (r := 410) X hw FL_X11_31 (rfl : KD 400 = _) rfl d_X11_goOn_34 ?_
          refine lv_iload_n hx hb d_X11_goOn_37 rfl (lv_at hl 1 rfl) ?_
          refine lv_iconst (v := 4) hx hb d_X11_goOn_38 (by decide) ?_
          refine r_iast X hw hS (rfl : KD 410 = _) (Rg.vp (b := 19) r5 (by decide)) rfl d_X11_goOn_39 (fun H locs hw hS => ?_)
          obtain ⟨v16, ev16⟩ : ∃ z, z = up2 v 410 si.toNatClampNeg 4 := ⟨_, rfl⟩
          rw [← ev16] at hw
          have hG := bnd_use ev16 hG
          have hI17 : Inv v16 := by rw [ev16]; exact Inv.put0 hI _ rfl
          have hK18 : Kp (kp_X11_goOn_400 si) v v16 := by rw [ev16]; exact Kp.put hK0 _ (by unfold kp_X11_goOn_400; omega)
          refine lv_aload_n hx hb d_X11_goOn_40 rfl (lv_at hl 0 rfl) ?_
          refine r_getr (r := 415) X hw FL_X11_46 (rfl : KD 400 = _) rfl d_X11_goOn_41 ?_
          refine lv_iload_n hx hb d_X11_goOn_44 rfl (lv_at hl 1 rfl) ?_
          refine lv_dup2_11 hx hb d_X11_goOn_45 rfl rfl ?_
          refine r_iald X hw (rfl : KD 415 = _) (Rg.vp (b := 19) r5 (by decide)) rfl d_X11_goOn_46 ?_
          refine lv_topi (fun x19 ex19 => ?_)
          have hG := bnd_use ex19 hG
          refine lv_iconst (v := 2) hx hb d_X11_goOn_47 (by decide) ?_
          refine lv_aload_n hx hb d_X11_goOn_48 rfl (lv_at hl 0 rfl) ?_
          refine r_getr (r := 405) X hw FL_X11_16 (rfl : KD 400 = _) rfl d_X11_goOn_49 ?_
          refine lv_iload_n hx hb d_X11_goOn_52 rfl (lv_at hl 1 rfl) ?_
          refine r_iald X hw (rfl : KD 405 = _) (Rg.vp (b := 19) r5 (by decide)) rfl d_X11_goOn_53 ?_
          refine lv_topi (fun x20 ex20 => ?_)
          have hG := bnd_use ex20 hG
          refine lv_imul hx hb d_X11_goOn_54 ?_
          refine lv_topi (fun x21 ex21 => ?_)
          have hG := bnd_use ex21 hG
          refine lv_isub hx hb d_X11_goOn_55 ?_
          refine lv_topi (fun x22 ex22 => ?_)
          have hG := bnd_use ex22 hG
          refine r_iast X hw hS (rfl : KD 415 = _) (Rg.vp (b := 19) r5 (by decide)) rfl d_X11_goOn_56 (fun H locs hw hS => ?_)
          obtain ⟨v23, ev23⟩ : ∃ z, z = up2 v16 415 si.toNatClampNeg x22 := ⟨_, rfl⟩
          rw [← ev23] at hw
          have hG := bnd_use ev23 hG
          have hI24 : Inv v23 := by rw [ev23]; exact Inv.put0 hI17 _ rfl
          have hK25 : Kp (kp_X11_goOn_400 si) v v23 := by rw [ev23]; exact Kp.put hK18 _ (by unfold kp_X11_goOn_400; omega)
          refine lv_iconst (v := 2) hx hb d_X11_goOn_57 (by decide) ?_
          refine lv_aload_n hx hb d_X11_goOn_58 rfl (lv_at hl 0 rfl) ?_
          refine r_getr (r := 405) X hw FL_X11_16 (rfl : KD 400 = _) rfl d_X11_goOn_59 ?_
          refine lv_iload_n hx hb d_X11_goOn_62 rfl (lv_at hl 1 rfl) ?_
          refine r_iald X hw (rfl : KD 405 = _) (Rg.vp (b := 19) r5 (by decide)) rfl d_X11_goOn_63 ?_
          refine lv_topi (fun x26 ex26 => ?_)
          have hG := bnd_use ex26 hG
          refine lv_imul hx hb d_X11_goOn_64 ?_
          refine lv_topi (fun x27 ex27 => ?_)
          have hG := bnd_use ex27 hG
          exact r_iret X hr hlocks hw hS ⟨⟨hI24, hK25⟩, hG.trans eRR.symm⟩ d_X11_goOn_65
        · have f28 := i_ne c13
          have hG := g_neg c13 hG
          refine lv_bipush (v := -3) hx hb d_X11_goOn_30 (by decide) ?_
          exact r_iret X hr hlocks hw hS ⟨⟨hI, hK0⟩, hG.trans eRR.symm⟩ d_X11_goOn_32
    · exact absurd c6 (by decide)
  · skip
    have hG := g_neg w4n hG
    refine lv_if_ne (tgt := 10) hx hb d_X11_goOn_5 (by decide) (fun c29 => ?_) (fun c29 => ?_)
    · exact absurd c29 (by decide)
    · refine lv_iconst (v := -1) hx hb d_X11_goOn_8 (by decide) ?_
      exact r_iret X hr hlocks hw hS ⟨⟨hI, hK0⟩, hG.trans eRR.symm⟩ d_X11_goOn_9
theorem d_X11_buyer_0 : decode c_X11_buyer 0 = .ok (.iload_n 1, 1) := by decide +kernel
theorem d_X11_buyer_1 : decode c_X11_buyer 1 = .ok (.invokestatic 184, 3) := by decide +kernel
theorem d_X11_buyer_4 : decode c_X11_buyer 4 = .ok (.ifCond .ne 5, 3) := by decide +kernel
theorem d_X11_buyer_7 : decode c_X11_buyer 7 = .ok (.iconst (-1), 1) := by decide +kernel
theorem d_X11_buyer_8 : decode c_X11_buyer 8 = .ok (.ireturn, 1) := by decide +kernel
theorem d_X11_buyer_9 : decode c_X11_buyer 9 = .ok (.iload_n 2, 1) := by decide +kernel
theorem d_X11_buyer_10 : decode c_X11_buyer 10 = .ok (.iconst 0, 1) := by decide +kernel
theorem d_X11_buyer_11 : decode c_X11_buyer 11 = .ok (.iconst 3, 1) := by decide +kernel
theorem d_X11_buyer_12 : decode c_X11_buyer 12 = .ok (.invokestatic 169, 3) := by decide +kernel
theorem d_X11_buyer_15 : decode c_X11_buyer 15 = .ok (.ifCond .eq 25, 3) := by decide +kernel
theorem d_X11_buyer_18 : decode c_X11_buyer 18 = .ok (.iload_n 3, 1) := by decide +kernel
theorem d_X11_buyer_19 : decode c_X11_buyer 19 = .ok (.iconst 0, 1) := by decide +kernel
theorem d_X11_buyer_20 : decode c_X11_buyer 20 = .ok (.sipush 2000, 3) := by decide +kernel
theorem d_X11_buyer_23 : decode c_X11_buyer 23 = .ok (.invokestatic 169, 3) := by decide +kernel
theorem d_X11_buyer_26 : decode c_X11_buyer 26 = .ok (.ifCond .eq 14, 3) := by decide +kernel
theorem d_X11_buyer_29 : decode c_X11_buyer 29 = .ok (.iload 4, 2) := by decide +kernel
theorem d_X11_buyer_31 : decode c_X11_buyer 31 = .ok (.iconst 1, 1) := by decide +kernel
theorem d_X11_buyer_32 : decode c_X11_buyer 32 = .ok (.bipush 120, 2) := by decide +kernel
theorem d_X11_buyer_34 : decode c_X11_buyer 34 = .ok (.invokestatic 169, 3) := by decide +kernel
theorem d_X11_buyer_37 : decode c_X11_buyer 37 = .ok (.ifCond .ne 6, 3) := by decide +kernel
theorem d_X11_buyer_40 : decode c_X11_buyer 40 = .ok (.bipush (-2), 2) := by decide +kernel
theorem d_X11_buyer_42 : decode c_X11_buyer 42 = .ok (.ireturn, 1) := by decide +kernel
theorem d_X11_buyer_43 : decode c_X11_buyer 43 = .ok (.aload_n 0, 1) := by decide +kernel
theorem d_X11_buyer_44 : decode c_X11_buyer 44 = .ok (.getfield 173, 3) := by decide +kernel
theorem d_X11_buyer_47 : decode c_X11_buyer 47 = .ok (.bipush 10, 2) := by decide +kernel
theorem d_X11_buyer_49 : decode c_X11_buyer 49 = .ok (.if_icmp .ne 6, 3) := by decide +kernel
theorem d_X11_buyer_52 : decode c_X11_buyer 52 = .ok (.bipush (-4), 2) := by decide +kernel
theorem d_X11_buyer_54 : decode c_X11_buyer 54 = .ok (.ireturn, 1) := by decide +kernel
theorem d_X11_buyer_55 : decode c_X11_buyer 55 = .ok (.aload_n 0, 1) := by decide +kernel
theorem d_X11_buyer_56 : decode c_X11_buyer 56 = .ok (.getfield 49, 3) := by decide +kernel
theorem d_X11_buyer_59 : decode c_X11_buyer 59 = .ok (.aload_n 0, 1) := by decide +kernel
theorem d_X11_buyer_60 : decode c_X11_buyer 60 = .ok (.getfield 173, 3) := by decide +kernel
theorem d_X11_buyer_63 : decode c_X11_buyer 63 = .ok (.iload_n 1, 1) := by decide +kernel
theorem d_X11_buyer_64 : decode c_X11_buyer 64 = .ok (.iastore, 1) := by decide +kernel
theorem d_X11_buyer_65 : decode c_X11_buyer 65 = .ok (.aload_n 0, 1) := by decide +kernel
theorem d_X11_buyer_66 : decode c_X11_buyer 66 = .ok (.getfield 52, 3) := by decide +kernel
theorem d_X11_buyer_69 : decode c_X11_buyer 69 = .ok (.aload_n 0, 1) := by decide +kernel
theorem d_X11_buyer_70 : decode c_X11_buyer 70 = .ok (.getfield 173, 3) := by decide +kernel
theorem d_X11_buyer_73 : decode c_X11_buyer 73 = .ok (.iload_n 2, 1) := by decide +kernel
theorem d_X11_buyer_74 : decode c_X11_buyer 74 = .ok (.iastore, 1) := by decide +kernel
theorem d_X11_buyer_75 : decode c_X11_buyer 75 = .ok (.aload_n 0, 1) := by decide +kernel
theorem d_X11_buyer_76 : decode c_X11_buyer 76 = .ok (.getfield 55, 3) := by decide +kernel
theorem d_X11_buyer_79 : decode c_X11_buyer 79 = .ok (.aload_n 0, 1) := by decide +kernel
theorem d_X11_buyer_80 : decode c_X11_buyer 80 = .ok (.getfield 173, 3) := by decide +kernel
theorem d_X11_buyer_83 : decode c_X11_buyer 83 = .ok (.iload_n 3, 1) := by decide +kernel
theorem d_X11_buyer_84 : decode c_X11_buyer 84 = .ok (.iastore, 1) := by decide +kernel
theorem d_X11_buyer_85 : decode c_X11_buyer 85 = .ok (.aload_n 0, 1) := by decide +kernel
theorem d_X11_buyer_86 : decode c_X11_buyer 86 = .ok (.getfield 58, 3) := by decide +kernel
theorem d_X11_buyer_89 : decode c_X11_buyer 89 = .ok (.aload_n 0, 1) := by decide +kernel
theorem d_X11_buyer_90 : decode c_X11_buyer 90 = .ok (.getfield 173, 3) := by decide +kernel
theorem d_X11_buyer_93 : decode c_X11_buyer 93 = .ok (.iload 4, 2) := by decide +kernel
theorem d_X11_buyer_95 : decode c_X11_buyer 95 = .ok (.iastore, 1) := by decide +kernel
theorem d_X11_buyer_96 : decode c_X11_buyer 96 = .ok (.aload_n 0, 1) := by decide +kernel
theorem d_X11_buyer_97 : decode c_X11_buyer 97 = .ok (.dup, 1) := by decide +kernel
theorem d_X11_buyer_98 : decode c_X11_buyer 98 = .ok (.getfield 173, 3) := by decide +kernel
theorem d_X11_buyer_101 : decode c_X11_buyer 101 = .ok (.iconst 1, 1) := by decide +kernel
theorem d_X11_buyer_102 : decode c_X11_buyer 102 = .ok (.iadd, 1) := by decide +kernel
theorem d_X11_buyer_103 : decode c_X11_buyer 103 = .ok (.putfield 173, 3) := by decide +kernel
theorem d_X11_buyer_106 : decode c_X11_buyer 106 = .ok (.aload_n 0, 1) := by decide +kernel
theorem d_X11_buyer_107 : decode c_X11_buyer 107 = .ok (.getfield 173, 3) := by decide +kernel
theorem d_X11_buyer_110 : decode c_X11_buyer 110 = .ok (.iconst 1, 1) := by decide +kernel
theorem d_X11_buyer_111 : decode c_X11_buyer 111 = .ok (.isub, 1) := by decide +kernel
theorem d_X11_buyer_112 : decode c_X11_buyer 112 = .ok (.ireturn, 1) := by decide +kernel
def kp_X11_buyer_400 (wd : Int32) (so : Int32) (wt : Int32) (bd : Int32) (a j : Nat) : Prop := (a ≠ 400 ∨ (j ≠ 15)) ∧ (a < 417 ∨ 421 ≤ a)
def f_X11_buyer_400 (v : tV) (wd : Int32) (so : Int32) (wt : Int32) (bd : Int32) : Int32 × tV := (if 0 ≤ wd.toInt ∧ wd.toInt ≤ 5 then (if (0 : Int32).toInt ≤ so.toInt ∧ so.toInt ≤ (3 : Int32).toInt then (if (0 : Int32).toInt ≤ wt.toInt ∧ wt.toInt ≤ (2000 : Int32).toInt then (if (1 : Int32).toInt ≤ bd.toInt ∧ bd.toInt ≤ (120 : Int32).toInt then bnd (v 400 15) fun x25 => (if x25 = (10 : Int32) then ((-4 : Int32), v) else bnd (up2 v 417 (x25.toNatClampNeg) wd) fun v31 => bnd (up2 v31 418 (x25.toNatClampNeg) so) fun v35 => bnd (up2 v35 419 (x25.toNatClampNeg) wt) fun v39 => bnd (up2 v39 420 (x25.toNatClampNeg) bd) fun v43 => bnd (x25 + (1 : Int32)) fun x47 => bnd (up2 v43 400 15 x47) fun v50 => bnd (x47 - (1 : Int32)) fun x54 => (x54, v50)) else ((-2 : Int32), v)) else ((-2 : Int32), v)) else ((-2 : Int32), v)) else ((-1 : Int32), v))
set_option maxHeartbeats 4000000 in
set_option maxRecDepth 100000 in
theorem ct_X11_buyer_400 (l : Launch) (D : va_G) (dA : Nat → ClassId) (ad : Nat → Nat) (v : tV) (hI : Inv v) (wd : Int32) (so : Int32) (wt : Int32) (bd : Int32) : Met l m_X11_buyer [.code m_X11_buyer c_X11_buyer 5 (some .int)] ({ frames := 3, cells := 0, slots := 0, locals := 82 } : Room) (tP D dA ad v [.ref (ad 400), .int wd, .int so, .int wt, .int bd]) (tQi D dA ad (fun r v' => (Inv v' ∧ Kp (kp_X11_buyer_400 wd so wt bd) v v') ∧ (r, v') = f_X11_buyer_400 v wd so wt bd)) 0 0 (tA ad) := by
  refine tMet (by decide) (Nat.le_of_ble_eq_true rfl) ?_
  intro p e s m below meth c ls X hr hlocks hw hl
  have X : CX p s m ([.ref (ad 400), .int wd, .int so, .int wt, .int bd] : List Value).toArray c c_X11_buyer N_X11 5 D dA := X
  have hx := X.1
  have hb := X.2.1
  have hS : va_S (tA ad) s.heap s.heap [] := va_S.rf
  have hl : lv_has ls 5 [(0, .ref (ad 400)), (1, .int wd), (2, .int so), (3, .int wt), (4, .int bd)] := hl
  obtain ⟨RR, eRR⟩ : ∃ z, f_X11_buyer_400 v wd so wt bd = z := ⟨_, rfl⟩
  have hK0 : Kp (kp_X11_buyer_400 wd so wt bd) v v := Kp.rf _ v
  have hG := eRR
  unfold f_X11_buyer_400 at hG
  refine lv_iload_n hx hb d_X11_buyer_0 rfl (lv_at hl 1 rfl) ?_
  refine r_ci (r_runS (n := 1) (As := [.int wd]) (rest := []) X hw (ct_X11_isWard l D dA ad v hI wd) gc_X11_184 (by decide +kernel) ⟨rfl, rfl, Nat.le_of_ble_eq_true rfl, Nat.le_of_ble_eq_true rfl⟩ rfl hl.1 rfl (Nat.le_of_ble_eq_true rfl) ⟨Nat.zero_le _, Nat.zero_le _⟩ d_X11_buyer_1) hS (fun x2 v3 H locs hp1 hw hS => ?_)
  obtain ⟨ev3, hp1⟩ := hp1
  rw [ev3] at hw
  rcases hp1 with ⟨rfl, w4a, w4b⟩ | ⟨rfl, w4n⟩
  · skip
    have hG := g_pos ⟨w4a, w4b⟩ hG
    have r5 : Rg wd 0 5 := by obtain ⟨_, _⟩ := (rg_any wd); exact ⟨by omega, by omega⟩
    refine lv_if_ne (tgt := 9) hx hb d_X11_buyer_4 (by decide) (fun c6 => ?_) (fun c6 => ?_)
    · refine lv_iload_n hx hb d_X11_buyer_9 rfl (lv_at hl 2 rfl) ?_
      refine lv_iconst (v := 0) hx hb d_X11_buyer_10 (by decide) ?_
      refine lv_iconst (v := 3) hx hb d_X11_buyer_11 (by decide) ?_
      refine r_ci (r_runS (n := 3) (As := [.int so, .int 0, .int 3]) (rest := []) X hw (ct_X11_in l D dA ad v hI so 0 3) gc_X11_169 (by decide +kernel) ⟨rfl, rfl, Nat.le_of_ble_eq_true rfl, Nat.le_of_ble_eq_true rfl⟩ rfl hl.1 rfl (Nat.le_of_ble_eq_true rfl) ⟨Nat.zero_le _, Nat.zero_le _⟩ d_X11_buyer_12) hS (fun x8 v9 H locs hp7 hw hS => ?_)
      obtain ⟨ev9, hp7⟩ := hp7
      rw [ev9] at hw
      rcases hp7 with ⟨rfl, w10a, w10b⟩ | ⟨rfl, w10n⟩
      · skip
        have hG := g_pos ⟨w10a, w10b⟩ hG
        have r11 : Rg so 0 3 := by obtain ⟨_, _⟩ := (rg_any so); have : (0 : Int32).toInt = 0 := rfl; have : (3 : Int32).toInt = 3 := rfl; exact ⟨by omega, by omega⟩
        refine lv_if_eq (tgt := 40) hx hb d_X11_buyer_15 (by decide) (fun c12 => ?_) (fun c12 => ?_)
        · exact absurd c12 (by decide)
        · refine lv_iload_n hx hb d_X11_buyer_18 rfl (lv_at hl 3 rfl) ?_
          refine lv_iconst (v := 0) hx hb d_X11_buyer_19 (by decide) ?_
          refine lv_sipush (v := 2000) hx hb d_X11_buyer_20 (by decide) ?_
          refine r_ci (r_runS (n := 3) (As := [.int wt, .int 0, .int 2000]) (rest := []) X hw (ct_X11_in l D dA ad v hI wt 0 2000) gc_X11_169 (by decide +kernel) ⟨rfl, rfl, Nat.le_of_ble_eq_true rfl, Nat.le_of_ble_eq_true rfl⟩ rfl hl.1 rfl (Nat.le_of_ble_eq_true rfl) ⟨Nat.zero_le _, Nat.zero_le _⟩ d_X11_buyer_23) hS (fun x14 v15 H locs hp13 hw hS => ?_)
          obtain ⟨ev15, hp13⟩ := hp13
          rw [ev15] at hw
          rcases hp13 with ⟨rfl, w16a, w16b⟩ | ⟨rfl, w16n⟩
          · skip
            have hG := g_pos ⟨w16a, w16b⟩ hG
            have r17 : Rg wt 0 2000 := by obtain ⟨_, _⟩ := (rg_any wt); have : (0 : Int32).toInt = 0 := rfl; have : (2000 : Int32).toInt = 2000 := rfl; exact ⟨by omega, by omega⟩
            refine lv_if_eq (tgt := 40) hx hb d_X11_buyer_26 (by decide) (fun c18 => ?_) (fun c18 => ?_)
            · exact absurd c18 (by decide)
            · refine lv_iload hx hb d_X11_buyer_29 (lv_at hl 4 rfl) ?_
              refine lv_iconst (v := 1) hx hb d_X11_buyer_31 (by decide) ?_
              refine lv_bipush (v := 120) hx hb d_X11_buyer_32 (by decide) ?_
              refine r_ci (r_runS (n := 3) (As := [.int bd, .int 1, .int 120]) (rest := []) X hw (ct_X11_in l D dA ad v hI bd 1 120) gc_X11_169 (by decide +kernel) ⟨rfl, rfl, Nat.le_of_ble_eq_true rfl, Nat.le_of_ble_eq_true rfl⟩ rfl hl.1 rfl (Nat.le_of_ble_eq_true rfl) ⟨Nat.zero_le _, Nat.zero_le _⟩ d_X11_buyer_34) hS (fun x20 v21 H locs hp19 hw hS => ?_)
              obtain ⟨ev21, hp19⟩ := hp19
              rw [ev21] at hw
              rcases hp19 with ⟨rfl, w22a, w22b⟩ | ⟨rfl, w22n⟩
              · skip
                have hG := g_pos ⟨w22a, w22b⟩ hG
                have r23 : Rg bd 1 120 := by obtain ⟨_, _⟩ := (rg_any bd); have : (1 : Int32).toInt = 1 := rfl; have : (120 : Int32).toInt = 120 := rfl; exact ⟨by omega, by omega⟩
                refine lv_if_ne (tgt := 43) hx hb d_X11_buyer_37 (by decide) (fun c24 => ?_) (fun c24 => ?_)
                · refine lv_aload_n hx hb d_X11_buyer_43 rfl (lv_at hl 0 rfl) ?_
                  refine r_geti X hw FL_X11_173 (rfl : KD 400 = _) rfl d_X11_buyer_44 ?_
                  refine lv_topi (fun x25 ex25 => ?_)
                  have hG := bnd_use ex25 hG
                  have r26 : Rg x25 0 10 := by rw [ex25]; exact hI _ _ _ _ rfl
                  have hm27 : v 400 15 = x25 := ex25.symm
                  refine lv_bipush (v := 10) hx hb d_X11_buyer_47 (by decide) ?_
                  refine lv_icmp_ne (tgt := 55) hx hb d_X11_buyer_49 (by decide) (fun c28 => ?_) (fun c28 => ?_)
                  · have f29 := i_ne c28
                    have r30 : Rg x25 0 9 := by obtain ⟨a1, a2⟩ := r26; obtain ⟨b1, b2⟩ := (⟨by decide, by decide⟩ : Rg 10 10 10); have f := i_ne c28; exact ⟨by omega, by omega⟩
                    have hG := g_neg c28 hG
                    refine lv_aload_n hx hb d_X11_buyer_55 rfl (lv_at hl 0 rfl) ?_
                    refine r_getr (r := 417) X hw FL_X11_49 (rfl : KD 400 = _) rfl d_X11_buyer_56 ?_
                    refine lv_aload_n hx hb d_X11_buyer_59 rfl (lv_at hl 0 rfl) ?_
                    refine r_geti X hw FL_X11_173 (rfl : KD 400 = _) rfl d_X11_buyer_60 ?_
                    rw [hm27]
                    refine lv_iload_n hx hb d_X11_buyer_63 rfl (lv_at hl 1 rfl) ?_
                    refine r_iast X hw hS (rfl : KD 417 = _) (Rg.vp (b := 9) r30 (by decide)) rfl d_X11_buyer_64 (fun H locs hw hS => ?_)
                    obtain ⟨v31, ev31⟩ : ∃ z, z = up2 v 417 x25.toNatClampNeg wd := ⟨_, rfl⟩
                    rw [← ev31] at hw
                    have hG := bnd_use ev31 hG
                    have hI32 : Inv v31 := by rw [ev31]; exact Inv.putr hI rfl r5
                    have hK33 : Kp (kp_X11_buyer_400 wd so wt bd) v v31 := by rw [ev31]; exact Kp.put hK0 _ (by unfold kp_X11_buyer_400; omega)
                    have hm34 : v31 400 15 = x25 := by rw [ev31, up2_n _ _ (by omega)]; exact hm27
                    refine lv_aload_n hx hb d_X11_buyer_65 rfl (lv_at hl 0 rfl) ?_
                    refine r_getr (r := 418) X hw FL_X11_52 (rfl : KD 400 = _) rfl d_X11_buyer_66 ?_
                    refine lv_aload_n hx hb d_X11_buyer_69 rfl (lv_at hl 0 rfl) ?_
                    refine r_geti X hw FL_X11_173 (rfl : KD 400 = _) rfl d_X11_buyer_70 ?_
                    rw [hm34]
                    refine lv_iload_n hx hb d_X11_buyer_73 rfl (lv_at hl 2 rfl) ?_
                    refine r_iast X hw hS (rfl : KD 418 = _) (Rg.vp (b := 9) r30 (by decide)) rfl d_X11_buyer_74 (fun H locs hw hS => ?_)
                    obtain ⟨v35, ev35⟩ : ∃ z, z = up2 v31 418 x25.toNatClampNeg so := ⟨_, rfl⟩
                    rw [← ev35] at hw
                    have hG := bnd_use ev35 hG
                    have hI36 : Inv v35 := by rw [ev35]; exact Inv.put0 hI32 _ rfl
                    have hK37 : Kp (kp_X11_buyer_400 wd so wt bd) v v35 := by rw [ev35]; exact Kp.put hK33 _ (by unfold kp_X11_buyer_400; omega)
                    have hm38 : v35 400 15 = x25 := by rw [ev35, up2_n _ _ (by omega)]; exact hm34
                    refine lv_aload_n hx hb d_X11_buyer_75 rfl (lv_at hl 0 rfl) ?_
                    refine r_getr (r := 419) X hw FL_X11_55 (rfl : KD 400 = _) rfl d_X11_buyer_76 ?_
                    refine lv_aload_n hx hb d_X11_buyer_79 rfl (lv_at hl 0 rfl) ?_
                    refine r_geti X hw FL_X11_173 (rfl : KD 400 = _) rfl d_X11_buyer_80 ?_
                    rw [hm38]
                    refine lv_iload_n hx hb d_X11_buyer_83 rfl (lv_at hl 3 rfl) ?_
                    refine r_iast X hw hS (rfl : KD 419 = _) (Rg.vp (b := 9) r30 (by decide)) rfl d_X11_buyer_84 (fun H locs hw hS => ?_)
                    obtain ⟨v39, ev39⟩ : ∃ z, z = up2 v35 419 x25.toNatClampNeg wt := ⟨_, rfl⟩
                    rw [← ev39] at hw
                    have hG := bnd_use ev39 hG
                    have hI40 : Inv v39 := by rw [ev39]; exact Inv.put0 hI36 _ rfl
                    have hK41 : Kp (kp_X11_buyer_400 wd so wt bd) v v39 := by rw [ev39]; exact Kp.put hK37 _ (by unfold kp_X11_buyer_400; omega)
                    have hm42 : v39 400 15 = x25 := by rw [ev39, up2_n _ _ (by omega)]; exact hm38
                    refine lv_aload_n hx hb d_X11_buyer_85 rfl (lv_at hl 0 rfl) ?_
                    refine r_getr (r := 420) X hw FL_X11_58 (rfl : KD 400 = _) rfl d_X11_buyer_86 ?_
                    refine lv_aload_n hx hb d_X11_buyer_89 rfl (lv_at hl 0 rfl) ?_
                    refine r_geti X hw FL_X11_173 (rfl : KD 400 = _) rfl d_X11_buyer_90 ?_
                    rw [hm42]
                    refine lv_iload hx hb d_X11_buyer_93 (lv_at hl 4 rfl) ?_
                    refine r_iast X hw hS (rfl : KD 420 = _) (Rg.vp (b := 9) r30 (by decide)) rfl d_X11_buyer_95 (fun H locs hw hS => ?_)
                    obtain ⟨v43, ev43⟩ : ∃ z, z = up2 v39 420 x25.toNatClampNeg bd := ⟨_, rfl⟩
                    rw [← ev43] at hw
                    have hG := bnd_use ev43 hG
                    have hI44 : Inv v43 := by rw [ev43]; exact Inv.put0 hI40 _ rfl
                    have hK45 : Kp (kp_X11_buyer_400 wd so wt bd) v v43 := by rw [ev43]; exact Kp.put hK41 _ (by unfold kp_X11_buyer_400; omega)
                    have hm46 : v43 400 15 = x25 := by rw [ev43, up2_n _ _ (by omega)]; exact hm42
                    refine lv_aload_n hx hb d_X11_buyer_96 rfl (lv_at hl 0 rfl) ?_
                    refine lv_dup hx hb d_X11_buyer_97 rfl ?_
                    refine r_geti X hw FL_X11_173 (rfl : KD 400 = _) rfl d_X11_buyer_98 ?_
                    rw [hm46]
                    refine lv_iconst (v := 1) hx hb d_X11_buyer_101 (by decide) ?_
                    refine lv_iadd hx hb d_X11_buyer_102 ?_
                    refine lv_topi (fun x47 ex47 => ?_)
                    have hG := bnd_use ex47 hG
                    have r48 : Rg x47 1 10 := rg_add ex47 r30 (⟨by decide, by decide⟩ : Rg 1 1 1) (by decide) (by decide)
                    have s49 : x47.toInt = x25.toInt + (1 : Int32).toInt := by rw [ex47]; exact i_add (by obtain ⟨_, _⟩ := r30; obtain ⟨_, _⟩ := (⟨by decide, by decide⟩ : Rg 1 1 1); omega) (by obtain ⟨_, _⟩ := r30; obtain ⟨_, _⟩ := (⟨by decide, by decide⟩ : Rg 1 1 1); omega)
                    have s49l : (1 : Int32).toInt = 1 := rfl
                    refine r_put X hw hS FP_X11_173 (rfl : KD 400 = _) rfl ⟨rfl, rfl⟩ d_X11_buyer_103 (fun H locs hw hS => ?_)
                    obtain ⟨v50, ev50⟩ : ∃ z, z = up2 v43 400 15 x47 := ⟨_, rfl⟩
                    rw [← ev50] at hw
                    have hG := bnd_use ev50 hG
                    have hI51 : Inv v50 := by rw [ev50]; exact Inv.putr hI44 rfl (rg_w r48 (by decide) (by decide))
                    have hK52 : Kp (kp_X11_buyer_400 wd so wt bd) v v50 := by rw [ev50]; exact Kp.put hK45 _ (by unfold kp_X11_buyer_400; omega)
                    have hm53 : v50 400 15 = x47 := by rw [ev50, up2_s]
                    refine lv_aload_n hx hb d_X11_buyer_106 rfl (lv_at hl 0 rfl) ?_
                    refine r_geti X hw FL_X11_173 (rfl : KD 400 = _) rfl d_X11_buyer_107 ?_
                    rw [hm53]
                    refine lv_iconst (v := 1) hx hb d_X11_buyer_110 (by decide) ?_
                    refine lv_isub hx hb d_X11_buyer_111 ?_
                    refine lv_topi (fun x54 ex54 => ?_)
                    have hG := bnd_use ex54 hG
                    have r55 : Rg x54 0 9 := rg_sub ex54 r48 (⟨by decide, by decide⟩ : Rg 1 1 1) (by decide) (by decide)
                    have s56 : x54.toInt = x47.toInt - (1 : Int32).toInt := by rw [ex54]; exact i_sub (by obtain ⟨_, _⟩ := r48; obtain ⟨_, _⟩ := (⟨by decide, by decide⟩ : Rg 1 1 1); omega) (by obtain ⟨_, _⟩ := r48; obtain ⟨_, _⟩ := (⟨by decide, by decide⟩ : Rg 1 1 1); omega)
                    have s56l : (1 : Int32).toInt = 1 := rfl
                    exact r_iret X hr hlocks hw hS ⟨⟨hI51, hK52⟩, hG.trans eRR.symm⟩ d_X11_buyer_112
                  · have f57 := i_eq c28
                    have r58 : Rg x25 10 10 := by obtain ⟨a1, a2⟩ := r26; obtain ⟨b1, b2⟩ := (⟨by decide, by decide⟩ : Rg 10 10 10); have f := i_eq c28; exact ⟨by omega, by omega⟩
                    have hG := g_pos c28 hG
                    refine lv_bipush (v := -4) hx hb d_X11_buyer_52 (by decide) ?_
                    exact r_iret X hr hlocks hw hS ⟨⟨hI, hK0⟩, hG.trans eRR.symm⟩ d_X11_buyer_54
                · exact absurd c24 (by decide)
              · skip
                have hG := g_neg w22n hG
                refine lv_if_ne (tgt := 43) hx hb d_X11_buyer_37 (by decide) (fun c59 => ?_) (fun c59 => ?_)
                · exact absurd c59 (by decide)
                · refine lv_bipush (v := -2) hx hb d_X11_buyer_40 (by decide) ?_
                  exact r_iret X hr hlocks hw hS ⟨⟨hI, hK0⟩, hG.trans eRR.symm⟩ d_X11_buyer_42
          · skip
            have hG := g_neg w16n hG
            refine lv_if_eq (tgt := 40) hx hb d_X11_buyer_26 (by decide) (fun c60 => ?_) (fun c60 => ?_)
            · refine lv_bipush (v := -2) hx hb d_X11_buyer_40 (by decide) ?_
              exact r_iret X hr hlocks hw hS ⟨⟨hI, hK0⟩, hG.trans eRR.symm⟩ d_X11_buyer_42
            · exact absurd c60 (by decide)
      · skip
        have hG := g_neg w10n hG
        refine lv_if_eq (tgt := 40) hx hb d_X11_buyer_15 (by decide) (fun c61 => ?_) (fun c61 => ?_)
        · refine lv_bipush (v := -2) hx hb d_X11_buyer_40 (by decide) ?_
          exact r_iret X hr hlocks hw hS ⟨⟨hI, hK0⟩, hG.trans eRR.symm⟩ d_X11_buyer_42
        · exact absurd c61 (by decide)
    · exact absurd c6 (by decide)
  · skip
    have hG := g_neg w4n hG
    refine lv_if_ne (tgt := 9) hx hb d_X11_buyer_4 (by decide) (fun c62 => ?_) (fun c62 => ?_)
    · exact absurd c62 (by decide)
    · refine lv_iconst (v := -1) hx hb d_X11_buyer_7 (by decide) ?_
      exact r_iret X hr hlocks hw hS ⟨⟨hI, hK0⟩, hG.trans eRR.symm⟩ d_X11_buyer_8
theorem d_X11_want_0 : decode c_X11_want 0 = .ok (.aload_n 0, 1) := by decide +kernel
theorem d_X11_want_1 : decode c_X11_want 1 = .ok (.iload_n 1, 1) := by decide +kernel
theorem d_X11_want_2 : decode c_X11_want 2 = .ok (.invokevirtual 187, 3) := by decide +kernel
theorem d_X11_want_5 : decode c_X11_want 5 = .ok (.ifCond .ne 5, 3) := by decide +kernel
theorem d_X11_want_8 : decode c_X11_want 8 = .ok (.iconst (-1), 1) := by decide +kernel
theorem d_X11_want_9 : decode c_X11_want 9 = .ok (.ireturn, 1) := by decide +kernel
theorem d_X11_want_10 : decode c_X11_want 10 = .ok (.iload_n 2, 1) := by decide +kernel
theorem d_X11_want_11 : decode c_X11_want 11 = .ok (.iconst 0, 1) := by decide +kernel
theorem d_X11_want_12 : decode c_X11_want 12 = .ok (.sipush 2000, 3) := by decide +kernel
theorem d_X11_want_15 : decode c_X11_want 15 = .ok (.invokestatic 169, 3) := by decide +kernel
theorem d_X11_want_18 : decode c_X11_want 18 = .ok (.ifCond .eq 13, 3) := by decide +kernel
theorem d_X11_want_21 : decode c_X11_want 21 = .ok (.iload_n 3, 1) := by decide +kernel
theorem d_X11_want_22 : decode c_X11_want 22 = .ok (.iconst 1, 1) := by decide +kernel
theorem d_X11_want_23 : decode c_X11_want 23 = .ok (.bipush 120, 2) := by decide +kernel
theorem d_X11_want_25 : decode c_X11_want 25 = .ok (.invokestatic 169, 3) := by decide +kernel
theorem d_X11_want_28 : decode c_X11_want 28 = .ok (.ifCond .ne 6, 3) := by decide +kernel
theorem d_X11_want_31 : decode c_X11_want 31 = .ok (.bipush (-2), 2) := by decide +kernel
theorem d_X11_want_33 : decode c_X11_want 33 = .ok (.ireturn, 1) := by decide +kernel
theorem d_X11_want_34 : decode c_X11_want 34 = .ok (.aload_n 0, 1) := by decide +kernel
theorem d_X11_want_35 : decode c_X11_want 35 = .ok (.getfield 55, 3) := by decide +kernel
theorem d_X11_want_38 : decode c_X11_want 38 = .ok (.iload_n 1, 1) := by decide +kernel
theorem d_X11_want_39 : decode c_X11_want 39 = .ok (.iaload, 1) := by decide +kernel
theorem d_X11_want_40 : decode c_X11_want 40 = .ok (.istore 4, 2) := by decide +kernel
theorem d_X11_want_42 : decode c_X11_want 42 = .ok (.aload_n 0, 1) := by decide +kernel
theorem d_X11_want_43 : decode c_X11_want 43 = .ok (.getfield 55, 3) := by decide +kernel
theorem d_X11_want_46 : decode c_X11_want 46 = .ok (.iload_n 1, 1) := by decide +kernel
theorem d_X11_want_47 : decode c_X11_want 47 = .ok (.iload_n 2, 1) := by decide +kernel
theorem d_X11_want_48 : decode c_X11_want 48 = .ok (.iastore, 1) := by decide +kernel
theorem d_X11_want_49 : decode c_X11_want 49 = .ok (.aload_n 0, 1) := by decide +kernel
theorem d_X11_want_50 : decode c_X11_want 50 = .ok (.getfield 58, 3) := by decide +kernel
theorem d_X11_want_53 : decode c_X11_want 53 = .ok (.iload_n 1, 1) := by decide +kernel
theorem d_X11_want_54 : decode c_X11_want 54 = .ok (.iload_n 3, 1) := by decide +kernel
theorem d_X11_want_55 : decode c_X11_want 55 = .ok (.iastore, 1) := by decide +kernel
theorem d_X11_want_56 : decode c_X11_want 56 = .ok (.iload 4, 2) := by decide +kernel
theorem d_X11_want_58 : decode c_X11_want 58 = .ok (.ireturn, 1) := by decide +kernel
def kp_X11_want_400 (bi : Int32) (wt : Int32) (bd : Int32) (a j : Nat) : Prop := a ≠ 419 ∧ a ≠ 420
def f_X11_want_400 (v : tV) (bi : Int32) (wt : Int32) (bd : Int32) : Int32 × tV := (if 0 ≤ bi.toInt ∧ bi.toInt ≤ (v 400 15).toInt - 1 then (if (0 : Int32).toInt ≤ wt.toInt ∧ wt.toInt ≤ (2000 : Int32).toInt then (if (1 : Int32).toInt ≤ bd.toInt ∧ bd.toInt ≤ (120 : Int32).toInt then bnd (v 419 bi.toNatClampNeg) fun x19 => bnd (up2 v 419 (bi.toNatClampNeg) wt) fun v20 => bnd (up2 v20 420 (bi.toNatClampNeg) bd) fun v23 => (x19, v23) else ((-2 : Int32), v)) else ((-2 : Int32), v)) else ((-1 : Int32), v))
set_option maxHeartbeats 4000000 in
set_option maxRecDepth 100000 in
theorem ct_X11_want_400 (l : Launch) (D : va_G) (dA : Nat → ClassId) (ad : Nat → Nat) (v : tV) (hI : Inv v) (bi : Int32) (wt : Int32) (bd : Int32) : Met l m_X11_want [.code m_X11_want c_X11_want 5 (some .int)] ({ frames := 3, cells := 0, slots := 0, locals := 83 } : Room) (tP D dA ad v [.ref (ad 400), .int bi, .int wt, .int bd]) (tQi D dA ad (fun r v' => (Inv v' ∧ Kp (kp_X11_want_400 bi wt bd) v v') ∧ (r, v') = f_X11_want_400 v bi wt bd)) 0 0 (tA ad) := by
  refine tMet (by decide) (Nat.le_of_ble_eq_true rfl) ?_
  intro p e s m below meth c ls X hr hlocks hw hl
  have X : CX p s m ([.ref (ad 400), .int bi, .int wt, .int bd] : List Value).toArray c c_X11_want N_X11 5 D dA := X
  have hx := X.1
  have hb := X.2.1
  have hS : va_S (tA ad) s.heap s.heap [] := va_S.rf
  have hl : lv_has ls 5 [(0, .ref (ad 400)), (1, .int bi), (2, .int wt), (3, .int bd)] := hl
  obtain ⟨RR, eRR⟩ : ∃ z, f_X11_want_400 v bi wt bd = z := ⟨_, rfl⟩
  have hK0 : Kp (kp_X11_want_400 bi wt bd) v v := Kp.rf _ v
  have hG := eRR
  unfold f_X11_want_400 at hG
  refine lv_aload_n hx hb d_X11_want_0 rfl (lv_at hl 0 rfl) ?_
  refine lv_iload_n hx hb d_X11_want_1 rfl (lv_at hl 1 rfl) ?_
  refine r_ci (r_runV (n := 1) (As := [.int bi]) (rest := []) X hw (ct_X11_isBuyer_400 l D dA ad v hI bi) gc_X11_187 (rfl : KD 400 = _) (by decide) rfl (by decide +kernel) ⟨rfl, rfl, Nat.le_of_ble_eq_true rfl, Nat.le_of_ble_eq_true rfl⟩ rfl hl.1 rfl (Nat.le_of_ble_eq_true rfl) ⟨Nat.zero_le _, Nat.zero_le _⟩ d_X11_want_2) hS (fun x2 v3 H locs hp1 hw hS => ?_)
  obtain ⟨ev3, hp1⟩ := hp1
  rw [ev3] at hw
  rcases hp1 with ⟨rfl, w4a, w4b⟩ | ⟨rfl, w4n⟩
  · skip
    have hG := g_pos ⟨w4a, w4b⟩ hG
    have r5 : Rg bi 0 9 := by have q := hI 400 15 0 10 rfl; obtain ⟨_, _⟩ := q; obtain ⟨_, _⟩ := (rg_any bi); exact ⟨by omega, by omega⟩
    refine lv_if_ne (tgt := 10) hx hb d_X11_want_5 (by decide) (fun c6 => ?_) (fun c6 => ?_)
    · refine lv_iload_n hx hb d_X11_want_10 rfl (lv_at hl 2 rfl) ?_
      refine lv_iconst (v := 0) hx hb d_X11_want_11 (by decide) ?_
      refine lv_sipush (v := 2000) hx hb d_X11_want_12 (by decide) ?_
      refine r_ci (r_runS (n := 3) (As := [.int wt, .int 0, .int 2000]) (rest := []) X hw (ct_X11_in l D dA ad v hI wt 0 2000) gc_X11_169 (by decide +kernel) ⟨rfl, rfl, Nat.le_of_ble_eq_true rfl, Nat.le_of_ble_eq_true rfl⟩ rfl hl.1 rfl (Nat.le_of_ble_eq_true rfl) ⟨Nat.zero_le _, Nat.zero_le _⟩ d_X11_want_15) hS (fun x8 v9 H locs hp7 hw hS => ?_)
      obtain ⟨ev9, hp7⟩ := hp7
      rw [ev9] at hw
      rcases hp7 with ⟨rfl, w10a, w10b⟩ | ⟨rfl, w10n⟩
      · skip
        have hG := g_pos ⟨w10a, w10b⟩ hG
        have r11 : Rg wt 0 2000 := by obtain ⟨_, _⟩ := (rg_any wt); have : (0 : Int32).toInt = 0 := rfl; have : (2000 : Int32).toInt = 2000 := rfl; exact ⟨by omega, by omega⟩
        refine lv_if_eq (tgt := 31) hx hb d_X11_want_18 (by decide) (fun c12 => ?_) (fun c12 => ?_)
        · exact absurd c12 (by decide)
        · refine lv_iload_n hx hb d_X11_want_21 rfl (lv_at hl 3 rfl) ?_
          refine lv_iconst (v := 1) hx hb d_X11_want_22 (by decide) ?_
          refine lv_bipush (v := 120) hx hb d_X11_want_23 (by decide) ?_
          refine r_ci (r_runS (n := 3) (As := [.int bd, .int 1, .int 120]) (rest := []) X hw (ct_X11_in l D dA ad v hI bd 1 120) gc_X11_169 (by decide +kernel) ⟨rfl, rfl, Nat.le_of_ble_eq_true rfl, Nat.le_of_ble_eq_true rfl⟩ rfl hl.1 rfl (Nat.le_of_ble_eq_true rfl) ⟨Nat.zero_le _, Nat.zero_le _⟩ d_X11_want_25) hS (fun x14 v15 H locs hp13 hw hS => ?_)
          obtain ⟨ev15, hp13⟩ := hp13
          rw [ev15] at hw
          rcases hp13 with ⟨rfl, w16a, w16b⟩ | ⟨rfl, w16n⟩
          · skip
            have hG := g_pos ⟨w16a, w16b⟩ hG
            have r17 : Rg bd 1 120 := by obtain ⟨_, _⟩ := (rg_any bd); have : (1 : Int32).toInt = 1 := rfl; have : (120 : Int32).toInt = 120 := rfl; exact ⟨by omega, by omega⟩
            refine lv_if_ne (tgt := 34) hx hb d_X11_want_28 (by decide) (fun c18 => ?_) (fun c18 => ?_)
            · refine lv_aload_n hx hb d_X11_want_34 rfl (lv_at hl 0 rfl) ?_
              refine r_getr (r := 419) X hw FL_X11_55 (rfl : KD 400 = _) rfl d_X11_want_35 ?_
              refine lv_iload_n hx hb d_X11_want_38 rfl (lv_at hl 1 rfl) ?_
              refine r_iald X hw (rfl : KD 419 = _) (Rg.vp (b := 9) r5 (by decide)) rfl d_X11_want_39 ?_
              refine lv_topi (fun x19 ex19 => ?_)
              have hG := bnd_use ex19 hG
              refine lv_istore (lv' := [(4, .int x19), (0, .ref (ad 400)), (1, .int bi), (2, .int wt), (3, .int bd)]) hx hb d_X11_want_40 hl (by decide) rfl (fun ls hl => ?_)
              refine lv_aload_n hx hb d_X11_want_42 rfl (lv_at hl 1 rfl) ?_
              refine r_getr (r := 419) X hw FL_X11_55 (rfl : KD 400 = _) rfl d_X11_want_43 ?_
              refine lv_iload_n hx hb d_X11_want_46 rfl (lv_at hl 2 rfl) ?_
              refine lv_iload_n hx hb d_X11_want_47 rfl (lv_at hl 3 rfl) ?_
              refine r_iast X hw hS (rfl : KD 419 = _) (Rg.vp (b := 9) r5 (by decide)) rfl d_X11_want_48 (fun H locs hw hS => ?_)
              obtain ⟨v20, ev20⟩ : ∃ z, z = up2 v 419 bi.toNatClampNeg wt := ⟨_, rfl⟩
              rw [← ev20] at hw
              have hG := bnd_use ev20 hG
              have hI21 : Inv v20 := by rw [ev20]; exact Inv.put0 hI _ rfl
              have hK22 : Kp (kp_X11_want_400 bi wt bd) v v20 := by rw [ev20]; exact Kp.put hK0 _ (by unfold kp_X11_want_400; omega)
              refine lv_aload_n hx hb d_X11_want_49 rfl (lv_at hl 1 rfl) ?_
              refine r_getr (r := 420) X hw FL_X11_58 (rfl : KD 400 = _) rfl d_X11_want_50 ?_
              refine lv_iload_n hx hb d_X11_want_53 rfl (lv_at hl 2 rfl) ?_
              refine lv_iload_n hx hb d_X11_want_54 rfl (lv_at hl 4 rfl) ?_
              refine r_iast X hw hS (rfl : KD 420 = _) (Rg.vp (b := 9) r5 (by decide)) rfl d_X11_want_55 (fun H locs hw hS => ?_)
              obtain ⟨v23, ev23⟩ : ∃ z, z = up2 v20 420 bi.toNatClampNeg bd := ⟨_, rfl⟩
              rw [← ev23] at hw
              have hG := bnd_use ev23 hG
              have hI24 : Inv v23 := by rw [ev23]; exact Inv.put0 hI21 _ rfl
              have hK25 : Kp (kp_X11_want_400 bi wt bd) v v23 := by rw [ev23]; exact Kp.put hK22 _ (by unfold kp_X11_want_400; omega)
              refine lv_iload hx hb d_X11_want_56 (lv_at hl 0 rfl) ?_
              exact r_iret X hr hlocks hw hS ⟨⟨hI24, hK25⟩, hG.trans eRR.symm⟩ d_X11_want_58
            · exact absurd c18 (by decide)
          · skip
            have hG := g_neg w16n hG
            refine lv_if_ne (tgt := 34) hx hb d_X11_want_28 (by decide) (fun c26 => ?_) (fun c26 => ?_)
            · exact absurd c26 (by decide)
            · refine lv_bipush (v := -2) hx hb d_X11_want_31 (by decide) ?_
              exact r_iret X hr hlocks hw hS ⟨⟨hI, hK0⟩, hG.trans eRR.symm⟩ d_X11_want_33
      · skip
        have hG := g_neg w10n hG
        refine lv_if_eq (tgt := 31) hx hb d_X11_want_18 (by decide) (fun c27 => ?_) (fun c27 => ?_)
        · refine lv_bipush (v := -2) hx hb d_X11_want_31 (by decide) ?_
          exact r_iret X hr hlocks hw hS ⟨⟨hI, hK0⟩, hG.trans eRR.symm⟩ d_X11_want_33
        · exact absurd c27 (by decide)
    · exact absurd c6 (by decide)
  · skip
    have hG := g_neg w4n hG
    refine lv_if_ne (tgt := 10) hx hb d_X11_want_5 (by decide) (fun c28 => ?_) (fun c28 => ?_)
    · exact absurd c28 (by decide)
    · refine lv_iconst (v := -1) hx hb d_X11_want_8 (by decide) ?_
      exact r_iret X hr hlocks hw hS ⟨⟨hI, hK0⟩, hG.trans eRR.symm⟩ d_X11_want_9
theorem d_X11_burn_0 : decode c_X11_burn 0 = .ok (.iload_n 1, 1) := by decide +kernel
theorem d_X11_burn_1 : decode c_X11_burn 1 = .ok (.invokestatic 184, 3) := by decide +kernel
theorem d_X11_burn_4 : decode c_X11_burn 4 = .ok (.ifCond .ne 5, 3) := by decide +kernel
theorem d_X11_burn_7 : decode c_X11_burn 7 = .ok (.iconst (-1), 1) := by decide +kernel
theorem d_X11_burn_8 : decode c_X11_burn 8 = .ok (.ireturn, 1) := by decide +kernel
theorem d_X11_burn_9 : decode c_X11_burn 9 = .ok (.iload_n 2, 1) := by decide +kernel
theorem d_X11_burn_10 : decode c_X11_burn 10 = .ok (.iconst 0, 1) := by decide +kernel
theorem d_X11_burn_11 : decode c_X11_burn 11 = .ok (.iconst 4, 1) := by decide +kernel
theorem d_X11_burn_12 : decode c_X11_burn 12 = .ok (.invokestatic 169, 3) := by decide +kernel
theorem d_X11_burn_15 : decode c_X11_burn 15 = .ok (.ifCond .eq 14, 3) := by decide +kernel
theorem d_X11_burn_18 : decode c_X11_burn 18 = .ok (.iload_n 3, 1) := by decide +kernel
theorem d_X11_burn_19 : decode c_X11_burn 19 = .ok (.iconst 0, 1) := by decide +kernel
theorem d_X11_burn_20 : decode c_X11_burn 20 = .ok (.sipush 500, 3) := by decide +kernel
theorem d_X11_burn_23 : decode c_X11_burn 23 = .ok (.invokestatic 169, 3) := by decide +kernel
theorem d_X11_burn_26 : decode c_X11_burn 26 = .ok (.ifCond .ne 6, 3) := by decide +kernel
theorem d_X11_burn_29 : decode c_X11_burn 29 = .ok (.bipush (-2), 2) := by decide +kernel
theorem d_X11_burn_31 : decode c_X11_burn 31 = .ok (.ireturn, 1) := by decide +kernel
theorem d_X11_burn_32 : decode c_X11_burn 32 = .ok (.aload_n 0, 1) := by decide +kernel
theorem d_X11_burn_33 : decode c_X11_burn 33 = .ok (.getfield 73, 3) := by decide +kernel
theorem d_X11_burn_36 : decode c_X11_burn 36 = .ok (.iconst 5, 1) := by decide +kernel
theorem d_X11_burn_37 : decode c_X11_burn 37 = .ok (.iload_n 1, 1) := by decide +kernel
theorem d_X11_burn_38 : decode c_X11_burn 38 = .ok (.imul, 1) := by decide +kernel
theorem d_X11_burn_39 : decode c_X11_burn 39 = .ok (.iload_n 2, 1) := by decide +kernel
theorem d_X11_burn_40 : decode c_X11_burn 40 = .ok (.iadd, 1) := by decide +kernel
theorem d_X11_burn_41 : decode c_X11_burn 41 = .ok (.iaload, 1) := by decide +kernel
theorem d_X11_burn_42 : decode c_X11_burn 42 = .ok (.istore 4, 2) := by decide +kernel
theorem d_X11_burn_44 : decode c_X11_burn 44 = .ok (.aload_n 0, 1) := by decide +kernel
theorem d_X11_burn_45 : decode c_X11_burn 45 = .ok (.getfield 73, 3) := by decide +kernel
theorem d_X11_burn_48 : decode c_X11_burn 48 = .ok (.iconst 5, 1) := by decide +kernel
theorem d_X11_burn_49 : decode c_X11_burn 49 = .ok (.iload_n 1, 1) := by decide +kernel
theorem d_X11_burn_50 : decode c_X11_burn 50 = .ok (.imul, 1) := by decide +kernel
theorem d_X11_burn_51 : decode c_X11_burn 51 = .ok (.iload_n 2, 1) := by decide +kernel
theorem d_X11_burn_52 : decode c_X11_burn 52 = .ok (.iadd, 1) := by decide +kernel
theorem d_X11_burn_53 : decode c_X11_burn 53 = .ok (.iload_n 3, 1) := by decide +kernel
theorem d_X11_burn_54 : decode c_X11_burn 54 = .ok (.iastore, 1) := by decide +kernel
theorem d_X11_burn_55 : decode c_X11_burn 55 = .ok (.iload 4, 2) := by decide +kernel
theorem d_X11_burn_57 : decode c_X11_burn 57 = .ok (.ireturn, 1) := by decide +kernel
def kp_X11_burn_400 (wd : Int32) (co : Int32) (am : Int32) (a j : Nat) : Prop := a ≠ 425
def f_X11_burn_400 (v : tV) (wd : Int32) (co : Int32) (am : Int32) : Int32 × tV := (if 0 ≤ wd.toInt ∧ wd.toInt ≤ 5 then (if (0 : Int32).toInt ≤ co.toInt ∧ co.toInt ≤ (4 : Int32).toInt then (if (0 : Int32).toInt ≤ am.toInt ∧ am.toInt ≤ (500 : Int32).toInt then bnd ((5 : Int32) * wd) fun x19 => bnd (x19 + co) fun x22 => bnd (v 425 x22.toNatClampNeg) fun x25 => bnd ((5 : Int32) * wd) fun x26 => bnd (x26 + co) fun x29 => bnd (up2 v 425 (x29.toNatClampNeg) am) fun v32 => (x25, v32) else ((-2 : Int32), v)) else ((-2 : Int32), v)) else ((-1 : Int32), v))
set_option maxHeartbeats 4000000 in
set_option maxRecDepth 100000 in
theorem ct_X11_burn_400 (l : Launch) (D : va_G) (dA : Nat → ClassId) (ad : Nat → Nat) (v : tV) (hI : Inv v) (wd : Int32) (co : Int32) (am : Int32) : Met l m_X11_burn [.code m_X11_burn c_X11_burn 5 (some .int)] ({ frames := 3, cells := 0, slots := 0, locals := 82 } : Room) (tP D dA ad v [.ref (ad 400), .int wd, .int co, .int am]) (tQi D dA ad (fun r v' => (Inv v' ∧ Kp (kp_X11_burn_400 wd co am) v v') ∧ (r, v') = f_X11_burn_400 v wd co am)) 0 0 (tA ad) := by
  refine tMet (by decide) (Nat.le_of_ble_eq_true rfl) ?_
  intro p e s m below meth c ls X hr hlocks hw hl
  have X : CX p s m ([.ref (ad 400), .int wd, .int co, .int am] : List Value).toArray c c_X11_burn N_X11 5 D dA := X
  have hx := X.1
  have hb := X.2.1
  have hS : va_S (tA ad) s.heap s.heap [] := va_S.rf
  have hl : lv_has ls 5 [(0, .ref (ad 400)), (1, .int wd), (2, .int co), (3, .int am)] := hl
  obtain ⟨RR, eRR⟩ : ∃ z, f_X11_burn_400 v wd co am = z := ⟨_, rfl⟩
  have hK0 : Kp (kp_X11_burn_400 wd co am) v v := Kp.rf _ v
  have hG := eRR
  unfold f_X11_burn_400 at hG
  refine lv_iload_n hx hb d_X11_burn_0 rfl (lv_at hl 1 rfl) ?_
  refine r_ci (r_runS (n := 1) (As := [.int wd]) (rest := []) X hw (ct_X11_isWard l D dA ad v hI wd) gc_X11_184 (by decide +kernel) ⟨rfl, rfl, Nat.le_of_ble_eq_true rfl, Nat.le_of_ble_eq_true rfl⟩ rfl hl.1 rfl (Nat.le_of_ble_eq_true rfl) ⟨Nat.zero_le _, Nat.zero_le _⟩ d_X11_burn_1) hS (fun x2 v3 H locs hp1 hw hS => ?_)
  obtain ⟨ev3, hp1⟩ := hp1
  rw [ev3] at hw
  rcases hp1 with ⟨rfl, w4a, w4b⟩ | ⟨rfl, w4n⟩
  · skip
    have hG := g_pos ⟨w4a, w4b⟩ hG
    have r5 : Rg wd 0 5 := by obtain ⟨_, _⟩ := (rg_any wd); exact ⟨by omega, by omega⟩
    refine lv_if_ne (tgt := 9) hx hb d_X11_burn_4 (by decide) (fun c6 => ?_) (fun c6 => ?_)
    · refine lv_iload_n hx hb d_X11_burn_9 rfl (lv_at hl 2 rfl) ?_
      refine lv_iconst (v := 0) hx hb d_X11_burn_10 (by decide) ?_
      refine lv_iconst (v := 4) hx hb d_X11_burn_11 (by decide) ?_
      refine r_ci (r_runS (n := 3) (As := [.int co, .int 0, .int 4]) (rest := []) X hw (ct_X11_in l D dA ad v hI co 0 4) gc_X11_169 (by decide +kernel) ⟨rfl, rfl, Nat.le_of_ble_eq_true rfl, Nat.le_of_ble_eq_true rfl⟩ rfl hl.1 rfl (Nat.le_of_ble_eq_true rfl) ⟨Nat.zero_le _, Nat.zero_le _⟩ d_X11_burn_12) hS (fun x8 v9 H locs hp7 hw hS => ?_)
      obtain ⟨ev9, hp7⟩ := hp7
      rw [ev9] at hw
      rcases hp7 with ⟨rfl, w10a, w10b⟩ | ⟨rfl, w10n⟩
      · skip
        have hG := g_pos ⟨w10a, w10b⟩ hG
        have r11 : Rg co 0 4 := by obtain ⟨_, _⟩ := (rg_any co); have : (0 : Int32).toInt = 0 := rfl; have : (4 : Int32).toInt = 4 := rfl; exact ⟨by omega, by omega⟩
        refine lv_if_eq (tgt := 29) hx hb d_X11_burn_15 (by decide) (fun c12 => ?_) (fun c12 => ?_)
        · exact absurd c12 (by decide)
        · refine lv_iload_n hx hb d_X11_burn_18 rfl (lv_at hl 3 rfl) ?_
          refine lv_iconst (v := 0) hx hb d_X11_burn_19 (by decide) ?_
          refine lv_sipush (v := 500) hx hb d_X11_burn_20 (by decide) ?_
          refine r_ci (r_runS (n := 3) (As := [.int am, .int 0, .int 500]) (rest := []) X hw (ct_X11_in l D dA ad v hI am 0 500) gc_X11_169 (by decide +kernel) ⟨rfl, rfl, Nat.le_of_ble_eq_true rfl, Nat.le_of_ble_eq_true rfl⟩ rfl hl.1 rfl (Nat.le_of_ble_eq_true rfl) ⟨Nat.zero_le _, Nat.zero_le _⟩ d_X11_burn_23) hS (fun x14 v15 H locs hp13 hw hS => ?_)
          obtain ⟨ev15, hp13⟩ := hp13
          rw [ev15] at hw
          rcases hp13 with ⟨rfl, w16a, w16b⟩ | ⟨rfl, w16n⟩
          · skip
            have hG := g_pos ⟨w16a, w16b⟩ hG
            have r17 : Rg am 0 500 := by obtain ⟨_, _⟩ := (rg_any am); have : (0 : Int32).toInt = 0 := rfl; have : (500 : Int32).toInt = 500 := rfl; exact ⟨by omega, by omega⟩
            refine lv_if_ne (tgt := 32) hx hb d_X11_burn_26 (by decide) (fun c18 => ?_) (fun c18 => ?_)
            · refine lv_aload_n hx hb d_X11_burn_32 rfl (lv_at hl 0 rfl) ?_
              refine r_getr (r := 425) X hw FL_X11_73 (rfl : KD 400 = _) rfl d_X11_burn_33 ?_
              refine lv_iconst (v := 5) hx hb d_X11_burn_36 (by decide) ?_
              refine lv_iload_n hx hb d_X11_burn_37 rfl (lv_at hl 1 rfl) ?_
              refine lv_imul hx hb d_X11_burn_38 ?_
              refine lv_topi (fun x19 ex19 => ?_)
              have hG := bnd_use ex19 hG
              have r20 : Rg x19 0 25 := rg_mulc ex19 (⟨by decide, by decide⟩ : Rg 5 5 5) r5 (by decide) (by decide) (by decide)
              have s21 : x19.toInt = 5 * wd.toInt := rg_mule ex19 r5 rfl (by decide) (by decide)
              refine lv_iload_n hx hb d_X11_burn_39 rfl (lv_at hl 2 rfl) ?_
              refine lv_iadd hx hb d_X11_burn_40 ?_
              refine lv_topi (fun x22 ex22 => ?_)
              have hG := bnd_use ex22 hG
              have r23 : Rg x22 0 29 := rg_add ex22 r20 r11 (by decide) (by decide)
              have s24 : x22.toInt = x19.toInt + (co : Int32).toInt := by rw [ex22]; exact i_add (by obtain ⟨_, _⟩ := r20; obtain ⟨_, _⟩ := r11; omega) (by obtain ⟨_, _⟩ := r20; obtain ⟨_, _⟩ := r11; omega)
              refine r_iald X hw (rfl : KD 425 = _) (Rg.vp (b := 29) r23 (by decide)) rfl d_X11_burn_41 ?_
              refine lv_topi (fun x25 ex25 => ?_)
              have hG := bnd_use ex25 hG
              refine lv_istore (lv' := [(4, .int x25), (0, .ref (ad 400)), (1, .int wd), (2, .int co), (3, .int am)]) hx hb d_X11_burn_42 hl (by decide) rfl (fun ls hl => ?_)
              refine lv_aload_n hx hb d_X11_burn_44 rfl (lv_at hl 1 rfl) ?_
              refine r_getr (r := 425) X hw FL_X11_73 (rfl : KD 400 = _) rfl d_X11_burn_45 ?_
              refine lv_iconst (v := 5) hx hb d_X11_burn_48 (by decide) ?_
              refine lv_iload_n hx hb d_X11_burn_49 rfl (lv_at hl 2 rfl) ?_
              refine lv_imul hx hb d_X11_burn_50 ?_
              refine lv_topi (fun x26 ex26 => ?_)
              have hG := bnd_use ex26 hG
              have r27 : Rg x26 0 25 := rg_mulc ex26 (⟨by decide, by decide⟩ : Rg 5 5 5) r5 (by decide) (by decide) (by decide)
              have s28 : x26.toInt = 5 * wd.toInt := rg_mule ex26 r5 rfl (by decide) (by decide)
              refine lv_iload_n hx hb d_X11_burn_51 rfl (lv_at hl 3 rfl) ?_
              refine lv_iadd hx hb d_X11_burn_52 ?_
              refine lv_topi (fun x29 ex29 => ?_)
              have hG := bnd_use ex29 hG
              have r30 : Rg x29 0 29 := rg_add ex29 r27 r11 (by decide) (by decide)
              have s31 : x29.toInt = x26.toInt + (co : Int32).toInt := by rw [ex29]; exact i_add (by obtain ⟨_, _⟩ := r27; obtain ⟨_, _⟩ := r11; omega) (by obtain ⟨_, _⟩ := r27; obtain ⟨_, _⟩ := r11; omega)
              refine lv_iload_n hx hb d_X11_burn_53 rfl (lv_at hl 4 rfl) ?_
              refine r_iast X hw hS (rfl : KD 425 = _) (Rg.vp (b := 29) r30 (by decide)) rfl d_X11_burn_54 (fun H locs hw hS => ?_)
              obtain ⟨v32, ev32⟩ : ∃ z, z = up2 v 425 x29.toNatClampNeg am := ⟨_, rfl⟩
              rw [← ev32] at hw
              have hG := bnd_use ev32 hG
              have hI33 : Inv v32 := by rw [ev32]; exact Inv.put0 hI _ rfl
              have hK34 : Kp (kp_X11_burn_400 wd co am) v v32 := by rw [ev32]; exact Kp.put hK0 _ (by unfold kp_X11_burn_400; omega)
              refine lv_iload hx hb d_X11_burn_55 (lv_at hl 0 rfl) ?_
              exact r_iret X hr hlocks hw hS ⟨⟨hI33, hK34⟩, hG.trans eRR.symm⟩ d_X11_burn_57
            · exact absurd c18 (by decide)
          · skip
            have hG := g_neg w16n hG
            refine lv_if_ne (tgt := 32) hx hb d_X11_burn_26 (by decide) (fun c35 => ?_) (fun c35 => ?_)
            · exact absurd c35 (by decide)
            · refine lv_bipush (v := -2) hx hb d_X11_burn_29 (by decide) ?_
              exact r_iret X hr hlocks hw hS ⟨⟨hI, hK0⟩, hG.trans eRR.symm⟩ d_X11_burn_31
      · skip
        have hG := g_neg w10n hG
        refine lv_if_eq (tgt := 29) hx hb d_X11_burn_15 (by decide) (fun c36 => ?_) (fun c36 => ?_)
        · refine lv_bipush (v := -2) hx hb d_X11_burn_29 (by decide) ?_
          exact r_iret X hr hlocks hw hS ⟨⟨hI, hK0⟩, hG.trans eRR.symm⟩ d_X11_burn_31
        · exact absurd c36 (by decide)
    · exact absurd c6 (by decide)
  · skip
    have hG := g_neg w4n hG
    refine lv_if_ne (tgt := 9) hx hb d_X11_burn_4 (by decide) (fun c37 => ?_) (fun c37 => ?_)
    · exact absurd c37 (by decide)
    · refine lv_iconst (v := -1) hx hb d_X11_burn_7 (by decide) ?_
      exact r_iret X hr hlocks hw hS ⟨⟨hI, hK0⟩, hG.trans eRR.symm⟩ d_X11_burn_8
theorem d_X11_store_0 : decode c_X11_store 0 = .ok (.iload_n 1, 1) := by decide +kernel
theorem d_X11_store_1 : decode c_X11_store 1 = .ok (.invokestatic 184, 3) := by decide +kernel
theorem d_X11_store_4 : decode c_X11_store 4 = .ok (.ifCond .ne 5, 3) := by decide +kernel
theorem d_X11_store_7 : decode c_X11_store 7 = .ok (.iconst (-1), 1) := by decide +kernel
theorem d_X11_store_8 : decode c_X11_store 8 = .ok (.ireturn, 1) := by decide +kernel
theorem d_X11_store_9 : decode c_X11_store 9 = .ok (.iload_n 2, 1) := by decide +kernel
theorem d_X11_store_10 : decode c_X11_store 10 = .ok (.iconst 0, 1) := by decide +kernel
theorem d_X11_store_11 : decode c_X11_store 11 = .ok (.sipush 9999, 3) := by decide +kernel
theorem d_X11_store_14 : decode c_X11_store 14 = .ok (.invokestatic 169, 3) := by decide +kernel
theorem d_X11_store_17 : decode c_X11_store 17 = .ok (.ifCond .ne 6, 3) := by decide +kernel
theorem d_X11_store_20 : decode c_X11_store 20 = .ok (.bipush (-2), 2) := by decide +kernel
theorem d_X11_store_22 : decode c_X11_store 22 = .ok (.ireturn, 1) := by decide +kernel
theorem d_X11_store_23 : decode c_X11_store 23 = .ok (.aload_n 0, 1) := by decide +kernel
theorem d_X11_store_24 : decode c_X11_store 24 = .ok (.getfield 61, 3) := by decide +kernel
theorem d_X11_store_27 : decode c_X11_store 27 = .ok (.iload_n 1, 1) := by decide +kernel
theorem d_X11_store_28 : decode c_X11_store 28 = .ok (.dup2, 1) := by decide +kernel
theorem d_X11_store_29 : decode c_X11_store 29 = .ok (.iaload, 1) := by decide +kernel
theorem d_X11_store_30 : decode c_X11_store 30 = .ok (.iload_n 2, 1) := by decide +kernel
theorem d_X11_store_31 : decode c_X11_store 31 = .ok (.iadd, 1) := by decide +kernel
theorem d_X11_store_32 : decode c_X11_store 32 = .ok (.iastore, 1) := by decide +kernel
theorem d_X11_store_33 : decode c_X11_store 33 = .ok (.aload_n 0, 1) := by decide +kernel
theorem d_X11_store_34 : decode c_X11_store 34 = .ok (.getfield 61, 3) := by decide +kernel
theorem d_X11_store_37 : decode c_X11_store 37 = .ok (.iload_n 1, 1) := by decide +kernel
theorem d_X11_store_38 : decode c_X11_store 38 = .ok (.iaload, 1) := by decide +kernel
theorem d_X11_store_39 : decode c_X11_store 39 = .ok (.ireturn, 1) := by decide +kernel
def kp_X11_store_400 (wd : Int32) (mo : Int32) (a j : Nat) : Prop := a ≠ 421
def f_X11_store_400 (v : tV) (wd : Int32) (mo : Int32) : Int32 × tV := (if 0 ≤ wd.toInt ∧ wd.toInt ≤ 5 then (if (0 : Int32).toInt ≤ mo.toInt ∧ mo.toInt ≤ (9999 : Int32).toInt then bnd (v 421 wd.toNatClampNeg) fun x13 => bnd (x13 + mo) fun x14 => bnd (up2 v 421 (wd.toNatClampNeg) x14) fun v15 => bnd (v15 421 wd.toNatClampNeg) fun x18 => (x18, v15) else ((-2 : Int32), v)) else ((-1 : Int32), v))
set_option maxHeartbeats 4000000 in
set_option maxRecDepth 100000 in
theorem ct_X11_store_400 (l : Launch) (D : va_G) (dA : Nat → ClassId) (ad : Nat → Nat) (v : tV) (hI : Inv v) (wd : Int32) (mo : Int32) : Met l m_X11_store [.code m_X11_store c_X11_store 3 (some .int)] ({ frames := 3, cells := 0, slots := 0, locals := 82 } : Room) (tP D dA ad v [.ref (ad 400), .int wd, .int mo]) (tQi D dA ad (fun r v' => (Inv v' ∧ Kp (kp_X11_store_400 wd mo) v v') ∧ (r, v') = f_X11_store_400 v wd mo)) 0 0 (tA ad) := by
  refine tMet (by decide) (Nat.le_of_ble_eq_true rfl) ?_
  intro p e s m below meth c ls X hr hlocks hw hl
  have X : CX p s m ([.ref (ad 400), .int wd, .int mo] : List Value).toArray c c_X11_store N_X11 3 D dA := X
  have hx := X.1
  have hb := X.2.1
  have hS : va_S (tA ad) s.heap s.heap [] := va_S.rf
  have hl : lv_has ls 3 [(0, .ref (ad 400)), (1, .int wd), (2, .int mo)] := hl
  obtain ⟨RR, eRR⟩ : ∃ z, f_X11_store_400 v wd mo = z := ⟨_, rfl⟩
  have hK0 : Kp (kp_X11_store_400 wd mo) v v := Kp.rf _ v
  have hG := eRR
  unfold f_X11_store_400 at hG
  refine lv_iload_n hx hb d_X11_store_0 rfl (lv_at hl 1 rfl) ?_
  refine r_ci (r_runS (n := 1) (As := [.int wd]) (rest := []) X hw (ct_X11_isWard l D dA ad v hI wd) gc_X11_184 (by decide +kernel) ⟨rfl, rfl, Nat.le_of_ble_eq_true rfl, Nat.le_of_ble_eq_true rfl⟩ rfl hl.1 rfl (Nat.le_of_ble_eq_true rfl) ⟨Nat.zero_le _, Nat.zero_le _⟩ d_X11_store_1) hS (fun x2 v3 H locs hp1 hw hS => ?_)
  obtain ⟨ev3, hp1⟩ := hp1
  rw [ev3] at hw
  rcases hp1 with ⟨rfl, w4a, w4b⟩ | ⟨rfl, w4n⟩
  · skip
    have hG := g_pos ⟨w4a, w4b⟩ hG
    have r5 : Rg wd 0 5 := by obtain ⟨_, _⟩ := (rg_any wd); exact ⟨by omega, by omega⟩
    refine lv_if_ne (tgt := 9) hx hb d_X11_store_4 (by decide) (fun c6 => ?_) (fun c6 => ?_)
    · refine lv_iload_n hx hb d_X11_store_9 rfl (lv_at hl 2 rfl) ?_
      refine lv_iconst (v := 0) hx hb d_X11_store_10 (by decide) ?_
      refine lv_sipush (v := 9999) hx hb d_X11_store_11 (by decide) ?_
      refine r_ci (r_runS (n := 3) (As := [.int mo, .int 0, .int 9999]) (rest := []) X hw (ct_X11_in l D dA ad v hI mo 0 9999) gc_X11_169 (by decide +kernel) ⟨rfl, rfl, Nat.le_of_ble_eq_true rfl, Nat.le_of_ble_eq_true rfl⟩ rfl hl.1 rfl (Nat.le_of_ble_eq_true rfl) ⟨Nat.zero_le _, Nat.zero_le _⟩ d_X11_store_14) hS (fun x8 v9 H locs hp7 hw hS => ?_)
      obtain ⟨ev9, hp7⟩ := hp7
      rw [ev9] at hw
      rcases hp7 with ⟨rfl, w10a, w10b⟩ | ⟨rfl, w10n⟩
      · skip
        have hG := g_pos ⟨w10a, w10b⟩ hG
        have r11 : Rg mo 0 9999 := by obtain ⟨_, _⟩ := (rg_any mo); have : (0 : Int32).toInt = 0 := rfl; have : (9999 : Int32).toInt = 9999 := rfl; exact ⟨by omega, by omega⟩
        refine lv_if_ne (tgt := 23) hx hb d_X11_store_17 (by decide) (fun c12 => ?_) (fun c12 => ?_)
        · refine lv_aload_n hx hb d_X11_store_23 rfl (lv_at hl 0 rfl) ?_
          refine r_getr (r := 421) X hw FL_X11_61 (rfl : KD 400 = _) rfl d_X11_store_24 ?_
          refine lv_iload_n hx hb d_X11_store_27 rfl (lv_at hl 1 rfl) ?_
          refine lv_dup2_11 hx hb d_X11_store_28 rfl rfl ?_
          refine r_iald X hw (rfl : KD 421 = _) (Rg.vp (b := 5) r5 (by decide)) rfl d_X11_store_29 ?_
          refine lv_topi (fun x13 ex13 => ?_)
          have hG := bnd_use ex13 hG
          refine lv_iload_n hx hb d_X11_store_30 rfl (lv_at hl 2 rfl) ?_
          refine lv_iadd hx hb d_X11_store_31 ?_
          refine lv_topi (fun x14 ex14 => ?_)
          have hG := bnd_use ex14 hG
          refine r_iast X hw hS (rfl : KD 421 = _) (Rg.vp (b := 5) r5 (by decide)) rfl d_X11_store_32 (fun H locs hw hS => ?_)
          obtain ⟨v15, ev15⟩ : ∃ z, z = up2 v 421 wd.toNatClampNeg x14 := ⟨_, rfl⟩
          rw [← ev15] at hw
          have hG := bnd_use ev15 hG
          have hI16 : Inv v15 := by rw [ev15]; exact Inv.put0 hI _ rfl
          have hK17 : Kp (kp_X11_store_400 wd mo) v v15 := by rw [ev15]; exact Kp.put hK0 _ (by unfold kp_X11_store_400; omega)
          refine lv_aload_n hx hb d_X11_store_33 rfl (lv_at hl 0 rfl) ?_
          refine r_getr (r := 421) X hw FL_X11_61 (rfl : KD 400 = _) rfl d_X11_store_34 ?_
          refine lv_iload_n hx hb d_X11_store_37 rfl (lv_at hl 1 rfl) ?_
          refine r_iald X hw (rfl : KD 421 = _) (Rg.vp (b := 5) r5 (by decide)) rfl d_X11_store_38 ?_
          refine lv_topi (fun x18 ex18 => ?_)
          have hG := bnd_use ex18 hG
          exact r_iret X hr hlocks hw hS ⟨⟨hI16, hK17⟩, hG.trans eRR.symm⟩ d_X11_store_39
        · exact absurd c12 (by decide)
      · skip
        have hG := g_neg w10n hG
        refine lv_if_ne (tgt := 23) hx hb d_X11_store_17 (by decide) (fun c19 => ?_) (fun c19 => ?_)
        · exact absurd c19 (by decide)
        · refine lv_bipush (v := -2) hx hb d_X11_store_20 (by decide) ?_
          exact r_iret X hr hlocks hw hS ⟨⟨hI, hK0⟩, hG.trans eRR.symm⟩ d_X11_store_22
    · exact absurd c6 (by decide)
  · skip
    have hG := g_neg w4n hG
    refine lv_if_ne (tgt := 9) hx hb d_X11_store_4 (by decide) (fun c20 => ?_) (fun c20 => ?_)
    · exact absurd c20 (by decide)
    · refine lv_iconst (v := -1) hx hb d_X11_store_7 (by decide) ?_
      exact r_iret X hr hlocks hw hS ⟨⟨hI, hK0⟩, hG.trans eRR.symm⟩ d_X11_store_8
theorem d_X11_forceOn_0 : decode c_X11_forceOn 0 = .ok (.iconst (-1), 1) := by decide +kernel
theorem d_X11_forceOn_1 : decode c_X11_forceOn 1 = .ok (.istore_n 2, 1) := by decide +kernel
theorem d_X11_forceOn_2 : decode c_X11_forceOn 2 = .ok (.iconst 0, 1) := by decide +kernel
theorem d_X11_forceOn_3 : decode c_X11_forceOn 3 = .ok (.istore_n 3, 1) := by decide +kernel
theorem d_X11_forceOn_4 : decode c_X11_forceOn 4 = .ok (.iload_n 3, 1) := by decide +kernel
theorem d_X11_forceOn_5 : decode c_X11_forceOn 5 = .ok (.aload_n 0, 1) := by decide +kernel
theorem d_X11_forceOn_6 : decode c_X11_forceOn 6 = .ok (.getfield 214, 3) := by decide +kernel
theorem d_X11_forceOn_9 : decode c_X11_forceOn 9 = .ok (.if_icmp .ge 40, 3) := by decide +kernel
theorem d_X11_forceOn_12 : decode c_X11_forceOn 12 = .ok (.aload_n 0, 1) := by decide +kernel
theorem d_X11_forceOn_13 : decode c_X11_forceOn 13 = .ok (.getfield 96, 3) := by decide +kernel
theorem d_X11_forceOn_16 : decode c_X11_forceOn 16 = .ok (.iload_n 3, 1) := by decide +kernel
theorem d_X11_forceOn_17 : decode c_X11_forceOn 17 = .ok (.iaload, 1) := by decide +kernel
theorem d_X11_forceOn_18 : decode c_X11_forceOn 18 = .ok (.iload_n 1, 1) := by decide +kernel
theorem d_X11_forceOn_19 : decode c_X11_forceOn 19 = .ok (.if_icmp .gt 24, 3) := by decide +kernel
theorem d_X11_forceOn_22 : decode c_X11_forceOn 22 = .ok (.iload_n 2, 1) := by decide +kernel
theorem d_X11_forceOn_23 : decode c_X11_forceOn 23 = .ok (.ifCond .lt 18, 3) := by decide +kernel
theorem d_X11_forceOn_26 : decode c_X11_forceOn 26 = .ok (.aload_n 0, 1) := by decide +kernel
theorem d_X11_forceOn_27 : decode c_X11_forceOn 27 = .ok (.getfield 96, 3) := by decide +kernel
theorem d_X11_forceOn_30 : decode c_X11_forceOn 30 = .ok (.iload_n 3, 1) := by decide +kernel
theorem d_X11_forceOn_31 : decode c_X11_forceOn 31 = .ok (.iaload, 1) := by decide +kernel
theorem d_X11_forceOn_32 : decode c_X11_forceOn 32 = .ok (.aload_n 0, 1) := by decide +kernel
theorem d_X11_forceOn_33 : decode c_X11_forceOn 33 = .ok (.getfield 96, 3) := by decide +kernel
theorem d_X11_forceOn_36 : decode c_X11_forceOn 36 = .ok (.iload_n 2, 1) := by decide +kernel
theorem d_X11_forceOn_37 : decode c_X11_forceOn 37 = .ok (.iaload, 1) := by decide +kernel
theorem d_X11_forceOn_38 : decode c_X11_forceOn 38 = .ok (.if_icmp .lt 5, 3) := by decide +kernel
theorem d_X11_forceOn_41 : decode c_X11_forceOn 41 = .ok (.iload_n 3, 1) := by decide +kernel
theorem d_X11_forceOn_42 : decode c_X11_forceOn 42 = .ok (.istore_n 2, 1) := by decide +kernel
theorem d_X11_forceOn_43 : decode c_X11_forceOn 43 = .ok (.iinc 3 1, 3) := by decide +kernel
theorem d_X11_forceOn_46 : decode c_X11_forceOn 46 = .ok (.goto (-42), 3) := by decide +kernel
theorem d_X11_forceOn_49 : decode c_X11_forceOn 49 = .ok (.iload_n 2, 1) := by decide +kernel
theorem d_X11_forceOn_50 : decode c_X11_forceOn 50 = .ok (.ireturn, 1) := by decide +kernel
def b_X11_forceOn_400_4 (v : tV) (dy : Int32) (rc4 : Int32 → Int32 → Int32) (y2 : Int32) (y3 : Int32) : Int32 := bnd (v 400 34) fun x1 => (if x1 ≤ y3 then y2 else bnd (v 436 y3.toNatClampNeg) fun x9 => (if dy < x9 then bnd (y3 + 1) fun x12 => rc4 y2 x12 else (if y2 < (0 : Int32) then bnd (y3 + 1) fun x19 => rc4 y3 x19 else bnd (v 436 y3.toNatClampNeg) fun x24 => bnd (v 436 y2.toNatClampNeg) fun x25 => (if x24 < x25 then bnd (y3 + 1) fun x28 => rc4 y2 x28 else bnd (y3 + 1) fun x32 => rc4 y3 x32))))
def g_X11_forceOn_400_4 (v : tV) (dy : Int32) : Nat → Int32 → Int32 → Int32
  | 0, _, _ => 0
  | n + 1, y2, y3 => b_X11_forceOn_400_4 v dy (g_X11_forceOn_400_4 v dy n) y2 y3
def f_X11_forceOn_400 (v : tV) (dy : Int32) : Int32 := g_X11_forceOn_400_4 v dy 100000 (-1) 0
set_option maxHeartbeats 4000000 in
set_option maxRecDepth 100000 in
theorem ct_X11_forceOn_400 (l : Launch) (D : va_G) (dA : Nat → ClassId) (ad : Nat → Nat) (v : tV) (hI : Inv v) (dy : Int32) : Met l m_X11_forceOn [.code m_X11_forceOn c_X11_forceOn 4 (some .int)] ({ frames := 1, cells := 0, slots := 0, locals := 40 } : Room) (tP D dA ad v [.ref (ad 400), .int dy]) (tQi D dA ad (fun r v' => (v' = v ∧ Rg r (-1) 7) ∧ r = f_X11_forceOn_400 v dy)) 0 0 (tA ad) := by
  refine tMet (by decide) (Nat.le_of_ble_eq_true rfl) ?_
  intro p e s m below meth c ls X hr hlocks hw hl
  have X : CX p s m ([.ref (ad 400), .int dy] : List Value).toArray c c_X11_forceOn N_X11 4 D dA := X
  have hx := X.1
  have hb := X.2.1
  have hS : va_S (tA ad) s.heap s.heap [] := va_S.rf
  have hl : lv_has ls 4 [(0, .ref (ad 400)), (1, .int dy)] := hl
  obtain ⟨RR, eRR⟩ : ∃ z, f_X11_forceOn_400 v dy = z := ⟨_, rfl⟩
  have LL : ∀ n : Nat, (∀ (y2 : Int32) (y3 : Int32)  (H : Heap) (locs : List Loc) (ls : Array Slot), (8 - y3.toInt).toNat < n → Rg y2 (-1) 7 → Rg y3 0 8 → g_X11_forceOn_400_4 v dy n y2 y3 = RR → tI D dA ad v H → va_S (tA ad) s.heap H locs → lv_has ls 4 [(0, .ref (ad 400)), (1, .int dy), (2, .int y2), (3, .int y3)] → W p l e ({ frames := 1, cells := 0, slots := 0, locals := 40 } : Room) s m ([.ref (ad 400), .int dy] : List Value).toArray below meth c H locs 0 0 (MQ below (tQi D dA ad (fun r v' => (v' = v ∧ Rg r (-1) 7) ∧ r = f_X11_forceOn_400 v dy)) ([.ref (ad 400), .int dy] : List Value).toArray s 0 0 (tA ad)) (F0 m 4 ls [])) := by
    intro n
    induction n with
    | zero => intros; omega
    | succ n ih =>
      have ih0 := ih
      intro y2 y3 H locs ls hmu r_y2 r_y3 hG hw hS hl
      have hG : b_X11_forceOn_400_4 v dy (g_X11_forceOn_400_4 v dy n) y2 y3 = RR := hG
      unfold b_X11_forceOn_400_4 at hG
      refine lv_iload_n hx hb d_X11_forceOn_4 rfl (lv_at hl 3 rfl) ?_
      refine lv_aload_n hx hb d_X11_forceOn_5 rfl (lv_at hl 0 rfl) ?_
      refine r_geti X hw FL_X11_214 (rfl : KD 400 = _) rfl d_X11_forceOn_6 ?_
      refine lv_topi (fun x1 ex1 => ?_)
      have hG := bnd_use ex1 hG
      have r2 : Rg x1 0 8 := by rw [ex1]; exact hI _ _ _ _ rfl
      have hm3 : v 400 34 = x1 := ex1.symm
      refine lv_icmp_ge (tgt := 49) hx hb d_X11_forceOn_9 (by decide) (fun c4 => ?_) (fun c4 => ?_)
      · have f5 := i_le c4
        have hG := g_pos c4 hG
        refine lv_iload_n hx hb d_X11_forceOn_49 rfl (lv_at hl 2 rfl) ?_
        exact r_iret X hr hlocks hw hS ⟨⟨rfl, r_y2⟩, hG.trans eRR.symm⟩ d_X11_forceOn_50
      · have f6 := i_nle c4
        have r7 : Rg y3 0 7 := by obtain ⟨a1, a2⟩ := r_y3; obtain ⟨b1, b2⟩ := r2; have f := i_nle c4; exact ⟨by omega, by omega⟩
        have r8 : Rg x1 1 8 := by obtain ⟨a1, a2⟩ := r_y3; obtain ⟨b1, b2⟩ := r2; have f := i_nle c4; exact ⟨by omega, by omega⟩
        have hG := g_neg c4 hG
        refine lv_aload_n hx hb d_X11_forceOn_12 rfl (lv_at hl 0 rfl) ?_
        refine r_getr (r := 436) X hw FL_X11_96 (rfl : KD 400 = _) rfl d_X11_forceOn_13 ?_
        refine lv_iload_n hx hb d_X11_forceOn_16 rfl (lv_at hl 3 rfl) ?_
        refine r_iald X hw (rfl : KD 436 = _) (Rg.vp (b := 7) r7 (by decide)) rfl d_X11_forceOn_17 ?_
        refine lv_topi (fun x9 ex9 => ?_)
        have hG := bnd_use ex9 hG
        refine lv_iload_n hx hb d_X11_forceOn_18 rfl (lv_at hl 1 rfl) ?_
        refine lv_icmp_gt (tgt := 43) hx hb d_X11_forceOn_19 (by decide) (fun c10 => ?_) (fun c10 => ?_)
        · have f11 := i_lt c10
          have hG := g_pos c10 hG
          obtain ⟨x12, ex12⟩ : ∃ y : Int32, y = y3 + 1 := ⟨_, rfl⟩
          have hG := bnd_use ex12 hG
          refine lv_iinc (v := x12) (lv' := [(3, .int x12), (0, .ref (ad 400)), (1, .int dy), (2, .int y2)]) hx hb d_X11_forceOn_43 hl (k := 3) rfl (by rw [ex12]; rfl) (by decide) rfl (fun ls hl => ?_)
          have r13 : Rg x12 1 8 := rg_add ex12 r7 (⟨by decide, by decide⟩ : Rg 1 1 1) (by decide) (by decide)
          have s14 : x12.toInt = y3.toInt + (1 : Int32).toInt := by rw [ex12]; exact i_add (by obtain ⟨_, _⟩ := r7; obtain ⟨_, _⟩ := (⟨by decide, by decide⟩ : Rg 1 1 1); omega) (by obtain ⟨_, _⟩ := r7; obtain ⟨_, _⟩ := (⟨by decide, by decide⟩ : Rg 1 1 1); omega)
          have s14l : (1 : Int32).toInt = 1 := rfl
          refine lv_goto (tgt := 4) hx hb d_X11_forceOn_46 (by decide) ?_
          exact ih0 y2 x12 _ _ _ (by have := s14; obtain ⟨_, _⟩ := r_y2; obtain ⟨_, _⟩ := r13; omega) r_y2 (rg_w r13 (by decide) (by decide)) hG hw hS (lv_sub hl [1, 2, 3, 0] rfl)
        · have f15 := i_nlt c10
          have hG := g_neg c10 hG
          refine lv_iload_n hx hb d_X11_forceOn_22 rfl (lv_at hl 2 rfl) ?_
          refine lv_if_lt (tgt := 41) hx hb d_X11_forceOn_23 (by decide) (fun c16 => ?_) (fun c16 => ?_)
          · have f17 := i_lt c16
            have r18 : Rg y2 (-1) (-1) := by obtain ⟨a1, a2⟩ := r_y2; obtain ⟨b1, b2⟩ := (⟨by decide, by decide⟩ : Rg 0 0 0); have f := i_lt c16; exact ⟨by omega, by omega⟩
            have hG := g_pos c16 hG
            refine lv_iload_n hx hb d_X11_forceOn_41 rfl (lv_at hl 3 rfl) ?_
            refine lv_istore_n (lv' := [(2, .int y3), (0, .ref (ad 400)), (1, .int dy), (3, .int y3)]) hx hb d_X11_forceOn_42 rfl hl (by decide) rfl (fun ls hl => ?_)
            obtain ⟨x19, ex19⟩ : ∃ y : Int32, y = y3 + 1 := ⟨_, rfl⟩
            have hG := bnd_use ex19 hG
            refine lv_iinc (v := x19) (lv' := [(3, .int x19), (2, .int y3), (0, .ref (ad 400)), (1, .int dy)]) hx hb d_X11_forceOn_43 hl (k := 3) rfl (by rw [ex19]; rfl) (by decide) rfl (fun ls hl => ?_)
            have r20 : Rg x19 1 8 := rg_add ex19 r7 (⟨by decide, by decide⟩ : Rg 1 1 1) (by decide) (by decide)
            have s21 : x19.toInt = y3.toInt + (1 : Int32).toInt := by rw [ex19]; exact i_add (by obtain ⟨_, _⟩ := r7; obtain ⟨_, _⟩ := (⟨by decide, by decide⟩ : Rg 1 1 1); omega) (by obtain ⟨_, _⟩ := r7; obtain ⟨_, _⟩ := (⟨by decide, by decide⟩ : Rg 1 1 1); omega)
            have s21l : (1 : Int32).toInt = 1 := rfl
            refine lv_goto (tgt := 4) hx hb d_X11_forceOn_46 (by decide) ?_
            exact ih0 y3 x19 _ _ _ (by have := s21; obtain ⟨_, _⟩ := r7; obtain ⟨_, _⟩ := r20; omega) (rg_w r7 (by decide) (by decide)) (rg_w r20 (by decide) (by decide)) hG hw hS (lv_sub hl [2, 3, 1, 0] rfl)
          · have f22 := i_nlt c16
            have r23 : Rg y2 0 7 := by obtain ⟨a1, a2⟩ := r_y2; obtain ⟨b1, b2⟩ := (⟨by decide, by decide⟩ : Rg 0 0 0); have f := i_nlt c16; exact ⟨by omega, by omega⟩
            have hG := g_neg c16 hG
            refine lv_aload_n hx hb d_X11_forceOn_26 rfl (lv_at hl 0 rfl) ?_
            refine r_getr (r := 436) X hw FL_X11_96 (rfl : KD 400 = _) rfl d_X11_forceOn_27 ?_
            refine lv_iload_n hx hb d_X11_forceOn_30 rfl (lv_at hl 3 rfl) ?_
            refine r_iald X hw (rfl : KD 436 = _) (Rg.vp (b := 7) r7 (by decide)) rfl d_X11_forceOn_31 ?_
            refine lv_topi (fun x24 ex24 => ?_)
            have hG := bnd_use ex24 hG
            refine lv_aload_n hx hb d_X11_forceOn_32 rfl (lv_at hl 0 rfl) ?_
            refine r_getr (r := 436) X hw FL_X11_96 (rfl : KD 400 = _) rfl d_X11_forceOn_33 ?_
            refine lv_iload_n hx hb d_X11_forceOn_36 rfl (lv_at hl 2 rfl) ?_
            refine r_iald X hw (rfl : KD 436 = _) (Rg.vp (b := 7) r23 (by decide)) rfl d_X11_forceOn_37 ?_
            refine lv_topi (fun x25 ex25 => ?_)
            have hG := bnd_use ex25 hG
            refine lv_icmp_lt (tgt := 43) hx hb d_X11_forceOn_38 (by decide) (fun c26 => ?_) (fun c26 => ?_)
            · have f27 := i_lt c26
              have hG := g_pos c26 hG
              obtain ⟨x28, ex28⟩ : ∃ y : Int32, y = y3 + 1 := ⟨_, rfl⟩
              have hG := bnd_use ex28 hG
              refine lv_iinc (v := x28) (lv' := [(3, .int x28), (0, .ref (ad 400)), (1, .int dy), (2, .int y2)]) hx hb d_X11_forceOn_43 hl (k := 3) rfl (by rw [ex28]; rfl) (by decide) rfl (fun ls hl => ?_)
              have r29 : Rg x28 1 8 := rg_add ex28 r7 (⟨by decide, by decide⟩ : Rg 1 1 1) (by decide) (by decide)
              have s30 : x28.toInt = y3.toInt + (1 : Int32).toInt := by rw [ex28]; exact i_add (by obtain ⟨_, _⟩ := r7; obtain ⟨_, _⟩ := (⟨by decide, by decide⟩ : Rg 1 1 1); omega) (by obtain ⟨_, _⟩ := r7; obtain ⟨_, _⟩ := (⟨by decide, by decide⟩ : Rg 1 1 1); omega)
              have s30l : (1 : Int32).toInt = 1 := rfl
              refine lv_goto (tgt := 4) hx hb d_X11_forceOn_46 (by decide) ?_
              exact ih0 y2 x28 _ _ _ (by have := s30; obtain ⟨_, _⟩ := r23; obtain ⟨_, _⟩ := r29; omega) (rg_w r23 (by decide) (by decide)) (rg_w r29 (by decide) (by decide)) hG hw hS (lv_sub hl [1, 2, 3, 0] rfl)
            · have f31 := i_nlt c26
              have hG := g_neg c26 hG
              refine lv_iload_n hx hb d_X11_forceOn_41 rfl (lv_at hl 3 rfl) ?_
              refine lv_istore_n (lv' := [(2, .int y3), (0, .ref (ad 400)), (1, .int dy), (3, .int y3)]) hx hb d_X11_forceOn_42 rfl hl (by decide) rfl (fun ls hl => ?_)
              obtain ⟨x32, ex32⟩ : ∃ y : Int32, y = y3 + 1 := ⟨_, rfl⟩
              have hG := bnd_use ex32 hG
              refine lv_iinc (v := x32) (lv' := [(3, .int x32), (2, .int y3), (0, .ref (ad 400)), (1, .int dy)]) hx hb d_X11_forceOn_43 hl (k := 3) rfl (by rw [ex32]; rfl) (by decide) rfl (fun ls hl => ?_)
              have r33 : Rg x32 1 8 := rg_add ex32 r7 (⟨by decide, by decide⟩ : Rg 1 1 1) (by decide) (by decide)
              have s34 : x32.toInt = y3.toInt + (1 : Int32).toInt := by rw [ex32]; exact i_add (by obtain ⟨_, _⟩ := r7; obtain ⟨_, _⟩ := (⟨by decide, by decide⟩ : Rg 1 1 1); omega) (by obtain ⟨_, _⟩ := r7; obtain ⟨_, _⟩ := (⟨by decide, by decide⟩ : Rg 1 1 1); omega)
              have s34l : (1 : Int32).toInt = 1 := rfl
              refine lv_goto (tgt := 4) hx hb d_X11_forceOn_46 (by decide) ?_
              exact ih0 y3 x32 _ _ _ (by have := s34; obtain ⟨_, _⟩ := r7; obtain ⟨_, _⟩ := r33; omega) (rg_w r7 (by decide) (by decide)) (rg_w r33 (by decide) (by decide)) hG hw hS (lv_sub hl [2, 3, 1, 0] rfl)
  have ih0 := LL 100000
  have hG := eRR
  unfold f_X11_forceOn_400 at hG
  refine lv_iconst (v := -1) hx hb d_X11_forceOn_0 (by decide) ?_
  refine lv_istore_n (lv' := [(2, .int (-1)), (0, .ref (ad 400)), (1, .int dy)]) hx hb d_X11_forceOn_1 rfl hl (by decide) rfl (fun ls hl => ?_)
  refine lv_iconst (v := 0) hx hb d_X11_forceOn_2 (by decide) ?_
  refine lv_istore_n (lv' := [(3, .int 0), (2, .int (-1)), (0, .ref (ad 400)), (1, .int dy)]) hx hb d_X11_forceOn_3 rfl hl (by decide) rfl (fun ls hl => ?_)
  exact ih0 (-1) 0 _ _ _ (by obtain ⟨_, _⟩ := (⟨by decide, by decide⟩ : Rg (-1) (-1) (-1)); obtain ⟨_, _⟩ := (⟨by decide, by decide⟩ : Rg 0 0 0); omega) (rg_w (⟨by decide, by decide⟩ : Rg (-1) (-1) (-1)) (by decide) (by decide)) (rg_w (⟨by decide, by decide⟩ : Rg 0 0 0) (by decide) (by decide)) hG hw hS (lv_sub hl [2, 3, 1, 0] rfl)
theorem d_X11_force_0 : decode c_X11_force 0 = .ok (.iload_n 1, 1) := by decide +kernel
theorem d_X11_force_1 : decode c_X11_force 1 = .ok (.ifCond .ge 7, 3) := by decide +kernel
theorem d_X11_force_4 : decode c_X11_force 4 = .ok (.iconst (-1), 1) := by decide +kernel
theorem d_X11_force_5 : decode c_X11_force 5 = .ok (.goto 8, 3) := by decide +kernel
theorem d_X11_force_8 : decode c_X11_force 8 = .ok (.aload_n 0, 1) := by decide +kernel
theorem d_X11_force_9 : decode c_X11_force 9 = .ok (.iload_n 1, 1) := by decide +kernel
theorem d_X11_force_10 : decode c_X11_force 10 = .ok (.invokevirtual 220, 3) := by decide +kernel
theorem d_X11_force_13 : decode c_X11_force 13 = .ok (.ireturn, 1) := by decide +kernel
def f_X11_force_400 (v : tV) (dy : Int32) : Int32 := (if (0 : Int32) ≤ dy then bnd (f_X11_forceOn_400 v dy) fun x5 => x5 else (-1 : Int32))
set_option maxHeartbeats 4000000 in
set_option maxRecDepth 100000 in
theorem ct_X11_force_400 (l : Launch) (D : va_G) (dA : Nat → ClassId) (ad : Nat → Nat) (v : tV) (hI : Inv v) (dy : Int32) : Met l m_X11_force [.code m_X11_force c_X11_force 2 (some .int)] ({ frames := 2, cells := 0, slots := 0, locals := 63 } : Room) (tP D dA ad v [.ref (ad 400), .int dy]) (tQi D dA ad (fun r v' => (v' = v) ∧ r = f_X11_force_400 v dy)) 0 0 (tA ad) := by
  refine tMet (by decide) (Nat.le_of_ble_eq_true rfl) ?_
  intro p e s m below meth c ls X hr hlocks hw hl
  have X : CX p s m ([.ref (ad 400), .int dy] : List Value).toArray c c_X11_force N_X11 2 D dA := X
  have hx := X.1
  have hb := X.2.1
  have hS : va_S (tA ad) s.heap s.heap [] := va_S.rf
  have hl : lv_has ls 2 [(0, .ref (ad 400)), (1, .int dy)] := hl
  obtain ⟨RR, eRR⟩ : ∃ z, f_X11_force_400 v dy = z := ⟨_, rfl⟩
  have hG := eRR
  unfold f_X11_force_400 at hG
  refine lv_iload_n hx hb d_X11_force_0 rfl (lv_at hl 1 rfl) ?_
  refine lv_if_ge (tgt := 8) hx hb d_X11_force_1 (by decide) (fun c1 => ?_) (fun c1 => ?_)
  · have f2 := i_le c1
    have r3 : Rg dy 0 2147483647 := by obtain ⟨a1, a2⟩ := (rg_any dy); obtain ⟨b1, b2⟩ := (⟨by decide, by decide⟩ : Rg 0 0 0); have f := i_le c1; exact ⟨by omega, by omega⟩
    have hG := g_pos c1 hG
    refine lv_aload_n hx hb d_X11_force_8 rfl (lv_at hl 0 rfl) ?_
    refine lv_iload_n hx hb d_X11_force_9 rfl (lv_at hl 1 rfl) ?_
    refine r_ci (r_runV (n := 1) (As := [.int dy]) (rest := []) X hw (ct_X11_forceOn_400 l D dA ad v hI dy) gc_X11_220 (rfl : KD 400 = _) (by decide) rfl (by decide +kernel) ⟨rfl, rfl, Nat.le_of_ble_eq_true rfl, Nat.le_of_ble_eq_true rfl⟩ rfl hl.1 rfl (Nat.le_of_ble_eq_true rfl) ⟨Nat.zero_le _, Nat.zero_le _⟩ d_X11_force_10) hS (fun x5 v6 H locs hp4 hw hS => ?_)
    obtain ⟨hp4, hE7⟩ := hp4
    obtain ⟨ev6, hp4⟩ := hp4
    rw [ev6] at hw
    have hG := bnd_use hE7 hG
    exact r_iret X hr hlocks hw hS ⟨rfl, hG.trans eRR.symm⟩ d_X11_force_13
  · have f8 := i_nle c1
    have r9 : Rg dy (-2147483648) (-1) := by obtain ⟨a1, a2⟩ := (rg_any dy); obtain ⟨b1, b2⟩ := (⟨by decide, by decide⟩ : Rg 0 0 0); have f := i_nle c1; exact ⟨by omega, by omega⟩
    have hG := g_neg c1 hG
    refine lv_iconst (v := -1) hx hb d_X11_force_4 (by decide) ?_
    refine lv_goto (tgt := 13) hx hb d_X11_force_5 (by decide) ?_
    exact r_iret X hr hlocks hw hS ⟨rfl, hG.trans eRR.symm⟩ d_X11_force_13
theorem d_X11_manyBy_0 : decode c_X11_manyBy 0 = .ok (.iload_n 1, 1) := by decide +kernel
theorem d_X11_manyBy_1 : decode c_X11_manyBy 1 = .ok (.ifCond .ge 6, 3) := by decide +kernel
theorem d_X11_manyBy_4 : decode c_X11_manyBy 4 = .ok (.bipush 99, 2) := by decide +kernel
theorem d_X11_manyBy_6 : decode c_X11_manyBy 6 = .ok (.ireturn, 1) := by decide +kernel
theorem d_X11_manyBy_7 : decode c_X11_manyBy 7 = .ok (.iconst 0, 1) := by decide +kernel
theorem d_X11_manyBy_8 : decode c_X11_manyBy 8 = .ok (.istore_n 3, 1) := by decide +kernel
theorem d_X11_manyBy_9 : decode c_X11_manyBy 9 = .ok (.iload_n 3, 1) := by decide +kernel
theorem d_X11_manyBy_10 : decode c_X11_manyBy 10 = .ok (.aload_n 0, 1) := by decide +kernel
theorem d_X11_manyBy_11 : decode c_X11_manyBy 11 = .ok (.getfield 102, 3) := by decide +kernel
theorem d_X11_manyBy_14 : decode c_X11_manyBy 14 = .ok (.iload_n 1, 1) := by decide +kernel
theorem d_X11_manyBy_15 : decode c_X11_manyBy 15 = .ok (.iaload, 1) := by decide +kernel
theorem d_X11_manyBy_16 : decode c_X11_manyBy 16 = .ok (.if_icmp .ge 59, 3) := by decide +kernel
theorem d_X11_manyBy_19 : decode c_X11_manyBy 19 = .ok (.iconst 3, 1) := by decide +kernel
theorem d_X11_manyBy_20 : decode c_X11_manyBy 20 = .ok (.iload_n 1, 1) := by decide +kernel
theorem d_X11_manyBy_21 : decode c_X11_manyBy 21 = .ok (.imul, 1) := by decide +kernel
theorem d_X11_manyBy_22 : decode c_X11_manyBy 22 = .ok (.iload_n 3, 1) := by decide +kernel
theorem d_X11_manyBy_23 : decode c_X11_manyBy 23 = .ok (.iadd, 1) := by decide +kernel
theorem d_X11_manyBy_24 : decode c_X11_manyBy 24 = .ok (.istore 4, 2) := by decide +kernel
theorem d_X11_manyBy_26 : decode c_X11_manyBy 26 = .ok (.aload_n 0, 1) := by decide +kernel
theorem d_X11_manyBy_27 : decode c_X11_manyBy 27 = .ok (.getfield 108, 3) := by decide +kernel
theorem d_X11_manyBy_30 : decode c_X11_manyBy 30 = .ok (.iload 4, 2) := by decide +kernel
theorem d_X11_manyBy_32 : decode c_X11_manyBy 32 = .ok (.baload, 1) := by decide +kernel
theorem d_X11_manyBy_33 : decode c_X11_manyBy 33 = .ok (.ifCond .eq 17, 3) := by decide +kernel
theorem d_X11_manyBy_36 : decode c_X11_manyBy 36 = .ok (.iload_n 2, 1) := by decide +kernel
theorem d_X11_manyBy_37 : decode c_X11_manyBy 37 = .ok (.aload_n 0, 1) := by decide +kernel
theorem d_X11_manyBy_38 : decode c_X11_manyBy 38 = .ok (.getfield 112, 3) := by decide +kernel
theorem d_X11_manyBy_41 : decode c_X11_manyBy 41 = .ok (.iload 4, 2) := by decide +kernel
theorem d_X11_manyBy_43 : decode c_X11_manyBy 43 = .ok (.iaload, 1) := by decide +kernel
theorem d_X11_manyBy_44 : decode c_X11_manyBy 44 = .ok (.if_icmp .ge 25, 3) := by decide +kernel
theorem d_X11_manyBy_47 : decode c_X11_manyBy 47 = .ok (.goto 14, 3) := by decide +kernel
theorem d_X11_manyBy_50 : decode c_X11_manyBy 50 = .ok (.iload_n 2, 1) := by decide +kernel
theorem d_X11_manyBy_51 : decode c_X11_manyBy 51 = .ok (.aload_n 0, 1) := by decide +kernel
theorem d_X11_manyBy_52 : decode c_X11_manyBy 52 = .ok (.getfield 112, 3) := by decide +kernel
theorem d_X11_manyBy_55 : decode c_X11_manyBy 55 = .ok (.iload 4, 2) := by decide +kernel
theorem d_X11_manyBy_57 : decode c_X11_manyBy 57 = .ok (.iaload, 1) := by decide +kernel
theorem d_X11_manyBy_58 : decode c_X11_manyBy 58 = .ok (.if_icmp .le 11, 3) := by decide +kernel
theorem d_X11_manyBy_61 : decode c_X11_manyBy 61 = .ok (.aload_n 0, 1) := by decide +kernel
theorem d_X11_manyBy_62 : decode c_X11_manyBy 62 = .ok (.getfield 105, 3) := by decide +kernel
theorem d_X11_manyBy_65 : decode c_X11_manyBy 65 = .ok (.iload 4, 2) := by decide +kernel
theorem d_X11_manyBy_67 : decode c_X11_manyBy 67 = .ok (.iaload, 1) := by decide +kernel
theorem d_X11_manyBy_68 : decode c_X11_manyBy 68 = .ok (.ireturn, 1) := by decide +kernel
theorem d_X11_manyBy_69 : decode c_X11_manyBy 69 = .ok (.iinc 3 1, 3) := by decide +kernel
theorem d_X11_manyBy_72 : decode c_X11_manyBy 72 = .ok (.goto (-63), 3) := by decide +kernel
theorem d_X11_manyBy_75 : decode c_X11_manyBy 75 = .ok (.aload_n 0, 1) := by decide +kernel
theorem d_X11_manyBy_76 : decode c_X11_manyBy 76 = .ok (.getfield 115, 3) := by decide +kernel
theorem d_X11_manyBy_79 : decode c_X11_manyBy 79 = .ok (.iload_n 1, 1) := by decide +kernel
theorem d_X11_manyBy_80 : decode c_X11_manyBy 80 = .ok (.iaload, 1) := by decide +kernel
theorem d_X11_manyBy_81 : decode c_X11_manyBy 81 = .ok (.ireturn, 1) := by decide +kernel
def b_X11_manyBy_400_9 (v : tV) (od : Int32) (pr : Int32) (rc9 : Int32 → Int32) (y3 : Int32) : Int32 := bnd (v 438 od.toNatClampNeg) fun x1 => (if x1 ≤ y3 then bnd (v 442 od.toNatClampNeg) fun x5 => x5 else bnd ((3 : Int32) * od) fun x10 => bnd (x10 + y3) fun x13 => bnd (v 440 x13.toNatClampNeg) fun x16 => (if x16 = (0 : Int32) then bnd (v 441 x13.toNatClampNeg) fun x20 => (if pr ≤ x20 then bnd (y3 + 1) fun x23 => rc9 x23 else bnd (v 439 x13.toNatClampNeg) fun x27 => x27) else bnd (v 441 x13.toNatClampNeg) fun x30 => (if x30 ≤ pr then bnd (y3 + 1) fun x33 => rc9 x33 else bnd (v 439 x13.toNatClampNeg) fun x37 => x37)))
def g_X11_manyBy_400_9 (v : tV) (od : Int32) (pr : Int32) : Nat → Int32 → Int32
  | 0, _ => 0
  | n + 1, y3 => b_X11_manyBy_400_9 v od pr (g_X11_manyBy_400_9 v od pr n) y3
def f_X11_manyBy_400 (v : tV) (od : Int32) (pr : Int32) : Int32 := (if (0 : Int32) ≤ od then g_X11_manyBy_400_9 v od pr 100000 0 else (99 : Int32))
set_option maxHeartbeats 4000000 in
set_option maxRecDepth 100000 in
theorem ct_X11_manyBy_400 (l : Launch) (D : va_G) (dA : Nat → ClassId) (ad : Nat → Nat) (v : tV) (hI : Inv v) (od : Int32) (pr : Int32) (r_od : Rg od (-1) 7) : Met l m_X11_manyBy [.code m_X11_manyBy c_X11_manyBy 5 (some .int)] ({ frames := 1, cells := 0, slots := 0, locals := 40 } : Room) (tP D dA ad v [.ref (ad 400), .int od, .int pr]) (tQi D dA ad (fun r v' => (v' = v ∧ Rg r 0 99) ∧ r = f_X11_manyBy_400 v od pr)) 0 0 (tA ad) := by
  refine tMet (by decide) (Nat.le_of_ble_eq_true rfl) ?_
  intro p e s m below meth c ls X hr hlocks hw hl
  have X : CX p s m ([.ref (ad 400), .int od, .int pr] : List Value).toArray c c_X11_manyBy N_X11 5 D dA := X
  have hx := X.1
  have hb := X.2.1
  have hS : va_S (tA ad) s.heap s.heap [] := va_S.rf
  have hl : lv_has ls 5 [(0, .ref (ad 400)), (1, .int od), (2, .int pr)] := hl
  obtain ⟨RR, eRR⟩ : ∃ z, f_X11_manyBy_400 v od pr = z := ⟨_, rfl⟩
  have LL : ∀ n : Nat, (∀ (y3 : Int32)  (H : Heap) (locs : List Loc) (ls : Array Slot), (3 - y3.toInt).toNat < n → Rg od 0 7 → Rg y3 0 3 → g_X11_manyBy_400_9 v od pr n y3 = RR → tI D dA ad v H → va_S (tA ad) s.heap H locs → lv_has ls 5 [(0, .ref (ad 400)), (1, .int od), (2, .int pr), (3, .int y3)] → W p l e ({ frames := 1, cells := 0, slots := 0, locals := 40 } : Room) s m ([.ref (ad 400), .int od, .int pr] : List Value).toArray below meth c H locs 0 0 (MQ below (tQi D dA ad (fun r v' => (v' = v ∧ Rg r 0 99) ∧ r = f_X11_manyBy_400 v od pr)) ([.ref (ad 400), .int od, .int pr] : List Value).toArray s 0 0 (tA ad)) (F0 m 9 ls [])) := by
    intro n
    induction n with
    | zero => intros; omega
    | succ n ih =>
      have ih0 := ih
      intro y3 H locs ls hmu r_y1 r_y3 hG hw hS hl
      have hG : b_X11_manyBy_400_9 v od pr (g_X11_manyBy_400_9 v od pr n) y3 = RR := hG
      unfold b_X11_manyBy_400_9 at hG
      refine lv_iload_n hx hb d_X11_manyBy_9 rfl (lv_at hl 3 rfl) ?_
      refine lv_aload_n hx hb d_X11_manyBy_10 rfl (lv_at hl 0 rfl) ?_
      refine r_getr (r := 438) X hw FL_X11_102 (rfl : KD 400 = _) rfl d_X11_manyBy_11 ?_
      refine lv_iload_n hx hb d_X11_manyBy_14 rfl (lv_at hl 1 rfl) ?_
      refine r_iald X hw (rfl : KD 438 = _) (Rg.vp (b := 7) r_y1 (by decide)) rfl d_X11_manyBy_15 ?_
      refine lv_topi (fun x1 ex1 => ?_)
      have hG := bnd_use ex1 hG
      have r2 : Rg x1 0 3 := by rw [ex1]; exact hI _ _ _ _ rfl
      refine lv_icmp_ge (tgt := 75) hx hb d_X11_manyBy_16 (by decide) (fun c3 => ?_) (fun c3 => ?_)
      · have f4 := i_le c3
        have hG := g_pos c3 hG
        refine lv_aload_n hx hb d_X11_manyBy_75 rfl (lv_at hl 0 rfl) ?_
        refine r_getr (r := 442) X hw FL_X11_115 (rfl : KD 400 = _) rfl d_X11_manyBy_76 ?_
        refine lv_iload_n hx hb d_X11_manyBy_79 rfl (lv_at hl 1 rfl) ?_
        refine r_iald X hw (rfl : KD 442 = _) (Rg.vp (b := 7) r_y1 (by decide)) rfl d_X11_manyBy_80 ?_
        refine lv_topi (fun x5 ex5 => ?_)
        have hG := bnd_use ex5 hG
        have r6 : Rg x5 0 99 := by rw [ex5]; exact hI _ _ _ _ rfl
        exact r_iret X hr hlocks hw hS ⟨⟨rfl, r6⟩, hG.trans eRR.symm⟩ d_X11_manyBy_81
      · have f7 := i_nle c3
        have r8 : Rg y3 0 2 := by obtain ⟨a1, a2⟩ := r_y3; obtain ⟨b1, b2⟩ := r2; have f := i_nle c3; exact ⟨by omega, by omega⟩
        have r9 : Rg x1 1 3 := by obtain ⟨a1, a2⟩ := r_y3; obtain ⟨b1, b2⟩ := r2; have f := i_nle c3; exact ⟨by omega, by omega⟩
        have hG := g_neg c3 hG
        refine lv_iconst (v := 3) hx hb d_X11_manyBy_19 (by decide) ?_
        refine lv_iload_n hx hb d_X11_manyBy_20 rfl (lv_at hl 1 rfl) ?_
        refine lv_imul hx hb d_X11_manyBy_21 ?_
        refine lv_topi (fun x10 ex10 => ?_)
        have hG := bnd_use ex10 hG
        have r11 : Rg x10 0 21 := rg_mulc ex10 (⟨by decide, by decide⟩ : Rg 3 3 3) r_y1 (by decide) (by decide) (by decide)
        have s12 : x10.toInt = 3 * od.toInt := rg_mule ex10 r_y1 rfl (by decide) (by decide)
        refine lv_iload_n hx hb d_X11_manyBy_22 rfl (lv_at hl 3 rfl) ?_
        refine lv_iadd hx hb d_X11_manyBy_23 ?_
        refine lv_topi (fun x13 ex13 => ?_)
        have hG := bnd_use ex13 hG
        have r14 : Rg x13 0 23 := rg_add ex13 r11 r8 (by decide) (by decide)
        have s15 : x13.toInt = x10.toInt + (y3 : Int32).toInt := by rw [ex13]; exact i_add (by obtain ⟨_, _⟩ := r11; obtain ⟨_, _⟩ := r8; omega) (by obtain ⟨_, _⟩ := r11; obtain ⟨_, _⟩ := r8; omega)
        refine lv_istore (lv' := [(4, .int x13), (0, .ref (ad 400)), (1, .int od), (2, .int pr), (3, .int y3)]) hx hb d_X11_manyBy_24 hl (by decide) rfl (fun ls hl => ?_)
        refine lv_aload_n hx hb d_X11_manyBy_26 rfl (lv_at hl 1 rfl) ?_
        refine r_getr (r := 440) X hw FL_X11_108 (rfl : KD 400 = _) rfl d_X11_manyBy_27 ?_
        refine lv_iload hx hb d_X11_manyBy_30 (lv_at hl 0 rfl) ?_
        refine r_zald X hw (rfl : KD 440 = _) (Rg.vp (b := 23) r14 (by decide)) rfl d_X11_manyBy_32 ?_
        refine lv_topi (fun x16 ex16 => ?_)
        have hG := bnd_use ex16 hG
        refine lv_if_eq (tgt := 50) hx hb d_X11_manyBy_33 (by decide) (fun c17 => ?_) (fun c17 => ?_)
        · have f18 := i_eq c17
          have r19 : Rg x16 0 0 := by obtain ⟨a1, a2⟩ := (rg_any x16); obtain ⟨b1, b2⟩ := (⟨by decide, by decide⟩ : Rg 0 0 0); have f := i_eq c17; exact ⟨by omega, by omega⟩
          have hG := g_pos c17 hG
          refine lv_iload_n hx hb d_X11_manyBy_50 rfl (lv_at hl 3 rfl) ?_
          refine lv_aload_n hx hb d_X11_manyBy_51 rfl (lv_at hl 1 rfl) ?_
          refine r_getr (r := 441) X hw FL_X11_112 (rfl : KD 400 = _) rfl d_X11_manyBy_52 ?_
          refine lv_iload hx hb d_X11_manyBy_55 (lv_at hl 0 rfl) ?_
          refine r_iald X hw (rfl : KD 441 = _) (Rg.vp (b := 23) r14 (by decide)) rfl d_X11_manyBy_57 ?_
          refine lv_topi (fun x20 ex20 => ?_)
          have hG := bnd_use ex20 hG
          refine lv_icmp_le (tgt := 69) hx hb d_X11_manyBy_58 (by decide) (fun c21 => ?_) (fun c21 => ?_)
          · have f22 := i_le c21
            have hG := g_pos c21 hG
            obtain ⟨x23, ex23⟩ : ∃ y : Int32, y = y3 + 1 := ⟨_, rfl⟩
            have hG := bnd_use ex23 hG
            refine lv_iinc (v := x23) (lv' := [(3, .int x23), (4, .int x13), (0, .ref (ad 400)), (1, .int od), (2, .int pr)]) hx hb d_X11_manyBy_69 hl (k := 4) rfl (by rw [ex23]; rfl) (by decide) rfl (fun ls hl => ?_)
            have r24 : Rg x23 1 3 := rg_add ex23 r8 (⟨by decide, by decide⟩ : Rg 1 1 1) (by decide) (by decide)
            have s25 : x23.toInt = y3.toInt + (1 : Int32).toInt := by rw [ex23]; exact i_add (by obtain ⟨_, _⟩ := r8; obtain ⟨_, _⟩ := (⟨by decide, by decide⟩ : Rg 1 1 1); omega) (by obtain ⟨_, _⟩ := r8; obtain ⟨_, _⟩ := (⟨by decide, by decide⟩ : Rg 1 1 1); omega)
            have s25l : (1 : Int32).toInt = 1 := rfl
            refine lv_goto (tgt := 9) hx hb d_X11_manyBy_72 (by decide) ?_
            exact ih0 x23 _ _ _ (by have := s12; have := s15; have := s25; obtain ⟨_, _⟩ := r24; omega) r_y1 (rg_w r24 (by decide) (by decide)) hG hw hS (lv_sub hl [2, 3, 4, 0] rfl)
          · have f26 := i_nle c21
            have hG := g_neg c21 hG
            refine lv_aload_n hx hb d_X11_manyBy_61 rfl (lv_at hl 1 rfl) ?_
            refine r_getr (r := 439) X hw FL_X11_105 (rfl : KD 400 = _) rfl d_X11_manyBy_62 ?_
            refine lv_iload hx hb d_X11_manyBy_65 (lv_at hl 0 rfl) ?_
            refine r_iald X hw (rfl : KD 439 = _) (Rg.vp (b := 23) r14 (by decide)) rfl d_X11_manyBy_67 ?_
            refine lv_topi (fun x27 ex27 => ?_)
            have hG := bnd_use ex27 hG
            have r28 : Rg x27 0 99 := by rw [ex27]; exact hI _ _ _ _ rfl
            exact r_iret X hr hlocks hw hS ⟨⟨rfl, r28⟩, hG.trans eRR.symm⟩ d_X11_manyBy_68
        · have f29 := i_ne c17
          have hG := g_neg c17 hG
          refine lv_iload_n hx hb d_X11_manyBy_36 rfl (lv_at hl 3 rfl) ?_
          refine lv_aload_n hx hb d_X11_manyBy_37 rfl (lv_at hl 1 rfl) ?_
          refine r_getr (r := 441) X hw FL_X11_112 (rfl : KD 400 = _) rfl d_X11_manyBy_38 ?_
          refine lv_iload hx hb d_X11_manyBy_41 (lv_at hl 0 rfl) ?_
          refine r_iald X hw (rfl : KD 441 = _) (Rg.vp (b := 23) r14 (by decide)) rfl d_X11_manyBy_43 ?_
          refine lv_topi (fun x30 ex30 => ?_)
          have hG := bnd_use ex30 hG
          refine lv_icmp_ge (tgt := 69) hx hb d_X11_manyBy_44 (by decide) (fun c31 => ?_) (fun c31 => ?_)
          · have f32 := i_le c31
            have hG := g_pos c31 hG
            obtain ⟨x33, ex33⟩ : ∃ y : Int32, y = y3 + 1 := ⟨_, rfl⟩
            have hG := bnd_use ex33 hG
            refine lv_iinc (v := x33) (lv' := [(3, .int x33), (4, .int x13), (0, .ref (ad 400)), (1, .int od), (2, .int pr)]) hx hb d_X11_manyBy_69 hl (k := 4) rfl (by rw [ex33]; rfl) (by decide) rfl (fun ls hl => ?_)
            have r34 : Rg x33 1 3 := rg_add ex33 r8 (⟨by decide, by decide⟩ : Rg 1 1 1) (by decide) (by decide)
            have s35 : x33.toInt = y3.toInt + (1 : Int32).toInt := by rw [ex33]; exact i_add (by obtain ⟨_, _⟩ := r8; obtain ⟨_, _⟩ := (⟨by decide, by decide⟩ : Rg 1 1 1); omega) (by obtain ⟨_, _⟩ := r8; obtain ⟨_, _⟩ := (⟨by decide, by decide⟩ : Rg 1 1 1); omega)
            have s35l : (1 : Int32).toInt = 1 := rfl
            refine lv_goto (tgt := 9) hx hb d_X11_manyBy_72 (by decide) ?_
            exact ih0 x33 _ _ _ (by have := s12; have := s15; have := s35; obtain ⟨_, _⟩ := r34; omega) r_y1 (rg_w r34 (by decide) (by decide)) hG hw hS (lv_sub hl [2, 3, 4, 0] rfl)
          · have f36 := i_nle c31
            have hG := g_neg c31 hG
            refine lv_goto (tgt := 61) hx hb d_X11_manyBy_47 (by decide) ?_
            refine lv_aload_n hx hb d_X11_manyBy_61 rfl (lv_at hl 1 rfl) ?_
            refine r_getr (r := 439) X hw FL_X11_105 (rfl : KD 400 = _) rfl d_X11_manyBy_62 ?_
            refine lv_iload hx hb d_X11_manyBy_65 (lv_at hl 0 rfl) ?_
            refine r_iald X hw (rfl : KD 439 = _) (Rg.vp (b := 23) r14 (by decide)) rfl d_X11_manyBy_67 ?_
            refine lv_topi (fun x37 ex37 => ?_)
            have hG := bnd_use ex37 hG
            have r38 : Rg x37 0 99 := by rw [ex37]; exact hI _ _ _ _ rfl
            exact r_iret X hr hlocks hw hS ⟨⟨rfl, r38⟩, hG.trans eRR.symm⟩ d_X11_manyBy_68
  have ih0 := LL 100000
  have hG := eRR
  unfold f_X11_manyBy_400 at hG
  refine lv_iload_n hx hb d_X11_manyBy_0 rfl (lv_at hl 1 rfl) ?_
  refine lv_if_ge (tgt := 7) hx hb d_X11_manyBy_1 (by decide) (fun c39 => ?_) (fun c39 => ?_)
  · have f40 := i_le c39
    have r41 : Rg od 0 7 := by obtain ⟨a1, a2⟩ := r_od; obtain ⟨b1, b2⟩ := (⟨by decide, by decide⟩ : Rg 0 0 0); have f := i_le c39; exact ⟨by omega, by omega⟩
    have hG := g_pos c39 hG
    refine lv_iconst (v := 0) hx hb d_X11_manyBy_7 (by decide) ?_
    refine lv_istore_n (lv' := [(3, .int 0), (0, .ref (ad 400)), (1, .int od), (2, .int pr)]) hx hb d_X11_manyBy_8 rfl hl (by decide) rfl (fun ls hl => ?_)
    exact ih0 0 _ _ _ (by obtain ⟨_, _⟩ := (⟨by decide, by decide⟩ : Rg 0 0 0); omega) r41 (rg_w (⟨by decide, by decide⟩ : Rg 0 0 0) (by decide) (by decide)) hG hw hS (lv_sub hl [1, 2, 3, 0] rfl)
  · have f42 := i_nle c39
    have r43 : Rg od (-1) (-1) := by obtain ⟨a1, a2⟩ := r_od; obtain ⟨b1, b2⟩ := (⟨by decide, by decide⟩ : Rg 0 0 0); have f := i_nle c39; exact ⟨by omega, by omega⟩
    have hG := g_neg c39 hG
    refine lv_bipush (v := 99) hx hb d_X11_manyBy_4 (by decide) ?_
    exact r_iret X hr hlocks hw hS ⟨⟨rfl, (rg_w (⟨by decide, by decide⟩ : Rg 99 99 99) (by decide) (by decide))⟩, hG.trans eRR.symm⟩ d_X11_manyBy_6
theorem d_X11_many_0 : decode c_X11_many 0 = .ok (.iload_n 1, 1) := by decide +kernel
theorem d_X11_many_1 : decode c_X11_many 1 = .ok (.iconst 0, 1) := by decide +kernel
theorem d_X11_many_2 : decode c_X11_many 2 = .ok (.aload_n 0, 1) := by decide +kernel
theorem d_X11_many_3 : decode c_X11_many 3 = .ok (.getfield 214, 3) := by decide +kernel
theorem d_X11_many_6 : decode c_X11_many 6 = .ok (.iconst 1, 1) := by decide +kernel
theorem d_X11_many_7 : decode c_X11_many 7 = .ok (.isub, 1) := by decide +kernel
theorem d_X11_many_8 : decode c_X11_many 8 = .ok (.invokestatic 169, 3) := by decide +kernel
theorem d_X11_many_11 : decode c_X11_many 11 = .ok (.ifCond .ne 7, 3) := by decide +kernel
theorem d_X11_many_14 : decode c_X11_many 14 = .ok (.iconst (-1), 1) := by decide +kernel
theorem d_X11_many_15 : decode c_X11_many 15 = .ok (.goto 18, 3) := by decide +kernel
theorem d_X11_many_18 : decode c_X11_many 18 = .ok (.iload_n 2, 1) := by decide +kernel
theorem d_X11_many_19 : decode c_X11_many 19 = .ok (.ifCond .ge 8, 3) := by decide +kernel
theorem d_X11_many_22 : decode c_X11_many 22 = .ok (.bipush (-2), 2) := by decide +kernel
theorem d_X11_many_24 : decode c_X11_many 24 = .ok (.goto 9, 3) := by decide +kernel
theorem d_X11_many_27 : decode c_X11_many 27 = .ok (.aload_n 0, 1) := by decide +kernel
theorem d_X11_many_28 : decode c_X11_many 28 = .ok (.iload_n 1, 1) := by decide +kernel
theorem d_X11_many_29 : decode c_X11_many 29 = .ok (.iload_n 2, 1) := by decide +kernel
theorem d_X11_many_30 : decode c_X11_many 30 = .ok (.invokevirtual 223, 3) := by decide +kernel
theorem d_X11_many_33 : decode c_X11_many 33 = .ok (.ireturn, 1) := by decide +kernel
def f_X11_many_400 (v : tV) (od : Int32) (pr : Int32) : Int32 := bnd (v 400 34) fun x1 => bnd (x1 - (1 : Int32)) fun x4 => (if (0 : Int32).toInt ≤ od.toInt ∧ od.toInt ≤ x4.toInt then (if (0 : Int32) ≤ pr then bnd (f_X11_manyBy_400 v od pr) fun x17 => x17 else (-2 : Int32)) else (-1 : Int32))
set_option maxHeartbeats 4000000 in
set_option maxRecDepth 100000 in
theorem ct_X11_many_400 (l : Launch) (D : va_G) (dA : Nat → ClassId) (ad : Nat → Nat) (v : tV) (hI : Inv v) (od : Int32) (pr : Int32) : Met l m_X11_many [.code m_X11_many c_X11_many 3 (some .int)] ({ frames := 2, cells := 0, slots := 0, locals := 64 } : Room) (tP D dA ad v [.ref (ad 400), .int od, .int pr]) (tQi D dA ad (fun r v' => (v' = v) ∧ r = f_X11_many_400 v od pr)) 0 0 (tA ad) := by
  refine tMet (by decide) (Nat.le_of_ble_eq_true rfl) ?_
  intro p e s m below meth c ls X hr hlocks hw hl
  have X : CX p s m ([.ref (ad 400), .int od, .int pr] : List Value).toArray c c_X11_many N_X11 3 D dA := X
  have hx := X.1
  have hb := X.2.1
  have hS : va_S (tA ad) s.heap s.heap [] := va_S.rf
  have hl : lv_has ls 3 [(0, .ref (ad 400)), (1, .int od), (2, .int pr)] := hl
  obtain ⟨RR, eRR⟩ : ∃ z, f_X11_many_400 v od pr = z := ⟨_, rfl⟩
  have hG := eRR
  unfold f_X11_many_400 at hG
  refine lv_iload_n hx hb d_X11_many_0 rfl (lv_at hl 1 rfl) ?_
  refine lv_iconst (v := 0) hx hb d_X11_many_1 (by decide) ?_
  refine lv_aload_n hx hb d_X11_many_2 rfl (lv_at hl 0 rfl) ?_
  refine r_geti X hw FL_X11_214 (rfl : KD 400 = _) rfl d_X11_many_3 ?_
  refine lv_topi (fun x1 ex1 => ?_)
  have hG := bnd_use ex1 hG
  have r2 : Rg x1 0 8 := by rw [ex1]; exact hI _ _ _ _ rfl
  have hm3 : v 400 34 = x1 := ex1.symm
  refine lv_iconst (v := 1) hx hb d_X11_many_6 (by decide) ?_
  refine lv_isub hx hb d_X11_many_7 ?_
  refine lv_topi (fun x4 ex4 => ?_)
  have hG := bnd_use ex4 hG
  have r5 : Rg x4 (-1) 7 := rg_sub ex4 r2 (⟨by decide, by decide⟩ : Rg 1 1 1) (by decide) (by decide)
  have s6 : x4.toInt = x1.toInt - (1 : Int32).toInt := by rw [ex4]; exact i_sub (by obtain ⟨_, _⟩ := r2; obtain ⟨_, _⟩ := (⟨by decide, by decide⟩ : Rg 1 1 1); omega) (by obtain ⟨_, _⟩ := r2; obtain ⟨_, _⟩ := (⟨by decide, by decide⟩ : Rg 1 1 1); omega)
  have s6l : (1 : Int32).toInt = 1 := rfl
  refine r_ci (r_runS (n := 3) (As := [.int od, .int 0, .int x4]) (rest := []) X hw (ct_X11_in l D dA ad v hI od 0 x4) gc_X11_169 (by decide +kernel) ⟨rfl, rfl, Nat.le_of_ble_eq_true rfl, Nat.le_of_ble_eq_true rfl⟩ rfl hl.1 rfl (Nat.le_of_ble_eq_true rfl) ⟨Nat.zero_le _, Nat.zero_le _⟩ d_X11_many_8) hS (fun x8 v9 H locs hp7 hw hS => ?_)
  obtain ⟨ev9, hp7⟩ := hp7
  rw [ev9] at hw
  rcases hp7 with ⟨rfl, w10a, w10b⟩ | ⟨rfl, w10n⟩
  · skip
    have hG := g_pos ⟨w10a, w10b⟩ hG
    have r11 : Rg od 0 7 := by obtain ⟨_, _⟩ := (rg_any od); have : (0 : Int32).toInt = 0 := rfl; obtain ⟨_, _⟩ := r5; exact ⟨by omega, by omega⟩
    refine lv_if_ne (tgt := 18) hx hb d_X11_many_11 (by decide) (fun c12 => ?_) (fun c12 => ?_)
    · refine lv_iload_n hx hb d_X11_many_18 rfl (lv_at hl 2 rfl) ?_
      refine lv_if_ge (tgt := 27) hx hb d_X11_many_19 (by decide) (fun c13 => ?_) (fun c13 => ?_)
      · have f14 := i_le c13
        have r15 : Rg pr 0 2147483647 := by obtain ⟨a1, a2⟩ := (rg_any pr); obtain ⟨b1, b2⟩ := (⟨by decide, by decide⟩ : Rg 0 0 0); have f := i_le c13; exact ⟨by omega, by omega⟩
        have hG := g_pos c13 hG
        refine lv_aload_n hx hb d_X11_many_27 rfl (lv_at hl 0 rfl) ?_
        refine lv_iload_n hx hb d_X11_many_28 rfl (lv_at hl 1 rfl) ?_
        refine lv_iload_n hx hb d_X11_many_29 rfl (lv_at hl 2 rfl) ?_
        refine r_ci (r_runV (n := 2) (As := [.int od, .int pr]) (rest := []) X hw (ct_X11_manyBy_400 l D dA ad v hI od pr (rg_w r11 (by decide) (by decide))) gc_X11_223 (rfl : KD 400 = _) (by decide) rfl (by decide +kernel) ⟨rfl, rfl, Nat.le_of_ble_eq_true rfl, Nat.le_of_ble_eq_true rfl⟩ rfl hl.1 rfl (Nat.le_of_ble_eq_true rfl) ⟨Nat.zero_le _, Nat.zero_le _⟩ d_X11_many_30) hS (fun x17 v18 H locs hp16 hw hS => ?_)
        obtain ⟨hp16, hE19⟩ := hp16
        obtain ⟨ev18, hp16⟩ := hp16
        rw [ev18] at hw
        have hG := bnd_use hE19 hG
        exact r_iret X hr hlocks hw hS ⟨rfl, hG.trans eRR.symm⟩ d_X11_many_33
      · have f20 := i_nle c13
        have r21 : Rg pr (-2147483648) (-1) := by obtain ⟨a1, a2⟩ := (rg_any pr); obtain ⟨b1, b2⟩ := (⟨by decide, by decide⟩ : Rg 0 0 0); have f := i_nle c13; exact ⟨by omega, by omega⟩
        have hG := g_neg c13 hG
        refine lv_bipush (v := -2) hx hb d_X11_many_22 (by decide) ?_
        refine lv_goto (tgt := 33) hx hb d_X11_many_24 (by decide) ?_
        exact r_iret X hr hlocks hw hS ⟨rfl, hG.trans eRR.symm⟩ d_X11_many_33
    · exact absurd c12 (by decide)
  · skip
    have hG := g_neg w10n hG
    refine lv_if_ne (tgt := 18) hx hb d_X11_many_11 (by decide) (fun c22 => ?_) (fun c22 => ?_)
    · exact absurd c22 (by decide)
    · refine lv_iconst (v := -1) hx hb d_X11_many_14 (by decide) ?_
      refine lv_goto (tgt := 33) hx hb d_X11_many_15 (by decide) ?_
      exact r_iret X hr hlocks hw hS ⟨rfl, hG.trans eRR.symm⟩ d_X11_many_33
theorem d_X11_keyOf_0 : decode c_X11_keyOf 0 = .ok (.iload_n 2, 1) := by decide +kernel
theorem d_X11_keyOf_1 : decode c_X11_keyOf 1 = .ok (.ifCond .ge 7, 3) := by decide +kernel
theorem d_X11_keyOf_4 : decode c_X11_keyOf 4 = .ok (.iconst 0, 1) := by decide +kernel
theorem d_X11_keyOf_5 : decode c_X11_keyOf 5 = .ok (.goto 9, 3) := by decide +kernel
theorem d_X11_keyOf_8 : decode c_X11_keyOf 8 = .ok (.aload_n 0, 1) := by decide +kernel
theorem d_X11_keyOf_9 : decode c_X11_keyOf 9 = .ok (.getfield 99, 3) := by decide +kernel
theorem d_X11_keyOf_12 : decode c_X11_keyOf 12 = .ok (.iload_n 2, 1) := by decide +kernel
theorem d_X11_keyOf_13 : decode c_X11_keyOf 13 = .ok (.iaload, 1) := by decide +kernel
theorem d_X11_keyOf_14 : decode c_X11_keyOf 14 = .ok (.tableswitch 47 0 2 #[26, 33, 40], 26) := by decide +kernel
theorem d_X11_keyOf_40 : decode c_X11_keyOf 40 = .ok (.aload_n 0, 1) := by decide +kernel
theorem d_X11_keyOf_41 : decode c_X11_keyOf 41 = .ok (.getfield 34, 3) := by decide +kernel
theorem d_X11_keyOf_44 : decode c_X11_keyOf 44 = .ok (.iload_n 1, 1) := by decide +kernel
theorem d_X11_keyOf_45 : decode c_X11_keyOf 45 = .ok (.iaload, 1) := by decide +kernel
theorem d_X11_keyOf_46 : decode c_X11_keyOf 46 = .ok (.ireturn, 1) := by decide +kernel
theorem d_X11_keyOf_47 : decode c_X11_keyOf 47 = .ok (.aload_n 0, 1) := by decide +kernel
theorem d_X11_keyOf_48 : decode c_X11_keyOf 48 = .ok (.getfield 19, 3) := by decide +kernel
theorem d_X11_keyOf_51 : decode c_X11_keyOf 51 = .ok (.iload_n 1, 1) := by decide +kernel
theorem d_X11_keyOf_52 : decode c_X11_keyOf 52 = .ok (.iaload, 1) := by decide +kernel
theorem d_X11_keyOf_53 : decode c_X11_keyOf 53 = .ok (.ireturn, 1) := by decide +kernel
theorem d_X11_keyOf_54 : decode c_X11_keyOf 54 = .ok (.aload_n 0, 1) := by decide +kernel
theorem d_X11_keyOf_55 : decode c_X11_keyOf 55 = .ok (.getfield 28, 3) := by decide +kernel
theorem d_X11_keyOf_58 : decode c_X11_keyOf 58 = .ok (.iload_n 1, 1) := by decide +kernel
theorem d_X11_keyOf_59 : decode c_X11_keyOf 59 = .ok (.iaload, 1) := by decide +kernel
theorem d_X11_keyOf_60 : decode c_X11_keyOf 60 = .ok (.ireturn, 1) := by decide +kernel
theorem d_X11_keyOf_61 : decode c_X11_keyOf 61 = .ok (.bipush 7, 2) := by decide +kernel
theorem d_X11_keyOf_63 : decode c_X11_keyOf 63 = .ok (.iload_n 1, 1) := by decide +kernel
theorem d_X11_keyOf_64 : decode c_X11_keyOf 64 = .ok (.imul, 1) := by decide +kernel
theorem d_X11_keyOf_65 : decode c_X11_keyOf 65 = .ok (.iconst 5, 1) := by decide +kernel
theorem d_X11_keyOf_66 : decode c_X11_keyOf 66 = .ok (.aload_n 0, 1) := by decide +kernel
theorem d_X11_keyOf_67 : decode c_X11_keyOf 67 = .ok (.getfield 227, 3) := by decide +kernel
theorem d_X11_keyOf_70 : decode c_X11_keyOf 70 = .ok (.imul, 1) := by decide +kernel
theorem d_X11_keyOf_71 : decode c_X11_keyOf 71 = .ok (.iadd, 1) := by decide +kernel
theorem d_X11_keyOf_72 : decode c_X11_keyOf 72 = .ok (.bipush 23, 2) := by decide +kernel
theorem d_X11_keyOf_74 : decode c_X11_keyOf 74 = .ok (.irem, 1) := by decide +kernel
theorem d_X11_keyOf_75 : decode c_X11_keyOf 75 = .ok (.ireturn, 1) := by decide +kernel
def f_X11_keyOf_400 (v : tV) (si : Int32) (od : Int32) : Int32 := (if (0 : Int32) ≤ od then bnd (v 437 od.toNatClampNeg) fun x4 => (if x4.toInt < 0 ∨ 2 < x4.toInt then bnd ((7 : Int32) * si) fun x6 => bnd (v 400 25) fun x9 => bnd ((5 : Int32) * x9) fun x10 => bnd (x6 + x10) fun x11 => bnd (x11 - x11 / (23 : Int32) * (23 : Int32)) fun x12 => x12 else (if x4.toInt = 0 then bnd (v 411 si.toNatClampNeg) fun x13 => x13 else (if x4.toInt = 1 then bnd (v 406 si.toNatClampNeg) fun x14 => x14 else bnd (v 409 si.toNatClampNeg) fun x15 => x15))) else bnd (v 411 si.toNatClampNeg) fun x19 => x19)
set_option maxHeartbeats 4000000 in
set_option maxRecDepth 100000 in
theorem ct_X11_keyOf_400 (l : Launch) (D : va_G) (dA : Nat → ClassId) (ad : Nat → Nat) (v : tV) (hI : Inv v) (si : Int32) (od : Int32) (r_si : Rg si 0 19) (r_od : Rg od (-1) 7) : Met l m_X11_keyOf [.code m_X11_keyOf c_X11_keyOf 3 (some .int)] ({ frames := 1, cells := 0, slots := 0, locals := 40 } : Room) (tP D dA ad v [.ref (ad 400), .int si, .int od]) (tQi D dA ad (fun r v' => (v' = v) ∧ r = f_X11_keyOf_400 v si od)) 0 0 (tA ad) := by
  refine tMet (by decide) (Nat.le_of_ble_eq_true rfl) ?_
  intro p e s m below meth c ls X hr hlocks hw hl
  have X : CX p s m ([.ref (ad 400), .int si, .int od] : List Value).toArray c c_X11_keyOf N_X11 3 D dA := X
  have hx := X.1
  have hb := X.2.1
  have hS : va_S (tA ad) s.heap s.heap [] := va_S.rf
  have hl : lv_has ls 3 [(0, .ref (ad 400)), (1, .int si), (2, .int od)] := hl
  obtain ⟨RR, eRR⟩ : ∃ z, f_X11_keyOf_400 v si od = z := ⟨_, rfl⟩
  have hG := eRR
  unfold f_X11_keyOf_400 at hG
  refine lv_iload_n hx hb d_X11_keyOf_0 rfl (lv_at hl 2 rfl) ?_
  refine lv_if_ge (tgt := 8) hx hb d_X11_keyOf_1 (by decide) (fun c1 => ?_) (fun c1 => ?_)
  · have f2 := i_le c1
    have r3 : Rg od 0 7 := by obtain ⟨a1, a2⟩ := r_od; obtain ⟨b1, b2⟩ := (⟨by decide, by decide⟩ : Rg 0 0 0); have f := i_le c1; exact ⟨by omega, by omega⟩
    have hG := g_pos c1 hG
    refine lv_aload_n hx hb d_X11_keyOf_8 rfl (lv_at hl 0 rfl) ?_
    refine r_getr (r := 437) X hw FL_X11_99 (rfl : KD 400 = _) rfl d_X11_keyOf_9 ?_
    refine lv_iload_n hx hb d_X11_keyOf_12 rfl (lv_at hl 2 rfl) ?_
    refine r_iald X hw (rfl : KD 437 = _) (Rg.vp (b := 7) r3 (by decide)) rfl d_X11_keyOf_13 ?_
    refine lv_topi (fun x4 ex4 => ?_)
    have hG := bnd_use ex4 hG
    by_cases c5 : x4.toInt < 0 ∨ 2 < x4.toInt
    · refine lv_tableOut (tgt := 61) hx hb d_X11_keyOf_14 c5 (by decide) ?_
      have hG := g_pos c5 hG
      refine lv_bipush (v := 7) hx hb d_X11_keyOf_61 (by decide) ?_
      refine lv_iload_n hx hb d_X11_keyOf_63 rfl (lv_at hl 1 rfl) ?_
      refine lv_imul hx hb d_X11_keyOf_64 ?_
      refine lv_topi (fun x6 ex6 => ?_)
      have hG := bnd_use ex6 hG
      have r7 : Rg x6 0 133 := rg_mulc ex6 (⟨by decide, by decide⟩ : Rg 7 7 7) r_si (by decide) (by decide) (by decide)
      have s8 : x6.toInt = 7 * si.toInt := rg_mule ex6 r_si rfl (by decide) (by decide)
      refine lv_iconst (v := 5) hx hb d_X11_keyOf_65 (by decide) ?_
      refine lv_aload_n hx hb d_X11_keyOf_66 rfl (lv_at hl 0 rfl) ?_
      refine r_geti X hw FL_X11_227 (rfl : KD 400 = _) rfl d_X11_keyOf_67 ?_
      refine lv_topi (fun x9 ex9 => ?_)
      have hG := bnd_use ex9 hG
      refine lv_imul hx hb d_X11_keyOf_70 ?_
      refine lv_topi (fun x10 ex10 => ?_)
      have hG := bnd_use ex10 hG
      refine lv_iadd hx hb d_X11_keyOf_71 ?_
      refine lv_topi (fun x11 ex11 => ?_)
      have hG := bnd_use ex11 hG
      refine lv_bipush (v := 23) hx hb d_X11_keyOf_72 (by decide) ?_
      refine lv_irem hx hb d_X11_keyOf_74 (by decide) ?_
      refine lv_topi (fun x12 ex12 => ?_)
      have hG := bnd_use ex12 hG
      exact r_iret X hr hlocks hw hS ⟨rfl, hG.trans eRR.symm⟩ d_X11_keyOf_75
    · have c5b : x4.toInt = 0 ∨ x4.toInt = 1 ∨ x4.toInt = 2 := by omega
      have hG := g_neg c5 hG
      rcases c5b with c5e | c5e | c5e
      · refine lv_tableIn (off := 26) (tgt := 40) hx hb d_X11_keyOf_14 (by omega) (by omega) (by rw [c5e]; rfl) (by decide) ?_
        have hG := g_pos c5e hG
        refine lv_aload_n hx hb d_X11_keyOf_40 rfl (lv_at hl 0 rfl) ?_
        refine r_getr (r := 411) X hw FL_X11_34 (rfl : KD 400 = _) rfl d_X11_keyOf_41 ?_
        refine lv_iload_n hx hb d_X11_keyOf_44 rfl (lv_at hl 1 rfl) ?_
        refine r_iald X hw (rfl : KD 411 = _) (Rg.vp (b := 19) r_si (by decide)) rfl d_X11_keyOf_45 ?_
        refine lv_topi (fun x13 ex13 => ?_)
        have hG := bnd_use ex13 hG
        exact r_iret X hr hlocks hw hS ⟨rfl, hG.trans eRR.symm⟩ d_X11_keyOf_46
      · refine lv_tableIn (off := 33) (tgt := 47) hx hb d_X11_keyOf_14 (by omega) (by omega) (by rw [c5e]; rfl) (by decide) ?_
        have hG := g_neg (by omega) hG
        have hG := g_pos c5e hG
        refine lv_aload_n hx hb d_X11_keyOf_47 rfl (lv_at hl 0 rfl) ?_
        refine r_getr (r := 406) X hw FL_X11_19 (rfl : KD 400 = _) rfl d_X11_keyOf_48 ?_
        refine lv_iload_n hx hb d_X11_keyOf_51 rfl (lv_at hl 1 rfl) ?_
        refine r_iald X hw (rfl : KD 406 = _) (Rg.vp (b := 19) r_si (by decide)) rfl d_X11_keyOf_52 ?_
        refine lv_topi (fun x14 ex14 => ?_)
        have hG := bnd_use ex14 hG
        exact r_iret X hr hlocks hw hS ⟨rfl, hG.trans eRR.symm⟩ d_X11_keyOf_53
      · refine lv_tableIn (off := 40) (tgt := 54) hx hb d_X11_keyOf_14 (by omega) (by omega) (by rw [c5e]; rfl) (by decide) ?_
        have hG := g_neg (by omega) hG
        have hG := g_neg (by omega) hG
        refine lv_aload_n hx hb d_X11_keyOf_54 rfl (lv_at hl 0 rfl) ?_
        refine r_getr (r := 409) X hw FL_X11_28 (rfl : KD 400 = _) rfl d_X11_keyOf_55 ?_
        refine lv_iload_n hx hb d_X11_keyOf_58 rfl (lv_at hl 1 rfl) ?_
        refine r_iald X hw (rfl : KD 409 = _) (Rg.vp (b := 19) r_si (by decide)) rfl d_X11_keyOf_59 ?_
        refine lv_topi (fun x15 ex15 => ?_)
        have hG := bnd_use ex15 hG
        exact r_iret X hr hlocks hw hS ⟨rfl, hG.trans eRR.symm⟩ d_X11_keyOf_60
  · have f16 := i_nle c1
    have r17 : Rg od (-1) (-1) := by obtain ⟨a1, a2⟩ := r_od; obtain ⟨b1, b2⟩ := (⟨by decide, by decide⟩ : Rg 0 0 0); have f := i_nle c1; exact ⟨by omega, by omega⟩
    have hG := g_neg c1 hG
    refine lv_iconst (v := 0) hx hb d_X11_keyOf_4 (by decide) ?_
    refine lv_goto (tgt := 14) hx hb d_X11_keyOf_5 (by decide) ?_
    refine lv_tableIn (off := 26) (tgt := 40) hx hb d_X11_keyOf_14 (by decide) (by decide) rfl (by decide) ?_
    refine lv_aload_n hx hb d_X11_keyOf_40 rfl (lv_at hl 0 rfl) ?_
    refine r_getr (r := 411) X hw FL_X11_34 (rfl : KD 400 = _) rfl d_X11_keyOf_41 ?_
    refine lv_iload_n hx hb d_X11_keyOf_44 rfl (lv_at hl 1 rfl) ?_
    refine r_iald X hw (rfl : KD 411 = _) (Rg.vp (b := 19) r_si (by decide)) rfl d_X11_keyOf_45 ?_
    refine lv_topi (fun x19 ex19 => ?_)
    have hG := bnd_use ex19 hG
    exact r_iret X hr hlocks hw hS ⟨rfl, hG.trans eRR.symm⟩ d_X11_keyOf_46
theorem d_X11_isAhead_0 : decode c_X11_isAhead 0 = .ok (.aload_n 0, 1) := by decide +kernel
theorem d_X11_isAhead_1 : decode c_X11_isAhead 1 = .ok (.getfield 31, 3) := by decide +kernel
theorem d_X11_isAhead_4 : decode c_X11_isAhead 4 = .ok (.iload_n 1, 1) := by decide +kernel
theorem d_X11_isAhead_5 : decode c_X11_isAhead 5 = .ok (.iaload, 1) := by decide +kernel
theorem d_X11_isAhead_6 : decode c_X11_isAhead 6 = .ok (.iconst 2, 1) := by decide +kernel
theorem d_X11_isAhead_7 : decode c_X11_isAhead 7 = .ok (.if_icmp .ne 7, 3) := by decide +kernel
theorem d_X11_isAhead_10 : decode c_X11_isAhead 10 = .ok (.iconst 1, 1) := by decide +kernel
theorem d_X11_isAhead_11 : decode c_X11_isAhead 11 = .ok (.goto 4, 3) := by decide +kernel
theorem d_X11_isAhead_14 : decode c_X11_isAhead 14 = .ok (.iconst 0, 1) := by decide +kernel
theorem d_X11_isAhead_15 : decode c_X11_isAhead 15 = .ok (.aload_n 0, 1) := by decide +kernel
theorem d_X11_isAhead_16 : decode c_X11_isAhead 16 = .ok (.getfield 31, 3) := by decide +kernel
theorem d_X11_isAhead_19 : decode c_X11_isAhead 19 = .ok (.iload_n 2, 1) := by decide +kernel
theorem d_X11_isAhead_20 : decode c_X11_isAhead 20 = .ok (.iaload, 1) := by decide +kernel
theorem d_X11_isAhead_21 : decode c_X11_isAhead 21 = .ok (.iconst 2, 1) := by decide +kernel
theorem d_X11_isAhead_22 : decode c_X11_isAhead 22 = .ok (.if_icmp .ne 7, 3) := by decide +kernel
theorem d_X11_isAhead_25 : decode c_X11_isAhead 25 = .ok (.iconst 1, 1) := by decide +kernel
theorem d_X11_isAhead_26 : decode c_X11_isAhead 26 = .ok (.goto 4, 3) := by decide +kernel
theorem d_X11_isAhead_29 : decode c_X11_isAhead 29 = .ok (.iconst 0, 1) := by decide +kernel
theorem d_X11_isAhead_30 : decode c_X11_isAhead 30 = .ok (.if_icmp .eq 19, 3) := by decide +kernel
theorem d_X11_isAhead_33 : decode c_X11_isAhead 33 = .ok (.aload_n 0, 1) := by decide +kernel
theorem d_X11_isAhead_34 : decode c_X11_isAhead 34 = .ok (.getfield 31, 3) := by decide +kernel
theorem d_X11_isAhead_37 : decode c_X11_isAhead 37 = .ok (.iload_n 2, 1) := by decide +kernel
theorem d_X11_isAhead_38 : decode c_X11_isAhead 38 = .ok (.iaload, 1) := by decide +kernel
theorem d_X11_isAhead_39 : decode c_X11_isAhead 39 = .ok (.iconst 2, 1) := by decide +kernel
theorem d_X11_isAhead_40 : decode c_X11_isAhead 40 = .ok (.if_icmp .ne 7, 3) := by decide +kernel
theorem d_X11_isAhead_43 : decode c_X11_isAhead 43 = .ok (.iconst 1, 1) := by decide +kernel
theorem d_X11_isAhead_44 : decode c_X11_isAhead 44 = .ok (.goto 4, 3) := by decide +kernel
theorem d_X11_isAhead_47 : decode c_X11_isAhead 47 = .ok (.iconst 0, 1) := by decide +kernel
theorem d_X11_isAhead_48 : decode c_X11_isAhead 48 = .ok (.ireturn, 1) := by decide +kernel
theorem d_X11_isAhead_49 : decode c_X11_isAhead 49 = .ok (.aload_n 0, 1) := by decide +kernel
theorem d_X11_isAhead_50 : decode c_X11_isAhead 50 = .ok (.iload_n 1, 1) := by decide +kernel
theorem d_X11_isAhead_51 : decode c_X11_isAhead 51 = .ok (.iload_n 3, 1) := by decide +kernel
theorem d_X11_isAhead_52 : decode c_X11_isAhead 52 = .ok (.invokevirtual 230, 3) := by decide +kernel
theorem d_X11_isAhead_55 : decode c_X11_isAhead 55 = .ok (.istore 4, 2) := by decide +kernel
theorem d_X11_isAhead_57 : decode c_X11_isAhead 57 = .ok (.aload_n 0, 1) := by decide +kernel
theorem d_X11_isAhead_58 : decode c_X11_isAhead 58 = .ok (.iload_n 2, 1) := by decide +kernel
theorem d_X11_isAhead_59 : decode c_X11_isAhead 59 = .ok (.iload_n 3, 1) := by decide +kernel
theorem d_X11_isAhead_60 : decode c_X11_isAhead 60 = .ok (.invokevirtual 230, 3) := by decide +kernel
theorem d_X11_isAhead_63 : decode c_X11_isAhead 63 = .ok (.istore 5, 2) := by decide +kernel
theorem d_X11_isAhead_65 : decode c_X11_isAhead 65 = .ok (.iload 4, 2) := by decide +kernel
theorem d_X11_isAhead_67 : decode c_X11_isAhead 67 = .ok (.iload 5, 2) := by decide +kernel
theorem d_X11_isAhead_69 : decode c_X11_isAhead 69 = .ok (.if_icmp .lt 15, 3) := by decide +kernel
theorem d_X11_isAhead_72 : decode c_X11_isAhead 72 = .ok (.iload 4, 2) := by decide +kernel
theorem d_X11_isAhead_74 : decode c_X11_isAhead 74 = .ok (.iload 5, 2) := by decide +kernel
theorem d_X11_isAhead_76 : decode c_X11_isAhead 76 = .ok (.if_icmp .ne 12, 3) := by decide +kernel
theorem d_X11_isAhead_79 : decode c_X11_isAhead 79 = .ok (.iload_n 1, 1) := by decide +kernel
theorem d_X11_isAhead_80 : decode c_X11_isAhead 80 = .ok (.iload_n 2, 1) := by decide +kernel
theorem d_X11_isAhead_81 : decode c_X11_isAhead 81 = .ok (.if_icmp .ge 7, 3) := by decide +kernel
theorem d_X11_isAhead_84 : decode c_X11_isAhead 84 = .ok (.iconst 1, 1) := by decide +kernel
theorem d_X11_isAhead_85 : decode c_X11_isAhead 85 = .ok (.goto 4, 3) := by decide +kernel
theorem d_X11_isAhead_88 : decode c_X11_isAhead 88 = .ok (.iconst 0, 1) := by decide +kernel
theorem d_X11_isAhead_89 : decode c_X11_isAhead 89 = .ok (.ireturn, 1) := by decide +kernel
def f_X11_isAhead_400 (v : tV) (si : Int32) (ti : Int32) (od : Int32) : Int32 := bnd (v 410 si.toNatClampNeg) fun x1 => (if x1 = (2 : Int32) then bnd (v 410 ti.toNatClampNeg) fun x37 => (if x37 = (2 : Int32) then bnd (f_X11_keyOf_400 v si od) fun x50 => bnd (f_X11_keyOf_400 v ti od) fun x54 => (if x50 < x54 then (1 : Int32) else (if x50 = x54 then (if ti ≤ si then (0 : Int32) else (1 : Int32)) else (0 : Int32))) else bnd (v 410 ti.toNatClampNeg) fun x41 => (if x41 = (2 : Int32) then (1 : Int32) else (0 : Int32))) else bnd (v 410 ti.toNatClampNeg) fun x4 => (if x4 = (2 : Int32) then bnd (v 410 ti.toNatClampNeg) fun x30 => (if x30 = (2 : Int32) then (1 : Int32) else (0 : Int32)) else bnd (f_X11_keyOf_400 v si od) fun x9 => bnd (f_X11_keyOf_400 v ti od) fun x13 => (if x9 < x13 then (1 : Int32) else (if x9 = x13 then (if ti ≤ si then (0 : Int32) else (1 : Int32)) else (0 : Int32)))))
set_option maxHeartbeats 4000000 in
set_option maxRecDepth 100000 in
theorem ct_X11_isAhead_400 (l : Launch) (D : va_G) (dA : Nat → ClassId) (ad : Nat → Nat) (v : tV) (hI : Inv v) (si : Int32) (ti : Int32) (od : Int32) (r_si : Rg si 0 19) (r_ti : Rg ti 0 19) (r_od : Rg od (-1) 7) : Met l m_X11_isAhead [.code m_X11_isAhead c_X11_isAhead 6 (some .boolean)] ({ frames := 2, cells := 0, slots := 0, locals := 62 } : Room) (tP D dA ad v [.ref (ad 400), .int si, .int ti, .int od]) (tQi D dA ad (fun r v' => (v' = v ∧ Rg r 0 1) ∧ r = f_X11_isAhead_400 v si ti od)) 0 0 (tA ad) := by
  refine tMet (by decide) (Nat.le_of_ble_eq_true rfl) ?_
  intro p e s m below meth c ls X hr hlocks hw hl
  have X : CX p s m ([.ref (ad 400), .int si, .int ti, .int od] : List Value).toArray c c_X11_isAhead N_X11 6 D dA := X
  have hx := X.1
  have hb := X.2.1
  have hS : va_S (tA ad) s.heap s.heap [] := va_S.rf
  have hl : lv_has ls 6 [(0, .ref (ad 400)), (1, .int si), (2, .int ti), (3, .int od)] := hl
  obtain ⟨RR, eRR⟩ : ∃ z, f_X11_isAhead_400 v si ti od = z := ⟨_, rfl⟩
  have hG := eRR
  unfold f_X11_isAhead_400 at hG
  refine lv_aload_n hx hb d_X11_isAhead_0 rfl (lv_at hl 0 rfl) ?_
  refine r_getr (r := 410) X hw FL_X11_31 (rfl : KD 400 = _) rfl d_X11_isAhead_1 ?_
  refine lv_iload_n hx hb d_X11_isAhead_4 rfl (lv_at hl 1 rfl) ?_
  refine r_iald X hw (rfl : KD 410 = _) (Rg.vp (b := 19) r_si (by decide)) rfl d_X11_isAhead_5 ?_
  refine lv_topi (fun x1 ex1 => ?_)
  have hG := bnd_use ex1 hG
  refine lv_iconst (v := 2) hx hb d_X11_isAhead_6 (by decide) ?_
  refine lv_icmp_ne (tgt := 14) hx hb d_X11_isAhead_7 (by decide) (fun c2 => ?_) (fun c2 => ?_)
  · have f3 := i_ne c2
    have hG := g_neg c2 hG
    refine lv_iconst (v := 0) hx hb d_X11_isAhead_14 (by decide) ?_
    refine lv_aload_n hx hb d_X11_isAhead_15 rfl (lv_at hl 0 rfl) ?_
    refine r_getr (r := 410) X hw FL_X11_31 (rfl : KD 400 = _) rfl d_X11_isAhead_16 ?_
    refine lv_iload_n hx hb d_X11_isAhead_19 rfl (lv_at hl 2 rfl) ?_
    refine r_iald X hw (rfl : KD 410 = _) (Rg.vp (b := 19) r_ti (by decide)) rfl d_X11_isAhead_20 ?_
    refine lv_topi (fun x4 ex4 => ?_)
    have hG := bnd_use ex4 hG
    refine lv_iconst (v := 2) hx hb d_X11_isAhead_21 (by decide) ?_
    refine lv_icmp_ne (tgt := 29) hx hb d_X11_isAhead_22 (by decide) (fun c5 => ?_) (fun c5 => ?_)
    · have f6 := i_ne c5
      have hG := g_neg c5 hG
      refine lv_iconst (v := 0) hx hb d_X11_isAhead_29 (by decide) ?_
      refine lv_icmp_eq (tgt := 49) hx hb d_X11_isAhead_30 (by decide) (fun c7 => ?_) (fun c7 => ?_)
      · refine lv_aload_n hx hb d_X11_isAhead_49 rfl (lv_at hl 0 rfl) ?_
        refine lv_iload_n hx hb d_X11_isAhead_50 rfl (lv_at hl 1 rfl) ?_
        refine lv_iload_n hx hb d_X11_isAhead_51 rfl (lv_at hl 3 rfl) ?_
        refine r_ci (r_runV (n := 2) (As := [.int si, .int od]) (rest := []) X hw (ct_X11_keyOf_400 l D dA ad v hI si od r_si r_od) gc_X11_230 (rfl : KD 400 = _) (by decide) rfl (by decide +kernel) ⟨rfl, rfl, Nat.le_of_ble_eq_true rfl, Nat.le_of_ble_eq_true rfl⟩ rfl hl.1 rfl (Nat.le_of_ble_eq_true rfl) ⟨Nat.zero_le _, Nat.zero_le _⟩ d_X11_isAhead_52) hS (fun x9 v10 H locs hp8 hw hS => ?_)
        obtain ⟨hp8, hE11⟩ := hp8
        rw [hp8] at hw
        have hG := bnd_use hE11 hG
        refine lv_istore (lv' := [(4, .int x9), (0, .ref (ad 400)), (1, .int si), (2, .int ti), (3, .int od)]) hx hb d_X11_isAhead_55 hl (by decide) rfl (fun ls hl => ?_)
        refine lv_aload_n hx hb d_X11_isAhead_57 rfl (lv_at hl 1 rfl) ?_
        refine lv_iload_n hx hb d_X11_isAhead_58 rfl (lv_at hl 3 rfl) ?_
        refine lv_iload_n hx hb d_X11_isAhead_59 rfl (lv_at hl 4 rfl) ?_
        refine r_ci (r_runV (n := 2) (As := [.int ti, .int od]) (rest := []) X hw (ct_X11_keyOf_400 l D dA ad v hI ti od r_ti r_od) gc_X11_230 (rfl : KD 400 = _) (by decide) rfl (by decide +kernel) ⟨rfl, rfl, Nat.le_of_ble_eq_true rfl, Nat.le_of_ble_eq_true rfl⟩ rfl hl.1 rfl (Nat.le_of_ble_eq_true rfl) ⟨Nat.zero_le _, Nat.zero_le _⟩ d_X11_isAhead_60) hS (fun x13 v14 H locs hp12 hw hS => ?_)
        obtain ⟨hp12, hE15⟩ := hp12
        rw [hp12] at hw
        have hG := bnd_use hE15 hG
        refine lv_istore (lv' := [(5, .int x13), (4, .int x9), (0, .ref (ad 400)), (1, .int si), (2, .int ti), (3, .int od)]) hx hb d_X11_isAhead_63 hl (by decide) rfl (fun ls hl => ?_)
        refine lv_iload hx hb d_X11_isAhead_65 (lv_at hl 1 rfl) ?_
        refine lv_iload hx hb d_X11_isAhead_67 (lv_at hl 0 rfl) ?_
        refine lv_icmp_lt (tgt := 84) hx hb d_X11_isAhead_69 (by decide) (fun c16 => ?_) (fun c16 => ?_)
        · have f17 := i_lt c16
          have hG := g_pos c16 hG
          refine lv_iconst (v := 1) hx hb d_X11_isAhead_84 (by decide) ?_
          refine lv_goto (tgt := 89) hx hb d_X11_isAhead_85 (by decide) ?_
          exact r_zret X hr hlocks hw hS rfl ⟨⟨rfl, (rg_w (⟨by decide, by decide⟩ : Rg 1 1 1) (by decide) (by decide))⟩, hG.trans eRR.symm⟩ d_X11_isAhead_89
        · have f18 := i_nlt c16
          have hG := g_neg c16 hG
          refine lv_iload hx hb d_X11_isAhead_72 (lv_at hl 1 rfl) ?_
          refine lv_iload hx hb d_X11_isAhead_74 (lv_at hl 0 rfl) ?_
          refine lv_icmp_ne (tgt := 88) hx hb d_X11_isAhead_76 (by decide) (fun c19 => ?_) (fun c19 => ?_)
          · have f20 := i_ne c19
            have hG := g_neg c19 hG
            refine lv_iconst (v := 0) hx hb d_X11_isAhead_88 (by decide) ?_
            exact r_zret X hr hlocks hw hS rfl ⟨⟨rfl, (rg_w (⟨by decide, by decide⟩ : Rg 0 0 0) (by decide) (by decide))⟩, hG.trans eRR.symm⟩ d_X11_isAhead_89
          · have f21 := i_eq c19
            have hG := g_pos c19 hG
            refine lv_iload_n hx hb d_X11_isAhead_79 rfl (lv_at hl 3 rfl) ?_
            refine lv_iload_n hx hb d_X11_isAhead_80 rfl (lv_at hl 4 rfl) ?_
            refine lv_icmp_ge (tgt := 88) hx hb d_X11_isAhead_81 (by decide) (fun c22 => ?_) (fun c22 => ?_)
            · have f23 := i_le c22
              have hG := g_pos c22 hG
              refine lv_iconst (v := 0) hx hb d_X11_isAhead_88 (by decide) ?_
              exact r_zret X hr hlocks hw hS rfl ⟨⟨rfl, (rg_w (⟨by decide, by decide⟩ : Rg 0 0 0) (by decide) (by decide))⟩, hG.trans eRR.symm⟩ d_X11_isAhead_89
            · have f24 := i_nle c22
              have r25 : Rg si 0 18 := by obtain ⟨a1, a2⟩ := r_si; obtain ⟨b1, b2⟩ := r_ti; have f := i_nle c22; exact ⟨by omega, by omega⟩
              have r26 : Rg ti 1 19 := by obtain ⟨a1, a2⟩ := r_si; obtain ⟨b1, b2⟩ := r_ti; have f := i_nle c22; exact ⟨by omega, by omega⟩
              have hG := g_neg c22 hG
              refine lv_iconst (v := 1) hx hb d_X11_isAhead_84 (by decide) ?_
              refine lv_goto (tgt := 89) hx hb d_X11_isAhead_85 (by decide) ?_
              exact r_zret X hr hlocks hw hS rfl ⟨⟨rfl, (rg_w (⟨by decide, by decide⟩ : Rg 1 1 1) (by decide) (by decide))⟩, hG.trans eRR.symm⟩ d_X11_isAhead_89
      · exact absurd c7 (by decide)
    · have f27 := i_eq c5
      have r28 : Rg x4 2 2 := by obtain ⟨a1, a2⟩ := (rg_any x4); obtain ⟨b1, b2⟩ := (⟨by decide, by decide⟩ : Rg 2 2 2); have f := i_eq c5; exact ⟨by omega, by omega⟩
      have hG := g_pos c5 hG
      refine lv_iconst (v := 1) hx hb d_X11_isAhead_25 (by decide) ?_
      refine lv_goto (tgt := 30) hx hb d_X11_isAhead_26 (by decide) ?_
      refine lv_icmp_eq (tgt := 49) hx hb d_X11_isAhead_30 (by decide) (fun c29 => ?_) (fun c29 => ?_)
      · exact absurd c29 (by decide)
      · refine lv_aload_n hx hb d_X11_isAhead_33 rfl (lv_at hl 0 rfl) ?_
        refine r_getr (r := 410) X hw FL_X11_31 (rfl : KD 400 = _) rfl d_X11_isAhead_34 ?_
        refine lv_iload_n hx hb d_X11_isAhead_37 rfl (lv_at hl 2 rfl) ?_
        refine r_iald X hw (rfl : KD 410 = _) (Rg.vp (b := 19) r_ti (by decide)) rfl d_X11_isAhead_38 ?_
        refine lv_topi (fun x30 ex30 => ?_)
        have hG := bnd_use ex30 hG
        refine lv_iconst (v := 2) hx hb d_X11_isAhead_39 (by decide) ?_
        refine lv_icmp_ne (tgt := 47) hx hb d_X11_isAhead_40 (by decide) (fun c31 => ?_) (fun c31 => ?_)
        · have f32 := i_ne c31
          have hG := g_neg c31 hG
          refine lv_iconst (v := 0) hx hb d_X11_isAhead_47 (by decide) ?_
          exact r_zret X hr hlocks hw hS rfl ⟨⟨rfl, (rg_w (⟨by decide, by decide⟩ : Rg 0 0 0) (by decide) (by decide))⟩, hG.trans eRR.symm⟩ d_X11_isAhead_48
        · have f33 := i_eq c31
          have r34 : Rg x30 2 2 := by obtain ⟨a1, a2⟩ := (rg_any x30); obtain ⟨b1, b2⟩ := (⟨by decide, by decide⟩ : Rg 2 2 2); have f := i_eq c31; exact ⟨by omega, by omega⟩
          have hG := g_pos c31 hG
          refine lv_iconst (v := 1) hx hb d_X11_isAhead_43 (by decide) ?_
          refine lv_goto (tgt := 48) hx hb d_X11_isAhead_44 (by decide) ?_
          exact r_zret X hr hlocks hw hS rfl ⟨⟨rfl, (rg_w (⟨by decide, by decide⟩ : Rg 1 1 1) (by decide) (by decide))⟩, hG.trans eRR.symm⟩ d_X11_isAhead_48
  · have f35 := i_eq c2
    have r36 : Rg x1 2 2 := by obtain ⟨a1, a2⟩ := (rg_any x1); obtain ⟨b1, b2⟩ := (⟨by decide, by decide⟩ : Rg 2 2 2); have f := i_eq c2; exact ⟨by omega, by omega⟩
    have hG := g_pos c2 hG
    refine lv_iconst (v := 1) hx hb d_X11_isAhead_10 (by decide) ?_
    refine lv_goto (tgt := 15) hx hb d_X11_isAhead_11 (by decide) ?_
    refine lv_aload_n hx hb d_X11_isAhead_15 rfl (lv_at hl 0 rfl) ?_
    refine r_getr (r := 410) X hw FL_X11_31 (rfl : KD 400 = _) rfl d_X11_isAhead_16 ?_
    refine lv_iload_n hx hb d_X11_isAhead_19 rfl (lv_at hl 2 rfl) ?_
    refine r_iald X hw (rfl : KD 410 = _) (Rg.vp (b := 19) r_ti (by decide)) rfl d_X11_isAhead_20 ?_
    refine lv_topi (fun x37 ex37 => ?_)
    have hG := bnd_use ex37 hG
    refine lv_iconst (v := 2) hx hb d_X11_isAhead_21 (by decide) ?_
    refine lv_icmp_ne (tgt := 29) hx hb d_X11_isAhead_22 (by decide) (fun c38 => ?_) (fun c38 => ?_)
    · have f39 := i_ne c38
      have hG := g_neg c38 hG
      refine lv_iconst (v := 0) hx hb d_X11_isAhead_29 (by decide) ?_
      refine lv_icmp_eq (tgt := 49) hx hb d_X11_isAhead_30 (by decide) (fun c40 => ?_) (fun c40 => ?_)
      · exact absurd c40 (by decide)
      · refine lv_aload_n hx hb d_X11_isAhead_33 rfl (lv_at hl 0 rfl) ?_
        refine r_getr (r := 410) X hw FL_X11_31 (rfl : KD 400 = _) rfl d_X11_isAhead_34 ?_
        refine lv_iload_n hx hb d_X11_isAhead_37 rfl (lv_at hl 2 rfl) ?_
        refine r_iald X hw (rfl : KD 410 = _) (Rg.vp (b := 19) r_ti (by decide)) rfl d_X11_isAhead_38 ?_
        refine lv_topi (fun x41 ex41 => ?_)
        have hG := bnd_use ex41 hG
        refine lv_iconst (v := 2) hx hb d_X11_isAhead_39 (by decide) ?_
        refine lv_icmp_ne (tgt := 47) hx hb d_X11_isAhead_40 (by decide) (fun c42 => ?_) (fun c42 => ?_)
        · have f43 := i_ne c42
          have hG := g_neg c42 hG
          refine lv_iconst (v := 0) hx hb d_X11_isAhead_47 (by decide) ?_
          exact r_zret X hr hlocks hw hS rfl ⟨⟨rfl, (rg_w (⟨by decide, by decide⟩ : Rg 0 0 0) (by decide) (by decide))⟩, hG.trans eRR.symm⟩ d_X11_isAhead_48
        · have f44 := i_eq c42
          have r45 : Rg x41 2 2 := by obtain ⟨a1, a2⟩ := (rg_any x41); obtain ⟨b1, b2⟩ := (⟨by decide, by decide⟩ : Rg 2 2 2); have f := i_eq c42; exact ⟨by omega, by omega⟩
          have hG := g_pos c42 hG
          refine lv_iconst (v := 1) hx hb d_X11_isAhead_43 (by decide) ?_
          refine lv_goto (tgt := 48) hx hb d_X11_isAhead_44 (by decide) ?_
          exact r_zret X hr hlocks hw hS rfl ⟨⟨rfl, (rg_w (⟨by decide, by decide⟩ : Rg 1 1 1) (by decide) (by decide))⟩, hG.trans eRR.symm⟩ d_X11_isAhead_48
    · have f46 := i_eq c38
      have r47 : Rg x37 2 2 := by obtain ⟨a1, a2⟩ := (rg_any x37); obtain ⟨b1, b2⟩ := (⟨by decide, by decide⟩ : Rg 2 2 2); have f := i_eq c38; exact ⟨by omega, by omega⟩
      have hG := g_pos c38 hG
      refine lv_iconst (v := 1) hx hb d_X11_isAhead_25 (by decide) ?_
      refine lv_goto (tgt := 30) hx hb d_X11_isAhead_26 (by decide) ?_
      refine lv_icmp_eq (tgt := 49) hx hb d_X11_isAhead_30 (by decide) (fun c48 => ?_) (fun c48 => ?_)
      · refine lv_aload_n hx hb d_X11_isAhead_49 rfl (lv_at hl 0 rfl) ?_
        refine lv_iload_n hx hb d_X11_isAhead_50 rfl (lv_at hl 1 rfl) ?_
        refine lv_iload_n hx hb d_X11_isAhead_51 rfl (lv_at hl 3 rfl) ?_
        refine r_ci (r_runV (n := 2) (As := [.int si, .int od]) (rest := []) X hw (ct_X11_keyOf_400 l D dA ad v hI si od r_si r_od) gc_X11_230 (rfl : KD 400 = _) (by decide) rfl (by decide +kernel) ⟨rfl, rfl, Nat.le_of_ble_eq_true rfl, Nat.le_of_ble_eq_true rfl⟩ rfl hl.1 rfl (Nat.le_of_ble_eq_true rfl) ⟨Nat.zero_le _, Nat.zero_le _⟩ d_X11_isAhead_52) hS (fun x50 v51 H locs hp49 hw hS => ?_)
        obtain ⟨hp49, hE52⟩ := hp49
        rw [hp49] at hw
        have hG := bnd_use hE52 hG
        refine lv_istore (lv' := [(4, .int x50), (0, .ref (ad 400)), (1, .int si), (2, .int ti), (3, .int od)]) hx hb d_X11_isAhead_55 hl (by decide) rfl (fun ls hl => ?_)
        refine lv_aload_n hx hb d_X11_isAhead_57 rfl (lv_at hl 1 rfl) ?_
        refine lv_iload_n hx hb d_X11_isAhead_58 rfl (lv_at hl 3 rfl) ?_
        refine lv_iload_n hx hb d_X11_isAhead_59 rfl (lv_at hl 4 rfl) ?_
        refine r_ci (r_runV (n := 2) (As := [.int ti, .int od]) (rest := []) X hw (ct_X11_keyOf_400 l D dA ad v hI ti od r_ti r_od) gc_X11_230 (rfl : KD 400 = _) (by decide) rfl (by decide +kernel) ⟨rfl, rfl, Nat.le_of_ble_eq_true rfl, Nat.le_of_ble_eq_true rfl⟩ rfl hl.1 rfl (Nat.le_of_ble_eq_true rfl) ⟨Nat.zero_le _, Nat.zero_le _⟩ d_X11_isAhead_60) hS (fun x54 v55 H locs hp53 hw hS => ?_)
        obtain ⟨hp53, hE56⟩ := hp53
        rw [hp53] at hw
        have hG := bnd_use hE56 hG
        refine lv_istore (lv' := [(5, .int x54), (4, .int x50), (0, .ref (ad 400)), (1, .int si), (2, .int ti), (3, .int od)]) hx hb d_X11_isAhead_63 hl (by decide) rfl (fun ls hl => ?_)
        refine lv_iload hx hb d_X11_isAhead_65 (lv_at hl 1 rfl) ?_
        refine lv_iload hx hb d_X11_isAhead_67 (lv_at hl 0 rfl) ?_
        refine lv_icmp_lt (tgt := 84) hx hb d_X11_isAhead_69 (by decide) (fun c57 => ?_) (fun c57 => ?_)
        · have f58 := i_lt c57
          have hG := g_pos c57 hG
          refine lv_iconst (v := 1) hx hb d_X11_isAhead_84 (by decide) ?_
          refine lv_goto (tgt := 89) hx hb d_X11_isAhead_85 (by decide) ?_
          exact r_zret X hr hlocks hw hS rfl ⟨⟨rfl, (rg_w (⟨by decide, by decide⟩ : Rg 1 1 1) (by decide) (by decide))⟩, hG.trans eRR.symm⟩ d_X11_isAhead_89
        · have f59 := i_nlt c57
          have hG := g_neg c57 hG
          refine lv_iload hx hb d_X11_isAhead_72 (lv_at hl 1 rfl) ?_
          refine lv_iload hx hb d_X11_isAhead_74 (lv_at hl 0 rfl) ?_
          refine lv_icmp_ne (tgt := 88) hx hb d_X11_isAhead_76 (by decide) (fun c60 => ?_) (fun c60 => ?_)
          · have f61 := i_ne c60
            have hG := g_neg c60 hG
            refine lv_iconst (v := 0) hx hb d_X11_isAhead_88 (by decide) ?_
            exact r_zret X hr hlocks hw hS rfl ⟨⟨rfl, (rg_w (⟨by decide, by decide⟩ : Rg 0 0 0) (by decide) (by decide))⟩, hG.trans eRR.symm⟩ d_X11_isAhead_89
          · have f62 := i_eq c60
            have hG := g_pos c60 hG
            refine lv_iload_n hx hb d_X11_isAhead_79 rfl (lv_at hl 3 rfl) ?_
            refine lv_iload_n hx hb d_X11_isAhead_80 rfl (lv_at hl 4 rfl) ?_
            refine lv_icmp_ge (tgt := 88) hx hb d_X11_isAhead_81 (by decide) (fun c63 => ?_) (fun c63 => ?_)
            · have f64 := i_le c63
              have hG := g_pos c63 hG
              refine lv_iconst (v := 0) hx hb d_X11_isAhead_88 (by decide) ?_
              exact r_zret X hr hlocks hw hS rfl ⟨⟨rfl, (rg_w (⟨by decide, by decide⟩ : Rg 0 0 0) (by decide) (by decide))⟩, hG.trans eRR.symm⟩ d_X11_isAhead_89
            · have f65 := i_nle c63
              have r66 : Rg si 0 18 := by obtain ⟨a1, a2⟩ := r_si; obtain ⟨b1, b2⟩ := r_ti; have f := i_nle c63; exact ⟨by omega, by omega⟩
              have r67 : Rg ti 1 19 := by obtain ⟨a1, a2⟩ := r_si; obtain ⟨b1, b2⟩ := r_ti; have f := i_nle c63; exact ⟨by omega, by omega⟩
              have hG := g_neg c63 hG
              refine lv_iconst (v := 1) hx hb d_X11_isAhead_84 (by decide) ?_
              refine lv_goto (tgt := 89) hx hb d_X11_isAhead_85 (by decide) ?_
              exact r_zret X hr hlocks hw hS rfl ⟨⟨rfl, (rg_w (⟨by decide, by decide⟩ : Rg 1 1 1) (by decide) (by decide))⟩, hG.trans eRR.symm⟩ d_X11_isAhead_89
      · exact absurd c48 (by decide)
theorem d_X11_about_0 : decode c_X11_about 0 = .ok (.aload_n 0, 1) := by decide +kernel
theorem d_X11_about_1 : decode c_X11_about 1 = .ok (.iload_n 1, 1) := by decide +kernel
theorem d_X11_about_2 : decode c_X11_about 2 = .ok (.invokevirtual 176, 3) := by decide +kernel
theorem d_X11_about_5 : decode c_X11_about 5 = .ok (.ifCond .ne 5, 3) := by decide +kernel
theorem d_X11_about_8 : decode c_X11_about 8 = .ok (.iconst (-1), 1) := by decide +kernel
theorem d_X11_about_9 : decode c_X11_about 9 = .ok (.ireturn, 1) := by decide +kernel
theorem d_X11_about_10 : decode c_X11_about 10 = .ok (.iload_n 2, 1) := by decide +kernel
theorem d_X11_about_11 : decode c_X11_about 11 = .ok (.tableswitch 156 0 12 #[65, 72, 79, 86, 93, 100, 107, 114, 121, 128, 135, 142, 149], 65) := by decide +kernel
theorem d_X11_about_76 : decode c_X11_about 76 = .ok (.aload_n 0, 1) := by decide +kernel
theorem d_X11_about_77 : decode c_X11_about 77 = .ok (.getfield 7, 3) := by decide +kernel
theorem d_X11_about_80 : decode c_X11_about 80 = .ok (.iload_n 1, 1) := by decide +kernel
theorem d_X11_about_81 : decode c_X11_about 81 = .ok (.iaload, 1) := by decide +kernel
theorem d_X11_about_82 : decode c_X11_about 82 = .ok (.ireturn, 1) := by decide +kernel
theorem d_X11_about_83 : decode c_X11_about 83 = .ok (.aload_n 0, 1) := by decide +kernel
theorem d_X11_about_84 : decode c_X11_about 84 = .ok (.getfield 13, 3) := by decide +kernel
theorem d_X11_about_87 : decode c_X11_about 87 = .ok (.iload_n 1, 1) := by decide +kernel
theorem d_X11_about_88 : decode c_X11_about 88 = .ok (.iaload, 1) := by decide +kernel
theorem d_X11_about_89 : decode c_X11_about 89 = .ok (.ireturn, 1) := by decide +kernel
theorem d_X11_about_90 : decode c_X11_about 90 = .ok (.aload_n 0, 1) := by decide +kernel
theorem d_X11_about_91 : decode c_X11_about 91 = .ok (.getfield 16, 3) := by decide +kernel
theorem d_X11_about_94 : decode c_X11_about 94 = .ok (.iload_n 1, 1) := by decide +kernel
theorem d_X11_about_95 : decode c_X11_about 95 = .ok (.iaload, 1) := by decide +kernel
theorem d_X11_about_96 : decode c_X11_about 96 = .ok (.ireturn, 1) := by decide +kernel
theorem d_X11_about_97 : decode c_X11_about 97 = .ok (.aload_n 0, 1) := by decide +kernel
theorem d_X11_about_98 : decode c_X11_about 98 = .ok (.getfield 19, 3) := by decide +kernel
theorem d_X11_about_101 : decode c_X11_about 101 = .ok (.iload_n 1, 1) := by decide +kernel
theorem d_X11_about_102 : decode c_X11_about 102 = .ok (.iaload, 1) := by decide +kernel
theorem d_X11_about_103 : decode c_X11_about 103 = .ok (.ireturn, 1) := by decide +kernel
theorem d_X11_about_104 : decode c_X11_about 104 = .ok (.aload_n 0, 1) := by decide +kernel
theorem d_X11_about_105 : decode c_X11_about 105 = .ok (.getfield 22, 3) := by decide +kernel
theorem d_X11_about_108 : decode c_X11_about 108 = .ok (.iload_n 1, 1) := by decide +kernel
theorem d_X11_about_109 : decode c_X11_about 109 = .ok (.iaload, 1) := by decide +kernel
theorem d_X11_about_110 : decode c_X11_about 110 = .ok (.ireturn, 1) := by decide +kernel
theorem d_X11_about_111 : decode c_X11_about 111 = .ok (.aload_n 0, 1) := by decide +kernel
theorem d_X11_about_112 : decode c_X11_about 112 = .ok (.getfield 25, 3) := by decide +kernel
theorem d_X11_about_115 : decode c_X11_about 115 = .ok (.iload_n 1, 1) := by decide +kernel
theorem d_X11_about_116 : decode c_X11_about 116 = .ok (.iaload, 1) := by decide +kernel
theorem d_X11_about_117 : decode c_X11_about 117 = .ok (.ireturn, 1) := by decide +kernel
theorem d_X11_about_118 : decode c_X11_about 118 = .ok (.aload_n 0, 1) := by decide +kernel
theorem d_X11_about_119 : decode c_X11_about 119 = .ok (.getfield 28, 3) := by decide +kernel
theorem d_X11_about_122 : decode c_X11_about 122 = .ok (.iload_n 1, 1) := by decide +kernel
theorem d_X11_about_123 : decode c_X11_about 123 = .ok (.iaload, 1) := by decide +kernel
theorem d_X11_about_124 : decode c_X11_about 124 = .ok (.ireturn, 1) := by decide +kernel
theorem d_X11_about_125 : decode c_X11_about 125 = .ok (.aload_n 0, 1) := by decide +kernel
theorem d_X11_about_126 : decode c_X11_about 126 = .ok (.getfield 31, 3) := by decide +kernel
theorem d_X11_about_129 : decode c_X11_about 129 = .ok (.iload_n 1, 1) := by decide +kernel
theorem d_X11_about_130 : decode c_X11_about 130 = .ok (.iaload, 1) := by decide +kernel
theorem d_X11_about_131 : decode c_X11_about 131 = .ok (.ireturn, 1) := by decide +kernel
theorem d_X11_about_132 : decode c_X11_about 132 = .ok (.aload_n 0, 1) := by decide +kernel
theorem d_X11_about_133 : decode c_X11_about 133 = .ok (.getfield 34, 3) := by decide +kernel
theorem d_X11_about_136 : decode c_X11_about 136 = .ok (.iload_n 1, 1) := by decide +kernel
theorem d_X11_about_137 : decode c_X11_about 137 = .ok (.iaload, 1) := by decide +kernel
theorem d_X11_about_138 : decode c_X11_about 138 = .ok (.ireturn, 1) := by decide +kernel
theorem d_X11_about_139 : decode c_X11_about 139 = .ok (.aload_n 0, 1) := by decide +kernel
theorem d_X11_about_140 : decode c_X11_about 140 = .ok (.getfield 37, 3) := by decide +kernel
theorem d_X11_about_143 : decode c_X11_about 143 = .ok (.iload_n 1, 1) := by decide +kernel
theorem d_X11_about_144 : decode c_X11_about 144 = .ok (.iaload, 1) := by decide +kernel
theorem d_X11_about_145 : decode c_X11_about 145 = .ok (.ireturn, 1) := by decide +kernel
theorem d_X11_about_146 : decode c_X11_about 146 = .ok (.aload_n 0, 1) := by decide +kernel
theorem d_X11_about_147 : decode c_X11_about 147 = .ok (.getfield 40, 3) := by decide +kernel
theorem d_X11_about_150 : decode c_X11_about 150 = .ok (.iload_n 1, 1) := by decide +kernel
theorem d_X11_about_151 : decode c_X11_about 151 = .ok (.iaload, 1) := by decide +kernel
theorem d_X11_about_152 : decode c_X11_about 152 = .ok (.ireturn, 1) := by decide +kernel
theorem d_X11_about_153 : decode c_X11_about 153 = .ok (.aload_n 0, 1) := by decide +kernel
theorem d_X11_about_154 : decode c_X11_about 154 = .ok (.getfield 43, 3) := by decide +kernel
theorem d_X11_about_157 : decode c_X11_about 157 = .ok (.iload_n 1, 1) := by decide +kernel
theorem d_X11_about_158 : decode c_X11_about 158 = .ok (.iaload, 1) := by decide +kernel
theorem d_X11_about_159 : decode c_X11_about 159 = .ok (.ireturn, 1) := by decide +kernel
theorem d_X11_about_160 : decode c_X11_about 160 = .ok (.aload_n 0, 1) := by decide +kernel
theorem d_X11_about_161 : decode c_X11_about 161 = .ok (.getfield 46, 3) := by decide +kernel
theorem d_X11_about_164 : decode c_X11_about 164 = .ok (.iload_n 1, 1) := by decide +kernel
theorem d_X11_about_165 : decode c_X11_about 165 = .ok (.iaload, 1) := by decide +kernel
theorem d_X11_about_166 : decode c_X11_about 166 = .ok (.ireturn, 1) := by decide +kernel
theorem d_X11_about_167 : decode c_X11_about 167 = .ok (.iconst (-1), 1) := by decide +kernel
theorem d_X11_about_168 : decode c_X11_about 168 = .ok (.ireturn, 1) := by decide +kernel
def f_X11_about_400 (v : tV) (si : Int32) (wh : Int32) : Int32 := (if 0 ≤ si.toInt ∧ si.toInt ≤ (v 400 1).toInt - 1 then (if wh.toInt < 0 ∨ 12 < wh.toInt then (-1 : Int32) else (if wh.toInt = 0 then bnd (v 403 si.toNatClampNeg) fun x8 => x8 else (if wh.toInt = 1 then bnd (v 404 si.toNatClampNeg) fun x9 => x9 else (if wh.toInt = 2 then bnd (v 405 si.toNatClampNeg) fun x10 => x10 else (if wh.toInt = 3 then bnd (v 406 si.toNatClampNeg) fun x11 => x11 else (if wh.toInt = 4 then bnd (v 407 si.toNatClampNeg) fun x12 => x12 else (if wh.toInt = 5 then bnd (v 408 si.toNatClampNeg) fun x13 => x13 else (if wh.toInt = 6 then bnd (v 409 si.toNatClampNeg) fun x14 => x14 else (if wh.toInt = 7 then bnd (v 410 si.toNatClampNeg) fun x15 => x15 else (if wh.toInt = 8 then bnd (v 411 si.toNatClampNeg) fun x16 => x16 else (if wh.toInt = 9 then bnd (v 412 si.toNatClampNeg) fun x17 => x17 else (if wh.toInt = 10 then bnd (v 413 si.toNatClampNeg) fun x18 => x18 else (if wh.toInt = 11 then bnd (v 414 si.toNatClampNeg) fun x19 => x19 else bnd (v 415 si.toNatClampNeg) fun x20 => x20))))))))))))) else (-1 : Int32))
set_option maxHeartbeats 4000000 in
set_option maxRecDepth 100000 in
theorem ct_X11_about_400 (l : Launch) (D : va_G) (dA : Nat → ClassId) (ad : Nat → Nat) (v : tV) (hI : Inv v) (si : Int32) (wh : Int32) : Met l m_X11_about [.code m_X11_about c_X11_about 3 (some .int)] ({ frames := 3, cells := 0, slots := 0, locals := 83 } : Room) (tP D dA ad v [.ref (ad 400), .int si, .int wh]) (tQi D dA ad (fun r v' => (v' = v) ∧ r = f_X11_about_400 v si wh)) 0 0 (tA ad) := by
  refine tMet (by decide) (Nat.le_of_ble_eq_true rfl) ?_
  intro p e s m below meth c ls X hr hlocks hw hl
  have X : CX p s m ([.ref (ad 400), .int si, .int wh] : List Value).toArray c c_X11_about N_X11 3 D dA := X
  have hx := X.1
  have hb := X.2.1
  have hS : va_S (tA ad) s.heap s.heap [] := va_S.rf
  have hl : lv_has ls 3 [(0, .ref (ad 400)), (1, .int si), (2, .int wh)] := hl
  obtain ⟨RR, eRR⟩ : ∃ z, f_X11_about_400 v si wh = z := ⟨_, rfl⟩
  have hG := eRR
  unfold f_X11_about_400 at hG
  refine lv_aload_n hx hb d_X11_about_0 rfl (lv_at hl 0 rfl) ?_
  refine lv_iload_n hx hb d_X11_about_1 rfl (lv_at hl 1 rfl) ?_
  refine r_ci (r_runV (n := 1) (As := [.int si]) (rest := []) X hw (ct_X11_isShip_400 l D dA ad v hI si) gc_X11_176 (rfl : KD 400 = _) (by decide) rfl (by decide +kernel) ⟨rfl, rfl, Nat.le_of_ble_eq_true rfl, Nat.le_of_ble_eq_true rfl⟩ rfl hl.1 rfl (Nat.le_of_ble_eq_true rfl) ⟨Nat.zero_le _, Nat.zero_le _⟩ d_X11_about_2) hS (fun x2 v3 H locs hp1 hw hS => ?_)
  obtain ⟨ev3, hp1⟩ := hp1
  rw [ev3] at hw
  rcases hp1 with ⟨rfl, w4a, w4b⟩ | ⟨rfl, w4n⟩
  · skip
    have hG := g_pos ⟨w4a, w4b⟩ hG
    have r5 : Rg si 0 19 := by have q := hI 400 1 0 20 rfl; obtain ⟨_, _⟩ := q; obtain ⟨_, _⟩ := (rg_any si); exact ⟨by omega, by omega⟩
    refine lv_if_ne (tgt := 10) hx hb d_X11_about_5 (by decide) (fun c6 => ?_) (fun c6 => ?_)
    · refine lv_iload_n hx hb d_X11_about_10 rfl (lv_at hl 2 rfl) ?_
      by_cases c7 : wh.toInt < 0 ∨ 12 < wh.toInt
      · refine lv_tableOut (tgt := 167) hx hb d_X11_about_11 c7 (by decide) ?_
        have hG := g_pos c7 hG
        refine lv_iconst (v := -1) hx hb d_X11_about_167 (by decide) ?_
        exact r_iret X hr hlocks hw hS ⟨rfl, hG.trans eRR.symm⟩ d_X11_about_168
      · have c7b : wh.toInt = 0 ∨ wh.toInt = 1 ∨ wh.toInt = 2 ∨ wh.toInt = 3 ∨ wh.toInt = 4 ∨ wh.toInt = 5 ∨ wh.toInt = 6 ∨ wh.toInt = 7 ∨ wh.toInt = 8 ∨ wh.toInt = 9 ∨ wh.toInt = 10 ∨ wh.toInt = 11 ∨ wh.toInt = 12 := by omega
        have hG := g_neg c7 hG
        rcases c7b with c7e | c7e | c7e | c7e | c7e | c7e | c7e | c7e | c7e | c7e | c7e | c7e | c7e
        · refine lv_tableIn (off := 65) (tgt := 76) hx hb d_X11_about_11 (by omega) (by omega) (by rw [c7e]; rfl) (by decide) ?_
          have hG := g_pos c7e hG
          refine lv_aload_n hx hb d_X11_about_76 rfl (lv_at hl 0 rfl) ?_
          refine r_getr (r := 403) X hw FL_X11_7 (rfl : KD 400 = _) rfl d_X11_about_77 ?_
          refine lv_iload_n hx hb d_X11_about_80 rfl (lv_at hl 1 rfl) ?_
          refine r_iald X hw (rfl : KD 403 = _) (Rg.vp (b := 19) r5 (by decide)) rfl d_X11_about_81 ?_
          refine lv_topi (fun x8 ex8 => ?_)
          have hG := bnd_use ex8 hG
          exact r_iret X hr hlocks hw hS ⟨rfl, hG.trans eRR.symm⟩ d_X11_about_82
        · refine lv_tableIn (off := 72) (tgt := 83) hx hb d_X11_about_11 (by omega) (by omega) (by rw [c7e]; rfl) (by decide) ?_
          have hG := g_neg (by omega) hG
          have hG := g_pos c7e hG
          refine lv_aload_n hx hb d_X11_about_83 rfl (lv_at hl 0 rfl) ?_
          refine r_getr (r := 404) X hw FL_X11_13 (rfl : KD 400 = _) rfl d_X11_about_84 ?_
          refine lv_iload_n hx hb d_X11_about_87 rfl (lv_at hl 1 rfl) ?_
          refine r_iald X hw (rfl : KD 404 = _) (Rg.vp (b := 19) r5 (by decide)) rfl d_X11_about_88 ?_
          refine lv_topi (fun x9 ex9 => ?_)
          have hG := bnd_use ex9 hG
          exact r_iret X hr hlocks hw hS ⟨rfl, hG.trans eRR.symm⟩ d_X11_about_89
        · refine lv_tableIn (off := 79) (tgt := 90) hx hb d_X11_about_11 (by omega) (by omega) (by rw [c7e]; rfl) (by decide) ?_
          have hG := g_neg (by omega) hG
          have hG := g_neg (by omega) hG
          have hG := g_pos c7e hG
          refine lv_aload_n hx hb d_X11_about_90 rfl (lv_at hl 0 rfl) ?_
          refine r_getr (r := 405) X hw FL_X11_16 (rfl : KD 400 = _) rfl d_X11_about_91 ?_
          refine lv_iload_n hx hb d_X11_about_94 rfl (lv_at hl 1 rfl) ?_
          refine r_iald X hw (rfl : KD 405 = _) (Rg.vp (b := 19) r5 (by decide)) rfl d_X11_about_95 ?_
          refine lv_topi (fun x10 ex10 => ?_)
          have hG := bnd_use ex10 hG
          exact r_iret X hr hlocks hw hS ⟨rfl, hG.trans eRR.symm⟩ d_X11_about_96
        · refine lv_tableIn (off := 86) (tgt := 97) hx hb d_X11_about_11 (by omega) (by omega) (by rw [c7e]; rfl) (by decide) ?_
          have hG := g_neg (by omega) hG
          have hG := g_neg (by omega) hG
          have hG := g_neg (by omega) hG
          have hG := g_pos c7e hG
          refine lv_aload_n hx hb d_X11_about_97 rfl (lv_at hl 0 rfl) ?_
          refine r_getr (r := 406) X hw FL_X11_19 (rfl : KD 400 = _) rfl d_X11_about_98 ?_
          refine lv_iload_n hx hb d_X11_about_101 rfl (lv_at hl 1 rfl) ?_
          refine r_iald X hw (rfl : KD 406 = _) (Rg.vp (b := 19) r5 (by decide)) rfl d_X11_about_102 ?_
          refine lv_topi (fun x11 ex11 => ?_)
          have hG := bnd_use ex11 hG
          exact r_iret X hr hlocks hw hS ⟨rfl, hG.trans eRR.symm⟩ d_X11_about_103
        · refine lv_tableIn (off := 93) (tgt := 104) hx hb d_X11_about_11 (by omega) (by omega) (by rw [c7e]; rfl) (by decide) ?_
          have hG := g_neg (by omega) hG
          have hG := g_neg (by omega) hG
          have hG := g_neg (by omega) hG
          have hG := g_neg (by omega) hG
          have hG := g_pos c7e hG
          refine lv_aload_n hx hb d_X11_about_104 rfl (lv_at hl 0 rfl) ?_
          refine r_getr (r := 407) X hw FL_X11_22 (rfl : KD 400 = _) rfl d_X11_about_105 ?_
          refine lv_iload_n hx hb d_X11_about_108 rfl (lv_at hl 1 rfl) ?_
          refine r_iald X hw (rfl : KD 407 = _) (Rg.vp (b := 19) r5 (by decide)) rfl d_X11_about_109 ?_
          refine lv_topi (fun x12 ex12 => ?_)
          have hG := bnd_use ex12 hG
          exact r_iret X hr hlocks hw hS ⟨rfl, hG.trans eRR.symm⟩ d_X11_about_110
        · refine lv_tableIn (off := 100) (tgt := 111) hx hb d_X11_about_11 (by omega) (by omega) (by rw [c7e]; rfl) (by decide) ?_
          have hG := g_neg (by omega) hG
          have hG := g_neg (by omega) hG
          have hG := g_neg (by omega) hG
          have hG := g_neg (by omega) hG
          have hG := g_neg (by omega) hG
          have hG := g_pos c7e hG
          refine lv_aload_n hx hb d_X11_about_111 rfl (lv_at hl 0 rfl) ?_
          refine r_getr (r := 408) X hw FL_X11_25 (rfl : KD 400 = _) rfl d_X11_about_112 ?_
          refine lv_iload_n hx hb d_X11_about_115 rfl (lv_at hl 1 rfl) ?_
          refine r_iald X hw (rfl : KD 408 = _) (Rg.vp (b := 19) r5 (by decide)) rfl d_X11_about_116 ?_
          refine lv_topi (fun x13 ex13 => ?_)
          have hG := bnd_use ex13 hG
          exact r_iret X hr hlocks hw hS ⟨rfl, hG.trans eRR.symm⟩ d_X11_about_117
        · refine lv_tableIn (off := 107) (tgt := 118) hx hb d_X11_about_11 (by omega) (by omega) (by rw [c7e]; rfl) (by decide) ?_
          have hG := g_neg (by omega) hG
          have hG := g_neg (by omega) hG
          have hG := g_neg (by omega) hG
          have hG := g_neg (by omega) hG
          have hG := g_neg (by omega) hG
          have hG := g_neg (by omega) hG
          have hG := g_pos c7e hG
          refine lv_aload_n hx hb d_X11_about_118 rfl (lv_at hl 0 rfl) ?_
          refine r_getr (r := 409) X hw FL_X11_28 (rfl : KD 400 = _) rfl d_X11_about_119 ?_
          refine lv_iload_n hx hb d_X11_about_122 rfl (lv_at hl 1 rfl) ?_
          refine r_iald X hw (rfl : KD 409 = _) (Rg.vp (b := 19) r5 (by decide)) rfl d_X11_about_123 ?_
          refine lv_topi (fun x14 ex14 => ?_)
          have hG := bnd_use ex14 hG
          exact r_iret X hr hlocks hw hS ⟨rfl, hG.trans eRR.symm⟩ d_X11_about_124
        · refine lv_tableIn (off := 114) (tgt := 125) hx hb d_X11_about_11 (by omega) (by omega) (by rw [c7e]; rfl) (by decide) ?_
          have hG := g_neg (by omega) hG
          have hG := g_neg (by omega) hG
          have hG := g_neg (by omega) hG
          have hG := g_neg (by omega) hG
          have hG := g_neg (by omega) hG
          have hG := g_neg (by omega) hG
          have hG := g_neg (by omega) hG
          have hG := g_pos c7e hG
          refine lv_aload_n hx hb d_X11_about_125 rfl (lv_at hl 0 rfl) ?_
          refine r_getr (r := 410) X hw FL_X11_31 (rfl : KD 400 = _) rfl d_X11_about_126 ?_
          refine lv_iload_n hx hb d_X11_about_129 rfl (lv_at hl 1 rfl) ?_
          refine r_iald X hw (rfl : KD 410 = _) (Rg.vp (b := 19) r5 (by decide)) rfl d_X11_about_130 ?_
          refine lv_topi (fun x15 ex15 => ?_)
          have hG := bnd_use ex15 hG
          exact r_iret X hr hlocks hw hS ⟨rfl, hG.trans eRR.symm⟩ d_X11_about_131
        · refine lv_tableIn (off := 121) (tgt := 132) hx hb d_X11_about_11 (by omega) (by omega) (by rw [c7e]; rfl) (by decide) ?_
          have hG := g_neg (by omega) hG
          have hG := g_neg (by omega) hG
          have hG := g_neg (by omega) hG
          have hG := g_neg (by omega) hG
          have hG := g_neg (by omega) hG
          have hG := g_neg (by omega) hG
          have hG := g_neg (by omega) hG
          have hG := g_neg (by omega) hG
          have hG := g_pos c7e hG
          refine lv_aload_n hx hb d_X11_about_132 rfl (lv_at hl 0 rfl) ?_
          refine r_getr (r := 411) X hw FL_X11_34 (rfl : KD 400 = _) rfl d_X11_about_133 ?_
          refine lv_iload_n hx hb d_X11_about_136 rfl (lv_at hl 1 rfl) ?_
          refine r_iald X hw (rfl : KD 411 = _) (Rg.vp (b := 19) r5 (by decide)) rfl d_X11_about_137 ?_
          refine lv_topi (fun x16 ex16 => ?_)
          have hG := bnd_use ex16 hG
          exact r_iret X hr hlocks hw hS ⟨rfl, hG.trans eRR.symm⟩ d_X11_about_138
        · refine lv_tableIn (off := 128) (tgt := 139) hx hb d_X11_about_11 (by omega) (by omega) (by rw [c7e]; rfl) (by decide) ?_
          have hG := g_neg (by omega) hG
          have hG := g_neg (by omega) hG
          have hG := g_neg (by omega) hG
          have hG := g_neg (by omega) hG
          have hG := g_neg (by omega) hG
          have hG := g_neg (by omega) hG
          have hG := g_neg (by omega) hG
          have hG := g_neg (by omega) hG
          have hG := g_neg (by omega) hG
          have hG := g_pos c7e hG
          refine lv_aload_n hx hb d_X11_about_139 rfl (lv_at hl 0 rfl) ?_
          refine r_getr (r := 412) X hw FL_X11_37 (rfl : KD 400 = _) rfl d_X11_about_140 ?_
          refine lv_iload_n hx hb d_X11_about_143 rfl (lv_at hl 1 rfl) ?_
          refine r_iald X hw (rfl : KD 412 = _) (Rg.vp (b := 19) r5 (by decide)) rfl d_X11_about_144 ?_
          refine lv_topi (fun x17 ex17 => ?_)
          have hG := bnd_use ex17 hG
          exact r_iret X hr hlocks hw hS ⟨rfl, hG.trans eRR.symm⟩ d_X11_about_145
        · refine lv_tableIn (off := 135) (tgt := 146) hx hb d_X11_about_11 (by omega) (by omega) (by rw [c7e]; rfl) (by decide) ?_
          have hG := g_neg (by omega) hG
          have hG := g_neg (by omega) hG
          have hG := g_neg (by omega) hG
          have hG := g_neg (by omega) hG
          have hG := g_neg (by omega) hG
          have hG := g_neg (by omega) hG
          have hG := g_neg (by omega) hG
          have hG := g_neg (by omega) hG
          have hG := g_neg (by omega) hG
          have hG := g_neg (by omega) hG
          have hG := g_pos c7e hG
          refine lv_aload_n hx hb d_X11_about_146 rfl (lv_at hl 0 rfl) ?_
          refine r_getr (r := 413) X hw FL_X11_40 (rfl : KD 400 = _) rfl d_X11_about_147 ?_
          refine lv_iload_n hx hb d_X11_about_150 rfl (lv_at hl 1 rfl) ?_
          refine r_iald X hw (rfl : KD 413 = _) (Rg.vp (b := 19) r5 (by decide)) rfl d_X11_about_151 ?_
          refine lv_topi (fun x18 ex18 => ?_)
          have hG := bnd_use ex18 hG
          exact r_iret X hr hlocks hw hS ⟨rfl, hG.trans eRR.symm⟩ d_X11_about_152
        · refine lv_tableIn (off := 142) (tgt := 153) hx hb d_X11_about_11 (by omega) (by omega) (by rw [c7e]; rfl) (by decide) ?_
          have hG := g_neg (by omega) hG
          have hG := g_neg (by omega) hG
          have hG := g_neg (by omega) hG
          have hG := g_neg (by omega) hG
          have hG := g_neg (by omega) hG
          have hG := g_neg (by omega) hG
          have hG := g_neg (by omega) hG
          have hG := g_neg (by omega) hG
          have hG := g_neg (by omega) hG
          have hG := g_neg (by omega) hG
          have hG := g_neg (by omega) hG
          have hG := g_pos c7e hG
          refine lv_aload_n hx hb d_X11_about_153 rfl (lv_at hl 0 rfl) ?_
          refine r_getr (r := 414) X hw FL_X11_43 (rfl : KD 400 = _) rfl d_X11_about_154 ?_
          refine lv_iload_n hx hb d_X11_about_157 rfl (lv_at hl 1 rfl) ?_
          refine r_iald X hw (rfl : KD 414 = _) (Rg.vp (b := 19) r5 (by decide)) rfl d_X11_about_158 ?_
          refine lv_topi (fun x19 ex19 => ?_)
          have hG := bnd_use ex19 hG
          exact r_iret X hr hlocks hw hS ⟨rfl, hG.trans eRR.symm⟩ d_X11_about_159
        · refine lv_tableIn (off := 149) (tgt := 160) hx hb d_X11_about_11 (by omega) (by omega) (by rw [c7e]; rfl) (by decide) ?_
          have hG := g_neg (by omega) hG
          have hG := g_neg (by omega) hG
          have hG := g_neg (by omega) hG
          have hG := g_neg (by omega) hG
          have hG := g_neg (by omega) hG
          have hG := g_neg (by omega) hG
          have hG := g_neg (by omega) hG
          have hG := g_neg (by omega) hG
          have hG := g_neg (by omega) hG
          have hG := g_neg (by omega) hG
          have hG := g_neg (by omega) hG
          have hG := g_neg (by omega) hG
          refine lv_aload_n hx hb d_X11_about_160 rfl (lv_at hl 0 rfl) ?_
          refine r_getr (r := 415) X hw FL_X11_46 (rfl : KD 400 = _) rfl d_X11_about_161 ?_
          refine lv_iload_n hx hb d_X11_about_164 rfl (lv_at hl 1 rfl) ?_
          refine r_iald X hw (rfl : KD 415 = _) (Rg.vp (b := 19) r5 (by decide)) rfl d_X11_about_165 ?_
          refine lv_topi (fun x20 ex20 => ?_)
          have hG := bnd_use ex20 hG
          exact r_iret X hr hlocks hw hS ⟨rfl, hG.trans eRR.symm⟩ d_X11_about_166
    · exact absurd c6 (by decide)
  · skip
    have hG := g_neg w4n hG
    refine lv_if_ne (tgt := 10) hx hb d_X11_about_5 (by decide) (fun c21 => ?_) (fun c21 => ?_)
    · exact absurd c21 (by decide)
    · refine lv_iconst (v := -1) hx hb d_X11_about_8 (by decide) ?_
      exact r_iret X hr hlocks hw hS ⟨rfl, hG.trans eRR.symm⟩ d_X11_about_9
theorem d_X11_bargain_0 : decode c_X11_bargain 0 = .ok (.iload_n 1, 1) := by decide +kernel
theorem d_X11_bargain_1 : decode c_X11_bargain 1 = .ok (.iconst 0, 1) := by decide +kernel
theorem d_X11_bargain_2 : decode c_X11_bargain 2 = .ok (.aload_n 0, 1) := by decide +kernel
theorem d_X11_bargain_3 : decode c_X11_bargain 3 = .ok (.getfield 243, 3) := by decide +kernel
theorem d_X11_bargain_6 : decode c_X11_bargain 6 = .ok (.iconst 1, 1) := by decide +kernel
theorem d_X11_bargain_7 : decode c_X11_bargain 7 = .ok (.isub, 1) := by decide +kernel
theorem d_X11_bargain_8 : decode c_X11_bargain 8 = .ok (.invokestatic 169, 3) := by decide +kernel
theorem d_X11_bargain_11 : decode c_X11_bargain 11 = .ok (.ifCond .ne 5, 3) := by decide +kernel
theorem d_X11_bargain_14 : decode c_X11_bargain 14 = .ok (.iconst (-1), 1) := by decide +kernel
theorem d_X11_bargain_15 : decode c_X11_bargain 15 = .ok (.ireturn, 1) := by decide +kernel
theorem d_X11_bargain_16 : decode c_X11_bargain 16 = .ok (.iload_n 2, 1) := by decide +kernel
theorem d_X11_bargain_17 : decode c_X11_bargain 17 = .ok (.tableswitch 59 0 3 #[31, 38, 45, 52], 31) := by decide +kernel
theorem d_X11_bargain_48 : decode c_X11_bargain 48 = .ok (.aload_n 0, 1) := by decide +kernel
theorem d_X11_bargain_49 : decode c_X11_bargain 49 = .ok (.getfield 80, 3) := by decide +kernel
theorem d_X11_bargain_52 : decode c_X11_bargain 52 = .ok (.iload_n 1, 1) := by decide +kernel
theorem d_X11_bargain_53 : decode c_X11_bargain 53 = .ok (.iaload, 1) := by decide +kernel
theorem d_X11_bargain_54 : decode c_X11_bargain 54 = .ok (.ireturn, 1) := by decide +kernel
theorem d_X11_bargain_55 : decode c_X11_bargain 55 = .ok (.aload_n 0, 1) := by decide +kernel
theorem d_X11_bargain_56 : decode c_X11_bargain 56 = .ok (.getfield 83, 3) := by decide +kernel
theorem d_X11_bargain_59 : decode c_X11_bargain 59 = .ok (.iload_n 1, 1) := by decide +kernel
theorem d_X11_bargain_60 : decode c_X11_bargain 60 = .ok (.iaload, 1) := by decide +kernel
theorem d_X11_bargain_61 : decode c_X11_bargain 61 = .ok (.ireturn, 1) := by decide +kernel
theorem d_X11_bargain_62 : decode c_X11_bargain 62 = .ok (.aload_n 0, 1) := by decide +kernel
theorem d_X11_bargain_63 : decode c_X11_bargain 63 = .ok (.getfield 86, 3) := by decide +kernel
theorem d_X11_bargain_66 : decode c_X11_bargain 66 = .ok (.iload_n 1, 1) := by decide +kernel
theorem d_X11_bargain_67 : decode c_X11_bargain 67 = .ok (.iaload, 1) := by decide +kernel
theorem d_X11_bargain_68 : decode c_X11_bargain 68 = .ok (.ireturn, 1) := by decide +kernel
theorem d_X11_bargain_69 : decode c_X11_bargain 69 = .ok (.aload_n 0, 1) := by decide +kernel
theorem d_X11_bargain_70 : decode c_X11_bargain 70 = .ok (.getfield 89, 3) := by decide +kernel
theorem d_X11_bargain_73 : decode c_X11_bargain 73 = .ok (.iload_n 1, 1) := by decide +kernel
theorem d_X11_bargain_74 : decode c_X11_bargain 74 = .ok (.iaload, 1) := by decide +kernel
theorem d_X11_bargain_75 : decode c_X11_bargain 75 = .ok (.ireturn, 1) := by decide +kernel
theorem d_X11_bargain_76 : decode c_X11_bargain 76 = .ok (.iconst (-1), 1) := by decide +kernel
theorem d_X11_bargain_77 : decode c_X11_bargain 77 = .ok (.ireturn, 1) := by decide +kernel
def f_X11_bargain_400 (v : tV) (bi : Int32) (wh : Int32) : Int32 := bnd (v 400 27) fun x1 => bnd (x1 - (1 : Int32)) fun x4 => (if (0 : Int32).toInt ≤ bi.toInt ∧ bi.toInt ≤ x4.toInt then (if wh.toInt < 0 ∨ 3 < wh.toInt then (-1 : Int32) else (if wh.toInt = 0 then bnd (v 429 bi.toNatClampNeg) fun x14 => x14 else (if wh.toInt = 1 then bnd (v 430 bi.toNatClampNeg) fun x16 => x16 else (if wh.toInt = 2 then bnd (v 431 bi.toNatClampNeg) fun x17 => x17 else bnd (v 432 bi.toNatClampNeg) fun x18 => x18)))) else (-1 : Int32))
set_option maxHeartbeats 4000000 in
set_option maxRecDepth 100000 in
theorem ct_X11_bargain_400 (l : Launch) (D : va_G) (dA : Nat → ClassId) (ad : Nat → Nat) (v : tV) (hI : Inv v) (bi : Int32) (wh : Int32) : Met l m_X11_bargain [.code m_X11_bargain c_X11_bargain 3 (some .int)] ({ frames := 2, cells := 0, slots := 0, locals := 62 } : Room) (tP D dA ad v [.ref (ad 400), .int bi, .int wh]) (tQi D dA ad (fun r v' => (v' = v) ∧ r = f_X11_bargain_400 v bi wh)) 0 0 (tA ad) := by
  refine tMet (by decide) (Nat.le_of_ble_eq_true rfl) ?_
  intro p e s m below meth c ls X hr hlocks hw hl
  have X : CX p s m ([.ref (ad 400), .int bi, .int wh] : List Value).toArray c c_X11_bargain N_X11 3 D dA := X
  have hx := X.1
  have hb := X.2.1
  have hS : va_S (tA ad) s.heap s.heap [] := va_S.rf
  have hl : lv_has ls 3 [(0, .ref (ad 400)), (1, .int bi), (2, .int wh)] := hl
  obtain ⟨RR, eRR⟩ : ∃ z, f_X11_bargain_400 v bi wh = z := ⟨_, rfl⟩
  have hG := eRR
  unfold f_X11_bargain_400 at hG
  refine lv_iload_n hx hb d_X11_bargain_0 rfl (lv_at hl 1 rfl) ?_
  refine lv_iconst (v := 0) hx hb d_X11_bargain_1 (by decide) ?_
  refine lv_aload_n hx hb d_X11_bargain_2 rfl (lv_at hl 0 rfl) ?_
  refine r_geti X hw FL_X11_243 (rfl : KD 400 = _) rfl d_X11_bargain_3 ?_
  refine lv_topi (fun x1 ex1 => ?_)
  have hG := bnd_use ex1 hG
  have r2 : Rg x1 0 200 := by rw [ex1]; exact hI _ _ _ _ rfl
  have hm3 : v 400 27 = x1 := ex1.symm
  refine lv_iconst (v := 1) hx hb d_X11_bargain_6 (by decide) ?_
  refine lv_isub hx hb d_X11_bargain_7 ?_
  refine lv_topi (fun x4 ex4 => ?_)
  have hG := bnd_use ex4 hG
  have r5 : Rg x4 (-1) 199 := rg_sub ex4 r2 (⟨by decide, by decide⟩ : Rg 1 1 1) (by decide) (by decide)
  have s6 : x4.toInt = x1.toInt - (1 : Int32).toInt := by rw [ex4]; exact i_sub (by obtain ⟨_, _⟩ := r2; obtain ⟨_, _⟩ := (⟨by decide, by decide⟩ : Rg 1 1 1); omega) (by obtain ⟨_, _⟩ := r2; obtain ⟨_, _⟩ := (⟨by decide, by decide⟩ : Rg 1 1 1); omega)
  have s6l : (1 : Int32).toInt = 1 := rfl
  refine r_ci (r_runS (n := 3) (As := [.int bi, .int 0, .int x4]) (rest := []) X hw (ct_X11_in l D dA ad v hI bi 0 x4) gc_X11_169 (by decide +kernel) ⟨rfl, rfl, Nat.le_of_ble_eq_true rfl, Nat.le_of_ble_eq_true rfl⟩ rfl hl.1 rfl (Nat.le_of_ble_eq_true rfl) ⟨Nat.zero_le _, Nat.zero_le _⟩ d_X11_bargain_8) hS (fun x8 v9 H locs hp7 hw hS => ?_)
  obtain ⟨ev9, hp7⟩ := hp7
  rw [ev9] at hw
  rcases hp7 with ⟨rfl, w10a, w10b⟩ | ⟨rfl, w10n⟩
  · skip
    have hG := g_pos ⟨w10a, w10b⟩ hG
    have r11 : Rg bi 0 199 := by obtain ⟨_, _⟩ := (rg_any bi); have : (0 : Int32).toInt = 0 := rfl; obtain ⟨_, _⟩ := r5; exact ⟨by omega, by omega⟩
    refine lv_if_ne (tgt := 16) hx hb d_X11_bargain_11 (by decide) (fun c12 => ?_) (fun c12 => ?_)
    · refine lv_iload_n hx hb d_X11_bargain_16 rfl (lv_at hl 2 rfl) ?_
      by_cases c13 : wh.toInt < 0 ∨ 3 < wh.toInt
      · refine lv_tableOut (tgt := 76) hx hb d_X11_bargain_17 c13 (by decide) ?_
        have hG := g_pos c13 hG
        refine lv_iconst (v := -1) hx hb d_X11_bargain_76 (by decide) ?_
        exact r_iret X hr hlocks hw hS ⟨rfl, hG.trans eRR.symm⟩ d_X11_bargain_77
      · have c13b : wh.toInt = 0 ∨ wh.toInt = 1 ∨ wh.toInt = 2 ∨ wh.toInt = 3 := by omega
        have hG := g_neg c13 hG
        rcases c13b with c13e | c13e | c13e | c13e
        · refine lv_tableIn (off := 31) (tgt := 48) hx hb d_X11_bargain_17 (by omega) (by omega) (by rw [c13e]; rfl) (by decide) ?_
          have hG := g_pos c13e hG
          refine lv_aload_n hx hb d_X11_bargain_48 rfl (lv_at hl 0 rfl) ?_
          refine r_getr (r := 429) X hw FL_X11_80 (rfl : KD 400 = _) rfl d_X11_bargain_49 ?_
          refine lv_iload_n hx hb d_X11_bargain_52 rfl (lv_at hl 1 rfl) ?_
          refine r_iald X hw (rfl : KD 429 = _) (Rg.vp (b := 199) r11 (by decide)) rfl d_X11_bargain_53 ?_
          refine lv_topi (fun x14 ex14 => ?_)
          have hG := bnd_use ex14 hG
          have r15 : Rg x14 0 19 := by rw [ex14]; exact hI _ _ _ _ rfl
          exact r_iret X hr hlocks hw hS ⟨rfl, hG.trans eRR.symm⟩ d_X11_bargain_54
        · refine lv_tableIn (off := 38) (tgt := 55) hx hb d_X11_bargain_17 (by omega) (by omega) (by rw [c13e]; rfl) (by decide) ?_
          have hG := g_neg (by omega) hG
          have hG := g_pos c13e hG
          refine lv_aload_n hx hb d_X11_bargain_55 rfl (lv_at hl 0 rfl) ?_
          refine r_getr (r := 430) X hw FL_X11_83 (rfl : KD 400 = _) rfl d_X11_bargain_56 ?_
          refine lv_iload_n hx hb d_X11_bargain_59 rfl (lv_at hl 1 rfl) ?_
          refine r_iald X hw (rfl : KD 430 = _) (Rg.vp (b := 199) r11 (by decide)) rfl d_X11_bargain_60 ?_
          refine lv_topi (fun x16 ex16 => ?_)
          have hG := bnd_use ex16 hG
          exact r_iret X hr hlocks hw hS ⟨rfl, hG.trans eRR.symm⟩ d_X11_bargain_61
        · refine lv_tableIn (off := 45) (tgt := 62) hx hb d_X11_bargain_17 (by omega) (by omega) (by rw [c13e]; rfl) (by decide) ?_
          have hG := g_neg (by omega) hG
          have hG := g_neg (by omega) hG
          have hG := g_pos c13e hG
          refine lv_aload_n hx hb d_X11_bargain_62 rfl (lv_at hl 0 rfl) ?_
          refine r_getr (r := 431) X hw FL_X11_86 (rfl : KD 400 = _) rfl d_X11_bargain_63 ?_
          refine lv_iload_n hx hb d_X11_bargain_66 rfl (lv_at hl 1 rfl) ?_
          refine r_iald X hw (rfl : KD 431 = _) (Rg.vp (b := 199) r11 (by decide)) rfl d_X11_bargain_67 ?_
          refine lv_topi (fun x17 ex17 => ?_)
          have hG := bnd_use ex17 hG
          exact r_iret X hr hlocks hw hS ⟨rfl, hG.trans eRR.symm⟩ d_X11_bargain_68
        · refine lv_tableIn (off := 52) (tgt := 69) hx hb d_X11_bargain_17 (by omega) (by omega) (by rw [c13e]; rfl) (by decide) ?_
          have hG := g_neg (by omega) hG
          have hG := g_neg (by omega) hG
          have hG := g_neg (by omega) hG
          refine lv_aload_n hx hb d_X11_bargain_69 rfl (lv_at hl 0 rfl) ?_
          refine r_getr (r := 432) X hw FL_X11_89 (rfl : KD 400 = _) rfl d_X11_bargain_70 ?_
          refine lv_iload_n hx hb d_X11_bargain_73 rfl (lv_at hl 1 rfl) ?_
          refine r_iald X hw (rfl : KD 432 = _) (Rg.vp (b := 199) r11 (by decide)) rfl d_X11_bargain_74 ?_
          refine lv_topi (fun x18 ex18 => ?_)
          have hG := bnd_use ex18 hG
          exact r_iret X hr hlocks hw hS ⟨rfl, hG.trans eRR.symm⟩ d_X11_bargain_75
    · exact absurd c12 (by decide)
  · skip
    have hG := g_neg w10n hG
    refine lv_if_ne (tgt := 16) hx hb d_X11_bargain_11 (by decide) (fun c19 => ?_) (fun c19 => ?_)
    · exact absurd c19 (by decide)
    · refine lv_iconst (v := -1) hx hb d_X11_bargain_14 (by decide) ?_
      exact r_iret X hr hlocks hw hS ⟨rfl, hG.trans eRR.symm⟩ d_X11_bargain_15
theorem d_X11_measure_0 : decode c_X11_measure 0 = .ok (.iload_n 1, 1) := by decide +kernel
theorem d_X11_measure_1 : decode c_X11_measure 1 = .ok (.iconst 1, 1) := by decide +kernel
theorem d_X11_measure_2 : decode c_X11_measure 2 = .ok (.iload_n 2, 1) := by decide +kernel
theorem d_X11_measure_3 : decode c_X11_measure 3 = .ok (.invokestatic 169, 3) := by decide +kernel
theorem d_X11_measure_6 : decode c_X11_measure 6 = .ok (.ifCond .eq 9, 3) := by decide +kernel
theorem d_X11_measure_9 : decode c_X11_measure 9 = .ok (.iload_n 2, 1) := by decide +kernel
theorem d_X11_measure_10 : decode c_X11_measure 10 = .ok (.bipush 99, 2) := by decide +kernel
theorem d_X11_measure_12 : decode c_X11_measure 12 = .ok (.if_icmp .le 6, 3) := by decide +kernel
theorem d_X11_measure_15 : decode c_X11_measure 15 = .ok (.bipush (-2), 2) := by decide +kernel
theorem d_X11_measure_17 : decode c_X11_measure 17 = .ok (.ireturn, 1) := by decide +kernel
theorem d_X11_measure_18 : decode c_X11_measure 18 = .ok (.aload_n 0, 1) := by decide +kernel
theorem d_X11_measure_19 : decode c_X11_measure 19 = .ok (.iload_n 1, 1) := by decide +kernel
theorem d_X11_measure_20 : decode c_X11_measure 20 = .ok (.putfield 157, 3) := by decide +kernel
theorem d_X11_measure_23 : decode c_X11_measure 23 = .ok (.aload_n 0, 1) := by decide +kernel
theorem d_X11_measure_24 : decode c_X11_measure 24 = .ok (.iload_n 2, 1) := by decide +kernel
theorem d_X11_measure_25 : decode c_X11_measure 25 = .ok (.putfield 160, 3) := by decide +kernel
theorem d_X11_measure_28 : decode c_X11_measure 28 = .ok (.iconst 0, 1) := by decide +kernel
theorem d_X11_measure_29 : decode c_X11_measure 29 = .ok (.ireturn, 1) := by decide +kernel
def kp_X11_measure_400 (lo : Int32) (hi : Int32) (a j : Nat) : Prop := (a ≠ 400 ∨ (j ≠ 65 ∧ j ≠ 66))
def f_X11_measure_400 (v : tV) (lo : Int32) (hi : Int32) : Int32 × tV := (if (1 : Int32).toInt ≤ lo.toInt ∧ lo.toInt ≤ hi.toInt then (if hi ≤ (99 : Int32) then bnd (up2 v 400 65 lo) fun v10 => bnd (up2 v10 400 66 hi) fun v13 => ((0 : Int32), v13) else ((-2 : Int32), v)) else ((-2 : Int32), v))
set_option maxHeartbeats 4000000 in
set_option maxRecDepth 100000 in
theorem ct_X11_measure_400 (l : Launch) (D : va_G) (dA : Nat → ClassId) (ad : Nat → Nat) (v : tV) (hI : Inv v) (lo : Int32) (hi : Int32) : Met l m_X11_measure [.code m_X11_measure c_X11_measure 3 (some .int)] ({ frames := 2, cells := 0, slots := 0, locals := 62 } : Room) (tP D dA ad v [.ref (ad 400), .int lo, .int hi]) (tQi D dA ad (fun r v' => (Inv v' ∧ Kp (kp_X11_measure_400 lo hi) v v' ∧ r = (if lo.toInt < 1 ∨ hi.toInt < lo.toInt ∨ 99 < hi.toInt then -2 else 0)) ∧ (r, v') = f_X11_measure_400 v lo hi)) 0 0 (tA ad) := by
  refine tMet (by decide) (Nat.le_of_ble_eq_true rfl) ?_
  intro p e s m below meth c ls X hr hlocks hw hl
  have X : CX p s m ([.ref (ad 400), .int lo, .int hi] : List Value).toArray c c_X11_measure N_X11 3 D dA := X
  have hx := X.1
  have hb := X.2.1
  have hS : va_S (tA ad) s.heap s.heap [] := va_S.rf
  have hl : lv_has ls 3 [(0, .ref (ad 400)), (1, .int lo), (2, .int hi)] := hl
  obtain ⟨RR, eRR⟩ : ∃ z, f_X11_measure_400 v lo hi = z := ⟨_, rfl⟩
  have hK0 : Kp (kp_X11_measure_400 lo hi) v v := Kp.rf _ v
  have hG := eRR
  unfold f_X11_measure_400 at hG
  refine lv_iload_n hx hb d_X11_measure_0 rfl (lv_at hl 1 rfl) ?_
  refine lv_iconst (v := 1) hx hb d_X11_measure_1 (by decide) ?_
  refine lv_iload_n hx hb d_X11_measure_2 rfl (lv_at hl 2 rfl) ?_
  refine r_ci (r_runS (n := 3) (As := [.int lo, .int 1, .int hi]) (rest := []) X hw (ct_X11_in l D dA ad v hI lo 1 hi) gc_X11_169 (by decide +kernel) ⟨rfl, rfl, Nat.le_of_ble_eq_true rfl, Nat.le_of_ble_eq_true rfl⟩ rfl hl.1 rfl (Nat.le_of_ble_eq_true rfl) ⟨Nat.zero_le _, Nat.zero_le _⟩ d_X11_measure_3) hS (fun x2 v3 H locs hp1 hw hS => ?_)
  obtain ⟨ev3, hp1⟩ := hp1
  rw [ev3] at hw
  rcases hp1 with ⟨rfl, w4a, w4b⟩ | ⟨rfl, w4n⟩
  · skip
    have hG := g_pos ⟨w4a, w4b⟩ hG
    have r5 : Rg lo 1 2147483647 := by obtain ⟨_, _⟩ := (rg_any lo); have : (1 : Int32).toInt = 1 := rfl; exact ⟨by omega, by omega⟩
    refine lv_if_eq (tgt := 15) hx hb d_X11_measure_6 (by decide) (fun c6 => ?_) (fun c6 => ?_)
    · exact absurd c6 (by decide)
    · refine lv_iload_n hx hb d_X11_measure_9 rfl (lv_at hl 2 rfl) ?_
      refine lv_bipush (v := 99) hx hb d_X11_measure_10 (by decide) ?_
      refine lv_icmp_le (tgt := 18) hx hb d_X11_measure_12 (by decide) (fun c7 => ?_) (fun c7 => ?_)
      · have f8 := i_le c7
        have r9 : Rg hi (-2147483648) 99 := by obtain ⟨a1, a2⟩ := (rg_any hi); obtain ⟨b1, b2⟩ := (⟨by decide, by decide⟩ : Rg 99 99 99); have f := i_le c7; exact ⟨by omega, by omega⟩
        have hG := g_pos c7 hG
        refine lv_aload_n hx hb d_X11_measure_18 rfl (lv_at hl 0 rfl) ?_
        refine lv_iload_n hx hb d_X11_measure_19 rfl (lv_at hl 1 rfl) ?_
        refine r_put X hw hS FP_X11_157 (rfl : KD 400 = _) rfl ⟨rfl, rfl⟩ d_X11_measure_20 (fun H locs hw hS => ?_)
        obtain ⟨v10, ev10⟩ : ∃ z, z = up2 v 400 65 lo := ⟨_, rfl⟩
        rw [← ev10] at hw
        have hG := bnd_use ev10 hG
        have hI11 : Inv v10 := by rw [ev10]; exact Inv.put0 hI _ rfl
        have hK12 : Kp (kp_X11_measure_400 lo hi) v v10 := by rw [ev10]; exact Kp.put hK0 _ (by unfold kp_X11_measure_400; omega)
        refine lv_aload_n hx hb d_X11_measure_23 rfl (lv_at hl 0 rfl) ?_
        refine lv_iload_n hx hb d_X11_measure_24 rfl (lv_at hl 2 rfl) ?_
        refine r_put X hw hS FP_X11_160 (rfl : KD 400 = _) rfl ⟨rfl, rfl⟩ d_X11_measure_25 (fun H locs hw hS => ?_)
        obtain ⟨v13, ev13⟩ : ∃ z, z = up2 v10 400 66 hi := ⟨_, rfl⟩
        rw [← ev13] at hw
        have hG := bnd_use ev13 hG
        have hI14 : Inv v13 := by rw [ev13]; exact Inv.put0 hI11 _ rfl
        have hK15 : Kp (kp_X11_measure_400 lo hi) v v13 := by rw [ev13]; exact Kp.put hK12 _ (by unfold kp_X11_measure_400; omega)
        refine lv_iconst (v := 0) hx hb d_X11_measure_28 (by decide) ?_
        exact r_iret X hr hlocks hw hS ⟨⟨hI14, hK15, by have : (1 : Int32).toInt = 1 := rfl; have : (99 : Int32).toInt = 99 := rfl; first | (rw [if_pos (by omega)]; done) | rw [if_neg (by omega)]⟩, hG.trans eRR.symm⟩ d_X11_measure_29
      · have f16 := i_nle c7
        have r17 : Rg hi 100 2147483647 := by obtain ⟨a1, a2⟩ := (rg_any hi); obtain ⟨b1, b2⟩ := (⟨by decide, by decide⟩ : Rg 99 99 99); have f := i_nle c7; exact ⟨by omega, by omega⟩
        have hG := g_neg c7 hG
        refine lv_bipush (v := -2) hx hb d_X11_measure_15 (by decide) ?_
        exact r_iret X hr hlocks hw hS ⟨⟨hI, hK0, by have : (1 : Int32).toInt = 1 := rfl; have : (99 : Int32).toInt = 99 := rfl; first | (rw [if_pos (by omega)]; done) | rw [if_neg (by omega)]⟩, hG.trans eRR.symm⟩ d_X11_measure_17
  · skip
    have hG := g_neg w4n hG
    refine lv_if_eq (tgt := 15) hx hb d_X11_measure_6 (by decide) (fun c18 => ?_) (fun c18 => ?_)
    · refine lv_bipush (v := -2) hx hb d_X11_measure_15 (by decide) ?_
      exact r_iret X hr hlocks hw hS ⟨⟨hI, hK0, by have : (1 : Int32).toInt = 1 := rfl; have : (99 : Int32).toInt = 99 := rfl; first | (rw [if_pos (by omega)]; done) | rw [if_neg (by omega)]⟩, hG.trans eRR.symm⟩ d_X11_measure_17
    · exact absurd c18 (by decide)
theorem d_X11_weighed_0 : decode c_X11_weighed 0 = .ok (.aload_n 0, 1) := by decide +kernel
theorem d_X11_weighed_1 : decode c_X11_weighed 1 = .ok (.iload_n 1, 1) := by decide +kernel
theorem d_X11_weighed_2 : decode c_X11_weighed 2 = .ok (.invokevirtual 176, 3) := by decide +kernel
theorem d_X11_weighed_5 : decode c_X11_weighed 5 = .ok (.ifCond .eq 13, 3) := by decide +kernel
theorem d_X11_weighed_8 : decode c_X11_weighed 8 = .ok (.iload 4, 2) := by decide +kernel
theorem d_X11_weighed_10 : decode c_X11_weighed 10 = .ok (.iconst 0, 1) := by decide +kernel
theorem d_X11_weighed_11 : decode c_X11_weighed 11 = .ok (.iconst 2, 1) := by decide +kernel
theorem d_X11_weighed_12 : decode c_X11_weighed 12 = .ok (.invokestatic 169, 3) := by decide +kernel
theorem d_X11_weighed_15 : decode c_X11_weighed 15 = .ok (.ifCond .ne 5, 3) := by decide +kernel
theorem d_X11_weighed_18 : decode c_X11_weighed 18 = .ok (.iconst (-1), 1) := by decide +kernel
theorem d_X11_weighed_19 : decode c_X11_weighed 19 = .ok (.ireturn, 1) := by decide +kernel
theorem d_X11_weighed_20 : decode c_X11_weighed 20 = .ok (.iload_n 2, 1) := by decide +kernel
theorem d_X11_weighed_21 : decode c_X11_weighed 21 = .ok (.iconst 0, 1) := by decide +kernel
theorem d_X11_weighed_22 : decode c_X11_weighed 22 = .ok (.aload_n 0, 1) := by decide +kernel
theorem d_X11_weighed_23 : decode c_X11_weighed 23 = .ok (.getfield 16, 3) := by decide +kernel
theorem d_X11_weighed_26 : decode c_X11_weighed 26 = .ok (.iload_n 1, 1) := by decide +kernel
theorem d_X11_weighed_27 : decode c_X11_weighed 27 = .ok (.iaload, 1) := by decide +kernel
theorem d_X11_weighed_28 : decode c_X11_weighed 28 = .ok (.invokestatic 169, 3) := by decide +kernel
theorem d_X11_weighed_31 : decode c_X11_weighed 31 = .ok (.ifCond .eq 22, 3) := by decide +kernel
theorem d_X11_weighed_34 : decode c_X11_weighed 34 = .ok (.iload_n 3, 1) := by decide +kernel
theorem d_X11_weighed_35 : decode c_X11_weighed 35 = .ok (.iload_n 2, 1) := by decide +kernel
theorem d_X11_weighed_36 : decode c_X11_weighed 36 = .ok (.aload_n 0, 1) := by decide +kernel
theorem d_X11_weighed_37 : decode c_X11_weighed 37 = .ok (.getfield 157, 3) := by decide +kernel
theorem d_X11_weighed_40 : decode c_X11_weighed 40 = .ok (.imul, 1) := by decide +kernel
theorem d_X11_weighed_41 : decode c_X11_weighed 41 = .ok (.iload_n 2, 1) := by decide +kernel
theorem d_X11_weighed_42 : decode c_X11_weighed 42 = .ok (.aload_n 0, 1) := by decide +kernel
theorem d_X11_weighed_43 : decode c_X11_weighed 43 = .ok (.getfield 160, 3) := by decide +kernel
theorem d_X11_weighed_46 : decode c_X11_weighed 46 = .ok (.imul, 1) := by decide +kernel
theorem d_X11_weighed_47 : decode c_X11_weighed 47 = .ok (.invokestatic 169, 3) := by decide +kernel
theorem d_X11_weighed_50 : decode c_X11_weighed 50 = .ok (.ifCond .ne 6, 3) := by decide +kernel
theorem d_X11_weighed_53 : decode c_X11_weighed 53 = .ok (.bipush (-2), 2) := by decide +kernel
theorem d_X11_weighed_55 : decode c_X11_weighed 55 = .ok (.ireturn, 1) := by decide +kernel
theorem d_X11_weighed_56 : decode c_X11_weighed 56 = .ok (.iload_n 3, 1) := by decide +kernel
theorem d_X11_weighed_57 : decode c_X11_weighed 57 = .ok (.aload_n 0, 1) := by decide +kernel
theorem d_X11_weighed_58 : decode c_X11_weighed 58 = .ok (.getfield 16, 3) := by decide +kernel
theorem d_X11_weighed_61 : decode c_X11_weighed 61 = .ok (.iload_n 1, 1) := by decide +kernel
theorem d_X11_weighed_62 : decode c_X11_weighed 62 = .ok (.iaload, 1) := by decide +kernel
theorem d_X11_weighed_63 : decode c_X11_weighed 63 = .ok (.iload_n 2, 1) := by decide +kernel
theorem d_X11_weighed_64 : decode c_X11_weighed 64 = .ok (.isub, 1) := by decide +kernel
theorem d_X11_weighed_65 : decode c_X11_weighed 65 = .ok (.aload_n 0, 1) := by decide +kernel
theorem d_X11_weighed_66 : decode c_X11_weighed 66 = .ok (.getfield 157, 3) := by decide +kernel
theorem d_X11_weighed_69 : decode c_X11_weighed 69 = .ok (.imul, 1) := by decide +kernel
theorem d_X11_weighed_70 : decode c_X11_weighed 70 = .ok (.iadd, 1) := by decide +kernel
theorem d_X11_weighed_71 : decode c_X11_weighed 71 = .ok (.istore 5, 2) := by decide +kernel
theorem d_X11_weighed_73 : decode c_X11_weighed 73 = .ok (.iload_n 3, 1) := by decide +kernel
theorem d_X11_weighed_74 : decode c_X11_weighed 74 = .ok (.aload_n 0, 1) := by decide +kernel
theorem d_X11_weighed_75 : decode c_X11_weighed 75 = .ok (.getfield 16, 3) := by decide +kernel
theorem d_X11_weighed_78 : decode c_X11_weighed 78 = .ok (.iload_n 1, 1) := by decide +kernel
theorem d_X11_weighed_79 : decode c_X11_weighed 79 = .ok (.iaload, 1) := by decide +kernel
theorem d_X11_weighed_80 : decode c_X11_weighed 80 = .ok (.iload_n 2, 1) := by decide +kernel
theorem d_X11_weighed_81 : decode c_X11_weighed 81 = .ok (.isub, 1) := by decide +kernel
theorem d_X11_weighed_82 : decode c_X11_weighed 82 = .ok (.aload_n 0, 1) := by decide +kernel
theorem d_X11_weighed_83 : decode c_X11_weighed 83 = .ok (.getfield 160, 3) := by decide +kernel
theorem d_X11_weighed_86 : decode c_X11_weighed 86 = .ok (.imul, 1) := by decide +kernel
theorem d_X11_weighed_87 : decode c_X11_weighed 87 = .ok (.iadd, 1) := by decide +kernel
theorem d_X11_weighed_88 : decode c_X11_weighed 88 = .ok (.istore 6, 2) := by decide +kernel
theorem d_X11_weighed_90 : decode c_X11_weighed 90 = .ok (.iload 4, 2) := by decide +kernel
theorem d_X11_weighed_92 : decode c_X11_weighed 92 = .ok (.ifCond .ne 8, 3) := by decide +kernel
theorem d_X11_weighed_95 : decode c_X11_weighed 95 = .ok (.iload 5, 2) := by decide +kernel
theorem d_X11_weighed_97 : decode c_X11_weighed 97 = .ok (.goto 33, 3) := by decide +kernel
theorem d_X11_weighed_100 : decode c_X11_weighed 100 = .ok (.iload 4, 2) := by decide +kernel
theorem d_X11_weighed_102 : decode c_X11_weighed 102 = .ok (.iconst 1, 1) := by decide +kernel
theorem d_X11_weighed_103 : decode c_X11_weighed 103 = .ok (.if_icmp .ne 8, 3) := by decide +kernel
theorem d_X11_weighed_106 : decode c_X11_weighed 106 = .ok (.iload 6, 2) := by decide +kernel
theorem d_X11_weighed_108 : decode c_X11_weighed 108 = .ok (.goto 22, 3) := by decide +kernel
theorem d_X11_weighed_111 : decode c_X11_weighed 111 = .ok (.iload 6, 2) := by decide +kernel
theorem d_X11_weighed_113 : decode c_X11_weighed 113 = .ok (.bipush 24, 2) := by decide +kernel
theorem d_X11_weighed_115 : decode c_X11_weighed 115 = .ok (.aload_n 0, 1) := by decide +kernel
theorem d_X11_weighed_116 : decode c_X11_weighed 116 = .ok (.getfield 16, 3) := by decide +kernel
theorem d_X11_weighed_119 : decode c_X11_weighed 119 = .ok (.iload_n 1, 1) := by decide +kernel
theorem d_X11_weighed_120 : decode c_X11_weighed 120 = .ok (.iaload, 1) := by decide +kernel
theorem d_X11_weighed_121 : decode c_X11_weighed 121 = .ok (.imul, 1) := by decide +kernel
theorem d_X11_weighed_122 : decode c_X11_weighed 122 = .ok (.if_icmp .ge 7, 3) := by decide +kernel
theorem d_X11_weighed_125 : decode c_X11_weighed 125 = .ok (.iconst 1, 1) := by decide +kernel
theorem d_X11_weighed_126 : decode c_X11_weighed 126 = .ok (.goto 4, 3) := by decide +kernel
theorem d_X11_weighed_129 : decode c_X11_weighed 129 = .ok (.iconst 0, 1) := by decide +kernel
theorem d_X11_weighed_130 : decode c_X11_weighed 130 = .ok (.ireturn, 1) := by decide +kernel
def f_X11_weighed_400 (v : tV) (si : Int32) (kk : Int32) (we : Int32) (wh : Int32) : Int32 := (if 0 ≤ si.toInt ∧ si.toInt ≤ (v 400 1).toInt - 1 then (if (0 : Int32).toInt ≤ wh.toInt ∧ wh.toInt ≤ (2 : Int32).toInt then bnd (v 405 si.toNatClampNeg) fun x13 => (if (0 : Int32).toInt ≤ kk.toInt ∧ kk.toInt ≤ x13.toInt then bnd (v 400 65) fun x20 => bnd (kk * x20) fun x21 => bnd (v 400 66) fun x22 => bnd (kk * x22) fun x23 => (if x21.toInt ≤ we.toInt ∧ we.toInt ≤ x23.toInt then bnd (v 405 si.toNatClampNeg) fun x30 => bnd (x30 - kk) fun x31 => bnd (v 400 65) fun x32 => bnd (x31 * x32) fun x33 => bnd (we + x33) fun x34 => bnd (v 405 si.toNatClampNeg) fun x35 => bnd (x35 - kk) fun x36 => bnd (v 400 66) fun x37 => bnd (x36 * x37) fun x38 => bnd (we + x38) fun x39 => (if wh = (0 : Int32) then x34 else (if wh = (1 : Int32) then x39 else bnd (v 405 si.toNatClampNeg) fun x46 => bnd ((24 : Int32) * x46) fun x47 => (if x47 ≤ x39 then (0 : Int32) else (1 : Int32)))) else (-2 : Int32)) else (-2 : Int32)) else (-1 : Int32)) else (-1 : Int32))
set_option maxHeartbeats 4000000 in
set_option maxRecDepth 100000 in
theorem ct_X11_weighed_400 (l : Launch) (D : va_G) (dA : Nat → ClassId) (ad : Nat → Nat) (v : tV) (hI : Inv v) (si : Int32) (kk : Int32) (we : Int32) (wh : Int32) : Met l m_X11_weighed [.code m_X11_weighed c_X11_weighed 7 (some .int)] ({ frames := 3, cells := 0, slots := 0, locals := 83 } : Room) (tP D dA ad v [.ref (ad 400), .int si, .int kk, .int we, .int wh]) (tQi D dA ad (fun r v' => (v' = v) ∧ r = f_X11_weighed_400 v si kk we wh)) 0 0 (tA ad) := by
  refine tMet (by decide) (Nat.le_of_ble_eq_true rfl) ?_
  intro p e s m below meth c ls X hr hlocks hw hl
  have X : CX p s m ([.ref (ad 400), .int si, .int kk, .int we, .int wh] : List Value).toArray c c_X11_weighed N_X11 7 D dA := X
  have hx := X.1
  have hb := X.2.1
  have hS : va_S (tA ad) s.heap s.heap [] := va_S.rf
  have hl : lv_has ls 7 [(0, .ref (ad 400)), (1, .int si), (2, .int kk), (3, .int we), (4, .int wh)] := hl
  obtain ⟨RR, eRR⟩ : ∃ z, f_X11_weighed_400 v si kk we wh = z := ⟨_, rfl⟩
  have hG := eRR
  unfold f_X11_weighed_400 at hG
  refine lv_aload_n hx hb d_X11_weighed_0 rfl (lv_at hl 0 rfl) ?_
  refine lv_iload_n hx hb d_X11_weighed_1 rfl (lv_at hl 1 rfl) ?_
  refine r_ci (r_runV (n := 1) (As := [.int si]) (rest := []) X hw (ct_X11_isShip_400 l D dA ad v hI si) gc_X11_176 (rfl : KD 400 = _) (by decide) rfl (by decide +kernel) ⟨rfl, rfl, Nat.le_of_ble_eq_true rfl, Nat.le_of_ble_eq_true rfl⟩ rfl hl.1 rfl (Nat.le_of_ble_eq_true rfl) ⟨Nat.zero_le _, Nat.zero_le _⟩ d_X11_weighed_2) hS (fun x2 v3 H locs hp1 hw hS => ?_)
  obtain ⟨ev3, hp1⟩ := hp1
  rw [ev3] at hw
  rcases hp1 with ⟨rfl, w4a, w4b⟩ | ⟨rfl, w4n⟩
  · skip
    have hG := g_pos ⟨w4a, w4b⟩ hG
    have r5 : Rg si 0 19 := by have q := hI 400 1 0 20 rfl; obtain ⟨_, _⟩ := q; obtain ⟨_, _⟩ := (rg_any si); exact ⟨by omega, by omega⟩
    refine lv_if_eq (tgt := 18) hx hb d_X11_weighed_5 (by decide) (fun c6 => ?_) (fun c6 => ?_)
    · exact absurd c6 (by decide)
    · refine lv_iload hx hb d_X11_weighed_8 (lv_at hl 4 rfl) ?_
      refine lv_iconst (v := 0) hx hb d_X11_weighed_10 (by decide) ?_
      refine lv_iconst (v := 2) hx hb d_X11_weighed_11 (by decide) ?_
      refine r_ci (r_runS (n := 3) (As := [.int wh, .int 0, .int 2]) (rest := []) X hw (ct_X11_in l D dA ad v hI wh 0 2) gc_X11_169 (by decide +kernel) ⟨rfl, rfl, Nat.le_of_ble_eq_true rfl, Nat.le_of_ble_eq_true rfl⟩ rfl hl.1 rfl (Nat.le_of_ble_eq_true rfl) ⟨Nat.zero_le _, Nat.zero_le _⟩ d_X11_weighed_12) hS (fun x8 v9 H locs hp7 hw hS => ?_)
      obtain ⟨ev9, hp7⟩ := hp7
      rw [ev9] at hw
      rcases hp7 with ⟨rfl, w10a, w10b⟩ | ⟨rfl, w10n⟩
      · skip
        have hG := g_pos ⟨w10a, w10b⟩ hG
        have r11 : Rg wh 0 2 := by obtain ⟨_, _⟩ := (rg_any wh); have : (0 : Int32).toInt = 0 := rfl; have : (2 : Int32).toInt = 2 := rfl; exact ⟨by omega, by omega⟩
        refine lv_if_ne (tgt := 20) hx hb d_X11_weighed_15 (by decide) (fun c12 => ?_) (fun c12 => ?_)
        · refine lv_iload_n hx hb d_X11_weighed_20 rfl (lv_at hl 2 rfl) ?_
          refine lv_iconst (v := 0) hx hb d_X11_weighed_21 (by decide) ?_
          refine lv_aload_n hx hb d_X11_weighed_22 rfl (lv_at hl 0 rfl) ?_
          refine r_getr (r := 405) X hw FL_X11_16 (rfl : KD 400 = _) rfl d_X11_weighed_23 ?_
          refine lv_iload_n hx hb d_X11_weighed_26 rfl (lv_at hl 1 rfl) ?_
          refine r_iald X hw (rfl : KD 405 = _) (Rg.vp (b := 19) r5 (by decide)) rfl d_X11_weighed_27 ?_
          refine lv_topi (fun x13 ex13 => ?_)
          have hG := bnd_use ex13 hG
          refine r_ci (r_runS (n := 3) (As := [.int kk, .int 0, .int x13]) (rest := []) X hw (ct_X11_in l D dA ad v hI kk 0 x13) gc_X11_169 (by decide +kernel) ⟨rfl, rfl, Nat.le_of_ble_eq_true rfl, Nat.le_of_ble_eq_true rfl⟩ rfl hl.1 rfl (Nat.le_of_ble_eq_true rfl) ⟨Nat.zero_le _, Nat.zero_le _⟩ d_X11_weighed_28) hS (fun x15 v16 H locs hp14 hw hS => ?_)
          obtain ⟨ev16, hp14⟩ := hp14
          rw [ev16] at hw
          rcases hp14 with ⟨rfl, w17a, w17b⟩ | ⟨rfl, w17n⟩
          · skip
            have hG := g_pos ⟨w17a, w17b⟩ hG
            have r18 : Rg kk 0 2147483647 := by obtain ⟨_, _⟩ := (rg_any kk); have : (0 : Int32).toInt = 0 := rfl; exact ⟨by omega, by omega⟩
            refine lv_if_eq (tgt := 53) hx hb d_X11_weighed_31 (by decide) (fun c19 => ?_) (fun c19 => ?_)
            · exact absurd c19 (by decide)
            · refine lv_iload_n hx hb d_X11_weighed_34 rfl (lv_at hl 3 rfl) ?_
              refine lv_iload_n hx hb d_X11_weighed_35 rfl (lv_at hl 2 rfl) ?_
              refine lv_aload_n hx hb d_X11_weighed_36 rfl (lv_at hl 0 rfl) ?_
              refine r_geti X hw FL_X11_157 (rfl : KD 400 = _) rfl d_X11_weighed_37 ?_
              refine lv_topi (fun x20 ex20 => ?_)
              have hG := bnd_use ex20 hG
              refine lv_imul hx hb d_X11_weighed_40 ?_
              refine lv_topi (fun x21 ex21 => ?_)
              have hG := bnd_use ex21 hG
              refine lv_iload_n hx hb d_X11_weighed_41 rfl (lv_at hl 2 rfl) ?_
              refine lv_aload_n hx hb d_X11_weighed_42 rfl (lv_at hl 0 rfl) ?_
              refine r_geti X hw FL_X11_160 (rfl : KD 400 = _) rfl d_X11_weighed_43 ?_
              refine lv_topi (fun x22 ex22 => ?_)
              have hG := bnd_use ex22 hG
              refine lv_imul hx hb d_X11_weighed_46 ?_
              refine lv_topi (fun x23 ex23 => ?_)
              have hG := bnd_use ex23 hG
              refine r_ci (r_runS (n := 3) (As := [.int we, .int x21, .int x23]) (rest := []) X hw (ct_X11_in l D dA ad v hI we x21 x23) gc_X11_169 (by decide +kernel) ⟨rfl, rfl, Nat.le_of_ble_eq_true rfl, Nat.le_of_ble_eq_true rfl⟩ rfl hl.1 rfl (Nat.le_of_ble_eq_true rfl) ⟨Nat.zero_le _, Nat.zero_le _⟩ d_X11_weighed_47) hS (fun x25 v26 H locs hp24 hw hS => ?_)
              obtain ⟨ev26, hp24⟩ := hp24
              rw [ev26] at hw
              rcases hp24 with ⟨rfl, w27a, w27b⟩ | ⟨rfl, w27n⟩
              · skip
                have hG := g_pos ⟨w27a, w27b⟩ hG
                have r28 : Rg we (-2147483648) 2147483647 := by obtain ⟨_, _⟩ := (rg_any we); exact ⟨by omega, by omega⟩
                refine lv_if_ne (tgt := 56) hx hb d_X11_weighed_50 (by decide) (fun c29 => ?_) (fun c29 => ?_)
                · refine lv_iload_n hx hb d_X11_weighed_56 rfl (lv_at hl 3 rfl) ?_
                  refine lv_aload_n hx hb d_X11_weighed_57 rfl (lv_at hl 0 rfl) ?_
                  refine r_getr (r := 405) X hw FL_X11_16 (rfl : KD 400 = _) rfl d_X11_weighed_58 ?_
                  refine lv_iload_n hx hb d_X11_weighed_61 rfl (lv_at hl 1 rfl) ?_
                  refine r_iald X hw (rfl : KD 405 = _) (Rg.vp (b := 19) r5 (by decide)) rfl d_X11_weighed_62 ?_
                  refine lv_topi (fun x30 ex30 => ?_)
                  have hG := bnd_use ex30 hG
                  refine lv_iload_n hx hb d_X11_weighed_63 rfl (lv_at hl 2 rfl) ?_
                  refine lv_isub hx hb d_X11_weighed_64 ?_
                  refine lv_topi (fun x31 ex31 => ?_)
                  have hG := bnd_use ex31 hG
                  refine lv_aload_n hx hb d_X11_weighed_65 rfl (lv_at hl 0 rfl) ?_
                  refine r_geti X hw FL_X11_157 (rfl : KD 400 = _) rfl d_X11_weighed_66 ?_
                  refine lv_topi (fun x32 ex32 => ?_)
                  have hG := bnd_use ex32 hG
                  refine lv_imul hx hb d_X11_weighed_69 ?_
                  refine lv_topi (fun x33 ex33 => ?_)
                  have hG := bnd_use ex33 hG
                  refine lv_iadd hx hb d_X11_weighed_70 ?_
                  refine lv_topi (fun x34 ex34 => ?_)
                  have hG := bnd_use ex34 hG
                  refine lv_istore (lv' := [(5, .int x34), (0, .ref (ad 400)), (1, .int si), (2, .int kk), (3, .int we), (4, .int wh)]) hx hb d_X11_weighed_71 hl (by decide) rfl (fun ls hl => ?_)
                  refine lv_iload_n hx hb d_X11_weighed_73 rfl (lv_at hl 4 rfl) ?_
                  refine lv_aload_n hx hb d_X11_weighed_74 rfl (lv_at hl 1 rfl) ?_
                  refine r_getr (r := 405) X hw FL_X11_16 (rfl : KD 400 = _) rfl d_X11_weighed_75 ?_
                  refine lv_iload_n hx hb d_X11_weighed_78 rfl (lv_at hl 2 rfl) ?_
                  refine r_iald X hw (rfl : KD 405 = _) (Rg.vp (b := 19) r5 (by decide)) rfl d_X11_weighed_79 ?_
                  refine lv_topi (fun x35 ex35 => ?_)
                  have hG := bnd_use ex35 hG
                  refine lv_iload_n hx hb d_X11_weighed_80 rfl (lv_at hl 3 rfl) ?_
                  refine lv_isub hx hb d_X11_weighed_81 ?_
                  refine lv_topi (fun x36 ex36 => ?_)
                  have hG := bnd_use ex36 hG
                  refine lv_aload_n hx hb d_X11_weighed_82 rfl (lv_at hl 1 rfl) ?_
                  refine r_geti X hw FL_X11_160 (rfl : KD 400 = _) rfl d_X11_weighed_83 ?_
                  refine lv_topi (fun x37 ex37 => ?_)
                  have hG := bnd_use ex37 hG
                  refine lv_imul hx hb d_X11_weighed_86 ?_
                  refine lv_topi (fun x38 ex38 => ?_)
                  have hG := bnd_use ex38 hG
                  refine lv_iadd hx hb d_X11_weighed_87 ?_
                  refine lv_topi (fun x39 ex39 => ?_)
                  have hG := bnd_use ex39 hG
                  refine lv_istore (lv' := [(6, .int x39), (5, .int x34), (0, .ref (ad 400)), (1, .int si), (2, .int kk), (3, .int we), (4, .int wh)]) hx hb d_X11_weighed_88 hl (by decide) rfl (fun ls hl => ?_)
                  refine lv_iload hx hb d_X11_weighed_90 (lv_at hl 6 rfl) ?_
                  refine lv_if_ne (tgt := 100) hx hb d_X11_weighed_92 (by decide) (fun c40 => ?_) (fun c40 => ?_)
                  · have f41 := i_ne c40
                    have r42 : Rg wh 1 2 := by obtain ⟨a1, a2⟩ := r11; obtain ⟨b1, b2⟩ := (⟨by decide, by decide⟩ : Rg 0 0 0); have f := i_ne c40; exact ⟨by omega, by omega⟩
                    have hG := g_neg c40 hG
                    refine lv_iload hx hb d_X11_weighed_100 (lv_at hl 6 rfl) ?_
                    refine lv_iconst (v := 1) hx hb d_X11_weighed_102 (by decide) ?_
                    refine lv_icmp_ne (tgt := 111) hx hb d_X11_weighed_103 (by decide) (fun c43 => ?_) (fun c43 => ?_)
                    · have f44 := i_ne c43
                      have r45 : Rg wh 2 2 := by obtain ⟨a1, a2⟩ := r42; obtain ⟨b1, b2⟩ := (⟨by decide, by decide⟩ : Rg 1 1 1); have f := i_ne c43; exact ⟨by omega, by omega⟩
                      have hG := g_neg c43 hG
                      refine lv_iload hx hb d_X11_weighed_111 (lv_at hl 0 rfl) ?_
                      refine lv_bipush (v := 24) hx hb d_X11_weighed_113 (by decide) ?_
                      refine lv_aload_n hx hb d_X11_weighed_115 rfl (lv_at hl 2 rfl) ?_
                      refine r_getr (r := 405) X hw FL_X11_16 (rfl : KD 400 = _) rfl d_X11_weighed_116 ?_
                      refine lv_iload_n hx hb d_X11_weighed_119 rfl (lv_at hl 3 rfl) ?_
                      refine r_iald X hw (rfl : KD 405 = _) (Rg.vp (b := 19) r5 (by decide)) rfl d_X11_weighed_120 ?_
                      refine lv_topi (fun x46 ex46 => ?_)
                      have hG := bnd_use ex46 hG
                      refine lv_imul hx hb d_X11_weighed_121 ?_
                      refine lv_topi (fun x47 ex47 => ?_)
                      have hG := bnd_use ex47 hG
                      refine lv_icmp_ge (tgt := 129) hx hb d_X11_weighed_122 (by decide) (fun c48 => ?_) (fun c48 => ?_)
                      · have f49 := i_le c48
                        have hG := g_pos c48 hG
                        refine lv_iconst (v := 0) hx hb d_X11_weighed_129 (by decide) ?_
                        exact r_iret X hr hlocks hw hS ⟨rfl, hG.trans eRR.symm⟩ d_X11_weighed_130
                      · have f50 := i_nle c48
                        have hG := g_neg c48 hG
                        refine lv_iconst (v := 1) hx hb d_X11_weighed_125 (by decide) ?_
                        refine lv_goto (tgt := 130) hx hb d_X11_weighed_126 (by decide) ?_
                        exact r_iret X hr hlocks hw hS ⟨rfl, hG.trans eRR.symm⟩ d_X11_weighed_130
                    · have f51 := i_eq c43
                      have r52 : Rg wh 1 1 := by obtain ⟨a1, a2⟩ := r42; obtain ⟨b1, b2⟩ := (⟨by decide, by decide⟩ : Rg 1 1 1); have f := i_eq c43; exact ⟨by omega, by omega⟩
                      have hG := g_pos c43 hG
                      refine lv_iload hx hb d_X11_weighed_106 (lv_at hl 0 rfl) ?_
                      refine lv_goto (tgt := 130) hx hb d_X11_weighed_108 (by decide) ?_
                      exact r_iret X hr hlocks hw hS ⟨rfl, hG.trans eRR.symm⟩ d_X11_weighed_130
                  · have f53 := i_eq c40
                    have r54 : Rg wh 0 0 := by obtain ⟨a1, a2⟩ := r11; obtain ⟨b1, b2⟩ := (⟨by decide, by decide⟩ : Rg 0 0 0); have f := i_eq c40; exact ⟨by omega, by omega⟩
                    have hG := g_pos c40 hG
                    refine lv_iload hx hb d_X11_weighed_95 (lv_at hl 1 rfl) ?_
                    refine lv_goto (tgt := 130) hx hb d_X11_weighed_97 (by decide) ?_
                    exact r_iret X hr hlocks hw hS ⟨rfl, hG.trans eRR.symm⟩ d_X11_weighed_130
                · exact absurd c29 (by decide)
              · skip
                have hG := g_neg w27n hG
                refine lv_if_ne (tgt := 56) hx hb d_X11_weighed_50 (by decide) (fun c55 => ?_) (fun c55 => ?_)
                · exact absurd c55 (by decide)
                · refine lv_bipush (v := -2) hx hb d_X11_weighed_53 (by decide) ?_
                  exact r_iret X hr hlocks hw hS ⟨rfl, hG.trans eRR.symm⟩ d_X11_weighed_55
          · skip
            have hG := g_neg w17n hG
            refine lv_if_eq (tgt := 53) hx hb d_X11_weighed_31 (by decide) (fun c56 => ?_) (fun c56 => ?_)
            · refine lv_bipush (v := -2) hx hb d_X11_weighed_53 (by decide) ?_
              exact r_iret X hr hlocks hw hS ⟨rfl, hG.trans eRR.symm⟩ d_X11_weighed_55
            · exact absurd c56 (by decide)
        · exact absurd c12 (by decide)
      · skip
        have hG := g_neg w10n hG
        refine lv_if_ne (tgt := 20) hx hb d_X11_weighed_15 (by decide) (fun c57 => ?_) (fun c57 => ?_)
        · exact absurd c57 (by decide)
        · refine lv_iconst (v := -1) hx hb d_X11_weighed_18 (by decide) ?_
          exact r_iret X hr hlocks hw hS ⟨rfl, hG.trans eRR.symm⟩ d_X11_weighed_19
  · skip
    have hG := g_neg w4n hG
    refine lv_if_eq (tgt := 18) hx hb d_X11_weighed_5 (by decide) (fun c58 => ?_) (fun c58 => ?_)
    · refine lv_iconst (v := -1) hx hb d_X11_weighed_18 (by decide) ?_
      exact r_iret X hr hlocks hw hS ⟨rfl, hG.trans eRR.symm⟩ d_X11_weighed_19
    · exact absurd c58 (by decide)
theorem d_X11_ward_0 : decode c_X11_ward 0 = .ok (.iload_n 1, 1) := by decide +kernel
theorem d_X11_ward_1 : decode c_X11_ward 1 = .ok (.invokestatic 184, 3) := by decide +kernel
theorem d_X11_ward_4 : decode c_X11_ward 4 = .ok (.ifCond .ne 5, 3) := by decide +kernel
theorem d_X11_ward_7 : decode c_X11_ward 7 = .ok (.iconst (-1), 1) := by decide +kernel
theorem d_X11_ward_8 : decode c_X11_ward 8 = .ok (.ireturn, 1) := by decide +kernel
theorem d_X11_ward_9 : decode c_X11_ward 9 = .ok (.iload_n 2, 1) := by decide +kernel
theorem d_X11_ward_10 : decode c_X11_ward 10 = .ok (.tableswitch 58 0 3 #[30, 37, 44, 51], 30) := by decide +kernel
theorem d_X11_ward_40 : decode c_X11_ward 40 = .ok (.aload_n 0, 1) := by decide +kernel
theorem d_X11_ward_41 : decode c_X11_ward 41 = .ok (.getfield 61, 3) := by decide +kernel
theorem d_X11_ward_44 : decode c_X11_ward 44 = .ok (.iload_n 1, 1) := by decide +kernel
theorem d_X11_ward_45 : decode c_X11_ward 45 = .ok (.iaload, 1) := by decide +kernel
theorem d_X11_ward_46 : decode c_X11_ward 46 = .ok (.ireturn, 1) := by decide +kernel
theorem d_X11_ward_47 : decode c_X11_ward 47 = .ok (.aload_n 0, 1) := by decide +kernel
theorem d_X11_ward_48 : decode c_X11_ward 48 = .ok (.getfield 64, 3) := by decide +kernel
theorem d_X11_ward_51 : decode c_X11_ward 51 = .ok (.iload_n 1, 1) := by decide +kernel
theorem d_X11_ward_52 : decode c_X11_ward 52 = .ok (.iaload, 1) := by decide +kernel
theorem d_X11_ward_53 : decode c_X11_ward 53 = .ok (.ireturn, 1) := by decide +kernel
theorem d_X11_ward_54 : decode c_X11_ward 54 = .ok (.aload_n 0, 1) := by decide +kernel
theorem d_X11_ward_55 : decode c_X11_ward 55 = .ok (.getfield 67, 3) := by decide +kernel
theorem d_X11_ward_58 : decode c_X11_ward 58 = .ok (.iload_n 1, 1) := by decide +kernel
theorem d_X11_ward_59 : decode c_X11_ward 59 = .ok (.iaload, 1) := by decide +kernel
theorem d_X11_ward_60 : decode c_X11_ward 60 = .ok (.ireturn, 1) := by decide +kernel
theorem d_X11_ward_61 : decode c_X11_ward 61 = .ok (.aload_n 0, 1) := by decide +kernel
theorem d_X11_ward_62 : decode c_X11_ward 62 = .ok (.getfield 70, 3) := by decide +kernel
theorem d_X11_ward_65 : decode c_X11_ward 65 = .ok (.iload_n 1, 1) := by decide +kernel
theorem d_X11_ward_66 : decode c_X11_ward 66 = .ok (.iaload, 1) := by decide +kernel
theorem d_X11_ward_67 : decode c_X11_ward 67 = .ok (.ireturn, 1) := by decide +kernel
theorem d_X11_ward_68 : decode c_X11_ward 68 = .ok (.iconst (-1), 1) := by decide +kernel
theorem d_X11_ward_69 : decode c_X11_ward 69 = .ok (.ireturn, 1) := by decide +kernel
def f_X11_ward_400 (v : tV) (wd : Int32) (wh : Int32) : Int32 := (if 0 ≤ wd.toInt ∧ wd.toInt ≤ 5 then (if wh.toInt < 0 ∨ 3 < wh.toInt then (-1 : Int32) else (if wh.toInt = 0 then bnd (v 421 wd.toNatClampNeg) fun x8 => x8 else (if wh.toInt = 1 then bnd (v 422 wd.toNatClampNeg) fun x9 => x9 else (if wh.toInt = 2 then bnd (v 423 wd.toNatClampNeg) fun x10 => x10 else bnd (v 424 wd.toNatClampNeg) fun x11 => x11)))) else (-1 : Int32))
set_option maxHeartbeats 4000000 in
set_option maxRecDepth 100000 in
theorem ct_X11_ward_400 (l : Launch) (D : va_G) (dA : Nat → ClassId) (ad : Nat → Nat) (v : tV) (hI : Inv v) (wd : Int32) (wh : Int32) : Met l m_X11_ward [.code m_X11_ward c_X11_ward 3 (some .int)] ({ frames := 3, cells := 0, slots := 0, locals := 82 } : Room) (tP D dA ad v [.ref (ad 400), .int wd, .int wh]) (tQi D dA ad (fun r v' => (v' = v) ∧ r = f_X11_ward_400 v wd wh)) 0 0 (tA ad) := by
  refine tMet (by decide) (Nat.le_of_ble_eq_true rfl) ?_
  intro p e s m below meth c ls X hr hlocks hw hl
  have X : CX p s m ([.ref (ad 400), .int wd, .int wh] : List Value).toArray c c_X11_ward N_X11 3 D dA := X
  have hx := X.1
  have hb := X.2.1
  have hS : va_S (tA ad) s.heap s.heap [] := va_S.rf
  have hl : lv_has ls 3 [(0, .ref (ad 400)), (1, .int wd), (2, .int wh)] := hl
  obtain ⟨RR, eRR⟩ : ∃ z, f_X11_ward_400 v wd wh = z := ⟨_, rfl⟩
  have hG := eRR
  unfold f_X11_ward_400 at hG
  refine lv_iload_n hx hb d_X11_ward_0 rfl (lv_at hl 1 rfl) ?_
  refine r_ci (r_runS (n := 1) (As := [.int wd]) (rest := []) X hw (ct_X11_isWard l D dA ad v hI wd) gc_X11_184 (by decide +kernel) ⟨rfl, rfl, Nat.le_of_ble_eq_true rfl, Nat.le_of_ble_eq_true rfl⟩ rfl hl.1 rfl (Nat.le_of_ble_eq_true rfl) ⟨Nat.zero_le _, Nat.zero_le _⟩ d_X11_ward_1) hS (fun x2 v3 H locs hp1 hw hS => ?_)
  obtain ⟨ev3, hp1⟩ := hp1
  rw [ev3] at hw
  rcases hp1 with ⟨rfl, w4a, w4b⟩ | ⟨rfl, w4n⟩
  · skip
    have hG := g_pos ⟨w4a, w4b⟩ hG
    have r5 : Rg wd 0 5 := by obtain ⟨_, _⟩ := (rg_any wd); exact ⟨by omega, by omega⟩
    refine lv_if_ne (tgt := 9) hx hb d_X11_ward_4 (by decide) (fun c6 => ?_) (fun c6 => ?_)
    · refine lv_iload_n hx hb d_X11_ward_9 rfl (lv_at hl 2 rfl) ?_
      by_cases c7 : wh.toInt < 0 ∨ 3 < wh.toInt
      · refine lv_tableOut (tgt := 68) hx hb d_X11_ward_10 c7 (by decide) ?_
        have hG := g_pos c7 hG
        refine lv_iconst (v := -1) hx hb d_X11_ward_68 (by decide) ?_
        exact r_iret X hr hlocks hw hS ⟨rfl, hG.trans eRR.symm⟩ d_X11_ward_69
      · have c7b : wh.toInt = 0 ∨ wh.toInt = 1 ∨ wh.toInt = 2 ∨ wh.toInt = 3 := by omega
        have hG := g_neg c7 hG
        rcases c7b with c7e | c7e | c7e | c7e
        · refine lv_tableIn (off := 30) (tgt := 40) hx hb d_X11_ward_10 (by omega) (by omega) (by rw [c7e]; rfl) (by decide) ?_
          have hG := g_pos c7e hG
          refine lv_aload_n hx hb d_X11_ward_40 rfl (lv_at hl 0 rfl) ?_
          refine r_getr (r := 421) X hw FL_X11_61 (rfl : KD 400 = _) rfl d_X11_ward_41 ?_
          refine lv_iload_n hx hb d_X11_ward_44 rfl (lv_at hl 1 rfl) ?_
          refine r_iald X hw (rfl : KD 421 = _) (Rg.vp (b := 5) r5 (by decide)) rfl d_X11_ward_45 ?_
          refine lv_topi (fun x8 ex8 => ?_)
          have hG := bnd_use ex8 hG
          exact r_iret X hr hlocks hw hS ⟨rfl, hG.trans eRR.symm⟩ d_X11_ward_46
        · refine lv_tableIn (off := 37) (tgt := 47) hx hb d_X11_ward_10 (by omega) (by omega) (by rw [c7e]; rfl) (by decide) ?_
          have hG := g_neg (by omega) hG
          have hG := g_pos c7e hG
          refine lv_aload_n hx hb d_X11_ward_47 rfl (lv_at hl 0 rfl) ?_
          refine r_getr (r := 422) X hw FL_X11_64 (rfl : KD 400 = _) rfl d_X11_ward_48 ?_
          refine lv_iload_n hx hb d_X11_ward_51 rfl (lv_at hl 1 rfl) ?_
          refine r_iald X hw (rfl : KD 422 = _) (Rg.vp (b := 5) r5 (by decide)) rfl d_X11_ward_52 ?_
          refine lv_topi (fun x9 ex9 => ?_)
          have hG := bnd_use ex9 hG
          exact r_iret X hr hlocks hw hS ⟨rfl, hG.trans eRR.symm⟩ d_X11_ward_53
        · refine lv_tableIn (off := 44) (tgt := 54) hx hb d_X11_ward_10 (by omega) (by omega) (by rw [c7e]; rfl) (by decide) ?_
          have hG := g_neg (by omega) hG
          have hG := g_neg (by omega) hG
          have hG := g_pos c7e hG
          refine lv_aload_n hx hb d_X11_ward_54 rfl (lv_at hl 0 rfl) ?_
          refine r_getr (r := 423) X hw FL_X11_67 (rfl : KD 400 = _) rfl d_X11_ward_55 ?_
          refine lv_iload_n hx hb d_X11_ward_58 rfl (lv_at hl 1 rfl) ?_
          refine r_iald X hw (rfl : KD 423 = _) (Rg.vp (b := 5) r5 (by decide)) rfl d_X11_ward_59 ?_
          refine lv_topi (fun x10 ex10 => ?_)
          have hG := bnd_use ex10 hG
          exact r_iret X hr hlocks hw hS ⟨rfl, hG.trans eRR.symm⟩ d_X11_ward_60
        · refine lv_tableIn (off := 51) (tgt := 61) hx hb d_X11_ward_10 (by omega) (by omega) (by rw [c7e]; rfl) (by decide) ?_
          have hG := g_neg (by omega) hG
          have hG := g_neg (by omega) hG
          have hG := g_neg (by omega) hG
          refine lv_aload_n hx hb d_X11_ward_61 rfl (lv_at hl 0 rfl) ?_
          refine r_getr (r := 424) X hw FL_X11_70 (rfl : KD 400 = _) rfl d_X11_ward_62 ?_
          refine lv_iload_n hx hb d_X11_ward_65 rfl (lv_at hl 1 rfl) ?_
          refine r_iald X hw (rfl : KD 424 = _) (Rg.vp (b := 5) r5 (by decide)) rfl d_X11_ward_66 ?_
          refine lv_topi (fun x11 ex11 => ?_)
          have hG := bnd_use ex11 hG
          exact r_iret X hr hlocks hw hS ⟨rfl, hG.trans eRR.symm⟩ d_X11_ward_67
    · exact absurd c6 (by decide)
  · skip
    have hG := g_neg w4n hG
    refine lv_if_ne (tgt := 9) hx hb d_X11_ward_4 (by decide) (fun c12 => ?_) (fun c12 => ?_)
    · exact absurd c12 (by decide)
    · refine lv_iconst (v := -1) hx hb d_X11_ward_7 (by decide) ?_
      exact r_iret X hr hlocks hw hS ⟨rfl, hG.trans eRR.symm⟩ d_X11_ward_8
theorem d_X11_lasts_0 : decode c_X11_lasts 0 = .ok (.iload_n 1, 1) := by decide +kernel
theorem d_X11_lasts_1 : decode c_X11_lasts 1 = .ok (.invokestatic 184, 3) := by decide +kernel
theorem d_X11_lasts_4 : decode c_X11_lasts 4 = .ok (.ifCond .ne 5, 3) := by decide +kernel
theorem d_X11_lasts_7 : decode c_X11_lasts 7 = .ok (.iconst (-1), 1) := by decide +kernel
theorem d_X11_lasts_8 : decode c_X11_lasts 8 = .ok (.ireturn, 1) := by decide +kernel
theorem d_X11_lasts_9 : decode c_X11_lasts 9 = .ok (.iload_n 2, 1) := by decide +kernel
theorem d_X11_lasts_10 : decode c_X11_lasts 10 = .ok (.iconst 0, 1) := by decide +kernel
theorem d_X11_lasts_11 : decode c_X11_lasts 11 = .ok (.iconst 4, 1) := by decide +kernel
theorem d_X11_lasts_12 : decode c_X11_lasts 12 = .ok (.invokestatic 169, 3) := by decide +kernel
theorem d_X11_lasts_15 : decode c_X11_lasts 15 = .ok (.ifCond .ne 6, 3) := by decide +kernel
theorem d_X11_lasts_18 : decode c_X11_lasts 18 = .ok (.bipush (-2), 2) := by decide +kernel
theorem d_X11_lasts_20 : decode c_X11_lasts 20 = .ok (.ireturn, 1) := by decide +kernel
theorem d_X11_lasts_21 : decode c_X11_lasts 21 = .ok (.aload_n 0, 1) := by decide +kernel
theorem d_X11_lasts_22 : decode c_X11_lasts 22 = .ok (.getfield 73, 3) := by decide +kernel
theorem d_X11_lasts_25 : decode c_X11_lasts 25 = .ok (.iconst 5, 1) := by decide +kernel
theorem d_X11_lasts_26 : decode c_X11_lasts 26 = .ok (.iload_n 1, 1) := by decide +kernel
theorem d_X11_lasts_27 : decode c_X11_lasts 27 = .ok (.imul, 1) := by decide +kernel
theorem d_X11_lasts_28 : decode c_X11_lasts 28 = .ok (.iload_n 2, 1) := by decide +kernel
theorem d_X11_lasts_29 : decode c_X11_lasts 29 = .ok (.iadd, 1) := by decide +kernel
theorem d_X11_lasts_30 : decode c_X11_lasts 30 = .ok (.iaload, 1) := by decide +kernel
theorem d_X11_lasts_31 : decode c_X11_lasts 31 = .ok (.istore_n 3, 1) := by decide +kernel
theorem d_X11_lasts_32 : decode c_X11_lasts 32 = .ok (.iload_n 3, 1) := by decide +kernel
theorem d_X11_lasts_33 : decode c_X11_lasts 33 = .ok (.ifCond .eq 17, 3) := by decide +kernel
theorem d_X11_lasts_36 : decode c_X11_lasts 36 = .ok (.aload_n 0, 1) := by decide +kernel
theorem d_X11_lasts_37 : decode c_X11_lasts 37 = .ok (.getfield 61, 3) := by decide +kernel
theorem d_X11_lasts_40 : decode c_X11_lasts 40 = .ok (.iload_n 1, 1) := by decide +kernel
theorem d_X11_lasts_41 : decode c_X11_lasts 41 = .ok (.iaload, 1) := by decide +kernel
theorem d_X11_lasts_42 : decode c_X11_lasts 42 = .ok (.iload_n 3, 1) := by decide +kernel
theorem d_X11_lasts_43 : decode c_X11_lasts 43 = .ok (.idiv, 1) := by decide +kernel
theorem d_X11_lasts_44 : decode c_X11_lasts 44 = .ok (.sipush 1000, 3) := by decide +kernel
theorem d_X11_lasts_47 : decode c_X11_lasts 47 = .ok (.if_icmp .le 9, 3) := by decide +kernel
theorem d_X11_lasts_50 : decode c_X11_lasts 50 = .ok (.sipush 1000, 3) := by decide +kernel
theorem d_X11_lasts_53 : decode c_X11_lasts 53 = .ok (.goto 11, 3) := by decide +kernel
theorem d_X11_lasts_56 : decode c_X11_lasts 56 = .ok (.aload_n 0, 1) := by decide +kernel
theorem d_X11_lasts_57 : decode c_X11_lasts 57 = .ok (.getfield 61, 3) := by decide +kernel
theorem d_X11_lasts_60 : decode c_X11_lasts 60 = .ok (.iload_n 1, 1) := by decide +kernel
theorem d_X11_lasts_61 : decode c_X11_lasts 61 = .ok (.iaload, 1) := by decide +kernel
theorem d_X11_lasts_62 : decode c_X11_lasts 62 = .ok (.iload_n 3, 1) := by decide +kernel
theorem d_X11_lasts_63 : decode c_X11_lasts 63 = .ok (.idiv, 1) := by decide +kernel
theorem d_X11_lasts_64 : decode c_X11_lasts 64 = .ok (.ireturn, 1) := by decide +kernel
def f_X11_lasts_400 (v : tV) (wd : Int32) (co : Int32) : Int32 := (if 0 ≤ wd.toInt ∧ wd.toInt ≤ 5 then (if (0 : Int32).toInt ≤ co.toInt ∧ co.toInt ≤ (4 : Int32).toInt then bnd ((5 : Int32) * wd) fun x13 => bnd (x13 + co) fun x16 => bnd (v 425 x16.toNatClampNeg) fun x19 => (if x19 = (0 : Int32) then (1000 : Int32) else bnd (v 421 wd.toNatClampNeg) fun x24 => bnd (x24 / x19) fun x25 => (if x25 ≤ (1000 : Int32) then bnd (v 421 wd.toNatClampNeg) fun x29 => bnd (x29 / x19) fun x30 => x30 else (1000 : Int32))) else (-2 : Int32)) else (-1 : Int32))
set_option maxHeartbeats 4000000 in
set_option maxRecDepth 100000 in
theorem ct_X11_lasts_400 (l : Launch) (D : va_G) (dA : Nat → ClassId) (ad : Nat → Nat) (v : tV) (hI : Inv v) (wd : Int32) (co : Int32) : Met l m_X11_lasts [.code m_X11_lasts c_X11_lasts 4 (some .int)] ({ frames := 3, cells := 0, slots := 0, locals := 82 } : Room) (tP D dA ad v [.ref (ad 400), .int wd, .int co]) (tQi D dA ad (fun r v' => (v' = v) ∧ r = f_X11_lasts_400 v wd co)) 0 0 (tA ad) := by
  refine tMet (by decide) (Nat.le_of_ble_eq_true rfl) ?_
  intro p e s m below meth c ls X hr hlocks hw hl
  have X : CX p s m ([.ref (ad 400), .int wd, .int co] : List Value).toArray c c_X11_lasts N_X11 4 D dA := X
  have hx := X.1
  have hb := X.2.1
  have hS : va_S (tA ad) s.heap s.heap [] := va_S.rf
  have hl : lv_has ls 4 [(0, .ref (ad 400)), (1, .int wd), (2, .int co)] := hl
  obtain ⟨RR, eRR⟩ : ∃ z, f_X11_lasts_400 v wd co = z := ⟨_, rfl⟩
  have hG := eRR
  unfold f_X11_lasts_400 at hG
  refine lv_iload_n hx hb d_X11_lasts_0 rfl (lv_at hl 1 rfl) ?_
  refine r_ci (r_runS (n := 1) (As := [.int wd]) (rest := []) X hw (ct_X11_isWard l D dA ad v hI wd) gc_X11_184 (by decide +kernel) ⟨rfl, rfl, Nat.le_of_ble_eq_true rfl, Nat.le_of_ble_eq_true rfl⟩ rfl hl.1 rfl (Nat.le_of_ble_eq_true rfl) ⟨Nat.zero_le _, Nat.zero_le _⟩ d_X11_lasts_1) hS (fun x2 v3 H locs hp1 hw hS => ?_)
  obtain ⟨ev3, hp1⟩ := hp1
  rw [ev3] at hw
  rcases hp1 with ⟨rfl, w4a, w4b⟩ | ⟨rfl, w4n⟩
  · skip
    have hG := g_pos ⟨w4a, w4b⟩ hG
    have r5 : Rg wd 0 5 := by obtain ⟨_, _⟩ := (rg_any wd); exact ⟨by omega, by omega⟩
    refine lv_if_ne (tgt := 9) hx hb d_X11_lasts_4 (by decide) (fun c6 => ?_) (fun c6 => ?_)
    · refine lv_iload_n hx hb d_X11_lasts_9 rfl (lv_at hl 2 rfl) ?_
      refine lv_iconst (v := 0) hx hb d_X11_lasts_10 (by decide) ?_
      refine lv_iconst (v := 4) hx hb d_X11_lasts_11 (by decide) ?_
      refine r_ci (r_runS (n := 3) (As := [.int co, .int 0, .int 4]) (rest := []) X hw (ct_X11_in l D dA ad v hI co 0 4) gc_X11_169 (by decide +kernel) ⟨rfl, rfl, Nat.le_of_ble_eq_true rfl, Nat.le_of_ble_eq_true rfl⟩ rfl hl.1 rfl (Nat.le_of_ble_eq_true rfl) ⟨Nat.zero_le _, Nat.zero_le _⟩ d_X11_lasts_12) hS (fun x8 v9 H locs hp7 hw hS => ?_)
      obtain ⟨ev9, hp7⟩ := hp7
      rw [ev9] at hw
      rcases hp7 with ⟨rfl, w10a, w10b⟩ | ⟨rfl, w10n⟩
      · skip
        have hG := g_pos ⟨w10a, w10b⟩ hG
        have r11 : Rg co 0 4 := by obtain ⟨_, _⟩ := (rg_any co); have : (0 : Int32).toInt = 0 := rfl; have : (4 : Int32).toInt = 4 := rfl; exact ⟨by omega, by omega⟩
        refine lv_if_ne (tgt := 21) hx hb d_X11_lasts_15 (by decide) (fun c12 => ?_) (fun c12 => ?_)
        · refine lv_aload_n hx hb d_X11_lasts_21 rfl (lv_at hl 0 rfl) ?_
          refine r_getr (r := 425) X hw FL_X11_73 (rfl : KD 400 = _) rfl d_X11_lasts_22 ?_
          refine lv_iconst (v := 5) hx hb d_X11_lasts_25 (by decide) ?_
          refine lv_iload_n hx hb d_X11_lasts_26 rfl (lv_at hl 1 rfl) ?_
          refine lv_imul hx hb d_X11_lasts_27 ?_
          refine lv_topi (fun x13 ex13 => ?_)
          have hG := bnd_use ex13 hG
          have r14 : Rg x13 0 25 := rg_mulc ex13 (⟨by decide, by decide⟩ : Rg 5 5 5) r5 (by decide) (by decide) (by decide)
          have s15 : x13.toInt = 5 * wd.toInt := rg_mule ex13 r5 rfl (by decide) (by decide)
          refine lv_iload_n hx hb d_X11_lasts_28 rfl (lv_at hl 2 rfl) ?_
          refine lv_iadd hx hb d_X11_lasts_29 ?_
          refine lv_topi (fun x16 ex16 => ?_)
          have hG := bnd_use ex16 hG
          have r17 : Rg x16 0 29 := rg_add ex16 r14 r11 (by decide) (by decide)
          have s18 : x16.toInt = x13.toInt + (co : Int32).toInt := by rw [ex16]; exact i_add (by obtain ⟨_, _⟩ := r14; obtain ⟨_, _⟩ := r11; omega) (by obtain ⟨_, _⟩ := r14; obtain ⟨_, _⟩ := r11; omega)
          refine r_iald X hw (rfl : KD 425 = _) (Rg.vp (b := 29) r17 (by decide)) rfl d_X11_lasts_30 ?_
          refine lv_topi (fun x19 ex19 => ?_)
          have hG := bnd_use ex19 hG
          refine lv_istore_n (lv' := [(3, .int x19), (0, .ref (ad 400)), (1, .int wd), (2, .int co)]) hx hb d_X11_lasts_31 rfl hl (by decide) rfl (fun ls hl => ?_)
          refine lv_iload_n hx hb d_X11_lasts_32 rfl (lv_at hl 0 rfl) ?_
          refine lv_if_eq (tgt := 50) hx hb d_X11_lasts_33 (by decide) (fun c20 => ?_) (fun c20 => ?_)
          · have f21 := i_eq c20
            have r22 : Rg x19 0 0 := by obtain ⟨a1, a2⟩ := (rg_any x19); obtain ⟨b1, b2⟩ := (⟨by decide, by decide⟩ : Rg 0 0 0); have f := i_eq c20; exact ⟨by omega, by omega⟩
            have hG := g_pos c20 hG
            refine lv_sipush (v := 1000) hx hb d_X11_lasts_50 (by decide) ?_
            refine lv_goto (tgt := 64) hx hb d_X11_lasts_53 (by decide) ?_
            exact r_iret X hr hlocks hw hS ⟨rfl, hG.trans eRR.symm⟩ d_X11_lasts_64
          · have f23 := i_ne c20
            have hG := g_neg c20 hG
            refine lv_aload_n hx hb d_X11_lasts_36 rfl (lv_at hl 1 rfl) ?_
            refine r_getr (r := 421) X hw FL_X11_61 (rfl : KD 400 = _) rfl d_X11_lasts_37 ?_
            refine lv_iload_n hx hb d_X11_lasts_40 rfl (lv_at hl 2 rfl) ?_
            refine r_iald X hw (rfl : KD 421 = _) (Rg.vp (b := 5) r5 (by decide)) rfl d_X11_lasts_41 ?_
            refine lv_topi (fun x24 ex24 => ?_)
            have hG := bnd_use ex24 hG
            refine lv_iload_n hx hb d_X11_lasts_42 rfl (lv_at hl 0 rfl) ?_
            refine lv_idiv hx hb d_X11_lasts_43 c20 ?_
            refine lv_topi (fun x25 ex25 => ?_)
            have hG := bnd_use ex25 hG
            refine lv_sipush (v := 1000) hx hb d_X11_lasts_44 (by decide) ?_
            refine lv_icmp_le (tgt := 56) hx hb d_X11_lasts_47 (by decide) (fun c26 => ?_) (fun c26 => ?_)
            · have f27 := i_le c26
              have r28 : Rg x25 (-2147483648) 1000 := by obtain ⟨a1, a2⟩ := (rg_any x25); obtain ⟨b1, b2⟩ := (⟨by decide, by decide⟩ : Rg 1000 1000 1000); have f := i_le c26; exact ⟨by omega, by omega⟩
              have hG := g_pos c26 hG
              refine lv_aload_n hx hb d_X11_lasts_56 rfl (lv_at hl 1 rfl) ?_
              refine r_getr (r := 421) X hw FL_X11_61 (rfl : KD 400 = _) rfl d_X11_lasts_57 ?_
              refine lv_iload_n hx hb d_X11_lasts_60 rfl (lv_at hl 2 rfl) ?_
              refine r_iald X hw (rfl : KD 421 = _) (Rg.vp (b := 5) r5 (by decide)) rfl d_X11_lasts_61 ?_
              refine lv_topi (fun x29 ex29 => ?_)
              have hG := bnd_use ex29 hG
              refine lv_iload_n hx hb d_X11_lasts_62 rfl (lv_at hl 0 rfl) ?_
              refine lv_idiv hx hb d_X11_lasts_63 c20 ?_
              refine lv_topi (fun x30 ex30 => ?_)
              have hG := bnd_use ex30 hG
              exact r_iret X hr hlocks hw hS ⟨rfl, hG.trans eRR.symm⟩ d_X11_lasts_64
            · have f31 := i_nle c26
              have r32 : Rg x25 1001 2147483647 := by obtain ⟨a1, a2⟩ := (rg_any x25); obtain ⟨b1, b2⟩ := (⟨by decide, by decide⟩ : Rg 1000 1000 1000); have f := i_nle c26; exact ⟨by omega, by omega⟩
              have hG := g_neg c26 hG
              refine lv_sipush (v := 1000) hx hb d_X11_lasts_50 (by decide) ?_
              refine lv_goto (tgt := 64) hx hb d_X11_lasts_53 (by decide) ?_
              exact r_iret X hr hlocks hw hS ⟨rfl, hG.trans eRR.symm⟩ d_X11_lasts_64
        · exact absurd c12 (by decide)
      · skip
        have hG := g_neg w10n hG
        refine lv_if_ne (tgt := 21) hx hb d_X11_lasts_15 (by decide) (fun c33 => ?_) (fun c33 => ?_)
        · exact absurd c33 (by decide)
        · refine lv_bipush (v := -2) hx hb d_X11_lasts_18 (by decide) ?_
          exact r_iret X hr hlocks hw hS ⟨rfl, hG.trans eRR.symm⟩ d_X11_lasts_20
    · exact absurd c6 (by decide)
  · skip
    have hG := g_neg w4n hG
    refine lv_if_ne (tgt := 9) hx hb d_X11_lasts_4 (by decide) (fun c34 => ?_) (fun c34 => ?_)
    · exact absurd c34 (by decide)
    · refine lv_iconst (v := -1) hx hb d_X11_lasts_7 (by decide) ?_
      exact r_iret X hr hlocks hw hS ⟨rfl, hG.trans eRR.symm⟩ d_X11_lasts_8
theorem d_X11_allLacks_0 : decode c_X11_allLacks 0 = .ok (.iconst 0, 1) := by decide +kernel
theorem d_X11_allLacks_1 : decode c_X11_allLacks 1 = .ok (.istore_n 1, 1) := by decide +kernel
theorem d_X11_allLacks_2 : decode c_X11_allLacks 2 = .ok (.iconst 0, 1) := by decide +kernel
theorem d_X11_allLacks_3 : decode c_X11_allLacks 3 = .ok (.istore_n 2, 1) := by decide +kernel
theorem d_X11_allLacks_4 : decode c_X11_allLacks 4 = .ok (.iload_n 2, 1) := by decide +kernel
theorem d_X11_allLacks_5 : decode c_X11_allLacks 5 = .ok (.bipush 6, 2) := by decide +kernel
theorem d_X11_allLacks_7 : decode c_X11_allLacks 7 = .ok (.if_icmp .ge 18, 3) := by decide +kernel
theorem d_X11_allLacks_10 : decode c_X11_allLacks 10 = .ok (.iload_n 1, 1) := by decide +kernel
theorem d_X11_allLacks_11 : decode c_X11_allLacks 11 = .ok (.aload_n 0, 1) := by decide +kernel
theorem d_X11_allLacks_12 : decode c_X11_allLacks 12 = .ok (.getfield 64, 3) := by decide +kernel
theorem d_X11_allLacks_15 : decode c_X11_allLacks 15 = .ok (.iload_n 2, 1) := by decide +kernel
theorem d_X11_allLacks_16 : decode c_X11_allLacks 16 = .ok (.iaload, 1) := by decide +kernel
theorem d_X11_allLacks_17 : decode c_X11_allLacks 17 = .ok (.iadd, 1) := by decide +kernel
theorem d_X11_allLacks_18 : decode c_X11_allLacks 18 = .ok (.istore_n 1, 1) := by decide +kernel
theorem d_X11_allLacks_19 : decode c_X11_allLacks 19 = .ok (.iinc 2 1, 3) := by decide +kernel
theorem d_X11_allLacks_22 : decode c_X11_allLacks 22 = .ok (.goto (-18), 3) := by decide +kernel
theorem d_X11_allLacks_25 : decode c_X11_allLacks 25 = .ok (.iload_n 1, 1) := by decide +kernel
theorem d_X11_allLacks_26 : decode c_X11_allLacks 26 = .ok (.ireturn, 1) := by decide +kernel
def b_X11_allLacks_400_4 (v : tV)  (rc4 : Int32 → Int32 → Int32) (y1 : Int32) (y2 : Int32) : Int32 := (if (6 : Int32) ≤ y2 then y1 else bnd (v 422 y2.toNatClampNeg) fun x6 => bnd (y1 + x6) fun x7 => bnd (y2 + 1) fun x8 => rc4 x7 x8)
def g_X11_allLacks_400_4 (v : tV)  : Nat → Int32 → Int32 → Int32
  | 0, _, _ => 0
  | n + 1, y1, y2 => b_X11_allLacks_400_4 v  (g_X11_allLacks_400_4 v  n) y1 y2
def f_X11_allLacks_400 (v : tV)  : Int32 := g_X11_allLacks_400_4 v  100000 0 0
set_option maxHeartbeats 4000000 in
set_option maxRecDepth 100000 in
theorem ct_X11_allLacks_400 (l : Launch) (D : va_G) (dA : Nat → ClassId) (ad : Nat → Nat) (v : tV) (hI : Inv v)  : Met l m_X11_allLacks [.code m_X11_allLacks c_X11_allLacks 3 (some .int)] ({ frames := 1, cells := 0, slots := 0, locals := 40 } : Room) (tP D dA ad v [.ref (ad 400)]) (tQi D dA ad (fun r v' => (v' = v) ∧ r = f_X11_allLacks_400 v )) 0 0 (tA ad) := by
  refine tMet (by decide) (Nat.le_of_ble_eq_true rfl) ?_
  intro p e s m below meth c ls X hr hlocks hw hl
  have X : CX p s m ([.ref (ad 400)] : List Value).toArray c c_X11_allLacks N_X11 3 D dA := X
  have hx := X.1
  have hb := X.2.1
  have hS : va_S (tA ad) s.heap s.heap [] := va_S.rf
  have hl : lv_has ls 3 [(0, .ref (ad 400))] := hl
  obtain ⟨RR, eRR⟩ : ∃ z, f_X11_allLacks_400 v  = z := ⟨_, rfl⟩
  have LL : ∀ n : Nat, (∀ (y1 : Int32) (y2 : Int32)  (H : Heap) (locs : List Loc) (ls : Array Slot), (6 - y2.toInt).toNat < n → Rg y2 0 6 → g_X11_allLacks_400_4 v  n y1 y2 = RR → tI D dA ad v H → va_S (tA ad) s.heap H locs → lv_has ls 3 [(0, .ref (ad 400)), (1, .int y1), (2, .int y2)] → W p l e ({ frames := 1, cells := 0, slots := 0, locals := 40 } : Room) s m ([.ref (ad 400)] : List Value).toArray below meth c H locs 0 0 (MQ below (tQi D dA ad (fun r v' => (v' = v) ∧ r = f_X11_allLacks_400 v )) ([.ref (ad 400)] : List Value).toArray s 0 0 (tA ad)) (F0 m 4 ls [])) := by
    intro n
    induction n with
    | zero => intros; omega
    | succ n ih =>
      have ih0 := ih
      intro y1 y2 H locs ls hmu r_y2 hG hw hS hl
      have hG : b_X11_allLacks_400_4 v  (g_X11_allLacks_400_4 v  n) y1 y2 = RR := hG
      unfold b_X11_allLacks_400_4 at hG
      refine lv_iload_n hx hb d_X11_allLacks_4 rfl (lv_at hl 2 rfl) ?_
      refine lv_bipush (v := 6) hx hb d_X11_allLacks_5 (by decide) ?_
      refine lv_icmp_ge (tgt := 25) hx hb d_X11_allLacks_7 (by decide) (fun c1 => ?_) (fun c1 => ?_)
      · have f2 := i_le c1
        have r3 : Rg y2 6 6 := by obtain ⟨a1, a2⟩ := r_y2; obtain ⟨b1, b2⟩ := (⟨by decide, by decide⟩ : Rg 6 6 6); have f := i_le c1; exact ⟨by omega, by omega⟩
        have hG := g_pos c1 hG
        refine lv_iload_n hx hb d_X11_allLacks_25 rfl (lv_at hl 1 rfl) ?_
        exact r_iret X hr hlocks hw hS ⟨rfl, hG.trans eRR.symm⟩ d_X11_allLacks_26
      · have f4 := i_nle c1
        have r5 : Rg y2 0 5 := by obtain ⟨a1, a2⟩ := r_y2; obtain ⟨b1, b2⟩ := (⟨by decide, by decide⟩ : Rg 6 6 6); have f := i_nle c1; exact ⟨by omega, by omega⟩
        have hG := g_neg c1 hG
        refine lv_iload_n hx hb d_X11_allLacks_10 rfl (lv_at hl 1 rfl) ?_
        refine lv_aload_n hx hb d_X11_allLacks_11 rfl (lv_at hl 0 rfl) ?_
        refine r_getr (r := 422) X hw FL_X11_64 (rfl : KD 400 = _) rfl d_X11_allLacks_12 ?_
        refine lv_iload_n hx hb d_X11_allLacks_15 rfl (lv_at hl 2 rfl) ?_
        refine r_iald X hw (rfl : KD 422 = _) (Rg.vp (b := 5) r5 (by decide)) rfl d_X11_allLacks_16 ?_
        refine lv_topi (fun x6 ex6 => ?_)
        have hG := bnd_use ex6 hG
        refine lv_iadd hx hb d_X11_allLacks_17 ?_
        refine lv_topi (fun x7 ex7 => ?_)
        have hG := bnd_use ex7 hG
        refine lv_istore_n (lv' := [(1, .int x7), (0, .ref (ad 400)), (2, .int y2)]) hx hb d_X11_allLacks_18 rfl hl (by decide) rfl (fun ls hl => ?_)
        obtain ⟨x8, ex8⟩ : ∃ y : Int32, y = y2 + 1 := ⟨_, rfl⟩
        have hG := bnd_use ex8 hG
        refine lv_iinc (v := x8) (lv' := [(2, .int x8), (1, .int x7), (0, .ref (ad 400))]) hx hb d_X11_allLacks_19 hl (k := 2) rfl (by rw [ex8]; rfl) (by decide) rfl (fun ls hl => ?_)
        have r9 : Rg x8 1 6 := rg_add ex8 r5 (⟨by decide, by decide⟩ : Rg 1 1 1) (by decide) (by decide)
        have s10 : x8.toInt = y2.toInt + (1 : Int32).toInt := by rw [ex8]; exact i_add (by obtain ⟨_, _⟩ := r5; obtain ⟨_, _⟩ := (⟨by decide, by decide⟩ : Rg 1 1 1); omega) (by obtain ⟨_, _⟩ := r5; obtain ⟨_, _⟩ := (⟨by decide, by decide⟩ : Rg 1 1 1); omega)
        have s10l : (1 : Int32).toInt = 1 := rfl
        refine lv_goto (tgt := 4) hx hb d_X11_allLacks_22 (by decide) ?_
        exact ih0 x7 x8 _ _ _ (by have := s10; obtain ⟨_, _⟩ := rg_any x7; obtain ⟨_, _⟩ := r9; omega) (rg_w r9 (by decide) (by decide)) hG hw hS (lv_sub hl [2, 1, 0] rfl)
  have ih0 := LL 100000
  have hG := eRR
  unfold f_X11_allLacks_400 at hG
  refine lv_iconst (v := 0) hx hb d_X11_allLacks_0 (by decide) ?_
  refine lv_istore_n (lv' := [(1, .int 0), (0, .ref (ad 400))]) hx hb d_X11_allLacks_1 rfl hl (by decide) rfl (fun ls hl => ?_)
  refine lv_iconst (v := 0) hx hb d_X11_allLacks_2 (by decide) ?_
  refine lv_istore_n (lv' := [(2, .int 0), (1, .int 0), (0, .ref (ad 400))]) hx hb d_X11_allLacks_3 rfl hl (by decide) rfl (fun ls hl => ?_)
  exact ih0 0 0 _ _ _ (by obtain ⟨_, _⟩ := (⟨by decide, by decide⟩ : Rg 0 0 0); obtain ⟨_, _⟩ := (⟨by decide, by decide⟩ : Rg 0 0 0); omega) (rg_w (⟨by decide, by decide⟩ : Rg 0 0 0) (by decide) (by decide)) hG hw hS (lv_sub hl [2, 1, 0] rfl)
theorem d_X11_count_0 : decode c_X11_count 0 = .ok (.iconst 0, 1) := by decide +kernel
theorem d_X11_count_1 : decode c_X11_count 1 = .ok (.istore_n 2, 1) := by decide +kernel
theorem d_X11_count_2 : decode c_X11_count 2 = .ok (.iload_n 1, 1) := by decide +kernel
theorem d_X11_count_3 : decode c_X11_count 3 = .ok (.tableswitch 107 0 7 #[45, 50, 55, 60, 65, 70, 75, 102], 45) := by decide +kernel
theorem d_X11_count_48 : decode c_X11_count 48 = .ok (.aload_n 0, 1) := by decide +kernel
theorem d_X11_count_49 : decode c_X11_count 49 = .ok (.getfield 166, 3) := by decide +kernel
theorem d_X11_count_52 : decode c_X11_count 52 = .ok (.ireturn, 1) := by decide +kernel
theorem d_X11_count_53 : decode c_X11_count 53 = .ok (.aload_n 0, 1) := by decide +kernel
theorem d_X11_count_54 : decode c_X11_count 54 = .ok (.getfield 173, 3) := by decide +kernel
theorem d_X11_count_57 : decode c_X11_count 57 = .ok (.ireturn, 1) := by decide +kernel
theorem d_X11_count_58 : decode c_X11_count 58 = .ok (.aload_n 0, 1) := by decide +kernel
theorem d_X11_count_59 : decode c_X11_count 59 = .ok (.getfield 214, 3) := by decide +kernel
theorem d_X11_count_62 : decode c_X11_count 62 = .ok (.ireturn, 1) := by decide +kernel
theorem d_X11_count_63 : decode c_X11_count 63 = .ok (.aload_n 0, 1) := by decide +kernel
theorem d_X11_count_64 : decode c_X11_count 64 = .ok (.getfield 227, 3) := by decide +kernel
theorem d_X11_count_67 : decode c_X11_count 67 = .ok (.ireturn, 1) := by decide +kernel
theorem d_X11_count_68 : decode c_X11_count 68 = .ok (.aload_n 0, 1) := by decide +kernel
theorem d_X11_count_69 : decode c_X11_count 69 = .ok (.getfield 76, 3) := by decide +kernel
theorem d_X11_count_72 : decode c_X11_count 72 = .ok (.ireturn, 1) := by decide +kernel
theorem d_X11_count_73 : decode c_X11_count 73 = .ok (.aload_n 0, 1) := by decide +kernel
theorem d_X11_count_74 : decode c_X11_count 74 = .ok (.getfield 243, 3) := by decide +kernel
theorem d_X11_count_77 : decode c_X11_count 77 = .ok (.ireturn, 1) := by decide +kernel
theorem d_X11_count_78 : decode c_X11_count 78 = .ok (.iconst 0, 1) := by decide +kernel
theorem d_X11_count_79 : decode c_X11_count 79 = .ok (.istore_n 3, 1) := by decide +kernel
theorem d_X11_count_80 : decode c_X11_count 80 = .ok (.iload_n 3, 1) := by decide +kernel
theorem d_X11_count_81 : decode c_X11_count 81 = .ok (.aload_n 0, 1) := by decide +kernel
theorem d_X11_count_82 : decode c_X11_count 82 = .ok (.getfield 166, 3) := by decide +kernel
theorem d_X11_count_85 : decode c_X11_count 85 = .ok (.if_icmp .ge 18, 3) := by decide +kernel
theorem d_X11_count_88 : decode c_X11_count 88 = .ok (.iload_n 2, 1) := by decide +kernel
theorem d_X11_count_89 : decode c_X11_count 89 = .ok (.aload_n 0, 1) := by decide +kernel
theorem d_X11_count_90 : decode c_X11_count 90 = .ok (.getfield 46, 3) := by decide +kernel
theorem d_X11_count_93 : decode c_X11_count 93 = .ok (.iload_n 3, 1) := by decide +kernel
theorem d_X11_count_94 : decode c_X11_count 94 = .ok (.iaload, 1) := by decide +kernel
theorem d_X11_count_95 : decode c_X11_count 95 = .ok (.iadd, 1) := by decide +kernel
theorem d_X11_count_96 : decode c_X11_count 96 = .ok (.istore_n 2, 1) := by decide +kernel
theorem d_X11_count_97 : decode c_X11_count 97 = .ok (.iinc 3 1, 3) := by decide +kernel
theorem d_X11_count_100 : decode c_X11_count 100 = .ok (.goto (-20), 3) := by decide +kernel
theorem d_X11_count_103 : decode c_X11_count 103 = .ok (.iload_n 2, 1) := by decide +kernel
theorem d_X11_count_104 : decode c_X11_count 104 = .ok (.ireturn, 1) := by decide +kernel
theorem d_X11_count_105 : decode c_X11_count 105 = .ok (.aload_n 0, 1) := by decide +kernel
theorem d_X11_count_106 : decode c_X11_count 106 = .ok (.getfield 190, 3) := by decide +kernel
theorem d_X11_count_109 : decode c_X11_count 109 = .ok (.ireturn, 1) := by decide +kernel
theorem d_X11_count_110 : decode c_X11_count 110 = .ok (.iconst (-1), 1) := by decide +kernel
theorem d_X11_count_111 : decode c_X11_count 111 = .ok (.ireturn, 1) := by decide +kernel
def b_X11_count_400_80 (v : tV) (wh : Int32) (rc80 : Int32 → Int32 → Int32) (y2 : Int32) (y3 : Int32) : Int32 := bnd (v 400 1) fun x1 => (if x1 ≤ y3 then y2 else bnd (v 415 y3.toNatClampNeg) fun x9 => bnd (y2 + x9) fun x10 => bnd (y3 + 1) fun x11 => rc80 x10 x11)
def g_X11_count_400_80 (v : tV) (wh : Int32) : Nat → Int32 → Int32 → Int32
  | 0, _, _ => 0
  | n + 1, y2, y3 => b_X11_count_400_80 v wh (g_X11_count_400_80 v wh n) y2 y3
def f_X11_count_400 (v : tV) (wh : Int32) : Int32 := (if wh.toInt < 0 ∨ 7 < wh.toInt then (-1 : Int32) else (if wh.toInt = 0 then bnd (v 400 1) fun x15 => x15 else (if wh.toInt = 1 then bnd (v 400 15) fun x18 => x18 else (if wh.toInt = 2 then bnd (v 400 34) fun x21 => x21 else (if wh.toInt = 3 then bnd (v 400 25) fun x24 => x24 else (if wh.toInt = 4 then bnd (v 400 26) fun x25 => x25 else (if wh.toInt = 5 then bnd (v 400 27) fun x26 => x26 else (if wh.toInt = 6 then g_X11_count_400_80 v wh 100000 0 0 else bnd (v 400 33) fun x29 => x29))))))))
set_option maxHeartbeats 4000000 in
set_option maxRecDepth 100000 in
theorem ct_X11_count_400 (l : Launch) (D : va_G) (dA : Nat → ClassId) (ad : Nat → Nat) (v : tV) (hI : Inv v) (wh : Int32) : Met l m_X11_count [.code m_X11_count c_X11_count 4 (some .int)] ({ frames := 1, cells := 0, slots := 0, locals := 40 } : Room) (tP D dA ad v [.ref (ad 400), .int wh]) (tQi D dA ad (fun r v' => (v' = v) ∧ r = f_X11_count_400 v wh)) 0 0 (tA ad) := by
  refine tMet (by decide) (Nat.le_of_ble_eq_true rfl) ?_
  intro p e s m below meth c ls X hr hlocks hw hl
  have X : CX p s m ([.ref (ad 400), .int wh] : List Value).toArray c c_X11_count N_X11 4 D dA := X
  have hx := X.1
  have hb := X.2.1
  have hS : va_S (tA ad) s.heap s.heap [] := va_S.rf
  have hl : lv_has ls 4 [(0, .ref (ad 400)), (1, .int wh)] := hl
  obtain ⟨RR, eRR⟩ : ∃ z, f_X11_count_400 v wh = z := ⟨_, rfl⟩
  have LL : ∀ n : Nat, (∀ (y2 : Int32) (y3 : Int32)  (H : Heap) (locs : List Loc) (ls : Array Slot), (20 - y3.toInt).toNat < n → Rg y3 0 20 → g_X11_count_400_80 v wh n y2 y3 = RR → tI D dA ad v H → va_S (tA ad) s.heap H locs → lv_has ls 4 [(0, .ref (ad 400)), (2, .int y2), (3, .int y3)] → W p l e ({ frames := 1, cells := 0, slots := 0, locals := 40 } : Room) s m ([.ref (ad 400), .int wh] : List Value).toArray below meth c H locs 0 0 (MQ below (tQi D dA ad (fun r v' => (v' = v) ∧ r = f_X11_count_400 v wh)) ([.ref (ad 400), .int wh] : List Value).toArray s 0 0 (tA ad)) (F0 m 80 ls [])) := by
    intro n
    induction n with
    | zero => intros; omega
    | succ n ih =>
      have ih0 := ih
      intro y2 y3 H locs ls hmu r_y3 hG hw hS hl
      have hG : b_X11_count_400_80 v wh (g_X11_count_400_80 v wh n) y2 y3 = RR := hG
      unfold b_X11_count_400_80 at hG
      refine lv_iload_n hx hb d_X11_count_80 rfl (lv_at hl 2 rfl) ?_
      refine lv_aload_n hx hb d_X11_count_81 rfl (lv_at hl 0 rfl) ?_
      refine r_geti X hw FL_X11_166 (rfl : KD 400 = _) rfl d_X11_count_82 ?_
      refine lv_topi (fun x1 ex1 => ?_)
      have hG := bnd_use ex1 hG
      have r2 : Rg x1 0 20 := by rw [ex1]; exact hI _ _ _ _ rfl
      have hm3 : v 400 1 = x1 := ex1.symm
      refine lv_icmp_ge (tgt := 103) hx hb d_X11_count_85 (by decide) (fun c4 => ?_) (fun c4 => ?_)
      · have f5 := i_le c4
        have hG := g_pos c4 hG
        refine lv_iload_n hx hb d_X11_count_103 rfl (lv_at hl 1 rfl) ?_
        exact r_iret X hr hlocks hw hS ⟨rfl, hG.trans eRR.symm⟩ d_X11_count_104
      · have f6 := i_nle c4
        have r7 : Rg y3 0 19 := by obtain ⟨a1, a2⟩ := r_y3; obtain ⟨b1, b2⟩ := r2; have f := i_nle c4; exact ⟨by omega, by omega⟩
        have r8 : Rg x1 1 20 := by obtain ⟨a1, a2⟩ := r_y3; obtain ⟨b1, b2⟩ := r2; have f := i_nle c4; exact ⟨by omega, by omega⟩
        have hG := g_neg c4 hG
        refine lv_iload_n hx hb d_X11_count_88 rfl (lv_at hl 1 rfl) ?_
        refine lv_aload_n hx hb d_X11_count_89 rfl (lv_at hl 0 rfl) ?_
        refine r_getr (r := 415) X hw FL_X11_46 (rfl : KD 400 = _) rfl d_X11_count_90 ?_
        refine lv_iload_n hx hb d_X11_count_93 rfl (lv_at hl 2 rfl) ?_
        refine r_iald X hw (rfl : KD 415 = _) (Rg.vp (b := 19) r7 (by decide)) rfl d_X11_count_94 ?_
        refine lv_topi (fun x9 ex9 => ?_)
        have hG := bnd_use ex9 hG
        refine lv_iadd hx hb d_X11_count_95 ?_
        refine lv_topi (fun x10 ex10 => ?_)
        have hG := bnd_use ex10 hG
        refine lv_istore_n (lv' := [(2, .int x10), (0, .ref (ad 400)), (3, .int y3)]) hx hb d_X11_count_96 rfl hl (by decide) rfl (fun ls hl => ?_)
        obtain ⟨x11, ex11⟩ : ∃ y : Int32, y = y3 + 1 := ⟨_, rfl⟩
        have hG := bnd_use ex11 hG
        refine lv_iinc (v := x11) (lv' := [(3, .int x11), (2, .int x10), (0, .ref (ad 400))]) hx hb d_X11_count_97 hl (k := 2) rfl (by rw [ex11]; rfl) (by decide) rfl (fun ls hl => ?_)
        have r12 : Rg x11 1 20 := rg_add ex11 r7 (⟨by decide, by decide⟩ : Rg 1 1 1) (by decide) (by decide)
        have s13 : x11.toInt = y3.toInt + (1 : Int32).toInt := by rw [ex11]; exact i_add (by obtain ⟨_, _⟩ := r7; obtain ⟨_, _⟩ := (⟨by decide, by decide⟩ : Rg 1 1 1); omega) (by obtain ⟨_, _⟩ := r7; obtain ⟨_, _⟩ := (⟨by decide, by decide⟩ : Rg 1 1 1); omega)
        have s13l : (1 : Int32).toInt = 1 := rfl
        refine lv_goto (tgt := 80) hx hb d_X11_count_100 (by decide) ?_
        exact ih0 x10 x11 _ _ _ (by have := s13; obtain ⟨_, _⟩ := rg_any x10; obtain ⟨_, _⟩ := r12; omega) (rg_w r12 (by decide) (by decide)) hG hw hS (lv_sub hl [2, 1, 0] rfl)
  have ih0 := LL 100000
  have hG := eRR
  unfold f_X11_count_400 at hG
  refine lv_iconst (v := 0) hx hb d_X11_count_0 (by decide) ?_
  refine lv_istore_n (lv' := [(2, .int 0), (0, .ref (ad 400)), (1, .int wh)]) hx hb d_X11_count_1 rfl hl (by decide) rfl (fun ls hl => ?_)
  refine lv_iload_n hx hb d_X11_count_2 rfl (lv_at hl 2 rfl) ?_
  by_cases c14 : wh.toInt < 0 ∨ 7 < wh.toInt
  · refine lv_tableOut (tgt := 110) hx hb d_X11_count_3 c14 (by decide) ?_
    have hG := g_pos c14 hG
    refine lv_iconst (v := -1) hx hb d_X11_count_110 (by decide) ?_
    exact r_iret X hr hlocks hw hS ⟨rfl, hG.trans eRR.symm⟩ d_X11_count_111
  · have c14b : wh.toInt = 0 ∨ wh.toInt = 1 ∨ wh.toInt = 2 ∨ wh.toInt = 3 ∨ wh.toInt = 4 ∨ wh.toInt = 5 ∨ wh.toInt = 6 ∨ wh.toInt = 7 := by omega
    have hG := g_neg c14 hG
    rcases c14b with c14e | c14e | c14e | c14e | c14e | c14e | c14e | c14e
    · refine lv_tableIn (off := 45) (tgt := 48) hx hb d_X11_count_3 (by omega) (by omega) (by rw [c14e]; rfl) (by decide) ?_
      have hG := g_pos c14e hG
      refine lv_aload_n hx hb d_X11_count_48 rfl (lv_at hl 1 rfl) ?_
      refine r_geti X hw FL_X11_166 (rfl : KD 400 = _) rfl d_X11_count_49 ?_
      refine lv_topi (fun x15 ex15 => ?_)
      have hG := bnd_use ex15 hG
      have r16 : Rg x15 0 20 := by rw [ex15]; exact hI _ _ _ _ rfl
      have hm17 : v 400 1 = x15 := ex15.symm
      exact r_iret X hr hlocks hw hS ⟨rfl, hG.trans eRR.symm⟩ d_X11_count_52
    · refine lv_tableIn (off := 50) (tgt := 53) hx hb d_X11_count_3 (by omega) (by omega) (by rw [c14e]; rfl) (by decide) ?_
      have hG := g_neg (by omega) hG
      have hG := g_pos c14e hG
      refine lv_aload_n hx hb d_X11_count_53 rfl (lv_at hl 1 rfl) ?_
      refine r_geti X hw FL_X11_173 (rfl : KD 400 = _) rfl d_X11_count_54 ?_
      refine lv_topi (fun x18 ex18 => ?_)
      have hG := bnd_use ex18 hG
      have r19 : Rg x18 0 10 := by rw [ex18]; exact hI _ _ _ _ rfl
      have hm20 : v 400 15 = x18 := ex18.symm
      exact r_iret X hr hlocks hw hS ⟨rfl, hG.trans eRR.symm⟩ d_X11_count_57
    · refine lv_tableIn (off := 55) (tgt := 58) hx hb d_X11_count_3 (by omega) (by omega) (by rw [c14e]; rfl) (by decide) ?_
      have hG := g_neg (by omega) hG
      have hG := g_neg (by omega) hG
      have hG := g_pos c14e hG
      refine lv_aload_n hx hb d_X11_count_58 rfl (lv_at hl 1 rfl) ?_
      refine r_geti X hw FL_X11_214 (rfl : KD 400 = _) rfl d_X11_count_59 ?_
      refine lv_topi (fun x21 ex21 => ?_)
      have hG := bnd_use ex21 hG
      have r22 : Rg x21 0 8 := by rw [ex21]; exact hI _ _ _ _ rfl
      have hm23 : v 400 34 = x21 := ex21.symm
      exact r_iret X hr hlocks hw hS ⟨rfl, hG.trans eRR.symm⟩ d_X11_count_62
    · refine lv_tableIn (off := 60) (tgt := 63) hx hb d_X11_count_3 (by omega) (by omega) (by rw [c14e]; rfl) (by decide) ?_
      have hG := g_neg (by omega) hG
      have hG := g_neg (by omega) hG
      have hG := g_neg (by omega) hG
      have hG := g_pos c14e hG
      refine lv_aload_n hx hb d_X11_count_63 rfl (lv_at hl 1 rfl) ?_
      refine r_geti X hw FL_X11_227 (rfl : KD 400 = _) rfl d_X11_count_64 ?_
      refine lv_topi (fun x24 ex24 => ?_)
      have hG := bnd_use ex24 hG
      exact r_iret X hr hlocks hw hS ⟨rfl, hG.trans eRR.symm⟩ d_X11_count_67
    · refine lv_tableIn (off := 65) (tgt := 68) hx hb d_X11_count_3 (by omega) (by omega) (by rw [c14e]; rfl) (by decide) ?_
      have hG := g_neg (by omega) hG
      have hG := g_neg (by omega) hG
      have hG := g_neg (by omega) hG
      have hG := g_neg (by omega) hG
      have hG := g_pos c14e hG
      refine lv_aload_n hx hb d_X11_count_68 rfl (lv_at hl 1 rfl) ?_
      refine r_geti X hw FL_X11_76 (rfl : KD 400 = _) rfl d_X11_count_69 ?_
      refine lv_topi (fun x25 ex25 => ?_)
      have hG := bnd_use ex25 hG
      exact r_iret X hr hlocks hw hS ⟨rfl, hG.trans eRR.symm⟩ d_X11_count_72
    · refine lv_tableIn (off := 70) (tgt := 73) hx hb d_X11_count_3 (by omega) (by omega) (by rw [c14e]; rfl) (by decide) ?_
      have hG := g_neg (by omega) hG
      have hG := g_neg (by omega) hG
      have hG := g_neg (by omega) hG
      have hG := g_neg (by omega) hG
      have hG := g_neg (by omega) hG
      have hG := g_pos c14e hG
      refine lv_aload_n hx hb d_X11_count_73 rfl (lv_at hl 1 rfl) ?_
      refine r_geti X hw FL_X11_243 (rfl : KD 400 = _) rfl d_X11_count_74 ?_
      refine lv_topi (fun x26 ex26 => ?_)
      have hG := bnd_use ex26 hG
      have r27 : Rg x26 0 200 := by rw [ex26]; exact hI _ _ _ _ rfl
      have hm28 : v 400 27 = x26 := ex26.symm
      exact r_iret X hr hlocks hw hS ⟨rfl, hG.trans eRR.symm⟩ d_X11_count_77
    · refine lv_tableIn (off := 75) (tgt := 78) hx hb d_X11_count_3 (by omega) (by omega) (by rw [c14e]; rfl) (by decide) ?_
      have hG := g_neg (by omega) hG
      have hG := g_neg (by omega) hG
      have hG := g_neg (by omega) hG
      have hG := g_neg (by omega) hG
      have hG := g_neg (by omega) hG
      have hG := g_neg (by omega) hG
      have hG := g_pos c14e hG
      refine lv_iconst (v := 0) hx hb d_X11_count_78 (by decide) ?_
      refine lv_istore_n (lv' := [(3, .int 0), (2, .int 0), (0, .ref (ad 400)), (1, .int wh)]) hx hb d_X11_count_79 rfl hl (by decide) rfl (fun ls hl => ?_)
      exact ih0 0 0 _ _ _ (by obtain ⟨_, _⟩ := (⟨by decide, by decide⟩ : Rg 0 0 0); obtain ⟨_, _⟩ := (⟨by decide, by decide⟩ : Rg 0 0 0); omega) (rg_w (⟨by decide, by decide⟩ : Rg 0 0 0) (by decide) (by decide)) hG hw hS (lv_sub hl [2, 1, 0] rfl)
    · refine lv_tableIn (off := 102) (tgt := 105) hx hb d_X11_count_3 (by omega) (by omega) (by rw [c14e]; rfl) (by decide) ?_
      have hG := g_neg (by omega) hG
      have hG := g_neg (by omega) hG
      have hG := g_neg (by omega) hG
      have hG := g_neg (by omega) hG
      have hG := g_neg (by omega) hG
      have hG := g_neg (by omega) hG
      have hG := g_neg (by omega) hG
      refine lv_aload_n hx hb d_X11_count_105 rfl (lv_at hl 1 rfl) ?_
      refine r_geti X hw FL_X11_190 (rfl : KD 400 = _) rfl d_X11_count_106 ?_
      refine lv_topi (fun x29 ex29 => ?_)
      have hG := bnd_use ex29 hG
      have r30 : Rg x29 0 120 := by rw [ex29]; exact hI _ _ _ _ rfl
      have hm31 : v 400 33 = x29 := ex29.symm
      exact r_iret X hr hlocks hw hS ⟨rfl, hG.trans eRR.symm⟩ d_X11_count_109
theorem d_X11_factor_0 : decode c_X11_factor 0 = .ok (.iload_n 1, 1) := by decide +kernel
theorem d_X11_factor_1 : decode c_X11_factor 1 = .ok (.iconst 0, 1) := by decide +kernel
theorem d_X11_factor_2 : decode c_X11_factor 2 = .ok (.iconst 5, 1) := by decide +kernel
theorem d_X11_factor_3 : decode c_X11_factor 3 = .ok (.invokestatic 169, 3) := by decide +kernel
theorem d_X11_factor_6 : decode c_X11_factor 6 = .ok (.ifCond .ne 5, 3) := by decide +kernel
theorem d_X11_factor_9 : decode c_X11_factor 9 = .ok (.iconst (-1), 1) := by decide +kernel
theorem d_X11_factor_10 : decode c_X11_factor 10 = .ok (.ireturn, 1) := by decide +kernel
theorem d_X11_factor_11 : decode c_X11_factor 11 = .ok (.iconst 0, 1) := by decide +kernel
theorem d_X11_factor_12 : decode c_X11_factor 12 = .ok (.istore_n 2, 1) := by decide +kernel
theorem d_X11_factor_13 : decode c_X11_factor 13 = .ok (.iconst 0, 1) := by decide +kernel
theorem d_X11_factor_14 : decode c_X11_factor 14 = .ok (.istore_n 3, 1) := by decide +kernel
theorem d_X11_factor_15 : decode c_X11_factor 15 = .ok (.iload_n 3, 1) := by decide +kernel
theorem d_X11_factor_16 : decode c_X11_factor 16 = .ok (.aload_n 0, 1) := by decide +kernel
theorem d_X11_factor_17 : decode c_X11_factor 17 = .ok (.getfield 166, 3) := by decide +kernel
theorem d_X11_factor_20 : decode c_X11_factor 20 = .ok (.if_icmp .ge 32, 3) := by decide +kernel
theorem d_X11_factor_23 : decode c_X11_factor 23 = .ok (.iload_n 2, 1) := by decide +kernel
theorem d_X11_factor_24 : decode c_X11_factor 24 = .ok (.aload_n 0, 1) := by decide +kernel
theorem d_X11_factor_25 : decode c_X11_factor 25 = .ok (.getfield 22, 3) := by decide +kernel
theorem d_X11_factor_28 : decode c_X11_factor 28 = .ok (.iload_n 3, 1) := by decide +kernel
theorem d_X11_factor_29 : decode c_X11_factor 29 = .ok (.iaload, 1) := by decide +kernel
theorem d_X11_factor_30 : decode c_X11_factor 30 = .ok (.iload_n 1, 1) := by decide +kernel
theorem d_X11_factor_31 : decode c_X11_factor 31 = .ok (.if_icmp .ne 12, 3) := by decide +kernel
theorem d_X11_factor_34 : decode c_X11_factor 34 = .ok (.aload_n 0, 1) := by decide +kernel
theorem d_X11_factor_35 : decode c_X11_factor 35 = .ok (.getfield 43, 3) := by decide +kernel
theorem d_X11_factor_38 : decode c_X11_factor 38 = .ok (.iload_n 3, 1) := by decide +kernel
theorem d_X11_factor_39 : decode c_X11_factor 39 = .ok (.iaload, 1) := by decide +kernel
theorem d_X11_factor_40 : decode c_X11_factor 40 = .ok (.goto 4, 3) := by decide +kernel
theorem d_X11_factor_43 : decode c_X11_factor 43 = .ok (.iconst 0, 1) := by decide +kernel
theorem d_X11_factor_44 : decode c_X11_factor 44 = .ok (.iadd, 1) := by decide +kernel
theorem d_X11_factor_45 : decode c_X11_factor 45 = .ok (.istore_n 2, 1) := by decide +kernel
theorem d_X11_factor_46 : decode c_X11_factor 46 = .ok (.iinc 3 1, 3) := by decide +kernel
theorem d_X11_factor_49 : decode c_X11_factor 49 = .ok (.goto (-34), 3) := by decide +kernel
theorem d_X11_factor_52 : decode c_X11_factor 52 = .ok (.iload_n 2, 1) := by decide +kernel
theorem d_X11_factor_53 : decode c_X11_factor 53 = .ok (.ireturn, 1) := by decide +kernel
def b_X11_factor_400_15 (v : tV) (fi : Int32) (rc15 : Int32 → Int32 → Int32) (y2 : Int32) (y3 : Int32) : Int32 := bnd (v 400 1) fun x1 => (if x1 ≤ y3 then y2 else bnd (v 407 y3.toNatClampNeg) fun x9 => (if x9 = fi then bnd (v 414 y3.toNatClampNeg) fun x17 => bnd (y2 + x17) fun x18 => bnd (y3 + 1) fun x19 => rc15 x18 x19 else bnd (y2 + (0 : Int32)) fun x12 => bnd (y3 + 1) fun x13 => rc15 x12 x13))
def g_X11_factor_400_15 (v : tV) (fi : Int32) : Nat → Int32 → Int32 → Int32
  | 0, _, _ => 0
  | n + 1, y2, y3 => b_X11_factor_400_15 v fi (g_X11_factor_400_15 v fi n) y2 y3
def f_X11_factor_400 (v : tV) (fi : Int32) : Int32 := (if (0 : Int32).toInt ≤ fi.toInt ∧ fi.toInt ≤ (5 : Int32).toInt then g_X11_factor_400_15 v fi 100000 0 0 else (-1 : Int32))
set_option maxHeartbeats 4000000 in
set_option maxRecDepth 100000 in
theorem ct_X11_factor_400 (l : Launch) (D : va_G) (dA : Nat → ClassId) (ad : Nat → Nat) (v : tV) (hI : Inv v) (fi : Int32) : Met l m_X11_factor [.code m_X11_factor c_X11_factor 4 (some .int)] ({ frames := 2, cells := 0, slots := 0, locals := 62 } : Room) (tP D dA ad v [.ref (ad 400), .int fi]) (tQi D dA ad (fun r v' => (v' = v) ∧ r = f_X11_factor_400 v fi)) 0 0 (tA ad) := by
  refine tMet (by decide) (Nat.le_of_ble_eq_true rfl) ?_
  intro p e s m below meth c ls X hr hlocks hw hl
  have X : CX p s m ([.ref (ad 400), .int fi] : List Value).toArray c c_X11_factor N_X11 4 D dA := X
  have hx := X.1
  have hb := X.2.1
  have hS : va_S (tA ad) s.heap s.heap [] := va_S.rf
  have hl : lv_has ls 4 [(0, .ref (ad 400)), (1, .int fi)] := hl
  obtain ⟨RR, eRR⟩ : ∃ z, f_X11_factor_400 v fi = z := ⟨_, rfl⟩
  have LL : ∀ n : Nat, (∀ (y2 : Int32) (y3 : Int32)  (H : Heap) (locs : List Loc) (ls : Array Slot), (20 - y3.toInt).toNat < n → Rg y3 0 20 → g_X11_factor_400_15 v fi n y2 y3 = RR → tI D dA ad v H → va_S (tA ad) s.heap H locs → lv_has ls 4 [(0, .ref (ad 400)), (1, .int fi), (2, .int y2), (3, .int y3)] → W p l e ({ frames := 2, cells := 0, slots := 0, locals := 62 } : Room) s m ([.ref (ad 400), .int fi] : List Value).toArray below meth c H locs 0 0 (MQ below (tQi D dA ad (fun r v' => (v' = v) ∧ r = f_X11_factor_400 v fi)) ([.ref (ad 400), .int fi] : List Value).toArray s 0 0 (tA ad)) (F0 m 15 ls [])) := by
    intro n
    induction n with
    | zero => intros; omega
    | succ n ih =>
      have ih0 := ih
      intro y2 y3 H locs ls hmu r_y3 hG hw hS hl
      have hG : b_X11_factor_400_15 v fi (g_X11_factor_400_15 v fi n) y2 y3 = RR := hG
      unfold b_X11_factor_400_15 at hG
      refine lv_iload_n hx hb d_X11_factor_15 rfl (lv_at hl 3 rfl) ?_
      refine lv_aload_n hx hb d_X11_factor_16 rfl (lv_at hl 0 rfl) ?_
      refine r_geti X hw FL_X11_166 (rfl : KD 400 = _) rfl d_X11_factor_17 ?_
      refine lv_topi (fun x1 ex1 => ?_)
      have hG := bnd_use ex1 hG
      have r2 : Rg x1 0 20 := by rw [ex1]; exact hI _ _ _ _ rfl
      have hm3 : v 400 1 = x1 := ex1.symm
      refine lv_icmp_ge (tgt := 52) hx hb d_X11_factor_20 (by decide) (fun c4 => ?_) (fun c4 => ?_)
      · have f5 := i_le c4
        have hG := g_pos c4 hG
        refine lv_iload_n hx hb d_X11_factor_52 rfl (lv_at hl 2 rfl) ?_
        exact r_iret X hr hlocks hw hS ⟨rfl, hG.trans eRR.symm⟩ d_X11_factor_53
      · have f6 := i_nle c4
        have r7 : Rg y3 0 19 := by obtain ⟨a1, a2⟩ := r_y3; obtain ⟨b1, b2⟩ := r2; have f := i_nle c4; exact ⟨by omega, by omega⟩
        have r8 : Rg x1 1 20 := by obtain ⟨a1, a2⟩ := r_y3; obtain ⟨b1, b2⟩ := r2; have f := i_nle c4; exact ⟨by omega, by omega⟩
        have hG := g_neg c4 hG
        refine lv_iload_n hx hb d_X11_factor_23 rfl (lv_at hl 2 rfl) ?_
        refine lv_aload_n hx hb d_X11_factor_24 rfl (lv_at hl 0 rfl) ?_
        refine r_getr (r := 407) X hw FL_X11_22 (rfl : KD 400 = _) rfl d_X11_factor_25 ?_
        refine lv_iload_n hx hb d_X11_factor_28 rfl (lv_at hl 3 rfl) ?_
        refine r_iald X hw (rfl : KD 407 = _) (Rg.vp (b := 19) r7 (by decide)) rfl d_X11_factor_29 ?_
        refine lv_topi (fun x9 ex9 => ?_)
        have hG := bnd_use ex9 hG
        refine lv_iload_n hx hb d_X11_factor_30 rfl (lv_at hl 1 rfl) ?_
        refine lv_icmp_ne (tgt := 43) hx hb d_X11_factor_31 (by decide) (fun c10 => ?_) (fun c10 => ?_)
        · have f11 := i_ne c10
          have hG := g_neg c10 hG
          refine lv_iconst (v := 0) hx hb d_X11_factor_43 (by decide) ?_
          refine lv_iadd hx hb d_X11_factor_44 ?_
          refine lv_topi (fun x12 ex12 => ?_)
          have hG := bnd_use ex12 hG
          refine lv_istore_n (lv' := [(2, .int x12), (0, .ref (ad 400)), (1, .int fi), (3, .int y3)]) hx hb d_X11_factor_45 rfl hl (by decide) rfl (fun ls hl => ?_)
          obtain ⟨x13, ex13⟩ : ∃ y : Int32, y = y3 + 1 := ⟨_, rfl⟩
          have hG := bnd_use ex13 hG
          refine lv_iinc (v := x13) (lv' := [(3, .int x13), (2, .int x12), (0, .ref (ad 400)), (1, .int fi)]) hx hb d_X11_factor_46 hl (k := 3) rfl (by rw [ex13]; rfl) (by decide) rfl (fun ls hl => ?_)
          have r14 : Rg x13 1 20 := rg_add ex13 r7 (⟨by decide, by decide⟩ : Rg 1 1 1) (by decide) (by decide)
          have s15 : x13.toInt = y3.toInt + (1 : Int32).toInt := by rw [ex13]; exact i_add (by obtain ⟨_, _⟩ := r7; obtain ⟨_, _⟩ := (⟨by decide, by decide⟩ : Rg 1 1 1); omega) (by obtain ⟨_, _⟩ := r7; obtain ⟨_, _⟩ := (⟨by decide, by decide⟩ : Rg 1 1 1); omega)
          have s15l : (1 : Int32).toInt = 1 := rfl
          refine lv_goto (tgt := 15) hx hb d_X11_factor_49 (by decide) ?_
          exact ih0 x12 x13 _ _ _ (by have := s15; obtain ⟨_, _⟩ := rg_any x12; obtain ⟨_, _⟩ := r14; omega) (rg_w r14 (by decide) (by decide)) hG hw hS (lv_sub hl [2, 3, 1, 0] rfl)
        · have f16 := i_eq c10
          have hG := g_pos c10 hG
          refine lv_aload_n hx hb d_X11_factor_34 rfl (lv_at hl 0 rfl) ?_
          refine r_getr (r := 414) X hw FL_X11_43 (rfl : KD 400 = _) rfl d_X11_factor_35 ?_
          refine lv_iload_n hx hb d_X11_factor_38 rfl (lv_at hl 3 rfl) ?_
          refine r_iald X hw (rfl : KD 414 = _) (Rg.vp (b := 19) r7 (by decide)) rfl d_X11_factor_39 ?_
          refine lv_topi (fun x17 ex17 => ?_)
          have hG := bnd_use ex17 hG
          refine lv_goto (tgt := 44) hx hb d_X11_factor_40 (by decide) ?_
          refine lv_iadd hx hb d_X11_factor_44 ?_
          refine lv_topi (fun x18 ex18 => ?_)
          have hG := bnd_use ex18 hG
          refine lv_istore_n (lv' := [(2, .int x18), (0, .ref (ad 400)), (1, .int fi), (3, .int y3)]) hx hb d_X11_factor_45 rfl hl (by decide) rfl (fun ls hl => ?_)
          obtain ⟨x19, ex19⟩ : ∃ y : Int32, y = y3 + 1 := ⟨_, rfl⟩
          have hG := bnd_use ex19 hG
          refine lv_iinc (v := x19) (lv' := [(3, .int x19), (2, .int x18), (0, .ref (ad 400)), (1, .int fi)]) hx hb d_X11_factor_46 hl (k := 3) rfl (by rw [ex19]; rfl) (by decide) rfl (fun ls hl => ?_)
          have r20 : Rg x19 1 20 := rg_add ex19 r7 (⟨by decide, by decide⟩ : Rg 1 1 1) (by decide) (by decide)
          have s21 : x19.toInt = y3.toInt + (1 : Int32).toInt := by rw [ex19]; exact i_add (by obtain ⟨_, _⟩ := r7; obtain ⟨_, _⟩ := (⟨by decide, by decide⟩ : Rg 1 1 1); omega) (by obtain ⟨_, _⟩ := r7; obtain ⟨_, _⟩ := (⟨by decide, by decide⟩ : Rg 1 1 1); omega)
          have s21l : (1 : Int32).toInt = 1 := rfl
          refine lv_goto (tgt := 15) hx hb d_X11_factor_49 (by decide) ?_
          exact ih0 x18 x19 _ _ _ (by have := s21; obtain ⟨_, _⟩ := rg_any x18; obtain ⟨_, _⟩ := r20; omega) (rg_w r20 (by decide) (by decide)) hG hw hS (lv_sub hl [2, 3, 1, 0] rfl)
  have ih0 := LL 100000
  have hG := eRR
  unfold f_X11_factor_400 at hG
  refine lv_iload_n hx hb d_X11_factor_0 rfl (lv_at hl 1 rfl) ?_
  refine lv_iconst (v := 0) hx hb d_X11_factor_1 (by decide) ?_
  refine lv_iconst (v := 5) hx hb d_X11_factor_2 (by decide) ?_
  refine r_ci (r_runS (n := 3) (As := [.int fi, .int 0, .int 5]) (rest := []) X hw (ct_X11_in l D dA ad v hI fi 0 5) gc_X11_169 (by decide +kernel) ⟨rfl, rfl, Nat.le_of_ble_eq_true rfl, Nat.le_of_ble_eq_true rfl⟩ rfl hl.1 rfl (Nat.le_of_ble_eq_true rfl) ⟨Nat.zero_le _, Nat.zero_le _⟩ d_X11_factor_3) hS (fun x23 v24 H locs hp22 hw hS => ?_)
  obtain ⟨ev24, hp22⟩ := hp22
  rw [ev24] at hw
  rcases hp22 with ⟨rfl, w25a, w25b⟩ | ⟨rfl, w25n⟩
  · skip
    have hG := g_pos ⟨w25a, w25b⟩ hG
    have r26 : Rg fi 0 5 := by obtain ⟨_, _⟩ := (rg_any fi); have : (0 : Int32).toInt = 0 := rfl; have : (5 : Int32).toInt = 5 := rfl; exact ⟨by omega, by omega⟩
    refine lv_if_ne (tgt := 11) hx hb d_X11_factor_6 (by decide) (fun c27 => ?_) (fun c27 => ?_)
    · refine lv_iconst (v := 0) hx hb d_X11_factor_11 (by decide) ?_
      refine lv_istore_n (lv' := [(2, .int 0), (0, .ref (ad 400)), (1, .int fi)]) hx hb d_X11_factor_12 rfl hl (by decide) rfl (fun ls hl => ?_)
      refine lv_iconst (v := 0) hx hb d_X11_factor_13 (by decide) ?_
      refine lv_istore_n (lv' := [(3, .int 0), (2, .int 0), (0, .ref (ad 400)), (1, .int fi)]) hx hb d_X11_factor_14 rfl hl (by decide) rfl (fun ls hl => ?_)
      exact ih0 0 0 _ _ _ (by obtain ⟨_, _⟩ := (⟨by decide, by decide⟩ : Rg 0 0 0); obtain ⟨_, _⟩ := (⟨by decide, by decide⟩ : Rg 0 0 0); omega) (rg_w (⟨by decide, by decide⟩ : Rg 0 0 0) (by decide) (by decide)) hG hw hS (lv_sub hl [2, 3, 1, 0] rfl)
    · exact absurd c27 (by decide)
  · skip
    have hG := g_neg w25n hG
    refine lv_if_ne (tgt := 11) hx hb d_X11_factor_6 (by decide) (fun c28 => ?_) (fun c28 => ?_)
    · exact absurd c28 (by decide)
    · refine lv_iconst (v := -1) hx hb d_X11_factor_9 (by decide) ?_
      exact r_iret X hr hlocks hw hS ⟨rfl, hG.trans eRR.symm⟩ d_X11_factor_10
