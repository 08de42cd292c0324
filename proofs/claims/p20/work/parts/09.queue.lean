def cp5 (v : tV) (k0 k1 : Nat) : tV := fun a b => if a = k1 ∧ b < 5 then v k0 b else v a b
theorem inv_cp5 {v : tV} (h : Inv v) {k0 k1 : Nat} (hr : ∀ j, RG k1 j = none) : Inv (cp5 v k0 k1) := by
  intro a b lo hi hab
  unfold cp5
  by_cases q : a = k1 ∧ b < 5
  · rw [q.1, hr] at hab
    cases hab
  · rw [if_neg q]
    exact h a b lo hi hab
theorem kp_cp5 {u v : tV} (h : Kp u v) {k0 k1 : Nat} (hp : ∀ j, PS k1 j = false) : Kp u (cp5 v k0 k1) := by
  intro a b hab
  unfold cp5
  by_cases q : a = k1 ∧ b < 5
  · rw [q.1, hp] at hab
    cases hab
  · rw [if_neg q]
    exact h a b hab
theorem aw_link : Cond.methodLink N_X9 15 arraycopyName ∈ BIG := tb_in 670 (by decide +kernel) rfl
theorem aw_stat : Cond.static arraycopyName ∈ BIG := tb_in 671 (by decide +kernel) rfl
theorem aw_nat : Cond.native arraycopyName ∈ BIG := tb_in 672 (by decide +kernel) rfl
theorem aw_ini : Cond.initialized "java/lang/System" ∈ BIG := tb_in 54 (by decide +kernel) rfl
theorem r_acopy {p : Program} {l : Launch} {e : Env} {R : Room} {s : State} {m : MethodId} {args : Array Value} {below : List Frame} {meth : Method} {c : Code} {cells slots : Nat} {Q : State → Prop} {cc : ByteArray} {pc : Nat} {ls : Array Slot} {rest : List Value} {D : va_G} {dA : Nat → ClassId} {ad : Nat → Nat} {v : tV} {k0 k1 : Nat}
    {nL : Nat} (X : CX p s m args c cc N_X9 nL D dA) (hsz : ls.size = nL) (hw : tI D dA ad v s.heap) (h0 : KD k0 = some (12, 5)) (h1 : KD k1 = some (12, 5)) (hne : k0 ≠ k1) (s0 : ∀ j, SH k0 j = none) (s1 : ∀ j, SH k1 j = none) (hframes : 1 ≤ R.frames) (hlocals : (rest.map fun v => v.category).sum + (nativeFrameWords "java/lang/System" "arraycopy" 5 + 11) ≤ R.locals) (hd : decode cc pc = .ok (.invokestatic 15, 3))
    (kk : ∀ (H1 : Heap) (locs1 : List Loc), tI D dA ad (cp5 v k0 k1) H1 → va_S (tA ad) s.heap H1 locs1 → W p l e R s m args below meth c H1 locs1 cells slots Q (F0 m (pc + 3) ls rest)) : W p l e R s m args below meth c s.heap [] cells slots Q (F0 m pc ls (.int 5 :: .int 0 :: .ref (ad k1) :: .int 0 :: .ref (ad k0) :: rest)) := by
  obtain ⟨hx, hb, hml, hown, hts, hK, hB⟩ := X
  have a0 : s.heap[ad k0]? = some (vp_cell (dA 12) (5, .inl (v k0))) := by
    rw [tw_arr hw h0 (by decide), vp_cell_i]
    have : tw_u ad v k0 = fun j => .int (v k0 j) := funext fun j => tw_u_int (s0 j)
    rw [this]
  have a1 : s.heap[ad k1]? = some (vp_cell (dA 12) (5, .inl (v k1))) := by
    rw [tw_arr hw h1 (by decide), vp_cell_i]
    have : tw_u ad v k1 = fun j => .int (v k1 j) := funext fun j => tw_u_int (s1 j)
    rw [this]
  have hap : ad k0 ≠ ad k1 := fun q => hne (hw.2 k0 k1 _ _ h0 h1 q)
  have hP : va_P D CLS [(ad k0, .inl (dA 12, 5, .inl (v k0))), (ad k1, .inl (dA 12, 5, .inl (v k1)))] s.heap := by
    intro k q hq
    match k, hq with
    | 0, hq => cases hq; exact a0
    | 1, hq => cases hq; exact a1
    | k + 2, hq => simp at hq
  have hD : va_D (fun q => q = ad k1 ∨ q = ad k0) [(ad k0, .inl (dA 12, 5, .inl (v k0))), (ad k1, .inl (dA 12, 5, .inl (v k1)))] := by
    refine ⟨fun i j x y hi hj hxy => ?_, fun k q hq => ?_⟩
    · match i, j, hi, hj with
      | 0, 0, _, _ => rfl
      | 1, 1, _, _ => rfl
      | 0, 1, hi, hj => cases hi; cases hj; exact absurd hxy hap
      | 1, 0, hi, hj => cases hi; cases hj; exact absurd hxy.symm hap
      | i + 2, _, hi, _ => simp at hi
      | _, j + 2, _, hj => simp at hj
    · match k, hq with
      | 0, hq => cases hq; exact Or.inr rfl
      | 1, hq => cases hq; exact Or.inl rfl
      | k + 2, hq => simp at hq
  refine va_copyi (A := fun q => q = ad k1 ∨ q = ad k0) (H0 := s.heap) hx hb (hml.trans hsz.symm) hown (hts _ aw_link) (hts _ aw_nat) (hts _ aw_stat) (hts _ aw_ini) hK hP hD va_S.rf 0 1 0 0 rfl rfl rfl rfl rfl (by decide) (by decide) (by decide) (by decide) (by decide) (fun _ _ => rfl) hframes hlocals hd (fun H1 locs1 hP1 hD1 hS1 => ?_)
  have b0 : H1[ad k0]? = some (vp_cell (dA 12) (5, .inl (v k0))) := hP1 0 (ad k0, .inl (dA 12, 5, .inl (v k0))) rfl
  have b1 : H1[ad k1]? = some (vp_cell (dA 12) (5, .inl (va_cpy (v k0) (v k1) (0 : Int32).toNatClampNeg (0 : Int32).toNatClampNeg (5 : Int32).toNatClampNeg))) := hP1 1 _ rfl
  have hko : ∀ k kn, KD k = some kn → k ≠ k1 → H1[ad k]? = s.heap[ad k]? := by
    intro k kn hk hn
    by_cases q : k = k0
    · subst q
      rw [b0, a0]
    · have hlt : ad k < s.heap.size := by
        rcases hw.1 k kn hk with ⟨_, r, h1, cell, q1, q2⟩ | ⟨_, h⟩
        · exact (Array.getElem?_eq_some_iff.mp q1).1
        · exact (Array.getElem?_eq_some_iff.mp h).1
      exact hS1.2.1 _ hlt (fun z => z.elim (fun z => hn (hw.2 k k1 _ _ hk h1 z)) (fun z => q (hw.2 k k0 _ _ hk h0 z)))
  refine kk H1 locs1 ⟨fun k kn hk => ?_, hw.2⟩ ⟨hS1.1, fun q g1 g2 => hS1.2.1 q g1 (fun z => g2 (z.elim (fun z => ⟨k1, _, h1, z⟩) (fun z => ⟨k0, _, h0, z⟩))), fun q hq => (hS1.2.2 q hq).elim (fun z => ⟨k1, _, h1, z⟩) (fun z => ⟨k0, _, h0, z⟩)⟩
  by_cases q : k = k1
  · subst q
    have e : kn = (12, 5) := Option.some.inj (hk.symm.trans h1)
    subst e
    refine Or.inr ⟨by decide, ?_⟩
    rw [b1, vp_cell_i]
    congr 2
    funext j
    rw [tw_u_int (s1 j)]
    congr 1
    show va_cpy (v k0) (v k) 0 0 5 j = cp5 v k0 k k j
    unfold va_cpy cp5
    by_cases z : j < 5
    · rw [if_pos ⟨Nat.zero_le _, by omega⟩, if_pos ⟨rfl, z⟩]
      congr 1
      omega
    · rw [if_neg (by omega), if_neg (fun y => z y.2)]
  · have e : tw_u ad (cp5 v k0 k1) k = tw_u ad v k := by
      funext j
      unfold tw_u cp5
      simp [q]
    rw [e]
    exact (hw.1 k kn hk).kept (hko k kn hk q)
theorem kc_X5_75 : Cond.constant N_X5 75 1000000 ∈ BIG := tb_in 623 (by decide +kernel) rfl
theorem kc_X5_67 : Cond.constant N_X5 67 2147483647 ∈ BIG := tb_in 632 (by decide +kernel) rfl
theorem d_X4_has_0 : decode c_X4_has 0 = .ok (.iload_n 1, 1) := by decide +kernel
theorem d_X4_has_1 : decode c_X4_has 1 = .ok (.iconst 0, 1) := by decide +kernel
theorem d_X4_has_2 : decode c_X4_has 2 = .ok (.aload_n 0, 1) := by decide +kernel
theorem d_X4_has_3 : decode c_X4_has 3 = .ok (.getfield 22, 3) := by decide +kernel
theorem d_X4_has_6 : decode c_X4_has 6 = .ok (.iconst 1, 1) := by decide +kernel
theorem d_X4_has_7 : decode c_X4_has 7 = .ok (.isub, 1) := by decide +kernel
theorem d_X4_has_8 : decode c_X4_has 8 = .ok (.invokestatic 26, 3) := by decide +kernel
theorem d_X4_has_11 : decode c_X4_has 11 = .ok (.ireturn, 1) := by decide +kernel
set_option maxHeartbeats 4000000 in
set_option maxRecDepth 100000 in
theorem ct_X4_has_50 (l : Launch) (D : va_G) (dA : Nat → ClassId) (ad : Nat → Nat) (v : tV) (hI : Inv v) (si : Int32) : Met l m_X4_has [.code m_X4_has c_X4_has 2 (some .boolean)] ({ frames := 2, cells := 0, slots := 0, locals := 62 } : Room) (tP D dA ad v [.ref (ad 50), .int si]) (tQi D dA ad (fun r v' => v' = v ∧ ((r = 1 ∧ 0 ≤ si.toInt ∧ si.toInt ≤ (v 50 2).toInt - 1) ∨ (r = 0 ∧ ¬ (0 ≤ si.toInt ∧ si.toInt ≤ (v 50 2).toInt - 1))))) 0 0 (tA ad) := by
  refine tMet (by decide) (Nat.le_of_ble_eq_true rfl) ?_
  intro p e s m below meth c ls X hr hlocks hw hl
  have X : CX p s m ([.ref (ad 50), .int si] : List Value).toArray c c_X4_has N_X4 2 D dA := X
  have hx := X.1
  have hb := X.2.1
  have hS : va_S (tA ad) s.heap s.heap [] := va_S.rf
  have hl : lv_has ls 2 [(0, .ref (ad 50)), (1, .int si)] := hl
  refine lv_iload_n hx hb d_X4_has_0 rfl (lv_at hl 1 rfl) ?_
  refine lv_iconst (v := 0) hx hb d_X4_has_1 (by decide) ?_
  refine lv_aload_n hx hb d_X4_has_2 rfl (lv_at hl 0 rfl) ?_
  refine r_geti X hw FL_X4_22 (rfl : KD 50 = _) rfl d_X4_has_3 ?_
  refine lv_topi (fun x1 ex1 => ?_)
  have r2 : Rg x1 0 8 := by rw [ex1]; exact hI _ _ _ _ rfl
  have hm3 : v 50 2 = x1 := ex1.symm
  refine lv_iconst (v := 1) hx hb d_X4_has_6 (by decide) ?_
  refine lv_isub hx hb d_X4_has_7 ?_
  refine lv_topi (fun x4 ex4 => ?_)
  have r5 : Rg x4 (-1) 7 := rg_sub ex4 r2 (⟨by decide, by decide⟩ : Rg 1 1 1) (by decide) (by decide)
  have s6 : x4.toInt = x1.toInt - (1 : Int32).toInt := by rw [ex4]; exact i_sub (by obtain ⟨_, _⟩ := r2; obtain ⟨_, _⟩ := (⟨by decide, by decide⟩ : Rg 1 1 1); omega) (by obtain ⟨_, _⟩ := r2; obtain ⟨_, _⟩ := (⟨by decide, by decide⟩ : Rg 1 1 1); omega)
  have s6l : (1 : Int32).toInt = 1 := rfl
  refine r_ci (r_runSN (n := 3) (As := [.int si, .int 0, .int x4]) (rest := []) X hw (ct_X10_within l D dA ad v hI si 0 x4) gn_X4_26 gc_X4_26 (by decide +kernel) ⟨rfl, rfl, Nat.le_of_ble_eq_true rfl, Nat.le_of_ble_eq_true rfl⟩ rfl hl.1 rfl (Nat.le_of_ble_eq_true rfl) ⟨Nat.zero_le _, Nat.zero_le _⟩ d_X4_has_8) hS (fun x8 v9 H locs hp7 hw hS => ?_)
  obtain ⟨ev9, hp7⟩ := hp7
  rw [ev9] at hw
  rcases hp7 with ⟨rfl, w10a, w10b⟩ | ⟨rfl, w10n⟩
  · skip
    have r11 : Rg si 0 7 := by obtain ⟨_, _⟩ := (rg_any si); have : (0 : Int32).toInt = 0 := rfl; obtain ⟨_, _⟩ := r5; exact ⟨by omega, by omega⟩
    exact r_zret X hr hlocks hw hS rfl ⟨rfl, Or.inl ⟨rfl, by have q := congrArg Int32.toInt hm3; have : (0 : Int32).toInt = 0 := rfl; omega, by have q := congrArg Int32.toInt hm3; have : (0 : Int32).toInt = 0 := rfl; omega⟩⟩ d_X4_has_11
  · skip
    exact r_zret X hr hlocks hw hS rfl ⟨rfl, Or.inr ⟨rfl, by have q := congrArg Int32.toInt hm3; have : (0 : Int32).toInt = 0 := rfl; omega⟩⟩ d_X4_has_11
theorem d_X6_hasShip_0 : decode c_X6_hasShip 0 = .ok (.iload_n 1, 1) := by decide +kernel
theorem d_X6_hasShip_1 : decode c_X6_hasShip 1 = .ok (.iconst 0, 1) := by decide +kernel
theorem d_X6_hasShip_2 : decode c_X6_hasShip 2 = .ok (.aload_n 0, 1) := by decide +kernel
theorem d_X6_hasShip_3 : decode c_X6_hasShip 3 = .ok (.getfield 29, 3) := by decide +kernel
theorem d_X6_hasShip_6 : decode c_X6_hasShip 6 = .ok (.iconst 1, 1) := by decide +kernel
theorem d_X6_hasShip_7 : decode c_X6_hasShip 7 = .ok (.isub, 1) := by decide +kernel
theorem d_X6_hasShip_8 : decode c_X6_hasShip 8 = .ok (.invokestatic 55, 3) := by decide +kernel
theorem d_X6_hasShip_11 : decode c_X6_hasShip 11 = .ok (.ireturn, 1) := by decide +kernel
set_option maxHeartbeats 4000000 in
set_option maxRecDepth 100000 in
theorem ct_X6_hasShip_1 (l : Launch) (D : va_G) (dA : Nat → ClassId) (ad : Nat → Nat) (v : tV) (hI : Inv v) (si : Int32) : Met l m_X6_hasShip [.code m_X6_hasShip c_X6_hasShip 2 (some .boolean)] ({ frames := 2, cells := 0, slots := 0, locals := 62 } : Room) (tP D dA ad v [.ref (ad 1), .int si]) (tQi D dA ad (fun r v' => v' = v ∧ ((r = 1 ∧ 0 ≤ si.toInt ∧ si.toInt ≤ (v 1 3).toInt - 1) ∨ (r = 0 ∧ ¬ (0 ≤ si.toInt ∧ si.toInt ≤ (v 1 3).toInt - 1))))) 0 0 (tA ad) := by
  refine tMet (by decide) (Nat.le_of_ble_eq_true rfl) ?_
  intro p e s m below meth c ls X hr hlocks hw hl
  have X : CX p s m ([.ref (ad 1), .int si] : List Value).toArray c c_X6_hasShip N_X6 2 D dA := X
  have hx := X.1
  have hb := X.2.1
  have hS : va_S (tA ad) s.heap s.heap [] := va_S.rf
  have hl : lv_has ls 2 [(0, .ref (ad 1)), (1, .int si)] := hl
  refine lv_iload_n hx hb d_X6_hasShip_0 rfl (lv_at hl 1 rfl) ?_
  refine lv_iconst (v := 0) hx hb d_X6_hasShip_1 (by decide) ?_
  refine lv_aload_n hx hb d_X6_hasShip_2 rfl (lv_at hl 0 rfl) ?_
  refine r_geti X hw FL_X6_29 (rfl : KD 1 = _) rfl d_X6_hasShip_3 ?_
  refine lv_topi (fun x1 ex1 => ?_)
  have r2 : Rg x1 0 20 := by rw [ex1]; exact hI _ _ _ _ rfl
  have hm3 : v 1 3 = x1 := ex1.symm
  refine lv_iconst (v := 1) hx hb d_X6_hasShip_6 (by decide) ?_
  refine lv_isub hx hb d_X6_hasShip_7 ?_
  refine lv_topi (fun x4 ex4 => ?_)
  have r5 : Rg x4 (-1) 19 := rg_sub ex4 r2 (⟨by decide, by decide⟩ : Rg 1 1 1) (by decide) (by decide)
  have s6 : x4.toInt = x1.toInt - (1 : Int32).toInt := by rw [ex4]; exact i_sub (by obtain ⟨_, _⟩ := r2; obtain ⟨_, _⟩ := (⟨by decide, by decide⟩ : Rg 1 1 1); omega) (by obtain ⟨_, _⟩ := r2; obtain ⟨_, _⟩ := (⟨by decide, by decide⟩ : Rg 1 1 1); omega)
  have s6l : (1 : Int32).toInt = 1 := rfl
  refine r_ci (r_runSN (n := 3) (As := [.int si, .int 0, .int x4]) (rest := []) X hw (ct_X10_within l D dA ad v hI si 0 x4) gn_X6_55 gc_X6_55 (by decide +kernel) ⟨rfl, rfl, Nat.le_of_ble_eq_true rfl, Nat.le_of_ble_eq_true rfl⟩ rfl hl.1 rfl (Nat.le_of_ble_eq_true rfl) ⟨Nat.zero_le _, Nat.zero_le _⟩ d_X6_hasShip_8) hS (fun x8 v9 H locs hp7 hw hS => ?_)
  obtain ⟨ev9, hp7⟩ := hp7
  rw [ev9] at hw
  rcases hp7 with ⟨rfl, w10a, w10b⟩ | ⟨rfl, w10n⟩
  · skip
    have r11 : Rg si 0 19 := by obtain ⟨_, _⟩ := (rg_any si); have : (0 : Int32).toInt = 0 := rfl; obtain ⟨_, _⟩ := r5; exact ⟨by omega, by omega⟩
    exact r_zret X hr hlocks hw hS rfl ⟨rfl, Or.inl ⟨rfl, by have q := congrArg Int32.toInt hm3; have : (0 : Int32).toInt = 0 := rfl; omega, by have q := congrArg Int32.toInt hm3; have : (0 : Int32).toInt = 0 := rfl; omega⟩⟩ d_X6_hasShip_11
  · skip
    exact r_zret X hr hlocks hw hS rfl ⟨rfl, Or.inr ⟨rfl, by have q := congrArg Int32.toInt hm3; have : (0 : Int32).toInt = 0 := rfl; omega⟩⟩ d_X6_hasShip_11
set_option maxHeartbeats 4000000 in
set_option maxRecDepth 100000 in
theorem ct_X6_hasShip_2 (l : Launch) (D : va_G) (dA : Nat → ClassId) (ad : Nat → Nat) (v : tV) (hI : Inv v) (si : Int32) : Met l m_X6_hasShip [.code m_X6_hasShip c_X6_hasShip 2 (some .boolean)] ({ frames := 2, cells := 0, slots := 0, locals := 62 } : Room) (tP D dA ad v [.ref (ad 2), .int si]) (tQi D dA ad (fun r v' => v' = v ∧ ((r = 1 ∧ 0 ≤ si.toInt ∧ si.toInt ≤ (v 2 3).toInt - 1) ∨ (r = 0 ∧ ¬ (0 ≤ si.toInt ∧ si.toInt ≤ (v 2 3).toInt - 1))))) 0 0 (tA ad) := by
  refine tMet (by decide) (Nat.le_of_ble_eq_true rfl) ?_
  intro p e s m below meth c ls X hr hlocks hw hl
  have X : CX p s m ([.ref (ad 2), .int si] : List Value).toArray c c_X6_hasShip N_X6 2 D dA := X
  have hx := X.1
  have hb := X.2.1
  have hS : va_S (tA ad) s.heap s.heap [] := va_S.rf
  have hl : lv_has ls 2 [(0, .ref (ad 2)), (1, .int si)] := hl
  refine lv_iload_n hx hb d_X6_hasShip_0 rfl (lv_at hl 1 rfl) ?_
  refine lv_iconst (v := 0) hx hb d_X6_hasShip_1 (by decide) ?_
  refine lv_aload_n hx hb d_X6_hasShip_2 rfl (lv_at hl 0 rfl) ?_
  refine r_geti X hw FL_X6_29 (rfl : KD 2 = _) rfl d_X6_hasShip_3 ?_
  refine lv_topi (fun x1 ex1 => ?_)
  have r2 : Rg x1 0 20 := by rw [ex1]; exact hI _ _ _ _ rfl
  have hm3 : v 2 3 = x1 := ex1.symm
  refine lv_iconst (v := 1) hx hb d_X6_hasShip_6 (by decide) ?_
  refine lv_isub hx hb d_X6_hasShip_7 ?_
  refine lv_topi (fun x4 ex4 => ?_)
  have r5 : Rg x4 (-1) 19 := rg_sub ex4 r2 (⟨by decide, by decide⟩ : Rg 1 1 1) (by decide) (by decide)
  have s6 : x4.toInt = x1.toInt - (1 : Int32).toInt := by rw [ex4]; exact i_sub (by obtain ⟨_, _⟩ := r2; obtain ⟨_, _⟩ := (⟨by decide, by decide⟩ : Rg 1 1 1); omega) (by obtain ⟨_, _⟩ := r2; obtain ⟨_, _⟩ := (⟨by decide, by decide⟩ : Rg 1 1 1); omega)
  have s6l : (1 : Int32).toInt = 1 := rfl
  refine r_ci (r_runSN (n := 3) (As := [.int si, .int 0, .int x4]) (rest := []) X hw (ct_X10_within l D dA ad v hI si 0 x4) gn_X6_55 gc_X6_55 (by decide +kernel) ⟨rfl, rfl, Nat.le_of_ble_eq_true rfl, Nat.le_of_ble_eq_true rfl⟩ rfl hl.1 rfl (Nat.le_of_ble_eq_true rfl) ⟨Nat.zero_le _, Nat.zero_le _⟩ d_X6_hasShip_8) hS (fun x8 v9 H locs hp7 hw hS => ?_)
  obtain ⟨ev9, hp7⟩ := hp7
  rw [ev9] at hw
  rcases hp7 with ⟨rfl, w10a, w10b⟩ | ⟨rfl, w10n⟩
  · skip
    have r11 : Rg si 0 19 := by obtain ⟨_, _⟩ := (rg_any si); have : (0 : Int32).toInt = 0 := rfl; obtain ⟨_, _⟩ := r5; exact ⟨by omega, by omega⟩
    exact r_zret X hr hlocks hw hS rfl ⟨rfl, Or.inl ⟨rfl, by have q := congrArg Int32.toInt hm3; have : (0 : Int32).toInt = 0 := rfl; omega, by have q := congrArg Int32.toInt hm3; have : (0 : Int32).toInt = 0 := rfl; omega⟩⟩ d_X6_hasShip_11
  · skip
    exact r_zret X hr hlocks hw hS rfl ⟨rfl, Or.inr ⟨rfl, by have q := congrArg Int32.toInt hm3; have : (0 : Int32).toInt = 0 := rfl; omega⟩⟩ d_X6_hasShip_11
theorem d_X4_inForce_0 : decode c_X4_inForce 0 = .ok (.iconst (-1), 1) := by decide +kernel
theorem d_X4_inForce_1 : decode c_X4_inForce 1 = .ok (.istore_n 2, 1) := by decide +kernel
theorem d_X4_inForce_2 : decode c_X4_inForce 2 = .ok (.iconst 0, 1) := by decide +kernel
theorem d_X4_inForce_3 : decode c_X4_inForce 3 = .ok (.istore_n 3, 1) := by decide +kernel
theorem d_X4_inForce_4 : decode c_X4_inForce 4 = .ok (.iload_n 3, 1) := by decide +kernel
theorem d_X4_inForce_5 : decode c_X4_inForce 5 = .ok (.aload_n 0, 1) := by decide +kernel
theorem d_X4_inForce_6 : decode c_X4_inForce 6 = .ok (.getfield 22, 3) := by decide +kernel
theorem d_X4_inForce_9 : decode c_X4_inForce 9 = .ok (.if_icmp .ge 62, 3) := by decide +kernel
theorem d_X4_inForce_12 : decode c_X4_inForce 12 = .ok (.iload_n 2, 1) := by decide +kernel
theorem d_X4_inForce_13 : decode c_X4_inForce 13 = .ok (.iconst (-1), 1) := by decide +kernel
theorem d_X4_inForce_14 : decode c_X4_inForce 14 = .ok (.if_icmp .eq 24, 3) := by decide +kernel
theorem d_X4_inForce_17 : decode c_X4_inForce 17 = .ok (.aload_n 0, 1) := by decide +kernel
theorem d_X4_inForce_18 : decode c_X4_inForce 18 = .ok (.getfield 11, 3) := by decide +kernel
theorem d_X4_inForce_21 : decode c_X4_inForce 21 = .ok (.iload_n 3, 1) := by decide +kernel
theorem d_X4_inForce_22 : decode c_X4_inForce 22 = .ok (.aaload, 1) := by decide +kernel
theorem d_X4_inForce_23 : decode c_X4_inForce 23 = .ok (.getfield 30, 3) := by decide +kernel
theorem d_X4_inForce_26 : decode c_X4_inForce 26 = .ok (.aload_n 0, 1) := by decide +kernel
theorem d_X4_inForce_27 : decode c_X4_inForce 27 = .ok (.getfield 11, 3) := by decide +kernel
theorem d_X4_inForce_30 : decode c_X4_inForce 30 = .ok (.iload_n 2, 1) := by decide +kernel
theorem d_X4_inForce_31 : decode c_X4_inForce 31 = .ok (.aaload, 1) := by decide +kernel
theorem d_X4_inForce_32 : decode c_X4_inForce 32 = .ok (.getfield 30, 3) := by decide +kernel
theorem d_X4_inForce_35 : decode c_X4_inForce 35 = .ok (.if_icmp .lt 7, 3) := by decide +kernel
theorem d_X4_inForce_38 : decode c_X4_inForce 38 = .ok (.iconst 1, 1) := by decide +kernel
theorem d_X4_inForce_39 : decode c_X4_inForce 39 = .ok (.goto 4, 3) := by decide +kernel
theorem d_X4_inForce_42 : decode c_X4_inForce 42 = .ok (.iconst 0, 1) := by decide +kernel
theorem d_X4_inForce_43 : decode c_X4_inForce 43 = .ok (.istore 4, 2) := by decide +kernel
theorem d_X4_inForce_45 : decode c_X4_inForce 45 = .ok (.iload 4, 2) := by decide +kernel
theorem d_X4_inForce_47 : decode c_X4_inForce 47 = .ok (.ifCond .eq 18, 3) := by decide +kernel
theorem d_X4_inForce_50 : decode c_X4_inForce 50 = .ok (.aload_n 0, 1) := by decide +kernel
theorem d_X4_inForce_51 : decode c_X4_inForce 51 = .ok (.getfield 11, 3) := by decide +kernel
theorem d_X4_inForce_54 : decode c_X4_inForce 54 = .ok (.iload_n 3, 1) := by decide +kernel
theorem d_X4_inForce_55 : decode c_X4_inForce 55 = .ok (.aaload, 1) := by decide +kernel
theorem d_X4_inForce_56 : decode c_X4_inForce 56 = .ok (.getfield 30, 3) := by decide +kernel
theorem d_X4_inForce_59 : decode c_X4_inForce 59 = .ok (.iload_n 1, 1) := by decide +kernel
theorem d_X4_inForce_60 : decode c_X4_inForce 60 = .ok (.if_icmp .gt 5, 3) := by decide +kernel
theorem d_X4_inForce_63 : decode c_X4_inForce 63 = .ok (.iload_n 3, 1) := by decide +kernel
theorem d_X4_inForce_64 : decode c_X4_inForce 64 = .ok (.istore_n 2, 1) := by decide +kernel
theorem d_X4_inForce_65 : decode c_X4_inForce 65 = .ok (.iinc 3 1, 3) := by decide +kernel
theorem d_X4_inForce_68 : decode c_X4_inForce 68 = .ok (.goto (-64), 3) := by decide +kernel
theorem d_X4_inForce_71 : decode c_X4_inForce 71 = .ok (.iload_n 2, 1) := by decide +kernel
theorem d_X4_inForce_72 : decode c_X4_inForce 72 = .ok (.ireturn, 1) := by decide +kernel
set_option maxHeartbeats 4000000 in
set_option maxRecDepth 100000 in
theorem ct_X4_inForce_50 (l : Launch) (D : va_G) (dA : Nat → ClassId) (ad : Nat → Nat) (v : tV) (hI : Inv v) (dy : Int32) : Met l m_X4_inForce [.code m_X4_inForce c_X4_inForce 5 (some .int)] ({ frames := 1, cells := 0, slots := 0, locals := 40 } : Room) (tP D dA ad v [.ref (ad 50), .int dy]) (tQi D dA ad (fun r v' => v' = v ∧ Rg r (-1) 7)) 0 0 (tA ad) := by
  refine tMet (by decide) (Nat.le_of_ble_eq_true rfl) ?_
  intro p e s m below meth c ls X hr hlocks hw hl
  have X : CX p s m ([.ref (ad 50), .int dy] : List Value).toArray c c_X4_inForce N_X4 5 D dA := X
  have hx := X.1
  have hb := X.2.1
  have hS : va_S (tA ad) s.heap s.heap [] := va_S.rf
  have hl : lv_has ls 5 [(0, .ref (ad 50)), (1, .int dy)] := hl
  have LL : ∀ n : Nat, (∀ (y2 : Int32) (y3 : Int32)  (H : Heap) (locs : List Loc) (ls : Array Slot), (8 - y3.toInt).toNat < n → Rg y2 (-1) 7 → Rg y3 0 8 → tI D dA ad v H → va_S (tA ad) s.heap H locs → lv_has ls 5 [(0, .ref (ad 50)), (1, .int dy), (2, .int y2), (3, .int y3)] → W p l e ({ frames := 1, cells := 0, slots := 0, locals := 40 } : Room) s m ([.ref (ad 50), .int dy] : List Value).toArray below meth c H locs 0 0 (MQ below (tQi D dA ad (fun r v' => v' = v ∧ Rg r (-1) 7)) ([.ref (ad 50), .int dy] : List Value).toArray s 0 0 (tA ad)) (F0 m 4 ls [])) := by
    intro n
    induction n with
    | zero => intros; omega
    | succ n ih =>
      have ih0 := ih
      intro y2 y3 H locs ls hmu r_y2 r_y3 hw hS hl
      refine lv_iload_n hx hb d_X4_inForce_4 rfl (lv_at hl 3 rfl) ?_
      refine lv_aload_n hx hb d_X4_inForce_5 rfl (lv_at hl 0 rfl) ?_
      refine r_geti X hw FL_X4_22 (rfl : KD 50 = _) rfl d_X4_inForce_6 ?_
      refine lv_topi (fun x1 ex1 => ?_)
      have r2 : Rg x1 0 8 := by rw [ex1]; exact hI _ _ _ _ rfl
      have hm3 : v 50 2 = x1 := ex1.symm
      refine lv_icmp_ge (tgt := 71) hx hb d_X4_inForce_9 (by decide) (fun c4 => ?_) (fun c4 => ?_)
      · have f5 := i_le c4
        refine lv_iload_n hx hb d_X4_inForce_71 rfl (lv_at hl 2 rfl) ?_
        exact r_iret X hr hlocks hw hS ⟨rfl, r_y2⟩ d_X4_inForce_72
      · have f6 := i_nle c4
        have r7 : Rg y3 0 7 := by obtain ⟨a1, a2⟩ := r_y3; obtain ⟨b1, b2⟩ := r2; have f := i_nle c4; exact ⟨by omega, by omega⟩
        have r8 : Rg x1 1 8 := by obtain ⟨a1, a2⟩ := r_y3; obtain ⟨b1, b2⟩ := r2; have f := i_nle c4; exact ⟨by omega, by omega⟩
        refine lv_iload_n hx hb d_X4_inForce_12 rfl (lv_at hl 2 rfl) ?_
        refine lv_iconst (v := -1) hx hb d_X4_inForce_13 (by decide) ?_
        refine lv_icmp_eq (tgt := 38) hx hb d_X4_inForce_14 (by decide) (fun c9 => ?_) (fun c9 => ?_)
        · have f10 := i_eq c9
          have r11 : Rg y2 (-1) (-1) := by obtain ⟨a1, a2⟩ := r_y2; obtain ⟨b1, b2⟩ := (⟨by decide, by decide⟩ : Rg (-1) (-1) (-1)); have f := i_eq c9; exact ⟨by omega, by omega⟩
          refine lv_iconst (v := 1) hx hb d_X4_inForce_38 (by decide) ?_
          refine lv_goto (tgt := 43) hx hb d_X4_inForce_39 (by decide) ?_
          refine lv_istore (lv' := [(4, .int 1), (0, .ref (ad 50)), (1, .int dy), (2, .int y2), (3, .int y3)]) hx hb d_X4_inForce_43 hl (by decide) rfl (fun ls hl => ?_)
          refine lv_iload hx hb d_X4_inForce_45 (lv_at hl 0 rfl) ?_
          refine lv_if_eq (tgt := 65) hx hb d_X4_inForce_47 (by decide) (fun c12 => ?_) (fun c12 => ?_)
          · exact absurd c12 (by decide)
          · refine lv_aload_n hx hb d_X4_inForce_50 rfl (lv_at hl 1 rfl) ?_
            refine r_getr (r := 51) X hw FL_X4_11 (rfl : KD 50 = _) rfl d_X4_inForce_51 ?_
            refine lv_iload_n hx hb d_X4_inForce_54 rfl (lv_at hl 4 rfl) ?_
            refine r_aald X hw (rfl : KD 51 = _) (Or.inr (Or.inr (Or.inr rfl))) (Rg.vp (b := 7) r7 (by decide)) rfl d_X4_inForce_55 ?_
            refine r_nm (fun kc13 ekc13 => ?_)
            have kc13a : 60 ≤ kc13 := by omega
            have kc13b : kc13 ≤ 67 := by have := Rg.nat r7; omega
            refine r_geti X hw FL_X4_30 (KD_order (by omega) (by omega)) (SH_order (by omega) (by omega) (by decide)) d_X4_inForce_56 ?_
            refine lv_topi (fun x14 ex14 => ?_)
            refine lv_iload_n hx hb d_X4_inForce_59 rfl (lv_at hl 2 rfl) ?_
            refine lv_icmp_gt (tgt := 65) hx hb d_X4_inForce_60 (by decide) (fun c15 => ?_) (fun c15 => ?_)
            · have f16 := i_lt c15
              obtain ⟨x17, ex17⟩ : ∃ y : Int32, y = y3 + 1 := ⟨_, rfl⟩
              refine lv_iinc (v := x17) (lv' := [(3, .int x17), (4, .int 1), (0, .ref (ad 50)), (1, .int dy), (2, .int y2)]) hx hb d_X4_inForce_65 hl (k := 4) rfl (by rw [ex17]; rfl) (by decide) rfl (fun ls hl => ?_)
              have r18 : Rg x17 1 8 := rg_add ex17 r7 (⟨by decide, by decide⟩ : Rg 1 1 1) (by decide) (by decide)
              have s19 : x17.toInt = y3.toInt + (1 : Int32).toInt := by rw [ex17]; exact i_add (by obtain ⟨_, _⟩ := r7; obtain ⟨_, _⟩ := (⟨by decide, by decide⟩ : Rg 1 1 1); omega) (by obtain ⟨_, _⟩ := r7; obtain ⟨_, _⟩ := (⟨by decide, by decide⟩ : Rg 1 1 1); omega)
              have s19l : (1 : Int32).toInt = 1 := rfl
              refine lv_goto (tgt := 4) hx hb d_X4_inForce_68 (by decide) ?_
              exact ih0 y2 x17 _ _ _ (by have := s19; obtain ⟨_, _⟩ := r11; obtain ⟨_, _⟩ := r18; omega) (rg_w r11 (by decide) (by decide)) (rg_w r18 (by decide) (by decide)) hw hS (lv_sub hl [2, 3, 4, 0] rfl)
            · have f20 := i_nlt c15
              refine lv_iload_n hx hb d_X4_inForce_63 rfl (lv_at hl 4 rfl) ?_
              refine lv_istore_n (lv' := [(2, .int y3), (4, .int 1), (0, .ref (ad 50)), (1, .int dy), (3, .int y3)]) hx hb d_X4_inForce_64 rfl hl (by decide) rfl (fun ls hl => ?_)
              obtain ⟨x21, ex21⟩ : ∃ y : Int32, y = y3 + 1 := ⟨_, rfl⟩
              refine lv_iinc (v := x21) (lv' := [(3, .int x21), (2, .int y3), (4, .int 1), (0, .ref (ad 50)), (1, .int dy)]) hx hb d_X4_inForce_65 hl (k := 4) rfl (by rw [ex21]; rfl) (by decide) rfl (fun ls hl => ?_)
              have r22 : Rg x21 1 8 := rg_add ex21 r7 (⟨by decide, by decide⟩ : Rg 1 1 1) (by decide) (by decide)
              have s23 : x21.toInt = y3.toInt + (1 : Int32).toInt := by rw [ex21]; exact i_add (by obtain ⟨_, _⟩ := r7; obtain ⟨_, _⟩ := (⟨by decide, by decide⟩ : Rg 1 1 1); omega) (by obtain ⟨_, _⟩ := r7; obtain ⟨_, _⟩ := (⟨by decide, by decide⟩ : Rg 1 1 1); omega)
              have s23l : (1 : Int32).toInt = 1 := rfl
              refine lv_goto (tgt := 4) hx hb d_X4_inForce_68 (by decide) ?_
              exact ih0 y3 x21 _ _ _ (by have := s23; obtain ⟨_, _⟩ := r7; obtain ⟨_, _⟩ := r22; omega) (rg_w r7 (by decide) (by decide)) (rg_w r22 (by decide) (by decide)) hw hS (lv_sub hl [3, 4, 1, 0] rfl)
        · have f24 := i_ne c9
          have r25 : Rg y2 0 7 := by obtain ⟨a1, a2⟩ := r_y2; obtain ⟨b1, b2⟩ := (⟨by decide, by decide⟩ : Rg (-1) (-1) (-1)); have f := i_ne c9; exact ⟨by omega, by omega⟩
          refine lv_aload_n hx hb d_X4_inForce_17 rfl (lv_at hl 0 rfl) ?_
          refine r_getr (r := 51) X hw FL_X4_11 (rfl : KD 50 = _) rfl d_X4_inForce_18 ?_
          refine lv_iload_n hx hb d_X4_inForce_21 rfl (lv_at hl 3 rfl) ?_
          refine r_aald X hw (rfl : KD 51 = _) (Or.inr (Or.inr (Or.inr rfl))) (Rg.vp (b := 7) r7 (by decide)) rfl d_X4_inForce_22 ?_
          refine r_nm (fun kc26 ekc26 => ?_)
          have kc26a : 60 ≤ kc26 := by omega
          have kc26b : kc26 ≤ 67 := by have := Rg.nat r7; omega
          refine r_geti X hw FL_X4_30 (KD_order (by omega) (by omega)) (SH_order (by omega) (by omega) (by decide)) d_X4_inForce_23 ?_
          refine lv_topi (fun x27 ex27 => ?_)
          refine lv_aload_n hx hb d_X4_inForce_26 rfl (lv_at hl 0 rfl) ?_
          refine r_getr (r := 51) X hw FL_X4_11 (rfl : KD 50 = _) rfl d_X4_inForce_27 ?_
          refine lv_iload_n hx hb d_X4_inForce_30 rfl (lv_at hl 2 rfl) ?_
          refine r_aald X hw (rfl : KD 51 = _) (Or.inr (Or.inr (Or.inr rfl))) (Rg.vp (b := 7) r25 (by decide)) rfl d_X4_inForce_31 ?_
          refine r_nm (fun kc28 ekc28 => ?_)
          have kc28a : 60 ≤ kc28 := by omega
          have kc28b : kc28 ≤ 67 := by have := Rg.nat r25; omega
          refine r_geti X hw FL_X4_30 (KD_order (by omega) (by omega)) (SH_order (by omega) (by omega) (by decide)) d_X4_inForce_32 ?_
          refine lv_topi (fun x29 ex29 => ?_)
          refine lv_icmp_lt (tgt := 42) hx hb d_X4_inForce_35 (by decide) (fun c30 => ?_) (fun c30 => ?_)
          · have f31 := i_lt c30
            refine lv_iconst (v := 0) hx hb d_X4_inForce_42 (by decide) ?_
            refine lv_istore (lv' := [(4, .int 0), (0, .ref (ad 50)), (1, .int dy), (2, .int y2), (3, .int y3)]) hx hb d_X4_inForce_43 hl (by decide) rfl (fun ls hl => ?_)
            refine lv_iload hx hb d_X4_inForce_45 (lv_at hl 0 rfl) ?_
            refine lv_if_eq (tgt := 65) hx hb d_X4_inForce_47 (by decide) (fun c32 => ?_) (fun c32 => ?_)
            · obtain ⟨x33, ex33⟩ : ∃ y : Int32, y = y3 + 1 := ⟨_, rfl⟩
              refine lv_iinc (v := x33) (lv' := [(3, .int x33), (4, .int 0), (0, .ref (ad 50)), (1, .int dy), (2, .int y2)]) hx hb d_X4_inForce_65 hl (k := 4) rfl (by rw [ex33]; rfl) (by decide) rfl (fun ls hl => ?_)
              have r34 : Rg x33 1 8 := rg_add ex33 r7 (⟨by decide, by decide⟩ : Rg 1 1 1) (by decide) (by decide)
              have s35 : x33.toInt = y3.toInt + (1 : Int32).toInt := by rw [ex33]; exact i_add (by obtain ⟨_, _⟩ := r7; obtain ⟨_, _⟩ := (⟨by decide, by decide⟩ : Rg 1 1 1); omega) (by obtain ⟨_, _⟩ := r7; obtain ⟨_, _⟩ := (⟨by decide, by decide⟩ : Rg 1 1 1); omega)
              have s35l : (1 : Int32).toInt = 1 := rfl
              refine lv_goto (tgt := 4) hx hb d_X4_inForce_68 (by decide) ?_
              exact ih0 y2 x33 _ _ _ (by have := s35; obtain ⟨_, _⟩ := r25; obtain ⟨_, _⟩ := r34; omega) (rg_w r25 (by decide) (by decide)) (rg_w r34 (by decide) (by decide)) hw hS (lv_sub hl [2, 3, 4, 0] rfl)
            · exact absurd c32 (by decide)
          · have f36 := i_nlt c30
            refine lv_iconst (v := 1) hx hb d_X4_inForce_38 (by decide) ?_
            refine lv_goto (tgt := 43) hx hb d_X4_inForce_39 (by decide) ?_
            refine lv_istore (lv' := [(4, .int 1), (0, .ref (ad 50)), (1, .int dy), (2, .int y2), (3, .int y3)]) hx hb d_X4_inForce_43 hl (by decide) rfl (fun ls hl => ?_)
            refine lv_iload hx hb d_X4_inForce_45 (lv_at hl 0 rfl) ?_
            refine lv_if_eq (tgt := 65) hx hb d_X4_inForce_47 (by decide) (fun c37 => ?_) (fun c37 => ?_)
            · exact absurd c37 (by decide)
            · refine lv_aload_n hx hb d_X4_inForce_50 rfl (lv_at hl 1 rfl) ?_
              refine r_getr (r := 51) X hw FL_X4_11 (rfl : KD 50 = _) rfl d_X4_inForce_51 ?_
              refine lv_iload_n hx hb d_X4_inForce_54 rfl (lv_at hl 4 rfl) ?_
              refine r_aald X hw (rfl : KD 51 = _) (Or.inr (Or.inr (Or.inr rfl))) (Rg.vp (b := 7) r7 (by decide)) rfl d_X4_inForce_55 ?_
              refine r_nm (fun kc38 ekc38 => ?_)
              have kc38a : 60 ≤ kc38 := by omega
              have kc38b : kc38 ≤ 67 := by have := Rg.nat r7; omega
              refine r_geti X hw FL_X4_30 (KD_order (by omega) (by omega)) (SH_order (by omega) (by omega) (by decide)) d_X4_inForce_56 ?_
              refine lv_topi (fun x39 ex39 => ?_)
              refine lv_iload_n hx hb d_X4_inForce_59 rfl (lv_at hl 2 rfl) ?_
              refine lv_icmp_gt (tgt := 65) hx hb d_X4_inForce_60 (by decide) (fun c40 => ?_) (fun c40 => ?_)
              · have f41 := i_lt c40
                obtain ⟨x42, ex42⟩ : ∃ y : Int32, y = y3 + 1 := ⟨_, rfl⟩
                refine lv_iinc (v := x42) (lv' := [(3, .int x42), (4, .int 1), (0, .ref (ad 50)), (1, .int dy), (2, .int y2)]) hx hb d_X4_inForce_65 hl (k := 4) rfl (by rw [ex42]; rfl) (by decide) rfl (fun ls hl => ?_)
                have r43 : Rg x42 1 8 := rg_add ex42 r7 (⟨by decide, by decide⟩ : Rg 1 1 1) (by decide) (by decide)
                have s44 : x42.toInt = y3.toInt + (1 : Int32).toInt := by rw [ex42]; exact i_add (by obtain ⟨_, _⟩ := r7; obtain ⟨_, _⟩ := (⟨by decide, by decide⟩ : Rg 1 1 1); omega) (by obtain ⟨_, _⟩ := r7; obtain ⟨_, _⟩ := (⟨by decide, by decide⟩ : Rg 1 1 1); omega)
                have s44l : (1 : Int32).toInt = 1 := rfl
                refine lv_goto (tgt := 4) hx hb d_X4_inForce_68 (by decide) ?_
                exact ih0 y2 x42 _ _ _ (by have := s44; obtain ⟨_, _⟩ := r25; obtain ⟨_, _⟩ := r43; omega) (rg_w r25 (by decide) (by decide)) (rg_w r43 (by decide) (by decide)) hw hS (lv_sub hl [2, 3, 4, 0] rfl)
              · have f45 := i_nlt c40
                refine lv_iload_n hx hb d_X4_inForce_63 rfl (lv_at hl 4 rfl) ?_
                refine lv_istore_n (lv' := [(2, .int y3), (4, .int 1), (0, .ref (ad 50)), (1, .int dy), (3, .int y3)]) hx hb d_X4_inForce_64 rfl hl (by decide) rfl (fun ls hl => ?_)
                obtain ⟨x46, ex46⟩ : ∃ y : Int32, y = y3 + 1 := ⟨_, rfl⟩
                refine lv_iinc (v := x46) (lv' := [(3, .int x46), (2, .int y3), (4, .int 1), (0, .ref (ad 50)), (1, .int dy)]) hx hb d_X4_inForce_65 hl (k := 4) rfl (by rw [ex46]; rfl) (by decide) rfl (fun ls hl => ?_)
                have r47 : Rg x46 1 8 := rg_add ex46 r7 (⟨by decide, by decide⟩ : Rg 1 1 1) (by decide) (by decide)
                have s48 : x46.toInt = y3.toInt + (1 : Int32).toInt := by rw [ex46]; exact i_add (by obtain ⟨_, _⟩ := r7; obtain ⟨_, _⟩ := (⟨by decide, by decide⟩ : Rg 1 1 1); omega) (by obtain ⟨_, _⟩ := r7; obtain ⟨_, _⟩ := (⟨by decide, by decide⟩ : Rg 1 1 1); omega)
                have s48l : (1 : Int32).toInt = 1 := rfl
                refine lv_goto (tgt := 4) hx hb d_X4_inForce_68 (by decide) ?_
                exact ih0 y3 x46 _ _ _ (by have := s48; obtain ⟨_, _⟩ := r7; obtain ⟨_, _⟩ := r47; omega) (rg_w r7 (by decide) (by decide)) (rg_w r47 (by decide) (by decide)) hw hS (lv_sub hl [3, 4, 1, 0] rfl)
  have ih0 := LL 100000
  refine lv_iconst (v := -1) hx hb d_X4_inForce_0 (by decide) ?_
  refine lv_istore_n (lv' := [(2, .int (-1)), (0, .ref (ad 50)), (1, .int dy)]) hx hb d_X4_inForce_1 rfl hl (by decide) rfl (fun ls hl => ?_)
  refine lv_iconst (v := 0) hx hb d_X4_inForce_2 (by decide) ?_
  refine lv_istore_n (lv' := [(3, .int 0), (2, .int (-1)), (0, .ref (ad 50)), (1, .int dy)]) hx hb d_X4_inForce_3 rfl hl (by decide) rfl (fun ls hl => ?_)
  exact ih0 (-1) 0 _ _ _ (by obtain ⟨_, _⟩ := (⟨by decide, by decide⟩ : Rg (-1) (-1) (-1)); obtain ⟨_, _⟩ := (⟨by decide, by decide⟩ : Rg 0 0 0); omega) (rg_w (⟨by decide, by decide⟩ : Rg (-1) (-1) (-1)) (by decide) (by decide)) (rg_w (⟨by decide, by decide⟩ : Rg 0 0 0) (by decide) (by decide)) hw hS (lv_sub hl [2, 3, 1, 0] rfl)
theorem d_X4_ruleOn_0 : decode c_X4_ruleOn 0 = .ok (.aload_n 0, 1) := by decide +kernel
theorem d_X4_ruleOn_1 : decode c_X4_ruleOn 1 = .ok (.iload_n 1, 1) := by decide +kernel
theorem d_X4_ruleOn_2 : decode c_X4_ruleOn 2 = .ok (.invokevirtual 33, 3) := by decide +kernel
theorem d_X4_ruleOn_5 : decode c_X4_ruleOn 5 = .ok (.istore_n 2, 1) := by decide +kernel
theorem d_X4_ruleOn_6 : decode c_X4_ruleOn 6 = .ok (.iload_n 2, 1) := by decide +kernel
theorem d_X4_ruleOn_7 : decode c_X4_ruleOn 7 = .ok (.iconst (-1), 1) := by decide +kernel
theorem d_X4_ruleOn_8 : decode c_X4_ruleOn 8 = .ok (.if_icmp .ne 10, 3) := by decide +kernel
theorem d_X4_ruleOn_11 : decode c_X4_ruleOn 11 = .ok (.aload_n 0, 1) := by decide +kernel
theorem d_X4_ruleOn_12 : decode c_X4_ruleOn 12 = .ok (.getfield 18, 3) := by decide +kernel
theorem d_X4_ruleOn_15 : decode c_X4_ruleOn 15 = .ok (.goto 9, 3) := by decide +kernel
theorem d_X4_ruleOn_18 : decode c_X4_ruleOn 18 = .ok (.aload_n 0, 1) := by decide +kernel
theorem d_X4_ruleOn_19 : decode c_X4_ruleOn 19 = .ok (.getfield 11, 3) := by decide +kernel
theorem d_X4_ruleOn_22 : decode c_X4_ruleOn 22 = .ok (.iload_n 2, 1) := by decide +kernel
theorem d_X4_ruleOn_23 : decode c_X4_ruleOn 23 = .ok (.aaload, 1) := by decide +kernel
theorem d_X4_ruleOn_24 : decode c_X4_ruleOn 24 = .ok (.areturn, 1) := by decide +kernel
set_option maxHeartbeats 4000000 in
set_option maxRecDepth 100000 in
theorem ct_X4_ruleOn_50 (l : Launch) (D : va_G) (dA : Nat → ClassId) (ad : Nat → Nat) (v : tV) (hI : Inv v) (dy : Int32) : Met l m_X4_ruleOn [.code m_X4_ruleOn c_X4_ruleOn 3 (some (.object "CoalTurns$Order"))] ({ frames := 2, cells := 0, slots := 0, locals := 64 } : Room) (tP D dA ad v [.ref (ad 50), .int dy]) (tQr D dA ad (fun r v' => v' = v ∧ 60 ≤ r ∧ r < 69)) 0 0 (tA ad) := by
  refine tMet (by decide) (Nat.le_of_ble_eq_true rfl) ?_
  intro p e s m below meth c ls X hr hlocks hw hl
  have X : CX p s m ([.ref (ad 50), .int dy] : List Value).toArray c c_X4_ruleOn N_X4 3 D dA := X
  have hx := X.1
  have hb := X.2.1
  have hS : va_S (tA ad) s.heap s.heap [] := va_S.rf
  have hl : lv_has ls 3 [(0, .ref (ad 50)), (1, .int dy)] := hl
  refine lv_aload_n hx hb d_X4_ruleOn_0 rfl (lv_at hl 0 rfl) ?_
  refine lv_iload_n hx hb d_X4_ruleOn_1 rfl (lv_at hl 1 rfl) ?_
  refine r_ci (r_runV (n := 1) (As := [.int dy]) (rest := []) X hw (ct_X4_inForce_50 l D dA ad v hI dy) gc_X4_33 (rfl : KD 50 = _) (by decide) rfl (by decide +kernel) ⟨rfl, rfl, Nat.le_of_ble_eq_true rfl, Nat.le_of_ble_eq_true rfl⟩ rfl hl.1 rfl (Nat.le_of_ble_eq_true rfl) ⟨Nat.zero_le _, Nat.zero_le _⟩ d_X4_ruleOn_2) hS (fun x2 v3 H locs hp1 hw hS => ?_)
  obtain ⟨ev3, hp1⟩ := hp1
  rw [ev3] at hw
  refine lv_istore_n (lv' := [(2, .int x2), (0, .ref (ad 50)), (1, .int dy)]) hx hb d_X4_ruleOn_5 rfl hl (by decide) rfl (fun ls hl => ?_)
  refine lv_iload_n hx hb d_X4_ruleOn_6 rfl (lv_at hl 0 rfl) ?_
  refine lv_iconst (v := -1) hx hb d_X4_ruleOn_7 (by decide) ?_
  refine lv_icmp_ne (tgt := 18) hx hb d_X4_ruleOn_8 (by decide) (fun c4 => ?_) (fun c4 => ?_)
  · have f5 := i_ne c4
    have r6 : Rg x2 0 7 := by obtain ⟨a1, a2⟩ := hp1; obtain ⟨b1, b2⟩ := (⟨by decide, by decide⟩ : Rg (-1) (-1) (-1)); have f := i_ne c4; exact ⟨by omega, by omega⟩
    refine lv_aload_n hx hb d_X4_ruleOn_18 rfl (lv_at hl 1 rfl) ?_
    refine r_getr (r := 51) X hw FL_X4_11 (rfl : KD 50 = _) rfl d_X4_ruleOn_19 ?_
    refine lv_iload_n hx hb d_X4_ruleOn_22 rfl (lv_at hl 0 rfl) ?_
    refine r_aald X hw (rfl : KD 51 = _) (Or.inr (Or.inr (Or.inr rfl))) (Rg.vp (b := 7) r6 (by decide)) rfl d_X4_ruleOn_23 ?_
    refine r_nm (fun kc7 ekc7 => ?_)
    have kc7a : 60 ≤ kc7 := by omega
    have kc7b : kc7 ≤ 67 := by have := Rg.nat r6; omega
    exact r_aret X hr hlocks hw hS ⟨rfl, by omega, by omega⟩ d_X4_ruleOn_24
  · have f8 := i_eq c4
    have r9 : Rg x2 (-1) (-1) := by obtain ⟨a1, a2⟩ := hp1; obtain ⟨b1, b2⟩ := (⟨by decide, by decide⟩ : Rg (-1) (-1) (-1)); have f := i_eq c4; exact ⟨by omega, by omega⟩
    refine lv_aload_n hx hb d_X4_ruleOn_11 rfl (lv_at hl 1 rfl) ?_
    refine r_getr (r := 68) X hw FL_X4_18 (rfl : KD 50 = _) rfl d_X4_ruleOn_12 ?_
    refine r_nm (fun kc10 ekc10 => ?_)
    refine lv_goto (tgt := 24) hx hb d_X4_ruleOn_15 (by decide) ?_
    exact r_aret X hr hlocks hw hS ⟨rfl, by omega, by omega⟩ d_X4_ruleOn_24
theorem d_X5_rank_0 : decode c_X5_rank 0 = .ok (.aload_n 2, 1) := by decide +kernel
theorem d_X5_rank_1 : decode c_X5_rank 1 = .ok (.iload_n 0, 1) := by decide +kernel
theorem d_X5_rank_2 : decode c_X5_rank 2 = .ok (.aload_n 1, 1) := by decide +kernel
theorem d_X5_rank_3 : decode c_X5_rank 3 = .ok (.iload_n 3, 1) := by decide +kernel
theorem d_X5_rank_4 : decode c_X5_rank 4 = .ok (.invokevirtual 68, 3) := by decide +kernel
theorem d_X5_rank_7 : decode c_X5_rank 7 = .ok (.aload_n 1, 1) := by decide +kernel
theorem d_X5_rank_8 : decode c_X5_rank 8 = .ok (.getfield 72, 3) := by decide +kernel
theorem d_X5_rank_11 : decode c_X5_rank 11 = .ok (.iconst 2, 1) := by decide +kernel
theorem d_X5_rank_12 : decode c_X5_rank 12 = .ok (.if_icmp .ne 8, 3) := by decide +kernel
theorem d_X5_rank_15 : decode c_X5_rank 15 = .ok (.ldc 75, 2) := by decide +kernel
theorem d_X5_rank_17 : decode c_X5_rank 17 = .ok (.goto 4, 3) := by decide +kernel
theorem d_X5_rank_20 : decode c_X5_rank 20 = .ok (.iconst 0, 1) := by decide +kernel
theorem d_X5_rank_21 : decode c_X5_rank 21 = .ok (.iadd, 1) := by decide +kernel
theorem d_X5_rank_22 : decode c_X5_rank 22 = .ok (.ireturn, 1) := by decide +kernel
set_option maxHeartbeats 4000000 in
set_option maxRecDepth 100000 in
theorem ct_X5_rank (l : Launch) (D : va_G) (dA : Nat → ClassId) (ad : Nat → Nat) (v : tV) (hI : Inv v) (si : Int32) (k : Nat) (k2 : Nat) (today : Int32) (ka : 100 ≤ k) (kb : k < 160) (k2a : 60 ≤ k2) (k2b : k2 < 69) : Met l m_X5_rank [.code m_X5_rank c_X5_rank 4 (some .int)] ({ frames := 2, cells := 0, slots := 0, locals := 63 } : Room) (tP D dA ad v [.int si, .ref (ad k), .ref (ad k2), .int today]) (tQi D dA ad (fun r v' => v' = v)) 0 0 (tA ad) := by
  refine tMet (by decide) (Nat.le_of_ble_eq_true rfl) ?_
  intro p e s m below meth c ls X hr hlocks hw hl
  have X : CX p s m ([.int si, .ref (ad k), .ref (ad k2), .int today] : List Value).toArray c c_X5_rank N_X5 4 D dA := X
  have hx := X.1
  have hb := X.2.1
  have hS : va_S (tA ad) s.heap s.heap [] := va_S.rf
  have hl : lv_has ls 4 [(0, .int si), (1, .ref (ad k)), (2, .ref (ad k2)), (3, .int today)] := hl
  refine lv_aload_n hx hb d_X5_rank_0 rfl (lv_at hl 2 rfl) ?_
  refine lv_iload_n hx hb d_X5_rank_1 rfl (lv_at hl 0 rfl) ?_
  refine lv_aload_n hx hb d_X5_rank_2 rfl (lv_at hl 1 rfl) ?_
  refine lv_iload_n hx hb d_X5_rank_3 rfl (lv_at hl 3 rfl) ?_
  refine r_ci (r_runV (n := 3) (As := [.int si, .ref (ad k), .int today]) (rest := []) X hw (ct_X3_keyOf l D dA ad v hI k2 si k today (by omega) (by omega) (by omega) (by omega)) gc_X5_68 (KD_order (by omega) (by omega)) (by decide) rfl (by decide +kernel) ⟨rfl, rfl, Nat.le_of_ble_eq_true rfl, Nat.le_of_ble_eq_true rfl⟩ rfl hl.1 rfl (Nat.le_of_ble_eq_true rfl) ⟨Nat.zero_le _, Nat.zero_le _⟩ d_X5_rank_4) hS (fun x2 v3 H locs hp1 hw hS => ?_)
  rw [hp1] at hw
  refine lv_aload_n hx hb d_X5_rank_7 rfl (lv_at hl 1 rfl) ?_
  refine r_geti X hw FL_X5_72 (KD_ship (by omega) (by omega)) (SH_ship (by omega) (by omega)) d_X5_rank_8 ?_
  refine lv_topi (fun x4 ex4 => ?_)
  refine lv_iconst (v := 2) hx hb d_X5_rank_11 (by decide) ?_
  refine lv_icmp_ne (tgt := 20) hx hb d_X5_rank_12 (by decide) (fun c5 => ?_) (fun c5 => ?_)
  · have f6 := i_ne c5
    refine lv_iconst (v := 0) hx hb d_X5_rank_20 (by decide) ?_
    refine lv_iadd hx hb d_X5_rank_21 ?_
    refine lv_topi (fun x7 ex7 => ?_)
    exact r_iret X hr hlocks hw hS rfl d_X5_rank_22
  · have f8 := i_eq c5
    have r9 : Rg x4 2 2 := by obtain ⟨a1, a2⟩ := (rg_any x4); obtain ⟨b1, b2⟩ := (⟨by decide, by decide⟩ : Rg 2 2 2); have f := i_eq c5; exact ⟨by omega, by omega⟩
    refine lv_ldc hx hb X.2.2.2.1 (X.2.2.2.2.1 _ kc_X5_75) d_X5_rank_15 ?_
    refine lv_goto (tgt := 21) hx hb d_X5_rank_17 (by decide) ?_
    refine lv_iadd hx hb d_X5_rank_21 ?_
    refine lv_topi (fun x10 ex10 => ?_)
    exact r_iret X hr hlocks hw hS rfl d_X5_rank_22
theorem d_X5_insert_0 : decode c_X5_insert 0 = .ok (.aload_n 0, 1) := by decide +kernel
theorem d_X5_insert_1 : decode c_X5_insert 1 = .ok (.getfield 18, 3) := by decide +kernel
theorem d_X5_insert_4 : decode c_X5_insert 4 = .ok (.bipush 20, 2) := by decide +kernel
theorem d_X5_insert_6 : decode c_X5_insert 6 = .ok (.if_icmp .lt 4, 3) := by decide +kernel
theorem d_X5_insert_9 : decode c_X5_insert 9 = .ok (.return_, 1) := by decide +kernel
theorem d_X5_insert_10 : decode c_X5_insert 10 = .ok (.aload_n 0, 1) := by decide +kernel
theorem d_X5_insert_11 : decode c_X5_insert 11 = .ok (.getfield 18, 3) := by decide +kernel
theorem d_X5_insert_14 : decode c_X5_insert 14 = .ok (.istore_n 3, 1) := by decide +kernel
theorem d_X5_insert_15 : decode c_X5_insert 15 = .ok (.iload_n 3, 1) := by decide +kernel
theorem d_X5_insert_16 : decode c_X5_insert 16 = .ok (.ifCond .le 49, 3) := by decide +kernel
theorem d_X5_insert_19 : decode c_X5_insert 19 = .ok (.aload_n 0, 1) := by decide +kernel
theorem d_X5_insert_20 : decode c_X5_insert 20 = .ok (.getfield 15, 3) := by decide +kernel
theorem d_X5_insert_23 : decode c_X5_insert 23 = .ok (.iload_n 3, 1) := by decide +kernel
theorem d_X5_insert_24 : decode c_X5_insert 24 = .ok (.iconst 1, 1) := by decide +kernel
theorem d_X5_insert_25 : decode c_X5_insert 25 = .ok (.isub, 1) := by decide +kernel
theorem d_X5_insert_26 : decode c_X5_insert 26 = .ok (.iaload, 1) := by decide +kernel
theorem d_X5_insert_27 : decode c_X5_insert 27 = .ok (.iload_n 2, 1) := by decide +kernel
theorem d_X5_insert_28 : decode c_X5_insert 28 = .ok (.if_icmp .le 37, 3) := by decide +kernel
theorem d_X5_insert_31 : decode c_X5_insert 31 = .ok (.aload_n 0, 1) := by decide +kernel
theorem d_X5_insert_32 : decode c_X5_insert 32 = .ok (.getfield 9, 3) := by decide +kernel
theorem d_X5_insert_35 : decode c_X5_insert 35 = .ok (.iload_n 3, 1) := by decide +kernel
theorem d_X5_insert_36 : decode c_X5_insert 36 = .ok (.aload_n 0, 1) := by decide +kernel
theorem d_X5_insert_37 : decode c_X5_insert 37 = .ok (.getfield 9, 3) := by decide +kernel
theorem d_X5_insert_40 : decode c_X5_insert 40 = .ok (.iload_n 3, 1) := by decide +kernel
theorem d_X5_insert_41 : decode c_X5_insert 41 = .ok (.iconst 1, 1) := by decide +kernel
theorem d_X5_insert_42 : decode c_X5_insert 42 = .ok (.isub, 1) := by decide +kernel
theorem d_X5_insert_43 : decode c_X5_insert 43 = .ok (.iaload, 1) := by decide +kernel
theorem d_X5_insert_44 : decode c_X5_insert 44 = .ok (.iastore, 1) := by decide +kernel
theorem d_X5_insert_45 : decode c_X5_insert 45 = .ok (.aload_n 0, 1) := by decide +kernel
theorem d_X5_insert_46 : decode c_X5_insert 46 = .ok (.getfield 15, 3) := by decide +kernel
theorem d_X5_insert_49 : decode c_X5_insert 49 = .ok (.iload_n 3, 1) := by decide +kernel
theorem d_X5_insert_50 : decode c_X5_insert 50 = .ok (.aload_n 0, 1) := by decide +kernel
theorem d_X5_insert_51 : decode c_X5_insert 51 = .ok (.getfield 15, 3) := by decide +kernel
theorem d_X5_insert_54 : decode c_X5_insert 54 = .ok (.iload_n 3, 1) := by decide +kernel
theorem d_X5_insert_55 : decode c_X5_insert 55 = .ok (.iconst 1, 1) := by decide +kernel
theorem d_X5_insert_56 : decode c_X5_insert 56 = .ok (.isub, 1) := by decide +kernel
theorem d_X5_insert_57 : decode c_X5_insert 57 = .ok (.iaload, 1) := by decide +kernel
theorem d_X5_insert_58 : decode c_X5_insert 58 = .ok (.iastore, 1) := by decide +kernel
theorem d_X5_insert_59 : decode c_X5_insert 59 = .ok (.iinc 3 (-1), 3) := by decide +kernel
theorem d_X5_insert_62 : decode c_X5_insert 62 = .ok (.goto (-47), 3) := by decide +kernel
theorem d_X5_insert_65 : decode c_X5_insert 65 = .ok (.aload_n 0, 1) := by decide +kernel
theorem d_X5_insert_66 : decode c_X5_insert 66 = .ok (.getfield 9, 3) := by decide +kernel
theorem d_X5_insert_69 : decode c_X5_insert 69 = .ok (.iload_n 3, 1) := by decide +kernel
theorem d_X5_insert_70 : decode c_X5_insert 70 = .ok (.iload_n 1, 1) := by decide +kernel
theorem d_X5_insert_71 : decode c_X5_insert 71 = .ok (.iastore, 1) := by decide +kernel
theorem d_X5_insert_72 : decode c_X5_insert 72 = .ok (.aload_n 0, 1) := by decide +kernel
theorem d_X5_insert_73 : decode c_X5_insert 73 = .ok (.getfield 15, 3) := by decide +kernel
theorem d_X5_insert_76 : decode c_X5_insert 76 = .ok (.iload_n 3, 1) := by decide +kernel
theorem d_X5_insert_77 : decode c_X5_insert 77 = .ok (.iload_n 2, 1) := by decide +kernel
theorem d_X5_insert_78 : decode c_X5_insert 78 = .ok (.iastore, 1) := by decide +kernel
theorem d_X5_insert_79 : decode c_X5_insert 79 = .ok (.aload_n 0, 1) := by decide +kernel
theorem d_X5_insert_80 : decode c_X5_insert 80 = .ok (.dup, 1) := by decide +kernel
theorem d_X5_insert_81 : decode c_X5_insert 81 = .ok (.getfield 18, 3) := by decide +kernel
theorem d_X5_insert_84 : decode c_X5_insert 84 = .ok (.iconst 1, 1) := by decide +kernel
theorem d_X5_insert_85 : decode c_X5_insert 85 = .ok (.iadd, 1) := by decide +kernel
theorem d_X5_insert_86 : decode c_X5_insert 86 = .ok (.putfield 18, 3) := by decide +kernel
theorem d_X5_insert_89 : decode c_X5_insert 89 = .ok (.return_, 1) := by decide +kernel
set_option maxHeartbeats 4000000 in
set_option maxRecDepth 100000 in
theorem ct_X5_insert_20 (l : Launch) (D : va_G) (dA : Nat → ClassId) (ad : Nat → Nat) (v : tV) (hI : Inv v) (si : Int32) (rk : Int32) (r_si : Rg si 0 19) : Met l m_X5_insert [.code m_X5_insert c_X5_insert 4 none] ({ frames := 1, cells := 0, slots := 0, locals := 40 } : Room) (tP D dA ad v [.ref (ad 20), .int si, .int rk]) (tQv D dA ad (fun v' => Inv v' ∧ Kp v v')) 0 0 (tA ad) := by
  refine tMet (by decide) (Nat.le_of_ble_eq_true rfl) ?_
  intro p e s m below meth c ls X hr hlocks hw hl
  have X : CX p s m ([.ref (ad 20), .int si, .int rk] : List Value).toArray c c_X5_insert N_X5 4 D dA := X
  have hx := X.1
  have hb := X.2.1
  have hS : va_S (tA ad) s.heap s.heap [] := va_S.rf
  have hl : lv_has ls 4 [(0, .ref (ad 20)), (1, .int si), (2, .int rk)] := hl
  have LL : ∀ n : Nat, (∀ (y3 : Int32) (m0 : Int32) (v1 : tV) (H : Heap) (locs : List Loc) (ls : Array Slot), y3.toInt.toNat < n → Rg y3 0 19 → Rg m0 0 19 → Inv v1 → Kp v v1 → v1 20 2 = m0 → tI D dA ad v1 H → va_S (tA ad) s.heap H locs → lv_has ls 4 [(0, .ref (ad 20)), (1, .int si), (2, .int rk), (3, .int y3)] → W p l e ({ frames := 1, cells := 0, slots := 0, locals := 40 } : Room) s m ([.ref (ad 20), .int si, .int rk] : List Value).toArray below meth c H locs 0 0 (MQ below (tQv D dA ad (fun v' => Inv v' ∧ Kp v v')) ([.ref (ad 20), .int si, .int rk] : List Value).toArray s 0 0 (tA ad)) (F0 m 15 ls [])) := by
    intro n
    induction n with
    | zero => intros; omega
    | succ n ih =>
      have ih0 := ih
      intro y3 m0 v1 H locs ls hmu r_y3 r_m0 hI1 hK1 h_m0 hw hS hl
      refine lv_iload_n hx hb d_X5_insert_15 rfl (lv_at hl 3 rfl) ?_
      refine lv_if_le (tgt := 65) hx hb d_X5_insert_16 (by decide) (fun c1 => ?_) (fun c1 => ?_)
      · have f2 := i_le c1
        have r3 : Rg y3 0 0 := by obtain ⟨a1, a2⟩ := r_y3; obtain ⟨b1, b2⟩ := (⟨by decide, by decide⟩ : Rg 0 0 0); have f := i_le c1; exact ⟨by omega, by omega⟩
        refine lv_aload_n hx hb d_X5_insert_65 rfl (lv_at hl 0 rfl) ?_
        refine r_getr (r := 22) X hw FL_X5_9 (rfl : KD 20 = _) rfl d_X5_insert_66 ?_
        refine lv_iload_n hx hb d_X5_insert_69 rfl (lv_at hl 3 rfl) ?_
        refine lv_iload_n hx hb d_X5_insert_70 rfl (lv_at hl 1 rfl) ?_
        refine r_iast X hw hS (rfl : KD 22 = _) (Rg.vp (b := 0) r3 (by decide)) rfl d_X5_insert_71 (fun H locs hw hS => ?_)
        obtain ⟨v4, ev4⟩ : ∃ z, z = up2 v1 22 y3.toNatClampNeg si := ⟨_, rfl⟩
        rw [← ev4] at hw
        have hI5 : Inv v4 := by rw [ev4]; exact Inv.putr hI1 rfl r_si
        have hK6 : Kp v v4 := by rw [ev4]; exact Kp.put hK1 _ rfl
        have hm7 : v4 20 2 = m0 := by rw [ev4, up2_n _ _ (by omega)]; exact h_m0
        refine lv_aload_n hx hb d_X5_insert_72 rfl (lv_at hl 0 rfl) ?_
        refine r_getr (r := 24) X hw FL_X5_15 (rfl : KD 20 = _) rfl d_X5_insert_73 ?_
        refine lv_iload_n hx hb d_X5_insert_76 rfl (lv_at hl 3 rfl) ?_
        refine lv_iload_n hx hb d_X5_insert_77 rfl (lv_at hl 2 rfl) ?_
        refine r_iast X hw hS (rfl : KD 24 = _) (Rg.vp (b := 0) r3 (by decide)) rfl d_X5_insert_78 (fun H locs hw hS => ?_)
        obtain ⟨v8, ev8⟩ : ∃ z, z = up2 v4 24 y3.toNatClampNeg rk := ⟨_, rfl⟩
        rw [← ev8] at hw
        have hI9 : Inv v8 := by rw [ev8]; exact Inv.put0 hI5 _ rfl
        have hK10 : Kp v v8 := by rw [ev8]; exact Kp.put hK6 _ rfl
        have hm11 : v8 20 2 = m0 := by rw [ev8, up2_n _ _ (by omega)]; exact hm7
        refine lv_aload_n hx hb d_X5_insert_79 rfl (lv_at hl 0 rfl) ?_
        refine lv_dup hx hb d_X5_insert_80 rfl ?_
        refine r_geti X hw FL_X5_18 (rfl : KD 20 = _) rfl d_X5_insert_81 ?_
        rw [hm11]
        refine lv_iconst (v := 1) hx hb d_X5_insert_84 (by decide) ?_
        refine lv_iadd hx hb d_X5_insert_85 ?_
        refine lv_topi (fun x12 ex12 => ?_)
        have r13 : Rg x12 1 20 := rg_add ex12 r_m0 (⟨by decide, by decide⟩ : Rg 1 1 1) (by decide) (by decide)
        have s14 : x12.toInt = m0.toInt + (1 : Int32).toInt := by rw [ex12]; exact i_add (by obtain ⟨_, _⟩ := r_m0; obtain ⟨_, _⟩ := (⟨by decide, by decide⟩ : Rg 1 1 1); omega) (by obtain ⟨_, _⟩ := r_m0; obtain ⟨_, _⟩ := (⟨by decide, by decide⟩ : Rg 1 1 1); omega)
        have s14l : (1 : Int32).toInt = 1 := rfl
        refine r_put X hw hS FP_X5_18 (rfl : KD 20 = _) rfl ⟨rfl, rfl⟩ d_X5_insert_86 (fun H locs hw hS => ?_)
        obtain ⟨v15, ev15⟩ : ∃ z, z = up2 v8 20 2 x12 := ⟨_, rfl⟩
        rw [← ev15] at hw
        have hI16 : Inv v15 := by rw [ev15]; exact Inv.putr hI9 rfl (rg_w r13 (by decide) (by decide))
        have hK17 : Kp v v15 := by rw [ev15]; exact Kp.put hK10 _ rfl
        have hm18 : v15 20 2 = x12 := by rw [ev15, up2_s]
        exact r_vret X hr hlocks hw hS ⟨hI16, hK17⟩ d_X5_insert_89
      · have f19 := i_nle c1
        have r20 : Rg y3 1 19 := by obtain ⟨a1, a2⟩ := r_y3; obtain ⟨b1, b2⟩ := (⟨by decide, by decide⟩ : Rg 0 0 0); have f := i_nle c1; exact ⟨by omega, by omega⟩
        refine lv_aload_n hx hb d_X5_insert_19 rfl (lv_at hl 0 rfl) ?_
        refine r_getr (r := 24) X hw FL_X5_15 (rfl : KD 20 = _) rfl d_X5_insert_20 ?_
        refine lv_iload_n hx hb d_X5_insert_23 rfl (lv_at hl 3 rfl) ?_
        refine lv_iconst (v := 1) hx hb d_X5_insert_24 (by decide) ?_
        refine lv_isub hx hb d_X5_insert_25 ?_
        refine lv_topi (fun x21 ex21 => ?_)
        have r22 : Rg x21 0 18 := rg_sub ex21 r20 (⟨by decide, by decide⟩ : Rg 1 1 1) (by decide) (by decide)
        have s23 : x21.toInt = y3.toInt - (1 : Int32).toInt := by rw [ex21]; exact i_sub (by obtain ⟨_, _⟩ := r20; obtain ⟨_, _⟩ := (⟨by decide, by decide⟩ : Rg 1 1 1); omega) (by obtain ⟨_, _⟩ := r20; obtain ⟨_, _⟩ := (⟨by decide, by decide⟩ : Rg 1 1 1); omega)
        have s23l : (1 : Int32).toInt = 1 := rfl
        refine r_iald X hw (rfl : KD 24 = _) (Rg.vp (b := 18) r22 (by decide)) rfl d_X5_insert_26 ?_
        refine lv_topi (fun x24 ex24 => ?_)
        refine lv_iload_n hx hb d_X5_insert_27 rfl (lv_at hl 2 rfl) ?_
        refine lv_icmp_le (tgt := 65) hx hb d_X5_insert_28 (by decide) (fun c25 => ?_) (fun c25 => ?_)
        · have f26 := i_le c25
          refine lv_aload_n hx hb d_X5_insert_65 rfl (lv_at hl 0 rfl) ?_
          refine r_getr (r := 22) X hw FL_X5_9 (rfl : KD 20 = _) rfl d_X5_insert_66 ?_
          refine lv_iload_n hx hb d_X5_insert_69 rfl (lv_at hl 3 rfl) ?_
          refine lv_iload_n hx hb d_X5_insert_70 rfl (lv_at hl 1 rfl) ?_
          refine r_iast X hw hS (rfl : KD 22 = _) (Rg.vp (b := 19) (rg_w r20 (by decide) (by decide)) (by decide)) rfl d_X5_insert_71 (fun H locs hw hS => ?_)
          obtain ⟨v27, ev27⟩ : ∃ z, z = up2 v1 22 y3.toNatClampNeg si := ⟨_, rfl⟩
          rw [← ev27] at hw
          have hI28 : Inv v27 := by rw [ev27]; exact Inv.putr hI1 rfl r_si
          have hK29 : Kp v v27 := by rw [ev27]; exact Kp.put hK1 _ rfl
          have hm30 : v27 20 2 = m0 := by rw [ev27, up2_n _ _ (by omega)]; exact h_m0
          refine lv_aload_n hx hb d_X5_insert_72 rfl (lv_at hl 0 rfl) ?_
          refine r_getr (r := 24) X hw FL_X5_15 (rfl : KD 20 = _) rfl d_X5_insert_73 ?_
          refine lv_iload_n hx hb d_X5_insert_76 rfl (lv_at hl 3 rfl) ?_
          refine lv_iload_n hx hb d_X5_insert_77 rfl (lv_at hl 2 rfl) ?_
          refine r_iast X hw hS (rfl : KD 24 = _) (Rg.vp (b := 19) (rg_w r20 (by decide) (by decide)) (by decide)) rfl d_X5_insert_78 (fun H locs hw hS => ?_)
          obtain ⟨v31, ev31⟩ : ∃ z, z = up2 v27 24 y3.toNatClampNeg rk := ⟨_, rfl⟩
          rw [← ev31] at hw
          have hI32 : Inv v31 := by rw [ev31]; exact Inv.put0 hI28 _ rfl
          have hK33 : Kp v v31 := by rw [ev31]; exact Kp.put hK29 _ rfl
          have hm34 : v31 20 2 = m0 := by rw [ev31, up2_n _ _ (by omega)]; exact hm30
          refine lv_aload_n hx hb d_X5_insert_79 rfl (lv_at hl 0 rfl) ?_
          refine lv_dup hx hb d_X5_insert_80 rfl ?_
          refine r_geti X hw FL_X5_18 (rfl : KD 20 = _) rfl d_X5_insert_81 ?_
          rw [hm34]
          refine lv_iconst (v := 1) hx hb d_X5_insert_84 (by decide) ?_
          refine lv_iadd hx hb d_X5_insert_85 ?_
          refine lv_topi (fun x35 ex35 => ?_)
          have r36 : Rg x35 1 20 := rg_add ex35 r_m0 (⟨by decide, by decide⟩ : Rg 1 1 1) (by decide) (by decide)
          have s37 : x35.toInt = m0.toInt + (1 : Int32).toInt := by rw [ex35]; exact i_add (by obtain ⟨_, _⟩ := r_m0; obtain ⟨_, _⟩ := (⟨by decide, by decide⟩ : Rg 1 1 1); omega) (by obtain ⟨_, _⟩ := r_m0; obtain ⟨_, _⟩ := (⟨by decide, by decide⟩ : Rg 1 1 1); omega)
          have s37l : (1 : Int32).toInt = 1 := rfl
          refine r_put X hw hS FP_X5_18 (rfl : KD 20 = _) rfl ⟨rfl, rfl⟩ d_X5_insert_86 (fun H locs hw hS => ?_)
          obtain ⟨v38, ev38⟩ : ∃ z, z = up2 v31 20 2 x35 := ⟨_, rfl⟩
          rw [← ev38] at hw
          have hI39 : Inv v38 := by rw [ev38]; exact Inv.putr hI32 rfl (rg_w r36 (by decide) (by decide))
          have hK40 : Kp v v38 := by rw [ev38]; exact Kp.put hK33 _ rfl
          have hm41 : v38 20 2 = x35 := by rw [ev38, up2_s]
          exact r_vret X hr hlocks hw hS ⟨hI39, hK40⟩ d_X5_insert_89
        · have f42 := i_nle c25
          refine lv_aload_n hx hb d_X5_insert_31 rfl (lv_at hl 0 rfl) ?_
          refine r_getr (r := 22) X hw FL_X5_9 (rfl : KD 20 = _) rfl d_X5_insert_32 ?_
          refine lv_iload_n hx hb d_X5_insert_35 rfl (lv_at hl 3 rfl) ?_
          refine lv_aload_n hx hb d_X5_insert_36 rfl (lv_at hl 0 rfl) ?_
          refine r_getr (r := 22) X hw FL_X5_9 (rfl : KD 20 = _) rfl d_X5_insert_37 ?_
          refine lv_iload_n hx hb d_X5_insert_40 rfl (lv_at hl 3 rfl) ?_
          refine lv_iconst (v := 1) hx hb d_X5_insert_41 (by decide) ?_
          refine lv_isub hx hb d_X5_insert_42 ?_
          refine lv_topi (fun x43 ex43 => ?_)
          have r44 : Rg x43 0 18 := rg_sub ex43 r20 (⟨by decide, by decide⟩ : Rg 1 1 1) (by decide) (by decide)
          have s45 : x43.toInt = y3.toInt - (1 : Int32).toInt := by rw [ex43]; exact i_sub (by obtain ⟨_, _⟩ := r20; obtain ⟨_, _⟩ := (⟨by decide, by decide⟩ : Rg 1 1 1); omega) (by obtain ⟨_, _⟩ := r20; obtain ⟨_, _⟩ := (⟨by decide, by decide⟩ : Rg 1 1 1); omega)
          have s45l : (1 : Int32).toInt = 1 := rfl
          refine r_iald X hw (rfl : KD 22 = _) (Rg.vp (b := 18) r44 (by decide)) rfl d_X5_insert_43 ?_
          refine lv_topi (fun x46 ex46 => ?_)
          have r47 : Rg x46 0 19 := by rw [ex46]; exact hI1 _ _ _ _ rfl
          refine r_iast X hw hS (rfl : KD 22 = _) (Rg.vp (b := 19) (rg_w r20 (by decide) (by decide)) (by decide)) rfl d_X5_insert_44 (fun H locs hw hS => ?_)
          obtain ⟨v48, ev48⟩ : ∃ z, z = up2 v1 22 y3.toNatClampNeg x46 := ⟨_, rfl⟩
          rw [← ev48] at hw
          have hI49 : Inv v48 := by rw [ev48]; exact Inv.putr hI1 rfl r47
          have hK50 : Kp v v48 := by rw [ev48]; exact Kp.put hK1 _ rfl
          have hm51 : v48 20 2 = m0 := by rw [ev48, up2_n _ _ (by omega)]; exact h_m0
          refine lv_aload_n hx hb d_X5_insert_45 rfl (lv_at hl 0 rfl) ?_
          refine r_getr (r := 24) X hw FL_X5_15 (rfl : KD 20 = _) rfl d_X5_insert_46 ?_
          refine lv_iload_n hx hb d_X5_insert_49 rfl (lv_at hl 3 rfl) ?_
          refine lv_aload_n hx hb d_X5_insert_50 rfl (lv_at hl 0 rfl) ?_
          refine r_getr (r := 24) X hw FL_X5_15 (rfl : KD 20 = _) rfl d_X5_insert_51 ?_
          refine lv_iload_n hx hb d_X5_insert_54 rfl (lv_at hl 3 rfl) ?_
          refine lv_iconst (v := 1) hx hb d_X5_insert_55 (by decide) ?_
          refine lv_isub hx hb d_X5_insert_56 ?_
          refine lv_topi (fun x52 ex52 => ?_)
          have r53 : Rg x52 0 18 := rg_sub ex52 r20 (⟨by decide, by decide⟩ : Rg 1 1 1) (by decide) (by decide)
          have s54 : x52.toInt = y3.toInt - (1 : Int32).toInt := by rw [ex52]; exact i_sub (by obtain ⟨_, _⟩ := r20; obtain ⟨_, _⟩ := (⟨by decide, by decide⟩ : Rg 1 1 1); omega) (by obtain ⟨_, _⟩ := r20; obtain ⟨_, _⟩ := (⟨by decide, by decide⟩ : Rg 1 1 1); omega)
          have s54l : (1 : Int32).toInt = 1 := rfl
          refine r_iald X hw (rfl : KD 24 = _) (Rg.vp (b := 18) r53 (by decide)) rfl d_X5_insert_57 ?_
          refine lv_topi (fun x55 ex55 => ?_)
          refine r_iast X hw hS (rfl : KD 24 = _) (Rg.vp (b := 19) (rg_w r20 (by decide) (by decide)) (by decide)) rfl d_X5_insert_58 (fun H locs hw hS => ?_)
          obtain ⟨v56, ev56⟩ : ∃ z, z = up2 v48 24 y3.toNatClampNeg x55 := ⟨_, rfl⟩
          rw [← ev56] at hw
          have hI57 : Inv v56 := by rw [ev56]; exact Inv.put0 hI49 _ rfl
          have hK58 : Kp v v56 := by rw [ev56]; exact Kp.put hK50 _ rfl
          have hm59 : v56 20 2 = m0 := by rw [ev56, up2_n _ _ (by omega)]; exact hm51
          obtain ⟨x60, ex60⟩ : ∃ y : Int32, y = y3 + -1 := ⟨_, rfl⟩
          refine lv_iinc (v := x60) (lv' := [(3, .int x60), (0, .ref (ad 20)), (1, .int si), (2, .int rk)]) hx hb d_X5_insert_59 hl (k := 3) rfl (by rw [ex60]; rfl) (by decide) rfl (fun ls hl => ?_)
          have r61 : Rg x60 0 18 := rg_add ex60 r20 (⟨by decide, by decide⟩ : Rg (-1) (-1) (-1)) (by decide) (by decide)
          have s62 : x60.toInt = y3.toInt + (-1 : Int32).toInt := by rw [ex60]; exact i_add (by obtain ⟨_, _⟩ := r20; obtain ⟨_, _⟩ := (⟨by decide, by decide⟩ : Rg (-1) (-1) (-1)); omega) (by obtain ⟨_, _⟩ := r20; obtain ⟨_, _⟩ := (⟨by decide, by decide⟩ : Rg (-1) (-1) (-1)); omega)
          have s62l : (-1 : Int32).toInt = (-1) := rfl
          refine lv_goto (tgt := 15) hx hb d_X5_insert_62 (by decide) ?_
          exact ih0 x60 m0 v56 _ _ _ (by have := s23; have := s45; have := s54; have := s62; obtain ⟨_, _⟩ := r61; omega) (rg_w r61 (by decide) (by decide)) r_m0 hI57 hK58 hm59 hw hS (lv_sub hl [1, 2, 3, 0] rfl)
  have ih0 := LL 100000
  have hK0 : Kp v v := Kp.rf v
  refine lv_aload_n hx hb d_X5_insert_0 rfl (lv_at hl 0 rfl) ?_
  refine r_geti X hw FL_X5_18 (rfl : KD 20 = _) rfl d_X5_insert_1 ?_
  refine lv_topi (fun x63 ex63 => ?_)
  have r64 : Rg x63 0 20 := by rw [ex63]; exact hI _ _ _ _ rfl
  have hm65 : v 20 2 = x63 := ex63.symm
  refine lv_bipush (v := 20) hx hb d_X5_insert_4 (by decide) ?_
  refine lv_icmp_lt (tgt := 10) hx hb d_X5_insert_6 (by decide) (fun c66 => ?_) (fun c66 => ?_)
  · have f67 := i_lt c66
    have r68 : Rg x63 0 19 := by obtain ⟨a1, a2⟩ := r64; obtain ⟨b1, b2⟩ := (⟨by decide, by decide⟩ : Rg 20 20 20); have f := i_lt c66; exact ⟨by omega, by omega⟩
    refine lv_aload_n hx hb d_X5_insert_10 rfl (lv_at hl 0 rfl) ?_
    refine r_geti X hw FL_X5_18 (rfl : KD 20 = _) rfl d_X5_insert_11 ?_
    rw [hm65]
    refine lv_istore_n (lv' := [(3, .int x63), (0, .ref (ad 20)), (1, .int si), (2, .int rk)]) hx hb d_X5_insert_14 rfl hl (by decide) rfl (fun ls hl => ?_)
    exact ih0 x63 x63 v _ _ _ (by obtain ⟨_, _⟩ := r68; omega) r68 r68 hI hK0 hm65 hw hS (lv_sub hl [1, 2, 3, 0] rfl)
  · have f69 := i_nlt c66
    have r70 : Rg x63 20 20 := by obtain ⟨a1, a2⟩ := r64; obtain ⟨b1, b2⟩ := (⟨by decide, by decide⟩ : Rg 20 20 20); have f := i_nlt c66; exact ⟨by omega, by omega⟩
    exact r_vret X hr hlocks hw hS ⟨hI, hK0⟩ d_X5_insert_9
set_option maxHeartbeats 4000000 in
set_option maxRecDepth 100000 in
theorem ct_X5_insert_21 (l : Launch) (D : va_G) (dA : Nat → ClassId) (ad : Nat → Nat) (v : tV) (hI : Inv v) (si : Int32) (rk : Int32) (r_si : Rg si 0 19) : Met l m_X5_insert [.code m_X5_insert c_X5_insert 4 none] ({ frames := 1, cells := 0, slots := 0, locals := 40 } : Room) (tP D dA ad v [.ref (ad 21), .int si, .int rk]) (tQv D dA ad (fun v' => Inv v' ∧ Kp v v')) 0 0 (tA ad) := by
  refine tMet (by decide) (Nat.le_of_ble_eq_true rfl) ?_
  intro p e s m below meth c ls X hr hlocks hw hl
  have X : CX p s m ([.ref (ad 21), .int si, .int rk] : List Value).toArray c c_X5_insert N_X5 4 D dA := X
  have hx := X.1
  have hb := X.2.1
  have hS : va_S (tA ad) s.heap s.heap [] := va_S.rf
  have hl : lv_has ls 4 [(0, .ref (ad 21)), (1, .int si), (2, .int rk)] := hl
  have LL : ∀ n : Nat, (∀ (y3 : Int32) (m0 : Int32) (v1 : tV) (H : Heap) (locs : List Loc) (ls : Array Slot), y3.toInt.toNat < n → Rg y3 0 19 → Rg m0 0 19 → Inv v1 → Kp v v1 → v1 21 2 = m0 → tI D dA ad v1 H → va_S (tA ad) s.heap H locs → lv_has ls 4 [(0, .ref (ad 21)), (1, .int si), (2, .int rk), (3, .int y3)] → W p l e ({ frames := 1, cells := 0, slots := 0, locals := 40 } : Room) s m ([.ref (ad 21), .int si, .int rk] : List Value).toArray below meth c H locs 0 0 (MQ below (tQv D dA ad (fun v' => Inv v' ∧ Kp v v')) ([.ref (ad 21), .int si, .int rk] : List Value).toArray s 0 0 (tA ad)) (F0 m 15 ls [])) := by
    intro n
    induction n with
    | zero => intros; omega
    | succ n ih =>
      have ih0 := ih
      intro y3 m0 v1 H locs ls hmu r_y3 r_m0 hI1 hK1 h_m0 hw hS hl
      refine lv_iload_n hx hb d_X5_insert_15 rfl (lv_at hl 3 rfl) ?_
      refine lv_if_le (tgt := 65) hx hb d_X5_insert_16 (by decide) (fun c1 => ?_) (fun c1 => ?_)
      · have f2 := i_le c1
        have r3 : Rg y3 0 0 := by obtain ⟨a1, a2⟩ := r_y3; obtain ⟨b1, b2⟩ := (⟨by decide, by decide⟩ : Rg 0 0 0); have f := i_le c1; exact ⟨by omega, by omega⟩
        refine lv_aload_n hx hb d_X5_insert_65 rfl (lv_at hl 0 rfl) ?_
        refine r_getr (r := 23) X hw FL_X5_9 (rfl : KD 21 = _) rfl d_X5_insert_66 ?_
        refine lv_iload_n hx hb d_X5_insert_69 rfl (lv_at hl 3 rfl) ?_
        refine lv_iload_n hx hb d_X5_insert_70 rfl (lv_at hl 1 rfl) ?_
        refine r_iast X hw hS (rfl : KD 23 = _) (Rg.vp (b := 0) r3 (by decide)) rfl d_X5_insert_71 (fun H locs hw hS => ?_)
        obtain ⟨v4, ev4⟩ : ∃ z, z = up2 v1 23 y3.toNatClampNeg si := ⟨_, rfl⟩
        rw [← ev4] at hw
        have hI5 : Inv v4 := by rw [ev4]; exact Inv.putr hI1 rfl r_si
        have hK6 : Kp v v4 := by rw [ev4]; exact Kp.put hK1 _ rfl
        have hm7 : v4 21 2 = m0 := by rw [ev4, up2_n _ _ (by omega)]; exact h_m0
        refine lv_aload_n hx hb d_X5_insert_72 rfl (lv_at hl 0 rfl) ?_
        refine r_getr (r := 25) X hw FL_X5_15 (rfl : KD 21 = _) rfl d_X5_insert_73 ?_
        refine lv_iload_n hx hb d_X5_insert_76 rfl (lv_at hl 3 rfl) ?_
        refine lv_iload_n hx hb d_X5_insert_77 rfl (lv_at hl 2 rfl) ?_
        refine r_iast X hw hS (rfl : KD 25 = _) (Rg.vp (b := 0) r3 (by decide)) rfl d_X5_insert_78 (fun H locs hw hS => ?_)
        obtain ⟨v8, ev8⟩ : ∃ z, z = up2 v4 25 y3.toNatClampNeg rk := ⟨_, rfl⟩
        rw [← ev8] at hw
        have hI9 : Inv v8 := by rw [ev8]; exact Inv.put0 hI5 _ rfl
        have hK10 : Kp v v8 := by rw [ev8]; exact Kp.put hK6 _ rfl
        have hm11 : v8 21 2 = m0 := by rw [ev8, up2_n _ _ (by omega)]; exact hm7
        refine lv_aload_n hx hb d_X5_insert_79 rfl (lv_at hl 0 rfl) ?_
        refine lv_dup hx hb d_X5_insert_80 rfl ?_
        refine r_geti X hw FL_X5_18 (rfl : KD 21 = _) rfl d_X5_insert_81 ?_
        rw [hm11]
        refine lv_iconst (v := 1) hx hb d_X5_insert_84 (by decide) ?_
        refine lv_iadd hx hb d_X5_insert_85 ?_
        refine lv_topi (fun x12 ex12 => ?_)
        have r13 : Rg x12 1 20 := rg_add ex12 r_m0 (⟨by decide, by decide⟩ : Rg 1 1 1) (by decide) (by decide)
        have s14 : x12.toInt = m0.toInt + (1 : Int32).toInt := by rw [ex12]; exact i_add (by obtain ⟨_, _⟩ := r_m0; obtain ⟨_, _⟩ := (⟨by decide, by decide⟩ : Rg 1 1 1); omega) (by obtain ⟨_, _⟩ := r_m0; obtain ⟨_, _⟩ := (⟨by decide, by decide⟩ : Rg 1 1 1); omega)
        have s14l : (1 : Int32).toInt = 1 := rfl
        refine r_put X hw hS FP_X5_18 (rfl : KD 21 = _) rfl ⟨rfl, rfl⟩ d_X5_insert_86 (fun H locs hw hS => ?_)
        obtain ⟨v15, ev15⟩ : ∃ z, z = up2 v8 21 2 x12 := ⟨_, rfl⟩
        rw [← ev15] at hw
        have hI16 : Inv v15 := by rw [ev15]; exact Inv.putr hI9 rfl (rg_w r13 (by decide) (by decide))
        have hK17 : Kp v v15 := by rw [ev15]; exact Kp.put hK10 _ rfl
        have hm18 : v15 21 2 = x12 := by rw [ev15, up2_s]
        exact r_vret X hr hlocks hw hS ⟨hI16, hK17⟩ d_X5_insert_89
      · have f19 := i_nle c1
        have r20 : Rg y3 1 19 := by obtain ⟨a1, a2⟩ := r_y3; obtain ⟨b1, b2⟩ := (⟨by decide, by decide⟩ : Rg 0 0 0); have f := i_nle c1; exact ⟨by omega, by omega⟩
        refine lv_aload_n hx hb d_X5_insert_19 rfl (lv_at hl 0 rfl) ?_
        refine r_getr (r := 25) X hw FL_X5_15 (rfl : KD 21 = _) rfl d_X5_insert_20 ?_
        refine lv_iload_n hx hb d_X5_insert_23 rfl (lv_at hl 3 rfl) ?_
        refine lv_iconst (v := 1) hx hb d_X5_insert_24 (by decide) ?_
        refine lv_isub hx hb d_X5_insert_25 ?_
        refine lv_topi (fun x21 ex21 => ?_)
        have r22 : Rg x21 0 18 := rg_sub ex21 r20 (⟨by decide, by decide⟩ : Rg 1 1 1) (by decide) (by decide)
        have s23 : x21.toInt = y3.toInt - (1 : Int32).toInt := by rw [ex21]; exact i_sub (by obtain ⟨_, _⟩ := r20; obtain ⟨_, _⟩ := (⟨by decide, by decide⟩ : Rg 1 1 1); omega) (by obtain ⟨_, _⟩ := r20; obtain ⟨_, _⟩ := (⟨by decide, by decide⟩ : Rg 1 1 1); omega)
        have s23l : (1 : Int32).toInt = 1 := rfl
        refine r_iald X hw (rfl : KD 25 = _) (Rg.vp (b := 18) r22 (by decide)) rfl d_X5_insert_26 ?_
        refine lv_topi (fun x24 ex24 => ?_)
        refine lv_iload_n hx hb d_X5_insert_27 rfl (lv_at hl 2 rfl) ?_
        refine lv_icmp_le (tgt := 65) hx hb d_X5_insert_28 (by decide) (fun c25 => ?_) (fun c25 => ?_)
        · have f26 := i_le c25
          refine lv_aload_n hx hb d_X5_insert_65 rfl (lv_at hl 0 rfl) ?_
          refine r_getr (r := 23) X hw FL_X5_9 (rfl : KD 21 = _) rfl d_X5_insert_66 ?_
          refine lv_iload_n hx hb d_X5_insert_69 rfl (lv_at hl 3 rfl) ?_
          refine lv_iload_n hx hb d_X5_insert_70 rfl (lv_at hl 1 rfl) ?_
          refine r_iast X hw hS (rfl : KD 23 = _) (Rg.vp (b := 19) (rg_w r20 (by decide) (by decide)) (by decide)) rfl d_X5_insert_71 (fun H locs hw hS => ?_)
          obtain ⟨v27, ev27⟩ : ∃ z, z = up2 v1 23 y3.toNatClampNeg si := ⟨_, rfl⟩
          rw [← ev27] at hw
          have hI28 : Inv v27 := by rw [ev27]; exact Inv.putr hI1 rfl r_si
          have hK29 : Kp v v27 := by rw [ev27]; exact Kp.put hK1 _ rfl
          have hm30 : v27 21 2 = m0 := by rw [ev27, up2_n _ _ (by omega)]; exact h_m0
          refine lv_aload_n hx hb d_X5_insert_72 rfl (lv_at hl 0 rfl) ?_
          refine r_getr (r := 25) X hw FL_X5_15 (rfl : KD 21 = _) rfl d_X5_insert_73 ?_
          refine lv_iload_n hx hb d_X5_insert_76 rfl (lv_at hl 3 rfl) ?_
          refine lv_iload_n hx hb d_X5_insert_77 rfl (lv_at hl 2 rfl) ?_
          refine r_iast X hw hS (rfl : KD 25 = _) (Rg.vp (b := 19) (rg_w r20 (by decide) (by decide)) (by decide)) rfl d_X5_insert_78 (fun H locs hw hS => ?_)
          obtain ⟨v31, ev31⟩ : ∃ z, z = up2 v27 25 y3.toNatClampNeg rk := ⟨_, rfl⟩
          rw [← ev31] at hw
          have hI32 : Inv v31 := by rw [ev31]; exact Inv.put0 hI28 _ rfl
          have hK33 : Kp v v31 := by rw [ev31]; exact Kp.put hK29 _ rfl
          have hm34 : v31 21 2 = m0 := by rw [ev31, up2_n _ _ (by omega)]; exact hm30
          refine lv_aload_n hx hb d_X5_insert_79 rfl (lv_at hl 0 rfl) ?_
          refine lv_dup hx hb d_X5_insert_80 rfl ?_
          refine r_geti X hw FL_X5_18 (rfl : KD 21 = _) rfl d_X5_insert_81 ?_
          rw [hm34]
          refine lv_iconst (v := 1) hx hb d_X5_insert_84 (by decide) ?_
          refine lv_iadd hx hb d_X5_insert_85 ?_
          refine lv_topi (fun x35 ex35 => ?_)
          have r36 : Rg x35 1 20 := rg_add ex35 r_m0 (⟨by decide, by decide⟩ : Rg 1 1 1) (by decide) (by decide)
          have s37 : x35.toInt = m0.toInt + (1 : Int32).toInt := by rw [ex35]; exact i_add (by obtain ⟨_, _⟩ := r_m0; obtain ⟨_, _⟩ := (⟨by decide, by decide⟩ : Rg 1 1 1); omega) (by obtain ⟨_, _⟩ := r_m0; obtain ⟨_, _⟩ := (⟨by decide, by decide⟩ : Rg 1 1 1); omega)
          have s37l : (1 : Int32).toInt = 1 := rfl
          refine r_put X hw hS FP_X5_18 (rfl : KD 21 = _) rfl ⟨rfl, rfl⟩ d_X5_insert_86 (fun H locs hw hS => ?_)
          obtain ⟨v38, ev38⟩ : ∃ z, z = up2 v31 21 2 x35 := ⟨_, rfl⟩
          rw [← ev38] at hw
          have hI39 : Inv v38 := by rw [ev38]; exact Inv.putr hI32 rfl (rg_w r36 (by decide) (by decide))
          have hK40 : Kp v v38 := by rw [ev38]; exact Kp.put hK33 _ rfl
          have hm41 : v38 21 2 = x35 := by rw [ev38, up2_s]
          exact r_vret X hr hlocks hw hS ⟨hI39, hK40⟩ d_X5_insert_89
        · have f42 := i_nle c25
          refine lv_aload_n hx hb d_X5_insert_31 rfl (lv_at hl 0 rfl) ?_
          refine r_getr (r := 23) X hw FL_X5_9 (rfl : KD 21 = _) rfl d_X5_insert_32 ?_
          refine lv_iload_n hx hb d_X5_insert_35 rfl (lv_at hl 3 rfl) ?_
          refine lv_aload_n hx hb d_X5_insert_36 rfl (lv_at hl 0 rfl) ?_
          refine r_getr (r := 23) X hw FL_X5_9 (rfl : KD 21 = _) rfl d_X5_insert_37 ?_
          refine lv_iload_n hx hb d_X5_insert_40 rfl (lv_at hl 3 rfl) ?_
          refine lv_iconst (v := 1) hx hb d_X5_insert_41 (by decide) ?_
          refine lv_isub hx hb d_X5_insert_42 ?_
          refine lv_topi (fun x43 ex43 => ?_)
          have r44 : Rg x43 0 18 := rg_sub ex43 r20 (⟨by decide, by decide⟩ : Rg 1 1 1) (by decide) (by decide)
          have s45 : x43.toInt = y3.toInt - (1 : Int32).toInt := by rw [ex43]; exact i_sub (by obtain ⟨_, _⟩ := r20; obtain ⟨_, _⟩ := (⟨by decide, by decide⟩ : Rg 1 1 1); omega) (by obtain ⟨_, _⟩ := r20; obtain ⟨_, _⟩ := (⟨by decide, by decide⟩ : Rg 1 1 1); omega)
          have s45l : (1 : Int32).toInt = 1 := rfl
          refine r_iald X hw (rfl : KD 23 = _) (Rg.vp (b := 18) r44 (by decide)) rfl d_X5_insert_43 ?_
          refine lv_topi (fun x46 ex46 => ?_)
          have r47 : Rg x46 0 19 := by rw [ex46]; exact hI1 _ _ _ _ rfl
          refine r_iast X hw hS (rfl : KD 23 = _) (Rg.vp (b := 19) (rg_w r20 (by decide) (by decide)) (by decide)) rfl d_X5_insert_44 (fun H locs hw hS => ?_)
          obtain ⟨v48, ev48⟩ : ∃ z, z = up2 v1 23 y3.toNatClampNeg x46 := ⟨_, rfl⟩
          rw [← ev48] at hw
          have hI49 : Inv v48 := by rw [ev48]; exact Inv.putr hI1 rfl r47
          have hK50 : Kp v v48 := by rw [ev48]; exact Kp.put hK1 _ rfl
          have hm51 : v48 21 2 = m0 := by rw [ev48, up2_n _ _ (by omega)]; exact h_m0
          refine lv_aload_n hx hb d_X5_insert_45 rfl (lv_at hl 0 rfl) ?_
          refine r_getr (r := 25) X hw FL_X5_15 (rfl : KD 21 = _) rfl d_X5_insert_46 ?_
          refine lv_iload_n hx hb d_X5_insert_49 rfl (lv_at hl 3 rfl) ?_
          refine lv_aload_n hx hb d_X5_insert_50 rfl (lv_at hl 0 rfl) ?_
          refine r_getr (r := 25) X hw FL_X5_15 (rfl : KD 21 = _) rfl d_X5_insert_51 ?_
          refine lv_iload_n hx hb d_X5_insert_54 rfl (lv_at hl 3 rfl) ?_
          refine lv_iconst (v := 1) hx hb d_X5_insert_55 (by decide) ?_
          refine lv_isub hx hb d_X5_insert_56 ?_
          refine lv_topi (fun x52 ex52 => ?_)
          have r53 : Rg x52 0 18 := rg_sub ex52 r20 (⟨by decide, by decide⟩ : Rg 1 1 1) (by decide) (by decide)
          have s54 : x52.toInt = y3.toInt - (1 : Int32).toInt := by rw [ex52]; exact i_sub (by obtain ⟨_, _⟩ := r20; obtain ⟨_, _⟩ := (⟨by decide, by decide⟩ : Rg 1 1 1); omega) (by obtain ⟨_, _⟩ := r20; obtain ⟨_, _⟩ := (⟨by decide, by decide⟩ : Rg 1 1 1); omega)
          have s54l : (1 : Int32).toInt = 1 := rfl
          refine r_iald X hw (rfl : KD 25 = _) (Rg.vp (b := 18) r53 (by decide)) rfl d_X5_insert_57 ?_
          refine lv_topi (fun x55 ex55 => ?_)
          refine r_iast X hw hS (rfl : KD 25 = _) (Rg.vp (b := 19) (rg_w r20 (by decide) (by decide)) (by decide)) rfl d_X5_insert_58 (fun H locs hw hS => ?_)
          obtain ⟨v56, ev56⟩ : ∃ z, z = up2 v48 25 y3.toNatClampNeg x55 := ⟨_, rfl⟩
          rw [← ev56] at hw
          have hI57 : Inv v56 := by rw [ev56]; exact Inv.put0 hI49 _ rfl
          have hK58 : Kp v v56 := by rw [ev56]; exact Kp.put hK50 _ rfl
          have hm59 : v56 21 2 = m0 := by rw [ev56, up2_n _ _ (by omega)]; exact hm51
          obtain ⟨x60, ex60⟩ : ∃ y : Int32, y = y3 + -1 := ⟨_, rfl⟩
          refine lv_iinc (v := x60) (lv' := [(3, .int x60), (0, .ref (ad 21)), (1, .int si), (2, .int rk)]) hx hb d_X5_insert_59 hl (k := 3) rfl (by rw [ex60]; rfl) (by decide) rfl (fun ls hl => ?_)
          have r61 : Rg x60 0 18 := rg_add ex60 r20 (⟨by decide, by decide⟩ : Rg (-1) (-1) (-1)) (by decide) (by decide)
          have s62 : x60.toInt = y3.toInt + (-1 : Int32).toInt := by rw [ex60]; exact i_add (by obtain ⟨_, _⟩ := r20; obtain ⟨_, _⟩ := (⟨by decide, by decide⟩ : Rg (-1) (-1) (-1)); omega) (by obtain ⟨_, _⟩ := r20; obtain ⟨_, _⟩ := (⟨by decide, by decide⟩ : Rg (-1) (-1) (-1)); omega)
          have s62l : (-1 : Int32).toInt = (-1) := rfl
          refine lv_goto (tgt := 15) hx hb d_X5_insert_62 (by decide) ?_
          exact ih0 x60 m0 v56 _ _ _ (by have := s23; have := s45; have := s54; have := s62; obtain ⟨_, _⟩ := r61; omega) (rg_w r61 (by decide) (by decide)) r_m0 hI57 hK58 hm59 hw hS (lv_sub hl [1, 2, 3, 0] rfl)
  have ih0 := LL 100000
  have hK0 : Kp v v := Kp.rf v
  refine lv_aload_n hx hb d_X5_insert_0 rfl (lv_at hl 0 rfl) ?_
  refine r_geti X hw FL_X5_18 (rfl : KD 21 = _) rfl d_X5_insert_1 ?_
  refine lv_topi (fun x63 ex63 => ?_)
  have r64 : Rg x63 0 20 := by rw [ex63]; exact hI _ _ _ _ rfl
  have hm65 : v 21 2 = x63 := ex63.symm
  refine lv_bipush (v := 20) hx hb d_X5_insert_4 (by decide) ?_
  refine lv_icmp_lt (tgt := 10) hx hb d_X5_insert_6 (by decide) (fun c66 => ?_) (fun c66 => ?_)
  · have f67 := i_lt c66
    have r68 : Rg x63 0 19 := by obtain ⟨a1, a2⟩ := r64; obtain ⟨b1, b2⟩ := (⟨by decide, by decide⟩ : Rg 20 20 20); have f := i_lt c66; exact ⟨by omega, by omega⟩
    refine lv_aload_n hx hb d_X5_insert_10 rfl (lv_at hl 0 rfl) ?_
    refine r_geti X hw FL_X5_18 (rfl : KD 21 = _) rfl d_X5_insert_11 ?_
    rw [hm65]
    refine lv_istore_n (lv' := [(3, .int x63), (0, .ref (ad 21)), (1, .int si), (2, .int rk)]) hx hb d_X5_insert_14 rfl hl (by decide) rfl (fun ls hl => ?_)
    exact ih0 x63 x63 v _ _ _ (by obtain ⟨_, _⟩ := r68; omega) r68 r68 hI hK0 hm65 hw hS (lv_sub hl [1, 2, 3, 0] rfl)
  · have f69 := i_nlt c66
    have r70 : Rg x63 20 20 := by obtain ⟨a1, a2⟩ := r64; obtain ⟨b1, b2⟩ := (⟨by decide, by decide⟩ : Rg 20 20 20); have f := i_nlt c66; exact ⟨by omega, by omega⟩
    exact r_vret X hr hlocks hw hS ⟨hI, hK0⟩ d_X5_insert_9
theorem d_X5_putFirst_0 : decode c_X5_putFirst 0 = .ok (.aload_n 0, 1) := by decide +kernel
theorem d_X5_putFirst_1 : decode c_X5_putFirst 1 = .ok (.getfield 9, 3) := by decide +kernel
theorem d_X5_putFirst_4 : decode c_X5_putFirst 4 = .ok (.iconst 0, 1) := by decide +kernel
theorem d_X5_putFirst_5 : decode c_X5_putFirst 5 = .ok (.iload_n 1, 1) := by decide +kernel
theorem d_X5_putFirst_6 : decode c_X5_putFirst 6 = .ok (.iastore, 1) := by decide +kernel
theorem d_X5_putFirst_7 : decode c_X5_putFirst 7 = .ok (.aload_n 0, 1) := by decide +kernel
theorem d_X5_putFirst_8 : decode c_X5_putFirst 8 = .ok (.iconst 1, 1) := by decide +kernel
theorem d_X5_putFirst_9 : decode c_X5_putFirst 9 = .ok (.putfield 18, 3) := by decide +kernel
theorem d_X5_putFirst_12 : decode c_X5_putFirst 12 = .ok (.iconst 0, 1) := by decide +kernel
theorem d_X5_putFirst_13 : decode c_X5_putFirst 13 = .ok (.istore_n 3, 1) := by decide +kernel
theorem d_X5_putFirst_14 : decode c_X5_putFirst 14 = .ok (.iload_n 3, 1) := by decide +kernel
theorem d_X5_putFirst_15 : decode c_X5_putFirst 15 = .ok (.aload_n 2, 1) := by decide +kernel
theorem d_X5_putFirst_16 : decode c_X5_putFirst 16 = .ok (.getfield 18, 3) := by decide +kernel
theorem d_X5_putFirst_19 : decode c_X5_putFirst 19 = .ok (.if_icmp .ge 50, 3) := by decide +kernel
theorem d_X5_putFirst_22 : decode c_X5_putFirst 22 = .ok (.aload_n 0, 1) := by decide +kernel
theorem d_X5_putFirst_23 : decode c_X5_putFirst 23 = .ok (.getfield 18, 3) := by decide +kernel
theorem d_X5_putFirst_26 : decode c_X5_putFirst 26 = .ok (.bipush 20, 2) := by decide +kernel
theorem d_X5_putFirst_28 : decode c_X5_putFirst 28 = .ok (.if_icmp .ge 41, 3) := by decide +kernel
theorem d_X5_putFirst_31 : decode c_X5_putFirst 31 = .ok (.aload_n 2, 1) := by decide +kernel
theorem d_X5_putFirst_32 : decode c_X5_putFirst 32 = .ok (.getfield 9, 3) := by decide +kernel
theorem d_X5_putFirst_35 : decode c_X5_putFirst 35 = .ok (.iload_n 3, 1) := by decide +kernel
theorem d_X5_putFirst_36 : decode c_X5_putFirst 36 = .ok (.iaload, 1) := by decide +kernel
theorem d_X5_putFirst_37 : decode c_X5_putFirst 37 = .ok (.iload_n 1, 1) := by decide +kernel
theorem d_X5_putFirst_38 : decode c_X5_putFirst 38 = .ok (.if_icmp .eq 25, 3) := by decide +kernel
theorem d_X5_putFirst_41 : decode c_X5_putFirst 41 = .ok (.aload_n 0, 1) := by decide +kernel
theorem d_X5_putFirst_42 : decode c_X5_putFirst 42 = .ok (.getfield 9, 3) := by decide +kernel
theorem d_X5_putFirst_45 : decode c_X5_putFirst 45 = .ok (.aload_n 0, 1) := by decide +kernel
theorem d_X5_putFirst_46 : decode c_X5_putFirst 46 = .ok (.dup, 1) := by decide +kernel
theorem d_X5_putFirst_47 : decode c_X5_putFirst 47 = .ok (.getfield 18, 3) := by decide +kernel
theorem d_X5_putFirst_50 : decode c_X5_putFirst 50 = .ok (.dup_x1, 1) := by decide +kernel
theorem d_X5_putFirst_51 : decode c_X5_putFirst 51 = .ok (.iconst 1, 1) := by decide +kernel
theorem d_X5_putFirst_52 : decode c_X5_putFirst 52 = .ok (.iadd, 1) := by decide +kernel
theorem d_X5_putFirst_53 : decode c_X5_putFirst 53 = .ok (.putfield 18, 3) := by decide +kernel
theorem d_X5_putFirst_56 : decode c_X5_putFirst 56 = .ok (.aload_n 2, 1) := by decide +kernel
theorem d_X5_putFirst_57 : decode c_X5_putFirst 57 = .ok (.getfield 9, 3) := by decide +kernel
theorem d_X5_putFirst_60 : decode c_X5_putFirst 60 = .ok (.iload_n 3, 1) := by decide +kernel
theorem d_X5_putFirst_61 : decode c_X5_putFirst 61 = .ok (.iaload, 1) := by decide +kernel
theorem d_X5_putFirst_62 : decode c_X5_putFirst 62 = .ok (.iastore, 1) := by decide +kernel
theorem d_X5_putFirst_63 : decode c_X5_putFirst 63 = .ok (.iinc 3 1, 3) := by decide +kernel
theorem d_X5_putFirst_66 : decode c_X5_putFirst 66 = .ok (.goto (-52), 3) := by decide +kernel
theorem d_X5_putFirst_69 : decode c_X5_putFirst 69 = .ok (.return_, 1) := by decide +kernel
set_option maxHeartbeats 4000000 in
set_option maxRecDepth 100000 in
theorem ct_X5_putFirst_20_21 (l : Launch) (D : va_G) (dA : Nat → ClassId) (ad : Nat → Nat) (v : tV) (hI : Inv v) (si : Int32) (r_si : Rg si 0 19) : Met l m_X5_putFirst [.code m_X5_putFirst c_X5_putFirst 4 none] ({ frames := 1, cells := 0, slots := 0, locals := 40 } : Room) (tP D dA ad v [.ref (ad 20), .int si, .ref (ad 21)]) (tQv D dA ad (fun v' => Inv v' ∧ Kp v v')) 0 0 (tA ad) := by
  refine tMet (by decide) (Nat.le_of_ble_eq_true rfl) ?_
  intro p e s m below meth c ls X hr hlocks hw hl
  have X : CX p s m ([.ref (ad 20), .int si, .ref (ad 21)] : List Value).toArray c c_X5_putFirst N_X5 4 D dA := X
  have hx := X.1
  have hb := X.2.1
  have hS : va_S (tA ad) s.heap s.heap [] := va_S.rf
  have hl : lv_has ls 4 [(0, .ref (ad 20)), (1, .int si), (2, .ref (ad 21))] := hl
  have LL : ∀ n : Nat, (∀ (y3 : Int32) (v1 : tV) (H : Heap) (locs : List Loc) (ls : Array Slot), (20 - y3.toInt).toNat < n → Rg y3 0 20 → Inv v1 → Kp v v1 → tI D dA ad v1 H → va_S (tA ad) s.heap H locs → lv_has ls 4 [(0, .ref (ad 20)), (1, .int si), (2, .ref (ad 21)), (3, .int y3)] → W p l e ({ frames := 1, cells := 0, slots := 0, locals := 40 } : Room) s m ([.ref (ad 20), .int si, .ref (ad 21)] : List Value).toArray below meth c H locs 0 0 (MQ below (tQv D dA ad (fun v' => Inv v' ∧ Kp v v')) ([.ref (ad 20), .int si, .ref (ad 21)] : List Value).toArray s 0 0 (tA ad)) (F0 m 14 ls [])) := by
    intro n
    induction n with
    | zero => intros; omega
    | succ n ih =>
      have ih0 := ih
      intro y3 v1 H locs ls hmu r_y3 hI1 hK1 hw hS hl
      refine lv_iload_n hx hb d_X5_putFirst_14 rfl (lv_at hl 3 rfl) ?_
      refine lv_aload_n hx hb d_X5_putFirst_15 rfl (lv_at hl 2 rfl) ?_
      refine r_geti X hw FL_X5_18 (rfl : KD 21 = _) rfl d_X5_putFirst_16 ?_
      refine lv_topi (fun x1 ex1 => ?_)
      have r2 : Rg x1 0 20 := by rw [ex1]; exact hI1 _ _ _ _ rfl
      have hm3 : v1 21 2 = x1 := ex1.symm
      refine lv_icmp_ge (tgt := 69) hx hb d_X5_putFirst_19 (by decide) (fun c4 => ?_) (fun c4 => ?_)
      · have f5 := i_le c4
        exact r_vret X hr hlocks hw hS ⟨hI1, hK1⟩ d_X5_putFirst_69
      · have f6 := i_nle c4
        have r7 : Rg y3 0 19 := by obtain ⟨a1, a2⟩ := r_y3; obtain ⟨b1, b2⟩ := r2; have f := i_nle c4; exact ⟨by omega, by omega⟩
        have r8 : Rg x1 1 20 := by obtain ⟨a1, a2⟩ := r_y3; obtain ⟨b1, b2⟩ := r2; have f := i_nle c4; exact ⟨by omega, by omega⟩
        refine lv_aload_n hx hb d_X5_putFirst_22 rfl (lv_at hl 0 rfl) ?_
        refine r_geti X hw FL_X5_18 (rfl : KD 20 = _) rfl d_X5_putFirst_23 ?_
        refine lv_topi (fun x9 ex9 => ?_)
        have r10 : Rg x9 0 20 := by rw [ex9]; exact hI1 _ _ _ _ rfl
        have hm11 : v1 20 2 = x9 := ex9.symm
        refine lv_bipush (v := 20) hx hb d_X5_putFirst_26 (by decide) ?_
        refine lv_icmp_ge (tgt := 69) hx hb d_X5_putFirst_28 (by decide) (fun c12 => ?_) (fun c12 => ?_)
        · have f13 := i_le c12
          have r14 : Rg x9 20 20 := by obtain ⟨a1, a2⟩ := r10; obtain ⟨b1, b2⟩ := (⟨by decide, by decide⟩ : Rg 20 20 20); have f := i_le c12; exact ⟨by omega, by omega⟩
          exact r_vret X hr hlocks hw hS ⟨hI1, hK1⟩ d_X5_putFirst_69
        · have f15 := i_nle c12
          have r16 : Rg x9 0 19 := by obtain ⟨a1, a2⟩ := r10; obtain ⟨b1, b2⟩ := (⟨by decide, by decide⟩ : Rg 20 20 20); have f := i_nle c12; exact ⟨by omega, by omega⟩
          refine lv_aload_n hx hb d_X5_putFirst_31 rfl (lv_at hl 2 rfl) ?_
          refine r_getr (r := 23) X hw FL_X5_9 (rfl : KD 21 = _) rfl d_X5_putFirst_32 ?_
          refine lv_iload_n hx hb d_X5_putFirst_35 rfl (lv_at hl 3 rfl) ?_
          refine r_iald X hw (rfl : KD 23 = _) (Rg.vp (b := 19) r7 (by decide)) rfl d_X5_putFirst_36 ?_
          refine lv_topi (fun x17 ex17 => ?_)
          have r18 : Rg x17 0 19 := by rw [ex17]; exact hI1 _ _ _ _ rfl
          refine lv_iload_n hx hb d_X5_putFirst_37 rfl (lv_at hl 1 rfl) ?_
          refine lv_icmp_eq (tgt := 63) hx hb d_X5_putFirst_38 (by decide) (fun c19 => ?_) (fun c19 => ?_)
          · have f20 := i_eq c19
            obtain ⟨x21, ex21⟩ : ∃ y : Int32, y = y3 + 1 := ⟨_, rfl⟩
            refine lv_iinc (v := x21) (lv' := [(3, .int x21), (0, .ref (ad 20)), (1, .int si), (2, .ref (ad 21))]) hx hb d_X5_putFirst_63 hl (k := 3) rfl (by rw [ex21]; rfl) (by decide) rfl (fun ls hl => ?_)
            have r22 : Rg x21 1 20 := rg_add ex21 r7 (⟨by decide, by decide⟩ : Rg 1 1 1) (by decide) (by decide)
            have s23 : x21.toInt = y3.toInt + (1 : Int32).toInt := by rw [ex21]; exact i_add (by obtain ⟨_, _⟩ := r7; obtain ⟨_, _⟩ := (⟨by decide, by decide⟩ : Rg 1 1 1); omega) (by obtain ⟨_, _⟩ := r7; obtain ⟨_, _⟩ := (⟨by decide, by decide⟩ : Rg 1 1 1); omega)
            have s23l : (1 : Int32).toInt = 1 := rfl
            refine lv_goto (tgt := 14) hx hb d_X5_putFirst_66 (by decide) ?_
            exact ih0 x21 v1 _ _ _ (by have := s23; obtain ⟨_, _⟩ := r22; omega) (rg_w r22 (by decide) (by decide)) hI1 hK1 hw hS (lv_sub hl [1, 2, 3, 0] rfl)
          · have f24 := i_ne c19
            refine lv_aload_n hx hb d_X5_putFirst_41 rfl (lv_at hl 0 rfl) ?_
            refine r_getr (r := 22) X hw FL_X5_9 (rfl : KD 20 = _) rfl d_X5_putFirst_42 ?_
            refine lv_aload_n hx hb d_X5_putFirst_45 rfl (lv_at hl 0 rfl) ?_
            refine lv_dup hx hb d_X5_putFirst_46 rfl ?_
            refine r_geti X hw FL_X5_18 (rfl : KD 20 = _) rfl d_X5_putFirst_47 ?_
            rw [hm11]
            refine lv_dup_x1 hx hb d_X5_putFirst_50 rfl rfl ?_
            refine lv_iconst (v := 1) hx hb d_X5_putFirst_51 (by decide) ?_
            refine lv_iadd hx hb d_X5_putFirst_52 ?_
            refine lv_topi (fun x25 ex25 => ?_)
            have r26 : Rg x25 1 20 := rg_add ex25 r16 (⟨by decide, by decide⟩ : Rg 1 1 1) (by decide) (by decide)
            have s27 : x25.toInt = x9.toInt + (1 : Int32).toInt := by rw [ex25]; exact i_add (by obtain ⟨_, _⟩ := r16; obtain ⟨_, _⟩ := (⟨by decide, by decide⟩ : Rg 1 1 1); omega) (by obtain ⟨_, _⟩ := r16; obtain ⟨_, _⟩ := (⟨by decide, by decide⟩ : Rg 1 1 1); omega)
            have s27l : (1 : Int32).toInt = 1 := rfl
            refine r_put X hw hS FP_X5_18 (rfl : KD 20 = _) rfl ⟨rfl, rfl⟩ d_X5_putFirst_53 (fun H locs hw hS => ?_)
            obtain ⟨v28, ev28⟩ : ∃ z, z = up2 v1 20 2 x25 := ⟨_, rfl⟩
            rw [← ev28] at hw
            have hI29 : Inv v28 := by rw [ev28]; exact Inv.putr hI1 rfl (rg_w r26 (by decide) (by decide))
            have hK30 : Kp v v28 := by rw [ev28]; exact Kp.put hK1 _ rfl
            have hm31 : v28 21 2 = x1 := by rw [ev28, up2_n _ _ (by omega)]; exact hm3
            have hm32 : v28 20 2 = x25 := by rw [ev28, up2_s]
            refine lv_aload_n hx hb d_X5_putFirst_56 rfl (lv_at hl 2 rfl) ?_
            refine r_getr (r := 23) X hw FL_X5_9 (rfl : KD 21 = _) rfl d_X5_putFirst_57 ?_
            refine lv_iload_n hx hb d_X5_putFirst_60 rfl (lv_at hl 3 rfl) ?_
            refine r_iald X hw (rfl : KD 23 = _) (Rg.vp (b := 19) r7 (by decide)) rfl d_X5_putFirst_61 ?_
            refine lv_topi (fun x33 ex33 => ?_)
            have r34 : Rg x33 0 19 := by rw [ex33]; exact hI29 _ _ _ _ rfl
            refine r_iast X hw hS (rfl : KD 22 = _) (Rg.vp (b := 19) r16 (by decide)) rfl d_X5_putFirst_62 (fun H locs hw hS => ?_)
            obtain ⟨v35, ev35⟩ : ∃ z, z = up2 v28 22 x9.toNatClampNeg x33 := ⟨_, rfl⟩
            rw [← ev35] at hw
            have hI36 : Inv v35 := by rw [ev35]; exact Inv.putr hI29 rfl r34
            have hK37 : Kp v v35 := by rw [ev35]; exact Kp.put hK30 _ rfl
            have hm38 : v35 21 2 = x1 := by rw [ev35, up2_n _ _ (by omega)]; exact hm31
            have hm39 : v35 20 2 = x25 := by rw [ev35, up2_n _ _ (by omega)]; exact hm32
            obtain ⟨x40, ex40⟩ : ∃ y : Int32, y = y3 + 1 := ⟨_, rfl⟩
            refine lv_iinc (v := x40) (lv' := [(3, .int x40), (0, .ref (ad 20)), (1, .int si), (2, .ref (ad 21))]) hx hb d_X5_putFirst_63 hl (k := 3) rfl (by rw [ex40]; rfl) (by decide) rfl (fun ls hl => ?_)
            have r41 : Rg x40 1 20 := rg_add ex40 r7 (⟨by decide, by decide⟩ : Rg 1 1 1) (by decide) (by decide)
            have s42 : x40.toInt = y3.toInt + (1 : Int32).toInt := by rw [ex40]; exact i_add (by obtain ⟨_, _⟩ := r7; obtain ⟨_, _⟩ := (⟨by decide, by decide⟩ : Rg 1 1 1); omega) (by obtain ⟨_, _⟩ := r7; obtain ⟨_, _⟩ := (⟨by decide, by decide⟩ : Rg 1 1 1); omega)
            have s42l : (1 : Int32).toInt = 1 := rfl
            refine lv_goto (tgt := 14) hx hb d_X5_putFirst_66 (by decide) ?_
            exact ih0 x40 v35 _ _ _ (by have := s27; have := s42; obtain ⟨_, _⟩ := r41; omega) (rg_w r41 (by decide) (by decide)) hI36 hK37 hw hS (lv_sub hl [1, 2, 3, 0] rfl)
  have ih0 := LL 100000
  have hK0 : Kp v v := Kp.rf v
  refine lv_aload_n hx hb d_X5_putFirst_0 rfl (lv_at hl 0 rfl) ?_
  refine r_getr (r := 22) X hw FL_X5_9 (rfl : KD 20 = _) rfl d_X5_putFirst_1 ?_
  refine lv_iconst (v := 0) hx hb d_X5_putFirst_4 (by decide) ?_
  refine lv_iload_n hx hb d_X5_putFirst_5 rfl (lv_at hl 1 rfl) ?_
  refine r_iast X hw hS (rfl : KD 22 = _) (Rg.vp (b := 0) (⟨by decide, by decide⟩ : Rg 0 0 0) (by decide)) rfl d_X5_putFirst_6 (fun H locs hw hS => ?_)
  obtain ⟨v43, ev43⟩ : ∃ z, z = up2 v 22 (0 : Int32).toNatClampNeg si := ⟨_, rfl⟩
  rw [← ev43] at hw
  have hI44 : Inv v43 := by rw [ev43]; exact Inv.putr hI rfl r_si
  have hK45 : Kp v v43 := by rw [ev43]; exact Kp.put hK0 _ rfl
  refine lv_aload_n hx hb d_X5_putFirst_7 rfl (lv_at hl 0 rfl) ?_
  refine lv_iconst (v := 1) hx hb d_X5_putFirst_8 (by decide) ?_
  refine r_put X hw hS FP_X5_18 (rfl : KD 20 = _) rfl ⟨rfl, rfl⟩ d_X5_putFirst_9 (fun H locs hw hS => ?_)
  obtain ⟨v46, ev46⟩ : ∃ z, z = up2 v43 20 2 1 := ⟨_, rfl⟩
  rw [← ev46] at hw
  have hI47 : Inv v46 := by rw [ev46]; exact Inv.putr hI44 rfl (rg_w (⟨by decide, by decide⟩ : Rg 1 1 1) (by decide) (by decide))
  have hK48 : Kp v v46 := by rw [ev46]; exact Kp.put hK45 _ rfl
  have hm49 : v46 20 2 = 1 := by rw [ev46, up2_s]
  refine lv_iconst (v := 0) hx hb d_X5_putFirst_12 (by decide) ?_
  refine lv_istore_n (lv' := [(3, .int 0), (0, .ref (ad 20)), (1, .int si), (2, .ref (ad 21))]) hx hb d_X5_putFirst_13 rfl hl (by decide) rfl (fun ls hl => ?_)
  exact ih0 0 v46 _ _ _ (by obtain ⟨_, _⟩ := (⟨by decide, by decide⟩ : Rg 0 0 0); omega) (rg_w (⟨by decide, by decide⟩ : Rg 0 0 0) (by decide) (by decide)) hI47 hK48 hw hS (lv_sub hl [1, 2, 3, 0] rfl)
theorem d_X5_line_0 : decode c_X5_line 0 = .ok (.aload_n 0, 1) := by decide +kernel
theorem d_X5_line_1 : decode c_X5_line 1 = .ok (.iconst 0, 1) := by decide +kernel
theorem d_X5_line_2 : decode c_X5_line 2 = .ok (.putfield 18, 3) := by decide +kernel
theorem d_X5_line_5 : decode c_X5_line 5 = .ok (.iconst 0, 1) := by decide +kernel
theorem d_X5_line_6 : decode c_X5_line 6 = .ok (.istore_n 3, 1) := by decide +kernel
theorem d_X5_line_7 : decode c_X5_line 7 = .ok (.iload_n 3, 1) := by decide +kernel
theorem d_X5_line_8 : decode c_X5_line 8 = .ok (.aload_n 1, 1) := by decide +kernel
theorem d_X5_line_9 : decode c_X5_line 9 = .ok (.getfield 22, 3) := by decide +kernel
theorem d_X5_line_12 : decode c_X5_line 12 = .ok (.if_icmp .ge 50, 3) := by decide +kernel
theorem d_X5_line_15 : decode c_X5_line 15 = .ok (.aload_n 1, 1) := by decide +kernel
theorem d_X5_line_16 : decode c_X5_line 16 = .ok (.getfield 27, 3) := by decide +kernel
theorem d_X5_line_19 : decode c_X5_line 19 = .ok (.iload_n 3, 1) := by decide +kernel
theorem d_X5_line_20 : decode c_X5_line 20 = .ok (.aaload, 1) := by decide +kernel
theorem d_X5_line_21 : decode c_X5_line 21 = .ok (.astore 4, 2) := by decide +kernel
theorem d_X5_line_23 : decode c_X5_line 23 = .ok (.aload 4, 2) := by decide +kernel
theorem d_X5_line_25 : decode c_X5_line 25 = .ok (.getfield 30, 3) := by decide +kernel
theorem d_X5_line_28 : decode c_X5_line 28 = .ok (.iconst 1, 1) := by decide +kernel
theorem d_X5_line_29 : decode c_X5_line 29 = .ok (.if_icmp .gt 27, 3) := by decide +kernel
theorem d_X5_line_32 : decode c_X5_line 32 = .ok (.aload 4, 2) := by decide +kernel
theorem d_X5_line_34 : decode c_X5_line 34 = .ok (.invokevirtual 35, 3) := by decide +kernel
theorem d_X5_line_37 : decode c_X5_line 37 = .ok (.ifCond .eq 19, 3) := by decide +kernel
theorem d_X5_line_40 : decode c_X5_line 40 = .ok (.aload_n 0, 1) := by decide +kernel
theorem d_X5_line_41 : decode c_X5_line 41 = .ok (.iload_n 3, 1) := by decide +kernel
theorem d_X5_line_42 : decode c_X5_line 42 = .ok (.iload_n 3, 1) := by decide +kernel
theorem d_X5_line_43 : decode c_X5_line 43 = .ok (.aload 4, 2) := by decide +kernel
theorem d_X5_line_45 : decode c_X5_line 45 = .ok (.aload_n 2, 1) := by decide +kernel
theorem d_X5_line_46 : decode c_X5_line 46 = .ok (.aload_n 1, 1) := by decide +kernel
theorem d_X5_line_47 : decode c_X5_line 47 = .ok (.getfield 39, 3) := by decide +kernel
theorem d_X5_line_50 : decode c_X5_line 50 = .ok (.invokestatic 42, 3) := by decide +kernel
theorem d_X5_line_53 : decode c_X5_line 53 = .ok (.invokevirtual 46, 3) := by decide +kernel
theorem d_X5_line_56 : decode c_X5_line 56 = .ok (.iinc 3 1, 3) := by decide +kernel
theorem d_X5_line_59 : decode c_X5_line 59 = .ok (.goto (-52), 3) := by decide +kernel
theorem d_X5_line_62 : decode c_X5_line 62 = .ok (.aload_n 0, 1) := by decide +kernel
theorem d_X5_line_63 : decode c_X5_line 63 = .ok (.aload_n 0, 1) := by decide +kernel
theorem d_X5_line_64 : decode c_X5_line 64 = .ok (.getfield 18, 3) := by decide +kernel
theorem d_X5_line_67 : decode c_X5_line 67 = .ok (.aload_n 2, 1) := by decide +kernel
theorem d_X5_line_68 : decode c_X5_line 68 = .ok (.aload_n 1, 1) := by decide +kernel
theorem d_X5_line_69 : decode c_X5_line 69 = .ok (.getfield 50, 3) := by decide +kernel
theorem d_X5_line_72 : decode c_X5_line 72 = .ok (.invokevirtual 53, 3) := by decide +kernel
theorem d_X5_line_75 : decode c_X5_line 75 = .ok (.invokestatic 59, 3) := by decide +kernel
theorem d_X5_line_78 : decode c_X5_line 78 = .ok (.putfield 18, 3) := by decide +kernel
theorem d_X5_line_81 : decode c_X5_line 81 = .ok (.iconst 0, 1) := by decide +kernel
theorem d_X5_line_82 : decode c_X5_line 82 = .ok (.istore_n 3, 1) := by decide +kernel
theorem d_X5_line_83 : decode c_X5_line 83 = .ok (.iload_n 3, 1) := by decide +kernel
theorem d_X5_line_84 : decode c_X5_line 84 = .ok (.aload_n 1, 1) := by decide +kernel
theorem d_X5_line_85 : decode c_X5_line 85 = .ok (.getfield 22, 3) := by decide +kernel
theorem d_X5_line_88 : decode c_X5_line 88 = .ok (.if_icmp .ge 41, 3) := by decide +kernel
theorem d_X5_line_91 : decode c_X5_line 91 = .ok (.aload_n 1, 1) := by decide +kernel
theorem d_X5_line_92 : decode c_X5_line 92 = .ok (.getfield 27, 3) := by decide +kernel
theorem d_X5_line_95 : decode c_X5_line 95 = .ok (.iload_n 3, 1) := by decide +kernel
theorem d_X5_line_96 : decode c_X5_line 96 = .ok (.aaload, 1) := by decide +kernel
theorem d_X5_line_97 : decode c_X5_line 97 = .ok (.astore 4, 2) := by decide +kernel
theorem d_X5_line_99 : decode c_X5_line 99 = .ok (.aload 4, 2) := by decide +kernel
theorem d_X5_line_101 : decode c_X5_line 101 = .ok (.getfield 30, 3) := by decide +kernel
theorem d_X5_line_104 : decode c_X5_line 104 = .ok (.iconst 2, 1) := by decide +kernel
theorem d_X5_line_105 : decode c_X5_line 105 = .ok (.if_icmp .ne 18, 3) := by decide +kernel
theorem d_X5_line_108 : decode c_X5_line 108 = .ok (.aload 4, 2) := by decide +kernel
theorem d_X5_line_110 : decode c_X5_line 110 = .ok (.invokevirtual 35, 3) := by decide +kernel
theorem d_X5_line_113 : decode c_X5_line 113 = .ok (.ifCond .eq 10, 3) := by decide +kernel
theorem d_X5_line_116 : decode c_X5_line 116 = .ok (.aload_n 0, 1) := by decide +kernel
theorem d_X5_line_117 : decode c_X5_line 117 = .ok (.iload_n 3, 1) := by decide +kernel
theorem d_X5_line_118 : decode c_X5_line 118 = .ok (.ldc 67, 2) := by decide +kernel
theorem d_X5_line_120 : decode c_X5_line 120 = .ok (.invokevirtual 46, 3) := by decide +kernel
theorem d_X5_line_123 : decode c_X5_line 123 = .ok (.iinc 3 1, 3) := by decide +kernel
theorem d_X5_line_126 : decode c_X5_line 126 = .ok (.goto (-43), 3) := by decide +kernel
theorem d_X5_line_129 : decode c_X5_line 129 = .ok (.return_, 1) := by decide +kernel
set_option maxHeartbeats 4000000 in
set_option maxRecDepth 100000 in
theorem ct_X5_line_20_1 (l : Launch) (D : va_G) (dA : Nat → ClassId) (ad : Nat → Nat) (v : tV) (hI : Inv v) (k : Nat) (ka : 60 ≤ k) (kb : k < 69) : Met l m_X5_line [.code m_X5_line c_X5_line 5 none] ({ frames := 3, cells := 0, slots := 0, locals := 86 } : Room) (tP D dA ad v [.ref (ad 20), .ref (ad 1), .ref (ad k)]) (tQv D dA ad (fun v' => Inv v' ∧ Kp v v')) 0 0 (tA ad) := by
  refine tMet (by decide) (Nat.le_of_ble_eq_true rfl) ?_
  intro p e s m below meth c ls X hr hlocks hw hl
  have X : CX p s m ([.ref (ad 20), .ref (ad 1), .ref (ad k)] : List Value).toArray c c_X5_line N_X5 5 D dA := X
  have hx := X.1
  have hb := X.2.1
  have hS : va_S (tA ad) s.heap s.heap [] := va_S.rf
  have hl : lv_has ls 5 [(0, .ref (ad 20)), (1, .ref (ad 1)), (2, .ref (ad k))] := hl
  have LL : ∀ n : Nat, (∀ (y3 : Int32) (v1 : tV) (H : Heap) (locs : List Loc) (ls : Array Slot), (20 - y3.toInt).toNat + 100 < n → Rg y3 0 20 → Inv v1 → Kp v v1 → tI D dA ad v1 H → va_S (tA ad) s.heap H locs → lv_has ls 5 [(0, .ref (ad 20)), (1, .ref (ad 1)), (2, .ref (ad k)), (3, .int y3)] → W p l e ({ frames := 3, cells := 0, slots := 0, locals := 86 } : Room) s m ([.ref (ad 20), .ref (ad 1), .ref (ad k)] : List Value).toArray below meth c H locs 0 0 (MQ below (tQv D dA ad (fun v' => Inv v' ∧ Kp v v')) ([.ref (ad 20), .ref (ad 1), .ref (ad k)] : List Value).toArray s 0 0 (tA ad)) (F0 m 7 ls [])) ∧ (∀ (y3 : Int32) (v1 : tV) (H : Heap) (locs : List Loc) (ls : Array Slot), (20 - y3.toInt).toNat + 0 < n → Rg y3 0 20 → Inv v1 → Kp v v1 → tI D dA ad v1 H → va_S (tA ad) s.heap H locs → lv_has ls 5 [(0, .ref (ad 20)), (1, .ref (ad 1)), (2, .ref (ad k)), (3, .int y3)] → W p l e ({ frames := 3, cells := 0, slots := 0, locals := 86 } : Room) s m ([.ref (ad 20), .ref (ad 1), .ref (ad k)] : List Value).toArray below meth c H locs 0 0 (MQ below (tQv D dA ad (fun v' => Inv v' ∧ Kp v v')) ([.ref (ad 20), .ref (ad 1), .ref (ad k)] : List Value).toArray s 0 0 (tA ad)) (F0 m 83 ls [])) := by
    intro n
    induction n with
    | zero => refine ⟨?_, ?_⟩ <;> (intros; omega)
    | succ n ih =>
      obtain ⟨ih0, ih1⟩ := ih
      refine ⟨?_, ?_⟩
      · intro y3 v1 H locs ls hmu r_y3 hI1 hK1 hw hS hl
        refine lv_iload_n hx hb d_X5_line_7 rfl (lv_at hl 3 rfl) ?_
        refine lv_aload_n hx hb d_X5_line_8 rfl (lv_at hl 1 rfl) ?_
        refine r_geti X hw FL_X5_22 (rfl : KD 1 = _) rfl d_X5_line_9 ?_
        refine lv_topi (fun x1 ex1 => ?_)
        have r2 : Rg x1 0 20 := by rw [ex1]; exact hI1 _ _ _ _ rfl
        have hm3 : v1 1 3 = x1 := ex1.symm
        refine lv_icmp_ge (tgt := 62) hx hb d_X5_line_12 (by decide) (fun c4 => ?_) (fun c4 => ?_)
        · have f5 := i_le c4
          refine lv_aload_n hx hb d_X5_line_62 rfl (lv_at hl 0 rfl) ?_
          refine lv_aload_n hx hb d_X5_line_63 rfl (lv_at hl 0 rfl) ?_
          refine r_geti X hw FL_X5_18 (rfl : KD 20 = _) rfl d_X5_line_64 ?_
          refine lv_topi (fun x6 ex6 => ?_)
          have r7 : Rg x6 0 20 := by rw [ex6]; exact hI1 _ _ _ _ rfl
          have hm8 : v1 20 2 = x6 := ex6.symm
          refine lv_aload_n hx hb d_X5_line_67 rfl (lv_at hl 2 rfl) ?_
          refine lv_aload_n hx hb d_X5_line_68 rfl (lv_at hl 1 rfl) ?_
          refine r_geti X hw FL_X5_50 (rfl : KD 1 = _) rfl d_X5_line_69 ?_
          refine lv_topi (fun x9 ex9 => ?_)
          refine r_ci (r_runV (n := 1) (As := [.int x9]) (rest := [.int x6, .ref (ad 20)]) X hw (ct_X3_sellers l D dA ad v1 hI1 k x9 (by omega) (by omega)) gc_X5_53 (KD_order (by omega) (by omega)) (by decide) rfl (by decide +kernel) ⟨rfl, rfl, Nat.le_of_ble_eq_true rfl, Nat.le_of_ble_eq_true rfl⟩ rfl hl.1 rfl (Nat.le_of_ble_eq_true rfl) ⟨Nat.zero_le _, Nat.zero_le _⟩ d_X5_line_72) hS (fun x11 v12 H locs hp10 hw hS => ?_)
          obtain ⟨ev12, hp10⟩ := hp10
          rw [ev12] at hw
          refine va_mmin hx hb (X.2.2.1.trans hl.1.symm) X.2.2.2.1 (X.2.2.2.2.1 _ ml_X5_59) (X.2.2.2.2.1 _ ml_mins) (X.2.2.2.2.1 _ ml_mi) (X.2.2.2.2.1 _ ml_minc) (Nat.le_of_ble_eq_true rfl) (Nat.le_of_ble_eq_true rfl) (Nat.zero_le _) (Nat.zero_le _) d_X5_line_75 ?_
          refine lv_topi (fun x13 ex13 => ?_)
          have r14 : Rg x13 0 20 := by obtain ⟨a1, a2⟩ := r7; obtain ⟨b1, b2⟩ := hp10; rw [ex13]; split <;> rename_i q <;> first | (have := i_lt q; exact ⟨by omega, by omega⟩) | (have := i_nlt q; exact ⟨by omega, by omega⟩)
          refine r_put X hw hS FP_X5_18 (rfl : KD 20 = _) rfl ⟨rfl, rfl⟩ d_X5_line_78 (fun H locs hw hS => ?_)
          obtain ⟨v15, ev15⟩ : ∃ z, z = up2 v1 20 2 x13 := ⟨_, rfl⟩
          rw [← ev15] at hw
          have hI16 : Inv v15 := by rw [ev15]; exact Inv.putr hI1 rfl r14
          have hK17 : Kp v v15 := by rw [ev15]; exact Kp.put hK1 _ rfl
          have hm18 : v15 1 3 = x1 := by rw [ev15, up2_n _ _ (by omega)]; exact hm3
          have hm19 : v15 20 2 = x13 := by rw [ev15, up2_s]
          refine lv_iconst (v := 0) hx hb d_X5_line_81 (by decide) ?_
          refine lv_istore_n (lv' := [(3, .int 0), (0, .ref (ad 20)), (1, .ref (ad 1)), (2, .ref (ad k))]) hx hb d_X5_line_82 rfl hl (by decide) rfl (fun ls hl => ?_)
          exact ih1 0 v15 _ _ _ (by obtain ⟨_, _⟩ := (⟨by decide, by decide⟩ : Rg 0 0 0); omega) (rg_w (⟨by decide, by decide⟩ : Rg 0 0 0) (by decide) (by decide)) hI16 hK17 hw hS (lv_sub hl [1, 2, 3, 0] rfl)
        · have f20 := i_nle c4
          have r21 : Rg y3 0 19 := by obtain ⟨a1, a2⟩ := r_y3; obtain ⟨b1, b2⟩ := r2; have f := i_nle c4; exact ⟨by omega, by omega⟩
          have r22 : Rg x1 1 20 := by obtain ⟨a1, a2⟩ := r_y3; obtain ⟨b1, b2⟩ := r2; have f := i_nle c4; exact ⟨by omega, by omega⟩
          refine lv_aload_n hx hb d_X5_line_15 rfl (lv_at hl 1 rfl) ?_
          refine r_getr (r := 10) X hw FL_X5_27 (rfl : KD 1 = _) rfl d_X5_line_16 ?_
          refine lv_iload_n hx hb d_X5_line_19 rfl (lv_at hl 3 rfl) ?_
          refine r_aald X hw (rfl : KD 10 = _) (Or.inl rfl) (Rg.vp (b := 19) r21 (by decide)) rfl d_X5_line_20 ?_
          refine r_nm (fun kc23 ekc23 => ?_)
          have kc23a : 100 ≤ kc23 := by omega
          have kc23b : kc23 ≤ 119 := by have := Rg.nat r21; omega
          refine lv_astore (lv' := [(4, .ref (ad kc23)), (0, .ref (ad 20)), (1, .ref (ad 1)), (2, .ref (ad k)), (3, .int y3)]) hx hb d_X5_line_21 hl (by decide) rfl (fun ls hl => ?_)
          refine lv_aload hx hb d_X5_line_23 (lv_at hl 0 rfl) ?_
          refine r_geti X hw FL_X5_30 (KD_ship (by omega) (by omega)) (SH_ship (by omega) (by omega)) d_X5_line_25 ?_
          refine lv_topi (fun x24 ex24 => ?_)
          refine lv_iconst (v := 1) hx hb d_X5_line_28 (by decide) ?_
          refine lv_icmp_gt (tgt := 56) hx hb d_X5_line_29 (by decide) (fun c25 => ?_) (fun c25 => ?_)
          · have f26 := i_lt c25
            have r27 : Rg x24 2 2147483647 := by obtain ⟨a1, a2⟩ := (rg_any x24); obtain ⟨b1, b2⟩ := (⟨by decide, by decide⟩ : Rg 1 1 1); have f := i_lt c25; exact ⟨by omega, by omega⟩
            obtain ⟨x28, ex28⟩ : ∃ y : Int32, y = y3 + 1 := ⟨_, rfl⟩
            refine lv_iinc (v := x28) (lv' := [(3, .int x28), (4, .ref (ad kc23)), (0, .ref (ad 20)), (1, .ref (ad 1)), (2, .ref (ad k))]) hx hb d_X5_line_56 hl (k := 4) rfl (by rw [ex28]; rfl) (by decide) rfl (fun ls hl => ?_)
            have r29 : Rg x28 1 20 := rg_add ex28 r21 (⟨by decide, by decide⟩ : Rg 1 1 1) (by decide) (by decide)
            have s30 : x28.toInt = y3.toInt + (1 : Int32).toInt := by rw [ex28]; exact i_add (by obtain ⟨_, _⟩ := r21; obtain ⟨_, _⟩ := (⟨by decide, by decide⟩ : Rg 1 1 1); omega) (by obtain ⟨_, _⟩ := r21; obtain ⟨_, _⟩ := (⟨by decide, by decide⟩ : Rg 1 1 1); omega)
            have s30l : (1 : Int32).toInt = 1 := rfl
            refine lv_goto (tgt := 7) hx hb d_X5_line_59 (by decide) ?_
            exact ih0 x28 v1 _ _ _ (by have := s30; obtain ⟨_, _⟩ := r29; omega) (rg_w r29 (by decide) (by decide)) hI1 hK1 hw hS (lv_sub hl [2, 3, 4, 0] rfl)
          · have f31 := i_nlt c25
            have r32 : Rg x24 (-2147483648) 1 := by obtain ⟨a1, a2⟩ := (rg_any x24); obtain ⟨b1, b2⟩ := (⟨by decide, by decide⟩ : Rg 1 1 1); have f := i_nlt c25; exact ⟨by omega, by omega⟩
            refine lv_aload hx hb d_X5_line_32 (lv_at hl 0 rfl) ?_
            refine r_ci (r_runV (n := 0) (As := []) (rest := []) X hw (ct_X7_isInPort l D dA ad v1 hI1 kc23 (by omega) (by omega)) gc_X5_35 (KD_ship (by omega) (by omega)) (by decide) rfl (by decide +kernel) ⟨rfl, rfl, Nat.le_of_ble_eq_true rfl, Nat.le_of_ble_eq_true rfl⟩ rfl hl.1 rfl (Nat.le_of_ble_eq_true rfl) ⟨Nat.zero_le _, Nat.zero_le _⟩ d_X5_line_34) hS (fun x34 v35 H locs hp33 hw hS => ?_)
            obtain ⟨ev35, hp33⟩ := hp33
            rw [ev35] at hw
            refine lv_if_eq (tgt := 56) hx hb d_X5_line_37 (by decide) (fun c36 => ?_) (fun c36 => ?_)
            · have f37 := i_eq c36
              have r38 : Rg x34 0 0 := by obtain ⟨a1, a2⟩ := hp33; obtain ⟨b1, b2⟩ := (⟨by decide, by decide⟩ : Rg 0 0 0); have f := i_eq c36; exact ⟨by omega, by omega⟩
              obtain ⟨x39, ex39⟩ : ∃ y : Int32, y = y3 + 1 := ⟨_, rfl⟩
              refine lv_iinc (v := x39) (lv' := [(3, .int x39), (4, .ref (ad kc23)), (0, .ref (ad 20)), (1, .ref (ad 1)), (2, .ref (ad k))]) hx hb d_X5_line_56 hl (k := 4) rfl (by rw [ex39]; rfl) (by decide) rfl (fun ls hl => ?_)
              have r40 : Rg x39 1 20 := rg_add ex39 r21 (⟨by decide, by decide⟩ : Rg 1 1 1) (by decide) (by decide)
              have s41 : x39.toInt = y3.toInt + (1 : Int32).toInt := by rw [ex39]; exact i_add (by obtain ⟨_, _⟩ := r21; obtain ⟨_, _⟩ := (⟨by decide, by decide⟩ : Rg 1 1 1); omega) (by obtain ⟨_, _⟩ := r21; obtain ⟨_, _⟩ := (⟨by decide, by decide⟩ : Rg 1 1 1); omega)
              have s41l : (1 : Int32).toInt = 1 := rfl
              refine lv_goto (tgt := 7) hx hb d_X5_line_59 (by decide) ?_
              exact ih0 x39 v1 _ _ _ (by have := s41; obtain ⟨_, _⟩ := r40; omega) (rg_w r40 (by decide) (by decide)) hI1 hK1 hw hS (lv_sub hl [2, 3, 4, 0] rfl)
            · have f42 := i_ne c36
              have r43 : Rg x34 1 1 := by obtain ⟨a1, a2⟩ := hp33; obtain ⟨b1, b2⟩ := (⟨by decide, by decide⟩ : Rg 0 0 0); have f := i_ne c36; exact ⟨by omega, by omega⟩
              refine lv_aload_n hx hb d_X5_line_40 rfl (lv_at hl 1 rfl) ?_
              refine lv_iload_n hx hb d_X5_line_41 rfl (lv_at hl 4 rfl) ?_
              refine lv_iload_n hx hb d_X5_line_42 rfl (lv_at hl 4 rfl) ?_
              refine lv_aload hx hb d_X5_line_43 (lv_at hl 0 rfl) ?_
              refine lv_aload_n hx hb d_X5_line_45 rfl (lv_at hl 3 rfl) ?_
              refine lv_aload_n hx hb d_X5_line_46 rfl (lv_at hl 2 rfl) ?_
              refine r_geti X hw FL_X5_39 (rfl : KD 1 = _) rfl d_X5_line_47 ?_
              refine lv_topi (fun x44 ex44 => ?_)
              refine r_ci (r_runS (n := 4) (As := [.int y3, .ref (ad kc23), .ref (ad k), .int x44]) (rest := [.int y3, .ref (ad 20)]) X hw (ct_X5_rank l D dA ad v1 hI1 y3 kc23 k x44 (by omega) (by omega) (by omega) (by omega)) gc_X5_42 (by decide +kernel) ⟨rfl, rfl, Nat.le_of_ble_eq_true rfl, Nat.le_of_ble_eq_true rfl⟩ rfl hl.1 rfl (Nat.le_of_ble_eq_true rfl) ⟨Nat.zero_le _, Nat.zero_le _⟩ d_X5_line_50) hS (fun x46 v47 H locs hp45 hw hS => ?_)
              rw [hp45] at hw
              refine r_cv (r_runV (n := 2) (As := [.int y3, .int x46]) (rest := []) X hw (ct_X5_insert_20 l D dA ad v1 hI1 y3 x46 r21) gc_X5_46 (rfl : KD 20 = _) (by decide) rfl (by decide +kernel) ⟨rfl, rfl, Nat.le_of_ble_eq_true rfl, Nat.le_of_ble_eq_true rfl⟩ rfl hl.1 rfl (Nat.le_of_ble_eq_true rfl) ⟨Nat.zero_le _, Nat.zero_le _⟩ d_X5_line_53) hS (fun v49 H locs hp48 hw hS => ?_)
              obtain ⟨hI50, hK51⟩ := hp48
              have hK52 : Kp v v49 := Kp.tr hK1 hK51
              obtain ⟨x53, ex53⟩ : ∃ y : Int32, y = y3 + 1 := ⟨_, rfl⟩
              refine lv_iinc (v := x53) (lv' := [(3, .int x53), (4, .ref (ad kc23)), (0, .ref (ad 20)), (1, .ref (ad 1)), (2, .ref (ad k))]) hx hb d_X5_line_56 hl (k := 4) rfl (by rw [ex53]; rfl) (by decide) rfl (fun ls hl => ?_)
              have r54 : Rg x53 1 20 := rg_add ex53 r21 (⟨by decide, by decide⟩ : Rg 1 1 1) (by decide) (by decide)
              have s55 : x53.toInt = y3.toInt + (1 : Int32).toInt := by rw [ex53]; exact i_add (by obtain ⟨_, _⟩ := r21; obtain ⟨_, _⟩ := (⟨by decide, by decide⟩ : Rg 1 1 1); omega) (by obtain ⟨_, _⟩ := r21; obtain ⟨_, _⟩ := (⟨by decide, by decide⟩ : Rg 1 1 1); omega)
              have s55l : (1 : Int32).toInt = 1 := rfl
              refine lv_goto (tgt := 7) hx hb d_X5_line_59 (by decide) ?_
              exact ih0 x53 v49 _ _ _ (by have := s55; obtain ⟨_, _⟩ := r54; omega) (rg_w r54 (by decide) (by decide)) hI50 hK52 hw hS (lv_sub hl [2, 3, 4, 0] rfl)
      · intro y3 v1 H locs ls hmu r_y3 hI1 hK1 hw hS hl
        refine lv_iload_n hx hb d_X5_line_83 rfl (lv_at hl 3 rfl) ?_
        refine lv_aload_n hx hb d_X5_line_84 rfl (lv_at hl 1 rfl) ?_
        refine r_geti X hw FL_X5_22 (rfl : KD 1 = _) rfl d_X5_line_85 ?_
        refine lv_topi (fun x56 ex56 => ?_)
        have r57 : Rg x56 0 20 := by rw [ex56]; exact hI1 _ _ _ _ rfl
        have hm58 : v1 1 3 = x56 := ex56.symm
        refine lv_icmp_ge (tgt := 129) hx hb d_X5_line_88 (by decide) (fun c59 => ?_) (fun c59 => ?_)
        · have f60 := i_le c59
          exact r_vret X hr hlocks hw hS ⟨hI1, hK1⟩ d_X5_line_129
        · have f61 := i_nle c59
          have r62 : Rg y3 0 19 := by obtain ⟨a1, a2⟩ := r_y3; obtain ⟨b1, b2⟩ := r57; have f := i_nle c59; exact ⟨by omega, by omega⟩
          have r63 : Rg x56 1 20 := by obtain ⟨a1, a2⟩ := r_y3; obtain ⟨b1, b2⟩ := r57; have f := i_nle c59; exact ⟨by omega, by omega⟩
          refine lv_aload_n hx hb d_X5_line_91 rfl (lv_at hl 1 rfl) ?_
          refine r_getr (r := 10) X hw FL_X5_27 (rfl : KD 1 = _) rfl d_X5_line_92 ?_
          refine lv_iload_n hx hb d_X5_line_95 rfl (lv_at hl 3 rfl) ?_
          refine r_aald X hw (rfl : KD 10 = _) (Or.inl rfl) (Rg.vp (b := 19) r62 (by decide)) rfl d_X5_line_96 ?_
          refine r_nm (fun kc64 ekc64 => ?_)
          have kc64a : 100 ≤ kc64 := by omega
          have kc64b : kc64 ≤ 119 := by have := Rg.nat r62; omega
          refine lv_astore (lv' := [(4, .ref (ad kc64)), (0, .ref (ad 20)), (1, .ref (ad 1)), (2, .ref (ad k)), (3, .int y3)]) hx hb d_X5_line_97 hl (by decide) rfl (fun ls hl => ?_)
          refine lv_aload hx hb d_X5_line_99 (lv_at hl 0 rfl) ?_
          refine r_geti X hw FL_X5_30 (KD_ship (by omega) (by omega)) (SH_ship (by omega) (by omega)) d_X5_line_101 ?_
          refine lv_topi (fun x65 ex65 => ?_)
          refine lv_iconst (v := 2) hx hb d_X5_line_104 (by decide) ?_
          refine lv_icmp_ne (tgt := 123) hx hb d_X5_line_105 (by decide) (fun c66 => ?_) (fun c66 => ?_)
          · have f67 := i_ne c66
            obtain ⟨x68, ex68⟩ : ∃ y : Int32, y = y3 + 1 := ⟨_, rfl⟩
            refine lv_iinc (v := x68) (lv' := [(3, .int x68), (4, .ref (ad kc64)), (0, .ref (ad 20)), (1, .ref (ad 1)), (2, .ref (ad k))]) hx hb d_X5_line_123 hl (k := 4) rfl (by rw [ex68]; rfl) (by decide) rfl (fun ls hl => ?_)
            have r69 : Rg x68 1 20 := rg_add ex68 r62 (⟨by decide, by decide⟩ : Rg 1 1 1) (by decide) (by decide)
            have s70 : x68.toInt = y3.toInt + (1 : Int32).toInt := by rw [ex68]; exact i_add (by obtain ⟨_, _⟩ := r62; obtain ⟨_, _⟩ := (⟨by decide, by decide⟩ : Rg 1 1 1); omega) (by obtain ⟨_, _⟩ := r62; obtain ⟨_, _⟩ := (⟨by decide, by decide⟩ : Rg 1 1 1); omega)
            have s70l : (1 : Int32).toInt = 1 := rfl
            refine lv_goto (tgt := 83) hx hb d_X5_line_126 (by decide) ?_
            exact ih1 x68 v1 _ _ _ (by have := s70; obtain ⟨_, _⟩ := r69; omega) (rg_w r69 (by decide) (by decide)) hI1 hK1 hw hS (lv_sub hl [2, 3, 4, 0] rfl)
          · have f71 := i_eq c66
            have r72 : Rg x65 2 2 := by obtain ⟨a1, a2⟩ := (rg_any x65); obtain ⟨b1, b2⟩ := (⟨by decide, by decide⟩ : Rg 2 2 2); have f := i_eq c66; exact ⟨by omega, by omega⟩
            refine lv_aload hx hb d_X5_line_108 (lv_at hl 0 rfl) ?_
            refine r_ci (r_runV (n := 0) (As := []) (rest := []) X hw (ct_X7_isInPort l D dA ad v1 hI1 kc64 (by omega) (by omega)) gc_X5_35 (KD_ship (by omega) (by omega)) (by decide) rfl (by decide +kernel) ⟨rfl, rfl, Nat.le_of_ble_eq_true rfl, Nat.le_of_ble_eq_true rfl⟩ rfl hl.1 rfl (Nat.le_of_ble_eq_true rfl) ⟨Nat.zero_le _, Nat.zero_le _⟩ d_X5_line_110) hS (fun x74 v75 H locs hp73 hw hS => ?_)
            obtain ⟨ev75, hp73⟩ := hp73
            rw [ev75] at hw
            refine lv_if_eq (tgt := 123) hx hb d_X5_line_113 (by decide) (fun c76 => ?_) (fun c76 => ?_)
            · have f77 := i_eq c76
              have r78 : Rg x74 0 0 := by obtain ⟨a1, a2⟩ := hp73; obtain ⟨b1, b2⟩ := (⟨by decide, by decide⟩ : Rg 0 0 0); have f := i_eq c76; exact ⟨by omega, by omega⟩
              obtain ⟨x79, ex79⟩ : ∃ y : Int32, y = y3 + 1 := ⟨_, rfl⟩
              refine lv_iinc (v := x79) (lv' := [(3, .int x79), (4, .ref (ad kc64)), (0, .ref (ad 20)), (1, .ref (ad 1)), (2, .ref (ad k))]) hx hb d_X5_line_123 hl (k := 4) rfl (by rw [ex79]; rfl) (by decide) rfl (fun ls hl => ?_)
              have r80 : Rg x79 1 20 := rg_add ex79 r62 (⟨by decide, by decide⟩ : Rg 1 1 1) (by decide) (by decide)
              have s81 : x79.toInt = y3.toInt + (1 : Int32).toInt := by rw [ex79]; exact i_add (by obtain ⟨_, _⟩ := r62; obtain ⟨_, _⟩ := (⟨by decide, by decide⟩ : Rg 1 1 1); omega) (by obtain ⟨_, _⟩ := r62; obtain ⟨_, _⟩ := (⟨by decide, by decide⟩ : Rg 1 1 1); omega)
              have s81l : (1 : Int32).toInt = 1 := rfl
              refine lv_goto (tgt := 83) hx hb d_X5_line_126 (by decide) ?_
              exact ih1 x79 v1 _ _ _ (by have := s81; obtain ⟨_, _⟩ := r80; omega) (rg_w r80 (by decide) (by decide)) hI1 hK1 hw hS (lv_sub hl [2, 3, 4, 0] rfl)
            · have f82 := i_ne c76
              have r83 : Rg x74 1 1 := by obtain ⟨a1, a2⟩ := hp73; obtain ⟨b1, b2⟩ := (⟨by decide, by decide⟩ : Rg 0 0 0); have f := i_ne c76; exact ⟨by omega, by omega⟩
              refine lv_aload_n hx hb d_X5_line_116 rfl (lv_at hl 1 rfl) ?_
              refine lv_iload_n hx hb d_X5_line_117 rfl (lv_at hl 4 rfl) ?_
              refine lv_ldc hx hb X.2.2.2.1 (X.2.2.2.2.1 _ kc_X5_67) d_X5_line_118 ?_
              refine r_cv (r_runV (n := 2) (As := [.int y3, .int 2147483647]) (rest := []) X hw (ct_X5_insert_20 l D dA ad v1 hI1 y3 2147483647 r62) gc_X5_46 (rfl : KD 20 = _) (by decide) rfl (by decide +kernel) ⟨rfl, rfl, Nat.le_of_ble_eq_true rfl, Nat.le_of_ble_eq_true rfl⟩ rfl hl.1 rfl (Nat.le_of_ble_eq_true rfl) ⟨Nat.zero_le _, Nat.zero_le _⟩ d_X5_line_120) hS (fun v85 H locs hp84 hw hS => ?_)
              obtain ⟨hI86, hK87⟩ := hp84
              have hK88 : Kp v v85 := Kp.tr hK1 hK87
              obtain ⟨x89, ex89⟩ : ∃ y : Int32, y = y3 + 1 := ⟨_, rfl⟩
              refine lv_iinc (v := x89) (lv' := [(3, .int x89), (4, .ref (ad kc64)), (0, .ref (ad 20)), (1, .ref (ad 1)), (2, .ref (ad k))]) hx hb d_X5_line_123 hl (k := 4) rfl (by rw [ex89]; rfl) (by decide) rfl (fun ls hl => ?_)
              have r90 : Rg x89 1 20 := rg_add ex89 r62 (⟨by decide, by decide⟩ : Rg 1 1 1) (by decide) (by decide)
              have s91 : x89.toInt = y3.toInt + (1 : Int32).toInt := by rw [ex89]; exact i_add (by obtain ⟨_, _⟩ := r62; obtain ⟨_, _⟩ := (⟨by decide, by decide⟩ : Rg 1 1 1); omega) (by obtain ⟨_, _⟩ := r62; obtain ⟨_, _⟩ := (⟨by decide, by decide⟩ : Rg 1 1 1); omega)
              have s91l : (1 : Int32).toInt = 1 := rfl
              refine lv_goto (tgt := 83) hx hb d_X5_line_126 (by decide) ?_
              exact ih1 x89 v85 _ _ _ (by have := s91; obtain ⟨_, _⟩ := r90; omega) (rg_w r90 (by decide) (by decide)) hI86 hK88 hw hS (lv_sub hl [2, 3, 4, 0] rfl)
  obtain ⟨ih0, ih1⟩ := LL 100000
  have hK0 : Kp v v := Kp.rf v
  refine lv_aload_n hx hb d_X5_line_0 rfl (lv_at hl 0 rfl) ?_
  refine lv_iconst (v := 0) hx hb d_X5_line_1 (by decide) ?_
  refine r_put X hw hS FP_X5_18 (rfl : KD 20 = _) rfl ⟨rfl, rfl⟩ d_X5_line_2 (fun H locs hw hS => ?_)
  obtain ⟨v92, ev92⟩ : ∃ z, z = up2 v 20 2 0 := ⟨_, rfl⟩
  rw [← ev92] at hw
  have hI93 : Inv v92 := by rw [ev92]; exact Inv.putr hI rfl (rg_w (⟨by decide, by decide⟩ : Rg 0 0 0) (by decide) (by decide))
  have hK94 : Kp v v92 := by rw [ev92]; exact Kp.put hK0 _ rfl
  have hm95 : v92 20 2 = 0 := by rw [ev92, up2_s]
  refine lv_iconst (v := 0) hx hb d_X5_line_5 (by decide) ?_
  refine lv_istore_n (lv' := [(3, .int 0), (0, .ref (ad 20)), (1, .ref (ad 1)), (2, .ref (ad k))]) hx hb d_X5_line_6 rfl hl (by decide) rfl (fun ls hl => ?_)
  exact ih0 0 v92 _ _ _ (by obtain ⟨_, _⟩ := (⟨by decide, by decide⟩ : Rg 0 0 0); omega) (rg_w (⟨by decide, by decide⟩ : Rg 0 0 0) (by decide) (by decide)) hI93 hK94 hw hS (lv_sub hl [1, 2, 3, 0] rfl)
set_option maxHeartbeats 4000000 in
set_option maxRecDepth 100000 in
theorem ct_X5_line_21_1 (l : Launch) (D : va_G) (dA : Nat → ClassId) (ad : Nat → Nat) (v : tV) (hI : Inv v) (k : Nat) (ka : 60 ≤ k) (kb : k < 69) : Met l m_X5_line [.code m_X5_line c_X5_line 5 none] ({ frames := 3, cells := 0, slots := 0, locals := 86 } : Room) (tP D dA ad v [.ref (ad 21), .ref (ad 1), .ref (ad k)]) (tQv D dA ad (fun v' => Inv v' ∧ Kp v v')) 0 0 (tA ad) := by
  refine tMet (by decide) (Nat.le_of_ble_eq_true rfl) ?_
  intro p e s m below meth c ls X hr hlocks hw hl
  have X : CX p s m ([.ref (ad 21), .ref (ad 1), .ref (ad k)] : List Value).toArray c c_X5_line N_X5 5 D dA := X
  have hx := X.1
  have hb := X.2.1
  have hS : va_S (tA ad) s.heap s.heap [] := va_S.rf
  have hl : lv_has ls 5 [(0, .ref (ad 21)), (1, .ref (ad 1)), (2, .ref (ad k))] := hl
  have LL : ∀ n : Nat, (∀ (y3 : Int32) (v1 : tV) (H : Heap) (locs : List Loc) (ls : Array Slot), (20 - y3.toInt).toNat + 100 < n → Rg y3 0 20 → Inv v1 → Kp v v1 → tI D dA ad v1 H → va_S (tA ad) s.heap H locs → lv_has ls 5 [(0, .ref (ad 21)), (1, .ref (ad 1)), (2, .ref (ad k)), (3, .int y3)] → W p l e ({ frames := 3, cells := 0, slots := 0, locals := 86 } : Room) s m ([.ref (ad 21), .ref (ad 1), .ref (ad k)] : List Value).toArray below meth c H locs 0 0 (MQ below (tQv D dA ad (fun v' => Inv v' ∧ Kp v v')) ([.ref (ad 21), .ref (ad 1), .ref (ad k)] : List Value).toArray s 0 0 (tA ad)) (F0 m 7 ls [])) ∧ (∀ (y3 : Int32) (v1 : tV) (H : Heap) (locs : List Loc) (ls : Array Slot), (20 - y3.toInt).toNat + 0 < n → Rg y3 0 20 → Inv v1 → Kp v v1 → tI D dA ad v1 H → va_S (tA ad) s.heap H locs → lv_has ls 5 [(0, .ref (ad 21)), (1, .ref (ad 1)), (2, .ref (ad k)), (3, .int y3)] → W p l e ({ frames := 3, cells := 0, slots := 0, locals := 86 } : Room) s m ([.ref (ad 21), .ref (ad 1), .ref (ad k)] : List Value).toArray below meth c H locs 0 0 (MQ below (tQv D dA ad (fun v' => Inv v' ∧ Kp v v')) ([.ref (ad 21), .ref (ad 1), .ref (ad k)] : List Value).toArray s 0 0 (tA ad)) (F0 m 83 ls [])) := by
    intro n
    induction n with
    | zero => refine ⟨?_, ?_⟩ <;> (intros; omega)
    | succ n ih =>
      obtain ⟨ih0, ih1⟩ := ih
      refine ⟨?_, ?_⟩
      · intro y3 v1 H locs ls hmu r_y3 hI1 hK1 hw hS hl
        refine lv_iload_n hx hb d_X5_line_7 rfl (lv_at hl 3 rfl) ?_
        refine lv_aload_n hx hb d_X5_line_8 rfl (lv_at hl 1 rfl) ?_
        refine r_geti X hw FL_X5_22 (rfl : KD 1 = _) rfl d_X5_line_9 ?_
        refine lv_topi (fun x1 ex1 => ?_)
        have r2 : Rg x1 0 20 := by rw [ex1]; exact hI1 _ _ _ _ rfl
        have hm3 : v1 1 3 = x1 := ex1.symm
        refine lv_icmp_ge (tgt := 62) hx hb d_X5_line_12 (by decide) (fun c4 => ?_) (fun c4 => ?_)
        · have f5 := i_le c4
          refine lv_aload_n hx hb d_X5_line_62 rfl (lv_at hl 0 rfl) ?_
          refine lv_aload_n hx hb d_X5_line_63 rfl (lv_at hl 0 rfl) ?_
          refine r_geti X hw FL_X5_18 (rfl : KD 21 = _) rfl d_X5_line_64 ?_
          refine lv_topi (fun x6 ex6 => ?_)
          have r7 : Rg x6 0 20 := by rw [ex6]; exact hI1 _ _ _ _ rfl
          have hm8 : v1 21 2 = x6 := ex6.symm
          refine lv_aload_n hx hb d_X5_line_67 rfl (lv_at hl 2 rfl) ?_
          refine lv_aload_n hx hb d_X5_line_68 rfl (lv_at hl 1 rfl) ?_
          refine r_geti X hw FL_X5_50 (rfl : KD 1 = _) rfl d_X5_line_69 ?_
          refine lv_topi (fun x9 ex9 => ?_)
          refine r_ci (r_runV (n := 1) (As := [.int x9]) (rest := [.int x6, .ref (ad 21)]) X hw (ct_X3_sellers l D dA ad v1 hI1 k x9 (by omega) (by omega)) gc_X5_53 (KD_order (by omega) (by omega)) (by decide) rfl (by decide +kernel) ⟨rfl, rfl, Nat.le_of_ble_eq_true rfl, Nat.le_of_ble_eq_true rfl⟩ rfl hl.1 rfl (Nat.le_of_ble_eq_true rfl) ⟨Nat.zero_le _, Nat.zero_le _⟩ d_X5_line_72) hS (fun x11 v12 H locs hp10 hw hS => ?_)
          obtain ⟨ev12, hp10⟩ := hp10
          rw [ev12] at hw
          refine va_mmin hx hb (X.2.2.1.trans hl.1.symm) X.2.2.2.1 (X.2.2.2.2.1 _ ml_X5_59) (X.2.2.2.2.1 _ ml_mins) (X.2.2.2.2.1 _ ml_mi) (X.2.2.2.2.1 _ ml_minc) (Nat.le_of_ble_eq_true rfl) (Nat.le_of_ble_eq_true rfl) (Nat.zero_le _) (Nat.zero_le _) d_X5_line_75 ?_
          refine lv_topi (fun x13 ex13 => ?_)
          have r14 : Rg x13 0 20 := by obtain ⟨a1, a2⟩ := r7; obtain ⟨b1, b2⟩ := hp10; rw [ex13]; split <;> rename_i q <;> first | (have := i_lt q; exact ⟨by omega, by omega⟩) | (have := i_nlt q; exact ⟨by omega, by omega⟩)
          refine r_put X hw hS FP_X5_18 (rfl : KD 21 = _) rfl ⟨rfl, rfl⟩ d_X5_line_78 (fun H locs hw hS => ?_)
          obtain ⟨v15, ev15⟩ : ∃ z, z = up2 v1 21 2 x13 := ⟨_, rfl⟩
          rw [← ev15] at hw
          have hI16 : Inv v15 := by rw [ev15]; exact Inv.putr hI1 rfl r14
          have hK17 : Kp v v15 := by rw [ev15]; exact Kp.put hK1 _ rfl
          have hm18 : v15 1 3 = x1 := by rw [ev15, up2_n _ _ (by omega)]; exact hm3
          have hm19 : v15 21 2 = x13 := by rw [ev15, up2_s]
          refine lv_iconst (v := 0) hx hb d_X5_line_81 (by decide) ?_
          refine lv_istore_n (lv' := [(3, .int 0), (0, .ref (ad 21)), (1, .ref (ad 1)), (2, .ref (ad k))]) hx hb d_X5_line_82 rfl hl (by decide) rfl (fun ls hl => ?_)
          exact ih1 0 v15 _ _ _ (by obtain ⟨_, _⟩ := (⟨by decide, by decide⟩ : Rg 0 0 0); omega) (rg_w (⟨by decide, by decide⟩ : Rg 0 0 0) (by decide) (by decide)) hI16 hK17 hw hS (lv_sub hl [1, 2, 3, 0] rfl)
        · have f20 := i_nle c4
          have r21 : Rg y3 0 19 := by obtain ⟨a1, a2⟩ := r_y3; obtain ⟨b1, b2⟩ := r2; have f := i_nle c4; exact ⟨by omega, by omega⟩
          have r22 : Rg x1 1 20 := by obtain ⟨a1, a2⟩ := r_y3; obtain ⟨b1, b2⟩ := r2; have f := i_nle c4; exact ⟨by omega, by omega⟩
          refine lv_aload_n hx hb d_X5_line_15 rfl (lv_at hl 1 rfl) ?_
          refine r_getr (r := 10) X hw FL_X5_27 (rfl : KD 1 = _) rfl d_X5_line_16 ?_
          refine lv_iload_n hx hb d_X5_line_19 rfl (lv_at hl 3 rfl) ?_
          refine r_aald X hw (rfl : KD 10 = _) (Or.inl rfl) (Rg.vp (b := 19) r21 (by decide)) rfl d_X5_line_20 ?_
          refine r_nm (fun kc23 ekc23 => ?_)
          have kc23a : 100 ≤ kc23 := by omega
          have kc23b : kc23 ≤ 119 := by have := Rg.nat r21; omega
          refine lv_astore (lv' := [(4, .ref (ad kc23)), (0, .ref (ad 21)), (1, .ref (ad 1)), (2, .ref (ad k)), (3, .int y3)]) hx hb d_X5_line_21 hl (by decide) rfl (fun ls hl => ?_)
          refine lv_aload hx hb d_X5_line_23 (lv_at hl 0 rfl) ?_
          refine r_geti X hw FL_X5_30 (KD_ship (by omega) (by omega)) (SH_ship (by omega) (by omega)) d_X5_line_25 ?_
          refine lv_topi (fun x24 ex24 => ?_)
          refine lv_iconst (v := 1) hx hb d_X5_line_28 (by decide) ?_
          refine lv_icmp_gt (tgt := 56) hx hb d_X5_line_29 (by decide) (fun c25 => ?_) (fun c25 => ?_)
          · have f26 := i_lt c25
            have r27 : Rg x24 2 2147483647 := by obtain ⟨a1, a2⟩ := (rg_any x24); obtain ⟨b1, b2⟩ := (⟨by decide, by decide⟩ : Rg 1 1 1); have f := i_lt c25; exact ⟨by omega, by omega⟩
            obtain ⟨x28, ex28⟩ : ∃ y : Int32, y = y3 + 1 := ⟨_, rfl⟩
            refine lv_iinc (v := x28) (lv' := [(3, .int x28), (4, .ref (ad kc23)), (0, .ref (ad 21)), (1, .ref (ad 1)), (2, .ref (ad k))]) hx hb d_X5_line_56 hl (k := 4) rfl (by rw [ex28]; rfl) (by decide) rfl (fun ls hl => ?_)
            have r29 : Rg x28 1 20 := rg_add ex28 r21 (⟨by decide, by decide⟩ : Rg 1 1 1) (by decide) (by decide)
            have s30 : x28.toInt = y3.toInt + (1 : Int32).toInt := by rw [ex28]; exact i_add (by obtain ⟨_, _⟩ := r21; obtain ⟨_, _⟩ := (⟨by decide, by decide⟩ : Rg 1 1 1); omega) (by obtain ⟨_, _⟩ := r21; obtain ⟨_, _⟩ := (⟨by decide, by decide⟩ : Rg 1 1 1); omega)
            have s30l : (1 : Int32).toInt = 1 := rfl
            refine lv_goto (tgt := 7) hx hb d_X5_line_59 (by decide) ?_
            exact ih0 x28 v1 _ _ _ (by have := s30; obtain ⟨_, _⟩ := r29; omega) (rg_w r29 (by decide) (by decide)) hI1 hK1 hw hS (lv_sub hl [2, 3, 4, 0] rfl)
          · have f31 := i_nlt c25
            have r32 : Rg x24 (-2147483648) 1 := by obtain ⟨a1, a2⟩ := (rg_any x24); obtain ⟨b1, b2⟩ := (⟨by decide, by decide⟩ : Rg 1 1 1); have f := i_nlt c25; exact ⟨by omega, by omega⟩
            refine lv_aload hx hb d_X5_line_32 (lv_at hl 0 rfl) ?_
            refine r_ci (r_runV (n := 0) (As := []) (rest := []) X hw (ct_X7_isInPort l D dA ad v1 hI1 kc23 (by omega) (by omega)) gc_X5_35 (KD_ship (by omega) (by omega)) (by decide) rfl (by decide +kernel) ⟨rfl, rfl, Nat.le_of_ble_eq_true rfl, Nat.le_of_ble_eq_true rfl⟩ rfl hl.1 rfl (Nat.le_of_ble_eq_true rfl) ⟨Nat.zero_le _, Nat.zero_le _⟩ d_X5_line_34) hS (fun x34 v35 H locs hp33 hw hS => ?_)
            obtain ⟨ev35, hp33⟩ := hp33
            rw [ev35] at hw
            refine lv_if_eq (tgt := 56) hx hb d_X5_line_37 (by decide) (fun c36 => ?_) (fun c36 => ?_)
            · have f37 := i_eq c36
              have r38 : Rg x34 0 0 := by obtain ⟨a1, a2⟩ := hp33; obtain ⟨b1, b2⟩ := (⟨by decide, by decide⟩ : Rg 0 0 0); have f := i_eq c36; exact ⟨by omega, by omega⟩
              obtain ⟨x39, ex39⟩ : ∃ y : Int32, y = y3 + 1 := ⟨_, rfl⟩
              refine lv_iinc (v := x39) (lv' := [(3, .int x39), (4, .ref (ad kc23)), (0, .ref (ad 21)), (1, .ref (ad 1)), (2, .ref (ad k))]) hx hb d_X5_line_56 hl (k := 4) rfl (by rw [ex39]; rfl) (by decide) rfl (fun ls hl => ?_)
              have r40 : Rg x39 1 20 := rg_add ex39 r21 (⟨by decide, by decide⟩ : Rg 1 1 1) (by decide) (by decide)
              have s41 : x39.toInt = y3.toInt + (1 : Int32).toInt := by rw [ex39]; exact i_add (by obtain ⟨_, _⟩ := r21; obtain ⟨_, _⟩ := (⟨by decide, by decide⟩ : Rg 1 1 1); omega) (by obtain ⟨_, _⟩ := r21; obtain ⟨_, _⟩ := (⟨by decide, by decide⟩ : Rg 1 1 1); omega)
              have s41l : (1 : Int32).toInt = 1 := rfl
              refine lv_goto (tgt := 7) hx hb d_X5_line_59 (by decide) ?_
              exact ih0 x39 v1 _ _ _ (by have := s41; obtain ⟨_, _⟩ := r40; omega) (rg_w r40 (by decide) (by decide)) hI1 hK1 hw hS (lv_sub hl [2, 3, 4, 0] rfl)
            · have f42 := i_ne c36
              have r43 : Rg x34 1 1 := by obtain ⟨a1, a2⟩ := hp33; obtain ⟨b1, b2⟩ := (⟨by decide, by decide⟩ : Rg 0 0 0); have f := i_ne c36; exact ⟨by omega, by omega⟩
              refine lv_aload_n hx hb d_X5_line_40 rfl (lv_at hl 1 rfl) ?_
              refine lv_iload_n hx hb d_X5_line_41 rfl (lv_at hl 4 rfl) ?_
              refine lv_iload_n hx hb d_X5_line_42 rfl (lv_at hl 4 rfl) ?_
              refine lv_aload hx hb d_X5_line_43 (lv_at hl 0 rfl) ?_
              refine lv_aload_n hx hb d_X5_line_45 rfl (lv_at hl 3 rfl) ?_
              refine lv_aload_n hx hb d_X5_line_46 rfl (lv_at hl 2 rfl) ?_
              refine r_geti X hw FL_X5_39 (rfl : KD 1 = _) rfl d_X5_line_47 ?_
              refine lv_topi (fun x44 ex44 => ?_)
              refine r_ci (r_runS (n := 4) (As := [.int y3, .ref (ad kc23), .ref (ad k), .int x44]) (rest := [.int y3, .ref (ad 21)]) X hw (ct_X5_rank l D dA ad v1 hI1 y3 kc23 k x44 (by omega) (by omega) (by omega) (by omega)) gc_X5_42 (by decide +kernel) ⟨rfl, rfl, Nat.le_of_ble_eq_true rfl, Nat.le_of_ble_eq_true rfl⟩ rfl hl.1 rfl (Nat.le_of_ble_eq_true rfl) ⟨Nat.zero_le _, Nat.zero_le _⟩ d_X5_line_50) hS (fun x46 v47 H locs hp45 hw hS => ?_)
              rw [hp45] at hw
              refine r_cv (r_runV (n := 2) (As := [.int y3, .int x46]) (rest := []) X hw (ct_X5_insert_21 l D dA ad v1 hI1 y3 x46 r21) gc_X5_46 (rfl : KD 21 = _) (by decide) rfl (by decide +kernel) ⟨rfl, rfl, Nat.le_of_ble_eq_true rfl, Nat.le_of_ble_eq_true rfl⟩ rfl hl.1 rfl (Nat.le_of_ble_eq_true rfl) ⟨Nat.zero_le _, Nat.zero_le _⟩ d_X5_line_53) hS (fun v49 H locs hp48 hw hS => ?_)
              obtain ⟨hI50, hK51⟩ := hp48
              have hK52 : Kp v v49 := Kp.tr hK1 hK51
              obtain ⟨x53, ex53⟩ : ∃ y : Int32, y = y3 + 1 := ⟨_, rfl⟩
              refine lv_iinc (v := x53) (lv' := [(3, .int x53), (4, .ref (ad kc23)), (0, .ref (ad 21)), (1, .ref (ad 1)), (2, .ref (ad k))]) hx hb d_X5_line_56 hl (k := 4) rfl (by rw [ex53]; rfl) (by decide) rfl (fun ls hl => ?_)
              have r54 : Rg x53 1 20 := rg_add ex53 r21 (⟨by decide, by decide⟩ : Rg 1 1 1) (by decide) (by decide)
              have s55 : x53.toInt = y3.toInt + (1 : Int32).toInt := by rw [ex53]; exact i_add (by obtain ⟨_, _⟩ := r21; obtain ⟨_, _⟩ := (⟨by decide, by decide⟩ : Rg 1 1 1); omega) (by obtain ⟨_, _⟩ := r21; obtain ⟨_, _⟩ := (⟨by decide, by decide⟩ : Rg 1 1 1); omega)
              have s55l : (1 : Int32).toInt = 1 := rfl
              refine lv_goto (tgt := 7) hx hb d_X5_line_59 (by decide) ?_
              exact ih0 x53 v49 _ _ _ (by have := s55; obtain ⟨_, _⟩ := r54; omega) (rg_w r54 (by decide) (by decide)) hI50 hK52 hw hS (lv_sub hl [2, 3, 4, 0] rfl)
      · intro y3 v1 H locs ls hmu r_y3 hI1 hK1 hw hS hl
        refine lv_iload_n hx hb d_X5_line_83 rfl (lv_at hl 3 rfl) ?_
        refine lv_aload_n hx hb d_X5_line_84 rfl (lv_at hl 1 rfl) ?_
        refine r_geti X hw FL_X5_22 (rfl : KD 1 = _) rfl d_X5_line_85 ?_
        refine lv_topi (fun x56 ex56 => ?_)
        have r57 : Rg x56 0 20 := by rw [ex56]; exact hI1 _ _ _ _ rfl
        have hm58 : v1 1 3 = x56 := ex56.symm
        refine lv_icmp_ge (tgt := 129) hx hb d_X5_line_88 (by decide) (fun c59 => ?_) (fun c59 => ?_)
        · have f60 := i_le c59
          exact r_vret X hr hlocks hw hS ⟨hI1, hK1⟩ d_X5_line_129
        · have f61 := i_nle c59
          have r62 : Rg y3 0 19 := by obtain ⟨a1, a2⟩ := r_y3; obtain ⟨b1, b2⟩ := r57; have f := i_nle c59; exact ⟨by omega, by omega⟩
          have r63 : Rg x56 1 20 := by obtain ⟨a1, a2⟩ := r_y3; obtain ⟨b1, b2⟩ := r57; have f := i_nle c59; exact ⟨by omega, by omega⟩
          refine lv_aload_n hx hb d_X5_line_91 rfl (lv_at hl 1 rfl) ?_
          refine r_getr (r := 10) X hw FL_X5_27 (rfl : KD 1 = _) rfl d_X5_line_92 ?_
          refine lv_iload_n hx hb d_X5_line_95 rfl (lv_at hl 3 rfl) ?_
          refine r_aald X hw (rfl : KD 10 = _) (Or.inl rfl) (Rg.vp (b := 19) r62 (by decide)) rfl d_X5_line_96 ?_
          refine r_nm (fun kc64 ekc64 => ?_)
          have kc64a : 100 ≤ kc64 := by omega
          have kc64b : kc64 ≤ 119 := by have := Rg.nat r62; omega
          refine lv_astore (lv' := [(4, .ref (ad kc64)), (0, .ref (ad 21)), (1, .ref (ad 1)), (2, .ref (ad k)), (3, .int y3)]) hx hb d_X5_line_97 hl (by decide) rfl (fun ls hl => ?_)
          refine lv_aload hx hb d_X5_line_99 (lv_at hl 0 rfl) ?_
          refine r_geti X hw FL_X5_30 (KD_ship (by omega) (by omega)) (SH_ship (by omega) (by omega)) d_X5_line_101 ?_
          refine lv_topi (fun x65 ex65 => ?_)
          refine lv_iconst (v := 2) hx hb d_X5_line_104 (by decide) ?_
          refine lv_icmp_ne (tgt := 123) hx hb d_X5_line_105 (by decide) (fun c66 => ?_) (fun c66 => ?_)
          · have f67 := i_ne c66
            obtain ⟨x68, ex68⟩ : ∃ y : Int32, y = y3 + 1 := ⟨_, rfl⟩
            refine lv_iinc (v := x68) (lv' := [(3, .int x68), (4, .ref (ad kc64)), (0, .ref (ad 21)), (1, .ref (ad 1)), (2, .ref (ad k))]) hx hb d_X5_line_123 hl (k := 4) rfl (by rw [ex68]; rfl) (by decide) rfl (fun ls hl => ?_)
            have r69 : Rg x68 1 20 := rg_add ex68 r62 (⟨by decide, by decide⟩ : Rg 1 1 1) (by decide) (by decide)
            have s70 : x68.toInt = y3.toInt + (1 : Int32).toInt := by rw [ex68]; exact i_add (by obtain ⟨_, _⟩ := r62; obtain ⟨_, _⟩ := (⟨by decide, by decide⟩ : Rg 1 1 1); omega) (by obtain ⟨_, _⟩ := r62; obtain ⟨_, _⟩ := (⟨by decide, by decide⟩ : Rg 1 1 1); omega)
            have s70l : (1 : Int32).toInt = 1 := rfl
            refine lv_goto (tgt := 83) hx hb d_X5_line_126 (by decide) ?_
            exact ih1 x68 v1 _ _ _ (by have := s70; obtain ⟨_, _⟩ := r69; omega) (rg_w r69 (by decide) (by decide)) hI1 hK1 hw hS (lv_sub hl [2, 3, 4, 0] rfl)
          · have f71 := i_eq c66
            have r72 : Rg x65 2 2 := by obtain ⟨a1, a2⟩ := (rg_any x65); obtain ⟨b1, b2⟩ := (⟨by decide, by decide⟩ : Rg 2 2 2); have f := i_eq c66; exact ⟨by omega, by omega⟩
            refine lv_aload hx hb d_X5_line_108 (lv_at hl 0 rfl) ?_
            refine r_ci (r_runV (n := 0) (As := []) (rest := []) X hw (ct_X7_isInPort l D dA ad v1 hI1 kc64 (by omega) (by omega)) gc_X5_35 (KD_ship (by omega) (by omega)) (by decide) rfl (by decide +kernel) ⟨rfl, rfl, Nat.le_of_ble_eq_true rfl, Nat.le_of_ble_eq_true rfl⟩ rfl hl.1 rfl (Nat.le_of_ble_eq_true rfl) ⟨Nat.zero_le _, Nat.zero_le _⟩ d_X5_line_110) hS (fun x74 v75 H locs hp73 hw hS => ?_)
            obtain ⟨ev75, hp73⟩ := hp73
            rw [ev75] at hw
            refine lv_if_eq (tgt := 123) hx hb d_X5_line_113 (by decide) (fun c76 => ?_) (fun c76 => ?_)
            · have f77 := i_eq c76
              have r78 : Rg x74 0 0 := by obtain ⟨a1, a2⟩ := hp73; obtain ⟨b1, b2⟩ := (⟨by decide, by decide⟩ : Rg 0 0 0); have f := i_eq c76; exact ⟨by omega, by omega⟩
              obtain ⟨x79, ex79⟩ : ∃ y : Int32, y = y3 + 1 := ⟨_, rfl⟩
              refine lv_iinc (v := x79) (lv' := [(3, .int x79), (4, .ref (ad kc64)), (0, .ref (ad 21)), (1, .ref (ad 1)), (2, .ref (ad k))]) hx hb d_X5_line_123 hl (k := 4) rfl (by rw [ex79]; rfl) (by decide) rfl (fun ls hl => ?_)
              have r80 : Rg x79 1 20 := rg_add ex79 r62 (⟨by decide, by decide⟩ : Rg 1 1 1) (by decide) (by decide)
              have s81 : x79.toInt = y3.toInt + (1 : Int32).toInt := by rw [ex79]; exact i_add (by obtain ⟨_, _⟩ := r62; obtain ⟨_, _⟩ := (⟨by decide, by decide⟩ : Rg 1 1 1); omega) (by obtain ⟨_, _⟩ := r62; obtain ⟨_, _⟩ := (⟨by decide, by decide⟩ : Rg 1 1 1); omega)
              have s81l : (1 : Int32).toInt = 1 := rfl
              refine lv_goto (tgt := 83) hx hb d_X5_line_126 (by decide) ?_
              exact ih1 x79 v1 _ _ _ (by have := s81; obtain ⟨_, _⟩ := r80; omega) (rg_w r80 (by decide) (by decide)) hI1 hK1 hw hS (lv_sub hl [2, 3, 4, 0] rfl)
            · have f82 := i_ne c76
              have r83 : Rg x74 1 1 := by obtain ⟨a1, a2⟩ := hp73; obtain ⟨b1, b2⟩ := (⟨by decide, by decide⟩ : Rg 0 0 0); have f := i_ne c76; exact ⟨by omega, by omega⟩
              refine lv_aload_n hx hb d_X5_line_116 rfl (lv_at hl 1 rfl) ?_
              refine lv_iload_n hx hb d_X5_line_117 rfl (lv_at hl 4 rfl) ?_
              refine lv_ldc hx hb X.2.2.2.1 (X.2.2.2.2.1 _ kc_X5_67) d_X5_line_118 ?_
              refine r_cv (r_runV (n := 2) (As := [.int y3, .int 2147483647]) (rest := []) X hw (ct_X5_insert_21 l D dA ad v1 hI1 y3 2147483647 r62) gc_X5_46 (rfl : KD 21 = _) (by decide) rfl (by decide +kernel) ⟨rfl, rfl, Nat.le_of_ble_eq_true rfl, Nat.le_of_ble_eq_true rfl⟩ rfl hl.1 rfl (Nat.le_of_ble_eq_true rfl) ⟨Nat.zero_le _, Nat.zero_le _⟩ d_X5_line_120) hS (fun v85 H locs hp84 hw hS => ?_)
              obtain ⟨hI86, hK87⟩ := hp84
              have hK88 : Kp v v85 := Kp.tr hK1 hK87
              obtain ⟨x89, ex89⟩ : ∃ y : Int32, y = y3 + 1 := ⟨_, rfl⟩
              refine lv_iinc (v := x89) (lv' := [(3, .int x89), (4, .ref (ad kc64)), (0, .ref (ad 21)), (1, .ref (ad 1)), (2, .ref (ad k))]) hx hb d_X5_line_123 hl (k := 4) rfl (by rw [ex89]; rfl) (by decide) rfl (fun ls hl => ?_)
              have r90 : Rg x89 1 20 := rg_add ex89 r62 (⟨by decide, by decide⟩ : Rg 1 1 1) (by decide) (by decide)
              have s91 : x89.toInt = y3.toInt + (1 : Int32).toInt := by rw [ex89]; exact i_add (by obtain ⟨_, _⟩ := r62; obtain ⟨_, _⟩ := (⟨by decide, by decide⟩ : Rg 1 1 1); omega) (by obtain ⟨_, _⟩ := r62; obtain ⟨_, _⟩ := (⟨by decide, by decide⟩ : Rg 1 1 1); omega)
              have s91l : (1 : Int32).toInt = 1 := rfl
              refine lv_goto (tgt := 83) hx hb d_X5_line_126 (by decide) ?_
              exact ih1 x89 v85 _ _ _ (by have := s91; obtain ⟨_, _⟩ := r90; omega) (rg_w r90 (by decide) (by decide)) hI86 hK88 hw hS (lv_sub hl [2, 3, 4, 0] rfl)
  obtain ⟨ih0, ih1⟩ := LL 100000
  have hK0 : Kp v v := Kp.rf v
  refine lv_aload_n hx hb d_X5_line_0 rfl (lv_at hl 0 rfl) ?_
  refine lv_iconst (v := 0) hx hb d_X5_line_1 (by decide) ?_
  refine r_put X hw hS FP_X5_18 (rfl : KD 21 = _) rfl ⟨rfl, rfl⟩ d_X5_line_2 (fun H locs hw hS => ?_)
  obtain ⟨v92, ev92⟩ : ∃ z, z = up2 v 21 2 0 := ⟨_, rfl⟩
  rw [← ev92] at hw
  have hI93 : Inv v92 := by rw [ev92]; exact Inv.putr hI rfl (rg_w (⟨by decide, by decide⟩ : Rg 0 0 0) (by decide) (by decide))
  have hK94 : Kp v v92 := by rw [ev92]; exact Kp.put hK0 _ rfl
  have hm95 : v92 21 2 = 0 := by rw [ev92, up2_s]
  refine lv_iconst (v := 0) hx hb d_X5_line_5 (by decide) ?_
  refine lv_istore_n (lv' := [(3, .int 0), (0, .ref (ad 21)), (1, .ref (ad 1)), (2, .ref (ad k))]) hx hb d_X5_line_6 rfl hl (by decide) rfl (fun ls hl => ?_)
  exact ih0 0 v92 _ _ _ (by obtain ⟨_, _⟩ := (⟨by decide, by decide⟩ : Rg 0 0 0); omega) (rg_w (⟨by decide, by decide⟩ : Rg 0 0 0) (by decide) (by decide)) hI93 hK94 hw hS (lv_sub hl [1, 2, 3, 0] rfl)
set_option maxHeartbeats 4000000 in
set_option maxRecDepth 100000 in
theorem ct_X5_line_20_3 (l : Launch) (D : va_G) (dA : Nat → ClassId) (ad : Nat → Nat) (v : tV) (hI : Inv v) (k : Nat) (ka : 60 ≤ k) (kb : k < 69) : Met l m_X5_line [.code m_X5_line c_X5_line 5 none] ({ frames := 3, cells := 0, slots := 0, locals := 86 } : Room) (tP D dA ad v [.ref (ad 20), .ref (ad 3), .ref (ad k)]) (tQv D dA ad (fun v' => Inv v' ∧ Kp v v')) 0 0 (tA ad) := by
  refine tMet (by decide) (Nat.le_of_ble_eq_true rfl) ?_
  intro p e s m below meth c ls X hr hlocks hw hl
  have X : CX p s m ([.ref (ad 20), .ref (ad 3), .ref (ad k)] : List Value).toArray c c_X5_line N_X5 5 D dA := X
  have hx := X.1
  have hb := X.2.1
  have hS : va_S (tA ad) s.heap s.heap [] := va_S.rf
  have hl : lv_has ls 5 [(0, .ref (ad 20)), (1, .ref (ad 3)), (2, .ref (ad k))] := hl
  have LL : ∀ n : Nat, (∀ (y3 : Int32) (v1 : tV) (H : Heap) (locs : List Loc) (ls : Array Slot), (20 - y3.toInt).toNat + 100 < n → Rg y3 0 20 → Inv v1 → Kp v v1 → tI D dA ad v1 H → va_S (tA ad) s.heap H locs → lv_has ls 5 [(0, .ref (ad 20)), (1, .ref (ad 3)), (2, .ref (ad k)), (3, .int y3)] → W p l e ({ frames := 3, cells := 0, slots := 0, locals := 86 } : Room) s m ([.ref (ad 20), .ref (ad 3), .ref (ad k)] : List Value).toArray below meth c H locs 0 0 (MQ below (tQv D dA ad (fun v' => Inv v' ∧ Kp v v')) ([.ref (ad 20), .ref (ad 3), .ref (ad k)] : List Value).toArray s 0 0 (tA ad)) (F0 m 7 ls [])) ∧ (∀ (y3 : Int32) (v1 : tV) (H : Heap) (locs : List Loc) (ls : Array Slot), (20 - y3.toInt).toNat + 0 < n → Rg y3 0 20 → Inv v1 → Kp v v1 → tI D dA ad v1 H → va_S (tA ad) s.heap H locs → lv_has ls 5 [(0, .ref (ad 20)), (1, .ref (ad 3)), (2, .ref (ad k)), (3, .int y3)] → W p l e ({ frames := 3, cells := 0, slots := 0, locals := 86 } : Room) s m ([.ref (ad 20), .ref (ad 3), .ref (ad k)] : List Value).toArray below meth c H locs 0 0 (MQ below (tQv D dA ad (fun v' => Inv v' ∧ Kp v v')) ([.ref (ad 20), .ref (ad 3), .ref (ad k)] : List Value).toArray s 0 0 (tA ad)) (F0 m 83 ls [])) := by
    intro n
    induction n with
    | zero => refine ⟨?_, ?_⟩ <;> (intros; omega)
    | succ n ih =>
      obtain ⟨ih0, ih1⟩ := ih
      refine ⟨?_, ?_⟩
      · intro y3 v1 H locs ls hmu r_y3 hI1 hK1 hw hS hl
        refine lv_iload_n hx hb d_X5_line_7 rfl (lv_at hl 3 rfl) ?_
        refine lv_aload_n hx hb d_X5_line_8 rfl (lv_at hl 1 rfl) ?_
        refine r_geti X hw FL_X5_22 (rfl : KD 3 = _) rfl d_X5_line_9 ?_
        refine lv_topi (fun x1 ex1 => ?_)
        have r2 : Rg x1 0 20 := by rw [ex1]; exact hI1 _ _ _ _ rfl
        have hm3 : v1 3 3 = x1 := ex1.symm
        refine lv_icmp_ge (tgt := 62) hx hb d_X5_line_12 (by decide) (fun c4 => ?_) (fun c4 => ?_)
        · have f5 := i_le c4
          refine lv_aload_n hx hb d_X5_line_62 rfl (lv_at hl 0 rfl) ?_
          refine lv_aload_n hx hb d_X5_line_63 rfl (lv_at hl 0 rfl) ?_
          refine r_geti X hw FL_X5_18 (rfl : KD 20 = _) rfl d_X5_line_64 ?_
          refine lv_topi (fun x6 ex6 => ?_)
          have r7 : Rg x6 0 20 := by rw [ex6]; exact hI1 _ _ _ _ rfl
          have hm8 : v1 20 2 = x6 := ex6.symm
          refine lv_aload_n hx hb d_X5_line_67 rfl (lv_at hl 2 rfl) ?_
          refine lv_aload_n hx hb d_X5_line_68 rfl (lv_at hl 1 rfl) ?_
          refine r_geti X hw FL_X5_50 (rfl : KD 3 = _) rfl d_X5_line_69 ?_
          refine lv_topi (fun x9 ex9 => ?_)
          refine r_ci (r_runV (n := 1) (As := [.int x9]) (rest := [.int x6, .ref (ad 20)]) X hw (ct_X3_sellers l D dA ad v1 hI1 k x9 (by omega) (by omega)) gc_X5_53 (KD_order (by omega) (by omega)) (by decide) rfl (by decide +kernel) ⟨rfl, rfl, Nat.le_of_ble_eq_true rfl, Nat.le_of_ble_eq_true rfl⟩ rfl hl.1 rfl (Nat.le_of_ble_eq_true rfl) ⟨Nat.zero_le _, Nat.zero_le _⟩ d_X5_line_72) hS (fun x11 v12 H locs hp10 hw hS => ?_)
          obtain ⟨ev12, hp10⟩ := hp10
          rw [ev12] at hw
          refine va_mmin hx hb (X.2.2.1.trans hl.1.symm) X.2.2.2.1 (X.2.2.2.2.1 _ ml_X5_59) (X.2.2.2.2.1 _ ml_mins) (X.2.2.2.2.1 _ ml_mi) (X.2.2.2.2.1 _ ml_minc) (Nat.le_of_ble_eq_true rfl) (Nat.le_of_ble_eq_true rfl) (Nat.zero_le _) (Nat.zero_le _) d_X5_line_75 ?_
          refine lv_topi (fun x13 ex13 => ?_)
          have r14 : Rg x13 0 20 := by obtain ⟨a1, a2⟩ := r7; obtain ⟨b1, b2⟩ := hp10; rw [ex13]; split <;> rename_i q <;> first | (have := i_lt q; exact ⟨by omega, by omega⟩) | (have := i_nlt q; exact ⟨by omega, by omega⟩)
          refine r_put X hw hS FP_X5_18 (rfl : KD 20 = _) rfl ⟨rfl, rfl⟩ d_X5_line_78 (fun H locs hw hS => ?_)
          obtain ⟨v15, ev15⟩ : ∃ z, z = up2 v1 20 2 x13 := ⟨_, rfl⟩
          rw [← ev15] at hw
          have hI16 : Inv v15 := by rw [ev15]; exact Inv.putr hI1 rfl r14
          have hK17 : Kp v v15 := by rw [ev15]; exact Kp.put hK1 _ rfl
          have hm18 : v15 3 3 = x1 := by rw [ev15, up2_n _ _ (by omega)]; exact hm3
          have hm19 : v15 20 2 = x13 := by rw [ev15, up2_s]
          refine lv_iconst (v := 0) hx hb d_X5_line_81 (by decide) ?_
          refine lv_istore_n (lv' := [(3, .int 0), (0, .ref (ad 20)), (1, .ref (ad 3)), (2, .ref (ad k))]) hx hb d_X5_line_82 rfl hl (by decide) rfl (fun ls hl => ?_)
          exact ih1 0 v15 _ _ _ (by obtain ⟨_, _⟩ := (⟨by decide, by decide⟩ : Rg 0 0 0); omega) (rg_w (⟨by decide, by decide⟩ : Rg 0 0 0) (by decide) (by decide)) hI16 hK17 hw hS (lv_sub hl [1, 2, 3, 0] rfl)
        · have f20 := i_nle c4
          have r21 : Rg y3 0 19 := by obtain ⟨a1, a2⟩ := r_y3; obtain ⟨b1, b2⟩ := r2; have f := i_nle c4; exact ⟨by omega, by omega⟩
          have r22 : Rg x1 1 20 := by obtain ⟨a1, a2⟩ := r_y3; obtain ⟨b1, b2⟩ := r2; have f := i_nle c4; exact ⟨by omega, by omega⟩
          refine lv_aload_n hx hb d_X5_line_15 rfl (lv_at hl 1 rfl) ?_
          refine r_getr (r := 12) X hw FL_X5_27 (rfl : KD 3 = _) rfl d_X5_line_16 ?_
          refine lv_iload_n hx hb d_X5_line_19 rfl (lv_at hl 3 rfl) ?_
          refine r_aald X hw (rfl : KD 12 = _) (Or.inl rfl) (Rg.vp (b := 19) r21 (by decide)) rfl d_X5_line_20 ?_
          refine r_nm (fun kc23 ekc23 => ?_)
          have kc23a : 140 ≤ kc23 := by omega
          have kc23b : kc23 ≤ 159 := by have := Rg.nat r21; omega
          refine lv_astore (lv' := [(4, .ref (ad kc23)), (0, .ref (ad 20)), (1, .ref (ad 3)), (2, .ref (ad k)), (3, .int y3)]) hx hb d_X5_line_21 hl (by decide) rfl (fun ls hl => ?_)
          refine lv_aload hx hb d_X5_line_23 (lv_at hl 0 rfl) ?_
          refine r_geti X hw FL_X5_30 (KD_ship (by omega) (by omega)) (SH_ship (by omega) (by omega)) d_X5_line_25 ?_
          refine lv_topi (fun x24 ex24 => ?_)
          refine lv_iconst (v := 1) hx hb d_X5_line_28 (by decide) ?_
          refine lv_icmp_gt (tgt := 56) hx hb d_X5_line_29 (by decide) (fun c25 => ?_) (fun c25 => ?_)
          · have f26 := i_lt c25
            have r27 : Rg x24 2 2147483647 := by obtain ⟨a1, a2⟩ := (rg_any x24); obtain ⟨b1, b2⟩ := (⟨by decide, by decide⟩ : Rg 1 1 1); have f := i_lt c25; exact ⟨by omega, by omega⟩
            obtain ⟨x28, ex28⟩ : ∃ y : Int32, y = y3 + 1 := ⟨_, rfl⟩
            refine lv_iinc (v := x28) (lv' := [(3, .int x28), (4, .ref (ad kc23)), (0, .ref (ad 20)), (1, .ref (ad 3)), (2, .ref (ad k))]) hx hb d_X5_line_56 hl (k := 4) rfl (by rw [ex28]; rfl) (by decide) rfl (fun ls hl => ?_)
            have r29 : Rg x28 1 20 := rg_add ex28 r21 (⟨by decide, by decide⟩ : Rg 1 1 1) (by decide) (by decide)
            have s30 : x28.toInt = y3.toInt + (1 : Int32).toInt := by rw [ex28]; exact i_add (by obtain ⟨_, _⟩ := r21; obtain ⟨_, _⟩ := (⟨by decide, by decide⟩ : Rg 1 1 1); omega) (by obtain ⟨_, _⟩ := r21; obtain ⟨_, _⟩ := (⟨by decide, by decide⟩ : Rg 1 1 1); omega)
            have s30l : (1 : Int32).toInt = 1 := rfl
            refine lv_goto (tgt := 7) hx hb d_X5_line_59 (by decide) ?_
            exact ih0 x28 v1 _ _ _ (by have := s30; obtain ⟨_, _⟩ := r29; omega) (rg_w r29 (by decide) (by decide)) hI1 hK1 hw hS (lv_sub hl [2, 3, 4, 0] rfl)
          · have f31 := i_nlt c25
            have r32 : Rg x24 (-2147483648) 1 := by obtain ⟨a1, a2⟩ := (rg_any x24); obtain ⟨b1, b2⟩ := (⟨by decide, by decide⟩ : Rg 1 1 1); have f := i_nlt c25; exact ⟨by omega, by omega⟩
            refine lv_aload hx hb d_X5_line_32 (lv_at hl 0 rfl) ?_
            refine r_ci (r_runV (n := 0) (As := []) (rest := []) X hw (ct_X7_isInPort l D dA ad v1 hI1 kc23 (by omega) (by omega)) gc_X5_35 (KD_ship (by omega) (by omega)) (by decide) rfl (by decide +kernel) ⟨rfl, rfl, Nat.le_of_ble_eq_true rfl, Nat.le_of_ble_eq_true rfl⟩ rfl hl.1 rfl (Nat.le_of_ble_eq_true rfl) ⟨Nat.zero_le _, Nat.zero_le _⟩ d_X5_line_34) hS (fun x34 v35 H locs hp33 hw hS => ?_)
            obtain ⟨ev35, hp33⟩ := hp33
            rw [ev35] at hw
            refine lv_if_eq (tgt := 56) hx hb d_X5_line_37 (by decide) (fun c36 => ?_) (fun c36 => ?_)
            · have f37 := i_eq c36
              have r38 : Rg x34 0 0 := by obtain ⟨a1, a2⟩ := hp33; obtain ⟨b1, b2⟩ := (⟨by decide, by decide⟩ : Rg 0 0 0); have f := i_eq c36; exact ⟨by omega, by omega⟩
              obtain ⟨x39, ex39⟩ : ∃ y : Int32, y = y3 + 1 := ⟨_, rfl⟩
              refine lv_iinc (v := x39) (lv' := [(3, .int x39), (4, .ref (ad kc23)), (0, .ref (ad 20)), (1, .ref (ad 3)), (2, .ref (ad k))]) hx hb d_X5_line_56 hl (k := 4) rfl (by rw [ex39]; rfl) (by decide) rfl (fun ls hl => ?_)
              have r40 : Rg x39 1 20 := rg_add ex39 r21 (⟨by decide, by decide⟩ : Rg 1 1 1) (by decide) (by decide)
              have s41 : x39.toInt = y3.toInt + (1 : Int32).toInt := by rw [ex39]; exact i_add (by obtain ⟨_, _⟩ := r21; obtain ⟨_, _⟩ := (⟨by decide, by decide⟩ : Rg 1 1 1); omega) (by obtain ⟨_, _⟩ := r21; obtain ⟨_, _⟩ := (⟨by decide, by decide⟩ : Rg 1 1 1); omega)
              have s41l : (1 : Int32).toInt = 1 := rfl
              refine lv_goto (tgt := 7) hx hb d_X5_line_59 (by decide) ?_
              exact ih0 x39 v1 _ _ _ (by have := s41; obtain ⟨_, _⟩ := r40; omega) (rg_w r40 (by decide) (by decide)) hI1 hK1 hw hS (lv_sub hl [2, 3, 4, 0] rfl)
            · have f42 := i_ne c36
              have r43 : Rg x34 1 1 := by obtain ⟨a1, a2⟩ := hp33; obtain ⟨b1, b2⟩ := (⟨by decide, by decide⟩ : Rg 0 0 0); have f := i_ne c36; exact ⟨by omega, by omega⟩
              refine lv_aload_n hx hb d_X5_line_40 rfl (lv_at hl 1 rfl) ?_
              refine lv_iload_n hx hb d_X5_line_41 rfl (lv_at hl 4 rfl) ?_
              refine lv_iload_n hx hb d_X5_line_42 rfl (lv_at hl 4 rfl) ?_
              refine lv_aload hx hb d_X5_line_43 (lv_at hl 0 rfl) ?_
              refine lv_aload_n hx hb d_X5_line_45 rfl (lv_at hl 3 rfl) ?_
              refine lv_aload_n hx hb d_X5_line_46 rfl (lv_at hl 2 rfl) ?_
              refine r_geti X hw FL_X5_39 (rfl : KD 3 = _) rfl d_X5_line_47 ?_
              refine lv_topi (fun x44 ex44 => ?_)
              refine r_ci (r_runS (n := 4) (As := [.int y3, .ref (ad kc23), .ref (ad k), .int x44]) (rest := [.int y3, .ref (ad 20)]) X hw (ct_X5_rank l D dA ad v1 hI1 y3 kc23 k x44 (by omega) (by omega) (by omega) (by omega)) gc_X5_42 (by decide +kernel) ⟨rfl, rfl, Nat.le_of_ble_eq_true rfl, Nat.le_of_ble_eq_true rfl⟩ rfl hl.1 rfl (Nat.le_of_ble_eq_true rfl) ⟨Nat.zero_le _, Nat.zero_le _⟩ d_X5_line_50) hS (fun x46 v47 H locs hp45 hw hS => ?_)
              rw [hp45] at hw
              refine r_cv (r_runV (n := 2) (As := [.int y3, .int x46]) (rest := []) X hw (ct_X5_insert_20 l D dA ad v1 hI1 y3 x46 r21) gc_X5_46 (rfl : KD 20 = _) (by decide) rfl (by decide +kernel) ⟨rfl, rfl, Nat.le_of_ble_eq_true rfl, Nat.le_of_ble_eq_true rfl⟩ rfl hl.1 rfl (Nat.le_of_ble_eq_true rfl) ⟨Nat.zero_le _, Nat.zero_le _⟩ d_X5_line_53) hS (fun v49 H locs hp48 hw hS => ?_)
              obtain ⟨hI50, hK51⟩ := hp48
              have hK52 : Kp v v49 := Kp.tr hK1 hK51
              obtain ⟨x53, ex53⟩ : ∃ y : Int32, y = y3 + 1 := ⟨_, rfl⟩
              refine lv_iinc (v := x53) (lv' := [(3, .int x53), (4, .ref (ad kc23)), (0, .ref (ad 20)), (1, .ref (ad 3)), (2, .ref (ad k))]) hx hb d_X5_line_56 hl (k := 4) rfl (by rw [ex53]; rfl) (by decide) rfl (fun ls hl => ?_)
              have r54 : Rg x53 1 20 := rg_add ex53 r21 (⟨by decide, by decide⟩ : Rg 1 1 1) (by decide) (by decide)
              have s55 : x53.toInt = y3.toInt + (1 : Int32).toInt := by rw [ex53]; exact i_add (by obtain ⟨_, _⟩ := r21; obtain ⟨_, _⟩ := (⟨by decide, by decide⟩ : Rg 1 1 1); omega) (by obtain ⟨_, _⟩ := r21; obtain ⟨_, _⟩ := (⟨by decide, by decide⟩ : Rg 1 1 1); omega)
              have s55l : (1 : Int32).toInt = 1 := rfl
              refine lv_goto (tgt := 7) hx hb d_X5_line_59 (by decide) ?_
              exact ih0 x53 v49 _ _ _ (by have := s55; obtain ⟨_, _⟩ := r54; omega) (rg_w r54 (by decide) (by decide)) hI50 hK52 hw hS (lv_sub hl [2, 3, 4, 0] rfl)
      · intro y3 v1 H locs ls hmu r_y3 hI1 hK1 hw hS hl
        refine lv_iload_n hx hb d_X5_line_83 rfl (lv_at hl 3 rfl) ?_
        refine lv_aload_n hx hb d_X5_line_84 rfl (lv_at hl 1 rfl) ?_
        refine r_geti X hw FL_X5_22 (rfl : KD 3 = _) rfl d_X5_line_85 ?_
        refine lv_topi (fun x56 ex56 => ?_)
        have r57 : Rg x56 0 20 := by rw [ex56]; exact hI1 _ _ _ _ rfl
        have hm58 : v1 3 3 = x56 := ex56.symm
        refine lv_icmp_ge (tgt := 129) hx hb d_X5_line_88 (by decide) (fun c59 => ?_) (fun c59 => ?_)
        · have f60 := i_le c59
          exact r_vret X hr hlocks hw hS ⟨hI1, hK1⟩ d_X5_line_129
        · have f61 := i_nle c59
          have r62 : Rg y3 0 19 := by obtain ⟨a1, a2⟩ := r_y3; obtain ⟨b1, b2⟩ := r57; have f := i_nle c59; exact ⟨by omega, by omega⟩
          have r63 : Rg x56 1 20 := by obtain ⟨a1, a2⟩ := r_y3; obtain ⟨b1, b2⟩ := r57; have f := i_nle c59; exact ⟨by omega, by omega⟩
          refine lv_aload_n hx hb d_X5_line_91 rfl (lv_at hl 1 rfl) ?_
          refine r_getr (r := 12) X hw FL_X5_27 (rfl : KD 3 = _) rfl d_X5_line_92 ?_
          refine lv_iload_n hx hb d_X5_line_95 rfl (lv_at hl 3 rfl) ?_
          refine r_aald X hw (rfl : KD 12 = _) (Or.inl rfl) (Rg.vp (b := 19) r62 (by decide)) rfl d_X5_line_96 ?_
          refine r_nm (fun kc64 ekc64 => ?_)
          have kc64a : 140 ≤ kc64 := by omega
          have kc64b : kc64 ≤ 159 := by have := Rg.nat r62; omega
          refine lv_astore (lv' := [(4, .ref (ad kc64)), (0, .ref (ad 20)), (1, .ref (ad 3)), (2, .ref (ad k)), (3, .int y3)]) hx hb d_X5_line_97 hl (by decide) rfl (fun ls hl => ?_)
          refine lv_aload hx hb d_X5_line_99 (lv_at hl 0 rfl) ?_
          refine r_geti X hw FL_X5_30 (KD_ship (by omega) (by omega)) (SH_ship (by omega) (by omega)) d_X5_line_101 ?_
          refine lv_topi (fun x65 ex65 => ?_)
          refine lv_iconst (v := 2) hx hb d_X5_line_104 (by decide) ?_
          refine lv_icmp_ne (tgt := 123) hx hb d_X5_line_105 (by decide) (fun c66 => ?_) (fun c66 => ?_)
          · have f67 := i_ne c66
            obtain ⟨x68, ex68⟩ : ∃ y : Int32, y = y3 + 1 := ⟨_, rfl⟩
            refine lv_iinc (v := x68) (lv' := [(3, .int x68), (4, .ref (ad kc64)), (0, .ref (ad 20)), (1, .ref (ad 3)), (2, .ref (ad k))]) hx hb d_X5_line_123 hl (k := 4) rfl (by rw [ex68]; rfl) (by decide) rfl (fun ls hl => ?_)
            have r69 : Rg x68 1 20 := rg_add ex68 r62 (⟨by decide, by decide⟩ : Rg 1 1 1) (by decide) (by decide)
            have s70 : x68.toInt = y3.toInt + (1 : Int32).toInt := by rw [ex68]; exact i_add (by obtain ⟨_, _⟩ := r62; obtain ⟨_, _⟩ := (⟨by decide, by decide⟩ : Rg 1 1 1); omega) (by obtain ⟨_, _⟩ := r62; obtain ⟨_, _⟩ := (⟨by decide, by decide⟩ : Rg 1 1 1); omega)
            have s70l : (1 : Int32).toInt = 1 := rfl
            refine lv_goto (tgt := 83) hx hb d_X5_line_126 (by decide) ?_
            exact ih1 x68 v1 _ _ _ (by have := s70; obtain ⟨_, _⟩ := r69; omega) (rg_w r69 (by decide) (by decide)) hI1 hK1 hw hS (lv_sub hl [2, 3, 4, 0] rfl)
          · have f71 := i_eq c66
            have r72 : Rg x65 2 2 := by obtain ⟨a1, a2⟩ := (rg_any x65); obtain ⟨b1, b2⟩ := (⟨by decide, by decide⟩ : Rg 2 2 2); have f := i_eq c66; exact ⟨by omega, by omega⟩
            refine lv_aload hx hb d_X5_line_108 (lv_at hl 0 rfl) ?_
            refine r_ci (r_runV (n := 0) (As := []) (rest := []) X hw (ct_X7_isInPort l D dA ad v1 hI1 kc64 (by omega) (by omega)) gc_X5_35 (KD_ship (by omega) (by omega)) (by decide) rfl (by decide +kernel) ⟨rfl, rfl, Nat.le_of_ble_eq_true rfl, Nat.le_of_ble_eq_true rfl⟩ rfl hl.1 rfl (Nat.le_of_ble_eq_true rfl) ⟨Nat.zero_le _, Nat.zero_le _⟩ d_X5_line_110) hS (fun x74 v75 H locs hp73 hw hS => ?_)
            obtain ⟨ev75, hp73⟩ := hp73
            rw [ev75] at hw
            refine lv_if_eq (tgt := 123) hx hb d_X5_line_113 (by decide) (fun c76 => ?_) (fun c76 => ?_)
            · have f77 := i_eq c76
              have r78 : Rg x74 0 0 := by obtain ⟨a1, a2⟩ := hp73; obtain ⟨b1, b2⟩ := (⟨by decide, by decide⟩ : Rg 0 0 0); have f := i_eq c76; exact ⟨by omega, by omega⟩
              obtain ⟨x79, ex79⟩ : ∃ y : Int32, y = y3 + 1 := ⟨_, rfl⟩
              refine lv_iinc (v := x79) (lv' := [(3, .int x79), (4, .ref (ad kc64)), (0, .ref (ad 20)), (1, .ref (ad 3)), (2, .ref (ad k))]) hx hb d_X5_line_123 hl (k := 4) rfl (by rw [ex79]; rfl) (by decide) rfl (fun ls hl => ?_)
              have r80 : Rg x79 1 20 := rg_add ex79 r62 (⟨by decide, by decide⟩ : Rg 1 1 1) (by decide) (by decide)
              have s81 : x79.toInt = y3.toInt + (1 : Int32).toInt := by rw [ex79]; exact i_add (by obtain ⟨_, _⟩ := r62; obtain ⟨_, _⟩ := (⟨by decide, by decide⟩ : Rg 1 1 1); omega) (by obtain ⟨_, _⟩ := r62; obtain ⟨_, _⟩ := (⟨by decide, by decide⟩ : Rg 1 1 1); omega)
              have s81l : (1 : Int32).toInt = 1 := rfl
              refine lv_goto (tgt := 83) hx hb d_X5_line_126 (by decide) ?_
              exact ih1 x79 v1 _ _ _ (by have := s81; obtain ⟨_, _⟩ := r80; omega) (rg_w r80 (by decide) (by decide)) hI1 hK1 hw hS (lv_sub hl [2, 3, 4, 0] rfl)
            · have f82 := i_ne c76
              have r83 : Rg x74 1 1 := by obtain ⟨a1, a2⟩ := hp73; obtain ⟨b1, b2⟩ := (⟨by decide, by decide⟩ : Rg 0 0 0); have f := i_ne c76; exact ⟨by omega, by omega⟩
              refine lv_aload_n hx hb d_X5_line_116 rfl (lv_at hl 1 rfl) ?_
              refine lv_iload_n hx hb d_X5_line_117 rfl (lv_at hl 4 rfl) ?_
              refine lv_ldc hx hb X.2.2.2.1 (X.2.2.2.2.1 _ kc_X5_67) d_X5_line_118 ?_
              refine r_cv (r_runV (n := 2) (As := [.int y3, .int 2147483647]) (rest := []) X hw (ct_X5_insert_20 l D dA ad v1 hI1 y3 2147483647 r62) gc_X5_46 (rfl : KD 20 = _) (by decide) rfl (by decide +kernel) ⟨rfl, rfl, Nat.le_of_ble_eq_true rfl, Nat.le_of_ble_eq_true rfl⟩ rfl hl.1 rfl (Nat.le_of_ble_eq_true rfl) ⟨Nat.zero_le _, Nat.zero_le _⟩ d_X5_line_120) hS (fun v85 H locs hp84 hw hS => ?_)
              obtain ⟨hI86, hK87⟩ := hp84
              have hK88 : Kp v v85 := Kp.tr hK1 hK87
              obtain ⟨x89, ex89⟩ : ∃ y : Int32, y = y3 + 1 := ⟨_, rfl⟩
              refine lv_iinc (v := x89) (lv' := [(3, .int x89), (4, .ref (ad kc64)), (0, .ref (ad 20)), (1, .ref (ad 3)), (2, .ref (ad k))]) hx hb d_X5_line_123 hl (k := 4) rfl (by rw [ex89]; rfl) (by decide) rfl (fun ls hl => ?_)
              have r90 : Rg x89 1 20 := rg_add ex89 r62 (⟨by decide, by decide⟩ : Rg 1 1 1) (by decide) (by decide)
              have s91 : x89.toInt = y3.toInt + (1 : Int32).toInt := by rw [ex89]; exact i_add (by obtain ⟨_, _⟩ := r62; obtain ⟨_, _⟩ := (⟨by decide, by decide⟩ : Rg 1 1 1); omega) (by obtain ⟨_, _⟩ := r62; obtain ⟨_, _⟩ := (⟨by decide, by decide⟩ : Rg 1 1 1); omega)
              have s91l : (1 : Int32).toInt = 1 := rfl
              refine lv_goto (tgt := 83) hx hb d_X5_line_126 (by decide) ?_
              exact ih1 x89 v85 _ _ _ (by have := s91; obtain ⟨_, _⟩ := r90; omega) (rg_w r90 (by decide) (by decide)) hI86 hK88 hw hS (lv_sub hl [2, 3, 4, 0] rfl)
  obtain ⟨ih0, ih1⟩ := LL 100000
  have hK0 : Kp v v := Kp.rf v
  refine lv_aload_n hx hb d_X5_line_0 rfl (lv_at hl 0 rfl) ?_
  refine lv_iconst (v := 0) hx hb d_X5_line_1 (by decide) ?_
  refine r_put X hw hS FP_X5_18 (rfl : KD 20 = _) rfl ⟨rfl, rfl⟩ d_X5_line_2 (fun H locs hw hS => ?_)
  obtain ⟨v92, ev92⟩ : ∃ z, z = up2 v 20 2 0 := ⟨_, rfl⟩
  rw [← ev92] at hw
  have hI93 : Inv v92 := by rw [ev92]; exact Inv.putr hI rfl (rg_w (⟨by decide, by decide⟩ : Rg 0 0 0) (by decide) (by decide))
  have hK94 : Kp v v92 := by rw [ev92]; exact Kp.put hK0 _ rfl
  have hm95 : v92 20 2 = 0 := by rw [ev92, up2_s]
  refine lv_iconst (v := 0) hx hb d_X5_line_5 (by decide) ?_
  refine lv_istore_n (lv' := [(3, .int 0), (0, .ref (ad 20)), (1, .ref (ad 3)), (2, .ref (ad k))]) hx hb d_X5_line_6 rfl hl (by decide) rfl (fun ls hl => ?_)
  exact ih0 0 v92 _ _ _ (by obtain ⟨_, _⟩ := (⟨by decide, by decide⟩ : Rg 0 0 0); omega) (rg_w (⟨by decide, by decide⟩ : Rg 0 0 0) (by decide) (by decide)) hI93 hK94 hw hS (lv_sub hl [1, 2, 3, 0] rfl)
theorem d_X9_copy_0 : decode c_X9_copy 0 = .ok (.aload_n 1, 1) := by decide +kernel
theorem d_X9_copy_1 : decode c_X9_copy 1 = .ok (.getfield 9, 3) := by decide +kernel
theorem d_X9_copy_4 : decode c_X9_copy 4 = .ok (.iconst 0, 1) := by decide +kernel
theorem d_X9_copy_5 : decode c_X9_copy 5 = .ok (.aload_n 0, 1) := by decide +kernel
theorem d_X9_copy_6 : decode c_X9_copy 6 = .ok (.getfield 9, 3) := by decide +kernel
theorem d_X9_copy_9 : decode c_X9_copy 9 = .ok (.iconst 0, 1) := by decide +kernel
theorem d_X9_copy_10 : decode c_X9_copy 10 = .ok (.iconst 5, 1) := by decide +kernel
theorem d_X9_copy_11 : decode c_X9_copy 11 = .ok (.invokestatic 15, 3) := by decide +kernel
theorem d_X9_copy_14 : decode c_X9_copy 14 = .ok (.aload_n 0, 1) := by decide +kernel
theorem d_X9_copy_15 : decode c_X9_copy 15 = .ok (.aload_n 1, 1) := by decide +kernel
theorem d_X9_copy_16 : decode c_X9_copy 16 = .ok (.getfield 21, 3) := by decide +kernel
theorem d_X9_copy_19 : decode c_X9_copy 19 = .ok (.putfield 21, 3) := by decide +kernel
theorem d_X9_copy_22 : decode c_X9_copy 22 = .ok (.aload_n 0, 1) := by decide +kernel
theorem d_X9_copy_23 : decode c_X9_copy 23 = .ok (.aload_n 1, 1) := by decide +kernel
theorem d_X9_copy_24 : decode c_X9_copy 24 = .ok (.getfield 25, 3) := by decide +kernel
theorem d_X9_copy_27 : decode c_X9_copy 27 = .ok (.putfield 25, 3) := by decide +kernel
theorem d_X9_copy_30 : decode c_X9_copy 30 = .ok (.aload_n 0, 1) := by decide +kernel
theorem d_X9_copy_31 : decode c_X9_copy 31 = .ok (.aload_n 1, 1) := by decide +kernel
theorem d_X9_copy_32 : decode c_X9_copy 32 = .ok (.getfield 28, 3) := by decide +kernel
theorem d_X9_copy_35 : decode c_X9_copy 35 = .ok (.putfield 28, 3) := by decide +kernel
theorem d_X9_copy_38 : decode c_X9_copy 38 = .ok (.aload_n 0, 1) := by decide +kernel
theorem d_X9_copy_39 : decode c_X9_copy 39 = .ok (.aload_n 1, 1) := by decide +kernel
theorem d_X9_copy_40 : decode c_X9_copy 40 = .ok (.getfield 31, 3) := by decide +kernel
theorem d_X9_copy_43 : decode c_X9_copy 43 = .ok (.putfield 31, 3) := by decide +kernel
theorem d_X9_copy_46 : decode c_X9_copy 46 = .ok (.return_, 1) := by decide +kernel
set_option maxHeartbeats 4000000 in
set_option maxRecDepth 100000 in
theorem ct_X9_copy_A (l : Launch) (D : va_G) (dA : Nat → ClassId) (ad : Nat → Nat) (v : tV) (hI : Inv v) (k : Nat) (k2 : Nat) (ka : 306 ≤ k) (kb : k < 312) (k2a : 300 ≤ k2) (k2b : k2 < 306) : Met l m_X9_copy [.code m_X9_copy c_X9_copy 2 none] ({ frames := 1, cells := 0, slots := 0, locals := 80 } : Room) (tP D dA ad v [.ref (ad k), .ref (ad k2)]) (tQv D dA ad (fun v' => Inv v' ∧ Kp v v')) 0 0 (tA ad) := by
  refine tMet (by decide) (Nat.le_of_ble_eq_true rfl) ?_
  intro p e s m below meth c ls X hr hlocks hw hl
  have X : CX p s m ([.ref (ad k), .ref (ad k2)] : List Value).toArray c c_X9_copy N_X9 2 D dA := X
  have hx := X.1
  have hb := X.2.1
  have hS : va_S (tA ad) s.heap s.heap [] := va_S.rf
  have hl : lv_has ls 2 [(0, .ref (ad k)), (1, .ref (ad k2))] := hl
  have hK0 : Kp v v := Kp.rf v
  refine lv_aload_n hx hb d_X9_copy_0 rfl (lv_at hl 1 rfl) ?_
  refine r_getr (r := k2 + 20) X hw FL_X9_9 (KD_ward (by omega) (by omega)) (SH_ward0 (by omega) (by omega)) d_X9_copy_1 ?_
  refine r_nm (fun kc1 ekc1 => ?_)
  refine lv_iconst (v := 0) hx hb d_X9_copy_4 (by decide) ?_
  refine lv_aload_n hx hb d_X9_copy_5 rfl (lv_at hl 0 rfl) ?_
  refine r_getr (r := k + 20) X hw FL_X9_9 (KD_ward (by omega) (by omega)) (SH_ward0 (by omega) (by omega)) d_X9_copy_6 ?_
  refine r_nm (fun kc2 ekc2 => ?_)
  refine lv_iconst (v := 0) hx hb d_X9_copy_9 (by decide) ?_
  refine lv_iconst (v := 5) hx hb d_X9_copy_10 (by decide) ?_
  refine r_acopy (k0 := kc1) (k1 := kc2) X hl.1 hw (KD_burns (by omega) (by omega)) (KD_burns (by omega) (by omega)) (by omega) (fun _ => (SH_burns (by omega) (by omega))) (fun _ => (SH_burns (by omega) (by omega))) (Nat.le_of_ble_eq_true rfl) (Nat.le_of_ble_eq_true rfl) d_X9_copy_11 (fun H locs hw hS => ?_)
  obtain ⟨v3, ev3⟩ : ∃ z, z = cp5 v kc1 kc2 := ⟨_, rfl⟩
  rw [← ev3] at hw
  have hI4 : Inv v3 := by rw [ev3]; exact inv_cp5 hI (fun _ => (RG_ward (by omega) (by omega)))
  have hK5 : Kp v v3 := by rw [ev3]; exact kp_cp5 hK0 (fun _ => (PS_burns (by omega) (by omega)))
  refine lv_aload_n hx hb d_X9_copy_14 rfl (lv_at hl 0 rfl) ?_
  refine lv_aload_n hx hb d_X9_copy_15 rfl (lv_at hl 1 rfl) ?_
  refine r_geti X hw FL_X9_21 (KD_ward (by omega) (by omega)) (SH_ward (by omega) (by omega) (by decide)) d_X9_copy_16 ?_
  refine lv_topi (fun x6 ex6 => ?_)
  refine r_put X hw hS FP_X9_21 (KD_ward (by omega) (by omega)) (SH_ward (by omega) (by omega) (by decide)) ⟨rfl, rfl⟩ d_X9_copy_19 (fun H locs hw hS => ?_)
  obtain ⟨v7, ev7⟩ : ∃ z, z = up2 v3 k 1 x6 := ⟨_, rfl⟩
  rw [← ev7] at hw
  have hI8 : Inv v7 := by rw [ev7]; exact Inv.put0 hI4 _ (RG_ward (by omega) (by omega))
  have hK9 : Kp v v7 := by rw [ev7]; exact Kp.put hK5 _ (PS_ward (by omega) (by omega))
  refine lv_aload_n hx hb d_X9_copy_22 rfl (lv_at hl 0 rfl) ?_
  refine lv_aload_n hx hb d_X9_copy_23 rfl (lv_at hl 1 rfl) ?_
  refine r_geti X hw FL_X9_25 (KD_ward (by omega) (by omega)) (SH_ward (by omega) (by omega) (by decide)) d_X9_copy_24 ?_
  refine lv_topi (fun x10 ex10 => ?_)
  refine r_put X hw hS FP_X9_25 (KD_ward (by omega) (by omega)) (SH_ward (by omega) (by omega) (by decide)) ⟨rfl, rfl⟩ d_X9_copy_27 (fun H locs hw hS => ?_)
  obtain ⟨v11, ev11⟩ : ∃ z, z = up2 v7 k 2 x10 := ⟨_, rfl⟩
  rw [← ev11] at hw
  have hI12 : Inv v11 := by rw [ev11]; exact Inv.put0 hI8 _ (RG_ward (by omega) (by omega))
  have hK13 : Kp v v11 := by rw [ev11]; exact Kp.put hK9 _ (PS_ward (by omega) (by omega))
  refine lv_aload_n hx hb d_X9_copy_30 rfl (lv_at hl 0 rfl) ?_
  refine lv_aload_n hx hb d_X9_copy_31 rfl (lv_at hl 1 rfl) ?_
  refine r_geti X hw FL_X9_28 (KD_ward (by omega) (by omega)) (SH_ward (by omega) (by omega) (by decide)) d_X9_copy_32 ?_
  refine lv_topi (fun x14 ex14 => ?_)
  refine r_put X hw hS FP_X9_28 (KD_ward (by omega) (by omega)) (SH_ward (by omega) (by omega) (by decide)) ⟨rfl, rfl⟩ d_X9_copy_35 (fun H locs hw hS => ?_)
  obtain ⟨v15, ev15⟩ : ∃ z, z = up2 v11 k 3 x14 := ⟨_, rfl⟩
  rw [← ev15] at hw
  have hI16 : Inv v15 := by rw [ev15]; exact Inv.put0 hI12 _ (RG_ward (by omega) (by omega))
  have hK17 : Kp v v15 := by rw [ev15]; exact Kp.put hK13 _ (PS_ward (by omega) (by omega))
  refine lv_aload_n hx hb d_X9_copy_38 rfl (lv_at hl 0 rfl) ?_
  refine lv_aload_n hx hb d_X9_copy_39 rfl (lv_at hl 1 rfl) ?_
  refine r_geti X hw FL_X9_31 (KD_ward (by omega) (by omega)) (SH_ward (by omega) (by omega) (by decide)) d_X9_copy_40 ?_
  refine lv_topi (fun x18 ex18 => ?_)
  refine r_put X hw hS FP_X9_31 (KD_ward (by omega) (by omega)) (SH_ward (by omega) (by omega) (by decide)) ⟨rfl, rfl⟩ d_X9_copy_43 (fun H locs hw hS => ?_)
  obtain ⟨v19, ev19⟩ : ∃ z, z = up2 v15 k 4 x18 := ⟨_, rfl⟩
  rw [← ev19] at hw
  have hI20 : Inv v19 := by rw [ev19]; exact Inv.put0 hI16 _ (RG_ward (by omega) (by omega))
  have hK21 : Kp v v19 := by rw [ev19]; exact Kp.put hK17 _ (PS_ward (by omega) (by omega))
  exact r_vret X hr hlocks hw hS ⟨hI20, hK21⟩ d_X9_copy_46
set_option maxHeartbeats 4000000 in
set_option maxRecDepth 100000 in
theorem ct_X9_copy_B (l : Launch) (D : va_G) (dA : Nat → ClassId) (ad : Nat → Nat) (v : tV) (hI : Inv v) (k : Nat) (k2 : Nat) (ka : 312 ≤ k) (kb : k < 318) (k2a : 300 ≤ k2) (k2b : k2 < 312) : Met l m_X9_copy [.code m_X9_copy c_X9_copy 2 none] ({ frames := 1, cells := 0, slots := 0, locals := 80 } : Room) (tP D dA ad v [.ref (ad k), .ref (ad k2)]) (tQv D dA ad (fun v' => Inv v' ∧ Kp v v')) 0 0 (tA ad) := by
  refine tMet (by decide) (Nat.le_of_ble_eq_true rfl) ?_
  intro p e s m below meth c ls X hr hlocks hw hl
  have X : CX p s m ([.ref (ad k), .ref (ad k2)] : List Value).toArray c c_X9_copy N_X9 2 D dA := X
  have hx := X.1
  have hb := X.2.1
  have hS : va_S (tA ad) s.heap s.heap [] := va_S.rf
  have hl : lv_has ls 2 [(0, .ref (ad k)), (1, .ref (ad k2))] := hl
  have hK0 : Kp v v := Kp.rf v
  refine lv_aload_n hx hb d_X9_copy_0 rfl (lv_at hl 1 rfl) ?_
  refine r_getr (r := k2 + 20) X hw FL_X9_9 (KD_ward (by omega) (by omega)) (SH_ward0 (by omega) (by omega)) d_X9_copy_1 ?_
  refine r_nm (fun kc1 ekc1 => ?_)
  refine lv_iconst (v := 0) hx hb d_X9_copy_4 (by decide) ?_
  refine lv_aload_n hx hb d_X9_copy_5 rfl (lv_at hl 0 rfl) ?_
  refine r_getr (r := k + 20) X hw FL_X9_9 (KD_ward (by omega) (by omega)) (SH_ward0 (by omega) (by omega)) d_X9_copy_6 ?_
  refine r_nm (fun kc2 ekc2 => ?_)
  refine lv_iconst (v := 0) hx hb d_X9_copy_9 (by decide) ?_
  refine lv_iconst (v := 5) hx hb d_X9_copy_10 (by decide) ?_
  refine r_acopy (k0 := kc1) (k1 := kc2) X hl.1 hw (KD_burns (by omega) (by omega)) (KD_burns (by omega) (by omega)) (by omega) (fun _ => (SH_burns (by omega) (by omega))) (fun _ => (SH_burns (by omega) (by omega))) (Nat.le_of_ble_eq_true rfl) (Nat.le_of_ble_eq_true rfl) d_X9_copy_11 (fun H locs hw hS => ?_)
  obtain ⟨v3, ev3⟩ : ∃ z, z = cp5 v kc1 kc2 := ⟨_, rfl⟩
  rw [← ev3] at hw
  have hI4 : Inv v3 := by rw [ev3]; exact inv_cp5 hI (fun _ => (RG_ward (by omega) (by omega)))
  have hK5 : Kp v v3 := by rw [ev3]; exact kp_cp5 hK0 (fun _ => (PS_burns (by omega) (by omega)))
  refine lv_aload_n hx hb d_X9_copy_14 rfl (lv_at hl 0 rfl) ?_
  refine lv_aload_n hx hb d_X9_copy_15 rfl (lv_at hl 1 rfl) ?_
  refine r_geti X hw FL_X9_21 (KD_ward (by omega) (by omega)) (SH_ward (by omega) (by omega) (by decide)) d_X9_copy_16 ?_
  refine lv_topi (fun x6 ex6 => ?_)
  refine r_put X hw hS FP_X9_21 (KD_ward (by omega) (by omega)) (SH_ward (by omega) (by omega) (by decide)) ⟨rfl, rfl⟩ d_X9_copy_19 (fun H locs hw hS => ?_)
  obtain ⟨v7, ev7⟩ : ∃ z, z = up2 v3 k 1 x6 := ⟨_, rfl⟩
  rw [← ev7] at hw
  have hI8 : Inv v7 := by rw [ev7]; exact Inv.put0 hI4 _ (RG_ward (by omega) (by omega))
  have hK9 : Kp v v7 := by rw [ev7]; exact Kp.put hK5 _ (PS_ward (by omega) (by omega))
  refine lv_aload_n hx hb d_X9_copy_22 rfl (lv_at hl 0 rfl) ?_
  refine lv_aload_n hx hb d_X9_copy_23 rfl (lv_at hl 1 rfl) ?_
  refine r_geti X hw FL_X9_25 (KD_ward (by omega) (by omega)) (SH_ward (by omega) (by omega) (by decide)) d_X9_copy_24 ?_
  refine lv_topi (fun x10 ex10 => ?_)
  refine r_put X hw hS FP_X9_25 (KD_ward (by omega) (by omega)) (SH_ward (by omega) (by omega) (by decide)) ⟨rfl, rfl⟩ d_X9_copy_27 (fun H locs hw hS => ?_)
  obtain ⟨v11, ev11⟩ : ∃ z, z = up2 v7 k 2 x10 := ⟨_, rfl⟩
  rw [← ev11] at hw
  have hI12 : Inv v11 := by rw [ev11]; exact Inv.put0 hI8 _ (RG_ward (by omega) (by omega))
  have hK13 : Kp v v11 := by rw [ev11]; exact Kp.put hK9 _ (PS_ward (by omega) (by omega))
  refine lv_aload_n hx hb d_X9_copy_30 rfl (lv_at hl 0 rfl) ?_
  refine lv_aload_n hx hb d_X9_copy_31 rfl (lv_at hl 1 rfl) ?_
  refine r_geti X hw FL_X9_28 (KD_ward (by omega) (by omega)) (SH_ward (by omega) (by omega) (by decide)) d_X9_copy_32 ?_
  refine lv_topi (fun x14 ex14 => ?_)
  refine r_put X hw hS FP_X9_28 (KD_ward (by omega) (by omega)) (SH_ward (by omega) (by omega) (by decide)) ⟨rfl, rfl⟩ d_X9_copy_35 (fun H locs hw hS => ?_)
  obtain ⟨v15, ev15⟩ : ∃ z, z = up2 v11 k 3 x14 := ⟨_, rfl⟩
  rw [← ev15] at hw
  have hI16 : Inv v15 := by rw [ev15]; exact Inv.put0 hI12 _ (RG_ward (by omega) (by omega))
  have hK17 : Kp v v15 := by rw [ev15]; exact Kp.put hK13 _ (PS_ward (by omega) (by omega))
  refine lv_aload_n hx hb d_X9_copy_38 rfl (lv_at hl 0 rfl) ?_
  refine lv_aload_n hx hb d_X9_copy_39 rfl (lv_at hl 1 rfl) ?_
  refine r_geti X hw FL_X9_31 (KD_ward (by omega) (by omega)) (SH_ward (by omega) (by omega) (by decide)) d_X9_copy_40 ?_
  refine lv_topi (fun x18 ex18 => ?_)
  refine r_put X hw hS FP_X9_31 (KD_ward (by omega) (by omega)) (SH_ward (by omega) (by omega) (by decide)) ⟨rfl, rfl⟩ d_X9_copy_43 (fun H locs hw hS => ?_)
  obtain ⟨v19, ev19⟩ : ∃ z, z = up2 v15 k 4 x18 := ⟨_, rfl⟩
  rw [← ev19] at hw
  have hI20 : Inv v19 := by rw [ev19]; exact Inv.put0 hI16 _ (RG_ward (by omega) (by omega))
  have hK21 : Kp v v19 := by rw [ev19]; exact Kp.put hK17 _ (PS_ward (by omega) (by omega))
  exact r_vret X hr hlocks hw hS ⟨hI20, hK21⟩ d_X9_copy_46
