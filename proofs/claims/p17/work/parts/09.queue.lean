def cp5 (v : tV) (k0 k1 : Nat) : tV := fun a b => if a = k1 ∧ b < 5 then v k0 b else v a b
theorem inv_cp5 {v : tV} (h : Inv v) {k0 k1 : Nat} (hr : ∀ j, RG k1 j = none) : Inv (cp5 v k0 k1) := by
  intro a b lo hi hab
  unfold cp5
  by_cases q : a = k1 ∧ b < 5
  · rw [q.1, hr] at hab
    cases hab
  · rw [if_neg q]
    exact h a b lo hi hab
theorem kp_cp5 {P : Nat → Nat → Prop} {u v : tV} (h : Kp P u v) {k0 k1 : Nat} (hp : ∀ j, ¬ P k1 j) : Kp P u (cp5 v k0 k1) := by
  intro a b hab
  unfold cp5
  by_cases q : a = k1 ∧ b < 5
  · rw [q.1] at hab
    exact absurd hab (hp b)
  · rw [if_neg q]
    exact h a b hab
theorem aw_link : Cond.methodLink N_X9 15 arraycopyName ∈ BIG := tb_in 670 (by decide +kernel) rfl
theorem aw_stat : Cond.static arraycopyName ∈ BIG := tb_in 671 (by decide +kernel) rfl
theorem aw_nat : Cond.native arraycopyName ∈ BIG := tb_in 672 (by decide +kernel) rfl
theorem aw_ini : Cond.initialized "java/lang/System" ∈ BIG := tb_in 54 (by decide +kernel) rfl
theorem r_acopy {p : Program} {l : Launch} {e : Env} {R : Room} {s : State} {m : MethodId} {args : Array Value} {below : List Frame} {meth : Method} {c : Code} {cells slots : Nat} {Q : State → Prop} {cc : ByteArray} {pc : Nat} {ls : Array Slot} {rest : List Value} {D : va_G} {dA : Nat → ClassId} {ad : Nat → Nat} {v : tV} {k0 k1 : Nat}
    {nL : Nat} (X : CX p s m args c cc N_X9 nL D dA) (hsz : ls.size = nL) (hw : tI D dA ad v s.heap) (h0 : KD k0 = some (12, 5)) (h1 : KD k1 = some (12, 5)) (hne : k0 ≠ k1) (s0 : ∀ j, SH k0 j = none) (s1 : ∀ j, SH k1 j = none) (hframes : 1 ≤ R.frames) (hlocals : (rest.map fun v => v.category).sum + (nativeFrameWords "java/lang/System" "arraycopy" 5 + 11) ≤ R.locals) (hd : decode cc pc = .ok (.invokestatic 15, 3))
    (kk : ∀ (H1 : Heap) (locs1 : List Loc), tI D dA ad (cp5 v k0 k1) H1 → va_S (tA ad) s.heap H1 locs1 → W p l e R s m args below meth c H1 locs1 cells slots Q (F0 m (pc + 3) ls rest)) : W p l e R s m args below meth c s.heap [] cells slots Q (F0 m pc ls (.int 5 :: .int 0 :: .ref (ad k1) :: .int 0 :: .ref (ad k0) :: rest)) := by
  obtain ⟨hx, hb, hml, hown, hts, hK, hB⟩ := X
  have a0 : s.heap[ad k0]? = some (vp_cell (dA 12) (5, .inl (v k0))) := by
    rw [tw_arr hw h0 (by decide), vp_cell_i]
    have : tw_u ad v k0 = fun j => .int (v k0 j) := funext fun j => tw_u_int (s0 j)
    rw [this]
  have a1 : s.heap[ad k1]? = some (vp_cell (dA 12) (5, .inl (v k1))) := by
    rw [tw_arr hw h1 (by decide), vp_cell_i]
    have : tw_u ad v k1 = fun j => .int (v k1 j) := funext fun j => tw_u_int (s1 j)
    rw [this]
  have hap : ad k0 ≠ ad k1 := fun q => hne (hw.2 k0 k1 _ _ h0 h1 q)
  have hP : va_P D CLS [(ad k0, .inl (dA 12, 5, .inl (v k0))), (ad k1, .inl (dA 12, 5, .inl (v k1)))] s.heap := by
    intro k q hq
    match k, hq with
    | 0, hq => cases hq; exact a0
    | 1, hq => cases hq; exact a1
    | k + 2, hq => simp at hq
  have hD : va_D (fun q => q = ad k1 ∨ q = ad k0) [(ad k0, .inl (dA 12, 5, .inl (v k0))), (ad k1, .inl (dA 12, 5, .inl (v k1)))] := by
    refine ⟨fun i j x y hi hj hxy => ?_, fun k q hq => ?_⟩
    · match i, j, hi, hj with
      | 0, 0, _, _ => rfl
      | 1, 1, _, _ => rfl
      | 0, 1, hi, hj => cases hi; cases hj; exact absurd hxy hap
      | 1, 0, hi, hj => cases hi; cases hj; exact absurd hxy.symm hap
      | i + 2, _, hi, _ => simp at hi
      | _, j + 2, _, hj => simp at hj
    · match k, hq with
      | 0, hq => cases hq; exact Or.inr rfl
      | 1, hq => cases hq; exact Or.inl rfl
      | k + 2, hq => simp at hq
  refine va_copyi (A := fun q => q = ad k1 ∨ q = ad k0) (H0 := s.heap) hx hb (hml.trans hsz.symm) hown (hts _ aw_link) (hts _ aw_nat) (hts _ aw_stat) (hts _ aw_ini) hK hP hD va_S.rf 0 1 0 0 rfl rfl rfl rfl rfl (by decide) (by decide) (by decide) (by decide) (by decide) (fun _ _ => rfl) hframes hlocals hd (fun H1 locs1 hP1 hD1 hS1 => ?_)
  have b0 : H1[ad k0]? = some (vp_cell (dA 12) (5, .inl (v k0))) := hP1 0 (ad k0, .inl (dA 12, 5, .inl (v k0))) rfl
  have b1 : H1[ad k1]? = some (vp_cell (dA 12) (5, .inl (va_cpy (v k0) (v k1) (0 : Int32).toNatClampNeg (0 : Int32).toNatClampNeg (5 : Int32).toNatClampNeg))) := hP1 1 _ rfl
  have hko : ∀ k kn, KD k = some kn → k ≠ k1 → H1[ad k]? = s.heap[ad k]? := by
    intro k kn hk hn
    by_cases q : k = k0
    · subst q
      rw [b0, a0]
    · have hlt : ad k < s.heap.size := by
        rcases hw.1 k kn hk with ⟨_, r, h1, cell, q1, q2⟩ | ⟨_, h⟩
        · exact (Array.getElem?_eq_some_iff.mp q1).1
        · exact (Array.getElem?_eq_some_iff.mp h).1
      exact hS1.2.1 _ hlt (fun z => z.elim (fun z => hn (hw.2 k k1 _ _ hk h1 z)) (fun z => q (hw.2 k k0 _ _ hk h0 z)))
  refine kk H1 locs1 ⟨fun k kn hk => ?_, hw.2⟩ ⟨hS1.1, fun q g1 g2 => hS1.2.1 q g1 (fun z => g2 (z.elim (fun z => ⟨k1, _, h1, z⟩) (fun z => ⟨k0, _, h0, z⟩))), fun q hq => (hS1.2.2 q hq).elim (fun z => ⟨k1, _, h1, z⟩) (fun z => ⟨k0, _, h0, z⟩)⟩
  by_cases q : k = k1
  · subst q
    have e : kn = (12, 5) := Option.some.inj (hk.symm.trans h1)
    subst e
    refine Or.inr ⟨by decide, ?_⟩
    rw [b1, vp_cell_i]
    congr 2
    funext j
    rw [tw_u_int (s1 j)]
    congr 1
    show va_cpy (v k0) (v k) 0 0 5 j = cp5 v k0 k k j
    unfold va_cpy cp5
    by_cases z : j < 5
    · rw [if_pos ⟨Nat.zero_le _, by omega⟩, if_pos ⟨rfl, z⟩]
      congr 1
      omega
    · rw [if_neg (by omega), if_neg (fun y => z y.2)]
  · have e : tw_u ad (cp5 v k0 k1) k = tw_u ad v k := by
      funext j
      unfold tw_u cp5
      simp [q]
    rw [e]
    exact (hw.1 k kn hk).kept (hko k kn hk q)
theorem kc_X5_75 : Cond.constant N_X5 75 1000000 ∈ BIG := tb_in 623 (by decide +kernel) rfl
theorem kc_X5_67 : Cond.constant N_X5 67 2147483647 ∈ BIG := tb_in 632 (by decide +kernel) rfl
theorem d_X4_has_0 : decode c_X4_has 0 = .ok (.iload_n 1, 1) := by decide +kernel
theorem d_X4_has_1 : decode c_X4_has 1 = .ok (.iconst 0, 1) := by decide +kernel
theorem d_X4_has_2 : decode c_X4_has 2 = .ok (.aload_n 0, 1) := by decide +kernel
theorem d_X4_has_3 : decode c_X4_has 3 = .ok (.getfield 22, 3) := by decide +kernel
theorem d_X4_has_6 : decode c_X4_has 6 = .ok (.iconst 1, 1) := by decide +kernel
theorem d_X4_has_7 : decode c_X4_has 7 = .ok (.isub, 1) := by decide +kernel
theorem d_X4_has_8 : decode c_X4_has 8 = .ok (.invokestatic 26, 3) := by decide +kernel
theorem d_X4_has_11 : decode c_X4_has 11 = .ok (.ireturn, 1) := by decide +kernel
set_option maxHeartbeats 4000000 in
set_option maxRecDepth 100000 in
theorem ct_X4_has_50 (l : Launch) (D : va_G) (dA : Nat → ClassId) (ad : Nat → Nat) (v : tV) (hI : Inv v) (si : Int32) : Met l m_X4_has [.code m_X4_has c_X4_has 2 (some .boolean)] ({ frames := 2, cells := 0, slots := 0, locals := 62 } : Room) (tP D dA ad v [.ref (ad 50), .int si]) (tQi D dA ad (fun r v' => v' = v ∧ ((r = 1 ∧ 0 ≤ si.toInt ∧ si.toInt ≤ (v 50 2).toInt - 1) ∨ (r = 0 ∧ ¬ (0 ≤ si.toInt ∧ si.toInt ≤ (v 50 2).toInt - 1))))) 0 0 (tA ad) := by
  refine tMet (by decide) (Nat.le_of_ble_eq_true rfl) ?_
  intro p e s m below meth c ls X hr hlocks hw hl
  have X : CX p s m ([.ref (ad 50), .int si] : List Value).toArray c c_X4_has N_X4 2 D dA := X
  have hx := X.1
  have hb := X.2.1
  have hS : va_S (tA ad) s.heap s.heap [] := va_S.rf
  have hl : lv_has ls 2 [(0, .ref (ad 50)), (1, .int si)] := hl
  refine lv_iload_n hx hb d_X4_has_0 rfl (lv_at hl 1 rfl) ?_
  refine lv_iconst (v := 0) hx hb d_X4_has_1 (by decide) ?_
  refine lv_aload_n hx hb d_X4_has_2 rfl (lv_at hl 0 rfl) ?_
  refine r_geti X hw FL_X4_22 (rfl : KD 50 = _) rfl d_X4_has_3 ?_
  refine lv_topi (fun x1 ex1 => ?_)
  have r2 : Rg x1 0 8 := by rw [ex1]; exact hI _ _ _ _ rfl
  have hm3 : v 50 2 = x1 := ex1.symm
  refine lv_iconst (v := 1) hx hb d_X4_has_6 (by decide) ?_
  refine lv_isub hx hb d_X4_has_7 ?_
  refine lv_topi (fun x4 ex4 => ?_)
  have r5 : Rg x4 (-1) 7 := rg_sub ex4 r2 (⟨by decide, by decide⟩ : Rg 1 1 1) (by decide) (by decide)
  have s6 : x4.toInt = x1.toInt - (1 : Int32).toInt := by rw [ex4]; exact i_sub (by obtain ⟨_, _⟩ := r2; obtain ⟨_, _⟩ := (⟨by decide, by decide⟩ : Rg 1 1 1); omega) (by obtain ⟨_, _⟩ := r2; obtain ⟨_, _⟩ := (⟨by decide, by decide⟩ : Rg 1 1 1); omega)
  have s6l : (1 : Int32).toInt = 1 := rfl
  refine r_ci (r_runSN (n := 3) (As := [.int si, .int 0, .int x4]) (rest := []) X hw (ct_X10_within l D dA ad v hI si 0 x4) gn_X4_26 gc_X4_26 (by decide +kernel) ⟨rfl, rfl, Nat.le_of_ble_eq_true rfl, Nat.le_of_ble_eq_true rfl⟩ rfl hl.1 rfl (Nat.le_of_ble_eq_true rfl) ⟨Nat.zero_le _, Nat.zero_le _⟩ d_X4_has_8) hS (fun x8 v9 H locs hp7 hw hS => ?_)
  obtain ⟨ev9, hp7⟩ := hp7
  rw [ev9] at hw
  rcases hp7 with ⟨rfl, w10a, w10b⟩ | ⟨rfl, w10n⟩
  · skip
    have r11 : Rg si 0 7 := by obtain ⟨_, _⟩ := (rg_any si); have : (0 : Int32).toInt = 0 := rfl; obtain ⟨_, _⟩ := r5; exact ⟨by omega, by omega⟩
    exact r_zret X hr hlocks hw hS rfl ⟨rfl, Or.inl ⟨rfl, by have q := congrArg Int32.toInt hm3; have : (0 : Int32).toInt = 0 := rfl; omega, by have q := congrArg Int32.toInt hm3; have : (0 : Int32).toInt = 0 := rfl; omega⟩⟩ d_X4_has_11
  · skip
    exact r_zret X hr hlocks hw hS rfl ⟨rfl, Or.inr ⟨rfl, by have q := congrArg Int32.toInt hm3; have : (0 : Int32).toInt = 0 := rfl; omega⟩⟩ d_X4_has_11
theorem d_X6_hasShip_0 : decode c_X6_hasShip 0 = .ok (.iload_n 1, 1) := by decide +kernel
theorem d_X6_hasShip_1 : decode c_X6_hasShip 1 = .ok (.iconst 0, 1) := by decide +kernel
theorem d_X6_hasShip_2 : decode c_X6_hasShip 2 = .ok (.aload_n 0, 1) := by decide +kernel
theorem d_X6_hasShip_3 : decode c_X6_hasShip 3 = .ok (.getfield 29, 3) := by decide +kernel
theorem d_X6_hasShip_6 : decode c_X6_hasShip 6 = .ok (.iconst 1, 1) := by decide +kernel
theorem d_X6_hasShip_7 : decode c_X6_hasShip 7 = .ok (.isub, 1) := by decide +kernel
theorem d_X6_hasShip_8 : decode c_X6_hasShip 8 = .ok (.invokestatic 55, 3) := by decide +kernel
theorem d_X6_hasShip_11 : decode c_X6_hasShip 11 = .ok (.ireturn, 1) := by decide +kernel
set_option maxHeartbeats 4000000 in
set_option maxRecDepth 100000 in
theorem ct_X6_hasShip_1 (l : Launch) (D : va_G) (dA : Nat → ClassId) (ad : Nat → Nat) (v : tV) (hI : Inv v) (si : Int32) : Met l m_X6_hasShip [.code m_X6_hasShip c_X6_hasShip 2 (some .boolean)] ({ frames := 2, cells := 0, slots := 0, locals := 62 } : Room) (tP D dA ad v [.ref (ad 1), .int si]) (tQi D dA ad (fun r v' => v' = v ∧ ((r = 1 ∧ 0 ≤ si.toInt ∧ si.toInt ≤ (v 1 3).toInt - 1) ∨ (r = 0 ∧ ¬ (0 ≤ si.toInt ∧ si.toInt ≤ (v 1 3).toInt - 1))))) 0 0 (tA ad) := by
  refine tMet (by decide) (Nat.le_of_ble_eq_true rfl) ?_
  intro p e s m below meth c ls X hr hlocks hw hl
  have X : CX p s m ([.ref (ad 1), .int si] : List Value).toArray c c_X6_hasShip N_X6 2 D dA := X
  have hx := X.1
  have hb := X.2.1
  have hS : va_S (tA ad) s.heap s.heap [] := va_S.rf
  have hl : lv_has ls 2 [(0, .ref (ad 1)), (1, .int si)] := hl
  refine lv_iload_n hx hb d_X6_hasShip_0 rfl (lv_at hl 1 rfl) ?_
  refine lv_iconst (v := 0) hx hb d_X6_hasShip_1 (by decide) ?_
  refine lv_aload_n hx hb d_X6_hasShip_2 rfl (lv_at hl 0 rfl) ?_
  refine r_geti X hw FL_X6_29 (rfl : KD 1 = _) rfl d_X6_hasShip_3 ?_
  refine lv_topi (fun x1 ex1 => ?_)
  have r2 : Rg x1 0 20 := by rw [ex1]; exact hI _ _ _ _ rfl
  have hm3 : v 1 3 = x1 := ex1.symm
  refine lv_iconst (v := 1) hx hb d_X6_hasShip_6 (by decide) ?_
  refine lv_isub hx hb d_X6_hasShip_7 ?_
  refine lv_topi (fun x4 ex4 => ?_)
  have r5 : Rg x4 (-1) 19 := rg_sub ex4 r2 (⟨by decide, by decide⟩ : Rg 1 1 1) (by decide) (by decide)
  have s6 : x4.toInt = x1.toInt - (1 : Int32).toInt := by rw [ex4]; exact i_sub (by obtain ⟨_, _⟩ := r2; obtain ⟨_, _⟩ := (⟨by decide, by decide⟩ : Rg 1 1 1); omega) (by obtain ⟨_, _⟩ := r2; obtain ⟨_, _⟩ := (⟨by decide, by decide⟩ : Rg 1 1 1); omega)
  have s6l : (1 : Int32).toInt = 1 := rfl
  refine r_ci (r_runSN (n := 3) (As := [.int si, .int 0, .int x4]) (rest := []) X hw (ct_X10_within l D dA ad v hI si 0 x4) gn_X6_55 gc_X6_55 (by decide +kernel) ⟨rfl, rfl, Nat.le_of_ble_eq_true rfl, Nat.le_of_ble_eq_true rfl⟩ rfl hl.1 rfl (Nat.le_of_ble_eq_true rfl) ⟨Nat.zero_le _, Nat.zero_le _⟩ d_X6_hasShip_8) hS (fun x8 v9 H locs hp7 hw hS => ?_)
  obtain ⟨ev9, hp7⟩ := hp7
  rw [ev9] at hw
  rcases hp7 with ⟨rfl, w10a, w10b⟩ | ⟨rfl, w10n⟩
  · skip
    have r11 : Rg si 0 19 := by obtain ⟨_, _⟩ := (rg_any si); have : (0 : Int32).toInt = 0 := rfl; obtain ⟨_, _⟩ := r5; exact ⟨by omega, by omega⟩
    exact r_zret X hr hlocks hw hS rfl ⟨rfl, Or.inl ⟨rfl, by have q := congrArg Int32.toInt hm3; have : (0 : Int32).toInt = 0 := rfl; omega, by have q := congrArg Int32.toInt hm3; have : (0 : Int32).toInt = 0 := rfl; omega⟩⟩ d_X6_hasShip_11
  · skip
    exact r_zret X hr hlocks hw hS rfl ⟨rfl, Or.inr ⟨rfl, by have q := congrArg Int32.toInt hm3; have : (0 : Int32).toInt = 0 := rfl; omega⟩⟩ d_X6_hasShip_11
set_option maxHeartbeats 4000000 in
set_option maxRecDepth 100000 in
theorem ct_X6_hasShip_2 (l : Launch) (D : va_G) (dA : Nat → ClassId) (ad : Nat → Nat) (v : tV) (hI : Inv v) (si : Int32) : Met l m_X6_hasShip [.code m_X6_hasShip c_X6_hasShip 2 (some .boolean)] ({ frames := 2, cells := 0, slots := 0, locals := 62 } : Room) (tP D dA ad v [.ref (ad 2), .int si]) (tQi D dA ad (fun r v' => v' = v ∧ ((r = 1 ∧ 0 ≤ si.toInt ∧ si.toInt ≤ (v 2 3).toInt - 1) ∨ (r = 0 ∧ ¬ (0 ≤ si.toInt ∧ si.toInt ≤ (v 2 3).toInt - 1))))) 0 0 (tA ad) := by
  refine tMet (by decide) (Nat.le_of_ble_eq_true rfl) ?_
  intro p e s m below meth c ls X hr hlocks hw hl
  have X : CX p s m ([.ref (ad 2), .int si] : List Value).toArray c c_X6_hasShip N_X6 2 D dA := X
  have hx := X.1
  have hb := X.2.1
  have hS : va_S (tA ad) s.heap s.heap [] := va_S.rf
  have hl : lv_has ls 2 [(0, .ref (ad 2)), (1, .int si)] := hl
  refine lv_iload_n hx hb d_X6_hasShip_0 rfl (lv_at hl 1 rfl) ?_
  refine lv_iconst (v := 0) hx hb d_X6_hasShip_1 (by decide) ?_
  refine lv_aload_n hx hb d_X6_hasShip_2 rfl (lv_at hl 0 rfl) ?_
  refine r_geti X hw FL_X6_29 (rfl : KD 2 = _) rfl d_X6_hasShip_3 ?_
  refine lv_topi (fun x1 ex1 => ?_)
  have r2 : Rg x1 0 20 := by rw [ex1]; exact hI _ _ _ _ rfl
  have hm3 : v 2 3 = x1 := ex1.symm
  refine lv_iconst (v := 1) hx hb d_X6_hasShip_6 (by decide) ?_
  refine lv_isub hx hb d_X6_hasShip_7 ?_
  refine lv_topi (fun x4 ex4 => ?_)
  have r5 : Rg x4 (-1) 19 := rg_sub ex4 r2 (⟨by decide, by decide⟩ : Rg 1 1 1) (by decide) (by decide)
  have s6 : x4.toInt = x1.toInt - (1 : Int32).toInt := by rw [ex4]; exact i_sub (by obtain ⟨_, _⟩ := r2; obtain ⟨_, _⟩ := (⟨by decide, by decide⟩ : Rg 1 1 1); omega) (by obtain ⟨_, _⟩ := r2; obtain ⟨_, _⟩ := (⟨by decide, by decide⟩ : Rg 1 1 1); omega)
  have s6l : (1 : Int32).toInt = 1 := rfl
  refine r_ci (r_runSN (n := 3) (As := [.int si, .int 0, .int x4]) (rest := []) X hw (ct_X10_within l D dA ad v hI si 0 x4) gn_X6_55 gc_X6_55 (by decide +kernel) ⟨rfl, rfl, Nat.le_of_ble_eq_true rfl, Nat.le_of_ble_eq_true rfl⟩ rfl hl.1 rfl (Nat.le_of_ble_eq_true rfl) ⟨Nat.zero_le _, Nat.zero_le _⟩ d_X6_hasShip_8) hS (fun x8 v9 H locs hp7 hw hS => ?_)
  obtain ⟨ev9, hp7⟩ := hp7
  rw [ev9] at hw
  rcases hp7 with ⟨rfl, w10a, w10b⟩ | ⟨rfl, w10n⟩
  · skip
    have r11 : Rg si 0 19 := by obtain ⟨_, _⟩ := (rg_any si); have : (0 : Int32).toInt = 0 := rfl; obtain ⟨_, _⟩ := r5; exact ⟨by omega, by omega⟩
    exact r_zret X hr hlocks hw hS rfl ⟨rfl, Or.inl ⟨rfl, by have q := congrArg Int32.toInt hm3; have : (0 : Int32).toInt = 0 := rfl; omega, by have q := congrArg Int32.toInt hm3; have : (0 : Int32).toInt = 0 := rfl; omega⟩⟩ d_X6_hasShip_11
  · skip
    exact r_zret X hr hlocks hw hS rfl ⟨rfl, Or.inr ⟨rfl, by have q := congrArg Int32.toInt hm3; have : (0 : Int32).toInt = 0 := rfl; omega⟩⟩ d_X6_hasShip_11
theorem d_X4_inForce_0 : decode c_X4_inForce 0 = .ok (.iconst (-1), 1) := by decide +kernel
theorem d_X4_inForce_1 : decode c_X4_inForce 1 = .ok (.istore_n 2, 1) := by decide +kernel
theorem d_X4_inForce_2 : decode c_X4_inForce 2 = .ok (.iconst 0, 1) := by decide +kernel
theorem d_X4_inForce_3 : decode c_X4_inForce 3 = .ok (.istore_n 3, 1) := by decide +kernel
theorem d_X4_inForce_4 : decode c_X4_inForce 4 = .ok (.iload_n 3, 1) := by decide +kernel
theorem d_X4_inForce_5 : decode c_X4_inForce 5 = .ok (.aload_n 0, 1) := by decide +kernel
theorem d_X4_inForce_6 : decode c_X4_inForce 6 = .ok (.getfield 22, 3) := by decide +kernel
theorem d_X4_inForce_9 : decode c_X4_inForce 9 = .ok (.if_icmp .ge 62, 3) := by decide +kernel
theorem d_X4_inForce_12 : decode c_X4_inForce 12 = .ok (.iload_n 2, 1) := by decide +kernel
theorem d_X4_inForce_13 : decode c_X4_inForce 13 = .ok (.iconst (-1), 1) := by decide +kernel
theorem d_X4_inForce_14 : decode c_X4_inForce 14 = .ok (.if_icmp .eq 24, 3) := by decide +kernel
theorem d_X4_inForce_17 : decode c_X4_inForce 17 = .ok (.aload_n 0, 1) := by decide +kernel
theorem d_X4_inForce_18 : decode c_X4_inForce 18 = .ok (.getfield 11, 3) := by decide +kernel
theorem d_X4_inForce_21 : decode c_X4_inForce 21 = .ok (.iload_n 3, 1) := by decide +kernel
theorem d_X4_inForce_22 : decode c_X4_inForce 22 = .ok (.aaload, 1) := by decide +kernel
theorem d_X4_inForce_23 : decode c_X4_inForce 23 = .ok (.getfield 30, 3) := by decide +kernel
theorem d_X4_inForce_26 : decode c_X4_inForce 26 = .ok (.aload_n 0, 1) := by decide +kernel
theorem d_X4_inForce_27 : decode c_X4_inForce 27 = .ok (.getfield 11, 3) := by decide +kernel
theorem d_X4_inForce_30 : decode c_X4_inForce 30 = .ok (.iload_n 2, 1) := by decide +kernel
theorem d_X4_inForce_31 : decode c_X4_inForce 31 = .ok (.aaload, 1) := by decide +kernel
theorem d_X4_inForce_32 : decode c_X4_inForce 32 = .ok (.getfield 30, 3) := by decide +kernel
theorem d_X4_inForce_35 : decode c_X4_inForce 35 = .ok (.if_icmp .lt 7, 3) := by decide +kernel
theorem d_X4_inForce_38 : decode c_X4_inForce 38 = .ok (.iconst 1, 1) := by decide +kernel
theorem d_X4_inForce_39 : decode c_X4_inForce 39 = .ok (.goto 4, 3) := by decide +kernel
theorem d_X4_inForce_42 : decode c_X4_inForce 42 = .ok (.iconst 0, 1) := by decide +kernel
theorem d_X4_inForce_43 : decode c_X4_inForce 43 = .ok (.istore 4, 2) := by decide +kernel
theorem d_X4_inForce_45 : decode c_X4_inForce 45 = .ok (.iload 4, 2) := by decide +kernel
theorem d_X4_inForce_47 : decode c_X4_inForce 47 = .ok (.ifCond .eq 18, 3) := by decide +kernel
theorem d_X4_inForce_50 : decode c_X4_inForce 50 = .ok (.aload_n 0, 1) := by decide +kernel
theorem d_X4_inForce_51 : decode c_X4_inForce 51 = .ok (.getfield 11, 3) := by decide +kernel
theorem d_X4_inForce_54 : decode c_X4_inForce 54 = .ok (.iload_n 3, 1) := by decide +kernel
theorem d_X4_inForce_55 : decode c_X4_inForce 55 = .ok (.aaload, 1) := by decide +kernel
theorem d_X4_inForce_56 : decode c_X4_inForce 56 = .ok (.getfield 30, 3) := by decide +kernel
theorem d_X4_inForce_59 : decode c_X4_inForce 59 = .ok (.iload_n 1, 1) := by decide +kernel
theorem d_X4_inForce_60 : decode c_X4_inForce 60 = .ok (.if_icmp .gt 5, 3) := by decide +kernel
theorem d_X4_inForce_63 : decode c_X4_inForce 63 = .ok (.iload_n 3, 1) := by decide +kernel
theorem d_X4_inForce_64 : decode c_X4_inForce 64 = .ok (.istore_n 2, 1) := by decide +kernel
theorem d_X4_inForce_65 : decode c_X4_inForce 65 = .ok (.iinc 3 1, 3) := by decide +kernel
theorem d_X4_inForce_68 : decode c_X4_inForce 68 = .ok (.goto (-64), 3) := by decide +kernel
theorem d_X4_inForce_71 : decode c_X4_inForce 71 = .ok (.iload_n 2, 1) := by decide +kernel
theorem d_X4_inForce_72 : decode c_X4_inForce 72 = .ok (.ireturn, 1) := by decide +kernel
def b_X4_inForce_50_4 (v : tV) (dy : Int32) (rc4 : Int32 → Int32 → Int32) (y2 : Int32) (y3 : Int32) : Int32 := bnd (v 50 2) fun x1 => (if x1 ≤ y3 then y2 else (if y2 = (-1 : Int32) then bnd (60 + y3.toNatClampNeg) fun kc13 => bnd (v kc13 6) fun x14 => (if dy < x14 then bnd (y3 + 1) fun x17 => rc4 y2 x17 else bnd (y3 + 1) fun x21 => rc4 y3 x21) else bnd (60 + y3.toNatClampNeg) fun kc26 => bnd (v kc26 6) fun x27 => bnd (60 + y2.toNatClampNeg) fun kc28 => bnd (v kc28 6) fun x29 => (if x27 < x29 then bnd (y3 + 1) fun x33 => rc4 y2 x33 else bnd (60 + y3.toNatClampNeg) fun kc38 => bnd (v kc38 6) fun x39 => (if dy < x39 then bnd (y3 + 1) fun x42 => rc4 y2 x42 else bnd (y3 + 1) fun x46 => rc4 y3 x46))))
def g_X4_inForce_50_4 (v : tV) (dy : Int32) : Nat → Int32 → Int32 → Int32
  | 0, _, _ => 0
  | n + 1, y2, y3 => b_X4_inForce_50_4 v dy (g_X4_inForce_50_4 v dy n) y2 y3
def f_X4_inForce_50 (v : tV) (dy : Int32) : Int32 := g_X4_inForce_50_4 v dy 100000 (-1) 0
set_option maxHeartbeats 4000000 in
set_option maxRecDepth 100000 in
theorem ct_X4_inForce_50 (l : Launch) (D : va_G) (dA : Nat → ClassId) (ad : Nat → Nat) (v : tV) (hI : Inv v) (dy : Int32) : Met l m_X4_inForce [.code m_X4_inForce c_X4_inForce 5 (some .int)] ({ frames := 1, cells := 0, slots := 0, locals := 40 } : Room) (tP D dA ad v [.ref (ad 50), .int dy]) (tQi D dA ad (fun r v' => (v' = v ∧ Rg r (-1) 7) ∧ r = f_X4_inForce_50 v dy)) 0 0 (tA ad) := by
  refine tMet (by decide) (Nat.le_of_ble_eq_true rfl) ?_
  intro p e s m below meth c ls X hr hlocks hw hl
  have X : CX p s m ([.ref (ad 50), .int dy] : List Value).toArray c c_X4_inForce N_X4 5 D dA := X
  have hx := X.1
  have hb := X.2.1
  have hS : va_S (tA ad) s.heap s.heap [] := va_S.rf
  have hl : lv_has ls 5 [(0, .ref (ad 50)), (1, .int dy)] := hl
  obtain ⟨RR, eRR⟩ : ∃ z, f_X4_inForce_50 v dy = z := ⟨_, rfl⟩
  have LL : ∀ n : Nat, (∀ (y2 : Int32) (y3 : Int32)  (H : Heap) (locs : List Loc) (ls : Array Slot), (8 - y3.toInt).toNat < n → Rg y2 (-1) 7 → Rg y3 0 8 → g_X4_inForce_50_4 v dy n y2 y3 = RR → tI D dA ad v H → va_S (tA ad) s.heap H locs → lv_has ls 5 [(0, .ref (ad 50)), (1, .int dy), (2, .int y2), (3, .int y3)] → W p l e ({ frames := 1, cells := 0, slots := 0, locals := 40 } : Room) s m ([.ref (ad 50), .int dy] : List Value).toArray below meth c H locs 0 0 (MQ below (tQi D dA ad (fun r v' => (v' = v ∧ Rg r (-1) 7) ∧ r = f_X4_inForce_50 v dy)) ([.ref (ad 50), .int dy] : List Value).toArray s 0 0 (tA ad)) (F0 m 4 ls [])) := by
    intro n
    induction n with
    | zero => intros; omega
    | succ n ih =>
      have ih0 := ih
      intro y2 y3 H locs ls hmu r_y2 r_y3 hG hw hS hl
      have hG : b_X4_inForce_50_4 v dy (g_X4_inForce_50_4 v dy n) y2 y3 = RR := hG
      unfold b_X4_inForce_50_4 at hG
      refine lv_iload_n hx hb d_X4_inForce_4 rfl (lv_at hl 3 rfl) ?_
      refine lv_aload_n hx hb d_X4_inForce_5 rfl (lv_at hl 0 rfl) ?_
      refine r_geti X hw FL_X4_22 (rfl : KD 50 = _) rfl d_X4_inForce_6 ?_
      refine lv_topi (fun x1 ex1 => ?_)
      have hG := bnd_use ex1 hG
      have r2 : Rg x1 0 8 := by rw [ex1]; exact hI _ _ _ _ rfl
      have hm3 : v 50 2 = x1 := ex1.symm
      refine lv_icmp_ge (tgt := 71) hx hb d_X4_inForce_9 (by decide) (fun c4 => ?_) (fun c4 => ?_)
      · have f5 := i_le c4
        have hG := g_pos c4 hG
        refine lv_iload_n hx hb d_X4_inForce_71 rfl (lv_at hl 2 rfl) ?_
        exact r_iret X hr hlocks hw hS ⟨⟨rfl, r_y2⟩, hG.trans eRR.symm⟩ d_X4_inForce_72
      · have f6 := i_nle c4
        have r7 : Rg y3 0 7 := by obtain ⟨a1, a2⟩ := r_y3; obtain ⟨b1, b2⟩ := r2; have f := i_nle c4; exact ⟨by omega, by omega⟩
        have r8 : Rg x1 1 8 := by obtain ⟨a1, a2⟩ := r_y3; obtain ⟨b1, b2⟩ := r2; have f := i_nle c4; exact ⟨by omega, by omega⟩
        have hG := g_neg c4 hG
        refine lv_iload_n hx hb d_X4_inForce_12 rfl (lv_at hl 2 rfl) ?_
        refine lv_iconst (v := -1) hx hb d_X4_inForce_13 (by decide) ?_
        refine lv_icmp_eq (tgt := 38) hx hb d_X4_inForce_14 (by decide) (fun c9 => ?_) (fun c9 => ?_)
        · have f10 := i_eq c9
          have r11 : Rg y2 (-1) (-1) := by obtain ⟨a1, a2⟩ := r_y2; obtain ⟨b1, b2⟩ := (⟨by decide, by decide⟩ : Rg (-1) (-1) (-1)); have f := i_eq c9; exact ⟨by omega, by omega⟩
          have hG := g_pos c9 hG
          refine lv_iconst (v := 1) hx hb d_X4_inForce_38 (by decide) ?_
          refine lv_goto (tgt := 43) hx hb d_X4_inForce_39 (by decide) ?_
          refine lv_istore (lv' := [(4, .int 1), (0, .ref (ad 50)), (1, .int dy), (2, .int y2), (3, .int y3)]) hx hb d_X4_inForce_43 hl (by decide) rfl (fun ls hl => ?_)
          refine lv_iload hx hb d_X4_inForce_45 (lv_at hl 0 rfl) ?_
          refine lv_if_eq (tgt := 65) hx hb d_X4_inForce_47 (by decide) (fun c12 => ?_) (fun c12 => ?_)
          · exact absurd c12 (by decide)
          · refine lv_aload_n hx hb d_X4_inForce_50 rfl (lv_at hl 1 rfl) ?_
            refine r_getr (r := 51) X hw FL_X4_11 (rfl : KD 50 = _) rfl d_X4_inForce_51 ?_
            refine lv_iload_n hx hb d_X4_inForce_54 rfl (lv_at hl 4 rfl) ?_
            refine r_aald X hw (rfl : KD 51 = _) (Or.inr (Or.inr (Or.inr rfl))) (Rg.vp (b := 7) r7 (by decide)) rfl d_X4_inForce_55 ?_
            refine r_nm (fun kc13 ekc13 => ?_)
            have hG := bnd_use ekc13 hG
            have kc13a : 60 ≤ kc13 := by omega
            have kc13b : kc13 ≤ 67 := by have := Rg.nat r7; omega
            refine r_geti X hw FL_X4_30 (KD_order (by omega) (by omega)) (SH_order (by omega) (by omega) (by decide)) d_X4_inForce_56 ?_
            refine lv_topi (fun x14 ex14 => ?_)
            have hG := bnd_use ex14 hG
            refine lv_iload_n hx hb d_X4_inForce_59 rfl (lv_at hl 2 rfl) ?_
            refine lv_icmp_gt (tgt := 65) hx hb d_X4_inForce_60 (by decide) (fun c15 => ?_) (fun c15 => ?_)
            · have f16 := i_lt c15
              have hG := g_pos c15 hG
              obtain ⟨x17, ex17⟩ : ∃ y : Int32, y = y3 + 1 := ⟨_, rfl⟩
              have hG := bnd_use ex17 hG
              refine lv_iinc (v := x17) (lv' := [(3, .int x17), (4, .int 1), (0, .ref (ad 50)), (1, .int dy), (2, .int y2)]) hx hb d_X4_inForce_65 hl (k := 4) rfl (by rw [ex17]; rfl) (by decide) rfl (fun ls hl => ?_)
              have r18 : Rg x17 1 8 := rg_add ex17 r7 (⟨by decide, by decide⟩ : Rg 1 1 1) (by decide) (by decide)
              have s19 : x17.toInt = y3.toInt + (1 : Int32).toInt := by rw [ex17]; exact i_add (by obtain ⟨_, _⟩ := r7; obtain ⟨_, _⟩ := (⟨by decide, by decide⟩ : Rg 1 1 1); omega) (by obtain ⟨_, _⟩ := r7; obtain ⟨_, _⟩ := (⟨by decide, by decide⟩ : Rg 1 1 1); omega)
              have s19l : (1 : Int32).toInt = 1 := rfl
              refine lv_goto (tgt := 4) hx hb d_X4_inForce_68 (by decide) ?_
              exact ih0 y2 x17 _ _ _ (by have := s19; obtain ⟨_, _⟩ := r11; obtain ⟨_, _⟩ := r18; omega) (rg_w r11 (by decide) (by decide)) (rg_w r18 (by decide) (by decide)) hG hw hS (lv_sub hl [2, 3, 4, 0] rfl)
            · have f20 := i_nlt c15
              have hG := g_neg c15 hG
              refine lv_iload_n hx hb d_X4_inForce_63 rfl (lv_at hl 4 rfl) ?_
              refine lv_istore_n (lv' := [(2, .int y3), (4, .int 1), (0, .ref (ad 50)), (1, .int dy), (3, .int y3)]) hx hb d_X4_inForce_64 rfl hl (by decide) rfl (fun ls hl => ?_)
              obtain ⟨x21, ex21⟩ : ∃ y : Int32, y = y3 + 1 := ⟨_, rfl⟩
              have hG := bnd_use ex21 hG
              refine lv_iinc (v := x21) (lv' := [(3, .int x21), (2, .int y3), (4, .int 1), (0, .ref (ad 50)), (1, .int dy)]) hx hb d_X4_inForce_65 hl (k := 4) rfl (by rw [ex21]; rfl) (by decide) rfl (fun ls hl => ?_)
              have r22 : Rg x21 1 8 := rg_add ex21 r7 (⟨by decide, by decide⟩ : Rg 1 1 1) (by decide) (by decide)
              have s23 : x21.toInt = y3.toInt + (1 : Int32).toInt := by rw [ex21]; exact i_add (by obtain ⟨_, _⟩ := r7; obtain ⟨_, _⟩ := (⟨by decide, by decide⟩ : Rg 1 1 1); omega) (by obtain ⟨_, _⟩ := r7; obtain ⟨_, _⟩ := (⟨by decide, by decide⟩ : Rg 1 1 1); omega)
              have s23l : (1 : Int32).toInt = 1 := rfl
              refine lv_goto (tgt := 4) hx hb d_X4_inForce_68 (by decide) ?_
              exact ih0 y3 x21 _ _ _ (by have := s23; obtain ⟨_, _⟩ := r7; obtain ⟨_, _⟩ := r22; omega) (rg_w r7 (by decide) (by decide)) (rg_w r22 (by decide) (by decide)) hG hw hS (lv_sub hl [3, 4, 1, 0] rfl)
        · have f24 := i_ne c9
          have r25 : Rg y2 0 7 := by obtain ⟨a1, a2⟩ := r_y2; obtain ⟨b1, b2⟩ := (⟨by decide, by decide⟩ : Rg (-1) (-1) (-1)); have f := i_ne c9; exact ⟨by omega, by omega⟩
          have hG := g_neg c9 hG
          refine lv_aload_n hx hb d_X4_inForce_17 rfl (lv_at hl 0 rfl) ?_
          refine r_getr (r := 51) X hw FL_X4_11 (rfl : KD 50 = _) rfl d_X4_inForce_18 ?_
          refine lv_iload_n hx hb d_X4_inForce_21 rfl (lv_at hl 3 rfl) ?_
          refine r_aald X hw (rfl : KD 51 = _) (Or.inr (Or.inr (Or.inr rfl))) (Rg.vp (b := 7) r7 (by decide)) rfl d_X4_inForce_22 ?_
          refine r_nm (fun kc26 ekc26 => ?_)
          have hG := bnd_use ekc26 hG
          have kc26a : 60 ≤ kc26 := by omega
          have kc26b : kc26 ≤ 67 := by have := Rg.nat r7; omega
          refine r_geti X hw FL_X4_30 (KD_order (by omega) (by omega)) (SH_order (by omega) (by omega) (by decide)) d_X4_inForce_23 ?_
          refine lv_topi (fun x27 ex27 => ?_)
          have hG := bnd_use ex27 hG
          refine lv_aload_n hx hb d_X4_inForce_26 rfl (lv_at hl 0 rfl) ?_
          refine r_getr (r := 51) X hw FL_X4_11 (rfl : KD 50 = _) rfl d_X4_inForce_27 ?_
          refine lv_iload_n hx hb d_X4_inForce_30 rfl (lv_at hl 2 rfl) ?_
          refine r_aald X hw (rfl : KD 51 = _) (Or.inr (Or.inr (Or.inr rfl))) (Rg.vp (b := 7) r25 (by decide)) rfl d_X4_inForce_31 ?_
          refine r_nm (fun kc28 ekc28 => ?_)
          have hG := bnd_use ekc28 hG
          have kc28a : 60 ≤ kc28 := by omega
          have kc28b : kc28 ≤ 67 := by have := Rg.nat r25; omega
          refine r_geti X hw FL_X4_30 (KD_order (by omega) (by omega)) (SH_order (by omega) (by omega) (by decide)) d_X4_inForce_32 ?_
          refine lv_topi (fun x29 ex29 => ?_)
          have hG := bnd_use ex29 hG
          refine lv_icmp_lt (tgt := 42) hx hb d_X4_inForce_35 (by decide) (fun c30 => ?_) (fun c30 => ?_)
          · have f31 := i_lt c30
            have hG := g_pos c30 hG
            refine lv_iconst (v := 0) hx hb d_X4_inForce_42 (by decide) ?_
            refine lv_istore (lv' := [(4, .int 0), (0, .ref (ad 50)), (1, .int dy), (2, .int y2), (3, .int y3)]) hx hb d_X4_inForce_43 hl (by decide) rfl (fun ls hl => ?_)
            refine lv_iload hx hb d_X4_inForce_45 (lv_at hl 0 rfl) ?_
            refine lv_if_eq (tgt := 65) hx hb d_X4_inForce_47 (by decide) (fun c32 => ?_) (fun c32 => ?_)
            · obtain ⟨x33, ex33⟩ : ∃ y : Int32, y = y3 + 1 := ⟨_, rfl⟩
              have hG := bnd_use ex33 hG
              refine lv_iinc (v := x33) (lv' := [(3, .int x33), (4, .int 0), (0, .ref (ad 50)), (1, .int dy), (2, .int y2)]) hx hb d_X4_inForce_65 hl (k := 4) rfl (by rw [ex33]; rfl) (by decide) rfl (fun ls hl => ?_)
              have r34 : Rg x33 1 8 := rg_add ex33 r7 (⟨by decide, by decide⟩ : Rg 1 1 1) (by decide) (by decide)
              have s35 : x33.toInt = y3.toInt + (1 : Int32).toInt := by rw [ex33]; exact i_add (by obtain ⟨_, _⟩ := r7; obtain ⟨_, _⟩ := (⟨by decide, by decide⟩ : Rg 1 1 1); omega) (by obtain ⟨_, _⟩ := r7; obtain ⟨_, _⟩ := (⟨by decide, by decide⟩ : Rg 1 1 1); omega)
              have s35l : (1 : Int32).toInt = 1 := rfl
              refine lv_goto (tgt := 4) hx hb d_X4_inForce_68 (by decide) ?_
              exact ih0 y2 x33 _ _ _ (by have := s35; obtain ⟨_, _⟩ := r25; obtain ⟨_, _⟩ := r34; omega) (rg_w r25 (by decide) (by decide)) (rg_w r34 (by decide) (by decide)) hG hw hS (lv_sub hl [2, 3, 4, 0] rfl)
            · exact absurd c32 (by decide)
          · have f36 := i_nlt c30
            have hG := g_neg c30 hG
            refine lv_iconst (v := 1) hx hb d_X4_inForce_38 (by decide) ?_
            refine lv_goto (tgt := 43) hx hb d_X4_inForce_39 (by decide) ?_
            refine lv_istore (lv' := [(4, .int 1), (0, .ref (ad 50)), (1, .int dy), (2, .int y2), (3, .int y3)]) hx hb d_X4_inForce_43 hl (by decide) rfl (fun ls hl => ?_)
            refine lv_iload hx hb d_X4_inForce_45 (lv_at hl 0 rfl) ?_
            refine lv_if_eq (tgt := 65) hx hb d_X4_inForce_47 (by decide) (fun c37 => ?_) (fun c37 => ?_)
            · exact absurd c37 (by decide)
            · refine lv_aload_n hx hb d_X4_inForce_50 rfl (lv_at hl 1 rfl) ?_
              refine r_getr (r := 51) X hw FL_X4_11 (rfl : KD 50 = _) rfl d_X4_inForce_51 ?_
              refine lv_iload_n hx hb d_X4_inForce_54 rfl (lv_at hl 4 rfl) ?_
              refine r_aald X hw (rfl : KD 51 = _) (Or.inr (Or.inr (Or.inr rfl))) (Rg.vp (b := 7) r7 (by decide)) rfl d_X4_inForce_55 ?_
              refine r_nm (fun kc38 ekc38 => ?_)
              have hG := bnd_use ekc38 hG
              have kc38a : 60 ≤ kc38 := by omega
              have kc38b : kc38 ≤ 67 := by have := Rg.nat r7; omega
              refine r_geti X hw FL_X4_30 (KD_order (by omega) (by omega)) (SH_order (by omega) (by omega) (by decide)) d_X4_inForce_56 ?_
              refine lv_topi (fun x39 ex39 => ?_)
              have hG := bnd_use ex39 hG
              refine lv_iload_n hx hb d_X4_inForce_59 rfl (lv_at hl 2 rfl) ?_
              refine lv_icmp_gt (tgt := 65) hx hb d_X4_inForce_60 (by decide) (fun c40 => ?_) (fun c40 => ?_)
              · have f41 := i_lt c40
                have hG := g_pos c40 hG
                obtain ⟨x42, ex42⟩ : ∃ y : Int32, y = y3 + 1 := ⟨_, rfl⟩
                have hG := bnd_use ex42 hG
                refine lv_iinc (v := x42) (lv' := [(3, .int x42), (4, .int 1), (0, .ref (ad 50)), (1, .int dy), (2, .int y2)]) hx hb d_X4_inForce_65 hl (k := 4) rfl (by rw [ex42]; rfl) (by decide) rfl (fun ls hl => ?_)
                have r43 : Rg x42 1 8 := rg_add ex42 r7 (⟨by decide, by decide⟩ : Rg 1 1 1) (by decide) (by decide)
                have s44 : x42.toInt = y3.toInt + (1 : Int32).toInt := by rw [ex42]; exact i_add (by obtain ⟨_, _⟩ := r7; obtain ⟨_, _⟩ := (⟨by decide, by decide⟩ : Rg 1 1 1); omega) (by obtain ⟨_, _⟩ := r7; obtain ⟨_, _⟩ := (⟨by decide, by decide⟩ : Rg 1 1 1); omega)
                have s44l : (1 : Int32).toInt = 1 := rfl
                refine lv_goto (tgt := 4) hx hb d_X4_inForce_68 (by decide) ?_
                exact ih0 y2 x42 _ _ _ (by have := s44; obtain ⟨_, _⟩ := r25; obtain ⟨_, _⟩ := r43; omega) (rg_w r25 (by decide) (by decide)) (rg_w r43 (by decide) (by decide)) hG hw hS (lv_sub hl [2, 3, 4, 0] rfl)
              · have f45 := i_nlt c40
                have hG := g_neg c40 hG
                refine lv_iload_n hx hb d_X4_inForce_63 rfl (lv_at hl 4 rfl) ?_
                refine lv_istore_n (lv' := [(2, .int y3), (4, .int 1), (0, .ref (ad 50)), (1, .int dy), (3, .int y3)]) hx hb d_X4_inForce_64 rfl hl (by decide) rfl (fun ls hl => ?_)
                obtain ⟨x46, ex46⟩ : ∃ y : Int32, y = y3 + 1 := ⟨_, rfl⟩
                have hG := bnd_use ex46 hG
                refine lv_iinc (v := x46) (lv' := [(3, .int x46), (2, .int y3), (4, .int 1), (0, .ref (ad 50)), (1, .int dy)]) hx hb d_X4_inForce_65 hl (k := 4) rfl (by rw [ex46]; rfl) (by decide) rfl (fun ls hl => ?_)
                have r47 : Rg x46 1 8 := rg_add ex46 r7 (⟨by decide, by decide⟩ : Rg 1 1 1) (by decide) (by decide)
                have s48 : x46.toInt = y3.toInt + (1 : Int32).toInt := by rw [ex46]; exact i_add (by obtain ⟨_, _⟩ := r7; obtain ⟨_, _⟩ := (⟨by decide, by decide⟩ : Rg 1 1 1); omega) (by obtain ⟨_, _⟩ := r7; obtain ⟨_, _⟩ := (⟨by decide, by decide⟩ : Rg 1 1 1); omega)
                have s48l : (1 : Int32).toInt = 1 := rfl
                refine lv_goto (tgt := 4) hx hb d_X4_inForce_68 (by decide) ?_
                exact ih0 y3 x46 _ _ _ (by have := s48; obtain ⟨_, _⟩ := r7; obtain ⟨_, _⟩ := r47; omega) (rg_w r7 (by decide) (by decide)) (rg_w r47 (by decide) (by decide)) hG hw hS (lv_sub hl [3, 4, 1, 0] rfl)
  have ih0 := LL 100000
  have hG := eRR
  unfold f_X4_inForce_50 at hG
  refine lv_iconst (v := -1) hx hb d_X4_inForce_0 (by decide) ?_
  refine lv_istore_n (lv' := [(2, .int (-1)), (0, .ref (ad 50)), (1, .int dy)]) hx hb d_X4_inForce_1 rfl hl (by decide) rfl (fun ls hl => ?_)
  refine lv_iconst (v := 0) hx hb d_X4_inForce_2 (by decide) ?_
  refine lv_istore_n (lv' := [(3, .int 0), (2, .int (-1)), (0, .ref (ad 50)), (1, .int dy)]) hx hb d_X4_inForce_3 rfl hl (by decide) rfl (fun ls hl => ?_)
  exact ih0 (-1) 0 _ _ _ (by obtain ⟨_, _⟩ := (⟨by decide, by decide⟩ : Rg (-1) (-1) (-1)); obtain ⟨_, _⟩ := (⟨by decide, by decide⟩ : Rg 0 0 0); omega) (rg_w (⟨by decide, by decide⟩ : Rg (-1) (-1) (-1)) (by decide) (by decide)) (rg_w (⟨by decide, by decide⟩ : Rg 0 0 0) (by decide) (by decide)) hG hw hS (lv_sub hl [2, 3, 1, 0] rfl)
theorem d_X4_ruleOn_0 : decode c_X4_ruleOn 0 = .ok (.aload_n 0, 1) := by decide +kernel
theorem d_X4_ruleOn_1 : decode c_X4_ruleOn 1 = .ok (.iload_n 1, 1) := by decide +kernel
theorem d_X4_ruleOn_2 : decode c_X4_ruleOn 2 = .ok (.invokevirtual 33, 3) := by decide +kernel
theorem d_X4_ruleOn_5 : decode c_X4_ruleOn 5 = .ok (.istore_n 2, 1) := by decide +kernel
theorem d_X4_ruleOn_6 : decode c_X4_ruleOn 6 = .ok (.iload_n 2, 1) := by decide +kernel
theorem d_X4_ruleOn_7 : decode c_X4_ruleOn 7 = .ok (.iconst (-1), 1) := by decide +kernel
theorem d_X4_ruleOn_8 : decode c_X4_ruleOn 8 = .ok (.if_icmp .ne 10, 3) := by decide +kernel
theorem d_X4_ruleOn_11 : decode c_X4_ruleOn 11 = .ok (.aload_n 0, 1) := by decide +kernel
theorem d_X4_ruleOn_12 : decode c_X4_ruleOn 12 = .ok (.getfield 18, 3) := by decide +kernel
theorem d_X4_ruleOn_15 : decode c_X4_ruleOn 15 = .ok (.goto 9, 3) := by decide +kernel
theorem d_X4_ruleOn_18 : decode c_X4_ruleOn 18 = .ok (.aload_n 0, 1) := by decide +kernel
theorem d_X4_ruleOn_19 : decode c_X4_ruleOn 19 = .ok (.getfield 11, 3) := by decide +kernel
theorem d_X4_ruleOn_22 : decode c_X4_ruleOn 22 = .ok (.iload_n 2, 1) := by decide +kernel
theorem d_X4_ruleOn_23 : decode c_X4_ruleOn 23 = .ok (.aaload, 1) := by decide +kernel
theorem d_X4_ruleOn_24 : decode c_X4_ruleOn 24 = .ok (.areturn, 1) := by decide +kernel
def f_X4_ruleOn_50 (v : tV) (dy : Int32) : Nat := bnd (f_X4_inForce_50 v dy) fun x2 => (if x2 = (-1 : Int32) then bnd (68) fun kc11 => kc11 else bnd (60 + x2.toNatClampNeg) fun kc8 => kc8)
set_option maxHeartbeats 4000000 in
set_option maxRecDepth 100000 in
theorem ct_X4_ruleOn_50 (l : Launch) (D : va_G) (dA : Nat → ClassId) (ad : Nat → Nat) (v : tV) (hI : Inv v) (dy : Int32) : Met l m_X4_ruleOn [.code m_X4_ruleOn c_X4_ruleOn 3 (some (.object "CoalTurns$Order"))] ({ frames := 2, cells := 0, slots := 0, locals := 64 } : Room) (tP D dA ad v [.ref (ad 50), .int dy]) (tQr D dA ad (fun r v' => (v' = v ∧ 60 ≤ r ∧ r < 69) ∧ r = f_X4_ruleOn_50 v dy)) 0 0 (tA ad) := by
  refine tMet (by decide) (Nat.le_of_ble_eq_true rfl) ?_
  intro p e s m below meth c ls X hr hlocks hw hl
  have X : CX p s m ([.ref (ad 50), .int dy] : List Value).toArray c c_X4_ruleOn N_X4 3 D dA := X
  have hx := X.1
  have hb := X.2.1
  have hS : va_S (tA ad) s.heap s.heap [] := va_S.rf
  have hl : lv_has ls 3 [(0, .ref (ad 50)), (1, .int dy)] := hl
  obtain ⟨RR, eRR⟩ : ∃ z, f_X4_ruleOn_50 v dy = z := ⟨_, rfl⟩
  have hG := eRR
  unfold f_X4_ruleOn_50 at hG
  refine lv_aload_n hx hb d_X4_ruleOn_0 rfl (lv_at hl 0 rfl) ?_
  refine lv_iload_n hx hb d_X4_ruleOn_1 rfl (lv_at hl 1 rfl) ?_
  refine r_ci (r_runV (n := 1) (As := [.int dy]) (rest := []) X hw (ct_X4_inForce_50 l D dA ad v hI dy) gc_X4_33 (rfl : KD 50 = _) (by decide) rfl (by decide +kernel) ⟨rfl, rfl, Nat.le_of_ble_eq_true rfl, Nat.le_of_ble_eq_true rfl⟩ rfl hl.1 rfl (Nat.le_of_ble_eq_true rfl) ⟨Nat.zero_le _, Nat.zero_le _⟩ d_X4_ruleOn_2) hS (fun x2 v3 H locs hp1 hw hS => ?_)
  obtain ⟨hp1, hE4⟩ := hp1
  obtain ⟨ev3, hp1⟩ := hp1
  rw [ev3] at hw
  have hG := bnd_use hE4 hG
  refine lv_istore_n (lv' := [(2, .int x2), (0, .ref (ad 50)), (1, .int dy)]) hx hb d_X4_ruleOn_5 rfl hl (by decide) rfl (fun ls hl => ?_)
  refine lv_iload_n hx hb d_X4_ruleOn_6 rfl (lv_at hl 0 rfl) ?_
  refine lv_iconst (v := -1) hx hb d_X4_ruleOn_7 (by decide) ?_
  refine lv_icmp_ne (tgt := 18) hx hb d_X4_ruleOn_8 (by decide) (fun c5 => ?_) (fun c5 => ?_)
  · have f6 := i_ne c5
    have r7 : Rg x2 0 7 := by obtain ⟨a1, a2⟩ := hp1; obtain ⟨b1, b2⟩ := (⟨by decide, by decide⟩ : Rg (-1) (-1) (-1)); have f := i_ne c5; exact ⟨by omega, by omega⟩
    have hG := g_neg c5 hG
    refine lv_aload_n hx hb d_X4_ruleOn_18 rfl (lv_at hl 1 rfl) ?_
    refine r_getr (r := 51) X hw FL_X4_11 (rfl : KD 50 = _) rfl d_X4_ruleOn_19 ?_
    refine lv_iload_n hx hb d_X4_ruleOn_22 rfl (lv_at hl 0 rfl) ?_
    refine r_aald X hw (rfl : KD 51 = _) (Or.inr (Or.inr (Or.inr rfl))) (Rg.vp (b := 7) r7 (by decide)) rfl d_X4_ruleOn_23 ?_
    refine r_nm (fun kc8 ekc8 => ?_)
    have hG := bnd_use ekc8 hG
    have kc8a : 60 ≤ kc8 := by omega
    have kc8b : kc8 ≤ 67 := by have := Rg.nat r7; omega
    exact r_aret X hr hlocks hw hS ⟨⟨rfl, by omega, by omega⟩, hG.trans eRR.symm⟩ d_X4_ruleOn_24
  · have f9 := i_eq c5
    have r10 : Rg x2 (-1) (-1) := by obtain ⟨a1, a2⟩ := hp1; obtain ⟨b1, b2⟩ := (⟨by decide, by decide⟩ : Rg (-1) (-1) (-1)); have f := i_eq c5; exact ⟨by omega, by omega⟩
    have hG := g_pos c5 hG
    refine lv_aload_n hx hb d_X4_ruleOn_11 rfl (lv_at hl 1 rfl) ?_
    refine r_getr (r := 68) X hw FL_X4_18 (rfl : KD 50 = _) rfl d_X4_ruleOn_12 ?_
    refine r_nm (fun kc11 ekc11 => ?_)
    have hG := bnd_use ekc11 hG
    refine lv_goto (tgt := 24) hx hb d_X4_ruleOn_15 (by decide) ?_
    exact r_aret X hr hlocks hw hS ⟨⟨rfl, by omega, by omega⟩, hG.trans eRR.symm⟩ d_X4_ruleOn_24
theorem d_X5_rank_0 : decode c_X5_rank 0 = .ok (.aload_n 2, 1) := by decide +kernel
theorem d_X5_rank_1 : decode c_X5_rank 1 = .ok (.iload_n 0, 1) := by decide +kernel
theorem d_X5_rank_2 : decode c_X5_rank 2 = .ok (.aload_n 1, 1) := by decide +kernel
theorem d_X5_rank_3 : decode c_X5_rank 3 = .ok (.iload_n 3, 1) := by decide +kernel
theorem d_X5_rank_4 : decode c_X5_rank 4 = .ok (.invokevirtual 68, 3) := by decide +kernel
theorem d_X5_rank_7 : decode c_X5_rank 7 = .ok (.aload_n 1, 1) := by decide +kernel
theorem d_X5_rank_8 : decode c_X5_rank 8 = .ok (.getfield 72, 3) := by decide +kernel
theorem d_X5_rank_11 : decode c_X5_rank 11 = .ok (.iconst 2, 1) := by decide +kernel
theorem d_X5_rank_12 : decode c_X5_rank 12 = .ok (.if_icmp .ne 8, 3) := by decide +kernel
theorem d_X5_rank_15 : decode c_X5_rank 15 = .ok (.ldc 75, 2) := by decide +kernel
theorem d_X5_rank_17 : decode c_X5_rank 17 = .ok (.goto 4, 3) := by decide +kernel
theorem d_X5_rank_20 : decode c_X5_rank 20 = .ok (.iconst 0, 1) := by decide +kernel
theorem d_X5_rank_21 : decode c_X5_rank 21 = .ok (.iadd, 1) := by decide +kernel
theorem d_X5_rank_22 : decode c_X5_rank 22 = .ok (.ireturn, 1) := by decide +kernel
def f_X5_rank (v : tV) (si : Int32) (k : Nat) (k2 : Nat) (today : Int32) : Int32 := bnd (f_X3_keyOf v k2 si k today) fun x2 => bnd (v k 7) fun x5 => (if x5 = (2 : Int32) then bnd (x2 + (1000000 : Int32)) fun x11 => x11 else bnd (x2 + (0 : Int32)) fun x8 => x8)
set_option maxHeartbeats 4000000 in
set_option maxRecDepth 100000 in
theorem ct_X5_rank (l : Launch) (D : va_G) (dA : Nat → ClassId) (ad : Nat → Nat) (v : tV) (hI : Inv v) (si : Int32) (k : Nat) (k2 : Nat) (today : Int32) (ka : 100 ≤ k) (kb : k < 160) (k2a : 60 ≤ k2) (k2b : k2 < 69) : Met l m_X5_rank [.code m_X5_rank c_X5_rank 4 (some .int)] ({ frames := 2, cells := 0, slots := 0, locals := 63 } : Room) (tP D dA ad v [.int si, .ref (ad k), .ref (ad k2), .int today]) (tQi D dA ad (fun r v' => (v' = v) ∧ r = f_X5_rank v si k k2 today)) 0 0 (tA ad) := by
  refine tMet (by decide) (Nat.le_of_ble_eq_true rfl) ?_
  intro p e s m below meth c ls X hr hlocks hw hl
  have X : CX p s m ([.int si, .ref (ad k), .ref (ad k2), .int today] : List Value).toArray c c_X5_rank N_X5 4 D dA := X
  have hx := X.1
  have hb := X.2.1
  have hS : va_S (tA ad) s.heap s.heap [] := va_S.rf
  have hl : lv_has ls 4 [(0, .int si), (1, .ref (ad k)), (2, .ref (ad k2)), (3, .int today)] := hl
  obtain ⟨RR, eRR⟩ : ∃ z, f_X5_rank v si k k2 today = z := ⟨_, rfl⟩
  have hG := eRR
  unfold f_X5_rank at hG
  refine lv_aload_n hx hb d_X5_rank_0 rfl (lv_at hl 2 rfl) ?_
  refine lv_iload_n hx hb d_X5_rank_1 rfl (lv_at hl 0 rfl) ?_
  refine lv_aload_n hx hb d_X5_rank_2 rfl (lv_at hl 1 rfl) ?_
  refine lv_iload_n hx hb d_X5_rank_3 rfl (lv_at hl 3 rfl) ?_
  refine r_ci (r_runV (n := 3) (As := [.int si, .ref (ad k), .int today]) (rest := []) X hw (ct_X3_keyOf l D dA ad v hI k2 si k today (by omega) (by omega) (by omega) (by omega)) gc_X5_68 (KD_order (by omega) (by omega)) (by decide) rfl (by decide +kernel) ⟨rfl, rfl, Nat.le_of_ble_eq_true rfl, Nat.le_of_ble_eq_true rfl⟩ rfl hl.1 rfl (Nat.le_of_ble_eq_true rfl) ⟨Nat.zero_le _, Nat.zero_le _⟩ d_X5_rank_4) hS (fun x2 v3 H locs hp1 hw hS => ?_)
  obtain ⟨hp1, hE4⟩ := hp1
  rw [hp1] at hw
  have hG := bnd_use hE4 hG
  refine lv_aload_n hx hb d_X5_rank_7 rfl (lv_at hl 1 rfl) ?_
  refine r_geti X hw FL_X5_72 (KD_ship (by omega) (by omega)) (SH_ship (by omega) (by omega)) d_X5_rank_8 ?_
  refine lv_topi (fun x5 ex5 => ?_)
  have hG := bnd_use ex5 hG
  refine lv_iconst (v := 2) hx hb d_X5_rank_11 (by decide) ?_
  refine lv_icmp_ne (tgt := 20) hx hb d_X5_rank_12 (by decide) (fun c6 => ?_) (fun c6 => ?_)
  · have f7 := i_ne c6
    have hG := g_neg c6 hG
    refine lv_iconst (v := 0) hx hb d_X5_rank_20 (by decide) ?_
    refine lv_iadd hx hb d_X5_rank_21 ?_
    refine lv_topi (fun x8 ex8 => ?_)
    have hG := bnd_use ex8 hG
    exact r_iret X hr hlocks hw hS ⟨rfl, hG.trans eRR.symm⟩ d_X5_rank_22
  · have f9 := i_eq c6
    have r10 : Rg x5 2 2 := by obtain ⟨a1, a2⟩ := (rg_any x5); obtain ⟨b1, b2⟩ := (⟨by decide, by decide⟩ : Rg 2 2 2); have f := i_eq c6; exact ⟨by omega, by omega⟩
    have hG := g_pos c6 hG
    refine lv_ldc hx hb X.2.2.2.1 (X.2.2.2.2.1 _ kc_X5_75) d_X5_rank_15 ?_
    refine lv_goto (tgt := 21) hx hb d_X5_rank_17 (by decide) ?_
    refine lv_iadd hx hb d_X5_rank_21 ?_
    refine lv_topi (fun x11 ex11 => ?_)
    have hG := bnd_use ex11 hG
    exact r_iret X hr hlocks hw hS ⟨rfl, hG.trans eRR.symm⟩ d_X5_rank_22
theorem d_X5_insert_0 : decode c_X5_insert 0 = .ok (.aload_n 0, 1) := by decide +kernel
theorem d_X5_insert_1 : decode c_X5_insert 1 = .ok (.getfield 18, 3) := by decide +kernel
theorem d_X5_insert_4 : decode c_X5_insert 4 = .ok (.bipush 20, 2) := by decide +kernel
theorem d_X5_insert_6 : decode c_X5_insert 6 = .ok (.if_icmp .lt 4, 3) := by decide +kernel
theorem d_X5_insert_9 : decode c_X5_insert 9 = .ok (.return_, 1) := by decide +kernel
theorem d_X5_insert_10 : decode c_X5_insert 10 = .ok (.aload_n 0, 1) := by decide +kernel
theorem d_X5_insert_11 : decode c_X5_insert 11 = .ok (.getfield 18, 3) := by decide +kernel
theorem d_X5_insert_14 : decode c_X5_insert 14 = .ok (.istore_n 3, 1) := by decide +kernel
theorem d_X5_insert_15 : decode c_X5_insert 15 = .ok (.iload_n 3, 1) := by decide +kernel
theorem d_X5_insert_16 : decode c_X5_insert 16 = .ok (.ifCond .le 49, 3) := by decide +kernel
theorem d_X5_insert_19 : decode c_X5_insert 19 = .ok (.aload_n 0, 1) := by decide +kernel
theorem d_X5_insert_20 : decode c_X5_insert 20 = .ok (.getfield 15, 3) := by decide +kernel
theorem d_X5_insert_23 : decode c_X5_insert 23 = .ok (.iload_n 3, 1) := by decide +kernel
theorem d_X5_insert_24 : decode c_X5_insert 24 = .ok (.iconst 1, 1) := by decide +kernel
theorem d_X5_insert_25 : decode c_X5_insert 25 = .ok (.isub, 1) := by decide +kernel
theorem d_X5_insert_26 : decode c_X5_insert 26 = .ok (.iaload, 1) := by decide +kernel
theorem d_X5_insert_27 : decode c_X5_insert 27 = .ok (.iload_n 2, 1) := by decide +kernel
theorem d_X5_insert_28 : decode c_X5_insert 28 = .ok (.if_icmp .le 37, 3) := by decide +kernel
theorem d_X5_insert_31 : decode c_X5_insert 31 = .ok (.aload_n 0, 1) := by decide +kernel
theorem d_X5_insert_32 : decode c_X5_insert 32 = .ok (.getfield 9, 3) := by decide +kernel
theorem d_X5_insert_35 : decode c_X5_insert 35 = .ok (.iload_n 3, 1) := by decide +kernel
theorem d_X5_insert_36 : decode c_X5_insert 36 = .ok (.aload_n 0, 1) := by decide +kernel
theorem d_X5_insert_37 : decode c_X5_insert 37 = .ok (.getfield 9, 3) := by decide +kernel
theorem d_X5_insert_40 : decode c_X5_insert 40 = .ok (.iload_n 3, 1) := by decide +kernel
theorem d_X5_insert_41 : decode c_X5_insert 41 = .ok (.iconst 1, 1) := by decide +kernel
theorem d_X5_insert_42 : decode c_X5_insert 42 = .ok (.isub, 1) := by decide +kernel
theorem d_X5_insert_43 : decode c_X5_insert 43 = .ok (.iaload, 1) := by decide +kernel
theorem d_X5_insert_44 : decode c_X5_insert 44 = .ok (.iastore, 1) := by decide +kernel
theorem d_X5_insert_45 : decode c_X5_insert 45 = .ok (.aload_n 0, 1) := by decide +kernel
theorem d_X5_insert_46 : decode c_X5_insert 46 = .ok (.getfield 15, 3) := by decide +kernel
theorem d_X5_insert_49 : decode c_X5_insert 49 = .ok (.iload_n 3, 1) := by decide +kernel
theorem d_X5_insert_50 : decode c_X5_insert 50 = .ok (.aload_n 0, 1) := by decide +kernel
theorem d_X5_insert_51 : decode c_X5_insert 51 = .ok (.getfield 15, 3) := by decide +kernel
theorem d_X5_insert_54 : decode c_X5_insert 54 = .ok (.iload_n 3, 1) := by decide +kernel
theorem d_X5_insert_55 : decode c_X5_insert 55 = .ok (.iconst 1, 1) := by decide +kernel
theorem d_X5_insert_56 : decode c_X5_insert 56 = .ok (.isub, 1) := by decide +kernel
theorem d_X5_insert_57 : decode c_X5_insert 57 = .ok (.iaload, 1) := by decide +kernel
theorem d_X5_insert_58 : decode c_X5_insert 58 = .ok (.iastore, 1) := by decide +kernel
theorem d_X5_insert_59 : decode c_X5_insert 59 = .ok (.iinc 3 (-1), 3) := by decide +kernel
theorem d_X5_insert_62 : decode c_X5_insert 62 = .ok (.goto (-47), 3) := by decide +kernel
theorem d_X5_insert_65 : decode c_X5_insert 65 = .ok (.aload_n 0, 1) := by decide +kernel
theorem d_X5_insert_66 : decode c_X5_insert 66 = .ok (.getfield 9, 3) := by decide +kernel
theorem d_X5_insert_69 : decode c_X5_insert 69 = .ok (.iload_n 3, 1) := by decide +kernel
theorem d_X5_insert_70 : decode c_X5_insert 70 = .ok (.iload_n 1, 1) := by decide +kernel
theorem d_X5_insert_71 : decode c_X5_insert 71 = .ok (.iastore, 1) := by decide +kernel
theorem d_X5_insert_72 : decode c_X5_insert 72 = .ok (.aload_n 0, 1) := by decide +kernel
theorem d_X5_insert_73 : decode c_X5_insert 73 = .ok (.getfield 15, 3) := by decide +kernel
theorem d_X5_insert_76 : decode c_X5_insert 76 = .ok (.iload_n 3, 1) := by decide +kernel
theorem d_X5_insert_77 : decode c_X5_insert 77 = .ok (.iload_n 2, 1) := by decide +kernel
theorem d_X5_insert_78 : decode c_X5_insert 78 = .ok (.iastore, 1) := by decide +kernel
theorem d_X5_insert_79 : decode c_X5_insert 79 = .ok (.aload_n 0, 1) := by decide +kernel
theorem d_X5_insert_80 : decode c_X5_insert 80 = .ok (.dup, 1) := by decide +kernel
theorem d_X5_insert_81 : decode c_X5_insert 81 = .ok (.getfield 18, 3) := by decide +kernel
theorem d_X5_insert_84 : decode c_X5_insert 84 = .ok (.iconst 1, 1) := by decide +kernel
theorem d_X5_insert_85 : decode c_X5_insert 85 = .ok (.iadd, 1) := by decide +kernel
theorem d_X5_insert_86 : decode c_X5_insert 86 = .ok (.putfield 18, 3) := by decide +kernel
theorem d_X5_insert_89 : decode c_X5_insert 89 = .ok (.return_, 1) := by decide +kernel
def kp_X5_insert_20 (si : Int32) (rk : Int32) (a j : Nat) : Prop := a ≠ 20 ∧ a ≠ 22 ∧ a ≠ 24
def b_X5_insert_20_15 (si : Int32) (rk : Int32) (rc15 : Int32 → tV → tV) (y3 : Int32) (v1 : tV) : tV := bnd (v1 20 2) fun m0 => (if y3 ≤ (0 : Int32) then bnd (up2 v1 22 (y3.toNatClampNeg) si) fun v4 => bnd (up2 v4 24 (y3.toNatClampNeg) rk) fun v8 => bnd (m0 + (1 : Int32)) fun x12 => bnd (up2 v8 20 2 x12) fun v15 => v15 else bnd (y3 - (1 : Int32)) fun x21 => bnd (v1 24 x21.toNatClampNeg) fun x24 => (if x24 ≤ rk then bnd (up2 v1 22 (y3.toNatClampNeg) si) fun v27 => bnd (up2 v27 24 (y3.toNatClampNeg) rk) fun v31 => bnd (m0 + (1 : Int32)) fun x35 => bnd (up2 v31 20 2 x35) fun v38 => v38 else bnd (y3 - (1 : Int32)) fun x43 => bnd (v1 22 x43.toNatClampNeg) fun x46 => bnd (up2 v1 22 (y3.toNatClampNeg) x46) fun v48 => bnd (y3 - (1 : Int32)) fun x52 => bnd (v48 24 x52.toNatClampNeg) fun x55 => bnd (up2 v48 24 (y3.toNatClampNeg) x55) fun v56 => bnd (y3 + -1) fun x60 => rc15 x60 v56))
def g_X5_insert_20_15 (si : Int32) (rk : Int32) : Nat → Int32 → tV → tV
  | 0, _, v1 => v1
  | n + 1, y3, v1 => b_X5_insert_20_15 si rk (g_X5_insert_20_15 si rk n) y3 v1
def f_X5_insert_20 (v : tV) (si : Int32) (rk : Int32) : tV := bnd (v 20 2) fun x63 => (if x63 < (20 : Int32) then g_X5_insert_20_15 si rk 100000 x63 v else v)
set_option maxHeartbeats 4000000 in
set_option maxRecDepth 100000 in
theorem ct_X5_insert_20 (l : Launch) (D : va_G) (dA : Nat → ClassId) (ad : Nat → Nat) (v : tV) (hI : Inv v) (si : Int32) (rk : Int32) (r_si : Rg si 0 19) : Met l m_X5_insert [.code m_X5_insert c_X5_insert 4 none] ({ frames := 1, cells := 0, slots := 0, locals := 40 } : Room) (tP D dA ad v [.ref (ad 20), .int si, .int rk]) (tQv D dA ad (fun v' => (Inv v' ∧ Kp (kp_X5_insert_20 si rk) v v') ∧ v' = f_X5_insert_20 v si rk)) 0 0 (tA ad) := by
  refine tMet (by decide) (Nat.le_of_ble_eq_true rfl) ?_
  intro p e s m below meth c ls X hr hlocks hw hl
  have X : CX p s m ([.ref (ad 20), .int si, .int rk] : List Value).toArray c c_X5_insert N_X5 4 D dA := X
  have hx := X.1
  have hb := X.2.1
  have hS : va_S (tA ad) s.heap s.heap [] := va_S.rf
  have hl : lv_has ls 4 [(0, .ref (ad 20)), (1, .int si), (2, .int rk)] := hl
  obtain ⟨RR, eRR⟩ : ∃ z, f_X5_insert_20 v si rk = z := ⟨_, rfl⟩
  have LL : ∀ n : Nat, (∀ (y3 : Int32) (m0 : Int32) (v1 : tV) (H : Heap) (locs : List Loc) (ls : Array Slot), y3.toInt.toNat < n → Rg y3 0 19 → Rg m0 0 19 → Inv v1 → Kp (kp_X5_insert_20 si rk) v v1 → v1 20 2 = m0 → g_X5_insert_20_15 si rk n y3 v1 = RR → tI D dA ad v1 H → va_S (tA ad) s.heap H locs → lv_has ls 4 [(0, .ref (ad 20)), (1, .int si), (2, .int rk), (3, .int y3)] → W p l e ({ frames := 1, cells := 0, slots := 0, locals := 40 } : Room) s m ([.ref (ad 20), .int si, .int rk] : List Value).toArray below meth c H locs 0 0 (MQ below (tQv D dA ad (fun v' => (Inv v' ∧ Kp (kp_X5_insert_20 si rk) v v') ∧ v' = f_X5_insert_20 v si rk)) ([.ref (ad 20), .int si, .int rk] : List Value).toArray s 0 0 (tA ad)) (F0 m 15 ls [])) := by
    intro n
    induction n with
    | zero => intros; omega
    | succ n ih =>
      have ih0 := ih
      intro y3 m0 v1 H locs ls hmu r_y3 r_m0 hI1 hK1 h_m0 hG hw hS hl
      have hG : b_X5_insert_20_15 si rk (g_X5_insert_20_15 si rk n) y3 v1 = RR := hG
      unfold b_X5_insert_20_15 at hG
      have hG := bnd_use h_m0.symm hG
      refine lv_iload_n hx hb d_X5_insert_15 rfl (lv_at hl 3 rfl) ?_
      refine lv_if_le (tgt := 65) hx hb d_X5_insert_16 (by decide) (fun c1 => ?_) (fun c1 => ?_)
      · have f2 := i_le c1
        have r3 : Rg y3 0 0 := by obtain ⟨a1, a2⟩ := r_y3; obtain ⟨b1, b2⟩ := (⟨by decide, by decide⟩ : Rg 0 0 0); have f := i_le c1; exact ⟨by omega, by omega⟩
        have hG := g_pos c1 hG
        refine lv_aload_n hx hb d_X5_insert_65 rfl (lv_at hl 0 rfl) ?_
        refine r_getr (r := 22) X hw FL_X5_9 (rfl : KD 20 = _) rfl d_X5_insert_66 ?_
        refine lv_iload_n hx hb d_X5_insert_69 rfl (lv_at hl 3 rfl) ?_
        refine lv_iload_n hx hb d_X5_insert_70 rfl (lv_at hl 1 rfl) ?_
        refine r_iast X hw hS (rfl : KD 22 = _) (Rg.vp (b := 0) r3 (by decide)) rfl d_X5_insert_71 (fun H locs hw hS => ?_)
        obtain ⟨v4, ev4⟩ : ∃ z, z = up2 v1 22 y3.toNatClampNeg si := ⟨_, rfl⟩
        rw [← ev4] at hw
        have hG := bnd_use ev4 hG
        have hI5 : Inv v4 := by rw [ev4]; exact Inv.putr hI1 rfl r_si
        have hK6 : Kp (kp_X5_insert_20 si rk) v v4 := by rw [ev4]; exact Kp.put hK1 _ (by unfold kp_X5_insert_20; omega)
        have hm7 : v4 20 2 = m0 := by rw [ev4, up2_n _ _ (by omega)]; exact h_m0
        refine lv_aload_n hx hb d_X5_insert_72 rfl (lv_at hl 0 rfl) ?_
        refine r_getr (r := 24) X hw FL_X5_15 (rfl : KD 20 = _) rfl d_X5_insert_73 ?_
        refine lv_iload_n hx hb d_X5_insert_76 rfl (lv_at hl 3 rfl) ?_
        refine lv_iload_n hx hb d_X5_insert_77 rfl (lv_at hl 2 rfl) ?_
        refine r_iast X hw hS (rfl : KD 24 = _) (Rg.vp (b := 0) r3 (by decide)) rfl d_X5_insert_78 (fun H locs hw hS => ?_)
        obtain ⟨v8, ev8⟩ : ∃ z, z = up2 v4 24 y3.toNatClampNeg rk := ⟨_, rfl⟩
        rw [← ev8] at hw
        have hG := bnd_use ev8 hG
        have hI9 : Inv v8 := by rw [ev8]; exact Inv.put0 hI5 _ rfl
        have hK10 : Kp (kp_X5_insert_20 si rk) v v8 := by rw [ev8]; exact Kp.put hK6 _ (by unfold kp_X5_insert_20; omega)
        have hm11 : v8 20 2 = m0 := by rw [ev8, up2_n _ _ (by omega)]; exact hm7
        refine lv_aload_n hx hb d_X5_insert_79 rfl (lv_at hl 0 rfl) ?_
        refine lv_dup hx hb d_X5_insert_80 rfl ?_
        refine r_geti X hw FL_X5_18 (rfl : KD 20 = _) rfl d_X5_insert_81 ?_
        rw [hm11]
        refine lv_iconst (v := 1) hx hb d_X5_insert_84 (by decide) ?_
        refine lv_iadd hx hb d_X5_insert_85 ?_
        refine lv_topi (fun x12 ex12 => ?_)
        have hG := bnd_use ex12 hG
        have r13 : Rg x12 1 20 := rg_add ex12 r_m0 (⟨by decide, by decide⟩ : Rg 1 1 1) (by decide) (by decide)
        have s14 : x12.toInt = m0.toInt + (1 : Int32).toInt := by rw [ex12]; exact i_add (by obtain ⟨_, _⟩ := r_m0; obtain ⟨_, _⟩ := (⟨by decide, by decide⟩ : Rg 1 1 1); omega) (by obtain ⟨_, _⟩ := r_m0; obtain ⟨_, _⟩ := (⟨by decide, by decide⟩ : Rg 1 1 1); omega)
        have s14l : (1 : Int32).toInt = 1 := rfl
        refine r_put X hw hS FP_X5_18 (rfl : KD 20 = _) rfl ⟨rfl, rfl⟩ d_X5_insert_86 (fun H locs hw hS => ?_)
        obtain ⟨v15, ev15⟩ : ∃ z, z = up2 v8 20 2 x12 := ⟨_, rfl⟩
        rw [← ev15] at hw
        have hG := bnd_use ev15 hG
        have hI16 : Inv v15 := by rw [ev15]; exact Inv.putr hI9 rfl (rg_w r13 (by decide) (by decide))
        have hK17 : Kp (kp_X5_insert_20 si rk) v v15 := by rw [ev15]; exact Kp.put hK10 _ (by unfold kp_X5_insert_20; omega)
        have hm18 : v15 20 2 = x12 := by rw [ev15, up2_s]
        exact r_vret X hr hlocks hw hS ⟨⟨hI16, hK17⟩, hG.trans eRR.symm⟩ d_X5_insert_89
      · have f19 := i_nle c1
        have r20 : Rg y3 1 19 := by obtain ⟨a1, a2⟩ := r_y3; obtain ⟨b1, b2⟩ := (⟨by decide, by decide⟩ : Rg 0 0 0); have f := i_nle c1; exact ⟨by omega, by omega⟩
        have hG := g_neg c1 hG
        refine lv_aload_n hx hb d_X5_insert_19 rfl (lv_at hl 0 rfl) ?_
        refine r_getr (r := 24) X hw FL_X5_15 (rfl : KD 20 = _) rfl d_X5_insert_20 ?_
        refine lv_iload_n hx hb d_X5_insert_23 rfl (lv_at hl 3 rfl) ?_
        refine lv_iconst (v := 1) hx hb d_X5_insert_24 (by decide) ?_
        refine lv_isub hx hb d_X5_insert_25 ?_
        refine lv_topi (fun x21 ex21 => ?_)
        have hG := bnd_use ex21 hG
        have r22 : Rg x21 0 18 := rg_sub ex21 r20 (⟨by decide, by decide⟩ : Rg 1 1 1) (by decide) (by decide)
        have s23 : x21.toInt = y3.toInt - (1 : Int32).toInt := by rw [ex21]; exact i_sub (by obtain ⟨_, _⟩ := r20; obtain ⟨_, _⟩ := (⟨by decide, by decide⟩ : Rg 1 1 1); omega) (by obtain ⟨_, _⟩ := r20; obtain ⟨_, _⟩ := (⟨by decide, by decide⟩ : Rg 1 1 1); omega)
        have s23l : (1 : Int32).toInt = 1 := rfl
        refine r_iald X hw (rfl : KD 24 = _) (Rg.vp (b := 18) r22 (by decide)) rfl d_X5_insert_26 ?_
        refine lv_topi (fun x24 ex24 => ?_)
        have hG := bnd_use ex24 hG
        refine lv_iload_n hx hb d_X5_insert_27 rfl (lv_at hl 2 rfl) ?_
        refine lv_icmp_le (tgt := 65) hx hb d_X5_insert_28 (by decide) (fun c25 => ?_) (fun c25 => ?_)
        · have f26 := i_le c25
          have hG := g_pos c25 hG
          refine lv_aload_n hx hb d_X5_insert_65 rfl (lv_at hl 0 rfl) ?_
          refine r_getr (r := 22) X hw FL_X5_9 (rfl : KD 20 = _) rfl d_X5_insert_66 ?_
          refine lv_iload_n hx hb d_X5_insert_69 rfl (lv_at hl 3 rfl) ?_
          refine lv_iload_n hx hb d_X5_insert_70 rfl (lv_at hl 1 rfl) ?_
          refine r_iast X hw hS (rfl : KD 22 = _) (Rg.vp (b := 19) (rg_w r20 (by decide) (by decide)) (by decide)) rfl d_X5_insert_71 (fun H locs hw hS => ?_)
          obtain ⟨v27, ev27⟩ : ∃ z, z = up2 v1 22 y3.toNatClampNeg si := ⟨_, rfl⟩
          rw [← ev27] at hw
          have hG := bnd_use ev27 hG
          have hI28 : Inv v27 := by rw [ev27]; exact Inv.putr hI1 rfl r_si
          have hK29 : Kp (kp_X5_insert_20 si rk) v v27 := by rw [ev27]; exact Kp.put hK1 _ (by unfold kp_X5_insert_20; omega)
          have hm30 : v27 20 2 = m0 := by rw [ev27, up2_n _ _ (by omega)]; exact h_m0
          refine lv_aload_n hx hb d_X5_insert_72 rfl (lv_at hl 0 rfl) ?_
          refine r_getr (r := 24) X hw FL_X5_15 (rfl : KD 20 = _) rfl d_X5_insert_73 ?_
          refine lv_iload_n hx hb d_X5_insert_76 rfl (lv_at hl 3 rfl) ?_
          refine lv_iload_n hx hb d_X5_insert_77 rfl (lv_at hl 2 rfl) ?_
          refine r_iast X hw hS (rfl : KD 24 = _) (Rg.vp (b := 19) (rg_w r20 (by decide) (by decide)) (by decide)) rfl d_X5_insert_78 (fun H locs hw hS => ?_)
          obtain ⟨v31, ev31⟩ : ∃ z, z = up2 v27 24 y3.toNatClampNeg rk := ⟨_, rfl⟩
          rw [← ev31] at hw
          have hG := bnd_use ev31 hG
          have hI32 : Inv v31 := by rw [ev31]; exact Inv.put0 hI28 _ rfl
          have hK33 : Kp (kp_X5_insert_20 si rk) v v31 := by rw [ev31]; exact Kp.put hK29 _ (by unfold kp_X5_insert_20; omega)
          have hm34 : v31 20 2 = m0 := by rw [ev31, up2_n _ _ (by omega)]; exact hm30
          refine lv_aload_n hx hb d_X5_insert_79 rfl (lv_at hl 0 rfl) ?_
          refine lv_dup hx hb d_X5_insert_80 rfl ?_
          refine r_geti X hw FL_X5_18 (rfl : KD 20 = _) rfl d_X5_insert_81 ?_
          rw [hm34]
          refine lv_iconst (v := 1) hx hb d_X5_insert_84 (by decide) ?_
          refine lv_iadd hx hb d_X5_insert_85 ?_
          refine lv_topi (fun x35 ex35 => ?_)
          have hG := bnd_use ex35 hG
          have r36 : Rg x35 1 20 := rg_add ex35 r_m0 (⟨by decide, by decide⟩ : Rg 1 1 1) (by decide) (by decide)
          have s37 : x35.toInt = m0.toInt + (1 : Int32).toInt := by rw [ex35]; exact i_add (by obtain ⟨_, _⟩ := r_m0; obtain ⟨_, _⟩ := (⟨by decide, by decide⟩ : Rg 1 1 1); omega) (by obtain ⟨_, _⟩ := r_m0; obtain ⟨_, _⟩ := (⟨by decide, by decide⟩ : Rg 1 1 1); omega)
          have s37l : (1 : Int32).toInt = 1 := rfl
          refine r_put X hw hS FP_X5_18 (rfl : KD 20 = _) rfl ⟨rfl, rfl⟩ d_X5_insert_86 (fun H locs hw hS => ?_)
          obtain ⟨v38, ev38⟩ : ∃ z, z = up2 v31 20 2 x35 := ⟨_, rfl⟩
          rw [← ev38] at hw
          have hG := bnd_use ev38 hG
          have hI39 : Inv v38 := by rw [ev38]; exact Inv.putr hI32 rfl (rg_w r36 (by decide) (by decide))
          have hK40 : Kp (kp_X5_insert_20 si rk) v v38 := by rw [ev38]; exact Kp.put hK33 _ (by unfold kp_X5_insert_20; omega)
          have hm41 : v38 20 2 = x35 := by rw [ev38, up2_s]
          exact r_vret X hr hlocks hw hS ⟨⟨hI39, hK40⟩, hG.trans eRR.symm⟩ d_X5_insert_89
        · have f42 := i_nle c25
          have hG := g_neg c25 hG
          refine lv_aload_n hx hb d_X5_insert_31 rfl (lv_at hl 0 rfl) ?_
          refine r_getr (r := 22) X hw FL_X5_9 (rfl : KD 20 = _) rfl d_X5_insert_32 ?_
          refine lv_iload_n hx hb d_X5_insert_35 rfl (lv_at hl 3 rfl) ?_
          refine lv_aload_n hx hb d_X5_insert_36 rfl (lv_at hl 0 rfl) ?_
          refine r_getr (r := 22) X hw FL_X5_9 (rfl : KD 20 = _) rfl d_X5_insert_37 ?_
          refine lv_iload_n hx hb d_X5_insert_40 rfl (lv_at hl 3 rfl) ?_
          refine lv_iconst (v := 1) hx hb d_X5_insert_41 (by decide) ?_
          refine lv_isub hx hb d_X5_insert_42 ?_
          refine lv_topi (fun x43 ex43 => ?_)
          have hG := bnd_use ex43 hG
          have r44 : Rg x43 0 18 := rg_sub ex43 r20 (⟨by decide, by decide⟩ : Rg 1 1 1) (by decide) (by decide)
          have s45 : x43.toInt = y3.toInt - (1 : Int32).toInt := by rw [ex43]; exact i_sub (by obtain ⟨_, _⟩ := r20; obtain ⟨_, _⟩ := (⟨by decide, by decide⟩ : Rg 1 1 1); omega) (by obtain ⟨_, _⟩ := r20; obtain ⟨_, _⟩ := (⟨by decide, by decide⟩ : Rg 1 1 1); omega)
          have s45l : (1 : Int32).toInt = 1 := rfl
          refine r_iald X hw (rfl : KD 22 = _) (Rg.vp (b := 18) r44 (by decide)) rfl d_X5_insert_43 ?_
          refine lv_topi (fun x46 ex46 => ?_)
          have hG := bnd_use ex46 hG
          have r47 : Rg x46 0 19 := by rw [ex46]; exact hI1 _ _ _ _ rfl
          refine r_iast X hw hS (rfl : KD 22 = _) (Rg.vp (b := 19) (rg_w r20 (by decide) (by decide)) (by decide)) rfl d_X5_insert_44 (fun H locs hw hS => ?_)
          obtain ⟨v48, ev48⟩ : ∃ z, z = up2 v1 22 y3.toNatClampNeg x46 := ⟨_, rfl⟩
          rw [← ev48] at hw
          have hG := bnd_use ev48 hG
          have hI49 : Inv v48 := by rw [ev48]; exact Inv.putr hI1 rfl r47
          have hK50 : Kp (kp_X5_insert_20 si rk) v v48 := by rw [ev48]; exact Kp.put hK1 _ (by unfold kp_X5_insert_20; omega)
          have hm51 : v48 20 2 = m0 := by rw [ev48, up2_n _ _ (by omega)]; exact h_m0
          refine lv_aload_n hx hb d_X5_insert_45 rfl (lv_at hl 0 rfl) ?_
          refine r_getr (r := 24) X hw FL_X5_15 (rfl : KD 20 = _) rfl d_X5_insert_46 ?_
          refine lv_iload_n hx hb d_X5_insert_49 rfl (lv_at hl 3 rfl) ?_
          refine lv_aload_n hx hb d_X5_insert_50 rfl (lv_at hl 0 rfl) ?_
          refine r_getr (r := 24) X hw FL_X5_15 (rfl : KD 20 = _) rfl d_X5_insert_51 ?_
          refine lv_iload_n hx hb d_X5_insert_54 rfl (lv_at hl 3 rfl) ?_
          refine lv_iconst (v := 1) hx hb d_X5_insert_55 (by decide) ?_
          refine lv_isub hx hb d_X5_insert_56 ?_
          refine lv_topi (fun x52 ex52 => ?_)
          have hG := bnd_use ex52 hG
          have r53 : Rg x52 0 18 := rg_sub ex52 r20 (⟨by decide, by decide⟩ : Rg 1 1 1) (by decide) (by decide)
          have s54 : x52.toInt = y3.toInt - (1 : Int32).toInt := by rw [ex52]; exact i_sub (by obtain ⟨_, _⟩ := r20; obtain ⟨_, _⟩ := (⟨by decide, by decide⟩ : Rg 1 1 1); omega) (by obtain ⟨_, _⟩ := r20; obtain ⟨_, _⟩ := (⟨by decide, by decide⟩ : Rg 1 1 1); omega)
          have s54l : (1 : Int32).toInt = 1 := rfl
          refine r_iald X hw (rfl : KD 24 = _) (Rg.vp (b := 18) r53 (by decide)) rfl d_X5_insert_57 ?_
          refine lv_topi (fun x55 ex55 => ?_)
          have hG := bnd_use ex55 hG
          refine r_iast X hw hS (rfl : KD 24 = _) (Rg.vp (b := 19) (rg_w r20 (by decide) (by decide)) (by decide)) rfl d_X5_insert_58 (fun H locs hw hS => ?_)
          obtain ⟨v56, ev56⟩ : ∃ z, z = up2 v48 24 y3.toNatClampNeg x55 := ⟨_, rfl⟩
          rw [← ev56] at hw
          have hG := bnd_use ev56 hG
          have hI57 : Inv v56 := by rw [ev56]; exact Inv.put0 hI49 _ rfl
          have hK58 : Kp (kp_X5_insert_20 si rk) v v56 := by rw [ev56]; exact Kp.put hK50 _ (by unfold kp_X5_insert_20; omega)
          have hm59 : v56 20 2 = m0 := by rw [ev56, up2_n _ _ (by omega)]; exact hm51
          obtain ⟨x60, ex60⟩ : ∃ y : Int32, y = y3 + -1 := ⟨_, rfl⟩
          have hG := bnd_use ex60 hG
          refine lv_iinc (v := x60) (lv' := [(3, .int x60), (0, .ref (ad 20)), (1, .int si), (2, .int rk)]) hx hb d_X5_insert_59 hl (k := 3) rfl (by rw [ex60]; rfl) (by decide) rfl (fun ls hl => ?_)
          have r61 : Rg x60 0 18 := rg_add ex60 r20 (⟨by decide, by decide⟩ : Rg (-1) (-1) (-1)) (by decide) (by decide)
          have s62 : x60.toInt = y3.toInt + (-1 : Int32).toInt := by rw [ex60]; exact i_add (by obtain ⟨_, _⟩ := r20; obtain ⟨_, _⟩ := (⟨by decide, by decide⟩ : Rg (-1) (-1) (-1)); omega) (by obtain ⟨_, _⟩ := r20; obtain ⟨_, _⟩ := (⟨by decide, by decide⟩ : Rg (-1) (-1) (-1)); omega)
          have s62l : (-1 : Int32).toInt = (-1) := rfl
          refine lv_goto (tgt := 15) hx hb d_X5_insert_62 (by decide) ?_
          exact ih0 x60 m0 v56 _ _ _ (by have := s23; have := s45; have := s54; have := s62; obtain ⟨_, _⟩ := r61; omega) (rg_w r61 (by decide) (by decide)) r_m0 hI57 hK58 hm59 hG hw hS (lv_sub hl [1, 2, 3, 0] rfl)
  have ih0 := LL 100000
  have hK0 : Kp (kp_X5_insert_20 si rk) v v := Kp.rf _ v
  have hG := eRR
  unfold f_X5_insert_20 at hG
  refine lv_aload_n hx hb d_X5_insert_0 rfl (lv_at hl 0 rfl) ?_
  refine r_geti X hw FL_X5_18 (rfl : KD 20 = _) rfl d_X5_insert_1 ?_
  refine lv_topi (fun x63 ex63 => ?_)
  have hG := bnd_use ex63 hG
  have r64 : Rg x63 0 20 := by rw [ex63]; exact hI _ _ _ _ rfl
  have hm65 : v 20 2 = x63 := ex63.symm
  refine lv_bipush (v := 20) hx hb d_X5_insert_4 (by decide) ?_
  refine lv_icmp_lt (tgt := 10) hx hb d_X5_insert_6 (by decide) (fun c66 => ?_) (fun c66 => ?_)
  · have f67 := i_lt c66
    have r68 : Rg x63 0 19 := by obtain ⟨a1, a2⟩ := r64; obtain ⟨b1, b2⟩ := (⟨by decide, by decide⟩ : Rg 20 20 20); have f := i_lt c66; exact ⟨by omega, by omega⟩
    have hG := g_pos c66 hG
    refine lv_aload_n hx hb d_X5_insert_10 rfl (lv_at hl 0 rfl) ?_
    refine r_geti X hw FL_X5_18 (rfl : KD 20 = _) rfl d_X5_insert_11 ?_
    rw [hm65]
    refine lv_istore_n (lv' := [(3, .int x63), (0, .ref (ad 20)), (1, .int si), (2, .int rk)]) hx hb d_X5_insert_14 rfl hl (by decide) rfl (fun ls hl => ?_)
    exact ih0 x63 x63 v _ _ _ (by obtain ⟨_, _⟩ := r68; omega) r68 r68 hI hK0 hm65 hG hw hS (lv_sub hl [1, 2, 3, 0] rfl)
  · have f69 := i_nlt c66
    have r70 : Rg x63 20 20 := by obtain ⟨a1, a2⟩ := r64; obtain ⟨b1, b2⟩ := (⟨by decide, by decide⟩ : Rg 20 20 20); have f := i_nlt c66; exact ⟨by omega, by omega⟩
    have hG := g_neg c66 hG
    exact r_vret X hr hlocks hw hS ⟨⟨hI, hK0⟩, hG.trans eRR.symm⟩ d_X5_insert_9
def kp_X5_insert_21 (si : Int32) (rk : Int32) (a j : Nat) : Prop := a ≠ 21 ∧ a ≠ 23 ∧ a ≠ 25
def b_X5_insert_21_15 (si : Int32) (rk : Int32) (rc15 : Int32 → tV → tV) (y3 : Int32) (v1 : tV) : tV := bnd (v1 21 2) fun m0 => (if y3 ≤ (0 : Int32) then bnd (up2 v1 23 (y3.toNatClampNeg) si) fun v4 => bnd (up2 v4 25 (y3.toNatClampNeg) rk) fun v8 => bnd (m0 + (1 : Int32)) fun x12 => bnd (up2 v8 21 2 x12) fun v15 => v15 else bnd (y3 - (1 : Int32)) fun x21 => bnd (v1 25 x21.toNatClampNeg) fun x24 => (if x24 ≤ rk then bnd (up2 v1 23 (y3.toNatClampNeg) si) fun v27 => bnd (up2 v27 25 (y3.toNatClampNeg) rk) fun v31 => bnd (m0 + (1 : Int32)) fun x35 => bnd (up2 v31 21 2 x35) fun v38 => v38 else bnd (y3 - (1 : Int32)) fun x43 => bnd (v1 23 x43.toNatClampNeg) fun x46 => bnd (up2 v1 23 (y3.toNatClampNeg) x46) fun v48 => bnd (y3 - (1 : Int32)) fun x52 => bnd (v48 25 x52.toNatClampNeg) fun x55 => bnd (up2 v48 25 (y3.toNatClampNeg) x55) fun v56 => bnd (y3 + -1) fun x60 => rc15 x60 v56))
def g_X5_insert_21_15 (si : Int32) (rk : Int32) : Nat → Int32 → tV → tV
  | 0, _, v1 => v1
  | n + 1, y3, v1 => b_X5_insert_21_15 si rk (g_X5_insert_21_15 si rk n) y3 v1
def f_X5_insert_21 (v : tV) (si : Int32) (rk : Int32) : tV := bnd (v 21 2) fun x63 => (if x63 < (20 : Int32) then g_X5_insert_21_15 si rk 100000 x63 v else v)
set_option maxHeartbeats 4000000 in
set_option maxRecDepth 100000 in
theorem ct_X5_insert_21 (l : Launch) (D : va_G) (dA : Nat → ClassId) (ad : Nat → Nat) (v : tV) (hI : Inv v) (si : Int32) (rk : Int32) (r_si : Rg si 0 19) : Met l m_X5_insert [.code m_X5_insert c_X5_insert 4 none] ({ frames := 1, cells := 0, slots := 0, locals := 40 } : Room) (tP D dA ad v [.ref (ad 21), .int si, .int rk]) (tQv D dA ad (fun v' => (Inv v' ∧ Kp (kp_X5_insert_21 si rk) v v') ∧ v' = f_X5_insert_21 v si rk)) 0 0 (tA ad) := by
  refine tMet (by decide) (Nat.le_of_ble_eq_true rfl) ?_
  intro p e s m below meth c ls X hr hlocks hw hl
  have X : CX p s m ([.ref (ad 21), .int si, .int rk] : List Value).toArray c c_X5_insert N_X5 4 D dA := X
  have hx := X.1
  have hb := X.2.1
  have hS : va_S (tA ad) s.heap s.heap [] := va_S.rf
  have hl : lv_has ls 4 [(0, .ref (ad 21)), (1, .int si), (2, .int rk)] := hl
  obtain ⟨RR, eRR⟩ : ∃ z, f_X5_insert_21 v si rk = z := ⟨_, rfl⟩
  have LL : ∀ n : Nat, (∀ (y3 : Int32) (m0 : Int32) (v1 : tV) (H : Heap) (locs : List Loc) (ls : Array Slot), y3.toInt.toNat < n → Rg y3 0 19 → Rg m0 0 19 → Inv v1 → Kp (kp_X5_insert_21 si rk) v v1 → v1 21 2 = m0 → g_X5_insert_21_15 si rk n y3 v1 = RR → tI D dA ad v1 H → va_S (tA ad) s.heap H locs → lv_has ls 4 [(0, .ref (ad 21)), (1, .int si), (2, .int rk), (3, .int y3)] → W p l e ({ frames := 1, cells := 0, slots := 0, locals := 40 } : Room) s m ([.ref (ad 21), .int si, .int rk] : List Value).toArray below meth c H locs 0 0 (MQ below (tQv D dA ad (fun v' => (Inv v' ∧ Kp (kp_X5_insert_21 si rk) v v') ∧ v' = f_X5_insert_21 v si rk)) ([.ref (ad 21), .int si, .int rk] : List Value).toArray s 0 0 (tA ad)) (F0 m 15 ls [])) := by
    intro n
    induction n with
    | zero => intros; omega
    | succ n ih =>
      have ih0 := ih
      intro y3 m0 v1 H locs ls hmu r_y3 r_m0 hI1 hK1 h_m0 hG hw hS hl
      have hG : b_X5_insert_21_15 si rk (g_X5_insert_21_15 si rk n) y3 v1 = RR := hG
      unfold b_X5_insert_21_15 at hG
      have hG := bnd_use h_m0.symm hG
      refine lv_iload_n hx hb d_X5_insert_15 rfl (lv_at hl 3 rfl) ?_
      refine lv_if_le (tgt := 65) hx hb d_X5_insert_16 (by decide) (fun c1 => ?_) (fun c1 => ?_)
      · have f2 := i_le c1
        have r3 : Rg y3 0 0 := by obtain ⟨a1, a2⟩ := r_y3; obtain ⟨b1, b2⟩ := (⟨by decide, by decide⟩ : Rg 0 0 0); have f := i_le c1; exact ⟨by omega, by omega⟩
        have hG := g_pos c1 hG
        refine lv_aload_n hx hb d_X5_insert_65 rfl (lv_at hl 0 rfl) ?_
        refine r_getr (r := 23) X hw FL_X5_9 (rfl : KD 21 = _) rfl d_X5_insert_66 ?_
        refine lv_iload_n hx hb d_X5_insert_69 rfl (lv_at hl 3 rfl) ?_
        refine lv_iload_n hx hb d_X5_insert_70 rfl (lv_at hl 1 rfl) ?_
        refine r_iast X hw hS (rfl : KD 23 = _) (Rg.vp (b := 0) r3 (by decide)) rfl d_X5_insert_71 (fun H locs hw hS => ?_)
        obtain ⟨v4, ev4⟩ : ∃ z, z = up2 v1 23 y3.toNatClampNeg si := ⟨_, rfl⟩
        rw [← ev4] at hw
        have hG := bnd_use ev4 hG
        have hI5 : Inv v4 := by rw [ev4]; exact Inv.putr hI1 rfl r_si
        have hK6 : Kp (kp_X5_insert_21 si rk) v v4 := by rw [ev4]; exact Kp.put hK1 _ (by unfold kp_X5_insert_21; omega)
        have hm7 : v4 21 2 = m0 := by rw [ev4, up2_n _ _ (by omega)]; exact h_m0
        refine lv_aload_n hx hb d_X5_insert_72 rfl (lv_at hl 0 rfl) ?_
        refine r_getr (r := 25) X hw FL_X5_15 (rfl : KD 21 = _) rfl d_X5_insert_73 ?_
        refine lv_iload_n hx hb d_X5_insert_76 rfl (lv_at hl 3 rfl) ?_
        refine lv_iload_n hx hb d_X5_insert_77 rfl (lv_at hl 2 rfl) ?_
        refine r_iast X hw hS (rfl : KD 25 = _) (Rg.vp (b := 0) r3 (by decide)) rfl d_X5_insert_78 (fun H locs hw hS => ?_)
        obtain ⟨v8, ev8⟩ : ∃ z, z = up2 v4 25 y3.toNatClampNeg rk := ⟨_, rfl⟩
        rw [← ev8] at hw
        have hG := bnd_use ev8 hG
        have hI9 : Inv v8 := by rw [ev8]; exact Inv.put0 hI5 _ rfl
        have hK10 : Kp (kp_X5_insert_21 si rk) v v8 := by rw [ev8]; exact Kp.put hK6 _ (by unfold kp_X5_insert_21; omega)
        have hm11 : v8 21 2 = m0 := by rw [ev8, up2_n _ _ (by omega)]; exact hm7
        refine lv_aload_n hx hb d_X5_insert_79 rfl (lv_at hl 0 rfl) ?_
        refine lv_dup hx hb d_X5_insert_80 rfl ?_
        refine r_geti X hw FL_X5_18 (rfl : KD 21 = _) rfl d_X5_insert_81 ?_
        rw [hm11]
        refine lv_iconst (v := 1) hx hb d_X5_insert_84 (by decide) ?_
        refine lv_iadd hx hb d_X5_insert_85 ?_
        refine lv_topi (fun x12 ex12 => ?_)
        have hG := bnd_use ex12 hG
        have r13 : Rg x12 1 20 := rg_add ex12 r_m0 (⟨by decide, by decide⟩ : Rg 1 1 1) (by decide) (by decide)
        have s14 : x12.toInt = m0.toInt + (1 : Int32).toInt := by rw [ex12]; exact i_add (by obtain ⟨_, _⟩ := r_m0; obtain ⟨_, _⟩ := (⟨by decide, by decide⟩ : Rg 1 1 1); omega) (by obtain ⟨_, _⟩ := r_m0; obtain ⟨_, _⟩ := (⟨by decide, by decide⟩ : Rg 1 1 1); omega)
        have s14l : (1 : Int32).toInt = 1 := rfl
        refine r_put X hw hS FP_X5_18 (rfl : KD 21 = _) rfl ⟨rfl, rfl⟩ d_X5_insert_86 (fun H locs hw hS => ?_)
        obtain ⟨v15, ev15⟩ : ∃ z, z = up2 v8 21 2 x12 := ⟨_, rfl⟩
        rw [← ev15] at hw
        have hG := bnd_use ev15 hG
        have hI16 : Inv v15 := by rw [ev15]; exact Inv.putr hI9 rfl (rg_w r13 (by decide) (by decide))
        have hK17 : Kp (kp_X5_insert_21 si rk) v v15 := by rw [ev15]; exact Kp.put hK10 _ (by unfold kp_X5_insert_21; omega)
        have hm18 : v15 21 2 = x12 := by rw [ev15, up2_s]
        exact r_vret X hr hlocks hw hS ⟨⟨hI16, hK17⟩, hG.trans eRR.symm⟩ d_X5_insert_89
      · have f19 := i_nle c1
        have r20 : Rg y3 1 19 := by obtain ⟨a1, a2⟩ := r_y3; obtain ⟨b1, b2⟩ := (⟨by decide, by decide⟩ : Rg 0 0 0); have f := i_nle c1; exact ⟨by omega, by omega⟩
        have hG := g_neg c1 hG
        refine lv_aload_n hx hb d_X5_insert_19 rfl (lv_at hl 0 rfl) ?_
        refine r_getr (r := 25) X hw FL_X5_15 (rfl : KD 21 = _) rfl d_X5_insert_20 ?_
        refine lv_iload_n hx hb d_X5_insert_23 rfl (lv_at hl 3 rfl) ?_
        refine lv_iconst (v := 1) hx hb d_X5_insert_24 (by decide) ?_
        refine lv_isub hx hb d_X5_insert_25 ?_
        refine lv_topi (fun x21 ex21 => ?_)
        have hG := bnd_use ex21 hG
        have r22 : Rg x21 0 18 := rg_sub ex21 r20 (⟨by decide, by decide⟩ : Rg 1 1 1) (by decide) (by decide)
        have s23 : x21.toInt = y3.toInt - (1 : Int32).toInt := by rw [ex21]; exact i_sub (by obtain ⟨_, _⟩ := r20; obtain ⟨_, _⟩ := (⟨by decide, by decide⟩ : Rg 1 1 1); omega) (by obtain ⟨_, _⟩ := r20; obtain ⟨_, _⟩ := (⟨by decide, by decide⟩ : Rg 1 1 1); omega)
        have s23l : (1 : Int32).toInt = 1 := rfl
        refine r_iald X hw (rfl : KD 25 = _) (Rg.vp (b := 18) r22 (by decide)) rfl d_X5_insert_26 ?_
        refine lv_topi (fun x24 ex24 => ?_)
        have hG := bnd_use ex24 hG
        refine lv_iload_n hx hb d_X5_insert_27 rfl (lv_at hl 2 rfl) ?_
        refine lv_icmp_le (tgt := 65) hx hb d_X5_insert_28 (by decide) (fun c25 => ?_) (fun c25 => ?_)
        · have f26 := i_le c25
          have hG := g_pos c25 hG
          refine lv_aload_n hx hb d_X5_insert_65 rfl (lv_at hl 0 rfl) ?_
          refine r_getr (r := 23) X hw FL_X5_9 (rfl : KD 21 = _) rfl d_X5_insert_66 ?_
          refine lv_iload_n hx hb d_X5_insert_69 rfl (lv_at hl 3 rfl) ?_
          refine lv_iload_n hx hb d_X5_insert_70 rfl (lv_at hl 1 rfl) ?_
          refine r_iast X hw hS (rfl : KD 23 = _) (Rg.vp (b := 19) (rg_w r20 (by decide) (by decide)) (by decide)) rfl d_X5_insert_71 (fun H locs hw hS => ?_)
          obtain ⟨v27, ev27⟩ : ∃ z, z = up2 v1 23 y3.toNatClampNeg si := ⟨_, rfl⟩
          rw [← ev27] at hw
          have hG := bnd_use ev27 hG
          have hI28 : Inv v27 := by rw [ev27]; exact Inv.putr hI1 rfl r_si
          have hK29 : Kp (kp_X5_insert_21 si rk) v v27 := by rw [ev27]; exact Kp.put hK1 _ (by unfold kp_X5_insert_21; omega)
          have hm30 : v27 21 2 = m0 := by rw [ev27, up2_n _ _ (by omega)]; exact h_m0
          refine lv_aload_n hx hb d_X5_insert_72 rfl (lv_at hl 0 rfl) ?_
          refine r_getr (r := 25) X hw FL_X5_15 (rfl : KD 21 = _) rfl d_X5_insert_73 ?_
          refine lv_iload_n hx hb d_X5_insert_76 rfl (lv_at hl 3 rfl) ?_
          refine lv_iload_n hx hb d_X5_insert_77 rfl (lv_at hl 2 rfl) ?_
          refine r_iast X hw hS (rfl : KD 25 = _) (Rg.vp (b := 19) (rg_w r20 (by decide) (by decide)) (by decide)) rfl d_X5_insert_78 (fun H locs hw hS => ?_)
          obtain ⟨v31, ev31⟩ : ∃ z, z = up2 v27 25 y3.toNatClampNeg rk := ⟨_, rfl⟩
          rw [← ev31] at hw
          have hG := bnd_use ev31 hG
          have hI32 : Inv v31 := by rw [ev31]; exact Inv.put0 hI28 _ rfl
          have hK33 : Kp (kp_X5_insert_21 si rk) v v31 := by rw [ev31]; exact Kp.put hK29 _ (by unfold kp_X5_insert_21; omega)
          have hm34 : v31 21 2 = m0 := by rw [ev31, up2_n _ _ (by omega)]; exact hm30
          refine lv_aload_n hx hb d_X5_insert_79 rfl (lv_at hl 0 rfl) ?_
          refine lv_dup hx hb d_X5_insert_80 rfl ?_
          refine r_geti X hw FL_X5_18 (rfl : KD 21 = _) rfl d_X5_insert_81 ?_
          rw [hm34]
          refine lv_iconst (v := 1) hx hb d_X5_insert_84 (by decide) ?_
          refine lv_iadd hx hb d_X5_insert_85 ?_
          refine lv_topi (fun x35 ex35 => ?_)
          have hG := bnd_use ex35 hG
          have r36 : Rg x35 1 20 := rg_add ex35 r_m0 (⟨by decide, by decide⟩ : Rg 1 1 1) (by decide) (by decide)
          have s37 : x35.toInt = m0.toInt + (1 : Int32).toInt := by rw [ex35]; exact i_add (by obtain ⟨_, _⟩ := r_m0; obtain ⟨_, _⟩ := (⟨by decide, by decide⟩ : Rg 1 1 1); omega) (by obtain ⟨_, _⟩ := r_m0; obtain ⟨_, _⟩ := (⟨by decide, by decide⟩ : Rg 1 1 1); omega)
          have s37l : (1 : Int32).toInt = 1 := rfl
          refine r_put X hw hS FP_X5_18 (rfl : KD 21 = _) rfl ⟨rfl, rfl⟩ d_X5_insert_86 (fun H locs hw hS => ?_)
          obtain ⟨v38, ev38⟩ : ∃ z, z = up2 v31 21 2 x35 := ⟨_, rfl⟩
          rw [← ev38] at hw
          have hG := bnd_use ev38 hG
          have hI39 : Inv v38 := by rw [ev38]; exact Inv.putr hI32 rfl (rg_w r36 (by decide) (by decide))
          have hK40 : Kp (kp_X5_insert_21 si rk) v v38 := by rw [ev38]; exact Kp.put hK33 _ (by unfold kp_X5_insert_21; omega)
          have hm41 : v38 21 2 = x35 := by rw [ev38, up2_s]
          exact r_vret X hr hlocks hw hS ⟨⟨hI39, hK40⟩, hG.trans eRR.symm⟩ d_X5_insert_89
        · have f42 := i_nle c25
          have hG := g_neg c25 hG
          refine lv_aload_n hx hb d_X5_insert_31 rfl (lv_at hl 0 rfl) ?_
          refine r_getr (r := 23) X hw FL_X5_9 (rfl : KD 21 = _) rfl d_X5_insert_32 ?_
          refine lv_iload_n hx hb d_X5_insert_35 rfl (lv_at hl 3 rfl) ?_
          refine lv_aload_n hx hb d_X5_insert_36 rfl (lv_at hl 0 rfl) ?_
          refine r_getr (r := 23) X hw FL_X5_9 (rfl : KD 21 = _) rfl d_X5_insert_37 ?_
          refine lv_iload_n hx hb d_X5_insert_40 rfl (lv_at hl 3 rfl) ?_
          refine lv_iconst (v := 1) hx hb d_X5_insert_41 (by decide) ?_
          refine lv_isub hx hb d_X5_insert_42 ?_
          refine lv_topi (fun x43 ex43 => ?_)
          have hG := bnd_use ex43 hG
          have r44 : Rg x43 0 18 := rg_sub ex43 r20 (⟨by decide, by decide⟩ : Rg 1 1 1) (by decide) (by decide)
          have s45 : x43.toInt = y3.toInt - (1 : Int32).toInt := by rw [ex43]; exact i_sub (by obtain ⟨_, _⟩ := r20; obtain ⟨_, _⟩ := (⟨by decide, by decide⟩ : Rg 1 1 1); omega) (by obtain ⟨_, _⟩ := r20; obtain ⟨_, _⟩ := (⟨by decide, by decide⟩ : Rg 1 1 1); omega)
          have s45l : (1 : Int32).toInt = 1 := rfl
          refine r_iald X hw (rfl : KD 23 = _) (Rg.vp (b := 18) r44 (by decide)) rfl d_X5_insert_43 ?_
          refine lv_topi (fun x46 ex46 => ?_)
          have hG := bnd_use ex46 hG
          have r47 : Rg x46 0 19 := by rw [ex46]; exact hI1 _ _ _ _ rfl
          refine r_iast X hw hS (rfl : KD 23 = _) (Rg.vp (b := 19) (rg_w r20 (by decide) (by decide)) (by decide)) rfl d_X5_insert_44 (fun H locs hw hS => ?_)
          obtain ⟨v48, ev48⟩ : ∃ z, z = up2 v1 23 y3.toNatClampNeg x46 := ⟨_, rfl⟩
          rw [← ev48] at hw
          have hG := bnd_use ev48 hG
          have hI49 : Inv v48 := by rw [ev48]; exact Inv.putr hI1 rfl r47
          have hK50 : Kp (kp_X5_insert_21 si rk) v v48 := by rw [ev48]; exact Kp.put hK1 _ (by unfold kp_X5_insert_21; omega)
          have hm51 : v48 21 2 = m0 := by rw [ev48, up2_n _ _ (by omega)]; exact h_m0
          refine lv_aload_n hx hb d_X5_insert_45 rfl (lv_at hl 0 rfl) ?_
          refine r_getr (r := 25) X hw FL_X5_15 (rfl : KD 21 = _) rfl d_X5_insert_46 ?_
          refine lv_iload_n hx hb d_X5_insert_49 rfl (lv_at hl 3 rfl) ?_
          refine lv_aload_n hx hb d_X5_insert_50 rfl (lv_at hl 0 rfl) ?_
          refine r_getr (r := 25) X hw FL_X5_15 (rfl : KD 21 = _) rfl d_X5_insert_51 ?_
          refine lv_iload_n hx hb d_X5_insert_54 rfl (lv_at hl 3 rfl) ?_
          refine lv_iconst (v := 1) hx hb d_X5_insert_55 (by decide) ?_
          refine lv_isub hx hb d_X5_insert_56 ?_
          refine lv_topi (fun x52 ex52 => ?_)
          have hG := bnd_use ex52 hG
          have r53 : Rg x52 0 18 := rg_sub ex52 r20 (⟨by decide, by decide⟩ : Rg 1 1 1) (by decide) (by decide)
          have s54 : x52.toInt = y3.toInt - (1 : Int32).toInt := by rw [ex52]; exact i_sub (by obtain ⟨_, _⟩ := r20; obtain ⟨_, _⟩ := (⟨by decide, by decide⟩ : Rg 1 1 1); omega) (by obtain ⟨_, _⟩ := r20; obtain ⟨_, _⟩ := (⟨by decide, by decide⟩ : Rg 1 1 1); omega)
          have s54l : (1 : Int32).toInt = 1 := rfl
          refine r_iald X hw (rfl : KD 25 = _) (Rg.vp (b := 18) r53 (by decide)) rfl d_X5_insert_57 ?_
          refine lv_topi (fun x55 ex55 => ?_)
          have hG := bnd_use ex55 hG
          refine r_iast X hw hS (rfl : KD 25 = _) (Rg.vp (b := 19) (rg_w r20 (by decide) (by decide)) (by decide)) rfl d_X5_insert_58 (fun H locs hw hS => ?_)
          obtain ⟨v56, ev56⟩ : ∃ z, z = up2 v48 25 y3.toNatClampNeg x55 := ⟨_, rfl⟩
          rw [← ev56] at hw
          have hG := bnd_use ev56 hG
          have hI57 : Inv v56 := by rw [ev56]; exact Inv.put0 hI49 _ rfl
          have hK58 : Kp (kp_X5_insert_21 si rk) v v56 := by rw [ev56]; exact Kp.put hK50 _ (by unfold kp_X5_insert_21; omega)
          have hm59 : v56 21 2 = m0 := by rw [ev56, up2_n _ _ (by omega)]; exact hm51
          obtain ⟨x60, ex60⟩ : ∃ y : Int32, y = y3 + -1 := ⟨_, rfl⟩
          have hG := bnd_use ex60 hG
          refine lv_iinc (v := x60) (lv' := [(3, .int x60), (0, .ref (ad 21)), (1, .int si), (2, .int rk)]) hx hb d_X5_insert_59 hl (k := 3) rfl (by rw [ex60]; rfl) (by decide) rfl (fun ls hl => ?_)
          have r61 : Rg x60 0 18 := rg_add ex60 r20 (⟨by decide, by decide⟩ : Rg (-1) (-1) (-1)) (by decide) (by decide)
          have s62 : x60.toInt = y3.toInt + (-1 : Int32).toInt := by rw [ex60]; exact i_add (by obtain ⟨_, _⟩ := r20; obtain ⟨_, _⟩ := (⟨by decide, by decide⟩ : Rg (-1) (-1) (-1)); omega) (by obtain ⟨_, _⟩ := r20; obtain ⟨_, _⟩ := (⟨by decide, by decide⟩ : Rg (-1) (-1) (-1)); omega)
          have s62l : (-1 : Int32).toInt = (-1) := rfl
          refine lv_goto (tgt := 15) hx hb d_X5_insert_62 (by decide) ?_
          exact ih0 x60 m0 v56 _ _ _ (by have := s23; have := s45; have := s54; have := s62; obtain ⟨_, _⟩ := r61; omega) (rg_w r61 (by decide) (by decide)) r_m0 hI57 hK58 hm59 hG hw hS (lv_sub hl [1, 2, 3, 0] rfl)
  have ih0 := LL 100000
  have hK0 : Kp (kp_X5_insert_21 si rk) v v := Kp.rf _ v
  have hG := eRR
  unfold f_X5_insert_21 at hG
  refine lv_aload_n hx hb d_X5_insert_0 rfl (lv_at hl 0 rfl) ?_
  refine r_geti X hw FL_X5_18 (rfl : KD 21 = _) rfl d_X5_insert_1 ?_
  refine lv_topi (fun x63 ex63 => ?_)
  have hG := bnd_use ex63 hG
  have r64 : Rg x63 0 20 := by rw [ex63]; exact hI _ _ _ _ rfl
  have hm65 : v 21 2 = x63 := ex63.symm
  refine lv_bipush (v := 20) hx hb d_X5_insert_4 (by decide) ?_
  refine lv_icmp_lt (tgt := 10) hx hb d_X5_insert_6 (by decide) (fun c66 => ?_) (fun c66 => ?_)
  · have f67 := i_lt c66
    have r68 : Rg x63 0 19 := by obtain ⟨a1, a2⟩ := r64; obtain ⟨b1, b2⟩ := (⟨by decide, by decide⟩ : Rg 20 20 20); have f := i_lt c66; exact ⟨by omega, by omega⟩
    have hG := g_pos c66 hG
    refine lv_aload_n hx hb d_X5_insert_10 rfl (lv_at hl 0 rfl) ?_
    refine r_geti X hw FL_X5_18 (rfl : KD 21 = _) rfl d_X5_insert_11 ?_
    rw [hm65]
    refine lv_istore_n (lv' := [(3, .int x63), (0, .ref (ad 21)), (1, .int si), (2, .int rk)]) hx hb d_X5_insert_14 rfl hl (by decide) rfl (fun ls hl => ?_)
    exact ih0 x63 x63 v _ _ _ (by obtain ⟨_, _⟩ := r68; omega) r68 r68 hI hK0 hm65 hG hw hS (lv_sub hl [1, 2, 3, 0] rfl)
  · have f69 := i_nlt c66
    have r70 : Rg x63 20 20 := by obtain ⟨a1, a2⟩ := r64; obtain ⟨b1, b2⟩ := (⟨by decide, by decide⟩ : Rg 20 20 20); have f := i_nlt c66; exact ⟨by omega, by omega⟩
    have hG := g_neg c66 hG
    exact r_vret X hr hlocks hw hS ⟨⟨hI, hK0⟩, hG.trans eRR.symm⟩ d_X5_insert_9
theorem d_X5_putFirst_0 : decode c_X5_putFirst 0 = .ok (.aload_n 0, 1) := by decide +kernel
theorem d_X5_putFirst_1 : decode c_X5_putFirst 1 = .ok (.getfield 9, 3) := by decide +kernel
theorem d_X5_putFirst_4 : decode c_X5_putFirst 4 = .ok (.iconst 0, 1) := by decide +kernel
theorem d_X5_putFirst_5 : decode c_X5_putFirst 5 = .ok (.iload_n 1, 1) := by decide +kernel
theorem d_X5_putFirst_6 : decode c_X5_putFirst 6 = .ok (.iastore, 1) := by decide +kernel
theorem d_X5_putFirst_7 : decode c_X5_putFirst 7 = .ok (.aload_n 0, 1) := by decide +kernel
theorem d_X5_putFirst_8 : decode c_X5_putFirst 8 = .ok (.iconst 1, 1) := by decide +kernel
theorem d_X5_putFirst_9 : decode c_X5_putFirst 9 = .ok (.putfield 18, 3) := by decide +kernel
theorem d_X5_putFirst_12 : decode c_X5_putFirst 12 = .ok (.iconst 0, 1) := by decide +kernel
theorem d_X5_putFirst_13 : decode c_X5_putFirst 13 = .ok (.istore_n 3, 1) := by decide +kernel
theorem d_X5_putFirst_14 : decode c_X5_putFirst 14 = .ok (.iload_n 3, 1) := by decide +kernel
theorem d_X5_putFirst_15 : decode c_X5_putFirst 15 = .ok (.aload_n 2, 1) := by decide +kernel
theorem d_X5_putFirst_16 : decode c_X5_putFirst 16 = .ok (.getfield 18, 3) := by decide +kernel
theorem d_X5_putFirst_19 : decode c_X5_putFirst 19 = .ok (.if_icmp .ge 50, 3) := by decide +kernel
theorem d_X5_putFirst_22 : decode c_X5_putFirst 22 = .ok (.aload_n 0, 1) := by decide +kernel
theorem d_X5_putFirst_23 : decode c_X5_putFirst 23 = .ok (.getfield 18, 3) := by decide +kernel
theorem d_X5_putFirst_26 : decode c_X5_putFirst 26 = .ok (.bipush 20, 2) := by decide +kernel
theorem d_X5_putFirst_28 : decode c_X5_putFirst 28 = .ok (.if_icmp .ge 41, 3) := by decide +kernel
theorem d_X5_putFirst_31 : decode c_X5_putFirst 31 = .ok (.aload_n 2, 1) := by decide +kernel
theorem d_X5_putFirst_32 : decode c_X5_putFirst 32 = .ok (.getfield 9, 3) := by decide +kernel
theorem d_X5_putFirst_35 : decode c_X5_putFirst 35 = .ok (.iload_n 3, 1) := by decide +kernel
theorem d_X5_putFirst_36 : decode c_X5_putFirst 36 = .ok (.iaload, 1) := by decide +kernel
theorem d_X5_putFirst_37 : decode c_X5_putFirst 37 = .ok (.iload_n 1, 1) := by decide +kernel
theorem d_X5_putFirst_38 : decode c_X5_putFirst 38 = .ok (.if_icmp .eq 25, 3) := by decide +kernel
theorem d_X5_putFirst_41 : decode c_X5_putFirst 41 = .ok (.aload_n 0, 1) := by decide +kernel
theorem d_X5_putFirst_42 : decode c_X5_putFirst 42 = .ok (.getfield 9, 3) := by decide +kernel
theorem d_X5_putFirst_45 : decode c_X5_putFirst 45 = .ok (.aload_n 0, 1) := by decide +kernel
theorem d_X5_putFirst_46 : decode c_X5_putFirst 46 = .ok (.dup, 1) := by decide +kernel
theorem d_X5_putFirst_47 : decode c_X5_putFirst 47 = .ok (.getfield 18, 3) := by decide +kernel
theorem d_X5_putFirst_50 : decode c_X5_putFirst 50 = .ok (.dup_x1, 1) := by decide +kernel
theorem d_X5_putFirst_51 : decode c_X5_putFirst 51 = .ok (.iconst 1, 1) := by decide +kernel
theorem d_X5_putFirst_52 : decode c_X5_putFirst 52 = .ok (.iadd, 1) := by decide +kernel
theorem d_X5_putFirst_53 : decode c_X5_putFirst 53 = .ok (.putfield 18, 3) := by decide +kernel
theorem d_X5_putFirst_56 : decode c_X5_putFirst 56 = .ok (.aload_n 2, 1) := by decide +kernel
theorem d_X5_putFirst_57 : decode c_X5_putFirst 57 = .ok (.getfield 9, 3) := by decide +kernel
theorem d_X5_putFirst_60 : decode c_X5_putFirst 60 = .ok (.iload_n 3, 1) := by decide +kernel
theorem d_X5_putFirst_61 : decode c_X5_putFirst 61 = .ok (.iaload, 1) := by decide +kernel
theorem d_X5_putFirst_62 : decode c_X5_putFirst 62 = .ok (.iastore, 1) := by decide +kernel
theorem d_X5_putFirst_63 : decode c_X5_putFirst 63 = .ok (.iinc 3 1, 3) := by decide +kernel
theorem d_X5_putFirst_66 : decode c_X5_putFirst 66 = .ok (.goto (-52), 3) := by decide +kernel
theorem d_X5_putFirst_69 : decode c_X5_putFirst 69 = .ok (.return_, 1) := by decide +kernel
def kp_X5_putFirst_20_21 (si : Int32) (a j : Nat) : Prop := a ≠ 20 ∧ a ≠ 22 ∧ a ≠ 24
def b_X5_putFirst_20_21_14 (si : Int32) (rc14 : Int32 → tV → tV) (y3 : Int32) (v1 : tV) : tV := bnd (v1 21 2) fun x1 => (if x1 ≤ y3 then v1 else bnd (v1 20 2) fun x9 => (if (20 : Int32) ≤ x9 then v1 else bnd (v1 23 y3.toNatClampNeg) fun x17 => (if x17 = si then bnd (y3 + 1) fun x21 => rc14 x21 v1 else bnd (x9 + (1 : Int32)) fun x25 => bnd (up2 v1 20 2 x25) fun v28 => bnd (v28 23 y3.toNatClampNeg) fun x33 => bnd (up2 v28 22 (x9.toNatClampNeg) x33) fun v35 => bnd (y3 + 1) fun x40 => rc14 x40 v35)))
def g_X5_putFirst_20_21_14 (si : Int32) : Nat → Int32 → tV → tV
  | 0, _, v1 => v1
  | n + 1, y3, v1 => b_X5_putFirst_20_21_14 si (g_X5_putFirst_20_21_14 si n) y3 v1
def f_X5_putFirst_20_21 (v : tV) (si : Int32) : tV := bnd (up2 v 22 ((0 : Int32).toNatClampNeg) si) fun v43 => bnd (up2 v43 20 2 1) fun v46 => g_X5_putFirst_20_21_14 si 100000 0 v46
set_option maxHeartbeats 4000000 in
set_option maxRecDepth 100000 in
theorem ct_X5_putFirst_20_21 (l : Launch) (D : va_G) (dA : Nat → ClassId) (ad : Nat → Nat) (v : tV) (hI : Inv v) (si : Int32) (r_si : Rg si 0 19) : Met l m_X5_putFirst [.code m_X5_putFirst c_X5_putFirst 4 none] ({ frames := 1, cells := 0, slots := 0, locals := 40 } : Room) (tP D dA ad v [.ref (ad 20), .int si, .ref (ad 21)]) (tQv D dA ad (fun v' => (Inv v' ∧ Kp (kp_X5_putFirst_20_21 si) v v') ∧ v' = f_X5_putFirst_20_21 v si)) 0 0 (tA ad) := by
  refine tMet (by decide) (Nat.le_of_ble_eq_true rfl) ?_
  intro p e s m below meth c ls X hr hlocks hw hl
  have X : CX p s m ([.ref (ad 20), .int si, .ref (ad 21)] : List Value).toArray c c_X5_putFirst N_X5 4 D dA := X
  have hx := X.1
  have hb := X.2.1
  have hS : va_S (tA ad) s.heap s.heap [] := va_S.rf
  have hl : lv_has ls 4 [(0, .ref (ad 20)), (1, .int si), (2, .ref (ad 21))] := hl
  obtain ⟨RR, eRR⟩ : ∃ z, f_X5_putFirst_20_21 v si = z := ⟨_, rfl⟩
  have LL : ∀ n : Nat, (∀ (y3 : Int32) (v1 : tV) (H : Heap) (locs : List Loc) (ls : Array Slot), (20 - y3.toInt).toNat < n → Rg y3 0 20 → Inv v1 → Kp (kp_X5_putFirst_20_21 si) v v1 → g_X5_putFirst_20_21_14 si n y3 v1 = RR → tI D dA ad v1 H → va_S (tA ad) s.heap H locs → lv_has ls 4 [(0, .ref (ad 20)), (1, .int si), (2, .ref (ad 21)), (3, .int y3)] → W p l e ({ frames := 1, cells := 0, slots := 0, locals := 40 } : Room) s m ([.ref (ad 20), .int si, .ref (ad 21)] : List Value).toArray below meth c H locs 0 0 (MQ below (tQv D dA ad (fun v' => (Inv v' ∧ Kp (kp_X5_putFirst_20_21 si) v v') ∧ v' = f_X5_putFirst_20_21 v si)) ([.ref (ad 20), .int si, .ref (ad 21)] : List Value).toArray s 0 0 (tA ad)) (F0 m 14 ls [])) := by
    intro n
    induction n with
    | zero => intros; omega
    | succ n ih =>
      have ih0 := ih
      intro y3 v1 H locs ls hmu r_y3 hI1 hK1 hG hw hS hl
      have hG : b_X5_putFirst_20_21_14 si (g_X5_putFirst_20_21_14 si n) y3 v1 = RR := hG
      unfold b_X5_putFirst_20_21_14 at hG
      refine lv_iload_n hx hb d_X5_putFirst_14 rfl (lv_at hl 3 rfl) ?_
      refine lv_aload_n hx hb d_X5_putFirst_15 rfl (lv_at hl 2 rfl) ?_
      refine r_geti X hw FL_X5_18 (rfl : KD 21 = _) rfl d_X5_putFirst_16 ?_
      refine lv_topi (fun x1 ex1 => ?_)
      have hG := bnd_use ex1 hG
      have r2 : Rg x1 0 20 := by rw [ex1]; exact hI1 _ _ _ _ rfl
      have hm3 : v1 21 2 = x1 := ex1.symm
      refine lv_icmp_ge (tgt := 69) hx hb d_X5_putFirst_19 (by decide) (fun c4 => ?_) (fun c4 => ?_)
      · have f5 := i_le c4
        have hG := g_pos c4 hG
        exact r_vret X hr hlocks hw hS ⟨⟨hI1, hK1⟩, hG.trans eRR.symm⟩ d_X5_putFirst_69
      · have f6 := i_nle c4
        have r7 : Rg y3 0 19 := by obtain ⟨a1, a2⟩ := r_y3; obtain ⟨b1, b2⟩ := r2; have f := i_nle c4; exact ⟨by omega, by omega⟩
        have r8 : Rg x1 1 20 := by obtain ⟨a1, a2⟩ := r_y3; obtain ⟨b1, b2⟩ := r2; have f := i_nle c4; exact ⟨by omega, by omega⟩
        have hG := g_neg c4 hG
        refine lv_aload_n hx hb d_X5_putFirst_22 rfl (lv_at hl 0 rfl) ?_
        refine r_geti X hw FL_X5_18 (rfl : KD 20 = _) rfl d_X5_putFirst_23 ?_
        refine lv_topi (fun x9 ex9 => ?_)
        have hG := bnd_use ex9 hG
        have r10 : Rg x9 0 20 := by rw [ex9]; exact hI1 _ _ _ _ rfl
        have hm11 : v1 20 2 = x9 := ex9.symm
        refine lv_bipush (v := 20) hx hb d_X5_putFirst_26 (by decide) ?_
        refine lv_icmp_ge (tgt := 69) hx hb d_X5_putFirst_28 (by decide) (fun c12 => ?_) (fun c12 => ?_)
        · have f13 := i_le c12
          have r14 : Rg x9 20 20 := by obtain ⟨a1, a2⟩ := r10; obtain ⟨b1, b2⟩ := (⟨by decide, by decide⟩ : Rg 20 20 20); have f := i_le c12; exact ⟨by omega, by omega⟩
          have hG := g_pos c12 hG
          exact r_vret X hr hlocks hw hS ⟨⟨hI1, hK1⟩, hG.trans eRR.symm⟩ d_X5_putFirst_69
        · have f15 := i_nle c12
          have r16 : Rg x9 0 19 := by obtain ⟨a1, a2⟩ := r10; obtain ⟨b1, b2⟩ := (⟨by decide, by decide⟩ : Rg 20 20 20); have f := i_nle c12; exact ⟨by omega, by omega⟩
          have hG := g_neg c12 hG
          refine lv_aload_n hx hb d_X5_putFirst_31 rfl (lv_at hl 2 rfl) ?_
          refine r_getr (r := 23) X hw FL_X5_9 (rfl : KD 21 = _) rfl d_X5_putFirst_32 ?_
          refine lv_iload_n hx hb d_X5_putFirst_35 rfl (lv_at hl 3 rfl) ?_
          refine r_iald X hw (rfl : KD 23 = _) (Rg.vp (b := 19) r7 (by decide)) rfl d_X5_putFirst_36 ?_
          refine lv_topi (fun x17 ex17 => ?_)
          have hG := bnd_use ex17 hG
          have r18 : Rg x17 0 19 := by rw [ex17]; exact hI1 _ _ _ _ rfl
          refine lv_iload_n hx hb d_X5_putFirst_37 rfl (lv_at hl 1 rfl) ?_
          refine lv_icmp_eq (tgt := 63) hx hb d_X5_putFirst_38 (by decide) (fun c19 => ?_) (fun c19 => ?_)
          · have f20 := i_eq c19
            have hG := g_pos c19 hG
            obtain ⟨x21, ex21⟩ : ∃ y : Int32, y = y3 + 1 := ⟨_, rfl⟩
            have hG := bnd_use ex21 hG
            refine lv_iinc (v := x21) (lv' := [(3, .int x21), (0, .ref (ad 20)), (1, .int si), (2, .ref (ad 21))]) hx hb d_X5_putFirst_63 hl (k := 3) rfl (by rw [ex21]; rfl) (by decide) rfl (fun ls hl => ?_)
            have r22 : Rg x21 1 20 := rg_add ex21 r7 (⟨by decide, by decide⟩ : Rg 1 1 1) (by decide) (by decide)
            have s23 : x21.toInt = y3.toInt + (1 : Int32).toInt := by rw [ex21]; exact i_add (by obtain ⟨_, _⟩ := r7; obtain ⟨_, _⟩ := (⟨by decide, by decide⟩ : Rg 1 1 1); omega) (by obtain ⟨_, _⟩ := r7; obtain ⟨_, _⟩ := (⟨by decide, by decide⟩ : Rg 1 1 1); omega)
            have s23l : (1 : Int32).toInt = 1 := rfl
            refine lv_goto (tgt := 14) hx hb d_X5_putFirst_66 (by decide) ?_
            exact ih0 x21 v1 _ _ _ (by have := s23; obtain ⟨_, _⟩ := r22; omega) (rg_w r22 (by decide) (by decide)) hI1 hK1 hG hw hS (lv_sub hl [1, 2, 3, 0] rfl)
          · have f24 := i_ne c19
            have hG := g_neg c19 hG
            refine lv_aload_n hx hb d_X5_putFirst_41 rfl (lv_at hl 0 rfl) ?_
            refine r_getr (r := 22) X hw FL_X5_9 (rfl : KD 20 = _) rfl d_X5_putFirst_42 ?_
            refine lv_aload_n hx hb d_X5_putFirst_45 rfl (lv_at hl 0 rfl) ?_
            refine lv_dup hx hb d_X5_putFirst_46 rfl ?_
            refine r_geti X hw FL_X5_18 (rfl : KD 20 = _) rfl d_X5_putFirst_47 ?_
            rw [hm11]
            refine lv_dup_x1 hx hb d_X5_putFirst_50 rfl rfl ?_
            refine lv_iconst (v := 1) hx hb d_X5_putFirst_51 (by decide) ?_
            refine lv_iadd hx hb d_X5_putFirst_52 ?_
            refine lv_topi (fun x25 ex25 => ?_)
            have hG := bnd_use ex25 hG
            have r26 : Rg x25 1 20 := rg_add ex25 r16 (⟨by decide, by decide⟩ : Rg 1 1 1) (by decide) (by decide)
            have s27 : x25.toInt = x9.toInt + (1 : Int32).toInt := by rw [ex25]; exact i_add (by obtain ⟨_, _⟩ := r16; obtain ⟨_, _⟩ := (⟨by decide, by decide⟩ : Rg 1 1 1); omega) (by obtain ⟨_, _⟩ := r16; obtain ⟨_, _⟩ := (⟨by decide, by decide⟩ : Rg 1 1 1); omega)
            have s27l : (1 : Int32).toInt = 1 := rfl
            refine r_put X hw hS FP_X5_18 (rfl : KD 20 = _) rfl ⟨rfl, rfl⟩ d_X5_putFirst_53 (fun H locs hw hS => ?_)
            obtain ⟨v28, ev28⟩ : ∃ z, z = up2 v1 20 2 x25 := ⟨_, rfl⟩
            rw [← ev28] at hw
            have hG := bnd_use ev28 hG
            have hI29 : Inv v28 := by rw [ev28]; exact Inv.putr hI1 rfl (rg_w r26 (by decide) (by decide))
            have hK30 : Kp (kp_X5_putFirst_20_21 si) v v28 := by rw [ev28]; exact Kp.put hK1 _ (by unfold kp_X5_putFirst_20_21; omega)
            have hm31 : v28 21 2 = x1 := by rw [ev28, up2_n _ _ (by omega)]; exact hm3
            have hm32 : v28 20 2 = x25 := by rw [ev28, up2_s]
            refine lv_aload_n hx hb d_X5_putFirst_56 rfl (lv_at hl 2 rfl) ?_
            refine r_getr (r := 23) X hw FL_X5_9 (rfl : KD 21 = _) rfl d_X5_putFirst_57 ?_
            refine lv_iload_n hx hb d_X5_putFirst_60 rfl (lv_at hl 3 rfl) ?_
            refine r_iald X hw (rfl : KD 23 = _) (Rg.vp (b := 19) r7 (by decide)) rfl d_X5_putFirst_61 ?_
            refine lv_topi (fun x33 ex33 => ?_)
            have hG := bnd_use ex33 hG
            have r34 : Rg x33 0 19 := by rw [ex33]; exact hI29 _ _ _ _ rfl
            refine r_iast X hw hS (rfl : KD 22 = _) (Rg.vp (b := 19) r16 (by decide)) rfl d_X5_putFirst_62 (fun H locs hw hS => ?_)
            obtain ⟨v35, ev35⟩ : ∃ z, z = up2 v28 22 x9.toNatClampNeg x33 := ⟨_, rfl⟩
            rw [← ev35] at hw
            have hG := bnd_use ev35 hG
            have hI36 : Inv v35 := by rw [ev35]; exact Inv.putr hI29 rfl r34
            have hK37 : Kp (kp_X5_putFirst_20_21 si) v v35 := by rw [ev35]; exact Kp.put hK30 _ (by unfold kp_X5_putFirst_20_21; omega)
            have hm38 : v35 21 2 = x1 := by rw [ev35, up2_n _ _ (by omega)]; exact hm31
            have hm39 : v35 20 2 = x25 := by rw [ev35, up2_n _ _ (by omega)]; exact hm32
            obtain ⟨x40, ex40⟩ : ∃ y : Int32, y = y3 + 1 := ⟨_, rfl⟩
            have hG := bnd_use ex40 hG
            refine lv_iinc (v := x40) (lv' := [(3, .int x40), (0, .ref (ad 20)), (1, .int si), (2, .ref (ad 21))]) hx hb d_X5_putFirst_63 hl (k := 3) rfl (by rw [ex40]; rfl) (by decide) rfl (fun ls hl => ?_)
            have r41 : Rg x40 1 20 := rg_add ex40 r7 (⟨by decide, by decide⟩ : Rg 1 1 1) (by decide) (by decide)
            have s42 : x40.toInt = y3.toInt + (1 : Int32).toInt := by rw [ex40]; exact i_add (by obtain ⟨_, _⟩ := r7; obtain ⟨_, _⟩ := (⟨by decide, by decide⟩ : Rg 1 1 1); omega) (by obtain ⟨_, _⟩ := r7; obtain ⟨_, _⟩ := (⟨by decide, by decide⟩ : Rg 1 1 1); omega)
            have s42l : (1 : Int32).toInt = 1 := rfl
            refine lv_goto (tgt := 14) hx hb d_X5_putFirst_66 (by decide) ?_
            exact ih0 x40 v35 _ _ _ (by have := s27; have := s42; obtain ⟨_, _⟩ := r41; omega) (rg_w r41 (by decide) (by decide)) hI36 hK37 hG hw hS (lv_sub hl [1, 2, 3, 0] rfl)
  have ih0 := LL 100000
  have hK0 : Kp (kp_X5_putFirst_20_21 si) v v := Kp.rf _ v
  have hG := eRR
  unfold f_X5_putFirst_20_21 at hG
  refine lv_aload_n hx hb d_X5_putFirst_0 rfl (lv_at hl 0 rfl) ?_
  refine r_getr (r := 22) X hw FL_X5_9 (rfl : KD 20 = _) rfl d_X5_putFirst_1 ?_
  refine lv_iconst (v := 0) hx hb d_X5_putFirst_4 (by decide) ?_
  refine lv_iload_n hx hb d_X5_putFirst_5 rfl (lv_at hl 1 rfl) ?_
  refine r_iast X hw hS (rfl : KD 22 = _) (Rg.vp (b := 0) (⟨by decide, by decide⟩ : Rg 0 0 0) (by decide)) rfl d_X5_putFirst_6 (fun H locs hw hS => ?_)
  obtain ⟨v43, ev43⟩ : ∃ z, z = up2 v 22 (0 : Int32).toNatClampNeg si := ⟨_, rfl⟩
  rw [← ev43] at hw
  have hG := bnd_use ev43 hG
  have hI44 : Inv v43 := by rw [ev43]; exact Inv.putr hI rfl r_si
  have hK45 : Kp (kp_X5_putFirst_20_21 si) v v43 := by rw [ev43]; exact Kp.put hK0 _ (by unfold kp_X5_putFirst_20_21; omega)
  refine lv_aload_n hx hb d_X5_putFirst_7 rfl (lv_at hl 0 rfl) ?_
  refine lv_iconst (v := 1) hx hb d_X5_putFirst_8 (by decide) ?_
  refine r_put X hw hS FP_X5_18 (rfl : KD 20 = _) rfl ⟨rfl, rfl⟩ d_X5_putFirst_9 (fun H locs hw hS => ?_)
  obtain ⟨v46, ev46⟩ : ∃ z, z = up2 v43 20 2 1 := ⟨_, rfl⟩
  rw [← ev46] at hw
  have hG := bnd_use ev46 hG
  have hI47 : Inv v46 := by rw [ev46]; exact Inv.putr hI44 rfl (rg_w (⟨by decide, by decide⟩ : Rg 1 1 1) (by decide) (by decide))
  have hK48 : Kp (kp_X5_putFirst_20_21 si) v v46 := by rw [ev46]; exact Kp.put hK45 _ (by unfold kp_X5_putFirst_20_21; omega)
  have hm49 : v46 20 2 = 1 := by rw [ev46, up2_s]
  refine lv_iconst (v := 0) hx hb d_X5_putFirst_12 (by decide) ?_
  refine lv_istore_n (lv' := [(3, .int 0), (0, .ref (ad 20)), (1, .int si), (2, .ref (ad 21))]) hx hb d_X5_putFirst_13 rfl hl (by decide) rfl (fun ls hl => ?_)
  exact ih0 0 v46 _ _ _ (by obtain ⟨_, _⟩ := (⟨by decide, by decide⟩ : Rg 0 0 0); omega) (rg_w (⟨by decide, by decide⟩ : Rg 0 0 0) (by decide) (by decide)) hI47 hK48 hG hw hS (lv_sub hl [1, 2, 3, 0] rfl)
theorem d_X5_line_0 : decode c_X5_line 0 = .ok (.aload_n 0, 1) := by decide +kernel
theorem d_X5_line_1 : decode c_X5_line 1 = .ok (.iconst 0, 1) := by decide +kernel
theorem d_X5_line_2 : decode c_X5_line 2 = .ok (.putfield 18, 3) := by decide +kernel
theorem d_X5_line_5 : decode c_X5_line 5 = .ok (.iconst 0, 1) := by decide +kernel
theorem d_X5_line_6 : decode c_X5_line 6 = .ok (.istore_n 3, 1) := by decide +kernel
theorem d_X5_line_7 : decode c_X5_line 7 = .ok (.iload_n 3, 1) := by decide +kernel
theorem d_X5_line_8 : decode c_X5_line 8 = .ok (.aload_n 1, 1) := by decide +kernel
theorem d_X5_line_9 : decode c_X5_line 9 = .ok (.getfield 22, 3) := by decide +kernel
theorem d_X5_line_12 : decode c_X5_line 12 = .ok (.if_icmp .ge 50, 3) := by decide +kernel
theorem d_X5_line_15 : decode c_X5_line 15 = .ok (.aload_n 1, 1) := by decide +kernel
theorem d_X5_line_16 : decode c_X5_line 16 = .ok (.getfield 27, 3) := by decide +kernel
theorem d_X5_line_19 : decode c_X5_line 19 = .ok (.iload_n 3, 1) := by decide +kernel
theorem d_X5_line_20 : decode c_X5_line 20 = .ok (.aaload, 1) := by decide +kernel
theorem d_X5_line_21 : decode c_X5_line 21 = .ok (.astore 4, 2) := by decide +kernel
theorem d_X5_line_23 : decode c_X5_line 23 = .ok (.aload 4, 2) := by decide +kernel
theorem d_X5_line_25 : decode c_X5_line 25 = .ok (.getfield 30, 3) := by decide +kernel
theorem d_X5_line_28 : decode c_X5_line 28 = .ok (.iconst 1, 1) := by decide +kernel
theorem d_X5_line_29 : decode c_X5_line 29 = .ok (.if_icmp .gt 27, 3) := by decide +kernel
theorem d_X5_line_32 : decode c_X5_line 32 = .ok (.aload 4, 2) := by decide +kernel
theorem d_X5_line_34 : decode c_X5_line 34 = .ok (.invokevirtual 35, 3) := by decide +kernel
theorem d_X5_line_37 : decode c_X5_line 37 = .ok (.ifCond .eq 19, 3) := by decide +kernel
theorem d_X5_line_40 : decode c_X5_line 40 = .ok (.aload_n 0, 1) := by decide +kernel
theorem d_X5_line_41 : decode c_X5_line 41 = .ok (.iload_n 3, 1) := by decide +kernel
theorem d_X5_line_42 : decode c_X5_line 42 = .ok (.iload_n 3, 1) := by decide +kernel
theorem d_X5_line_43 : decode c_X5_line 43 = .ok (.aload 4, 2) := by decide +kernel
theorem d_X5_line_45 : decode c_X5_line 45 = .ok (.aload_n 2, 1) := by decide +kernel
theorem d_X5_line_46 : decode c_X5_line 46 = .ok (.aload_n 1, 1) := by decide +kernel
theorem d_X5_line_47 : decode c_X5_line 47 = .ok (.getfield 39, 3) := by decide +kernel
theorem d_X5_line_50 : decode c_X5_line 50 = .ok (.invokestatic 42, 3) := by decide +kernel
theorem d_X5_line_53 : decode c_X5_line 53 = .ok (.invokevirtual 46, 3) := by decide +kernel
theorem d_X5_line_56 : decode c_X5_line 56 = .ok (.iinc 3 1, 3) := by decide +kernel
theorem d_X5_line_59 : decode c_X5_line 59 = .ok (.goto (-52), 3) := by decide +kernel
theorem d_X5_line_62 : decode c_X5_line 62 = .ok (.aload_n 0, 1) := by decide +kernel
theorem d_X5_line_63 : decode c_X5_line 63 = .ok (.aload_n 0, 1) := by decide +kernel
theorem d_X5_line_64 : decode c_X5_line 64 = .ok (.getfield 18, 3) := by decide +kernel
theorem d_X5_line_67 : decode c_X5_line 67 = .ok (.aload_n 2, 1) := by decide +kernel
theorem d_X5_line_68 : decode c_X5_line 68 = .ok (.aload_n 1, 1) := by decide +kernel
theorem d_X5_line_69 : decode c_X5_line 69 = .ok (.getfield 50, 3) := by decide +kernel
theorem d_X5_line_72 : decode c_X5_line 72 = .ok (.invokevirtual 53, 3) := by decide +kernel
theorem d_X5_line_75 : decode c_X5_line 75 = .ok (.invokestatic 59, 3) := by decide +kernel
theorem d_X5_line_78 : decode c_X5_line 78 = .ok (.putfield 18, 3) := by decide +kernel
theorem d_X5_line_81 : decode c_X5_line 81 = .ok (.iconst 0, 1) := by decide +kernel
theorem d_X5_line_82 : decode c_X5_line 82 = .ok (.istore_n 3, 1) := by decide +kernel
theorem d_X5_line_83 : decode c_X5_line 83 = .ok (.iload_n 3, 1) := by decide +kernel
theorem d_X5_line_84 : decode c_X5_line 84 = .ok (.aload_n 1, 1) := by decide +kernel
theorem d_X5_line_85 : decode c_X5_line 85 = .ok (.getfield 22, 3) := by decide +kernel
theorem d_X5_line_88 : decode c_X5_line 88 = .ok (.if_icmp .ge 41, 3) := by decide +kernel
theorem d_X5_line_91 : decode c_X5_line 91 = .ok (.aload_n 1, 1) := by decide +kernel
theorem d_X5_line_92 : decode c_X5_line 92 = .ok (.getfield 27, 3) := by decide +kernel
theorem d_X5_line_95 : decode c_X5_line 95 = .ok (.iload_n 3, 1) := by decide +kernel
theorem d_X5_line_96 : decode c_X5_line 96 = .ok (.aaload, 1) := by decide +kernel
theorem d_X5_line_97 : decode c_X5_line 97 = .ok (.astore 4, 2) := by decide +kernel
theorem d_X5_line_99 : decode c_X5_line 99 = .ok (.aload 4, 2) := by decide +kernel
theorem d_X5_line_101 : decode c_X5_line 101 = .ok (.getfield 30, 3) := by decide +kernel
theorem d_X5_line_104 : decode c_X5_line 104 = .ok (.iconst 2, 1) := by decide +kernel
theorem d_X5_line_105 : decode c_X5_line 105 = .ok (.if_icmp .ne 18, 3) := by decide +kernel
theorem d_X5_line_108 : decode c_X5_line 108 = .ok (.aload 4, 2) := by decide +kernel
theorem d_X5_line_110 : decode c_X5_line 110 = .ok (.invokevirtual 35, 3) := by decide +kernel
theorem d_X5_line_113 : decode c_X5_line 113 = .ok (.ifCond .eq 10, 3) := by decide +kernel
theorem d_X5_line_116 : decode c_X5_line 116 = .ok (.aload_n 0, 1) := by decide +kernel
theorem d_X5_line_117 : decode c_X5_line 117 = .ok (.iload_n 3, 1) := by decide +kernel
theorem d_X5_line_118 : decode c_X5_line 118 = .ok (.ldc 67, 2) := by decide +kernel
theorem d_X5_line_120 : decode c_X5_line 120 = .ok (.invokevirtual 46, 3) := by decide +kernel
theorem d_X5_line_123 : decode c_X5_line 123 = .ok (.iinc 3 1, 3) := by decide +kernel
theorem d_X5_line_126 : decode c_X5_line 126 = .ok (.goto (-43), 3) := by decide +kernel
theorem d_X5_line_129 : decode c_X5_line 129 = .ok (.return_, 1) := by decide +kernel
def kp_X5_line_20_1 (k : Nat) (a j : Nat) : Prop := a ≠ 20 ∧ a ≠ 22 ∧ a ≠ 24
def b_X5_line_20_1_7 (k : Nat) (rc7 : Int32 → tV → tV) (rc83 : Int32 → tV → tV) (y3 : Int32) (v1 : tV) : tV := bnd (v1 1 3) fun x1 => (if x1 ≤ y3 then bnd (v1 20 2) fun x6 => bnd (v1 1 6) fun x9 => bnd (f_X3_sellers v1 k x9) fun x11 => bnd (if x11 < x6 then x11 else x6) fun x14 => bnd (up2 v1 20 2 x14) fun v16 => rc83 0 v16 else bnd (100 + y3.toNatClampNeg) fun kc24 => bnd (v1 kc24 0) fun x25 => (if (1 : Int32) < x25 then bnd (y3 + 1) fun x29 => rc7 x29 v1 else bnd (f_X7_isInPort v1 kc24) fun x35 => (if x35 = (0 : Int32) then bnd (y3 + 1) fun x41 => rc7 x41 v1 else bnd (v1 1 5) fun x46 => bnd (f_X5_rank v1 y3 kc24 k x46) fun x48 => bnd (f_X5_insert_20 v1 y3 x48) fun v52 => bnd (y3 + 1) fun x57 => rc7 x57 v52)))
def b_X5_line_20_1_83 (k : Nat) (rc83 : Int32 → tV → tV) (y3 : Int32) (v1 : tV) : tV := bnd (v1 1 3) fun x60 => (if x60 ≤ y3 then v1 else bnd (100 + y3.toNatClampNeg) fun kc68 => bnd (v1 kc68 0) fun x69 => (if x69 = (2 : Int32) then bnd (f_X7_isInPort v1 kc68) fun x78 => (if x78 = (0 : Int32) then bnd (y3 + 1) fun x84 => rc83 x84 v1 else bnd (f_X5_insert_20 v1 y3 (2147483647 : Int32)) fun v90 => bnd (y3 + 1) fun x95 => rc83 x95 v90) else bnd (y3 + 1) fun x72 => rc83 x72 v1))
def g_X5_line_20_1_83 (k : Nat) : Nat → Int32 → tV → tV
  | 0, _, v1 => v1
  | n + 1, y3, v1 => b_X5_line_20_1_83 k (g_X5_line_20_1_83 k n) y3 v1
def g_X5_line_20_1_7 (k : Nat) : Nat → Int32 → tV → tV
  | 0, _, v1 => v1
  | n + 1, y3, v1 => b_X5_line_20_1_7 k (g_X5_line_20_1_7 k n) (g_X5_line_20_1_83 k n) y3 v1
def f_X5_line_20_1 (v : tV) (k : Nat) : tV := bnd (up2 v 20 2 0) fun v98 => g_X5_line_20_1_7 k 100000 0 v98
set_option maxHeartbeats 4000000 in
set_option maxRecDepth 100000 in
theorem ct_X5_line_20_1 (l : Launch) (D : va_G) (dA : Nat → ClassId) (ad : Nat → Nat) (v : tV) (hI : Inv v) (k : Nat) (ka : 60 ≤ k) (kb : k < 69) : Met l m_X5_line [.code m_X5_line c_X5_line 5 none] ({ frames := 3, cells := 0, slots := 0, locals := 86 } : Room) (tP D dA ad v [.ref (ad 20), .ref (ad 1), .ref (ad k)]) (tQv D dA ad (fun v' => (Inv v' ∧ Kp (kp_X5_line_20_1 k) v v') ∧ v' = f_X5_line_20_1 v k)) 0 0 (tA ad) := by
  refine tMet (by decide) (Nat.le_of_ble_eq_true rfl) ?_
  intro p e s m below meth c ls X hr hlocks hw hl
  have X : CX p s m ([.ref (ad 20), .ref (ad 1), .ref (ad k)] : List Value).toArray c c_X5_line N_X5 5 D dA := X
  have hx := X.1
  have hb := X.2.1
  have hS : va_S (tA ad) s.heap s.heap [] := va_S.rf
  have hl : lv_has ls 5 [(0, .ref (ad 20)), (1, .ref (ad 1)), (2, .ref (ad k))] := hl
  obtain ⟨RR, eRR⟩ : ∃ z, f_X5_line_20_1 v k = z := ⟨_, rfl⟩
  have LL : ∀ n : Nat, (∀ (y3 : Int32) (v1 : tV) (H : Heap) (locs : List Loc) (ls : Array Slot), (20 - y3.toInt).toNat + 100 < n → Rg y3 0 20 → Inv v1 → Kp (kp_X5_line_20_1 k) v v1 → g_X5_line_20_1_7 k n y3 v1 = RR → tI D dA ad v1 H → va_S (tA ad) s.heap H locs → lv_has ls 5 [(0, .ref (ad 20)), (1, .ref (ad 1)), (2, .ref (ad k)), (3, .int y3)] → W p l e ({ frames := 3, cells := 0, slots := 0, locals := 86 } : Room) s m ([.ref (ad 20), .ref (ad 1), .ref (ad k)] : List Value).toArray below meth c H locs 0 0 (MQ below (tQv D dA ad (fun v' => (Inv v' ∧ Kp (kp_X5_line_20_1 k) v v') ∧ v' = f_X5_line_20_1 v k)) ([.ref (ad 20), .ref (ad 1), .ref (ad k)] : List Value).toArray s 0 0 (tA ad)) (F0 m 7 ls [])) ∧ (∀ (y3 : Int32) (v1 : tV) (H : Heap) (locs : List Loc) (ls : Array Slot), (20 - y3.toInt).toNat + 0 < n → Rg y3 0 20 → Inv v1 → Kp (kp_X5_line_20_1 k) v v1 → g_X5_line_20_1_83 k n y3 v1 = RR → tI D dA ad v1 H → va_S (tA ad) s.heap H locs → lv_has ls 5 [(0, .ref (ad 20)), (1, .ref (ad 1)), (2, .ref (ad k)), (3, .int y3)] → W p l e ({ frames := 3, cells := 0, slots := 0, locals := 86 } : Room) s m ([.ref (ad 20), .ref (ad 1), .ref (ad k)] : List Value).toArray below meth c H locs 0 0 (MQ below (tQv D dA ad (fun v' => (Inv v' ∧ Kp (kp_X5_line_20_1 k) v v') ∧ v' = f_X5_line_20_1 v k)) ([.ref (ad 20), .ref (ad 1), .ref (ad k)] : List Value).toArray s 0 0 (tA ad)) (F0 m 83 ls [])) := by
    intro n
    induction n with
    | zero => refine ⟨?_, ?_⟩ <;> (intros; omega)
    | succ n ih =>
      obtain ⟨ih0, ih1⟩ := ih
      refine ⟨?_, ?_⟩
      · intro y3 v1 H locs ls hmu r_y3 hI1 hK1 hG hw hS hl
        have hG : b_X5_line_20_1_7 k (g_X5_line_20_1_7 k n) (g_X5_line_20_1_83 k n) y3 v1 = RR := hG
        unfold b_X5_line_20_1_7 at hG
        refine lv_iload_n hx hb d_X5_line_7 rfl (lv_at hl 3 rfl) ?_
        refine lv_aload_n hx hb d_X5_line_8 rfl (lv_at hl 1 rfl) ?_
        refine r_geti X hw FL_X5_22 (rfl : KD 1 = _) rfl d_X5_line_9 ?_
        refine lv_topi (fun x1 ex1 => ?_)
        have hG := bnd_use ex1 hG
        have r2 : Rg x1 0 20 := by rw [ex1]; exact hI1 _ _ _ _ rfl
        have hm3 : v1 1 3 = x1 := ex1.symm
        refine lv_icmp_ge (tgt := 62) hx hb d_X5_line_12 (by decide) (fun c4 => ?_) (fun c4 => ?_)
        · have f5 := i_le c4
          have hG := g_pos c4 hG
          refine lv_aload_n hx hb d_X5_line_62 rfl (lv_at hl 0 rfl) ?_
          refine lv_aload_n hx hb d_X5_line_63 rfl (lv_at hl 0 rfl) ?_
          refine r_geti X hw FL_X5_18 (rfl : KD 20 = _) rfl d_X5_line_64 ?_
          refine lv_topi (fun x6 ex6 => ?_)
          have hG := bnd_use ex6 hG
          have r7 : Rg x6 0 20 := by rw [ex6]; exact hI1 _ _ _ _ rfl
          have hm8 : v1 20 2 = x6 := ex6.symm
          refine lv_aload_n hx hb d_X5_line_67 rfl (lv_at hl 2 rfl) ?_
          refine lv_aload_n hx hb d_X5_line_68 rfl (lv_at hl 1 rfl) ?_
          refine r_geti X hw FL_X5_50 (rfl : KD 1 = _) rfl d_X5_line_69 ?_
          refine lv_topi (fun x9 ex9 => ?_)
          have hG := bnd_use ex9 hG
          refine r_ci (r_runV (n := 1) (As := [.int x9]) (rest := [.int x6, .ref (ad 20)]) X hw (ct_X3_sellers l D dA ad v1 hI1 k x9 (by omega) (by omega)) gc_X5_53 (KD_order (by omega) (by omega)) (by decide) rfl (by decide +kernel) ⟨rfl, rfl, Nat.le_of_ble_eq_true rfl, Nat.le_of_ble_eq_true rfl⟩ rfl hl.1 rfl (Nat.le_of_ble_eq_true rfl) ⟨Nat.zero_le _, Nat.zero_le _⟩ d_X5_line_72) hS (fun x11 v12 H locs hp10 hw hS => ?_)
          obtain ⟨hp10, hE13⟩ := hp10
          obtain ⟨ev12, hp10⟩ := hp10
          rw [ev12] at hw
          have hG := bnd_use hE13 hG
          refine va_mmin hx hb (X.2.2.1.trans hl.1.symm) X.2.2.2.1 (X.2.2.2.2.1 _ ml_X5_59) (X.2.2.2.2.1 _ ml_mins) (X.2.2.2.2.1 _ ml_mi) (X.2.2.2.2.1 _ ml_minc) (Nat.le_of_ble_eq_true rfl) (Nat.le_of_ble_eq_true rfl) (Nat.zero_le _) (Nat.zero_le _) d_X5_line_75 ?_
          refine lv_topi (fun x14 ex14 => ?_)
          have hG := bnd_use ex14 hG
          have r15 : Rg x14 0 20 := by obtain ⟨a1, a2⟩ := r7; obtain ⟨b1, b2⟩ := hp10; rw [ex14]; split <;> rename_i q <;> first | (have := i_lt q; exact ⟨by omega, by omega⟩) | (have := i_nlt q; exact ⟨by omega, by omega⟩)
          refine r_put X hw hS FP_X5_18 (rfl : KD 20 = _) rfl ⟨rfl, rfl⟩ d_X5_line_78 (fun H locs hw hS => ?_)
          obtain ⟨v16, ev16⟩ : ∃ z, z = up2 v1 20 2 x14 := ⟨_, rfl⟩
          rw [← ev16] at hw
          have hG := bnd_use ev16 hG
          have hI17 : Inv v16 := by rw [ev16]; exact Inv.putr hI1 rfl r15
          have hK18 : Kp (kp_X5_line_20_1 k) v v16 := by rw [ev16]; exact Kp.put hK1 _ (by unfold kp_X5_line_20_1; omega)
          have hm19 : v16 1 3 = x1 := by rw [ev16, up2_n _ _ (by omega)]; exact hm3
          have hm20 : v16 20 2 = x14 := by rw [ev16, up2_s]
          refine lv_iconst (v := 0) hx hb d_X5_line_81 (by decide) ?_
          refine lv_istore_n (lv' := [(3, .int 0), (0, .ref (ad 20)), (1, .ref (ad 1)), (2, .ref (ad k))]) hx hb d_X5_line_82 rfl hl (by decide) rfl (fun ls hl => ?_)
          exact ih1 0 v16 _ _ _ (by obtain ⟨_, _⟩ := (⟨by decide, by decide⟩ : Rg 0 0 0); omega) (rg_w (⟨by decide, by decide⟩ : Rg 0 0 0) (by decide) (by decide)) hI17 hK18 hG hw hS (lv_sub hl [1, 2, 3, 0] rfl)
        · have f21 := i_nle c4
          have r22 : Rg y3 0 19 := by obtain ⟨a1, a2⟩ := r_y3; obtain ⟨b1, b2⟩ := r2; have f := i_nle c4; exact ⟨by omega, by omega⟩
          have r23 : Rg x1 1 20 := by obtain ⟨a1, a2⟩ := r_y3; obtain ⟨b1, b2⟩ := r2; have f := i_nle c4; exact ⟨by omega, by omega⟩
          have hG := g_neg c4 hG
          refine lv_aload_n hx hb d_X5_line_15 rfl (lv_at hl 1 rfl) ?_
          refine r_getr (r := 10) X hw FL_X5_27 (rfl : KD 1 = _) rfl d_X5_line_16 ?_
          refine lv_iload_n hx hb d_X5_line_19 rfl (lv_at hl 3 rfl) ?_
          refine r_aald X hw (rfl : KD 10 = _) (Or.inl rfl) (Rg.vp (b := 19) r22 (by decide)) rfl d_X5_line_20 ?_
          refine r_nm (fun kc24 ekc24 => ?_)
          have hG := bnd_use ekc24 hG
          have kc24a : 100 ≤ kc24 := by omega
          have kc24b : kc24 ≤ 119 := by have := Rg.nat r22; omega
          refine lv_astore (lv' := [(4, .ref (ad kc24)), (0, .ref (ad 20)), (1, .ref (ad 1)), (2, .ref (ad k)), (3, .int y3)]) hx hb d_X5_line_21 hl (by decide) rfl (fun ls hl => ?_)
          refine lv_aload hx hb d_X5_line_23 (lv_at hl 0 rfl) ?_
          refine r_geti X hw FL_X5_30 (KD_ship (by omega) (by omega)) (SH_ship (by omega) (by omega)) d_X5_line_25 ?_
          refine lv_topi (fun x25 ex25 => ?_)
          have hG := bnd_use ex25 hG
          refine lv_iconst (v := 1) hx hb d_X5_line_28 (by decide) ?_
          refine lv_icmp_gt (tgt := 56) hx hb d_X5_line_29 (by decide) (fun c26 => ?_) (fun c26 => ?_)
          · have f27 := i_lt c26
            have r28 : Rg x25 2 2147483647 := by obtain ⟨a1, a2⟩ := (rg_any x25); obtain ⟨b1, b2⟩ := (⟨by decide, by decide⟩ : Rg 1 1 1); have f := i_lt c26; exact ⟨by omega, by omega⟩
            have hG := g_pos c26 hG
            obtain ⟨x29, ex29⟩ : ∃ y : Int32, y = y3 + 1 := ⟨_, rfl⟩
            have hG := bnd_use ex29 hG
            refine lv_iinc (v := x29) (lv' := [(3, .int x29), (4, .ref (ad kc24)), (0, .ref (ad 20)), (1, .ref (ad 1)), (2, .ref (ad k))]) hx hb d_X5_line_56 hl (k := 4) rfl (by rw [ex29]; rfl) (by decide) rfl (fun ls hl => ?_)
            have r30 : Rg x29 1 20 := rg_add ex29 r22 (⟨by decide, by decide⟩ : Rg 1 1 1) (by decide) (by decide)
            have s31 : x29.toInt = y3.toInt + (1 : Int32).toInt := by rw [ex29]; exact i_add (by obtain ⟨_, _⟩ := r22; obtain ⟨_, _⟩ := (⟨by decide, by decide⟩ : Rg 1 1 1); omega) (by obtain ⟨_, _⟩ := r22; obtain ⟨_, _⟩ := (⟨by decide, by decide⟩ : Rg 1 1 1); omega)
            have s31l : (1 : Int32).toInt = 1 := rfl
            refine lv_goto (tgt := 7) hx hb d_X5_line_59 (by decide) ?_
            exact ih0 x29 v1 _ _ _ (by have := s31; obtain ⟨_, _⟩ := r30; omega) (rg_w r30 (by decide) (by decide)) hI1 hK1 hG hw hS (lv_sub hl [2, 3, 4, 0] rfl)
          · have f32 := i_nlt c26
            have r33 : Rg x25 (-2147483648) 1 := by obtain ⟨a1, a2⟩ := (rg_any x25); obtain ⟨b1, b2⟩ := (⟨by decide, by decide⟩ : Rg 1 1 1); have f := i_nlt c26; exact ⟨by omega, by omega⟩
            have hG := g_neg c26 hG
            refine lv_aload hx hb d_X5_line_32 (lv_at hl 0 rfl) ?_
            refine r_ci (r_runV (n := 0) (As := []) (rest := []) X hw (ct_X7_isInPort l D dA ad v1 hI1 kc24 (by omega) (by omega)) gc_X5_35 (KD_ship (by omega) (by omega)) (by decide) rfl (by decide +kernel) ⟨rfl, rfl, Nat.le_of_ble_eq_true rfl, Nat.le_of_ble_eq_true rfl⟩ rfl hl.1 rfl (Nat.le_of_ble_eq_true rfl) ⟨Nat.zero_le _, Nat.zero_le _⟩ d_X5_line_34) hS (fun x35 v36 H locs hp34 hw hS => ?_)
            obtain ⟨hp34, hE37⟩ := hp34
            obtain ⟨ev36, hp34⟩ := hp34
            rw [ev36] at hw
            have hG := bnd_use hE37 hG
            refine lv_if_eq (tgt := 56) hx hb d_X5_line_37 (by decide) (fun c38 => ?_) (fun c38 => ?_)
            · have f39 := i_eq c38
              have r40 : Rg x35 0 0 := by obtain ⟨a1, a2⟩ := hp34; obtain ⟨b1, b2⟩ := (⟨by decide, by decide⟩ : Rg 0 0 0); have f := i_eq c38; exact ⟨by omega, by omega⟩
              have hG := g_pos c38 hG
              obtain ⟨x41, ex41⟩ : ∃ y : Int32, y = y3 + 1 := ⟨_, rfl⟩
              have hG := bnd_use ex41 hG
              refine lv_iinc (v := x41) (lv' := [(3, .int x41), (4, .ref (ad kc24)), (0, .ref (ad 20)), (1, .ref (ad 1)), (2, .ref (ad k))]) hx hb d_X5_line_56 hl (k := 4) rfl (by rw [ex41]; rfl) (by decide) rfl (fun ls hl => ?_)
              have r42 : Rg x41 1 20 := rg_add ex41 r22 (⟨by decide, by decide⟩ : Rg 1 1 1) (by decide) (by decide)
              have s43 : x41.toInt = y3.toInt + (1 : Int32).toInt := by rw [ex41]; exact i_add (by obtain ⟨_, _⟩ := r22; obtain ⟨_, _⟩ := (⟨by decide, by decide⟩ : Rg 1 1 1); omega) (by obtain ⟨_, _⟩ := r22; obtain ⟨_, _⟩ := (⟨by decide, by decide⟩ : Rg 1 1 1); omega)
              have s43l : (1 : Int32).toInt = 1 := rfl
              refine lv_goto (tgt := 7) hx hb d_X5_line_59 (by decide) ?_
              exact ih0 x41 v1 _ _ _ (by have := s43; obtain ⟨_, _⟩ := r42; omega) (rg_w r42 (by decide) (by decide)) hI1 hK1 hG hw hS (lv_sub hl [2, 3, 4, 0] rfl)
            · have f44 := i_ne c38
              have r45 : Rg x35 1 1 := by obtain ⟨a1, a2⟩ := hp34; obtain ⟨b1, b2⟩ := (⟨by decide, by decide⟩ : Rg 0 0 0); have f := i_ne c38; exact ⟨by omega, by omega⟩
              have hG := g_neg c38 hG
              refine lv_aload_n hx hb d_X5_line_40 rfl (lv_at hl 1 rfl) ?_
              refine lv_iload_n hx hb d_X5_line_41 rfl (lv_at hl 4 rfl) ?_
              refine lv_iload_n hx hb d_X5_line_42 rfl (lv_at hl 4 rfl) ?_
              refine lv_aload hx hb d_X5_line_43 (lv_at hl 0 rfl) ?_
              refine lv_aload_n hx hb d_X5_line_45 rfl (lv_at hl 3 rfl) ?_
              refine lv_aload_n hx hb d_X5_line_46 rfl (lv_at hl 2 rfl) ?_
              refine r_geti X hw FL_X5_39 (rfl : KD 1 = _) rfl d_X5_line_47 ?_
              refine lv_topi (fun x46 ex46 => ?_)
              have hG := bnd_use ex46 hG
              refine r_ci (r_runS (n := 4) (As := [.int y3, .ref (ad kc24), .ref (ad k), .int x46]) (rest := [.int y3, .ref (ad 20)]) X hw (ct_X5_rank l D dA ad v1 hI1 y3 kc24 k x46 (by omega) (by omega) (by omega) (by omega)) gc_X5_42 (by decide +kernel) ⟨rfl, rfl, Nat.le_of_ble_eq_true rfl, Nat.le_of_ble_eq_true rfl⟩ rfl hl.1 rfl (Nat.le_of_ble_eq_true rfl) ⟨Nat.zero_le _, Nat.zero_le _⟩ d_X5_line_50) hS (fun x48 v49 H locs hp47 hw hS => ?_)
              obtain ⟨hp47, hE50⟩ := hp47
              rw [hp47] at hw
              have hG := bnd_use hE50 hG
              refine r_cv (r_runV (n := 2) (As := [.int y3, .int x48]) (rest := []) X hw (ct_X5_insert_20 l D dA ad v1 hI1 y3 x48 r22) gc_X5_46 (rfl : KD 20 = _) (by decide) rfl (by decide +kernel) ⟨rfl, rfl, Nat.le_of_ble_eq_true rfl, Nat.le_of_ble_eq_true rfl⟩ rfl hl.1 rfl (Nat.le_of_ble_eq_true rfl) ⟨Nat.zero_le _, Nat.zero_le _⟩ d_X5_line_53) hS (fun v52 H locs hp51 hw hS => ?_)
              obtain ⟨hp51, hE53⟩ := hp51
              obtain ⟨hI54, hK55⟩ := hp51
              have hK56 : Kp (kp_X5_line_20_1 k) v v52 := Kp.tr hK1 hK55 (by have z0 : (0 : Int32).toInt = 0 := rfl; intro a j; unfold kp_X5_line_20_1 kp_X5_insert_20; omega)
              have hG := bnd_use hE53 hG
              obtain ⟨x57, ex57⟩ : ∃ y : Int32, y = y3 + 1 := ⟨_, rfl⟩
              have hG := bnd_use ex57 hG
              refine lv_iinc (v := x57) (lv' := [(3, .int x57), (4, .ref (ad kc24)), (0, .ref (ad 20)), (1, .ref (ad 1)), (2, .ref (ad k))]) hx hb d_X5_line_56 hl (k := 4) rfl (by rw [ex57]; rfl) (by decide) rfl (fun ls hl => ?_)
              have r58 : Rg x57 1 20 := rg_add ex57 r22 (⟨by decide, by decide⟩ : Rg 1 1 1) (by decide) (by decide)
              have s59 : x57.toInt = y3.toInt + (1 : Int32).toInt := by rw [ex57]; exact i_add (by obtain ⟨_, _⟩ := r22; obtain ⟨_, _⟩ := (⟨by decide, by decide⟩ : Rg 1 1 1); omega) (by obtain ⟨_, _⟩ := r22; obtain ⟨_, _⟩ := (⟨by decide, by decide⟩ : Rg 1 1 1); omega)
              have s59l : (1 : Int32).toInt = 1 := rfl
              refine lv_goto (tgt := 7) hx hb d_X5_line_59 (by decide) ?_
              exact ih0 x57 v52 _ _ _ (by have := s59; obtain ⟨_, _⟩ := r58; omega) (rg_w r58 (by decide) (by decide)) hI54 hK56 hG hw hS (lv_sub hl [2, 3, 4, 0] rfl)
      · intro y3 v1 H locs ls hmu r_y3 hI1 hK1 hG hw hS hl
        have hG : b_X5_line_20_1_83 k (g_X5_line_20_1_83 k n) y3 v1 = RR := hG
        unfold b_X5_line_20_1_83 at hG
        refine lv_iload_n hx hb d_X5_line_83 rfl (lv_at hl 3 rfl) ?_
        refine lv_aload_n hx hb d_X5_line_84 rfl (lv_at hl 1 rfl) ?_
        refine r_geti X hw FL_X5_22 (rfl : KD 1 = _) rfl d_X5_line_85 ?_
        refine lv_topi (fun x60 ex60 => ?_)
        have hG := bnd_use ex60 hG
        have r61 : Rg x60 0 20 := by rw [ex60]; exact hI1 _ _ _ _ rfl
        have hm62 : v1 1 3 = x60 := ex60.symm
        refine lv_icmp_ge (tgt := 129) hx hb d_X5_line_88 (by decide) (fun c63 => ?_) (fun c63 => ?_)
        · have f64 := i_le c63
          have hG := g_pos c63 hG
          exact r_vret X hr hlocks hw hS ⟨⟨hI1, hK1⟩, hG.trans eRR.symm⟩ d_X5_line_129
        · have f65 := i_nle c63
          have r66 : Rg y3 0 19 := by obtain ⟨a1, a2⟩ := r_y3; obtain ⟨b1, b2⟩ := r61; have f := i_nle c63; exact ⟨by omega, by omega⟩
          have r67 : Rg x60 1 20 := by obtain ⟨a1, a2⟩ := r_y3; obtain ⟨b1, b2⟩ := r61; have f := i_nle c63; exact ⟨by omega, by omega⟩
          have hG := g_neg c63 hG
          refine lv_aload_n hx hb d_X5_line_91 rfl (lv_at hl 1 rfl) ?_
          refine r_getr (r := 10) X hw FL_X5_27 (rfl : KD 1 = _) rfl d_X5_line_92 ?_
          refine lv_iload_n hx hb d_X5_line_95 rfl (lv_at hl 3 rfl) ?_
          refine r_aald X hw (rfl : KD 10 = _) (Or.inl rfl) (Rg.vp (b := 19) r66 (by decide)) rfl d_X5_line_96 ?_
          refine r_nm (fun kc68 ekc68 => ?_)
          have hG := bnd_use ekc68 hG
          have kc68a : 100 ≤ kc68 := by omega
          have kc68b : kc68 ≤ 119 := by have := Rg.nat r66; omega
          refine lv_astore (lv' := [(4, .ref (ad kc68)), (0, .ref (ad 20)), (1, .ref (ad 1)), (2, .ref (ad k)), (3, .int y3)]) hx hb d_X5_line_97 hl (by decide) rfl (fun ls hl => ?_)
          refine lv_aload hx hb d_X5_line_99 (lv_at hl 0 rfl) ?_
          refine r_geti X hw FL_X5_30 (KD_ship (by omega) (by omega)) (SH_ship (by omega) (by omega)) d_X5_line_101 ?_
          refine lv_topi (fun x69 ex69 => ?_)
          have hG := bnd_use ex69 hG
          refine lv_iconst (v := 2) hx hb d_X5_line_104 (by decide) ?_
          refine lv_icmp_ne (tgt := 123) hx hb d_X5_line_105 (by decide) (fun c70 => ?_) (fun c70 => ?_)
          · have f71 := i_ne c70
            have hG := g_neg c70 hG
            obtain ⟨x72, ex72⟩ : ∃ y : Int32, y = y3 + 1 := ⟨_, rfl⟩
            have hG := bnd_use ex72 hG
            refine lv_iinc (v := x72) (lv' := [(3, .int x72), (4, .ref (ad kc68)), (0, .ref (ad 20)), (1, .ref (ad 1)), (2, .ref (ad k))]) hx hb d_X5_line_123 hl (k := 4) rfl (by rw [ex72]; rfl) (by decide) rfl (fun ls hl => ?_)
            have r73 : Rg x72 1 20 := rg_add ex72 r66 (⟨by decide, by decide⟩ : Rg 1 1 1) (by decide) (by decide)
            have s74 : x72.toInt = y3.toInt + (1 : Int32).toInt := by rw [ex72]; exact i_add (by obtain ⟨_, _⟩ := r66; obtain ⟨_, _⟩ := (⟨by decide, by decide⟩ : Rg 1 1 1); omega) (by obtain ⟨_, _⟩ := r66; obtain ⟨_, _⟩ := (⟨by decide, by decide⟩ : Rg 1 1 1); omega)
            have s74l : (1 : Int32).toInt = 1 := rfl
            refine lv_goto (tgt := 83) hx hb d_X5_line_126 (by decide) ?_
            exact ih1 x72 v1 _ _ _ (by have := s74; obtain ⟨_, _⟩ := r73; omega) (rg_w r73 (by decide) (by decide)) hI1 hK1 hG hw hS (lv_sub hl [2, 3, 4, 0] rfl)
          · have f75 := i_eq c70
            have r76 : Rg x69 2 2 := by obtain ⟨a1, a2⟩ := (rg_any x69); obtain ⟨b1, b2⟩ := (⟨by decide, by decide⟩ : Rg 2 2 2); have f := i_eq c70; exact ⟨by omega, by omega⟩
            have hG := g_pos c70 hG
            refine lv_aload hx hb d_X5_line_108 (lv_at hl 0 rfl) ?_
            refine r_ci (r_runV (n := 0) (As := []) (rest := []) X hw (ct_X7_isInPort l D dA ad v1 hI1 kc68 (by omega) (by omega)) gc_X5_35 (KD_ship (by omega) (by omega)) (by decide) rfl (by decide +kernel) ⟨rfl, rfl, Nat.le_of_ble_eq_true rfl, Nat.le_of_ble_eq_true rfl⟩ rfl hl.1 rfl (Nat.le_of_ble_eq_true rfl) ⟨Nat.zero_le _, Nat.zero_le _⟩ d_X5_line_110) hS (fun x78 v79 H locs hp77 hw hS => ?_)
            obtain ⟨hp77, hE80⟩ := hp77
            obtain ⟨ev79, hp77⟩ := hp77
            rw [ev79] at hw
            have hG := bnd_use hE80 hG
            refine lv_if_eq (tgt := 123) hx hb d_X5_line_113 (by decide) (fun c81 => ?_) (fun c81 => ?_)
            · have f82 := i_eq c81
              have r83 : Rg x78 0 0 := by obtain ⟨a1, a2⟩ := hp77; obtain ⟨b1, b2⟩ := (⟨by decide, by decide⟩ : Rg 0 0 0); have f := i_eq c81; exact ⟨by omega, by omega⟩
              have hG := g_pos c81 hG
              obtain ⟨x84, ex84⟩ : ∃ y : Int32, y = y3 + 1 := ⟨_, rfl⟩
              have hG := bnd_use ex84 hG
              refine lv_iinc (v := x84) (lv' := [(3, .int x84), (4, .ref (ad kc68)), (0, .ref (ad 20)), (1, .ref (ad 1)), (2, .ref (ad k))]) hx hb d_X5_line_123 hl (k := 4) rfl (by rw [ex84]; rfl) (by decide) rfl (fun ls hl => ?_)
              have r85 : Rg x84 1 20 := rg_add ex84 r66 (⟨by decide, by decide⟩ : Rg 1 1 1) (by decide) (by decide)
              have s86 : x84.toInt = y3.toInt + (1 : Int32).toInt := by rw [ex84]; exact i_add (by obtain ⟨_, _⟩ := r66; obtain ⟨_, _⟩ := (⟨by decide, by decide⟩ : Rg 1 1 1); omega) (by obtain ⟨_, _⟩ := r66; obtain ⟨_, _⟩ := (⟨by decide, by decide⟩ : Rg 1 1 1); omega)
              have s86l : (1 : Int32).toInt = 1 := rfl
              refine lv_goto (tgt := 83) hx hb d_X5_line_126 (by decide) ?_
              exact ih1 x84 v1 _ _ _ (by have := s86; obtain ⟨_, _⟩ := r85; omega) (rg_w r85 (by decide) (by decide)) hI1 hK1 hG hw hS (lv_sub hl [2, 3, 4, 0] rfl)
            · have f87 := i_ne c81
              have r88 : Rg x78 1 1 := by obtain ⟨a1, a2⟩ := hp77; obtain ⟨b1, b2⟩ := (⟨by decide, by decide⟩ : Rg 0 0 0); have f := i_ne c81; exact ⟨by omega, by omega⟩
              have hG := g_neg c81 hG
              refine lv_aload_n hx hb d_X5_line_116 rfl (lv_at hl 1 rfl) ?_
              refine lv_iload_n hx hb d_X5_line_117 rfl (lv_at hl 4 rfl) ?_
              refine lv_ldc hx hb X.2.2.2.1 (X.2.2.2.2.1 _ kc_X5_67) d_X5_line_118 ?_
              refine r_cv (r_runV (n := 2) (As := [.int y3, .int 2147483647]) (rest := []) X hw (ct_X5_insert_20 l D dA ad v1 hI1 y3 2147483647 r66) gc_X5_46 (rfl : KD 20 = _) (by decide) rfl (by decide +kernel) ⟨rfl, rfl, Nat.le_of_ble_eq_true rfl, Nat.le_of_ble_eq_true rfl⟩ rfl hl.1 rfl (Nat.le_of_ble_eq_true rfl) ⟨Nat.zero_le _, Nat.zero_le _⟩ d_X5_line_120) hS (fun v90 H locs hp89 hw hS => ?_)
              obtain ⟨hp89, hE91⟩ := hp89
              obtain ⟨hI92, hK93⟩ := hp89
              have hK94 : Kp (kp_X5_line_20_1 k) v v90 := Kp.tr hK1 hK93 (by have z0 : (0 : Int32).toInt = 0 := rfl; intro a j; unfold kp_X5_line_20_1 kp_X5_insert_20; omega)
              have hG := bnd_use hE91 hG
              obtain ⟨x95, ex95⟩ : ∃ y : Int32, y = y3 + 1 := ⟨_, rfl⟩
              have hG := bnd_use ex95 hG
              refine lv_iinc (v := x95) (lv' := [(3, .int x95), (4, .ref (ad kc68)), (0, .ref (ad 20)), (1, .ref (ad 1)), (2, .ref (ad k))]) hx hb d_X5_line_123 hl (k := 4) rfl (by rw [ex95]; rfl) (by decide) rfl (fun ls hl => ?_)
              have r96 : Rg x95 1 20 := rg_add ex95 r66 (⟨by decide, by decide⟩ : Rg 1 1 1) (by decide) (by decide)
              have s97 : x95.toInt = y3.toInt + (1 : Int32).toInt := by rw [ex95]; exact i_add (by obtain ⟨_, _⟩ := r66; obtain ⟨_, _⟩ := (⟨by decide, by decide⟩ : Rg 1 1 1); omega) (by obtain ⟨_, _⟩ := r66; obtain ⟨_, _⟩ := (⟨by decide, by decide⟩ : Rg 1 1 1); omega)
              have s97l : (1 : Int32).toInt = 1 := rfl
              refine lv_goto (tgt := 83) hx hb d_X5_line_126 (by decide) ?_
              exact ih1 x95 v90 _ _ _ (by have := s97; obtain ⟨_, _⟩ := r96; omega) (rg_w r96 (by decide) (by decide)) hI92 hK94 hG hw hS (lv_sub hl [2, 3, 4, 0] rfl)
  obtain ⟨ih0, ih1⟩ := LL 100000
  have hK0 : Kp (kp_X5_line_20_1 k) v v := Kp.rf _ v
  have hG := eRR
  unfold f_X5_line_20_1 at hG
  refine lv_aload_n hx hb d_X5_line_0 rfl (lv_at hl 0 rfl) ?_
  refine lv_iconst (v := 0) hx hb d_X5_line_1 (by decide) ?_
  refine r_put X hw hS FP_X5_18 (rfl : KD 20 = _) rfl ⟨rfl, rfl⟩ d_X5_line_2 (fun H locs hw hS => ?_)
  obtain ⟨v98, ev98⟩ : ∃ z, z = up2 v 20 2 0 := ⟨_, rfl⟩
  rw [← ev98] at hw
  have hG := bnd_use ev98 hG
  have hI99 : Inv v98 := by rw [ev98]; exact Inv.putr hI rfl (rg_w (⟨by decide, by decide⟩ : Rg 0 0 0) (by decide) (by decide))
  have hK100 : Kp (kp_X5_line_20_1 k) v v98 := by rw [ev98]; exact Kp.put hK0 _ (by unfold kp_X5_line_20_1; omega)
  have hm101 : v98 20 2 = 0 := by rw [ev98, up2_s]
  refine lv_iconst (v := 0) hx hb d_X5_line_5 (by decide) ?_
  refine lv_istore_n (lv' := [(3, .int 0), (0, .ref (ad 20)), (1, .ref (ad 1)), (2, .ref (ad k))]) hx hb d_X5_line_6 rfl hl (by decide) rfl (fun ls hl => ?_)
  exact ih0 0 v98 _ _ _ (by obtain ⟨_, _⟩ := (⟨by decide, by decide⟩ : Rg 0 0 0); omega) (rg_w (⟨by decide, by decide⟩ : Rg 0 0 0) (by decide) (by decide)) hI99 hK100 hG hw hS (lv_sub hl [1, 2, 3, 0] rfl)
def kp_X5_line_21_1 (k : Nat) (a j : Nat) : Prop := a ≠ 21 ∧ a ≠ 23 ∧ a ≠ 25
def b_X5_line_21_1_7 (k : Nat) (rc7 : Int32 → tV → tV) (rc83 : Int32 → tV → tV) (y3 : Int32) (v1 : tV) : tV := bnd (v1 1 3) fun x1 => (if x1 ≤ y3 then bnd (v1 21 2) fun x6 => bnd (v1 1 6) fun x9 => bnd (f_X3_sellers v1 k x9) fun x11 => bnd (if x11 < x6 then x11 else x6) fun x14 => bnd (up2 v1 21 2 x14) fun v16 => rc83 0 v16 else bnd (100 + y3.toNatClampNeg) fun kc24 => bnd (v1 kc24 0) fun x25 => (if (1 : Int32) < x25 then bnd (y3 + 1) fun x29 => rc7 x29 v1 else bnd (f_X7_isInPort v1 kc24) fun x35 => (if x35 = (0 : Int32) then bnd (y3 + 1) fun x41 => rc7 x41 v1 else bnd (v1 1 5) fun x46 => bnd (f_X5_rank v1 y3 kc24 k x46) fun x48 => bnd (f_X5_insert_21 v1 y3 x48) fun v52 => bnd (y3 + 1) fun x57 => rc7 x57 v52)))
def b_X5_line_21_1_83 (k : Nat) (rc83 : Int32 → tV → tV) (y3 : Int32) (v1 : tV) : tV := bnd (v1 1 3) fun x60 => (if x60 ≤ y3 then v1 else bnd (100 + y3.toNatClampNeg) fun kc68 => bnd (v1 kc68 0) fun x69 => (if x69 = (2 : Int32) then bnd (f_X7_isInPort v1 kc68) fun x78 => (if x78 = (0 : Int32) then bnd (y3 + 1) fun x84 => rc83 x84 v1 else bnd (f_X5_insert_21 v1 y3 (2147483647 : Int32)) fun v90 => bnd (y3 + 1) fun x95 => rc83 x95 v90) else bnd (y3 + 1) fun x72 => rc83 x72 v1))
def g_X5_line_21_1_83 (k : Nat) : Nat → Int32 → tV → tV
  | 0, _, v1 => v1
  | n + 1, y3, v1 => b_X5_line_21_1_83 k (g_X5_line_21_1_83 k n) y3 v1
def g_X5_line_21_1_7 (k : Nat) : Nat → Int32 → tV → tV
  | 0, _, v1 => v1
  | n + 1, y3, v1 => b_X5_line_21_1_7 k (g_X5_line_21_1_7 k n) (g_X5_line_21_1_83 k n) y3 v1
def f_X5_line_21_1 (v : tV) (k : Nat) : tV := bnd (up2 v 21 2 0) fun v98 => g_X5_line_21_1_7 k 100000 0 v98
set_option maxHeartbeats 4000000 in
set_option maxRecDepth 100000 in
theorem ct_X5_line_21_1 (l : Launch) (D : va_G) (dA : Nat → ClassId) (ad : Nat → Nat) (v : tV) (hI : Inv v) (k : Nat) (ka : 60 ≤ k) (kb : k < 69) : Met l m_X5_line [.code m_X5_line c_X5_line 5 none] ({ frames := 3, cells := 0, slots := 0, locals := 86 } : Room) (tP D dA ad v [.ref (ad 21), .ref (ad 1), .ref (ad k)]) (tQv D dA ad (fun v' => (Inv v' ∧ Kp (kp_X5_line_21_1 k) v v') ∧ v' = f_X5_line_21_1 v k)) 0 0 (tA ad) := by
  refine tMet (by decide) (Nat.le_of_ble_eq_true rfl) ?_
  intro p e s m below meth c ls X hr hlocks hw hl
  have X : CX p s m ([.ref (ad 21), .ref (ad 1), .ref (ad k)] : List Value).toArray c c_X5_line N_X5 5 D dA := X
  have hx := X.1
  have hb := X.2.1
  have hS : va_S (tA ad) s.heap s.heap [] := va_S.rf
  have hl : lv_has ls 5 [(0, .ref (ad 21)), (1, .ref (ad 1)), (2, .ref (ad k))] := hl
  obtain ⟨RR, eRR⟩ : ∃ z, f_X5_line_21_1 v k = z := ⟨_, rfl⟩
  have LL : ∀ n : Nat, (∀ (y3 : Int32) (v1 : tV) (H : Heap) (locs : List Loc) (ls : Array Slot), (20 - y3.toInt).toNat + 100 < n → Rg y3 0 20 → Inv v1 → Kp (kp_X5_line_21_1 k) v v1 → g_X5_line_21_1_7 k n y3 v1 = RR → tI D dA ad v1 H → va_S (tA ad) s.heap H locs → lv_has ls 5 [(0, .ref (ad 21)), (1, .ref (ad 1)), (2, .ref (ad k)), (3, .int y3)] → W p l e ({ frames := 3, cells := 0, slots := 0, locals := 86 } : Room) s m ([.ref (ad 21), .ref (ad 1), .ref (ad k)] : List Value).toArray below meth c H locs 0 0 (MQ below (tQv D dA ad (fun v' => (Inv v' ∧ Kp (kp_X5_line_21_1 k) v v') ∧ v' = f_X5_line_21_1 v k)) ([.ref (ad 21), .ref (ad 1), .ref (ad k)] : List Value).toArray s 0 0 (tA ad)) (F0 m 7 ls [])) ∧ (∀ (y3 : Int32) (v1 : tV) (H : Heap) (locs : List Loc) (ls : Array Slot), (20 - y3.toInt).toNat + 0 < n → Rg y3 0 20 → Inv v1 → Kp (kp_X5_line_21_1 k) v v1 → g_X5_line_21_1_83 k n y3 v1 = RR → tI D dA ad v1 H → va_S (tA ad) s.heap H locs → lv_has ls 5 [(0, .ref (ad 21)), (1, .ref (ad 1)), (2, .ref (ad k)), (3, .int y3)] → W p l e ({ frames := 3, cells := 0, slots := 0, locals := 86 } : Room) s m ([.ref (ad 21), .ref (ad 1), .ref (ad k)] : List Value).toArray below meth c H locs 0 0 (MQ below (tQv D dA ad (fun v' => (Inv v' ∧ Kp (kp_X5_line_21_1 k) v v') ∧ v' = f_X5_line_21_1 v k)) ([.ref (ad 21), .ref (ad 1), .ref (ad k)] : List Value).toArray s 0 0 (tA ad)) (F0 m 83 ls [])) := by
    intro n
    induction n with
    | zero => refine ⟨?_, ?_⟩ <;> (intros; omega)
    | succ n ih =>
      obtain ⟨ih0, ih1⟩ := ih
      refine ⟨?_, ?_⟩
      · intro y3 v1 H locs ls hmu r_y3 hI1 hK1 hG hw hS hl
        have hG : b_X5_line_21_1_7 k (g_X5_line_21_1_7 k n) (g_X5_line_21_1_83 k n) y3 v1 = RR := hG
        unfold b_X5_line_21_1_7 at hG
        refine lv_iload_n hx hb d_X5_line_7 rfl (lv_at hl 3 rfl) ?_
        refine lv_aload_n hx hb d_X5_line_8 rfl (lv_at hl 1 rfl) ?_
        refine r_geti X hw FL_X5_22 (rfl : KD 1 = _) rfl d_X5_line_9 ?_
        refine lv_topi (fun x1 ex1 => ?_)
        have hG := bnd_use ex1 hG
        have r2 : Rg x1 0 20 := by rw [ex1]; exact hI1 _ _ _ _ rfl
        have hm3 : v1 1 3 = x1 := ex1.symm
        refine lv_icmp_ge (tgt := 62) hx hb d_X5_line_12 (by decide) (fun c4 => ?_) (fun c4 => ?_)
        · have f5 := i_le c4
          have hG := g_pos c4 hG
          refine lv_aload_n hx hb d_X5_line_62 rfl (lv_at hl 0 rfl) ?_
          refine lv_aload_n hx hb d_X5_line_63 rfl (lv_at hl 0 rfl) ?_
          refine r_geti X hw FL_X5_18 (rfl : KD 21 = _) rfl d_X5_line_64 ?_
          refine lv_topi (fun x6 ex6 => ?_)
          have hG := bnd_use ex6 hG
          have r7 : Rg x6 0 20 := by rw [ex6]; exact hI1 _ _ _ _ rfl
          have hm8 : v1 21 2 = x6 := ex6.symm
          refine lv_aload_n hx hb d_X5_line_67 rfl (lv_at hl 2 rfl) ?_
          refine lv_aload_n hx hb d_X5_line_68 rfl (lv_at hl 1 rfl) ?_
          refine r_geti X hw FL_X5_50 (rfl : KD 1 = _) rfl d_X5_line_69 ?_
          refine lv_topi (fun x9 ex9 => ?_)
          have hG := bnd_use ex9 hG
          refine r_ci (r_runV (n := 1) (As := [.int x9]) (rest := [.int x6, .ref (ad 21)]) X hw (ct_X3_sellers l D dA ad v1 hI1 k x9 (by omega) (by omega)) gc_X5_53 (KD_order (by omega) (by omega)) (by decide) rfl (by decide +kernel) ⟨rfl, rfl, Nat.le_of_ble_eq_true rfl, Nat.le_of_ble_eq_true rfl⟩ rfl hl.1 rfl (Nat.le_of_ble_eq_true rfl) ⟨Nat.zero_le _, Nat.zero_le _⟩ d_X5_line_72) hS (fun x11 v12 H locs hp10 hw hS => ?_)
          obtain ⟨hp10, hE13⟩ := hp10
          obtain ⟨ev12, hp10⟩ := hp10
          rw [ev12] at hw
          have hG := bnd_use hE13 hG
          refine va_mmin hx hb (X.2.2.1.trans hl.1.symm) X.2.2.2.1 (X.2.2.2.2.1 _ ml_X5_59) (X.2.2.2.2.1 _ ml_mins) (X.2.2.2.2.1 _ ml_mi) (X.2.2.2.2.1 _ ml_minc) (Nat.le_of_ble_eq_true rfl) (Nat.le_of_ble_eq_true rfl) (Nat.zero_le _) (Nat.zero_le _) d_X5_line_75 ?_
          refine lv_topi (fun x14 ex14 => ?_)
          have hG := bnd_use ex14 hG
          have r15 : Rg x14 0 20 := by obtain ⟨a1, a2⟩ := r7; obtain ⟨b1, b2⟩ := hp10; rw [ex14]; split <;> rename_i q <;> first | (have := i_lt q; exact ⟨by omega, by omega⟩) | (have := i_nlt q; exact ⟨by omega, by omega⟩)
          refine r_put X hw hS FP_X5_18 (rfl : KD 21 = _) rfl ⟨rfl, rfl⟩ d_X5_line_78 (fun H locs hw hS => ?_)
          obtain ⟨v16, ev16⟩ : ∃ z, z = up2 v1 21 2 x14 := ⟨_, rfl⟩
          rw [← ev16] at hw
          have hG := bnd_use ev16 hG
          have hI17 : Inv v16 := by rw [ev16]; exact Inv.putr hI1 rfl r15
          have hK18 : Kp (kp_X5_line_21_1 k) v v16 := by rw [ev16]; exact Kp.put hK1 _ (by unfold kp_X5_line_21_1; omega)
          have hm19 : v16 1 3 = x1 := by rw [ev16, up2_n _ _ (by omega)]; exact hm3
          have hm20 : v16 21 2 = x14 := by rw [ev16, up2_s]
          refine lv_iconst (v := 0) hx hb d_X5_line_81 (by decide) ?_
          refine lv_istore_n (lv' := [(3, .int 0), (0, .ref (ad 21)), (1, .ref (ad 1)), (2, .ref (ad k))]) hx hb d_X5_line_82 rfl hl (by decide) rfl (fun ls hl => ?_)
          exact ih1 0 v16 _ _ _ (by obtain ⟨_, _⟩ := (⟨by decide, by decide⟩ : Rg 0 0 0); omega) (rg_w (⟨by decide, by decide⟩ : Rg 0 0 0) (by decide) (by decide)) hI17 hK18 hG hw hS (lv_sub hl [1, 2, 3, 0] rfl)
        · have f21 := i_nle c4
          have r22 : Rg y3 0 19 := by obtain ⟨a1, a2⟩ := r_y3; obtain ⟨b1, b2⟩ := r2; have f := i_nle c4; exact ⟨by omega, by omega⟩
          have r23 : Rg x1 1 20 := by obtain ⟨a1, a2⟩ := r_y3; obtain ⟨b1, b2⟩ := r2; have f := i_nle c4; exact ⟨by omega, by omega⟩
          have hG := g_neg c4 hG
          refine lv_aload_n hx hb d_X5_line_15 rfl (lv_at hl 1 rfl) ?_
          refine r_getr (r := 10) X hw FL_X5_27 (rfl : KD 1 = _) rfl d_X5_line_16 ?_
          refine lv_iload_n hx hb d_X5_line_19 rfl (lv_at hl 3 rfl) ?_
          refine r_aald X hw (rfl : KD 10 = _) (Or.inl rfl) (Rg.vp (b := 19) r22 (by decide)) rfl d_X5_line_20 ?_
          refine r_nm (fun kc24 ekc24 => ?_)
          have hG := bnd_use ekc24 hG
          have kc24a : 100 ≤ kc24 := by omega
          have kc24b : kc24 ≤ 119 := by have := Rg.nat r22; omega
          refine lv_astore (lv' := [(4, .ref (ad kc24)), (0, .ref (ad 21)), (1, .ref (ad 1)), (2, .ref (ad k)), (3, .int y3)]) hx hb d_X5_line_21 hl (by decide) rfl (fun ls hl => ?_)
          refine lv_aload hx hb d_X5_line_23 (lv_at hl 0 rfl) ?_
          refine r_geti X hw FL_X5_30 (KD_ship (by omega) (by omega)) (SH_ship (by omega) (by omega)) d_X5_line_25 ?_
          refine lv_topi (fun x25 ex25 => ?_)
          have hG := bnd_use ex25 hG
          refine lv_iconst (v := 1) hx hb d_X5_line_28 (by decide) ?_
          refine lv_icmp_gt (tgt := 56) hx hb d_X5_line_29 (by decide) (fun c26 => ?_) (fun c26 => ?_)
          · have f27 := i_lt c26
            have r28 : Rg x25 2 2147483647 := by obtain ⟨a1, a2⟩ := (rg_any x25); obtain ⟨b1, b2⟩ := (⟨by decide, by decide⟩ : Rg 1 1 1); have f := i_lt c26; exact ⟨by omega, by omega⟩
            have hG := g_pos c26 hG
            obtain ⟨x29, ex29⟩ : ∃ y : Int32, y = y3 + 1 := ⟨_, rfl⟩
            have hG := bnd_use ex29 hG
            refine lv_iinc (v := x29) (lv' := [(3, .int x29), (4, .ref (ad kc24)), (0, .ref (ad 21)), (1, .ref (ad 1)), (2, .ref (ad k))]) hx hb d_X5_line_56 hl (k := 4) rfl (by rw [ex29]; rfl) (by decide) rfl (fun ls hl => ?_)
            have r30 : Rg x29 1 20 := rg_add ex29 r22 (⟨by decide, by decide⟩ : Rg 1 1 1) (by decide) (by decide)
            have s31 : x29.toInt = y3.toInt + (1 : Int32).toInt := by rw [ex29]; exact i_add (by obtain ⟨_, _⟩ := r22; obtain ⟨_, _⟩ := (⟨by decide, by decide⟩ : Rg 1 1 1); omega) (by obtain ⟨_, _⟩ := r22; obtain ⟨_, _⟩ := (⟨by decide, by decide⟩ : Rg 1 1 1); omega)
            have s31l : (1 : Int32).toInt = 1 := rfl
            refine lv_goto (tgt := 7) hx hb d_X5_line_59 (by decide) ?_
            exact ih0 x29 v1 _ _ _ (by have := s31; obtain ⟨_, _⟩ := r30; omega) (rg_w r30 (by decide) (by decide)) hI1 hK1 hG hw hS (lv_sub hl [2, 3, 4, 0] rfl)
          · have f32 := i_nlt c26
            have r33 : Rg x25 (-2147483648) 1 := by obtain ⟨a1, a2⟩ := (rg_any x25); obtain ⟨b1, b2⟩ := (⟨by decide, by decide⟩ : Rg 1 1 1); have f := i_nlt c26; exact ⟨by omega, by omega⟩
            have hG := g_neg c26 hG
            refine lv_aload hx hb d_X5_line_32 (lv_at hl 0 rfl) ?_
            refine r_ci (r_runV (n := 0) (As := []) (rest := []) X hw (ct_X7_isInPort l D dA ad v1 hI1 kc24 (by omega) (by omega)) gc_X5_35 (KD_ship (by omega) (by omega)) (by decide) rfl (by decide +kernel) ⟨rfl, rfl, Nat.le_of_ble_eq_true rfl, Nat.le_of_ble_eq_true rfl⟩ rfl hl.1 rfl (Nat.le_of_ble_eq_true rfl) ⟨Nat.zero_le _, Nat.zero_le _⟩ d_X5_line_34) hS (fun x35 v36 H locs hp34 hw hS => ?_)
            obtain ⟨hp34, hE37⟩ := hp34
            obtain ⟨ev36, hp34⟩ := hp34
            rw [ev36] at hw
            have hG := bnd_use hE37 hG
            refine lv_if_eq (tgt := 56) hx hb d_X5_line_37 (by decide) (fun c38 => ?_) (fun c38 => ?_)
            · have f39 := i_eq c38
              have r40 : Rg x35 0 0 := by obtain ⟨a1, a2⟩ := hp34; obtain ⟨b1, b2⟩ := (⟨by decide, by decide⟩ : Rg 0 0 0); have f := i_eq c38; exact ⟨by omega, by omega⟩
              have hG := g_pos c38 hG
              obtain ⟨x41, ex41⟩ : ∃ y : Int32, y = y3 + 1 := ⟨_, rfl⟩
              have hG := bnd_use ex41 hG
              refine lv_iinc (v := x41) (lv' := [(3, .int x41), (4, .ref (ad kc24)), (0, .ref (ad 21)), (1, .ref (ad 1)), (2, .ref (ad k))]) hx hb d_X5_line_56 hl (k := 4) rfl (by rw [ex41]; rfl) (by decide) rfl (fun ls hl => ?_)
              have r42 : Rg x41 1 20 := rg_add ex41 r22 (⟨by decide, by decide⟩ : Rg 1 1 1) (by decide) (by decide)
              have s43 : x41.toInt = y3.toInt + (1 : Int32).toInt := by rw [ex41]; exact i_add (by obtain ⟨_, _⟩ := r22; obtain ⟨_, _⟩ := (⟨by decide, by decide⟩ : Rg 1 1 1); omega) (by obtain ⟨_, _⟩ := r22; obtain ⟨_, _⟩ := (⟨by decide, by decide⟩ : Rg 1 1 1); omega)
              have s43l : (1 : Int32).toInt = 1 := rfl
              refine lv_goto (tgt := 7) hx hb d_X5_line_59 (by decide) ?_
              exact ih0 x41 v1 _ _ _ (by have := s43; obtain ⟨_, _⟩ := r42; omega) (rg_w r42 (by decide) (by decide)) hI1 hK1 hG hw hS (lv_sub hl [2, 3, 4, 0] rfl)
            · have f44 := i_ne c38
              have r45 : Rg x35 1 1 := by obtain ⟨a1, a2⟩ := hp34; obtain ⟨b1, b2⟩ := (⟨by decide, by decide⟩ : Rg 0 0 0); have f := i_ne c38; exact ⟨by omega, by omega⟩
              have hG := g_neg c38 hG
              refine lv_aload_n hx hb d_X5_line_40 rfl (lv_at hl 1 rfl) ?_
              refine lv_iload_n hx hb d_X5_line_41 rfl (lv_at hl 4 rfl) ?_
              refine lv_iload_n hx hb d_X5_line_42 rfl (lv_at hl 4 rfl) ?_
              refine lv_aload hx hb d_X5_line_43 (lv_at hl 0 rfl) ?_
              refine lv_aload_n hx hb d_X5_line_45 rfl (lv_at hl 3 rfl) ?_
              refine lv_aload_n hx hb d_X5_line_46 rfl (lv_at hl 2 rfl) ?_
              refine r_geti X hw FL_X5_39 (rfl : KD 1 = _) rfl d_X5_line_47 ?_
              refine lv_topi (fun x46 ex46 => ?_)
              have hG := bnd_use ex46 hG
              refine r_ci (r_runS (n := 4) (As := [.int y3, .ref (ad kc24), .ref (ad k), .int x46]) (rest := [.int y3, .ref (ad 21)]) X hw (ct_X5_rank l D dA ad v1 hI1 y3 kc24 k x46 (by omega) (by omega) (by omega) (by omega)) gc_X5_42 (by decide +kernel) ⟨rfl, rfl, Nat.le_of_ble_eq_true rfl, Nat.le_of_ble_eq_true rfl⟩ rfl hl.1 rfl (Nat.le_of_ble_eq_true rfl) ⟨Nat.zero_le _, Nat.zero_le _⟩ d_X5_line_50) hS (fun x48 v49 H locs hp47 hw hS => ?_)
              obtain ⟨hp47, hE50⟩ := hp47
              rw [hp47] at hw
              have hG := bnd_use hE50 hG
              refine r_cv (r_runV (n := 2) (As := [.int y3, .int x48]) (rest := []) X hw (ct_X5_insert_21 l D dA ad v1 hI1 y3 x48 r22) gc_X5_46 (rfl : KD 21 = _) (by decide) rfl (by decide +kernel) ⟨rfl, rfl, Nat.le_of_ble_eq_true rfl, Nat.le_of_ble_eq_true rfl⟩ rfl hl.1 rfl (Nat.le_of_ble_eq_true rfl) ⟨Nat.zero_le _, Nat.zero_le _⟩ d_X5_line_53) hS (fun v52 H locs hp51 hw hS => ?_)
              obtain ⟨hp51, hE53⟩ := hp51
              obtain ⟨hI54, hK55⟩ := hp51
              have hK56 : Kp (kp_X5_line_21_1 k) v v52 := Kp.tr hK1 hK55 (by have z0 : (0 : Int32).toInt = 0 := rfl; intro a j; unfold kp_X5_line_21_1 kp_X5_insert_21; omega)
              have hG := bnd_use hE53 hG
              obtain ⟨x57, ex57⟩ : ∃ y : Int32, y = y3 + 1 := ⟨_, rfl⟩
              have hG := bnd_use ex57 hG
              refine lv_iinc (v := x57) (lv' := [(3, .int x57), (4, .ref (ad kc24)), (0, .ref (ad 21)), (1, .ref (ad 1)), (2, .ref (ad k))]) hx hb d_X5_line_56 hl (k := 4) rfl (by rw [ex57]; rfl) (by decide) rfl (fun ls hl => ?_)
              have r58 : Rg x57 1 20 := rg_add ex57 r22 (⟨by decide, by decide⟩ : Rg 1 1 1) (by decide) (by decide)
              have s59 : x57.toInt = y3.toInt + (1 : Int32).toInt := by rw [ex57]; exact i_add (by obtain ⟨_, _⟩ := r22; obtain ⟨_, _⟩ := (⟨by decide, by decide⟩ : Rg 1 1 1); omega) (by obtain ⟨_, _⟩ := r22; obtain ⟨_, _⟩ := (⟨by decide, by decide⟩ : Rg 1 1 1); omega)
              have s59l : (1 : Int32).toInt = 1 := rfl
              refine lv_goto (tgt := 7) hx hb d_X5_line_59 (by decide) ?_
              exact ih0 x57 v52 _ _ _ (by have := s59; obtain ⟨_, _⟩ := r58; omega) (rg_w r58 (by decide) (by decide)) hI54 hK56 hG hw hS (lv_sub hl [2, 3, 4, 0] rfl)
      · intro y3 v1 H locs ls hmu r_y3 hI1 hK1 hG hw hS hl
        have hG : b_X5_line_21_1_83 k (g_X5_line_21_1_83 k n) y3 v1 = RR := hG
        unfold b_X5_line_21_1_83 at hG
        refine lv_iload_n hx hb d_X5_line_83 rfl (lv_at hl 3 rfl) ?_
        refine lv_aload_n hx hb d_X5_line_84 rfl (lv_at hl 1 rfl) ?_
        refine r_geti X hw FL_X5_22 (rfl : KD 1 = _) rfl d_X5_line_85 ?_
        refine lv_topi (fun x60 ex60 => ?_)
        have hG := bnd_use ex60 hG
        have r61 : Rg x60 0 20 := by rw [ex60]; exact hI1 _ _ _ _ rfl
        have hm62 : v1 1 3 = x60 := ex60.symm
        refine lv_icmp_ge (tgt := 129) hx hb d_X5_line_88 (by decide) (fun c63 => ?_) (fun c63 => ?_)
        · have f64 := i_le c63
          have hG := g_pos c63 hG
          exact r_vret X hr hlocks hw hS ⟨⟨hI1, hK1⟩, hG.trans eRR.symm⟩ d_X5_line_129
        · have f65 := i_nle c63
          have r66 : Rg y3 0 19 := by obtain ⟨a1, a2⟩ := r_y3; obtain ⟨b1, b2⟩ := r61; have f := i_nle c63; exact ⟨by omega, by omega⟩
          have r67 : Rg x60 1 20 := by obtain ⟨a1, a2⟩ := r_y3; obtain ⟨b1, b2⟩ := r61; have f := i_nle c63; exact ⟨by omega, by omega⟩
          have hG := g_neg c63 hG
          refine lv_aload_n hx hb d_X5_line_91 rfl (lv_at hl 1 rfl) ?_
          refine r_getr (r := 10) X hw FL_X5_27 (rfl : KD 1 = _) rfl d_X5_line_92 ?_
          refine lv_iload_n hx hb d_X5_line_95 rfl (lv_at hl 3 rfl) ?_
          refine r_aald X hw (rfl : KD 10 = _) (Or.inl rfl) (Rg.vp (b := 19) r66 (by decide)) rfl d_X5_line_96 ?_
          refine r_nm (fun kc68 ekc68 => ?_)
          have hG := bnd_use ekc68 hG
          have kc68a : 100 ≤ kc68 := by omega
          have kc68b : kc68 ≤ 119 := by have := Rg.nat r66; omega
          refine lv_astore (lv' := [(4, .ref (ad kc68)), (0, .ref (ad 21)), (1, .ref (ad 1)), (2, .ref (ad k)), (3, .int y3)]) hx hb d_X5_line_97 hl (by decide) rfl (fun ls hl => ?_)
          refine lv_aload hx hb d_X5_line_99 (lv_at hl 0 rfl) ?_
          refine r_geti X hw FL_X5_30 (KD_ship (by omega) (by omega)) (SH_ship (by omega) (by omega)) d_X5_line_101 ?_
          refine lv_topi (fun x69 ex69 => ?_)
          have hG := bnd_use ex69 hG
          refine lv_iconst (v := 2) hx hb d_X5_line_104 (by decide) ?_
          refine lv_icmp_ne (tgt := 123) hx hb d_X5_line_105 (by decide) (fun c70 => ?_) (fun c70 => ?_)
          · have f71 := i_ne c70
            have hG := g_neg c70 hG
            obtain ⟨x72, ex72⟩ : ∃ y : Int32, y = y3 + 1 := ⟨_, rfl⟩
            have hG := bnd_use ex72 hG
            refine lv_iinc (v := x72) (lv' := [(3, .int x72), (4, .ref (ad kc68)), (0, .ref (ad 21)), (1, .ref (ad 1)), (2, .ref (ad k))]) hx hb d_X5_line_123 hl (k := 4) rfl (by rw [ex72]; rfl) (by decide) rfl (fun ls hl => ?_)
            have r73 : Rg x72 1 20 := rg_add ex72 r66 (⟨by decide, by decide⟩ : Rg 1 1 1) (by decide) (by decide)
            have s74 : x72.toInt = y3.toInt + (1 : Int32).toInt := by rw [ex72]; exact i_add (by obtain ⟨_, _⟩ := r66; obtain ⟨_, _⟩ := (⟨by decide, by decide⟩ : Rg 1 1 1); omega) (by obtain ⟨_, _⟩ := r66; obtain ⟨_, _⟩ := (⟨by decide, by decide⟩ : Rg 1 1 1); omega)
            have s74l : (1 : Int32).toInt = 1 := rfl
            refine lv_goto (tgt := 83) hx hb d_X5_line_126 (by decide) ?_
            exact ih1 x72 v1 _ _ _ (by have := s74; obtain ⟨_, _⟩ := r73; omega) (rg_w r73 (by decide) (by decide)) hI1 hK1 hG hw hS (lv_sub hl [2, 3, 4, 0] rfl)
          · have f75 := i_eq c70
            have r76 : Rg x69 2 2 := by obtain ⟨a1, a2⟩ := (rg_any x69); obtain ⟨b1, b2⟩ := (⟨by decide, by decide⟩ : Rg 2 2 2); have f := i_eq c70; exact ⟨by omega, by omega⟩
            have hG := g_pos c70 hG
            refine lv_aload hx hb d_X5_line_108 (lv_at hl 0 rfl) ?_
            refine r_ci (r_runV (n := 0) (As := []) (rest := []) X hw (ct_X7_isInPort l D dA ad v1 hI1 kc68 (by omega) (by omega)) gc_X5_35 (KD_ship (by omega) (by omega)) (by decide) rfl (by decide +kernel) ⟨rfl, rfl, Nat.le_of_ble_eq_true rfl, Nat.le_of_ble_eq_true rfl⟩ rfl hl.1 rfl (Nat.le_of_ble_eq_true rfl) ⟨Nat.zero_le _, Nat.zero_le _⟩ d_X5_line_110) hS (fun x78 v79 H locs hp77 hw hS => ?_)
            obtain ⟨hp77, hE80⟩ := hp77
            obtain ⟨ev79, hp77⟩ := hp77
            rw [ev79] at hw
            have hG := bnd_use hE80 hG
            refine lv_if_eq (tgt := 123) hx hb d_X5_line_113 (by decide) (fun c81 => ?_) (fun c81 => ?_)
            · have f82 := i_eq c81
              have r83 : Rg x78 0 0 := by obtain ⟨a1, a2⟩ := hp77; obtain ⟨b1, b2⟩ := (⟨by decide, by decide⟩ : Rg 0 0 0); have f := i_eq c81; exact ⟨by omega, by omega⟩
              have hG := g_pos c81 hG
              obtain ⟨x84, ex84⟩ : ∃ y : Int32, y = y3 + 1 := ⟨_, rfl⟩
              have hG := bnd_use ex84 hG
              refine lv_iinc (v := x84) (lv' := [(3, .int x84), (4, .ref (ad kc68)), (0, .ref (ad 21)), (1, .ref (ad 1)), (2, .ref (ad k))]) hx hb d_X5_line_123 hl (k := 4) rfl (by rw [ex84]; rfl) (by decide) rfl (fun ls hl => ?_)
              have r85 : Rg x84 1 20 := rg_add ex84 r66 (⟨by decide, by decide⟩ : Rg 1 1 1) (by decide) (by decide)
              have s86 : x84.toInt = y3.toInt + (1 : Int32).toInt := by rw [ex84]; exact i_add (by obtain ⟨_, _⟩ := r66; obtain ⟨_, _⟩ := (⟨by decide, by decide⟩ : Rg 1 1 1); omega) (by obtain ⟨_, _⟩ := r66; obtain ⟨_, _⟩ := (⟨by decide, by decide⟩ : Rg 1 1 1); omega)
              have s86l : (1 : Int32).toInt = 1 := rfl
              refine lv_goto (tgt := 83) hx hb d_X5_line_126 (by decide) ?_
              exact ih1 x84 v1 _ _ _ (by have := s86; obtain ⟨_, _⟩ := r85; omega) (rg_w r85 (by decide) (by decide)) hI1 hK1 hG hw hS (lv_sub hl [2, 3, 4, 0] rfl)
            · have f87 := i_ne c81
              have r88 : Rg x78 1 1 := by obtain ⟨a1, a2⟩ := hp77; obtain ⟨b1, b2⟩ := (⟨by decide, by decide⟩ : Rg 0 0 0); have f := i_ne c81; exact ⟨by omega, by omega⟩
              have hG := g_neg c81 hG
              refine lv_aload_n hx hb d_X5_line_116 rfl (lv_at hl 1 rfl) ?_
              refine lv_iload_n hx hb d_X5_line_117 rfl (lv_at hl 4 rfl) ?_
              refine lv_ldc hx hb X.2.2.2.1 (X.2.2.2.2.1 _ kc_X5_67) d_X5_line_118 ?_
              refine r_cv (r_runV (n := 2) (As := [.int y3, .int 2147483647]) (rest := []) X hw (ct_X5_insert_21 l D dA ad v1 hI1 y3 2147483647 r66) gc_X5_46 (rfl : KD 21 = _) (by decide) rfl (by decide +kernel) ⟨rfl, rfl, Nat.le_of_ble_eq_true rfl, Nat.le_of_ble_eq_true rfl⟩ rfl hl.1 rfl (Nat.le_of_ble_eq_true rfl) ⟨Nat.zero_le _, Nat.zero_le _⟩ d_X5_line_120) hS (fun v90 H locs hp89 hw hS => ?_)
              obtain ⟨hp89, hE91⟩ := hp89
              obtain ⟨hI92, hK93⟩ := hp89
              have hK94 : Kp (kp_X5_line_21_1 k) v v90 := Kp.tr hK1 hK93 (by have z0 : (0 : Int32).toInt = 0 := rfl; intro a j; unfold kp_X5_line_21_1 kp_X5_insert_21; omega)
              have hG := bnd_use hE91 hG
              obtain ⟨x95, ex95⟩ : ∃ y : Int32, y = y3 + 1 := ⟨_, rfl⟩
              have hG := bnd_use ex95 hG
              refine lv_iinc (v := x95) (lv' := [(3, .int x95), (4, .ref (ad kc68)), (0, .ref (ad 21)), (1, .ref (ad 1)), (2, .ref (ad k))]) hx hb d_X5_line_123 hl (k := 4) rfl (by rw [ex95]; rfl) (by decide) rfl (fun ls hl => ?_)
              have r96 : Rg x95 1 20 := rg_add ex95 r66 (⟨by decide, by decide⟩ : Rg 1 1 1) (by decide) (by decide)
              have s97 : x95.toInt = y3.toInt + (1 : Int32).toInt := by rw [ex95]; exact i_add (by obtain ⟨_, _⟩ := r66; obtain ⟨_, _⟩ := (⟨by decide, by decide⟩ : Rg 1 1 1); omega) (by obtain ⟨_, _⟩ := r66; obtain ⟨_, _⟩ := (⟨by decide, by decide⟩ : Rg 1 1 1); omega)
              have s97l : (1 : Int32).toInt = 1 := rfl
              refine lv_goto (tgt := 83) hx hb d_X5_line_126 (by decide) ?_
              exact ih1 x95 v90 _ _ _ (by have := s97; obtain ⟨_, _⟩ := r96; omega) (rg_w r96 (by decide) (by decide)) hI92 hK94 hG hw hS (lv_sub hl [2, 3, 4, 0] rfl)
  obtain ⟨ih0, ih1⟩ := LL 100000
  have hK0 : Kp (kp_X5_line_21_1 k) v v := Kp.rf _ v
  have hG := eRR
  unfold f_X5_line_21_1 at hG
  refine lv_aload_n hx hb d_X5_line_0 rfl (lv_at hl 0 rfl) ?_
  refine lv_iconst (v := 0) hx hb d_X5_line_1 (by decide) ?_
  refine r_put X hw hS FP_X5_18 (rfl : KD 21 = _) rfl ⟨rfl, rfl⟩ d_X5_line_2 (fun H locs hw hS => ?_)
  obtain ⟨v98, ev98⟩ : ∃ z, z = up2 v 21 2 0 := ⟨_, rfl⟩
  rw [← ev98] at hw
  have hG := bnd_use ev98 hG
  have hI99 : Inv v98 := by rw [ev98]; exact Inv.putr hI rfl (rg_w (⟨by decide, by decide⟩ : Rg 0 0 0) (by decide) (by decide))
  have hK100 : Kp (kp_X5_line_21_1 k) v v98 := by rw [ev98]; exact Kp.put hK0 _ (by unfold kp_X5_line_21_1; omega)
  have hm101 : v98 21 2 = 0 := by rw [ev98, up2_s]
  refine lv_iconst (v := 0) hx hb d_X5_line_5 (by decide) ?_
  refine lv_istore_n (lv' := [(3, .int 0), (0, .ref (ad 21)), (1, .ref (ad 1)), (2, .ref (ad k))]) hx hb d_X5_line_6 rfl hl (by decide) rfl (fun ls hl => ?_)
  exact ih0 0 v98 _ _ _ (by obtain ⟨_, _⟩ := (⟨by decide, by decide⟩ : Rg 0 0 0); omega) (rg_w (⟨by decide, by decide⟩ : Rg 0 0 0) (by decide) (by decide)) hI99 hK100 hG hw hS (lv_sub hl [1, 2, 3, 0] rfl)
def kp_X5_line_20_3 (k : Nat) (a j : Nat) : Prop := a ≠ 20 ∧ a ≠ 22 ∧ a ≠ 24
def b_X5_line_20_3_7 (k : Nat) (rc7 : Int32 → tV → tV) (rc83 : Int32 → tV → tV) (y3 : Int32) (v1 : tV) : tV := bnd (v1 3 3) fun x1 => (if x1 ≤ y3 then bnd (v1 20 2) fun x6 => bnd (v1 3 6) fun x9 => bnd (f_X3_sellers v1 k x9) fun x11 => bnd (if x11 < x6 then x11 else x6) fun x14 => bnd (up2 v1 20 2 x14) fun v16 => rc83 0 v16 else bnd (140 + y3.toNatClampNeg) fun kc24 => bnd (v1 kc24 0) fun x25 => (if (1 : Int32) < x25 then bnd (y3 + 1) fun x29 => rc7 x29 v1 else bnd (f_X7_isInPort v1 kc24) fun x35 => (if x35 = (0 : Int32) then bnd (y3 + 1) fun x41 => rc7 x41 v1 else bnd (v1 3 5) fun x46 => bnd (f_X5_rank v1 y3 kc24 k x46) fun x48 => bnd (f_X5_insert_20 v1 y3 x48) fun v52 => bnd (y3 + 1) fun x57 => rc7 x57 v52)))
def b_X5_line_20_3_83 (k : Nat) (rc83 : Int32 → tV → tV) (y3 : Int32) (v1 : tV) : tV := bnd (v1 3 3) fun x60 => (if x60 ≤ y3 then v1 else bnd (140 + y3.toNatClampNeg) fun kc68 => bnd (v1 kc68 0) fun x69 => (if x69 = (2 : Int32) then bnd (f_X7_isInPort v1 kc68) fun x78 => (if x78 = (0 : Int32) then bnd (y3 + 1) fun x84 => rc83 x84 v1 else bnd (f_X5_insert_20 v1 y3 (2147483647 : Int32)) fun v90 => bnd (y3 + 1) fun x95 => rc83 x95 v90) else bnd (y3 + 1) fun x72 => rc83 x72 v1))
def g_X5_line_20_3_83 (k : Nat) : Nat → Int32 → tV → tV
  | 0, _, v1 => v1
  | n + 1, y3, v1 => b_X5_line_20_3_83 k (g_X5_line_20_3_83 k n) y3 v1
def g_X5_line_20_3_7 (k : Nat) : Nat → Int32 → tV → tV
  | 0, _, v1 => v1
  | n + 1, y3, v1 => b_X5_line_20_3_7 k (g_X5_line_20_3_7 k n) (g_X5_line_20_3_83 k n) y3 v1
def f_X5_line_20_3 (v : tV) (k : Nat) : tV := bnd (up2 v 20 2 0) fun v98 => g_X5_line_20_3_7 k 100000 0 v98
set_option maxHeartbeats 4000000 in
set_option maxRecDepth 100000 in
theorem ct_X5_line_20_3 (l : Launch) (D : va_G) (dA : Nat → ClassId) (ad : Nat → Nat) (v : tV) (hI : Inv v) (k : Nat) (ka : 60 ≤ k) (kb : k < 69) : Met l m_X5_line [.code m_X5_line c_X5_line 5 none] ({ frames := 3, cells := 0, slots := 0, locals := 86 } : Room) (tP D dA ad v [.ref (ad 20), .ref (ad 3), .ref (ad k)]) (tQv D dA ad (fun v' => (Inv v' ∧ Kp (kp_X5_line_20_3 k) v v') ∧ v' = f_X5_line_20_3 v k)) 0 0 (tA ad) := by
  refine tMet (by decide) (Nat.le_of_ble_eq_true rfl) ?_
  intro p e s m below meth c ls X hr hlocks hw hl
  have X : CX p s m ([.ref (ad 20), .ref (ad 3), .ref (ad k)] : List Value).toArray c c_X5_line N_X5 5 D dA := X
  have hx := X.1
  have hb := X.2.1
  have hS : va_S (tA ad) s.heap s.heap [] := va_S.rf
  have hl : lv_has ls 5 [(0, .ref (ad 20)), (1, .ref (ad 3)), (2, .ref (ad k))] := hl
  obtain ⟨RR, eRR⟩ : ∃ z, f_X5_line_20_3 v k = z := ⟨_, rfl⟩
  have LL : ∀ n : Nat, (∀ (y3 : Int32) (v1 : tV) (H : Heap) (locs : List Loc) (ls : Array Slot), (20 - y3.toInt).toNat + 100 < n → Rg y3 0 20 → Inv v1 → Kp (kp_X5_line_20_3 k) v v1 → g_X5_line_20_3_7 k n y3 v1 = RR → tI D dA ad v1 H → va_S (tA ad) s.heap H locs → lv_has ls 5 [(0, .ref (ad 20)), (1, .ref (ad 3)), (2, .ref (ad k)), (3, .int y3)] → W p l e ({ frames := 3, cells := 0, slots := 0, locals := 86 } : Room) s m ([.ref (ad 20), .ref (ad 3), .ref (ad k)] : List Value).toArray below meth c H locs 0 0 (MQ below (tQv D dA ad (fun v' => (Inv v' ∧ Kp (kp_X5_line_20_3 k) v v') ∧ v' = f_X5_line_20_3 v k)) ([.ref (ad 20), .ref (ad 3), .ref (ad k)] : List Value).toArray s 0 0 (tA ad)) (F0 m 7 ls [])) ∧ (∀ (y3 : Int32) (v1 : tV) (H : Heap) (locs : List Loc) (ls : Array Slot), (20 - y3.toInt).toNat + 0 < n → Rg y3 0 20 → Inv v1 → Kp (kp_X5_line_20_3 k) v v1 → g_X5_line_20_3_83 k n y3 v1 = RR → tI D dA ad v1 H → va_S (tA ad) s.heap H locs → lv_has ls 5 [(0, .ref (ad 20)), (1, .ref (ad 3)), (2, .ref (ad k)), (3, .int y3)] → W p l e ({ frames := 3, cells := 0, slots := 0, locals := 86 } : Room) s m ([.ref (ad 20), .ref (ad 3), .ref (ad k)] : List Value).toArray below meth c H locs 0 0 (MQ below (tQv D dA ad (fun v' => (Inv v' ∧ Kp (kp_X5_line_20_3 k) v v') ∧ v' = f_X5_line_20_3 v k)) ([.ref (ad 20), .ref (ad 3), .ref (ad k)] : List Value).toArray s 0 0 (tA ad)) (F0 m 83 ls [])) := by
    intro n
    induction n with
    | zero => refine ⟨?_, ?_⟩ <;> (intros; omega)
    | succ n ih =>
      obtain ⟨ih0, ih1⟩ := ih
      refine ⟨?_, ?_⟩
      · intro y3 v1 H locs ls hmu r_y3 hI1 hK1 hG hw hS hl
        have hG : b_X5_line_20_3_7 k (g_X5_line_20_3_7 k n) (g_X5_line_20_3_83 k n) y3 v1 = RR := hG
        unfold b_X5_line_20_3_7 at hG
        refine lv_iload_n hx hb d_X5_line_7 rfl (lv_at hl 3 rfl) ?_
        refine lv_aload_n hx hb d_X5_line_8 rfl (lv_at hl 1 rfl) ?_
        refine r_geti X hw FL_X5_22 (rfl : KD 3 = _) rfl d_X5_line_9 ?_
        refine lv_topi (fun x1 ex1 => ?_)
        have hG := bnd_use ex1 hG
        have r2 : Rg x1 0 20 := by rw [ex1]; exact hI1 _ _ _ _ rfl
        have hm3 : v1 3 3 = x1 := ex1.symm
        refine lv_icmp_ge (tgt := 62) hx hb d_X5_line_12 (by decide) (fun c4 => ?_) (fun c4 => ?_)
        · have f5 := i_le c4
          have hG := g_pos c4 hG
          refine lv_aload_n hx hb d_X5_line_62 rfl (lv_at hl 0 rfl) ?_
          refine lv_aload_n hx hb d_X5_line_63 rfl (lv_at hl 0 rfl) ?_
          refine r_geti X hw FL_X5_18 (rfl : KD 20 = _) rfl d_X5_line_64 ?_
          refine lv_topi (fun x6 ex6 => ?_)
          have hG := bnd_use ex6 hG
          have r7 : Rg x6 0 20 := by rw [ex6]; exact hI1 _ _ _ _ rfl
          have hm8 : v1 20 2 = x6 := ex6.symm
          refine lv_aload_n hx hb d_X5_line_67 rfl (lv_at hl 2 rfl) ?_
          refine lv_aload_n hx hb d_X5_line_68 rfl (lv_at hl 1 rfl) ?_
          refine r_geti X hw FL_X5_50 (rfl : KD 3 = _) rfl d_X5_line_69 ?_
          refine lv_topi (fun x9 ex9 => ?_)
          have hG := bnd_use ex9 hG
          refine r_ci (r_runV (n := 1) (As := [.int x9]) (rest := [.int x6, .ref (ad 20)]) X hw (ct_X3_sellers l D dA ad v1 hI1 k x9 (by omega) (by omega)) gc_X5_53 (KD_order (by omega) (by omega)) (by decide) rfl (by decide +kernel) ⟨rfl, rfl, Nat.le_of_ble_eq_true rfl, Nat.le_of_ble_eq_true rfl⟩ rfl hl.1 rfl (Nat.le_of_ble_eq_true rfl) ⟨Nat.zero_le _, Nat.zero_le _⟩ d_X5_line_72) hS (fun x11 v12 H locs hp10 hw hS => ?_)
          obtain ⟨hp10, hE13⟩ := hp10
          obtain ⟨ev12, hp10⟩ := hp10
          rw [ev12] at hw
          have hG := bnd_use hE13 hG
          refine va_mmin hx hb (X.2.2.1.trans hl.1.symm) X.2.2.2.1 (X.2.2.2.2.1 _ ml_X5_59) (X.2.2.2.2.1 _ ml_mins) (X.2.2.2.2.1 _ ml_mi) (X.2.2.2.2.1 _ ml_minc) (Nat.le_of_ble_eq_true rfl) (Nat.le_of_ble_eq_true rfl) (Nat.zero_le _) (Nat.zero_le _) d_X5_line_75 ?_
          refine lv_topi (fun x14 ex14 => ?_)
          have hG := bnd_use ex14 hG
          have r15 : Rg x14 0 20 := by obtain ⟨a1, a2⟩ := r7; obtain ⟨b1, b2⟩ := hp10; rw [ex14]; split <;> rename_i q <;> first | (have := i_lt q; exact ⟨by omega, by omega⟩) | (have := i_nlt q; exact ⟨by omega, by omega⟩)
          refine r_put X hw hS FP_X5_18 (rfl : KD 20 = _) rfl ⟨rfl, rfl⟩ d_X5_line_78 (fun H locs hw hS => ?_)
          obtain ⟨v16, ev16⟩ : ∃ z, z = up2 v1 20 2 x14 := ⟨_, rfl⟩
          rw [← ev16] at hw
          have hG := bnd_use ev16 hG
          have hI17 : Inv v16 := by rw [ev16]; exact Inv.putr hI1 rfl r15
          have hK18 : Kp (kp_X5_line_20_3 k) v v16 := by rw [ev16]; exact Kp.put hK1 _ (by unfold kp_X5_line_20_3; omega)
          have hm19 : v16 3 3 = x1 := by rw [ev16, up2_n _ _ (by omega)]; exact hm3
          have hm20 : v16 20 2 = x14 := by rw [ev16, up2_s]
          refine lv_iconst (v := 0) hx hb d_X5_line_81 (by decide) ?_
          refine lv_istore_n (lv' := [(3, .int 0), (0, .ref (ad 20)), (1, .ref (ad 3)), (2, .ref (ad k))]) hx hb d_X5_line_82 rfl hl (by decide) rfl (fun ls hl => ?_)
          exact ih1 0 v16 _ _ _ (by obtain ⟨_, _⟩ := (⟨by decide, by decide⟩ : Rg 0 0 0); omega) (rg_w (⟨by decide, by decide⟩ : Rg 0 0 0) (by decide) (by decide)) hI17 hK18 hG hw hS (lv_sub hl [1, 2, 3, 0] rfl)
        · have f21 := i_nle c4
          have r22 : Rg y3 0 19 := by obtain ⟨a1, a2⟩ := r_y3; obtain ⟨b1, b2⟩ := r2; have f := i_nle c4; exact ⟨by omega, by omega⟩
          have r23 : Rg x1 1 20 := by obtain ⟨a1, a2⟩ := r_y3; obtain ⟨b1, b2⟩ := r2; have f := i_nle c4; exact ⟨by omega, by omega⟩
          have hG := g_neg c4 hG
          refine lv_aload_n hx hb d_X5_line_15 rfl (lv_at hl 1 rfl) ?_
          refine r_getr (r := 12) X hw FL_X5_27 (rfl : KD 3 = _) rfl d_X5_line_16 ?_
          refine lv_iload_n hx hb d_X5_line_19 rfl (lv_at hl 3 rfl) ?_
          refine r_aald X hw (rfl : KD 12 = _) (Or.inl rfl) (Rg.vp (b := 19) r22 (by decide)) rfl d_X5_line_20 ?_
          refine r_nm (fun kc24 ekc24 => ?_)
          have hG := bnd_use ekc24 hG
          have kc24a : 140 ≤ kc24 := by omega
          have kc24b : kc24 ≤ 159 := by have := Rg.nat r22; omega
          refine lv_astore (lv' := [(4, .ref (ad kc24)), (0, .ref (ad 20)), (1, .ref (ad 3)), (2, .ref (ad k)), (3, .int y3)]) hx hb d_X5_line_21 hl (by decide) rfl (fun ls hl => ?_)
          refine lv_aload hx hb d_X5_line_23 (lv_at hl 0 rfl) ?_
          refine r_geti X hw FL_X5_30 (KD_ship (by omega) (by omega)) (SH_ship (by omega) (by omega)) d_X5_line_25 ?_
          refine lv_topi (fun x25 ex25 => ?_)
          have hG := bnd_use ex25 hG
          refine lv_iconst (v := 1) hx hb d_X5_line_28 (by decide) ?_
          refine lv_icmp_gt (tgt := 56) hx hb d_X5_line_29 (by decide) (fun c26 => ?_) (fun c26 => ?_)
          · have f27 := i_lt c26
            have r28 : Rg x25 2 2147483647 := by obtain ⟨a1, a2⟩ := (rg_any x25); obtain ⟨b1, b2⟩ := (⟨by decide, by decide⟩ : Rg 1 1 1); have f := i_lt c26; exact ⟨by omega, by omega⟩
            have hG := g_pos c26 hG
            obtain ⟨x29, ex29⟩ : ∃ y : Int32, y = y3 + 1 := ⟨_, rfl⟩
            have hG := bnd_use ex29 hG
            refine lv_iinc (v := x29) (lv' := [(3, .int x29), (4, .ref (ad kc24)), (0, .ref (ad 20)), (1, .ref (ad 3)), (2, .ref (ad k))]) hx hb d_X5_line_56 hl (k := 4) rfl (by rw [ex29]; rfl) (by decide) rfl (fun ls hl => ?_)
            have r30 : Rg x29 1 20 := rg_add ex29 r22 (⟨by decide, by decide⟩ : Rg 1 1 1) (by decide) (by decide)
            have s31 : x29.toInt = y3.toInt + (1 : Int32).toInt := by rw [ex29]; exact i_add (by obtain ⟨_, _⟩ := r22; obtain ⟨_, _⟩ := (⟨by decide, by decide⟩ : Rg 1 1 1); omega) (by obtain ⟨_, _⟩ := r22; obtain ⟨_, _⟩ := (⟨by decide, by decide⟩ : Rg 1 1 1); omega)
            have s31l : (1 : Int32).toInt = 1 := rfl
            refine lv_goto (tgt := 7) hx hb d_X5_line_59 (by decide) ?_
            exact ih0 x29 v1 _ _ _ (by have := s31; obtain ⟨_, _⟩ := r30; omega) (rg_w r30 (by decide) (by decide)) hI1 hK1 hG hw hS (lv_sub hl [2, 3, 4, 0] rfl)
          · have f32 := i_nlt c26
            have r33 : Rg x25 (-2147483648) 1 := by obtain ⟨a1, a2⟩ := (rg_any x25); obtain ⟨b1, b2⟩ := (⟨by decide, by decide⟩ : Rg 1 1 1); have f := i_nlt c26; exact ⟨by omega, by omega⟩
            have hG := g_neg c26 hG
            refine lv_aload hx hb d_X5_line_32 (lv_at hl 0 rfl) ?_
            refine r_ci (r_runV (n := 0) (As := []) (rest := []) X hw (ct_X7_isInPort l D dA ad v1 hI1 kc24 (by omega) (by omega)) gc_X5_35 (KD_ship (by omega) (by omega)) (by decide) rfl (by decide +kernel) ⟨rfl, rfl, Nat.le_of_ble_eq_true rfl, Nat.le_of_ble_eq_true rfl⟩ rfl hl.1 rfl (Nat.le_of_ble_eq_true rfl) ⟨Nat.zero_le _, Nat.zero_le _⟩ d_X5_line_34) hS (fun x35 v36 H locs hp34 hw hS => ?_)
            obtain ⟨hp34, hE37⟩ := hp34
            obtain ⟨ev36, hp34⟩ := hp34
            rw [ev36] at hw
            have hG := bnd_use hE37 hG
            refine lv_if_eq (tgt := 56) hx hb d_X5_line_37 (by decide) (fun c38 => ?_) (fun c38 => ?_)
            · have f39 := i_eq c38
              have r40 : Rg x35 0 0 := by obtain ⟨a1, a2⟩ := hp34; obtain ⟨b1, b2⟩ := (⟨by decide, by decide⟩ : Rg 0 0 0); have f := i_eq c38; exact ⟨by omega, by omega⟩
              have hG := g_pos c38 hG
              obtain ⟨x41, ex41⟩ : ∃ y : Int32, y = y3 + 1 := ⟨_, rfl⟩
              have hG := bnd_use ex41 hG
              refine lv_iinc (v := x41) (lv' := [(3, .int x41), (4, .ref (ad kc24)), (0, .ref (ad 20)), (1, .ref (ad 3)), (2, .ref (ad k))]) hx hb d_X5_line_56 hl (k := 4) rfl (by rw [ex41]; rfl) (by decide) rfl (fun ls hl => ?_)
              have r42 : Rg x41 1 20 := rg_add ex41 r22 (⟨by decide, by decide⟩ : Rg 1 1 1) (by decide) (by decide)
              have s43 : x41.toInt = y3.toInt + (1 : Int32).toInt := by rw [ex41]; exact i_add (by obtain ⟨_, _⟩ := r22; obtain ⟨_, _⟩ := (⟨by decide, by decide⟩ : Rg 1 1 1); omega) (by obtain ⟨_, _⟩ := r22; obtain ⟨_, _⟩ := (⟨by decide, by decide⟩ : Rg 1 1 1); omega)
              have s43l : (1 : Int32).toInt = 1 := rfl
              refine lv_goto (tgt := 7) hx hb d_X5_line_59 (by decide) ?_
              exact ih0 x41 v1 _ _ _ (by have := s43; obtain ⟨_, _⟩ := r42; omega) (rg_w r42 (by decide) (by decide)) hI1 hK1 hG hw hS (lv_sub hl [2, 3, 4, 0] rfl)
            · have f44 := i_ne c38
              have r45 : Rg x35 1 1 := by obtain ⟨a1, a2⟩ := hp34; obtain ⟨b1, b2⟩ := (⟨by decide, by decide⟩ : Rg 0 0 0); have f := i_ne c38; exact ⟨by omega, by omega⟩
              have hG := g_neg c38 hG
              refine lv_aload_n hx hb d_X5_line_40 rfl (lv_at hl 1 rfl) ?_
              refine lv_iload_n hx hb d_X5_line_41 rfl (lv_at hl 4 rfl) ?_
              refine lv_iload_n hx hb d_X5_line_42 rfl (lv_at hl 4 rfl) ?_
              refine lv_aload hx hb d_X5_line_43 (lv_at hl 0 rfl) ?_
              refine lv_aload_n hx hb d_X5_line_45 rfl (lv_at hl 3 rfl) ?_
              refine lv_aload_n hx hb d_X5_line_46 rfl (lv_at hl 2 rfl) ?_
              refine r_geti X hw FL_X5_39 (rfl : KD 3 = _) rfl d_X5_line_47 ?_
              refine lv_topi (fun x46 ex46 => ?_)
              have hG := bnd_use ex46 hG
              refine r_ci (r_runS (n := 4) (As := [.int y3, .ref (ad kc24), .ref (ad k), .int x46]) (rest := [.int y3, .ref (ad 20)]) X hw (ct_X5_rank l D dA ad v1 hI1 y3 kc24 k x46 (by omega) (by omega) (by omega) (by omega)) gc_X5_42 (by decide +kernel) ⟨rfl, rfl, Nat.le_of_ble_eq_true rfl, Nat.le_of_ble_eq_true rfl⟩ rfl hl.1 rfl (Nat.le_of_ble_eq_true rfl) ⟨Nat.zero_le _, Nat.zero_le _⟩ d_X5_line_50) hS (fun x48 v49 H locs hp47 hw hS => ?_)
              obtain ⟨hp47, hE50⟩ := hp47
              rw [hp47] at hw
              have hG := bnd_use hE50 hG
              refine r_cv (r_runV (n := 2) (As := [.int y3, .int x48]) (rest := []) X hw (ct_X5_insert_20 l D dA ad v1 hI1 y3 x48 r22) gc_X5_46 (rfl : KD 20 = _) (by decide) rfl (by decide +kernel) ⟨rfl, rfl, Nat.le_of_ble_eq_true rfl, Nat.le_of_ble_eq_true rfl⟩ rfl hl.1 rfl (Nat.le_of_ble_eq_true rfl) ⟨Nat.zero_le _, Nat.zero_le _⟩ d_X5_line_53) hS (fun v52 H locs hp51 hw hS => ?_)
              obtain ⟨hp51, hE53⟩ := hp51
              obtain ⟨hI54, hK55⟩ := hp51
              have hK56 : Kp (kp_X5_line_20_3 k) v v52 := Kp.tr hK1 hK55 (by have z0 : (0 : Int32).toInt = 0 := rfl; intro a j; unfold kp_X5_line_20_3 kp_X5_insert_20; omega)
              have hG := bnd_use hE53 hG
              obtain ⟨x57, ex57⟩ : ∃ y : Int32, y = y3 + 1 := ⟨_, rfl⟩
              have hG := bnd_use ex57 hG
              refine lv_iinc (v := x57) (lv' := [(3, .int x57), (4, .ref (ad kc24)), (0, .ref (ad 20)), (1, .ref (ad 3)), (2, .ref (ad k))]) hx hb d_X5_line_56 hl (k := 4) rfl (by rw [ex57]; rfl) (by decide) rfl (fun ls hl => ?_)
              have r58 : Rg x57 1 20 := rg_add ex57 r22 (⟨by decide, by decide⟩ : Rg 1 1 1) (by decide) (by decide)
              have s59 : x57.toInt = y3.toInt + (1 : Int32).toInt := by rw [ex57]; exact i_add (by obtain ⟨_, _⟩ := r22; obtain ⟨_, _⟩ := (⟨by decide, by decide⟩ : Rg 1 1 1); omega) (by obtain ⟨_, _⟩ := r22; obtain ⟨_, _⟩ := (⟨by decide, by decide⟩ : Rg 1 1 1); omega)
              have s59l : (1 : Int32).toInt = 1 := rfl
              refine lv_goto (tgt := 7) hx hb d_X5_line_59 (by decide) ?_
              exact ih0 x57 v52 _ _ _ (by have := s59; obtain ⟨_, _⟩ := r58; omega) (rg_w r58 (by decide) (by decide)) hI54 hK56 hG hw hS (lv_sub hl [2, 3, 4, 0] rfl)
      · intro y3 v1 H locs ls hmu r_y3 hI1 hK1 hG hw hS hl
        have hG : b_X5_line_20_3_83 k (g_X5_line_20_3_83 k n) y3 v1 = RR := hG
        unfold b_X5_line_20_3_83 at hG
        refine lv_iload_n hx hb d_X5_line_83 rfl (lv_at hl 3 rfl) ?_
        refine lv_aload_n hx hb d_X5_line_84 rfl (lv_at hl 1 rfl) ?_
        refine r_geti X hw FL_X5_22 (rfl : KD 3 = _) rfl d_X5_line_85 ?_
        refine lv_topi (fun x60 ex60 => ?_)
        have hG := bnd_use ex60 hG
        have r61 : Rg x60 0 20 := by rw [ex60]; exact hI1 _ _ _ _ rfl
        have hm62 : v1 3 3 = x60 := ex60.symm
        refine lv_icmp_ge (tgt := 129) hx hb d_X5_line_88 (by decide) (fun c63 => ?_) (fun c63 => ?_)
        · have f64 := i_le c63
          have hG := g_pos c63 hG
          exact r_vret X hr hlocks hw hS ⟨⟨hI1, hK1⟩, hG.trans eRR.symm⟩ d_X5_line_129
        · have f65 := i_nle c63
          have r66 : Rg y3 0 19 := by obtain ⟨a1, a2⟩ := r_y3; obtain ⟨b1, b2⟩ := r61; have f := i_nle c63; exact ⟨by omega, by omega⟩
          have r67 : Rg x60 1 20 := by obtain ⟨a1, a2⟩ := r_y3; obtain ⟨b1, b2⟩ := r61; have f := i_nle c63; exact ⟨by omega, by omega⟩
          have hG := g_neg c63 hG
          refine lv_aload_n hx hb d_X5_line_91 rfl (lv_at hl 1 rfl) ?_
          refine r_getr (r := 12) X hw FL_X5_27 (rfl : KD 3 = _) rfl d_X5_line_92 ?_
          refine lv_iload_n hx hb d_X5_line_95 rfl (lv_at hl 3 rfl) ?_
          refine r_aald X hw (rfl : KD 12 = _) (Or.inl rfl) (Rg.vp (b := 19) r66 (by decide)) rfl d_X5_line_96 ?_
          refine r_nm (fun kc68 ekc68 => ?_)
          have hG := bnd_use ekc68 hG
          have kc68a : 140 ≤ kc68 := by omega
          have kc68b : kc68 ≤ 159 := by have := Rg.nat r66; omega
          refine lv_astore (lv' := [(4, .ref (ad kc68)), (0, .ref (ad 20)), (1, .ref (ad 3)), (2, .ref (ad k)), (3, .int y3)]) hx hb d_X5_line_97 hl (by decide) rfl (fun ls hl => ?_)
          refine lv_aload hx hb d_X5_line_99 (lv_at hl 0 rfl) ?_
          refine r_geti X hw FL_X5_30 (KD_ship (by omega) (by omega)) (SH_ship (by omega) (by omega)) d_X5_line_101 ?_
          refine lv_topi (fun x69 ex69 => ?_)
          have hG := bnd_use ex69 hG
          refine lv_iconst (v := 2) hx hb d_X5_line_104 (by decide) ?_
          refine lv_icmp_ne (tgt := 123) hx hb d_X5_line_105 (by decide) (fun c70 => ?_) (fun c70 => ?_)
          · have f71 := i_ne c70
            have hG := g_neg c70 hG
            obtain ⟨x72, ex72⟩ : ∃ y : Int32, y = y3 + 1 := ⟨_, rfl⟩
            have hG := bnd_use ex72 hG
            refine lv_iinc (v := x72) (lv' := [(3, .int x72), (4, .ref (ad kc68)), (0, .ref (ad 20)), (1, .ref (ad 3)), (2, .ref (ad k))]) hx hb d_X5_line_123 hl (k := 4) rfl (by rw [ex72]; rfl) (by decide) rfl (fun ls hl => ?_)
            have r73 : Rg x72 1 20 := rg_add ex72 r66 (⟨by decide, by decide⟩ : Rg 1 1 1) (by decide) (by decide)
            have s74 : x72.toInt = y3.toInt + (1 : Int32).toInt := by rw [ex72]; exact i_add (by obtain ⟨_, _⟩ := r66; obtain ⟨_, _⟩ := (⟨by decide, by decide⟩ : Rg 1 1 1); omega) (by obtain ⟨_, _⟩ := r66; obtain ⟨_, _⟩ := (⟨by decide, by decide⟩ : Rg 1 1 1); omega)
            have s74l : (1 : Int32).toInt = 1 := rfl
            refine lv_goto (tgt := 83) hx hb d_X5_line_126 (by decide) ?_
            exact ih1 x72 v1 _ _ _ (by have := s74; obtain ⟨_, _⟩ := r73; omega) (rg_w r73 (by decide) (by decide)) hI1 hK1 hG hw hS (lv_sub hl [2, 3, 4, 0] rfl)
          · have f75 := i_eq c70
            have r76 : Rg x69 2 2 := by obtain ⟨a1, a2⟩ := (rg_any x69); obtain ⟨b1, b2⟩ := (⟨by decide, by decide⟩ : Rg 2 2 2); have f := i_eq c70; exact ⟨by omega, by omega⟩
            have hG := g_pos c70 hG
            refine lv_aload hx hb d_X5_line_108 (lv_at hl 0 rfl) ?_
            refine r_ci (r_runV (n := 0) (As := []) (rest := []) X hw (ct_X7_isInPort l D dA ad v1 hI1 kc68 (by omega) (by omega)) gc_X5_35 (KD_ship (by omega) (by omega)) (by decide) rfl (by decide +kernel) ⟨rfl, rfl, Nat.le_of_ble_eq_true rfl, Nat.le_of_ble_eq_true rfl⟩ rfl hl.1 rfl (Nat.le_of_ble_eq_true rfl) ⟨Nat.zero_le _, Nat.zero_le _⟩ d_X5_line_110) hS (fun x78 v79 H locs hp77 hw hS => ?_)
            obtain ⟨hp77, hE80⟩ := hp77
            obtain ⟨ev79, hp77⟩ := hp77
            rw [ev79] at hw
            have hG := bnd_use hE80 hG
            refine lv_if_eq (tgt := 123) hx hb d_X5_line_113 (by decide) (fun c81 => ?_) (fun c81 => ?_)
            · have f82 := i_eq c81
              have r83 : Rg x78 0 0 := by obtain ⟨a1, a2⟩ := hp77; obtain ⟨b1, b2⟩ := (⟨by decide, by decide⟩ : Rg 0 0 0); have f := i_eq c81; exact ⟨by omega, by omega⟩
              have hG := g_pos c81 hG
              obtain ⟨x84, ex84⟩ : ∃ y : Int32, y = y3 + 1 := ⟨_, rfl⟩
              have hG := bnd_use ex84 hG
              refine lv_iinc (v := x84) (lv' := [(3, .int x84), (4, .ref (ad kc68)), (0, .ref (ad 20)), (1, .ref (ad 3)), (2, .ref (ad k))]) hx hb d_X5_line_123 hl (k := 4) rfl (by rw [ex84]; rfl) (by decide) rfl (fun ls hl => ?_)
              have r85 : Rg x84 1 20 := rg_add ex84 r66 (⟨by decide, by decide⟩ : Rg 1 1 1) (by decide) (by decide)
              have s86 : x84.toInt = y3.toInt + (1 : Int32).toInt := by rw [ex84]; exact i_add (by obtain ⟨_, _⟩ := r66; obtain ⟨_, _⟩ := (⟨by decide, by decide⟩ : Rg 1 1 1); omega) (by obtain ⟨_, _⟩ := r66; obtain ⟨_, _⟩ := (⟨by decide, by decide⟩ : Rg 1 1 1); omega)
              have s86l : (1 : Int32).toInt = 1 := rfl
              refine lv_goto (tgt := 83) hx hb d_X5_line_126 (by decide) ?_
              exact ih1 x84 v1 _ _ _ (by have := s86; obtain ⟨_, _⟩ := r85; omega) (rg_w r85 (by decide) (by decide)) hI1 hK1 hG hw hS (lv_sub hl [2, 3, 4, 0] rfl)
            · have f87 := i_ne c81
              have r88 : Rg x78 1 1 := by obtain ⟨a1, a2⟩ := hp77; obtain ⟨b1, b2⟩ := (⟨by decide, by decide⟩ : Rg 0 0 0); have f := i_ne c81; exact ⟨by omega, by omega⟩
              have hG := g_neg c81 hG
              refine lv_aload_n hx hb d_X5_line_116 rfl (lv_at hl 1 rfl) ?_
              refine lv_iload_n hx hb d_X5_line_117 rfl (lv_at hl 4 rfl) ?_
              refine lv_ldc hx hb X.2.2.2.1 (X.2.2.2.2.1 _ kc_X5_67) d_X5_line_118 ?_
              refine r_cv (r_runV (n := 2) (As := [.int y3, .int 2147483647]) (rest := []) X hw (ct_X5_insert_20 l D dA ad v1 hI1 y3 2147483647 r66) gc_X5_46 (rfl : KD 20 = _) (by decide) rfl (by decide +kernel) ⟨rfl, rfl, Nat.le_of_ble_eq_true rfl, Nat.le_of_ble_eq_true rfl⟩ rfl hl.1 rfl (Nat.le_of_ble_eq_true rfl) ⟨Nat.zero_le _, Nat.zero_le _⟩ d_X5_line_120) hS (fun v90 H locs hp89 hw hS => ?_)
              obtain ⟨hp89, hE91⟩ := hp89
              obtain ⟨hI92, hK93⟩ := hp89
              have hK94 : Kp (kp_X5_line_20_3 k) v v90 := Kp.tr hK1 hK93 (by have z0 : (0 : Int32).toInt = 0 := rfl; intro a j; unfold kp_X5_line_20_3 kp_X5_insert_20; omega)
              have hG := bnd_use hE91 hG
              obtain ⟨x95, ex95⟩ : ∃ y : Int32, y = y3 + 1 := ⟨_, rfl⟩
              have hG := bnd_use ex95 hG
              refine lv_iinc (v := x95) (lv' := [(3, .int x95), (4, .ref (ad kc68)), (0, .ref (ad 20)), (1, .ref (ad 3)), (2, .ref (ad k))]) hx hb d_X5_line_123 hl (k := 4) rfl (by rw [ex95]; rfl) (by decide) rfl (fun ls hl => ?_)
              have r96 : Rg x95 1 20 := rg_add ex95 r66 (⟨by decide, by decide⟩ : Rg 1 1 1) (by decide) (by decide)
              have s97 : x95.toInt = y3.toInt + (1 : Int32).toInt := by rw [ex95]; exact i_add (by obtain ⟨_, _⟩ := r66; obtain ⟨_, _⟩ := (⟨by decide, by decide⟩ : Rg 1 1 1); omega) (by obtain ⟨_, _⟩ := r66; obtain ⟨_, _⟩ := (⟨by decide, by decide⟩ : Rg 1 1 1); omega)
              have s97l : (1 : Int32).toInt = 1 := rfl
              refine lv_goto (tgt := 83) hx hb d_X5_line_126 (by decide) ?_
              exact ih1 x95 v90 _ _ _ (by have := s97; obtain ⟨_, _⟩ := r96; omega) (rg_w r96 (by decide) (by decide)) hI92 hK94 hG hw hS (lv_sub hl [2, 3, 4, 0] rfl)
  obtain ⟨ih0, ih1⟩ := LL 100000
  have hK0 : Kp (kp_X5_line_20_3 k) v v := Kp.rf _ v
  have hG := eRR
  unfold f_X5_line_20_3 at hG
  refine lv_aload_n hx hb d_X5_line_0 rfl (lv_at hl 0 rfl) ?_
  refine lv_iconst (v := 0) hx hb d_X5_line_1 (by decide) ?_
  refine r_put X hw hS FP_X5_18 (rfl : KD 20 = _) rfl ⟨rfl, rfl⟩ d_X5_line_2 (fun H locs hw hS => ?_)
  obtain ⟨v98, ev98⟩ : ∃ z, z = up2 v 20 2 0 := ⟨_, rfl⟩
  rw [← ev98] at hw
  have hG := bnd_use ev98 hG
  have hI99 : Inv v98 := by rw [ev98]; exact Inv.putr hI rfl (rg_w (⟨by decide, by decide⟩ : Rg 0 0 0) (by decide) (by decide))
  have hK100 : Kp (kp_X5_line_20_3 k) v v98 := by rw [ev98]; exact Kp.put hK0 _ (by unfold kp_X5_line_20_3; omega)
  have hm101 : v98 20 2 = 0 := by rw [ev98, up2_s]
  refine lv_iconst (v := 0) hx hb d_X5_line_5 (by decide) ?_
  refine lv_istore_n (lv' := [(3, .int 0), (0, .ref (ad 20)), (1, .ref (ad 3)), (2, .ref (ad k))]) hx hb d_X5_line_6 rfl hl (by decide) rfl (fun ls hl => ?_)
  exact ih0 0 v98 _ _ _ (by obtain ⟨_, _⟩ := (⟨by decide, by decide⟩ : Rg 0 0 0); omega) (rg_w (⟨by decide, by decide⟩ : Rg 0 0 0) (by decide) (by decide)) hI99 hK100 hG hw hS (lv_sub hl [1, 2, 3, 0] rfl)
theorem d_X9_copy_0 : decode c_X9_copy 0 = .ok (.aload_n 1, 1) := by decide +kernel
theorem d_X9_copy_1 : decode c_X9_copy 1 = .ok (.getfield 9, 3) := by decide +kernel
theorem d_X9_copy_4 : decode c_X9_copy 4 = .ok (.iconst 0, 1) := by decide +kernel
theorem d_X9_copy_5 : decode c_X9_copy 5 = .ok (.aload_n 0, 1) := by decide +kernel
theorem d_X9_copy_6 : decode c_X9_copy 6 = .ok (.getfield 9, 3) := by decide +kernel
theorem d_X9_copy_9 : decode c_X9_copy 9 = .ok (.iconst 0, 1) := by decide +kernel
theorem d_X9_copy_10 : decode c_X9_copy 10 = .ok (.iconst 5, 1) := by decide +kernel
theorem d_X9_copy_11 : decode c_X9_copy 11 = .ok (.invokestatic 15, 3) := by decide +kernel
theorem d_X9_copy_14 : decode c_X9_copy 14 = .ok (.aload_n 0, 1) := by decide +kernel
theorem d_X9_copy_15 : decode c_X9_copy 15 = .ok (.aload_n 1, 1) := by decide +kernel
theorem d_X9_copy_16 : decode c_X9_copy 16 = .ok (.getfield 21, 3) := by decide +kernel
theorem d_X9_copy_19 : decode c_X9_copy 19 = .ok (.putfield 21, 3) := by decide +kernel
theorem d_X9_copy_22 : decode c_X9_copy 22 = .ok (.aload_n 0, 1) := by decide +kernel
theorem d_X9_copy_23 : decode c_X9_copy 23 = .ok (.aload_n 1, 1) := by decide +kernel
theorem d_X9_copy_24 : decode c_X9_copy 24 = .ok (.getfield 25, 3) := by decide +kernel
theorem d_X9_copy_27 : decode c_X9_copy 27 = .ok (.putfield 25, 3) := by decide +kernel
theorem d_X9_copy_30 : decode c_X9_copy 30 = .ok (.aload_n 0, 1) := by decide +kernel
theorem d_X9_copy_31 : decode c_X9_copy 31 = .ok (.aload_n 1, 1) := by decide +kernel
theorem d_X9_copy_32 : decode c_X9_copy 32 = .ok (.getfield 28, 3) := by decide +kernel
theorem d_X9_copy_35 : decode c_X9_copy 35 = .ok (.putfield 28, 3) := by decide +kernel
theorem d_X9_copy_38 : decode c_X9_copy 38 = .ok (.aload_n 0, 1) := by decide +kernel
theorem d_X9_copy_39 : decode c_X9_copy 39 = .ok (.aload_n 1, 1) := by decide +kernel
theorem d_X9_copy_40 : decode c_X9_copy 40 = .ok (.getfield 31, 3) := by decide +kernel
theorem d_X9_copy_43 : decode c_X9_copy 43 = .ok (.putfield 31, 3) := by decide +kernel
theorem d_X9_copy_46 : decode c_X9_copy 46 = .ok (.return_, 1) := by decide +kernel
def kp_X9_copy_A (k : Nat) (k2 : Nat) (a j : Nat) : Prop := a ≠ k ∧ a ≠ k + 20
def f_X9_copy_A (v : tV) (k : Nat) (k2 : Nat) : tV := bnd (k2 + 20) fun kc1 => bnd (k + 20) fun kc2 => bnd (cp5 v kc1 kc2) fun v3 => bnd (v3 k2 1) fun x6 => bnd (up2 v3 k 1 x6) fun v7 => bnd (v7 k2 2) fun x10 => bnd (up2 v7 k 2 x10) fun v11 => bnd (v11 k2 3) fun x14 => bnd (up2 v11 k 3 x14) fun v15 => bnd (v15 k2 4) fun x18 => bnd (up2 v15 k 4 x18) fun v19 => v19
set_option maxHeartbeats 4000000 in
set_option maxRecDepth 100000 in
theorem ct_X9_copy_A (l : Launch) (D : va_G) (dA : Nat → ClassId) (ad : Nat → Nat) (v : tV) (hI : Inv v) (k : Nat) (k2 : Nat) (ka : 306 ≤ k) (kb : k < 312) (k2a : 300 ≤ k2) (k2b : k2 < 306) : Met l m_X9_copy [.code m_X9_copy c_X9_copy 2 none] ({ frames := 1, cells := 0, slots := 0, locals := 80 } : Room) (tP D dA ad v [.ref (ad k), .ref (ad k2)]) (tQv D dA ad (fun v' => (Inv v' ∧ Kp (kp_X9_copy_A k k2) v v') ∧ v' = f_X9_copy_A v k k2)) 0 0 (tA ad) := by
  refine tMet (by decide) (Nat.le_of_ble_eq_true rfl) ?_
  intro p e s m below meth c ls X hr hlocks hw hl
  have X : CX p s m ([.ref (ad k), .ref (ad k2)] : List Value).toArray c c_X9_copy N_X9 2 D dA := X
  have hx := X.1
  have hb := X.2.1
  have hS : va_S (tA ad) s.heap s.heap [] := va_S.rf
  have hl : lv_has ls 2 [(0, .ref (ad k)), (1, .ref (ad k2))] := hl
  obtain ⟨RR, eRR⟩ : ∃ z, f_X9_copy_A v k k2 = z := ⟨_, rfl⟩
  have hK0 : Kp (kp_X9_copy_A k k2) v v := Kp.rf _ v
  have hG := eRR
  unfold f_X9_copy_A at hG
  refine lv_aload_n hx hb d_X9_copy_0 rfl (lv_at hl 1 rfl) ?_
  refine r_getr (r := k2 + 20) X hw FL_X9_9 (KD_ward (by omega) (by omega)) (SH_ward0 (by omega) (by omega)) d_X9_copy_1 ?_
  refine r_nm (fun kc1 ekc1 => ?_)
  have hG := bnd_use ekc1 hG
  refine lv_iconst (v := 0) hx hb d_X9_copy_4 (by decide) ?_
  refine lv_aload_n hx hb d_X9_copy_5 rfl (lv_at hl 0 rfl) ?_
  refine r_getr (r := k + 20) X hw FL_X9_9 (KD_ward (by omega) (by omega)) (SH_ward0 (by omega) (by omega)) d_X9_copy_6 ?_
  refine r_nm (fun kc2 ekc2 => ?_)
  have hG := bnd_use ekc2 hG
  refine lv_iconst (v := 0) hx hb d_X9_copy_9 (by decide) ?_
  refine lv_iconst (v := 5) hx hb d_X9_copy_10 (by decide) ?_
  refine r_acopy (k0 := kc1) (k1 := kc2) X hl.1 hw (KD_burns (by omega) (by omega)) (KD_burns (by omega) (by omega)) (by omega) (fun _ => (SH_burns (by omega) (by omega))) (fun _ => (SH_burns (by omega) (by omega))) (Nat.le_of_ble_eq_true rfl) (Nat.le_of_ble_eq_true rfl) d_X9_copy_11 (fun H locs hw hS => ?_)
  obtain ⟨v3, ev3⟩ : ∃ z, z = cp5 v kc1 kc2 := ⟨_, rfl⟩
  rw [← ev3] at hw
  have hG := bnd_use ev3 hG
  have hI4 : Inv v3 := by rw [ev3]; exact inv_cp5 hI (fun _ => (RG_ward (by omega) (by omega)))
  have hK5 : Kp (kp_X9_copy_A k k2) v v3 := by rw [ev3]; exact kp_cp5 hK0 (fun _ => (by unfold kp_X9_copy_A; omega))
  refine lv_aload_n hx hb d_X9_copy_14 rfl (lv_at hl 0 rfl) ?_
  refine lv_aload_n hx hb d_X9_copy_15 rfl (lv_at hl 1 rfl) ?_
  refine r_geti X hw FL_X9_21 (KD_ward (by omega) (by omega)) (SH_ward (by omega) (by omega) (by decide)) d_X9_copy_16 ?_
  refine lv_topi (fun x6 ex6 => ?_)
  have hG := bnd_use ex6 hG
  refine r_put X hw hS FP_X9_21 (KD_ward (by omega) (by omega)) (SH_ward (by omega) (by omega) (by decide)) ⟨rfl, rfl⟩ d_X9_copy_19 (fun H locs hw hS => ?_)
  obtain ⟨v7, ev7⟩ : ∃ z, z = up2 v3 k 1 x6 := ⟨_, rfl⟩
  rw [← ev7] at hw
  have hG := bnd_use ev7 hG
  have hI8 : Inv v7 := by rw [ev7]; exact Inv.put0 hI4 _ (RG_ward (by omega) (by omega))
  have hK9 : Kp (kp_X9_copy_A k k2) v v7 := by rw [ev7]; exact Kp.put hK5 _ (by unfold kp_X9_copy_A; omega)
  refine lv_aload_n hx hb d_X9_copy_22 rfl (lv_at hl 0 rfl) ?_
  refine lv_aload_n hx hb d_X9_copy_23 rfl (lv_at hl 1 rfl) ?_
  refine r_geti X hw FL_X9_25 (KD_ward (by omega) (by omega)) (SH_ward (by omega) (by omega) (by decide)) d_X9_copy_24 ?_
  refine lv_topi (fun x10 ex10 => ?_)
  have hG := bnd_use ex10 hG
  refine r_put X hw hS FP_X9_25 (KD_ward (by omega) (by omega)) (SH_ward (by omega) (by omega) (by decide)) ⟨rfl, rfl⟩ d_X9_copy_27 (fun H locs hw hS => ?_)
  obtain ⟨v11, ev11⟩ : ∃ z, z = up2 v7 k 2 x10 := ⟨_, rfl⟩
  rw [← ev11] at hw
  have hG := bnd_use ev11 hG
  have hI12 : Inv v11 := by rw [ev11]; exact Inv.put0 hI8 _ (RG_ward (by omega) (by omega))
  have hK13 : Kp (kp_X9_copy_A k k2) v v11 := by rw [ev11]; exact Kp.put hK9 _ (by unfold kp_X9_copy_A; omega)
  refine lv_aload_n hx hb d_X9_copy_30 rfl (lv_at hl 0 rfl) ?_
  refine lv_aload_n hx hb d_X9_copy_31 rfl (lv_at hl 1 rfl) ?_
  refine r_geti X hw FL_X9_28 (KD_ward (by omega) (by omega)) (SH_ward (by omega) (by omega) (by decide)) d_X9_copy_32 ?_
  refine lv_topi (fun x14 ex14 => ?_)
  have hG := bnd_use ex14 hG
  refine r_put X hw hS FP_X9_28 (KD_ward (by omega) (by omega)) (SH_ward (by omega) (by omega) (by decide)) ⟨rfl, rfl⟩ d_X9_copy_35 (fun H locs hw hS => ?_)
  obtain ⟨v15, ev15⟩ : ∃ z, z = up2 v11 k 3 x14 := ⟨_, rfl⟩
  rw [← ev15] at hw
  have hG := bnd_use ev15 hG
  have hI16 : Inv v15 := by rw [ev15]; exact Inv.put0 hI12 _ (RG_ward (by omega) (by omega))
  have hK17 : Kp (kp_X9_copy_A k k2) v v15 := by rw [ev15]; exact Kp.put hK13 _ (by unfold kp_X9_copy_A; omega)
  refine lv_aload_n hx hb d_X9_copy_38 rfl (lv_at hl 0 rfl) ?_
  refine lv_aload_n hx hb d_X9_copy_39 rfl (lv_at hl 1 rfl) ?_
  refine r_geti X hw FL_X9_31 (KD_ward (by omega) (by omega)) (SH_ward (by omega) (by omega) (by decide)) d_X9_copy_40 ?_
  refine lv_topi (fun x18 ex18 => ?_)
  have hG := bnd_use ex18 hG
  refine r_put X hw hS FP_X9_31 (KD_ward (by omega) (by omega)) (SH_ward (by omega) (by omega) (by decide)) ⟨rfl, rfl⟩ d_X9_copy_43 (fun H locs hw hS => ?_)
  obtain ⟨v19, ev19⟩ : ∃ z, z = up2 v15 k 4 x18 := ⟨_, rfl⟩
  rw [← ev19] at hw
  have hG := bnd_use ev19 hG
  have hI20 : Inv v19 := by rw [ev19]; exact Inv.put0 hI16 _ (RG_ward (by omega) (by omega))
  have hK21 : Kp (kp_X9_copy_A k k2) v v19 := by rw [ev19]; exact Kp.put hK17 _ (by unfold kp_X9_copy_A; omega)
  exact r_vret X hr hlocks hw hS ⟨⟨hI20, hK21⟩, hG.trans eRR.symm⟩ d_X9_copy_46
def kp_X9_copy_B (k : Nat) (k2 : Nat) (a j : Nat) : Prop := a ≠ k ∧ a ≠ k + 20
def f_X9_copy_B (v : tV) (k : Nat) (k2 : Nat) : tV := bnd (k2 + 20) fun kc1 => bnd (k + 20) fun kc2 => bnd (cp5 v kc1 kc2) fun v3 => bnd (v3 k2 1) fun x6 => bnd (up2 v3 k 1 x6) fun v7 => bnd (v7 k2 2) fun x10 => bnd (up2 v7 k 2 x10) fun v11 => bnd (v11 k2 3) fun x14 => bnd (up2 v11 k 3 x14) fun v15 => bnd (v15 k2 4) fun x18 => bnd (up2 v15 k 4 x18) fun v19 => v19
set_option maxHeartbeats 4000000 in
set_option maxRecDepth 100000 in
theorem ct_X9_copy_B (l : Launch) (D : va_G) (dA : Nat → ClassId) (ad : Nat → Nat) (v : tV) (hI : Inv v) (k : Nat) (k2 : Nat) (ka : 312 ≤ k) (kb : k < 318) (k2a : 300 ≤ k2) (k2b : k2 < 312) : Met l m_X9_copy [.code m_X9_copy c_X9_copy 2 none] ({ frames := 1, cells := 0, slots := 0, locals := 80 } : Room) (tP D dA ad v [.ref (ad k), .ref (ad k2)]) (tQv D dA ad (fun v' => (Inv v' ∧ Kp (kp_X9_copy_B k k2) v v') ∧ v' = f_X9_copy_B v k k2)) 0 0 (tA ad) := by
  refine tMet (by decide) (Nat.le_of_ble_eq_true rfl) ?_
  intro p e s m below meth c ls X hr hlocks hw hl
  have X : CX p s m ([.ref (ad k), .ref (ad k2)] : List Value).toArray c c_X9_copy N_X9 2 D dA := X
  have hx := X.1
  have hb := X.2.1
  have hS : va_S (tA ad) s.heap s.heap [] := va_S.rf
  have hl : lv_has ls 2 [(0, .ref (ad k)), (1, .ref (ad k2))] := hl
  obtain ⟨RR, eRR⟩ : ∃ z, f_X9_copy_B v k k2 = z := ⟨_, rfl⟩
  have hK0 : Kp (kp_X9_copy_B k k2) v v := Kp.rf _ v
  have hG := eRR
  unfold f_X9_copy_B at hG
  refine lv_aload_n hx hb d_X9_copy_0 rfl (lv_at hl 1 rfl) ?_
  refine r_getr (r := k2 + 20) X hw FL_X9_9 (KD_ward (by omega) (by omega)) (SH_ward0 (by omega) (by omega)) d_X9_copy_1 ?_
  refine r_nm (fun kc1 ekc1 => ?_)
  have hG := bnd_use ekc1 hG
  refine lv_iconst (v := 0) hx hb d_X9_copy_4 (by decide) ?_
  refine lv_aload_n hx hb d_X9_copy_5 rfl (lv_at hl 0 rfl) ?_
  refine r_getr (r := k + 20) X hw FL_X9_9 (KD_ward (by omega) (by omega)) (SH_ward0 (by omega) (by omega)) d_X9_copy_6 ?_
  refine r_nm (fun kc2 ekc2 => ?_)
  have hG := bnd_use ekc2 hG
  refine lv_iconst (v := 0) hx hb d_X9_copy_9 (by decide) ?_
  refine lv_iconst (v := 5) hx hb d_X9_copy_10 (by decide) ?_
  refine r_acopy (k0 := kc1) (k1 := kc2) X hl.1 hw (KD_burns (by omega) (by omega)) (KD_burns (by omega) (by omega)) (by omega) (fun _ => (SH_burns (by omega) (by omega))) (fun _ => (SH_burns (by omega) (by omega))) (Nat.le_of_ble_eq_true rfl) (Nat.le_of_ble_eq_true rfl) d_X9_copy_11 (fun H locs hw hS => ?_)
  obtain ⟨v3, ev3⟩ : ∃ z, z = cp5 v kc1 kc2 := ⟨_, rfl⟩
  rw [← ev3] at hw
  have hG := bnd_use ev3 hG
  have hI4 : Inv v3 := by rw [ev3]; exact inv_cp5 hI (fun _ => (RG_ward (by omega) (by omega)))
  have hK5 : Kp (kp_X9_copy_B k k2) v v3 := by rw [ev3]; exact kp_cp5 hK0 (fun _ => (by unfold kp_X9_copy_B; omega))
  refine lv_aload_n hx hb d_X9_copy_14 rfl (lv_at hl 0 rfl) ?_
  refine lv_aload_n hx hb d_X9_copy_15 rfl (lv_at hl 1 rfl) ?_
  refine r_geti X hw FL_X9_21 (KD_ward (by omega) (by omega)) (SH_ward (by omega) (by omega) (by decide)) d_X9_copy_16 ?_
  refine lv_topi (fun x6 ex6 => ?_)
  have hG := bnd_use ex6 hG
  refine r_put X hw hS FP_X9_21 (KD_ward (by omega) (by omega)) (SH_ward (by omega) (by omega) (by decide)) ⟨rfl, rfl⟩ d_X9_copy_19 (fun H locs hw hS => ?_)
  obtain ⟨v7, ev7⟩ : ∃ z, z = up2 v3 k 1 x6 := ⟨_, rfl⟩
  rw [← ev7] at hw
  have hG := bnd_use ev7 hG
  have hI8 : Inv v7 := by rw [ev7]; exact Inv.put0 hI4 _ (RG_ward (by omega) (by omega))
  have hK9 : Kp (kp_X9_copy_B k k2) v v7 := by rw [ev7]; exact Kp.put hK5 _ (by unfold kp_X9_copy_B; omega)
  refine lv_aload_n hx hb d_X9_copy_22 rfl (lv_at hl 0 rfl) ?_
  refine lv_aload_n hx hb d_X9_copy_23 rfl (lv_at hl 1 rfl) ?_
  refine r_geti X hw FL_X9_25 (KD_ward (by omega) (by omega)) (SH_ward (by omega) (by omega) (by decide)) d_X9_copy_24 ?_
  refine lv_topi (fun x10 ex10 => ?_)
  have hG := bnd_use ex10 hG
  refine r_put X hw hS FP_X9_25 (KD_ward (by omega) (by omega)) (SH_ward (by omega) (by omega) (by decide)) ⟨rfl, rfl⟩ d_X9_copy_27 (fun H locs hw hS => ?_)
  obtain ⟨v11, ev11⟩ : ∃ z, z = up2 v7 k 2 x10 := ⟨_, rfl⟩
  rw [← ev11] at hw
  have hG := bnd_use ev11 hG
  have hI12 : Inv v11 := by rw [ev11]; exact Inv.put0 hI8 _ (RG_ward (by omega) (by omega))
  have hK13 : Kp (kp_X9_copy_B k k2) v v11 := by rw [ev11]; exact Kp.put hK9 _ (by unfold kp_X9_copy_B; omega)
  refine lv_aload_n hx hb d_X9_copy_30 rfl (lv_at hl 0 rfl) ?_
  refine lv_aload_n hx hb d_X9_copy_31 rfl (lv_at hl 1 rfl) ?_
  refine r_geti X hw FL_X9_28 (KD_ward (by omega) (by omega)) (SH_ward (by omega) (by omega) (by decide)) d_X9_copy_32 ?_
  refine lv_topi (fun x14 ex14 => ?_)
  have hG := bnd_use ex14 hG
  refine r_put X hw hS FP_X9_28 (KD_ward (by omega) (by omega)) (SH_ward (by omega) (by omega) (by decide)) ⟨rfl, rfl⟩ d_X9_copy_35 (fun H locs hw hS => ?_)
  obtain ⟨v15, ev15⟩ : ∃ z, z = up2 v11 k 3 x14 := ⟨_, rfl⟩
  rw [← ev15] at hw
  have hG := bnd_use ev15 hG
  have hI16 : Inv v15 := by rw [ev15]; exact Inv.put0 hI12 _ (RG_ward (by omega) (by omega))
  have hK17 : Kp (kp_X9_copy_B k k2) v v15 := by rw [ev15]; exact Kp.put hK13 _ (by unfold kp_X9_copy_B; omega)
  refine lv_aload_n hx hb d_X9_copy_38 rfl (lv_at hl 0 rfl) ?_
  refine lv_aload_n hx hb d_X9_copy_39 rfl (lv_at hl 1 rfl) ?_
  refine r_geti X hw FL_X9_31 (KD_ward (by omega) (by omega)) (SH_ward (by omega) (by omega) (by decide)) d_X9_copy_40 ?_
  refine lv_topi (fun x18 ex18 => ?_)
  have hG := bnd_use ex18 hG
  refine r_put X hw hS FP_X9_31 (KD_ward (by omega) (by omega)) (SH_ward (by omega) (by omega) (by decide)) ⟨rfl, rfl⟩ d_X9_copy_43 (fun H locs hw hS => ?_)
  obtain ⟨v19, ev19⟩ : ∃ z, z = up2 v15 k 4 x18 := ⟨_, rfl⟩
  rw [← ev19] at hw
  have hG := bnd_use ev19 hG
  have hI20 : Inv v19 := by rw [ev19]; exact Inv.put0 hI16 _ (RG_ward (by omega) (by omega))
  have hK21 : Kp (kp_X9_copy_B k k2) v v19 := by rw [ev19]; exact Kp.put hK17 _ (by unfold kp_X9_copy_B; omega)
  exact r_vret X hr hlocks hw hS ⟨⟨hI20, hK21⟩, hG.trans eRR.symm⟩ d_X9_copy_46
