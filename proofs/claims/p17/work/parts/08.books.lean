theorem d_X1_open_0 : decode c_X1_open 0 = .ok (.aload_n 0, 1) := by decide +kernel
theorem d_X1_open_1 : decode c_X1_open 1 = .ok (.iconst 0, 1) := by decide +kernel
theorem d_X1_open_2 : decode c_X1_open 2 = .ok (.putfield 24, 3) := by decide +kernel
theorem d_X1_open_5 : decode c_X1_open 5 = .ok (.aload_n 0, 1) := by decide +kernel
theorem d_X1_open_6 : decode c_X1_open 6 = .ok (.iconst 0, 1) := by decide +kernel
theorem d_X1_open_7 : decode c_X1_open 7 = .ok (.putfield 28, 3) := by decide +kernel
theorem d_X1_open_10 : decode c_X1_open 10 = .ok (.aload_n 0, 1) := by decide +kernel
theorem d_X1_open_11 : decode c_X1_open 11 = .ok (.iconst 0, 1) := by decide +kernel
theorem d_X1_open_12 : decode c_X1_open 12 = .ok (.putfield 31, 3) := by decide +kernel
theorem d_X1_open_15 : decode c_X1_open 15 = .ok (.return_, 1) := by decide +kernel
def kp_X1_open_30  (a j : Nat) : Prop := a ≠ 30
def f_X1_open_30 (v : tV)  : tV := bnd (up2 v 30 4 0) fun v1 => bnd (up2 v1 30 5 0) fun v5 => bnd (up2 v5 30 6 0) fun v9 => v9
set_option maxHeartbeats 4000000 in
set_option maxRecDepth 100000 in
theorem ct_X1_open_30 (l : Launch) (D : va_G) (dA : Nat → ClassId) (ad : Nat → Nat) (v : tV) (hI : Inv v)  : Met l m_X1_open [.code m_X1_open c_X1_open 1 none] ({ frames := 1, cells := 0, slots := 0, locals := 40 } : Room) (tP D dA ad v [.ref (ad 30)]) (tQv D dA ad (fun v' => (Inv v' ∧ Kp kp_X1_open_30 v v') ∧ v' = f_X1_open_30 v )) 0 0 (tA ad) := by
  refine tMet (by decide) (Nat.le_of_ble_eq_true rfl) ?_
  intro p e s m below meth c ls X hr hlocks hw hl
  have X : CX p s m ([.ref (ad 30)] : List Value).toArray c c_X1_open N_X1 1 D dA := X
  have hx := X.1
  have hb := X.2.1
  have hS : va_S (tA ad) s.heap s.heap [] := va_S.rf
  have hl : lv_has ls 1 [(0, .ref (ad 30))] := hl
  obtain ⟨RR, eRR⟩ : ∃ z, f_X1_open_30 v  = z := ⟨_, rfl⟩
  have hK0 : Kp kp_X1_open_30 v v := Kp.rf _ v
  have hG := eRR
  unfold f_X1_open_30 at hG
  refine lv_aload_n hx hb d_X1_open_0 rfl (lv_at hl 0 rfl) ?_
  refine lv_iconst (v := 0) hx hb d_X1_open_1 (by decide) ?_
  refine r_put X hw hS FP_X1_24 (rfl : KD 30 = _) rfl ⟨rfl, rfl⟩ d_X1_open_2 (fun H locs hw hS => ?_)
  obtain ⟨v1, ev1⟩ : ∃ z, z = up2 v 30 4 0 := ⟨_, rfl⟩
  rw [← ev1] at hw
  have hG := bnd_use ev1 hG
  have hI2 : Inv v1 := by rw [ev1]; exact Inv.putr hI rfl (rg_w (⟨by decide, by decide⟩ : Rg 0 0 0) (by decide) (by decide))
  have hK3 : Kp kp_X1_open_30 v v1 := by rw [ev1]; exact Kp.put hK0 _ (by unfold kp_X1_open_30; omega)
  have hm4 : v1 30 4 = 0 := by rw [ev1, up2_s]
  refine lv_aload_n hx hb d_X1_open_5 rfl (lv_at hl 0 rfl) ?_
  refine lv_iconst (v := 0) hx hb d_X1_open_6 (by decide) ?_
  refine r_put X hw hS FP_X1_28 (rfl : KD 30 = _) rfl ⟨rfl, rfl⟩ d_X1_open_7 (fun H locs hw hS => ?_)
  obtain ⟨v5, ev5⟩ : ∃ z, z = up2 v1 30 5 0 := ⟨_, rfl⟩
  rw [← ev5] at hw
  have hG := bnd_use ev5 hG
  have hI6 : Inv v5 := by rw [ev5]; exact Inv.put0 hI2 _ rfl
  have hK7 : Kp kp_X1_open_30 v v5 := by rw [ev5]; exact Kp.put hK3 _ (by unfold kp_X1_open_30; omega)
  have hm8 : v5 30 4 = 0 := by rw [ev5, up2_n _ _ (by omega)]; exact hm4
  refine lv_aload_n hx hb d_X1_open_10 rfl (lv_at hl 0 rfl) ?_
  refine lv_iconst (v := 0) hx hb d_X1_open_11 (by decide) ?_
  refine r_put X hw hS FP_X1_31 (rfl : KD 30 = _) rfl ⟨rfl, rfl⟩ d_X1_open_12 (fun H locs hw hS => ?_)
  obtain ⟨v9, ev9⟩ : ∃ z, z = up2 v5 30 6 0 := ⟨_, rfl⟩
  rw [← ev9] at hw
  have hG := bnd_use ev9 hG
  have hI10 : Inv v9 := by rw [ev9]; exact Inv.put0 hI6 _ rfl
  have hK11 : Kp kp_X1_open_30 v v9 := by rw [ev9]; exact Kp.put hK7 _ (by unfold kp_X1_open_30; omega)
  have hm12 : v9 30 4 = 0 := by rw [ev9, up2_n _ _ (by omega)]; exact hm8
  exact r_vret X hr hlocks hw hS ⟨⟨hI10, hK11⟩, hG.trans eRR.symm⟩ d_X1_open_15
theorem d_X1_enter_0 : decode c_X1_enter 0 = .ok (.aload_n 0, 1) := by decide +kernel
theorem d_X1_enter_1 : decode c_X1_enter 1 = .ok (.getfield 24, 3) := by decide +kernel
theorem d_X1_enter_4 : decode c_X1_enter 4 = .ok (.bipush 30, 2) := by decide +kernel
theorem d_X1_enter_6 : decode c_X1_enter 6 = .ok (.if_icmp .lt 4, 3) := by decide +kernel
theorem d_X1_enter_9 : decode c_X1_enter 9 = .ok (.return_, 1) := by decide +kernel
theorem d_X1_enter_10 : decode c_X1_enter 10 = .ok (.aload_n 0, 1) := by decide +kernel
theorem d_X1_enter_11 : decode c_X1_enter 11 = .ok (.getfield 11, 3) := by decide +kernel
theorem d_X1_enter_14 : decode c_X1_enter 14 = .ok (.aload_n 0, 1) := by decide +kernel
theorem d_X1_enter_15 : decode c_X1_enter 15 = .ok (.getfield 24, 3) := by decide +kernel
theorem d_X1_enter_18 : decode c_X1_enter 18 = .ok (.iload_n 1, 1) := by decide +kernel
theorem d_X1_enter_19 : decode c_X1_enter 19 = .ok (.iastore, 1) := by decide +kernel
theorem d_X1_enter_20 : decode c_X1_enter 20 = .ok (.aload_n 0, 1) := by decide +kernel
theorem d_X1_enter_21 : decode c_X1_enter 21 = .ok (.getfield 15, 3) := by decide +kernel
theorem d_X1_enter_24 : decode c_X1_enter 24 = .ok (.aload_n 0, 1) := by decide +kernel
theorem d_X1_enter_25 : decode c_X1_enter 25 = .ok (.getfield 24, 3) := by decide +kernel
theorem d_X1_enter_28 : decode c_X1_enter 28 = .ok (.iload_n 2, 1) := by decide +kernel
theorem d_X1_enter_29 : decode c_X1_enter 29 = .ok (.iastore, 1) := by decide +kernel
theorem d_X1_enter_30 : decode c_X1_enter 30 = .ok (.aload_n 0, 1) := by decide +kernel
theorem d_X1_enter_31 : decode c_X1_enter 31 = .ok (.getfield 18, 3) := by decide +kernel
theorem d_X1_enter_34 : decode c_X1_enter 34 = .ok (.aload_n 0, 1) := by decide +kernel
theorem d_X1_enter_35 : decode c_X1_enter 35 = .ok (.getfield 24, 3) := by decide +kernel
theorem d_X1_enter_38 : decode c_X1_enter 38 = .ok (.iload_n 3, 1) := by decide +kernel
theorem d_X1_enter_39 : decode c_X1_enter 39 = .ok (.iastore, 1) := by decide +kernel
theorem d_X1_enter_40 : decode c_X1_enter 40 = .ok (.aload_n 0, 1) := by decide +kernel
theorem d_X1_enter_41 : decode c_X1_enter 41 = .ok (.getfield 21, 3) := by decide +kernel
theorem d_X1_enter_44 : decode c_X1_enter 44 = .ok (.aload_n 0, 1) := by decide +kernel
theorem d_X1_enter_45 : decode c_X1_enter 45 = .ok (.getfield 24, 3) := by decide +kernel
theorem d_X1_enter_48 : decode c_X1_enter 48 = .ok (.iload 4, 2) := by decide +kernel
theorem d_X1_enter_50 : decode c_X1_enter 50 = .ok (.iastore, 1) := by decide +kernel
theorem d_X1_enter_51 : decode c_X1_enter 51 = .ok (.aload_n 0, 1) := by decide +kernel
theorem d_X1_enter_52 : decode c_X1_enter 52 = .ok (.dup, 1) := by decide +kernel
theorem d_X1_enter_53 : decode c_X1_enter 53 = .ok (.getfield 24, 3) := by decide +kernel
theorem d_X1_enter_56 : decode c_X1_enter 56 = .ok (.iconst 1, 1) := by decide +kernel
theorem d_X1_enter_57 : decode c_X1_enter 57 = .ok (.iadd, 1) := by decide +kernel
theorem d_X1_enter_58 : decode c_X1_enter 58 = .ok (.putfield 24, 3) := by decide +kernel
theorem d_X1_enter_61 : decode c_X1_enter 61 = .ok (.aload_n 0, 1) := by decide +kernel
theorem d_X1_enter_62 : decode c_X1_enter 62 = .ok (.dup, 1) := by decide +kernel
theorem d_X1_enter_63 : decode c_X1_enter 63 = .ok (.getfield 28, 3) := by decide +kernel
theorem d_X1_enter_66 : decode c_X1_enter 66 = .ok (.iload_n 3, 1) := by decide +kernel
theorem d_X1_enter_67 : decode c_X1_enter 67 = .ok (.iadd, 1) := by decide +kernel
theorem d_X1_enter_68 : decode c_X1_enter 68 = .ok (.putfield 28, 3) := by decide +kernel
theorem d_X1_enter_71 : decode c_X1_enter 71 = .ok (.aload_n 0, 1) := by decide +kernel
theorem d_X1_enter_72 : decode c_X1_enter 72 = .ok (.dup, 1) := by decide +kernel
theorem d_X1_enter_73 : decode c_X1_enter 73 = .ok (.getfield 31, 3) := by decide +kernel
theorem d_X1_enter_76 : decode c_X1_enter 76 = .ok (.iload_n 3, 1) := by decide +kernel
theorem d_X1_enter_77 : decode c_X1_enter 77 = .ok (.iload 4, 2) := by decide +kernel
theorem d_X1_enter_79 : decode c_X1_enter 79 = .ok (.imul, 1) := by decide +kernel
theorem d_X1_enter_80 : decode c_X1_enter 80 = .ok (.iadd, 1) := by decide +kernel
theorem d_X1_enter_81 : decode c_X1_enter 81 = .ok (.putfield 31, 3) := by decide +kernel
theorem d_X1_enter_84 : decode c_X1_enter 84 = .ok (.return_, 1) := by decide +kernel
def kp_X1_enter_30 (si : Int32) (bi : Int32) (am : Int32) (pr : Int32) (a j : Nat) : Prop := a ≠ 30 ∧ a ≠ 32 ∧ a ≠ 34 ∧ a ≠ 36 ∧ a ≠ 38
def f_X1_enter_30 (v : tV) (si : Int32) (bi : Int32) (am : Int32) (pr : Int32) : tV := bnd (v 30 4) fun x1 => (if x1 < (30 : Int32) then bnd (up2 v 32 (x1.toNatClampNeg) si) fun v7 => bnd (up2 v7 34 (x1.toNatClampNeg) bi) fun v11 => bnd (up2 v11 36 (x1.toNatClampNeg) am) fun v15 => bnd (up2 v15 38 (x1.toNatClampNeg) pr) fun v19 => bnd (x1 + (1 : Int32)) fun x23 => bnd (up2 v19 30 4 x23) fun v26 => bnd (v26 30 5) fun x30 => bnd (x30 + am) fun x31 => bnd (up2 v26 30 5 x31) fun v32 => bnd (v32 30 6) fun x36 => bnd (am * pr) fun x37 => bnd (x36 + x37) fun x38 => bnd (up2 v32 30 6 x38) fun v39 => v39 else v)
set_option maxHeartbeats 4000000 in
set_option maxRecDepth 100000 in
theorem ct_X1_enter_30 (l : Launch) (D : va_G) (dA : Nat → ClassId) (ad : Nat → Nat) (v : tV) (hI : Inv v) (si : Int32) (bi : Int32) (am : Int32) (pr : Int32) : Met l m_X1_enter [.code m_X1_enter c_X1_enter 5 none] ({ frames := 1, cells := 0, slots := 0, locals := 40 } : Room) (tP D dA ad v [.ref (ad 30), .int si, .int bi, .int am, .int pr]) (tQv D dA ad (fun v' => (Inv v' ∧ Kp (kp_X1_enter_30 si bi am pr) v v') ∧ v' = f_X1_enter_30 v si bi am pr)) 0 0 (tA ad) := by
  refine tMet (by decide) (Nat.le_of_ble_eq_true rfl) ?_
  intro p e s m below meth c ls X hr hlocks hw hl
  have X : CX p s m ([.ref (ad 30), .int si, .int bi, .int am, .int pr] : List Value).toArray c c_X1_enter N_X1 5 D dA := X
  have hx := X.1
  have hb := X.2.1
  have hS : va_S (tA ad) s.heap s.heap [] := va_S.rf
  have hl : lv_has ls 5 [(0, .ref (ad 30)), (1, .int si), (2, .int bi), (3, .int am), (4, .int pr)] := hl
  obtain ⟨RR, eRR⟩ : ∃ z, f_X1_enter_30 v si bi am pr = z := ⟨_, rfl⟩
  have hK0 : Kp (kp_X1_enter_30 si bi am pr) v v := Kp.rf _ v
  have hG := eRR
  unfold f_X1_enter_30 at hG
  refine lv_aload_n hx hb d_X1_enter_0 rfl (lv_at hl 0 rfl) ?_
  refine r_geti X hw FL_X1_24 (rfl : KD 30 = _) rfl d_X1_enter_1 ?_
  refine lv_topi (fun x1 ex1 => ?_)
  have hG := bnd_use ex1 hG
  have r2 : Rg x1 0 30 := by rw [ex1]; exact hI _ _ _ _ rfl
  have hm3 : v 30 4 = x1 := ex1.symm
  refine lv_bipush (v := 30) hx hb d_X1_enter_4 (by decide) ?_
  refine lv_icmp_lt (tgt := 10) hx hb d_X1_enter_6 (by decide) (fun c4 => ?_) (fun c4 => ?_)
  · have f5 := i_lt c4
    have r6 : Rg x1 0 29 := by obtain ⟨a1, a2⟩ := r2; obtain ⟨b1, b2⟩ := (⟨by decide, by decide⟩ : Rg 30 30 30); have f := i_lt c4; exact ⟨by omega, by omega⟩
    have hG := g_pos c4 hG
    refine lv_aload_n hx hb d_X1_enter_10 rfl (lv_at hl 0 rfl) ?_
    refine r_getr (r := 32) X hw FL_X1_11 (rfl : KD 30 = _) rfl d_X1_enter_11 ?_
    refine lv_aload_n hx hb d_X1_enter_14 rfl (lv_at hl 0 rfl) ?_
    refine r_geti X hw FL_X1_24 (rfl : KD 30 = _) rfl d_X1_enter_15 ?_
    rw [hm3]
    refine lv_iload_n hx hb d_X1_enter_18 rfl (lv_at hl 1 rfl) ?_
    refine r_iast X hw hS (rfl : KD 32 = _) (Rg.vp (b := 29) r6 (by decide)) rfl d_X1_enter_19 (fun H locs hw hS => ?_)
    obtain ⟨v7, ev7⟩ : ∃ z, z = up2 v 32 x1.toNatClampNeg si := ⟨_, rfl⟩
    rw [← ev7] at hw
    have hG := bnd_use ev7 hG
    have hI8 : Inv v7 := by rw [ev7]; exact Inv.put0 hI _ rfl
    have hK9 : Kp (kp_X1_enter_30 si bi am pr) v v7 := by rw [ev7]; exact Kp.put hK0 _ (by unfold kp_X1_enter_30; omega)
    have hm10 : v7 30 4 = x1 := by rw [ev7, up2_n _ _ (by omega)]; exact hm3
    refine lv_aload_n hx hb d_X1_enter_20 rfl (lv_at hl 0 rfl) ?_
    refine r_getr (r := 34) X hw FL_X1_15 (rfl : KD 30 = _) rfl d_X1_enter_21 ?_
    refine lv_aload_n hx hb d_X1_enter_24 rfl (lv_at hl 0 rfl) ?_
    refine r_geti X hw FL_X1_24 (rfl : KD 30 = _) rfl d_X1_enter_25 ?_
    rw [hm10]
    refine lv_iload_n hx hb d_X1_enter_28 rfl (lv_at hl 2 rfl) ?_
    refine r_iast X hw hS (rfl : KD 34 = _) (Rg.vp (b := 29) r6 (by decide)) rfl d_X1_enter_29 (fun H locs hw hS => ?_)
    obtain ⟨v11, ev11⟩ : ∃ z, z = up2 v7 34 x1.toNatClampNeg bi := ⟨_, rfl⟩
    rw [← ev11] at hw
    have hG := bnd_use ev11 hG
    have hI12 : Inv v11 := by rw [ev11]; exact Inv.put0 hI8 _ rfl
    have hK13 : Kp (kp_X1_enter_30 si bi am pr) v v11 := by rw [ev11]; exact Kp.put hK9 _ (by unfold kp_X1_enter_30; omega)
    have hm14 : v11 30 4 = x1 := by rw [ev11, up2_n _ _ (by omega)]; exact hm10
    refine lv_aload_n hx hb d_X1_enter_30 rfl (lv_at hl 0 rfl) ?_
    refine r_getr (r := 36) X hw FL_X1_18 (rfl : KD 30 = _) rfl d_X1_enter_31 ?_
    refine lv_aload_n hx hb d_X1_enter_34 rfl (lv_at hl 0 rfl) ?_
    refine r_geti X hw FL_X1_24 (rfl : KD 30 = _) rfl d_X1_enter_35 ?_
    rw [hm14]
    refine lv_iload_n hx hb d_X1_enter_38 rfl (lv_at hl 3 rfl) ?_
    refine r_iast X hw hS (rfl : KD 36 = _) (Rg.vp (b := 29) r6 (by decide)) rfl d_X1_enter_39 (fun H locs hw hS => ?_)
    obtain ⟨v15, ev15⟩ : ∃ z, z = up2 v11 36 x1.toNatClampNeg am := ⟨_, rfl⟩
    rw [← ev15] at hw
    have hG := bnd_use ev15 hG
    have hI16 : Inv v15 := by rw [ev15]; exact Inv.put0 hI12 _ rfl
    have hK17 : Kp (kp_X1_enter_30 si bi am pr) v v15 := by rw [ev15]; exact Kp.put hK13 _ (by unfold kp_X1_enter_30; omega)
    have hm18 : v15 30 4 = x1 := by rw [ev15, up2_n _ _ (by omega)]; exact hm14
    refine lv_aload_n hx hb d_X1_enter_40 rfl (lv_at hl 0 rfl) ?_
    refine r_getr (r := 38) X hw FL_X1_21 (rfl : KD 30 = _) rfl d_X1_enter_41 ?_
    refine lv_aload_n hx hb d_X1_enter_44 rfl (lv_at hl 0 rfl) ?_
    refine r_geti X hw FL_X1_24 (rfl : KD 30 = _) rfl d_X1_enter_45 ?_
    rw [hm18]
    refine lv_iload hx hb d_X1_enter_48 (lv_at hl 4 rfl) ?_
    refine r_iast X hw hS (rfl : KD 38 = _) (Rg.vp (b := 29) r6 (by decide)) rfl d_X1_enter_50 (fun H locs hw hS => ?_)
    obtain ⟨v19, ev19⟩ : ∃ z, z = up2 v15 38 x1.toNatClampNeg pr := ⟨_, rfl⟩
    rw [← ev19] at hw
    have hG := bnd_use ev19 hG
    have hI20 : Inv v19 := by rw [ev19]; exact Inv.put0 hI16 _ rfl
    have hK21 : Kp (kp_X1_enter_30 si bi am pr) v v19 := by rw [ev19]; exact Kp.put hK17 _ (by unfold kp_X1_enter_30; omega)
    have hm22 : v19 30 4 = x1 := by rw [ev19, up2_n _ _ (by omega)]; exact hm18
    refine lv_aload_n hx hb d_X1_enter_51 rfl (lv_at hl 0 rfl) ?_
    refine lv_dup hx hb d_X1_enter_52 rfl ?_
    refine r_geti X hw FL_X1_24 (rfl : KD 30 = _) rfl d_X1_enter_53 ?_
    rw [hm22]
    refine lv_iconst (v := 1) hx hb d_X1_enter_56 (by decide) ?_
    refine lv_iadd hx hb d_X1_enter_57 ?_
    refine lv_topi (fun x23 ex23 => ?_)
    have hG := bnd_use ex23 hG
    have r24 : Rg x23 1 30 := rg_add ex23 r6 (⟨by decide, by decide⟩ : Rg 1 1 1) (by decide) (by decide)
    have s25 : x23.toInt = x1.toInt + (1 : Int32).toInt := by rw [ex23]; exact i_add (by obtain ⟨_, _⟩ := r6; obtain ⟨_, _⟩ := (⟨by decide, by decide⟩ : Rg 1 1 1); omega) (by obtain ⟨_, _⟩ := r6; obtain ⟨_, _⟩ := (⟨by decide, by decide⟩ : Rg 1 1 1); omega)
    have s25l : (1 : Int32).toInt = 1 := rfl
    refine r_put X hw hS FP_X1_24 (rfl : KD 30 = _) rfl ⟨rfl, rfl⟩ d_X1_enter_58 (fun H locs hw hS => ?_)
    obtain ⟨v26, ev26⟩ : ∃ z, z = up2 v19 30 4 x23 := ⟨_, rfl⟩
    rw [← ev26] at hw
    have hG := bnd_use ev26 hG
    have hI27 : Inv v26 := by rw [ev26]; exact Inv.putr hI20 rfl (rg_w r24 (by decide) (by decide))
    have hK28 : Kp (kp_X1_enter_30 si bi am pr) v v26 := by rw [ev26]; exact Kp.put hK21 _ (by unfold kp_X1_enter_30; omega)
    have hm29 : v26 30 4 = x23 := by rw [ev26, up2_s]
    refine lv_aload_n hx hb d_X1_enter_61 rfl (lv_at hl 0 rfl) ?_
    refine lv_dup hx hb d_X1_enter_62 rfl ?_
    refine r_geti X hw FL_X1_28 (rfl : KD 30 = _) rfl d_X1_enter_63 ?_
    refine lv_topi (fun x30 ex30 => ?_)
    have hG := bnd_use ex30 hG
    refine lv_iload_n hx hb d_X1_enter_66 rfl (lv_at hl 3 rfl) ?_
    refine lv_iadd hx hb d_X1_enter_67 ?_
    refine lv_topi (fun x31 ex31 => ?_)
    have hG := bnd_use ex31 hG
    refine r_put X hw hS FP_X1_28 (rfl : KD 30 = _) rfl ⟨rfl, rfl⟩ d_X1_enter_68 (fun H locs hw hS => ?_)
    obtain ⟨v32, ev32⟩ : ∃ z, z = up2 v26 30 5 x31 := ⟨_, rfl⟩
    rw [← ev32] at hw
    have hG := bnd_use ev32 hG
    have hI33 : Inv v32 := by rw [ev32]; exact Inv.put0 hI27 _ rfl
    have hK34 : Kp (kp_X1_enter_30 si bi am pr) v v32 := by rw [ev32]; exact Kp.put hK28 _ (by unfold kp_X1_enter_30; omega)
    have hm35 : v32 30 4 = x23 := by rw [ev32, up2_n _ _ (by omega)]; exact hm29
    refine lv_aload_n hx hb d_X1_enter_71 rfl (lv_at hl 0 rfl) ?_
    refine lv_dup hx hb d_X1_enter_72 rfl ?_
    refine r_geti X hw FL_X1_31 (rfl : KD 30 = _) rfl d_X1_enter_73 ?_
    refine lv_topi (fun x36 ex36 => ?_)
    have hG := bnd_use ex36 hG
    refine lv_iload_n hx hb d_X1_enter_76 rfl (lv_at hl 3 rfl) ?_
    refine lv_iload hx hb d_X1_enter_77 (lv_at hl 4 rfl) ?_
    refine lv_imul hx hb d_X1_enter_79 ?_
    refine lv_topi (fun x37 ex37 => ?_)
    have hG := bnd_use ex37 hG
    refine lv_iadd hx hb d_X1_enter_80 ?_
    refine lv_topi (fun x38 ex38 => ?_)
    have hG := bnd_use ex38 hG
    refine r_put X hw hS FP_X1_31 (rfl : KD 30 = _) rfl ⟨rfl, rfl⟩ d_X1_enter_81 (fun H locs hw hS => ?_)
    obtain ⟨v39, ev39⟩ : ∃ z, z = up2 v32 30 6 x38 := ⟨_, rfl⟩
    rw [← ev39] at hw
    have hG := bnd_use ev39 hG
    have hI40 : Inv v39 := by rw [ev39]; exact Inv.put0 hI33 _ rfl
    have hK41 : Kp (kp_X1_enter_30 si bi am pr) v v39 := by rw [ev39]; exact Kp.put hK34 _ (by unfold kp_X1_enter_30; omega)
    have hm42 : v39 30 4 = x23 := by rw [ev39, up2_n _ _ (by omega)]; exact hm35
    exact r_vret X hr hlocks hw hS ⟨⟨hI40, hK41⟩, hG.trans eRR.symm⟩ d_X1_enter_84
  · have f43 := i_nlt c4
    have r44 : Rg x1 30 30 := by obtain ⟨a1, a2⟩ := r2; obtain ⟨b1, b2⟩ := (⟨by decide, by decide⟩ : Rg 30 30 30); have f := i_nlt c4; exact ⟨by omega, by omega⟩
    have hG := g_neg c4 hG
    exact r_vret X hr hlocks hw hS ⟨⟨hI, hK0⟩, hG.trans eRR.symm⟩ d_X1_enter_9
theorem d_X1_fact_0 : decode c_X1_fact 0 = .ok (.iload_n 1, 1) := by decide +kernel
theorem d_X1_fact_1 : decode c_X1_fact 1 = .ok (.iconst 0, 1) := by decide +kernel
theorem d_X1_fact_2 : decode c_X1_fact 2 = .ok (.aload_n 0, 1) := by decide +kernel
theorem d_X1_fact_3 : decode c_X1_fact 3 = .ok (.getfield 24, 3) := by decide +kernel
theorem d_X1_fact_6 : decode c_X1_fact 6 = .ok (.iconst 1, 1) := by decide +kernel
theorem d_X1_fact_7 : decode c_X1_fact 7 = .ok (.isub, 1) := by decide +kernel
theorem d_X1_fact_8 : decode c_X1_fact 8 = .ok (.invokestatic 34, 3) := by decide +kernel
theorem d_X1_fact_11 : decode c_X1_fact 11 = .ok (.ifCond .ne 5, 3) := by decide +kernel
theorem d_X1_fact_14 : decode c_X1_fact 14 = .ok (.iconst (-1), 1) := by decide +kernel
theorem d_X1_fact_15 : decode c_X1_fact 15 = .ok (.ireturn, 1) := by decide +kernel
theorem d_X1_fact_16 : decode c_X1_fact 16 = .ok (.iload_n 2, 1) := by decide +kernel
theorem d_X1_fact_17 : decode c_X1_fact 17 = .ok (.tableswitch 59 0 3 #[31, 38, 45, 52], 31) := by decide +kernel
theorem d_X1_fact_48 : decode c_X1_fact 48 = .ok (.aload_n 0, 1) := by decide +kernel
theorem d_X1_fact_49 : decode c_X1_fact 49 = .ok (.getfield 11, 3) := by decide +kernel
theorem d_X1_fact_52 : decode c_X1_fact 52 = .ok (.iload_n 1, 1) := by decide +kernel
theorem d_X1_fact_53 : decode c_X1_fact 53 = .ok (.iaload, 1) := by decide +kernel
theorem d_X1_fact_54 : decode c_X1_fact 54 = .ok (.ireturn, 1) := by decide +kernel
theorem d_X1_fact_55 : decode c_X1_fact 55 = .ok (.aload_n 0, 1) := by decide +kernel
theorem d_X1_fact_56 : decode c_X1_fact 56 = .ok (.getfield 15, 3) := by decide +kernel
theorem d_X1_fact_59 : decode c_X1_fact 59 = .ok (.iload_n 1, 1) := by decide +kernel
theorem d_X1_fact_60 : decode c_X1_fact 60 = .ok (.iaload, 1) := by decide +kernel
theorem d_X1_fact_61 : decode c_X1_fact 61 = .ok (.ireturn, 1) := by decide +kernel
theorem d_X1_fact_62 : decode c_X1_fact 62 = .ok (.aload_n 0, 1) := by decide +kernel
theorem d_X1_fact_63 : decode c_X1_fact 63 = .ok (.getfield 18, 3) := by decide +kernel
theorem d_X1_fact_66 : decode c_X1_fact 66 = .ok (.iload_n 1, 1) := by decide +kernel
theorem d_X1_fact_67 : decode c_X1_fact 67 = .ok (.iaload, 1) := by decide +kernel
theorem d_X1_fact_68 : decode c_X1_fact 68 = .ok (.ireturn, 1) := by decide +kernel
theorem d_X1_fact_69 : decode c_X1_fact 69 = .ok (.aload_n 0, 1) := by decide +kernel
theorem d_X1_fact_70 : decode c_X1_fact 70 = .ok (.getfield 21, 3) := by decide +kernel
theorem d_X1_fact_73 : decode c_X1_fact 73 = .ok (.iload_n 1, 1) := by decide +kernel
theorem d_X1_fact_74 : decode c_X1_fact 74 = .ok (.iaload, 1) := by decide +kernel
theorem d_X1_fact_75 : decode c_X1_fact 75 = .ok (.ireturn, 1) := by decide +kernel
theorem d_X1_fact_76 : decode c_X1_fact 76 = .ok (.iconst (-1), 1) := by decide +kernel
theorem d_X1_fact_77 : decode c_X1_fact 77 = .ok (.ireturn, 1) := by decide +kernel
def f_X1_fact_30 (v : tV) (i : Int32) (what : Int32) : Int32 := bnd (v 30 4) fun x1 => bnd (x1 - (1 : Int32)) fun x4 => (if (0 : Int32).toInt ≤ i.toInt ∧ i.toInt ≤ x4.toInt then (if what.toInt < 0 ∨ 3 < what.toInt then (-1 : Int32) else (if what.toInt = 0 then bnd (v 32 i.toNatClampNeg) fun x14 => x14 else (if what.toInt = 1 then bnd (v 34 i.toNatClampNeg) fun x15 => x15 else (if what.toInt = 2 then bnd (v 36 i.toNatClampNeg) fun x16 => x16 else bnd (v 38 i.toNatClampNeg) fun x17 => x17)))) else (-1 : Int32))
set_option maxHeartbeats 4000000 in
set_option maxRecDepth 100000 in
theorem ct_X1_fact_30 (l : Launch) (D : va_G) (dA : Nat → ClassId) (ad : Nat → Nat) (v : tV) (hI : Inv v) (i : Int32) (what : Int32) : Met l m_X1_fact [.code m_X1_fact c_X1_fact 3 (some .int)] ({ frames := 2, cells := 0, slots := 0, locals := 62 } : Room) (tP D dA ad v [.ref (ad 30), .int i, .int what]) (tQi D dA ad (fun r v' => (v' = v) ∧ r = f_X1_fact_30 v i what)) 0 0 (tA ad) := by
  refine tMet (by decide) (Nat.le_of_ble_eq_true rfl) ?_
  intro p e s m below meth c ls X hr hlocks hw hl
  have X : CX p s m ([.ref (ad 30), .int i, .int what] : List Value).toArray c c_X1_fact N_X1 3 D dA := X
  have hx := X.1
  have hb := X.2.1
  have hS : va_S (tA ad) s.heap s.heap [] := va_S.rf
  have hl : lv_has ls 3 [(0, .ref (ad 30)), (1, .int i), (2, .int what)] := hl
  obtain ⟨RR, eRR⟩ : ∃ z, f_X1_fact_30 v i what = z := ⟨_, rfl⟩
  have hG := eRR
  unfold f_X1_fact_30 at hG
  refine lv_iload_n hx hb d_X1_fact_0 rfl (lv_at hl 1 rfl) ?_
  refine lv_iconst (v := 0) hx hb d_X1_fact_1 (by decide) ?_
  refine lv_aload_n hx hb d_X1_fact_2 rfl (lv_at hl 0 rfl) ?_
  refine r_geti X hw FL_X1_24 (rfl : KD 30 = _) rfl d_X1_fact_3 ?_
  refine lv_topi (fun x1 ex1 => ?_)
  have hG := bnd_use ex1 hG
  have r2 : Rg x1 0 30 := by rw [ex1]; exact hI _ _ _ _ rfl
  have hm3 : v 30 4 = x1 := ex1.symm
  refine lv_iconst (v := 1) hx hb d_X1_fact_6 (by decide) ?_
  refine lv_isub hx hb d_X1_fact_7 ?_
  refine lv_topi (fun x4 ex4 => ?_)
  have hG := bnd_use ex4 hG
  have r5 : Rg x4 (-1) 29 := rg_sub ex4 r2 (⟨by decide, by decide⟩ : Rg 1 1 1) (by decide) (by decide)
  have s6 : x4.toInt = x1.toInt - (1 : Int32).toInt := by rw [ex4]; exact i_sub (by obtain ⟨_, _⟩ := r2; obtain ⟨_, _⟩ := (⟨by decide, by decide⟩ : Rg 1 1 1); omega) (by obtain ⟨_, _⟩ := r2; obtain ⟨_, _⟩ := (⟨by decide, by decide⟩ : Rg 1 1 1); omega)
  have s6l : (1 : Int32).toInt = 1 := rfl
  refine r_ci (r_runSN (n := 3) (As := [.int i, .int 0, .int x4]) (rest := []) X hw (ct_X10_within l D dA ad v hI i 0 x4) gn_X1_34 gc_X1_34 (by decide +kernel) ⟨rfl, rfl, Nat.le_of_ble_eq_true rfl, Nat.le_of_ble_eq_true rfl⟩ rfl hl.1 rfl (Nat.le_of_ble_eq_true rfl) ⟨Nat.zero_le _, Nat.zero_le _⟩ d_X1_fact_8) hS (fun x8 v9 H locs hp7 hw hS => ?_)
  obtain ⟨ev9, hp7⟩ := hp7
  rw [ev9] at hw
  rcases hp7 with ⟨rfl, w10a, w10b⟩ | ⟨rfl, w10n⟩
  · skip
    have hG := g_pos ⟨w10a, w10b⟩ hG
    have r11 : Rg i 0 29 := by obtain ⟨_, _⟩ := (rg_any i); have : (0 : Int32).toInt = 0 := rfl; obtain ⟨_, _⟩ := r5; exact ⟨by omega, by omega⟩
    refine lv_if_ne (tgt := 16) hx hb d_X1_fact_11 (by decide) (fun c12 => ?_) (fun c12 => ?_)
    · refine lv_iload_n hx hb d_X1_fact_16 rfl (lv_at hl 2 rfl) ?_
      by_cases c13 : what.toInt < 0 ∨ 3 < what.toInt
      · refine lv_tableOut (tgt := 76) hx hb d_X1_fact_17 c13 (by decide) ?_
        have hG := g_pos c13 hG
        refine lv_iconst (v := -1) hx hb d_X1_fact_76 (by decide) ?_
        exact r_iret X hr hlocks hw hS ⟨rfl, hG.trans eRR.symm⟩ d_X1_fact_77
      · have c13b : what.toInt = 0 ∨ what.toInt = 1 ∨ what.toInt = 2 ∨ what.toInt = 3 := by omega
        have hG := g_neg c13 hG
        rcases c13b with c13e | c13e | c13e | c13e
        · refine lv_tableIn (off := 31) (tgt := 48) hx hb d_X1_fact_17 (by omega) (by omega) (by rw [c13e]; rfl) (by decide) ?_
          have hG := g_pos c13e hG
          refine lv_aload_n hx hb d_X1_fact_48 rfl (lv_at hl 0 rfl) ?_
          refine r_getr (r := 32) X hw FL_X1_11 (rfl : KD 30 = _) rfl d_X1_fact_49 ?_
          refine lv_iload_n hx hb d_X1_fact_52 rfl (lv_at hl 1 rfl) ?_
          refine r_iald X hw (rfl : KD 32 = _) (Rg.vp (b := 29) r11 (by decide)) rfl d_X1_fact_53 ?_
          refine lv_topi (fun x14 ex14 => ?_)
          have hG := bnd_use ex14 hG
          exact r_iret X hr hlocks hw hS ⟨rfl, hG.trans eRR.symm⟩ d_X1_fact_54
        · refine lv_tableIn (off := 38) (tgt := 55) hx hb d_X1_fact_17 (by omega) (by omega) (by rw [c13e]; rfl) (by decide) ?_
          have hG := g_neg (by omega) hG
          have hG := g_pos c13e hG
          refine lv_aload_n hx hb d_X1_fact_55 rfl (lv_at hl 0 rfl) ?_
          refine r_getr (r := 34) X hw FL_X1_15 (rfl : KD 30 = _) rfl d_X1_fact_56 ?_
          refine lv_iload_n hx hb d_X1_fact_59 rfl (lv_at hl 1 rfl) ?_
          refine r_iald X hw (rfl : KD 34 = _) (Rg.vp (b := 29) r11 (by decide)) rfl d_X1_fact_60 ?_
          refine lv_topi (fun x15 ex15 => ?_)
          have hG := bnd_use ex15 hG
          exact r_iret X hr hlocks hw hS ⟨rfl, hG.trans eRR.symm⟩ d_X1_fact_61
        · refine lv_tableIn (off := 45) (tgt := 62) hx hb d_X1_fact_17 (by omega) (by omega) (by rw [c13e]; rfl) (by decide) ?_
          have hG := g_neg (by omega) hG
          have hG := g_neg (by omega) hG
          have hG := g_pos c13e hG
          refine lv_aload_n hx hb d_X1_fact_62 rfl (lv_at hl 0 rfl) ?_
          refine r_getr (r := 36) X hw FL_X1_18 (rfl : KD 30 = _) rfl d_X1_fact_63 ?_
          refine lv_iload_n hx hb d_X1_fact_66 rfl (lv_at hl 1 rfl) ?_
          refine r_iald X hw (rfl : KD 36 = _) (Rg.vp (b := 29) r11 (by decide)) rfl d_X1_fact_67 ?_
          refine lv_topi (fun x16 ex16 => ?_)
          have hG := bnd_use ex16 hG
          exact r_iret X hr hlocks hw hS ⟨rfl, hG.trans eRR.symm⟩ d_X1_fact_68
        · refine lv_tableIn (off := 52) (tgt := 69) hx hb d_X1_fact_17 (by omega) (by omega) (by rw [c13e]; rfl) (by decide) ?_
          have hG := g_neg (by omega) hG
          have hG := g_neg (by omega) hG
          have hG := g_neg (by omega) hG
          refine lv_aload_n hx hb d_X1_fact_69 rfl (lv_at hl 0 rfl) ?_
          refine r_getr (r := 38) X hw FL_X1_21 (rfl : KD 30 = _) rfl d_X1_fact_70 ?_
          refine lv_iload_n hx hb d_X1_fact_73 rfl (lv_at hl 1 rfl) ?_
          refine r_iald X hw (rfl : KD 38 = _) (Rg.vp (b := 29) r11 (by decide)) rfl d_X1_fact_74 ?_
          refine lv_topi (fun x17 ex17 => ?_)
          have hG := bnd_use ex17 hG
          exact r_iret X hr hlocks hw hS ⟨rfl, hG.trans eRR.symm⟩ d_X1_fact_75
    · exact absurd c12 (by decide)
  · skip
    have hG := g_neg w10n hG
    refine lv_if_ne (tgt := 16) hx hb d_X1_fact_11 (by decide) (fun c18 => ?_) (fun c18 => ?_)
    · exact absurd c18 (by decide)
    · refine lv_iconst (v := -1) hx hb d_X1_fact_14 (by decide) ?_
      exact r_iret X hr hlocks hw hS ⟨rfl, hG.trans eRR.symm⟩ d_X1_fact_15
def kp_X1_open_31  (a j : Nat) : Prop := a ≠ 31
def f_X1_open_31 (v : tV)  : tV := bnd (up2 v 31 4 0) fun v1 => bnd (up2 v1 31 5 0) fun v5 => bnd (up2 v5 31 6 0) fun v9 => v9
set_option maxHeartbeats 4000000 in
set_option maxRecDepth 100000 in
theorem ct_X1_open_31 (l : Launch) (D : va_G) (dA : Nat → ClassId) (ad : Nat → Nat) (v : tV) (hI : Inv v)  : Met l m_X1_open [.code m_X1_open c_X1_open 1 none] ({ frames := 1, cells := 0, slots := 0, locals := 40 } : Room) (tP D dA ad v [.ref (ad 31)]) (tQv D dA ad (fun v' => (Inv v' ∧ Kp kp_X1_open_31 v v') ∧ v' = f_X1_open_31 v )) 0 0 (tA ad) := by
  refine tMet (by decide) (Nat.le_of_ble_eq_true rfl) ?_
  intro p e s m below meth c ls X hr hlocks hw hl
  have X : CX p s m ([.ref (ad 31)] : List Value).toArray c c_X1_open N_X1 1 D dA := X
  have hx := X.1
  have hb := X.2.1
  have hS : va_S (tA ad) s.heap s.heap [] := va_S.rf
  have hl : lv_has ls 1 [(0, .ref (ad 31))] := hl
  obtain ⟨RR, eRR⟩ : ∃ z, f_X1_open_31 v  = z := ⟨_, rfl⟩
  have hK0 : Kp kp_X1_open_31 v v := Kp.rf _ v
  have hG := eRR
  unfold f_X1_open_31 at hG
  refine lv_aload_n hx hb d_X1_open_0 rfl (lv_at hl 0 rfl) ?_
  refine lv_iconst (v := 0) hx hb d_X1_open_1 (by decide) ?_
  refine r_put X hw hS FP_X1_24 (rfl : KD 31 = _) rfl ⟨rfl, rfl⟩ d_X1_open_2 (fun H locs hw hS => ?_)
  obtain ⟨v1, ev1⟩ : ∃ z, z = up2 v 31 4 0 := ⟨_, rfl⟩
  rw [← ev1] at hw
  have hG := bnd_use ev1 hG
  have hI2 : Inv v1 := by rw [ev1]; exact Inv.putr hI rfl (rg_w (⟨by decide, by decide⟩ : Rg 0 0 0) (by decide) (by decide))
  have hK3 : Kp kp_X1_open_31 v v1 := by rw [ev1]; exact Kp.put hK0 _ (by unfold kp_X1_open_31; omega)
  have hm4 : v1 31 4 = 0 := by rw [ev1, up2_s]
  refine lv_aload_n hx hb d_X1_open_5 rfl (lv_at hl 0 rfl) ?_
  refine lv_iconst (v := 0) hx hb d_X1_open_6 (by decide) ?_
  refine r_put X hw hS FP_X1_28 (rfl : KD 31 = _) rfl ⟨rfl, rfl⟩ d_X1_open_7 (fun H locs hw hS => ?_)
  obtain ⟨v5, ev5⟩ : ∃ z, z = up2 v1 31 5 0 := ⟨_, rfl⟩
  rw [← ev5] at hw
  have hG := bnd_use ev5 hG
  have hI6 : Inv v5 := by rw [ev5]; exact Inv.put0 hI2 _ rfl
  have hK7 : Kp kp_X1_open_31 v v5 := by rw [ev5]; exact Kp.put hK3 _ (by unfold kp_X1_open_31; omega)
  have hm8 : v5 31 4 = 0 := by rw [ev5, up2_n _ _ (by omega)]; exact hm4
  refine lv_aload_n hx hb d_X1_open_10 rfl (lv_at hl 0 rfl) ?_
  refine lv_iconst (v := 0) hx hb d_X1_open_11 (by decide) ?_
  refine r_put X hw hS FP_X1_31 (rfl : KD 31 = _) rfl ⟨rfl, rfl⟩ d_X1_open_12 (fun H locs hw hS => ?_)
  obtain ⟨v9, ev9⟩ : ∃ z, z = up2 v5 31 6 0 := ⟨_, rfl⟩
  rw [← ev9] at hw
  have hG := bnd_use ev9 hG
  have hI10 : Inv v9 := by rw [ev9]; exact Inv.put0 hI6 _ rfl
  have hK11 : Kp kp_X1_open_31 v v9 := by rw [ev9]; exact Kp.put hK7 _ (by unfold kp_X1_open_31; omega)
  have hm12 : v9 31 4 = 0 := by rw [ev9, up2_n _ _ (by omega)]; exact hm8
  exact r_vret X hr hlocks hw hS ⟨⟨hI10, hK11⟩, hG.trans eRR.symm⟩ d_X1_open_15
def kp_X1_enter_31 (si : Int32) (bi : Int32) (am : Int32) (pr : Int32) (a j : Nat) : Prop := a ≠ 31 ∧ a ≠ 33 ∧ a ≠ 35 ∧ a ≠ 37 ∧ a ≠ 39
def f_X1_enter_31 (v : tV) (si : Int32) (bi : Int32) (am : Int32) (pr : Int32) : tV := bnd (v 31 4) fun x1 => (if x1 < (30 : Int32) then bnd (up2 v 33 (x1.toNatClampNeg) si) fun v7 => bnd (up2 v7 35 (x1.toNatClampNeg) bi) fun v11 => bnd (up2 v11 37 (x1.toNatClampNeg) am) fun v15 => bnd (up2 v15 39 (x1.toNatClampNeg) pr) fun v19 => bnd (x1 + (1 : Int32)) fun x23 => bnd (up2 v19 31 4 x23) fun v26 => bnd (v26 31 5) fun x30 => bnd (x30 + am) fun x31 => bnd (up2 v26 31 5 x31) fun v32 => bnd (v32 31 6) fun x36 => bnd (am * pr) fun x37 => bnd (x36 + x37) fun x38 => bnd (up2 v32 31 6 x38) fun v39 => v39 else v)
set_option maxHeartbeats 4000000 in
set_option maxRecDepth 100000 in
theorem ct_X1_enter_31 (l : Launch) (D : va_G) (dA : Nat → ClassId) (ad : Nat → Nat) (v : tV) (hI : Inv v) (si : Int32) (bi : Int32) (am : Int32) (pr : Int32) : Met l m_X1_enter [.code m_X1_enter c_X1_enter 5 none] ({ frames := 1, cells := 0, slots := 0, locals := 40 } : Room) (tP D dA ad v [.ref (ad 31), .int si, .int bi, .int am, .int pr]) (tQv D dA ad (fun v' => (Inv v' ∧ Kp (kp_X1_enter_31 si bi am pr) v v') ∧ v' = f_X1_enter_31 v si bi am pr)) 0 0 (tA ad) := by
  refine tMet (by decide) (Nat.le_of_ble_eq_true rfl) ?_
  intro p e s m below meth c ls X hr hlocks hw hl
  have X : CX p s m ([.ref (ad 31), .int si, .int bi, .int am, .int pr] : List Value).toArray c c_X1_enter N_X1 5 D dA := X
  have hx := X.1
  have hb := X.2.1
  have hS : va_S (tA ad) s.heap s.heap [] := va_S.rf
  have hl : lv_has ls 5 [(0, .ref (ad 31)), (1, .int si), (2, .int bi), (3, .int am), (4, .int pr)] := hl
  obtain ⟨RR, eRR⟩ : ∃ z, f_X1_enter_31 v si bi am pr = z := ⟨_, rfl⟩
  have hK0 : Kp (kp_X1_enter_31 si bi am pr) v v := Kp.rf _ v
  have hG := eRR
  unfold f_X1_enter_31 at hG
  refine lv_aload_n hx hb d_X1_enter_0 rfl (lv_at hl 0 rfl) ?_
  refine r_geti X hw FL_X1_24 (rfl : KD 31 = _) rfl d_X1_enter_1 ?_
  refine lv_topi (fun x1 ex1 => ?_)
  have hG := bnd_use ex1 hG
  have r2 : Rg x1 0 30 := by rw [ex1]; exact hI _ _ _ _ rfl
  have hm3 : v 31 4 = x1 := ex1.symm
  refine lv_bipush (v := 30) hx hb d_X1_enter_4 (by decide) ?_
  refine lv_icmp_lt (tgt := 10) hx hb d_X1_enter_6 (by decide) (fun c4 => ?_) (fun c4 => ?_)
  · have f5 := i_lt c4
    have r6 : Rg x1 0 29 := by obtain ⟨a1, a2⟩ := r2; obtain ⟨b1, b2⟩ := (⟨by decide, by decide⟩ : Rg 30 30 30); have f := i_lt c4; exact ⟨by omega, by omega⟩
    have hG := g_pos c4 hG
    refine lv_aload_n hx hb d_X1_enter_10 rfl (lv_at hl 0 rfl) ?_
    refine r_getr (r := 33) X hw FL_X1_11 (rfl : KD 31 = _) rfl d_X1_enter_11 ?_
    refine lv_aload_n hx hb d_X1_enter_14 rfl (lv_at hl 0 rfl) ?_
    refine r_geti X hw FL_X1_24 (rfl : KD 31 = _) rfl d_X1_enter_15 ?_
    rw [hm3]
    refine lv_iload_n hx hb d_X1_enter_18 rfl (lv_at hl 1 rfl) ?_
    refine r_iast X hw hS (rfl : KD 33 = _) (Rg.vp (b := 29) r6 (by decide)) rfl d_X1_enter_19 (fun H locs hw hS => ?_)
    obtain ⟨v7, ev7⟩ : ∃ z, z = up2 v 33 x1.toNatClampNeg si := ⟨_, rfl⟩
    rw [← ev7] at hw
    have hG := bnd_use ev7 hG
    have hI8 : Inv v7 := by rw [ev7]; exact Inv.put0 hI _ rfl
    have hK9 : Kp (kp_X1_enter_31 si bi am pr) v v7 := by rw [ev7]; exact Kp.put hK0 _ (by unfold kp_X1_enter_31; omega)
    have hm10 : v7 31 4 = x1 := by rw [ev7, up2_n _ _ (by omega)]; exact hm3
    refine lv_aload_n hx hb d_X1_enter_20 rfl (lv_at hl 0 rfl) ?_
    refine r_getr (r := 35) X hw FL_X1_15 (rfl : KD 31 = _) rfl d_X1_enter_21 ?_
    refine lv_aload_n hx hb d_X1_enter_24 rfl (lv_at hl 0 rfl) ?_
    refine r_geti X hw FL_X1_24 (rfl : KD 31 = _) rfl d_X1_enter_25 ?_
    rw [hm10]
    refine lv_iload_n hx hb d_X1_enter_28 rfl (lv_at hl 2 rfl) ?_
    refine r_iast X hw hS (rfl : KD 35 = _) (Rg.vp (b := 29) r6 (by decide)) rfl d_X1_enter_29 (fun H locs hw hS => ?_)
    obtain ⟨v11, ev11⟩ : ∃ z, z = up2 v7 35 x1.toNatClampNeg bi := ⟨_, rfl⟩
    rw [← ev11] at hw
    have hG := bnd_use ev11 hG
    have hI12 : Inv v11 := by rw [ev11]; exact Inv.put0 hI8 _ rfl
    have hK13 : Kp (kp_X1_enter_31 si bi am pr) v v11 := by rw [ev11]; exact Kp.put hK9 _ (by unfold kp_X1_enter_31; omega)
    have hm14 : v11 31 4 = x1 := by rw [ev11, up2_n _ _ (by omega)]; exact hm10
    refine lv_aload_n hx hb d_X1_enter_30 rfl (lv_at hl 0 rfl) ?_
    refine r_getr (r := 37) X hw FL_X1_18 (rfl : KD 31 = _) rfl d_X1_enter_31 ?_
    refine lv_aload_n hx hb d_X1_enter_34 rfl (lv_at hl 0 rfl) ?_
    refine r_geti X hw FL_X1_24 (rfl : KD 31 = _) rfl d_X1_enter_35 ?_
    rw [hm14]
    refine lv_iload_n hx hb d_X1_enter_38 rfl (lv_at hl 3 rfl) ?_
    refine r_iast X hw hS (rfl : KD 37 = _) (Rg.vp (b := 29) r6 (by decide)) rfl d_X1_enter_39 (fun H locs hw hS => ?_)
    obtain ⟨v15, ev15⟩ : ∃ z, z = up2 v11 37 x1.toNatClampNeg am := ⟨_, rfl⟩
    rw [← ev15] at hw
    have hG := bnd_use ev15 hG
    have hI16 : Inv v15 := by rw [ev15]; exact Inv.put0 hI12 _ rfl
    have hK17 : Kp (kp_X1_enter_31 si bi am pr) v v15 := by rw [ev15]; exact Kp.put hK13 _ (by unfold kp_X1_enter_31; omega)
    have hm18 : v15 31 4 = x1 := by rw [ev15, up2_n _ _ (by omega)]; exact hm14
    refine lv_aload_n hx hb d_X1_enter_40 rfl (lv_at hl 0 rfl) ?_
    refine r_getr (r := 39) X hw FL_X1_21 (rfl : KD 31 = _) rfl d_X1_enter_41 ?_
    refine lv_aload_n hx hb d_X1_enter_44 rfl (lv_at hl 0 rfl) ?_
    refine r_geti X hw FL_X1_24 (rfl : KD 31 = _) rfl d_X1_enter_45 ?_
    rw [hm18]
    refine lv_iload hx hb d_X1_enter_48 (lv_at hl 4 rfl) ?_
    refine r_iast X hw hS (rfl : KD 39 = _) (Rg.vp (b := 29) r6 (by decide)) rfl d_X1_enter_50 (fun H locs hw hS => ?_)
    obtain ⟨v19, ev19⟩ : ∃ z, z = up2 v15 39 x1.toNatClampNeg pr := ⟨_, rfl⟩
    rw [← ev19] at hw
    have hG := bnd_use ev19 hG
    have hI20 : Inv v19 := by rw [ev19]; exact Inv.put0 hI16 _ rfl
    have hK21 : Kp (kp_X1_enter_31 si bi am pr) v v19 := by rw [ev19]; exact Kp.put hK17 _ (by unfold kp_X1_enter_31; omega)
    have hm22 : v19 31 4 = x1 := by rw [ev19, up2_n _ _ (by omega)]; exact hm18
    refine lv_aload_n hx hb d_X1_enter_51 rfl (lv_at hl 0 rfl) ?_
    refine lv_dup hx hb d_X1_enter_52 rfl ?_
    refine r_geti X hw FL_X1_24 (rfl : KD 31 = _) rfl d_X1_enter_53 ?_
    rw [hm22]
    refine lv_iconst (v := 1) hx hb d_X1_enter_56 (by decide) ?_
    refine lv_iadd hx hb d_X1_enter_57 ?_
    refine lv_topi (fun x23 ex23 => ?_)
    have hG := bnd_use ex23 hG
    have r24 : Rg x23 1 30 := rg_add ex23 r6 (⟨by decide, by decide⟩ : Rg 1 1 1) (by decide) (by decide)
    have s25 : x23.toInt = x1.toInt + (1 : Int32).toInt := by rw [ex23]; exact i_add (by obtain ⟨_, _⟩ := r6; obtain ⟨_, _⟩ := (⟨by decide, by decide⟩ : Rg 1 1 1); omega) (by obtain ⟨_, _⟩ := r6; obtain ⟨_, _⟩ := (⟨by decide, by decide⟩ : Rg 1 1 1); omega)
    have s25l : (1 : Int32).toInt = 1 := rfl
    refine r_put X hw hS FP_X1_24 (rfl : KD 31 = _) rfl ⟨rfl, rfl⟩ d_X1_enter_58 (fun H locs hw hS => ?_)
    obtain ⟨v26, ev26⟩ : ∃ z, z = up2 v19 31 4 x23 := ⟨_, rfl⟩
    rw [← ev26] at hw
    have hG := bnd_use ev26 hG
    have hI27 : Inv v26 := by rw [ev26]; exact Inv.putr hI20 rfl (rg_w r24 (by decide) (by decide))
    have hK28 : Kp (kp_X1_enter_31 si bi am pr) v v26 := by rw [ev26]; exact Kp.put hK21 _ (by unfold kp_X1_enter_31; omega)
    have hm29 : v26 31 4 = x23 := by rw [ev26, up2_s]
    refine lv_aload_n hx hb d_X1_enter_61 rfl (lv_at hl 0 rfl) ?_
    refine lv_dup hx hb d_X1_enter_62 rfl ?_
    refine r_geti X hw FL_X1_28 (rfl : KD 31 = _) rfl d_X1_enter_63 ?_
    refine lv_topi (fun x30 ex30 => ?_)
    have hG := bnd_use ex30 hG
    refine lv_iload_n hx hb d_X1_enter_66 rfl (lv_at hl 3 rfl) ?_
    refine lv_iadd hx hb d_X1_enter_67 ?_
    refine lv_topi (fun x31 ex31 => ?_)
    have hG := bnd_use ex31 hG
    refine r_put X hw hS FP_X1_28 (rfl : KD 31 = _) rfl ⟨rfl, rfl⟩ d_X1_enter_68 (fun H locs hw hS => ?_)
    obtain ⟨v32, ev32⟩ : ∃ z, z = up2 v26 31 5 x31 := ⟨_, rfl⟩
    rw [← ev32] at hw
    have hG := bnd_use ev32 hG
    have hI33 : Inv v32 := by rw [ev32]; exact Inv.put0 hI27 _ rfl
    have hK34 : Kp (kp_X1_enter_31 si bi am pr) v v32 := by rw [ev32]; exact Kp.put hK28 _ (by unfold kp_X1_enter_31; omega)
    have hm35 : v32 31 4 = x23 := by rw [ev32, up2_n _ _ (by omega)]; exact hm29
    refine lv_aload_n hx hb d_X1_enter_71 rfl (lv_at hl 0 rfl) ?_
    refine lv_dup hx hb d_X1_enter_72 rfl ?_
    refine r_geti X hw FL_X1_31 (rfl : KD 31 = _) rfl d_X1_enter_73 ?_
    refine lv_topi (fun x36 ex36 => ?_)
    have hG := bnd_use ex36 hG
    refine lv_iload_n hx hb d_X1_enter_76 rfl (lv_at hl 3 rfl) ?_
    refine lv_iload hx hb d_X1_enter_77 (lv_at hl 4 rfl) ?_
    refine lv_imul hx hb d_X1_enter_79 ?_
    refine lv_topi (fun x37 ex37 => ?_)
    have hG := bnd_use ex37 hG
    refine lv_iadd hx hb d_X1_enter_80 ?_
    refine lv_topi (fun x38 ex38 => ?_)
    have hG := bnd_use ex38 hG
    refine r_put X hw hS FP_X1_31 (rfl : KD 31 = _) rfl ⟨rfl, rfl⟩ d_X1_enter_81 (fun H locs hw hS => ?_)
    obtain ⟨v39, ev39⟩ : ∃ z, z = up2 v32 31 6 x38 := ⟨_, rfl⟩
    rw [← ev39] at hw
    have hG := bnd_use ev39 hG
    have hI40 : Inv v39 := by rw [ev39]; exact Inv.put0 hI33 _ rfl
    have hK41 : Kp (kp_X1_enter_31 si bi am pr) v v39 := by rw [ev39]; exact Kp.put hK34 _ (by unfold kp_X1_enter_31; omega)
    have hm42 : v39 31 4 = x23 := by rw [ev39, up2_n _ _ (by omega)]; exact hm35
    exact r_vret X hr hlocks hw hS ⟨⟨hI40, hK41⟩, hG.trans eRR.symm⟩ d_X1_enter_84
  · have f43 := i_nlt c4
    have r44 : Rg x1 30 30 := by obtain ⟨a1, a2⟩ := r2; obtain ⟨b1, b2⟩ := (⟨by decide, by decide⟩ : Rg 30 30 30); have f := i_nlt c4; exact ⟨by omega, by omega⟩
    have hG := g_neg c4 hG
    exact r_vret X hr hlocks hw hS ⟨⟨hI, hK0⟩, hG.trans eRR.symm⟩ d_X1_enter_9
def f_X1_fact_31 (v : tV) (i : Int32) (what : Int32) : Int32 := bnd (v 31 4) fun x1 => bnd (x1 - (1 : Int32)) fun x4 => (if (0 : Int32).toInt ≤ i.toInt ∧ i.toInt ≤ x4.toInt then (if what.toInt < 0 ∨ 3 < what.toInt then (-1 : Int32) else (if what.toInt = 0 then bnd (v 33 i.toNatClampNeg) fun x14 => x14 else (if what.toInt = 1 then bnd (v 35 i.toNatClampNeg) fun x15 => x15 else (if what.toInt = 2 then bnd (v 37 i.toNatClampNeg) fun x16 => x16 else bnd (v 39 i.toNatClampNeg) fun x17 => x17)))) else (-1 : Int32))
set_option maxHeartbeats 4000000 in
set_option maxRecDepth 100000 in
theorem ct_X1_fact_31 (l : Launch) (D : va_G) (dA : Nat → ClassId) (ad : Nat → Nat) (v : tV) (hI : Inv v) (i : Int32) (what : Int32) : Met l m_X1_fact [.code m_X1_fact c_X1_fact 3 (some .int)] ({ frames := 2, cells := 0, slots := 0, locals := 62 } : Room) (tP D dA ad v [.ref (ad 31), .int i, .int what]) (tQi D dA ad (fun r v' => (v' = v) ∧ r = f_X1_fact_31 v i what)) 0 0 (tA ad) := by
  refine tMet (by decide) (Nat.le_of_ble_eq_true rfl) ?_
  intro p e s m below meth c ls X hr hlocks hw hl
  have X : CX p s m ([.ref (ad 31), .int i, .int what] : List Value).toArray c c_X1_fact N_X1 3 D dA := X
  have hx := X.1
  have hb := X.2.1
  have hS : va_S (tA ad) s.heap s.heap [] := va_S.rf
  have hl : lv_has ls 3 [(0, .ref (ad 31)), (1, .int i), (2, .int what)] := hl
  obtain ⟨RR, eRR⟩ : ∃ z, f_X1_fact_31 v i what = z := ⟨_, rfl⟩
  have hG := eRR
  unfold f_X1_fact_31 at hG
  refine lv_iload_n hx hb d_X1_fact_0 rfl (lv_at hl 1 rfl) ?_
  refine lv_iconst (v := 0) hx hb d_X1_fact_1 (by decide) ?_
  refine lv_aload_n hx hb d_X1_fact_2 rfl (lv_at hl 0 rfl) ?_
  refine r_geti X hw FL_X1_24 (rfl : KD 31 = _) rfl d_X1_fact_3 ?_
  refine lv_topi (fun x1 ex1 => ?_)
  have hG := bnd_use ex1 hG
  have r2 : Rg x1 0 30 := by rw [ex1]; exact hI _ _ _ _ rfl
  have hm3 : v 31 4 = x1 := ex1.symm
  refine lv_iconst (v := 1) hx hb d_X1_fact_6 (by decide) ?_
  refine lv_isub hx hb d_X1_fact_7 ?_
  refine lv_topi (fun x4 ex4 => ?_)
  have hG := bnd_use ex4 hG
  have r5 : Rg x4 (-1) 29 := rg_sub ex4 r2 (⟨by decide, by decide⟩ : Rg 1 1 1) (by decide) (by decide)
  have s6 : x4.toInt = x1.toInt - (1 : Int32).toInt := by rw [ex4]; exact i_sub (by obtain ⟨_, _⟩ := r2; obtain ⟨_, _⟩ := (⟨by decide, by decide⟩ : Rg 1 1 1); omega) (by obtain ⟨_, _⟩ := r2; obtain ⟨_, _⟩ := (⟨by decide, by decide⟩ : Rg 1 1 1); omega)
  have s6l : (1 : Int32).toInt = 1 := rfl
  refine r_ci (r_runSN (n := 3) (As := [.int i, .int 0, .int x4]) (rest := []) X hw (ct_X10_within l D dA ad v hI i 0 x4) gn_X1_34 gc_X1_34 (by decide +kernel) ⟨rfl, rfl, Nat.le_of_ble_eq_true rfl, Nat.le_of_ble_eq_true rfl⟩ rfl hl.1 rfl (Nat.le_of_ble_eq_true rfl) ⟨Nat.zero_le _, Nat.zero_le _⟩ d_X1_fact_8) hS (fun x8 v9 H locs hp7 hw hS => ?_)
  obtain ⟨ev9, hp7⟩ := hp7
  rw [ev9] at hw
  rcases hp7 with ⟨rfl, w10a, w10b⟩ | ⟨rfl, w10n⟩
  · skip
    have hG := g_pos ⟨w10a, w10b⟩ hG
    have r11 : Rg i 0 29 := by obtain ⟨_, _⟩ := (rg_any i); have : (0 : Int32).toInt = 0 := rfl; obtain ⟨_, _⟩ := r5; exact ⟨by omega, by omega⟩
    refine lv_if_ne (tgt := 16) hx hb d_X1_fact_11 (by decide) (fun c12 => ?_) (fun c12 => ?_)
    · refine lv_iload_n hx hb d_X1_fact_16 rfl (lv_at hl 2 rfl) ?_
      by_cases c13 : what.toInt < 0 ∨ 3 < what.toInt
      · refine lv_tableOut (tgt := 76) hx hb d_X1_fact_17 c13 (by decide) ?_
        have hG := g_pos c13 hG
        refine lv_iconst (v := -1) hx hb d_X1_fact_76 (by decide) ?_
        exact r_iret X hr hlocks hw hS ⟨rfl, hG.trans eRR.symm⟩ d_X1_fact_77
      · have c13b : what.toInt = 0 ∨ what.toInt = 1 ∨ what.toInt = 2 ∨ what.toInt = 3 := by omega
        have hG := g_neg c13 hG
        rcases c13b with c13e | c13e | c13e | c13e
        · refine lv_tableIn (off := 31) (tgt := 48) hx hb d_X1_fact_17 (by omega) (by omega) (by rw [c13e]; rfl) (by decide) ?_
          have hG := g_pos c13e hG
          refine lv_aload_n hx hb d_X1_fact_48 rfl (lv_at hl 0 rfl) ?_
          refine r_getr (r := 33) X hw FL_X1_11 (rfl : KD 31 = _) rfl d_X1_fact_49 ?_
          refine lv_iload_n hx hb d_X1_fact_52 rfl (lv_at hl 1 rfl) ?_
          refine r_iald X hw (rfl : KD 33 = _) (Rg.vp (b := 29) r11 (by decide)) rfl d_X1_fact_53 ?_
          refine lv_topi (fun x14 ex14 => ?_)
          have hG := bnd_use ex14 hG
          exact r_iret X hr hlocks hw hS ⟨rfl, hG.trans eRR.symm⟩ d_X1_fact_54
        · refine lv_tableIn (off := 38) (tgt := 55) hx hb d_X1_fact_17 (by omega) (by omega) (by rw [c13e]; rfl) (by decide) ?_
          have hG := g_neg (by omega) hG
          have hG := g_pos c13e hG
          refine lv_aload_n hx hb d_X1_fact_55 rfl (lv_at hl 0 rfl) ?_
          refine r_getr (r := 35) X hw FL_X1_15 (rfl : KD 31 = _) rfl d_X1_fact_56 ?_
          refine lv_iload_n hx hb d_X1_fact_59 rfl (lv_at hl 1 rfl) ?_
          refine r_iald X hw (rfl : KD 35 = _) (Rg.vp (b := 29) r11 (by decide)) rfl d_X1_fact_60 ?_
          refine lv_topi (fun x15 ex15 => ?_)
          have hG := bnd_use ex15 hG
          exact r_iret X hr hlocks hw hS ⟨rfl, hG.trans eRR.symm⟩ d_X1_fact_61
        · refine lv_tableIn (off := 45) (tgt := 62) hx hb d_X1_fact_17 (by omega) (by omega) (by rw [c13e]; rfl) (by decide) ?_
          have hG := g_neg (by omega) hG
          have hG := g_neg (by omega) hG
          have hG := g_pos c13e hG
          refine lv_aload_n hx hb d_X1_fact_62 rfl (lv_at hl 0 rfl) ?_
          refine r_getr (r := 37) X hw FL_X1_18 (rfl : KD 31 = _) rfl d_X1_fact_63 ?_
          refine lv_iload_n hx hb d_X1_fact_66 rfl (lv_at hl 1 rfl) ?_
          refine r_iald X hw (rfl : KD 37 = _) (Rg.vp (b := 29) r11 (by decide)) rfl d_X1_fact_67 ?_
          refine lv_topi (fun x16 ex16 => ?_)
          have hG := bnd_use ex16 hG
          exact r_iret X hr hlocks hw hS ⟨rfl, hG.trans eRR.symm⟩ d_X1_fact_68
        · refine lv_tableIn (off := 52) (tgt := 69) hx hb d_X1_fact_17 (by omega) (by omega) (by rw [c13e]; rfl) (by decide) ?_
          have hG := g_neg (by omega) hG
          have hG := g_neg (by omega) hG
          have hG := g_neg (by omega) hG
          refine lv_aload_n hx hb d_X1_fact_69 rfl (lv_at hl 0 rfl) ?_
          refine r_getr (r := 39) X hw FL_X1_21 (rfl : KD 31 = _) rfl d_X1_fact_70 ?_
          refine lv_iload_n hx hb d_X1_fact_73 rfl (lv_at hl 1 rfl) ?_
          refine r_iald X hw (rfl : KD 39 = _) (Rg.vp (b := 29) r11 (by decide)) rfl d_X1_fact_74 ?_
          refine lv_topi (fun x17 ex17 => ?_)
          have hG := bnd_use ex17 hG
          exact r_iret X hr hlocks hw hS ⟨rfl, hG.trans eRR.symm⟩ d_X1_fact_75
    · exact absurd c12 (by decide)
  · skip
    have hG := g_neg w10n hG
    refine lv_if_ne (tgt := 16) hx hb d_X1_fact_11 (by decide) (fun c18 => ?_) (fun c18 => ?_)
    · exact absurd c18 (by decide)
    · refine lv_iconst (v := -1) hx hb d_X1_fact_14 (by decide) ?_
      exact r_iret X hr hlocks hw hS ⟨rfl, hG.trans eRR.symm⟩ d_X1_fact_15
theorem d_X3_addPart_0 : decode c_X3_addPart 0 = .ok (.aload_n 0, 1) := by decide +kernel
theorem d_X3_addPart_1 : decode c_X3_addPart 1 = .ok (.getfield 22, 3) := by decide +kernel
theorem d_X3_addPart_4 : decode c_X3_addPart 4 = .ok (.iconst 3, 1) := by decide +kernel
theorem d_X3_addPart_5 : decode c_X3_addPart 5 = .ok (.if_icmp .lt 4, 3) := by decide +kernel
theorem d_X3_addPart_8 : decode c_X3_addPart 8 = .ok (.return_, 1) := by decide +kernel
theorem d_X3_addPart_9 : decode c_X3_addPart 9 = .ok (.aload_n 0, 1) := by decide +kernel
theorem d_X3_addPart_10 : decode c_X3_addPart 10 = .ok (.getfield 9, 3) := by decide +kernel
theorem d_X3_addPart_13 : decode c_X3_addPart 13 = .ok (.aload_n 0, 1) := by decide +kernel
theorem d_X3_addPart_14 : decode c_X3_addPart 14 = .ok (.getfield 22, 3) := by decide +kernel
theorem d_X3_addPart_17 : decode c_X3_addPart 17 = .ok (.iload_n 1, 1) := by decide +kernel
theorem d_X3_addPart_18 : decode c_X3_addPart 18 = .ok (.iastore, 1) := by decide +kernel
theorem d_X3_addPart_19 : decode c_X3_addPart 19 = .ok (.aload_n 0, 1) := by decide +kernel
theorem d_X3_addPart_20 : decode c_X3_addPart 20 = .ok (.getfield 18, 3) := by decide +kernel
theorem d_X3_addPart_23 : decode c_X3_addPart 23 = .ok (.aload_n 0, 1) := by decide +kernel
theorem d_X3_addPart_24 : decode c_X3_addPart 24 = .ok (.getfield 22, 3) := by decide +kernel
theorem d_X3_addPart_27 : decode c_X3_addPart 27 = .ok (.iload_n 2, 1) := by decide +kernel
theorem d_X3_addPart_28 : decode c_X3_addPart 28 = .ok (.bastore, 1) := by decide +kernel
theorem d_X3_addPart_29 : decode c_X3_addPart 29 = .ok (.aload_n 0, 1) := by decide +kernel
theorem d_X3_addPart_30 : decode c_X3_addPart 30 = .ok (.getfield 15, 3) := by decide +kernel
theorem d_X3_addPart_33 : decode c_X3_addPart 33 = .ok (.aload_n 0, 1) := by decide +kernel
theorem d_X3_addPart_34 : decode c_X3_addPart 34 = .ok (.getfield 22, 3) := by decide +kernel
theorem d_X3_addPart_37 : decode c_X3_addPart 37 = .ok (.iload_n 3, 1) := by decide +kernel
theorem d_X3_addPart_38 : decode c_X3_addPart 38 = .ok (.iastore, 1) := by decide +kernel
theorem d_X3_addPart_39 : decode c_X3_addPart 39 = .ok (.aload_n 0, 1) := by decide +kernel
theorem d_X3_addPart_40 : decode c_X3_addPart 40 = .ok (.dup, 1) := by decide +kernel
theorem d_X3_addPart_41 : decode c_X3_addPart 41 = .ok (.getfield 22, 3) := by decide +kernel
theorem d_X3_addPart_44 : decode c_X3_addPart 44 = .ok (.iconst 1, 1) := by decide +kernel
theorem d_X3_addPart_45 : decode c_X3_addPart 45 = .ok (.iadd, 1) := by decide +kernel
theorem d_X3_addPart_46 : decode c_X3_addPart 46 = .ok (.putfield 22, 3) := by decide +kernel
theorem d_X3_addPart_49 : decode c_X3_addPart 49 = .ok (.return_, 1) := by decide +kernel
def kp_X3_addPart (k : Nat) (sel : Int32) (bel : Int32) (price : Int32) (a j : Nat) : Prop := a ≠ k ∧ a ≠ k + 10 ∧ a ≠ k + 20 ∧ a ≠ k + 30
def f_X3_addPart (v : tV) (k : Nat) (sel : Int32) (bel : Int32) (price : Int32) : tV := bnd (v k 3) fun x1 => (if x1 < (3 : Int32) then bnd (k + 10) fun kc7 => bnd (up2 v kc7 (x1.toNatClampNeg) sel) fun v8 => bnd (k + 30) fun kc12 => bnd (up2 v8 kc12 (x1.toNatClampNeg) bel) fun v13 => bnd (k + 20) fun kc17 => bnd (up2 v13 kc17 (x1.toNatClampNeg) price) fun v18 => bnd (x1 + (1 : Int32)) fun x22 => bnd (up2 v18 k 3 x22) fun v25 => v25 else v)
set_option maxHeartbeats 4000000 in
set_option maxRecDepth 100000 in
theorem ct_X3_addPart (l : Launch) (D : va_G) (dA : Nat → ClassId) (ad : Nat → Nat) (v : tV) (hI : Inv v) (k : Nat) (sel : Int32) (bel : Int32) (price : Int32) (ka : 60 ≤ k) (kb : k < 69) (r_sel : Rg sel 0 99) (r_bel : Rg bel 0 1) : Met l m_X3_addPart [.code m_X3_addPart c_X3_addPart 4 none] ({ frames := 1, cells := 0, slots := 0, locals := 40 } : Room) (tP D dA ad v [.ref (ad k), .int sel, .int bel, .int price]) (tQv D dA ad (fun v' => (Inv v' ∧ Kp (kp_X3_addPart k sel bel price) v v') ∧ v' = f_X3_addPart v k sel bel price)) 0 0 (tA ad) := by
  refine tMet (by decide) (Nat.le_of_ble_eq_true rfl) ?_
  intro p e s m below meth c ls X hr hlocks hw hl
  have X : CX p s m ([.ref (ad k), .int sel, .int bel, .int price] : List Value).toArray c c_X3_addPart N_X3 4 D dA := X
  have hx := X.1
  have hb := X.2.1
  have hS : va_S (tA ad) s.heap s.heap [] := va_S.rf
  have hl : lv_has ls 4 [(0, .ref (ad k)), (1, .int sel), (2, .int bel), (3, .int price)] := hl
  obtain ⟨RR, eRR⟩ : ∃ z, f_X3_addPart v k sel bel price = z := ⟨_, rfl⟩
  have hK0 : Kp (kp_X3_addPart k sel bel price) v v := Kp.rf _ v
  have hG := eRR
  unfold f_X3_addPart at hG
  refine lv_aload_n hx hb d_X3_addPart_0 rfl (lv_at hl 0 rfl) ?_
  refine r_geti X hw FL_X3_22 (KD_order (by omega) (by omega)) (SH_order (by omega) (by omega) (by decide)) d_X3_addPart_1 ?_
  refine lv_topi (fun x1 ex1 => ?_)
  have hG := bnd_use ex1 hG
  have r2 : Rg x1 0 3 := by rw [ex1]; exact hI _ _ _ _ (RG_order3 (by omega) (by omega))
  have hm3 : v k 3 = x1 := ex1.symm
  refine lv_iconst (v := 3) hx hb d_X3_addPart_4 (by decide) ?_
  refine lv_icmp_lt (tgt := 9) hx hb d_X3_addPart_5 (by decide) (fun c4 => ?_) (fun c4 => ?_)
  · have f5 := i_lt c4
    have r6 : Rg x1 0 2 := by obtain ⟨a1, a2⟩ := r2; obtain ⟨b1, b2⟩ := (⟨by decide, by decide⟩ : Rg 3 3 3); have f := i_lt c4; exact ⟨by omega, by omega⟩
    have hG := g_pos c4 hG
    refine lv_aload_n hx hb d_X3_addPart_9 rfl (lv_at hl 0 rfl) ?_
    refine r_getr (r := k + 10) X hw FL_X3_9 (KD_order (by omega) (by omega)) (SH_order0 (by omega) (by omega)) d_X3_addPart_10 ?_
    refine r_nm (fun kc7 ekc7 => ?_)
    have hG := bnd_use ekc7 hG
    refine lv_aload_n hx hb d_X3_addPart_13 rfl (lv_at hl 0 rfl) ?_
    refine r_geti X hw FL_X3_22 (KD_order (by omega) (by omega)) (SH_order (by omega) (by omega) (by decide)) d_X3_addPart_14 ?_
    rw [hm3]
    refine lv_iload_n hx hb d_X3_addPart_17 rfl (lv_at hl 1 rfl) ?_
    refine r_iast X hw hS (KD_opart (by omega)) (Rg.vp (b := 2) r6 (by decide)) (SH_opart (by omega) (by omega)) d_X3_addPart_18 (fun H locs hw hS => ?_)
    obtain ⟨v8, ev8⟩ : ∃ z, z = up2 v kc7 x1.toNatClampNeg sel := ⟨_, rfl⟩
    rw [← ev8] at hw
    have hG := bnd_use ev8 hG
    have hI9 : Inv v8 := by rw [ev8]; exact Inv.putr hI (RG_osell (by omega) (by omega)) r_sel
    have hK10 : Kp (kp_X3_addPart k sel bel price) v v8 := by rw [ev8]; exact Kp.put hK0 _ (by unfold kp_X3_addPart; omega)
    have hm11 : v8 k 3 = x1 := by rw [ev8, up2_n _ _ (by omega)]; exact hm3
    refine lv_aload_n hx hb d_X3_addPart_19 rfl (lv_at hl 0 rfl) ?_
    refine r_getr (r := k + 30) X hw FL_X3_18 (KD_order (by omega) (by omega)) (SH_order2 (by omega) (by omega)) d_X3_addPart_20 ?_
    refine r_nm (fun kc12 ekc12 => ?_)
    have hG := bnd_use ekc12 hG
    refine lv_aload_n hx hb d_X3_addPart_23 rfl (lv_at hl 0 rfl) ?_
    refine r_geti X hw FL_X3_22 (KD_order (by omega) (by omega)) (SH_order (by omega) (by omega) (by decide)) d_X3_addPart_24 ?_
    rw [hm11]
    refine lv_iload_n hx hb d_X3_addPart_27 rfl (lv_at hl 2 rfl) ?_
    refine r_zast (y := bel)  X hw hS (KD_obelow (by omega) (by omega)) (Rg.vp (b := 2) r6 (by decide)) (SH_opart (by omega) (by omega)) (narz r_bel) d_X3_addPart_28 (fun H locs hw hS => ?_)
    obtain ⟨v13, ev13⟩ : ∃ z, z = up2 v8 kc12 x1.toNatClampNeg bel := ⟨_, rfl⟩
    rw [← ev13] at hw
    have hG := bnd_use ev13 hG
    have hI14 : Inv v13 := by rw [ev13]; exact Inv.put0 hI9 _ (RG_oprice (by omega) (by omega))
    have hK15 : Kp (kp_X3_addPart k sel bel price) v v13 := by rw [ev13]; exact Kp.put hK10 _ (by unfold kp_X3_addPart; omega)
    have hm16 : v13 k 3 = x1 := by rw [ev13, up2_n _ _ (by omega)]; exact hm11
    refine lv_aload_n hx hb d_X3_addPart_29 rfl (lv_at hl 0 rfl) ?_
    refine r_getr (r := k + 20) X hw FL_X3_15 (KD_order (by omega) (by omega)) (SH_order1 (by omega) (by omega)) d_X3_addPart_30 ?_
    refine r_nm (fun kc17 ekc17 => ?_)
    have hG := bnd_use ekc17 hG
    refine lv_aload_n hx hb d_X3_addPart_33 rfl (lv_at hl 0 rfl) ?_
    refine r_geti X hw FL_X3_22 (KD_order (by omega) (by omega)) (SH_order (by omega) (by omega) (by decide)) d_X3_addPart_34 ?_
    rw [hm16]
    refine lv_iload_n hx hb d_X3_addPart_37 rfl (lv_at hl 3 rfl) ?_
    refine r_iast X hw hS (KD_opart (by omega)) (Rg.vp (b := 2) r6 (by decide)) (SH_opart (by omega) (by omega)) d_X3_addPart_38 (fun H locs hw hS => ?_)
    obtain ⟨v18, ev18⟩ : ∃ z, z = up2 v13 kc17 x1.toNatClampNeg price := ⟨_, rfl⟩
    rw [← ev18] at hw
    have hG := bnd_use ev18 hG
    have hI19 : Inv v18 := by rw [ev18]; exact Inv.put0 hI14 _ (RG_oprice (by omega) (by omega))
    have hK20 : Kp (kp_X3_addPart k sel bel price) v v18 := by rw [ev18]; exact Kp.put hK15 _ (by unfold kp_X3_addPart; omega)
    have hm21 : v18 k 3 = x1 := by rw [ev18, up2_n _ _ (by omega)]; exact hm16
    refine lv_aload_n hx hb d_X3_addPart_39 rfl (lv_at hl 0 rfl) ?_
    refine lv_dup hx hb d_X3_addPart_40 rfl ?_
    refine r_geti X hw FL_X3_22 (KD_order (by omega) (by omega)) (SH_order (by omega) (by omega) (by decide)) d_X3_addPart_41 ?_
    rw [hm21]
    refine lv_iconst (v := 1) hx hb d_X3_addPart_44 (by decide) ?_
    refine lv_iadd hx hb d_X3_addPart_45 ?_
    refine lv_topi (fun x22 ex22 => ?_)
    have hG := bnd_use ex22 hG
    have r23 : Rg x22 1 3 := rg_add ex22 r6 (⟨by decide, by decide⟩ : Rg 1 1 1) (by decide) (by decide)
    have s24 : x22.toInt = x1.toInt + (1 : Int32).toInt := by rw [ex22]; exact i_add (by obtain ⟨_, _⟩ := r6; obtain ⟨_, _⟩ := (⟨by decide, by decide⟩ : Rg 1 1 1); omega) (by obtain ⟨_, _⟩ := r6; obtain ⟨_, _⟩ := (⟨by decide, by decide⟩ : Rg 1 1 1); omega)
    have s24l : (1 : Int32).toInt = 1 := rfl
    refine r_put X hw hS FP_X3_22 (KD_order (by omega) (by omega)) (SH_order (by omega) (by omega) (by decide)) ⟨rfl, rfl⟩ d_X3_addPart_46 (fun H locs hw hS => ?_)
    obtain ⟨v25, ev25⟩ : ∃ z, z = up2 v18 k 3 x22 := ⟨_, rfl⟩
    rw [← ev25] at hw
    have hG := bnd_use ev25 hG
    have hI26 : Inv v25 := by rw [ev25]; exact Inv.putr hI19 (RG_order3 (by omega) (by omega)) (rg_w r23 (by decide) (by decide))
    have hK27 : Kp (kp_X3_addPart k sel bel price) v v25 := by rw [ev25]; exact Kp.put hK20 _ (by unfold kp_X3_addPart; omega)
    have hm28 : v25 k 3 = x22 := by rw [ev25, up2_s]
    exact r_vret X hr hlocks hw hS ⟨⟨hI26, hK27⟩, hG.trans eRR.symm⟩ d_X3_addPart_49
  · have f29 := i_nlt c4
    have r30 : Rg x1 3 3 := by obtain ⟨a1, a2⟩ := r2; obtain ⟨b1, b2⟩ := (⟨by decide, by decide⟩ : Rg 3 3 3); have f := i_nlt c4; exact ⟨by omega, by omega⟩
    have hG := g_neg c4 hG
    exact r_vret X hr hlocks hw hS ⟨⟨hI, hK0⟩, hG.trans eRR.symm⟩ d_X3_addPart_8
theorem d_X3_sellers_0 : decode c_X3_sellers 0 = .ok (.iconst 0, 1) := by decide +kernel
theorem d_X3_sellers_1 : decode c_X3_sellers 1 = .ok (.istore_n 2, 1) := by decide +kernel
theorem d_X3_sellers_2 : decode c_X3_sellers 2 = .ok (.iload_n 2, 1) := by decide +kernel
theorem d_X3_sellers_3 : decode c_X3_sellers 3 = .ok (.aload_n 0, 1) := by decide +kernel
theorem d_X3_sellers_4 : decode c_X3_sellers 4 = .ok (.getfield 22, 3) := by decide +kernel
theorem d_X3_sellers_7 : decode c_X3_sellers 7 = .ok (.if_icmp .ge 63, 3) := by decide +kernel
theorem d_X3_sellers_10 : decode c_X3_sellers 10 = .ok (.aload_n 0, 1) := by decide +kernel
theorem d_X3_sellers_11 : decode c_X3_sellers 11 = .ok (.getfield 18, 3) := by decide +kernel
theorem d_X3_sellers_14 : decode c_X3_sellers 14 = .ok (.iload_n 2, 1) := by decide +kernel
theorem d_X3_sellers_15 : decode c_X3_sellers 15 = .ok (.baload, 1) := by decide +kernel
theorem d_X3_sellers_16 : decode c_X3_sellers 16 = .ok (.ifCond .eq 21, 3) := by decide +kernel
theorem d_X3_sellers_19 : decode c_X3_sellers 19 = .ok (.iload_n 1, 1) := by decide +kernel
theorem d_X3_sellers_20 : decode c_X3_sellers 20 = .ok (.aload_n 0, 1) := by decide +kernel
theorem d_X3_sellers_21 : decode c_X3_sellers 21 = .ok (.getfield 15, 3) := by decide +kernel
theorem d_X3_sellers_24 : decode c_X3_sellers 24 = .ok (.iload_n 2, 1) := by decide +kernel
theorem d_X3_sellers_25 : decode c_X3_sellers 25 = .ok (.iaload, 1) := by decide +kernel
theorem d_X3_sellers_26 : decode c_X3_sellers 26 = .ok (.if_icmp .ge 7, 3) := by decide +kernel
theorem d_X3_sellers_29 : decode c_X3_sellers 29 = .ok (.iconst 1, 1) := by decide +kernel
theorem d_X3_sellers_30 : decode c_X3_sellers 30 = .ok (.goto 22, 3) := by decide +kernel
theorem d_X3_sellers_33 : decode c_X3_sellers 33 = .ok (.iconst 0, 1) := by decide +kernel
theorem d_X3_sellers_34 : decode c_X3_sellers 34 = .ok (.goto 18, 3) := by decide +kernel
theorem d_X3_sellers_37 : decode c_X3_sellers 37 = .ok (.iload_n 1, 1) := by decide +kernel
theorem d_X3_sellers_38 : decode c_X3_sellers 38 = .ok (.aload_n 0, 1) := by decide +kernel
theorem d_X3_sellers_39 : decode c_X3_sellers 39 = .ok (.getfield 15, 3) := by decide +kernel
theorem d_X3_sellers_42 : decode c_X3_sellers 42 = .ok (.iload_n 2, 1) := by decide +kernel
theorem d_X3_sellers_43 : decode c_X3_sellers 43 = .ok (.iaload, 1) := by decide +kernel
theorem d_X3_sellers_44 : decode c_X3_sellers 44 = .ok (.if_icmp .le 7, 3) := by decide +kernel
theorem d_X3_sellers_47 : decode c_X3_sellers 47 = .ok (.iconst 1, 1) := by decide +kernel
theorem d_X3_sellers_48 : decode c_X3_sellers 48 = .ok (.goto 4, 3) := by decide +kernel
theorem d_X3_sellers_51 : decode c_X3_sellers 51 = .ok (.iconst 0, 1) := by decide +kernel
theorem d_X3_sellers_52 : decode c_X3_sellers 52 = .ok (.istore_n 3, 1) := by decide +kernel
theorem d_X3_sellers_53 : decode c_X3_sellers 53 = .ok (.iload_n 3, 1) := by decide +kernel
theorem d_X3_sellers_54 : decode c_X3_sellers 54 = .ok (.ifCond .eq 10, 3) := by decide +kernel
theorem d_X3_sellers_57 : decode c_X3_sellers 57 = .ok (.aload_n 0, 1) := by decide +kernel
theorem d_X3_sellers_58 : decode c_X3_sellers 58 = .ok (.getfield 9, 3) := by decide +kernel
theorem d_X3_sellers_61 : decode c_X3_sellers 61 = .ok (.iload_n 2, 1) := by decide +kernel
theorem d_X3_sellers_62 : decode c_X3_sellers 62 = .ok (.iaload, 1) := by decide +kernel
theorem d_X3_sellers_63 : decode c_X3_sellers 63 = .ok (.ireturn, 1) := by decide +kernel
theorem d_X3_sellers_64 : decode c_X3_sellers 64 = .ok (.iinc 2 1, 3) := by decide +kernel
theorem d_X3_sellers_67 : decode c_X3_sellers 67 = .ok (.goto (-65), 3) := by decide +kernel
theorem d_X3_sellers_70 : decode c_X3_sellers 70 = .ok (.aload_n 0, 1) := by decide +kernel
theorem d_X3_sellers_71 : decode c_X3_sellers 71 = .ok (.getfield 26, 3) := by decide +kernel
theorem d_X3_sellers_74 : decode c_X3_sellers 74 = .ok (.ireturn, 1) := by decide +kernel
def b_X3_sellers_2 (v : tV) (k : Nat) (price : Int32) (rc2 : Int32 → Int32) (y2 : Int32) : Int32 := bnd (v k 3) fun x1 => (if x1 ≤ y2 then bnd (v k 4) fun x6 => x6 else bnd (k + 30) fun kc12 => bnd (v kc12 y2.toNatClampNeg) fun x13 => (if x13 = (0 : Int32) then bnd (k + 20) fun kc17 => bnd (v kc17 y2.toNatClampNeg) fun x18 => (if price ≤ x18 then bnd (y2 + 1) fun x22 => rc2 x22 else bnd (k + 10) fun kc27 => bnd (v kc27 y2.toNatClampNeg) fun x28 => x28) else bnd (k + 20) fun kc31 => bnd (v kc31 y2.toNatClampNeg) fun x32 => (if x32 ≤ price then bnd (y2 + 1) fun x36 => rc2 x36 else bnd (k + 10) fun kc41 => bnd (v kc41 y2.toNatClampNeg) fun x42 => x42)))
def g_X3_sellers_2 (v : tV) (k : Nat) (price : Int32) : Nat → Int32 → Int32
  | 0, _ => 0
  | n + 1, y2 => b_X3_sellers_2 v k price (g_X3_sellers_2 v k price n) y2
def f_X3_sellers (v : tV) (k : Nat) (price : Int32) : Int32 := g_X3_sellers_2 v k price 100000 0
set_option maxHeartbeats 4000000 in
set_option maxRecDepth 100000 in
theorem ct_X3_sellers (l : Launch) (D : va_G) (dA : Nat → ClassId) (ad : Nat → Nat) (v : tV) (hI : Inv v) (k : Nat) (price : Int32) (ka : 60 ≤ k) (kb : k < 69) : Met l m_X3_sellers [.code m_X3_sellers c_X3_sellers 4 (some .int)] ({ frames := 1, cells := 0, slots := 0, locals := 40 } : Room) (tP D dA ad v [.ref (ad k), .int price]) (tQi D dA ad (fun r v' => (v' = v ∧ Rg r 0 99) ∧ r = f_X3_sellers v k price)) 0 0 (tA ad) := by
  refine tMet (by decide) (Nat.le_of_ble_eq_true rfl) ?_
  intro p e s m below meth c ls X hr hlocks hw hl
  have X : CX p s m ([.ref (ad k), .int price] : List Value).toArray c c_X3_sellers N_X3 4 D dA := X
  have hx := X.1
  have hb := X.2.1
  have hS : va_S (tA ad) s.heap s.heap [] := va_S.rf
  have hl : lv_has ls 4 [(0, .ref (ad k)), (1, .int price)] := hl
  obtain ⟨RR, eRR⟩ : ∃ z, f_X3_sellers v k price = z := ⟨_, rfl⟩
  have LL : ∀ n : Nat, (∀ (y2 : Int32)  (H : Heap) (locs : List Loc) (ls : Array Slot), (3 - y2.toInt).toNat < n → Rg y2 0 3 → g_X3_sellers_2 v k price n y2 = RR → tI D dA ad v H → va_S (tA ad) s.heap H locs → lv_has ls 4 [(0, .ref (ad k)), (1, .int price), (2, .int y2)] → W p l e ({ frames := 1, cells := 0, slots := 0, locals := 40 } : Room) s m ([.ref (ad k), .int price] : List Value).toArray below meth c H locs 0 0 (MQ below (tQi D dA ad (fun r v' => (v' = v ∧ Rg r 0 99) ∧ r = f_X3_sellers v k price)) ([.ref (ad k), .int price] : List Value).toArray s 0 0 (tA ad)) (F0 m 2 ls [])) := by
    intro n
    induction n with
    | zero => intros; omega
    | succ n ih =>
      have ih0 := ih
      intro y2 H locs ls hmu r_y2 hG hw hS hl
      have hG : b_X3_sellers_2 v k price (g_X3_sellers_2 v k price n) y2 = RR := hG
      unfold b_X3_sellers_2 at hG
      refine lv_iload_n hx hb d_X3_sellers_2 rfl (lv_at hl 2 rfl) ?_
      refine lv_aload_n hx hb d_X3_sellers_3 rfl (lv_at hl 0 rfl) ?_
      refine r_geti X hw FL_X3_22 (KD_order (by omega) (by omega)) (SH_order (by omega) (by omega) (by decide)) d_X3_sellers_4 ?_
      refine lv_topi (fun x1 ex1 => ?_)
      have hG := bnd_use ex1 hG
      have r2 : Rg x1 0 3 := by rw [ex1]; exact hI _ _ _ _ (RG_order3 (by omega) (by omega))
      have hm3 : v k 3 = x1 := ex1.symm
      refine lv_icmp_ge (tgt := 70) hx hb d_X3_sellers_7 (by decide) (fun c4 => ?_) (fun c4 => ?_)
      · have f5 := i_le c4
        have hG := g_pos c4 hG
        refine lv_aload_n hx hb d_X3_sellers_70 rfl (lv_at hl 0 rfl) ?_
        refine r_geti X hw FL_X3_26 (KD_order (by omega) (by omega)) (SH_order (by omega) (by omega) (by decide)) d_X3_sellers_71 ?_
        refine lv_topi (fun x6 ex6 => ?_)
        have hG := bnd_use ex6 hG
        have r7 : Rg x6 0 99 := by rw [ex6]; exact hI _ _ _ _ (RG_order4 (by omega) (by omega))
        have hm8 : v k 4 = x6 := ex6.symm
        exact r_iret X hr hlocks hw hS ⟨⟨rfl, r7⟩, hG.trans eRR.symm⟩ d_X3_sellers_74
      · have f9 := i_nle c4
        have r10 : Rg y2 0 2 := by obtain ⟨a1, a2⟩ := r_y2; obtain ⟨b1, b2⟩ := r2; have f := i_nle c4; exact ⟨by omega, by omega⟩
        have r11 : Rg x1 1 3 := by obtain ⟨a1, a2⟩ := r_y2; obtain ⟨b1, b2⟩ := r2; have f := i_nle c4; exact ⟨by omega, by omega⟩
        have hG := g_neg c4 hG
        refine lv_aload_n hx hb d_X3_sellers_10 rfl (lv_at hl 0 rfl) ?_
        refine r_getr (r := k + 30) X hw FL_X3_18 (KD_order (by omega) (by omega)) (SH_order2 (by omega) (by omega)) d_X3_sellers_11 ?_
        refine r_nm (fun kc12 ekc12 => ?_)
        have hG := bnd_use ekc12 hG
        refine lv_iload_n hx hb d_X3_sellers_14 rfl (lv_at hl 2 rfl) ?_
        refine r_zald X hw (KD_obelow (by omega) (by omega)) (Rg.vp (b := 2) r10 (by decide)) (SH_opart (by omega) (by omega)) d_X3_sellers_15 ?_
        refine lv_topi (fun x13 ex13 => ?_)
        have hG := bnd_use ex13 hG
        refine lv_if_eq (tgt := 37) hx hb d_X3_sellers_16 (by decide) (fun c14 => ?_) (fun c14 => ?_)
        · have f15 := i_eq c14
          have r16 : Rg x13 0 0 := by obtain ⟨a1, a2⟩ := (rg_any x13); obtain ⟨b1, b2⟩ := (⟨by decide, by decide⟩ : Rg 0 0 0); have f := i_eq c14; exact ⟨by omega, by omega⟩
          have hG := g_pos c14 hG
          refine lv_iload_n hx hb d_X3_sellers_37 rfl (lv_at hl 1 rfl) ?_
          refine lv_aload_n hx hb d_X3_sellers_38 rfl (lv_at hl 0 rfl) ?_
          refine r_getr (r := k + 20) X hw FL_X3_15 (KD_order (by omega) (by omega)) (SH_order1 (by omega) (by omega)) d_X3_sellers_39 ?_
          refine r_nm (fun kc17 ekc17 => ?_)
          have hG := bnd_use ekc17 hG
          refine lv_iload_n hx hb d_X3_sellers_42 rfl (lv_at hl 2 rfl) ?_
          refine r_iald X hw (KD_opart (by omega)) (Rg.vp (b := 2) r10 (by decide)) (SH_opart (by omega) (by omega)) d_X3_sellers_43 ?_
          refine lv_topi (fun x18 ex18 => ?_)
          have hG := bnd_use ex18 hG
          refine lv_icmp_le (tgt := 51) hx hb d_X3_sellers_44 (by decide) (fun c19 => ?_) (fun c19 => ?_)
          · have f20 := i_le c19
            have hG := g_pos c19 hG
            refine lv_iconst (v := 0) hx hb d_X3_sellers_51 (by decide) ?_
            refine lv_istore_n (lv' := [(3, .int 0), (0, .ref (ad k)), (1, .int price), (2, .int y2)]) hx hb d_X3_sellers_52 rfl hl (by decide) rfl (fun ls hl => ?_)
            refine lv_iload_n hx hb d_X3_sellers_53 rfl (lv_at hl 0 rfl) ?_
            refine lv_if_eq (tgt := 64) hx hb d_X3_sellers_54 (by decide) (fun c21 => ?_) (fun c21 => ?_)
            · obtain ⟨x22, ex22⟩ : ∃ y : Int32, y = y2 + 1 := ⟨_, rfl⟩
              have hG := bnd_use ex22 hG
              refine lv_iinc (v := x22) (lv' := [(2, .int x22), (3, .int 0), (0, .ref (ad k)), (1, .int price)]) hx hb d_X3_sellers_64 hl (k := 3) rfl (by rw [ex22]; rfl) (by decide) rfl (fun ls hl => ?_)
              have r23 : Rg x22 1 3 := rg_add ex22 r10 (⟨by decide, by decide⟩ : Rg 1 1 1) (by decide) (by decide)
              have s24 : x22.toInt = y2.toInt + (1 : Int32).toInt := by rw [ex22]; exact i_add (by obtain ⟨_, _⟩ := r10; obtain ⟨_, _⟩ := (⟨by decide, by decide⟩ : Rg 1 1 1); omega) (by obtain ⟨_, _⟩ := r10; obtain ⟨_, _⟩ := (⟨by decide, by decide⟩ : Rg 1 1 1); omega)
              have s24l : (1 : Int32).toInt = 1 := rfl
              refine lv_goto (tgt := 2) hx hb d_X3_sellers_67 (by decide) ?_
              exact ih0 x22 _ _ _ (by have := s24; obtain ⟨_, _⟩ := r23; omega) (rg_w r23 (by decide) (by decide)) hG hw hS (lv_sub hl [2, 3, 0] rfl)
            · exact absurd c21 (by decide)
          · have f25 := i_nle c19
            have hG := g_neg c19 hG
            refine lv_iconst (v := 1) hx hb d_X3_sellers_47 (by decide) ?_
            refine lv_goto (tgt := 52) hx hb d_X3_sellers_48 (by decide) ?_
            refine lv_istore_n (lv' := [(3, .int 1), (0, .ref (ad k)), (1, .int price), (2, .int y2)]) hx hb d_X3_sellers_52 rfl hl (by decide) rfl (fun ls hl => ?_)
            refine lv_iload_n hx hb d_X3_sellers_53 rfl (lv_at hl 0 rfl) ?_
            refine lv_if_eq (tgt := 64) hx hb d_X3_sellers_54 (by decide) (fun c26 => ?_) (fun c26 => ?_)
            · exact absurd c26 (by decide)
            · refine lv_aload_n hx hb d_X3_sellers_57 rfl (lv_at hl 1 rfl) ?_
              refine r_getr (r := k + 10) X hw FL_X3_9 (KD_order (by omega) (by omega)) (SH_order0 (by omega) (by omega)) d_X3_sellers_58 ?_
              refine r_nm (fun kc27 ekc27 => ?_)
              have hG := bnd_use ekc27 hG
              refine lv_iload_n hx hb d_X3_sellers_61 rfl (lv_at hl 3 rfl) ?_
              refine r_iald X hw (KD_opart (by omega)) (Rg.vp (b := 2) r10 (by decide)) (SH_opart (by omega) (by omega)) d_X3_sellers_62 ?_
              refine lv_topi (fun x28 ex28 => ?_)
              have hG := bnd_use ex28 hG
              have r29 : Rg x28 0 99 := by rw [ex28]; exact hI _ _ _ _ (RG_osell (by omega) (by omega))
              exact r_iret X hr hlocks hw hS ⟨⟨rfl, r29⟩, hG.trans eRR.symm⟩ d_X3_sellers_63
        · have f30 := i_ne c14
          have hG := g_neg c14 hG
          refine lv_iload_n hx hb d_X3_sellers_19 rfl (lv_at hl 1 rfl) ?_
          refine lv_aload_n hx hb d_X3_sellers_20 rfl (lv_at hl 0 rfl) ?_
          refine r_getr (r := k + 20) X hw FL_X3_15 (KD_order (by omega) (by omega)) (SH_order1 (by omega) (by omega)) d_X3_sellers_21 ?_
          refine r_nm (fun kc31 ekc31 => ?_)
          have hG := bnd_use ekc31 hG
          refine lv_iload_n hx hb d_X3_sellers_24 rfl (lv_at hl 2 rfl) ?_
          refine r_iald X hw (KD_opart (by omega)) (Rg.vp (b := 2) r10 (by decide)) (SH_opart (by omega) (by omega)) d_X3_sellers_25 ?_
          refine lv_topi (fun x32 ex32 => ?_)
          have hG := bnd_use ex32 hG
          refine lv_icmp_ge (tgt := 33) hx hb d_X3_sellers_26 (by decide) (fun c33 => ?_) (fun c33 => ?_)
          · have f34 := i_le c33
            have hG := g_pos c33 hG
            refine lv_iconst (v := 0) hx hb d_X3_sellers_33 (by decide) ?_
            refine lv_goto (tgt := 52) hx hb d_X3_sellers_34 (by decide) ?_
            refine lv_istore_n (lv' := [(3, .int 0), (0, .ref (ad k)), (1, .int price), (2, .int y2)]) hx hb d_X3_sellers_52 rfl hl (by decide) rfl (fun ls hl => ?_)
            refine lv_iload_n hx hb d_X3_sellers_53 rfl (lv_at hl 0 rfl) ?_
            refine lv_if_eq (tgt := 64) hx hb d_X3_sellers_54 (by decide) (fun c35 => ?_) (fun c35 => ?_)
            · obtain ⟨x36, ex36⟩ : ∃ y : Int32, y = y2 + 1 := ⟨_, rfl⟩
              have hG := bnd_use ex36 hG
              refine lv_iinc (v := x36) (lv' := [(2, .int x36), (3, .int 0), (0, .ref (ad k)), (1, .int price)]) hx hb d_X3_sellers_64 hl (k := 3) rfl (by rw [ex36]; rfl) (by decide) rfl (fun ls hl => ?_)
              have r37 : Rg x36 1 3 := rg_add ex36 r10 (⟨by decide, by decide⟩ : Rg 1 1 1) (by decide) (by decide)
              have s38 : x36.toInt = y2.toInt + (1 : Int32).toInt := by rw [ex36]; exact i_add (by obtain ⟨_, _⟩ := r10; obtain ⟨_, _⟩ := (⟨by decide, by decide⟩ : Rg 1 1 1); omega) (by obtain ⟨_, _⟩ := r10; obtain ⟨_, _⟩ := (⟨by decide, by decide⟩ : Rg 1 1 1); omega)
              have s38l : (1 : Int32).toInt = 1 := rfl
              refine lv_goto (tgt := 2) hx hb d_X3_sellers_67 (by decide) ?_
              exact ih0 x36 _ _ _ (by have := s38; obtain ⟨_, _⟩ := r37; omega) (rg_w r37 (by decide) (by decide)) hG hw hS (lv_sub hl [2, 3, 0] rfl)
            · exact absurd c35 (by decide)
          · have f39 := i_nle c33
            have hG := g_neg c33 hG
            refine lv_iconst (v := 1) hx hb d_X3_sellers_29 (by decide) ?_
            refine lv_goto (tgt := 52) hx hb d_X3_sellers_30 (by decide) ?_
            refine lv_istore_n (lv' := [(3, .int 1), (0, .ref (ad k)), (1, .int price), (2, .int y2)]) hx hb d_X3_sellers_52 rfl hl (by decide) rfl (fun ls hl => ?_)
            refine lv_iload_n hx hb d_X3_sellers_53 rfl (lv_at hl 0 rfl) ?_
            refine lv_if_eq (tgt := 64) hx hb d_X3_sellers_54 (by decide) (fun c40 => ?_) (fun c40 => ?_)
            · exact absurd c40 (by decide)
            · refine lv_aload_n hx hb d_X3_sellers_57 rfl (lv_at hl 1 rfl) ?_
              refine r_getr (r := k + 10) X hw FL_X3_9 (KD_order (by omega) (by omega)) (SH_order0 (by omega) (by omega)) d_X3_sellers_58 ?_
              refine r_nm (fun kc41 ekc41 => ?_)
              have hG := bnd_use ekc41 hG
              refine lv_iload_n hx hb d_X3_sellers_61 rfl (lv_at hl 3 rfl) ?_
              refine r_iald X hw (KD_opart (by omega)) (Rg.vp (b := 2) r10 (by decide)) (SH_opart (by omega) (by omega)) d_X3_sellers_62 ?_
              refine lv_topi (fun x42 ex42 => ?_)
              have hG := bnd_use ex42 hG
              have r43 : Rg x42 0 99 := by rw [ex42]; exact hI _ _ _ _ (RG_osell (by omega) (by omega))
              exact r_iret X hr hlocks hw hS ⟨⟨rfl, r43⟩, hG.trans eRR.symm⟩ d_X3_sellers_63
  have ih0 := LL 100000
  have hG := eRR
  unfold f_X3_sellers at hG
  refine lv_iconst (v := 0) hx hb d_X3_sellers_0 (by decide) ?_
  refine lv_istore_n (lv' := [(2, .int 0), (0, .ref (ad k)), (1, .int price)]) hx hb d_X3_sellers_1 rfl hl (by decide) rfl (fun ls hl => ?_)
  exact ih0 0 _ _ _ (by obtain ⟨_, _⟩ := (⟨by decide, by decide⟩ : Rg 0 0 0); omega) (rg_w (⟨by decide, by decide⟩ : Rg 0 0 0) (by decide) (by decide)) hG hw hS (lv_sub hl [1, 2, 0] rfl)
theorem d_X3_keyOf_0 : decode c_X3_keyOf 0 = .ok (.aload_n 0, 1) := by decide +kernel
theorem d_X3_keyOf_1 : decode c_X3_keyOf 1 = .ok (.getfield 29, 3) := by decide +kernel
theorem d_X3_keyOf_4 : decode c_X3_keyOf 4 = .ok (.tableswitch 50 1 3 #[28, 33, 38], 28) := by decide +kernel
theorem d_X3_keyOf_32 : decode c_X3_keyOf 32 = .ok (.aload_n 2, 1) := by decide +kernel
theorem d_X3_keyOf_33 : decode c_X3_keyOf 33 = .ok (.getfield 35, 3) := by decide +kernel
theorem d_X3_keyOf_36 : decode c_X3_keyOf 36 = .ok (.ireturn, 1) := by decide +kernel
theorem d_X3_keyOf_37 : decode c_X3_keyOf 37 = .ok (.aload_n 2, 1) := by decide +kernel
theorem d_X3_keyOf_38 : decode c_X3_keyOf 38 = .ok (.getfield 40, 3) := by decide +kernel
theorem d_X3_keyOf_41 : decode c_X3_keyOf 41 = .ok (.ireturn, 1) := by decide +kernel
theorem d_X3_keyOf_42 : decode c_X3_keyOf 42 = .ok (.bipush 7, 2) := by decide +kernel
theorem d_X3_keyOf_44 : decode c_X3_keyOf 44 = .ok (.iload_n 1, 1) := by decide +kernel
theorem d_X3_keyOf_45 : decode c_X3_keyOf 45 = .ok (.imul, 1) := by decide +kernel
theorem d_X3_keyOf_46 : decode c_X3_keyOf 46 = .ok (.iconst 5, 1) := by decide +kernel
theorem d_X3_keyOf_47 : decode c_X3_keyOf 47 = .ok (.iload_n 3, 1) := by decide +kernel
theorem d_X3_keyOf_48 : decode c_X3_keyOf 48 = .ok (.imul, 1) := by decide +kernel
theorem d_X3_keyOf_49 : decode c_X3_keyOf 49 = .ok (.iadd, 1) := by decide +kernel
theorem d_X3_keyOf_50 : decode c_X3_keyOf 50 = .ok (.bipush 23, 2) := by decide +kernel
theorem d_X3_keyOf_52 : decode c_X3_keyOf 52 = .ok (.irem, 1) := by decide +kernel
theorem d_X3_keyOf_53 : decode c_X3_keyOf 53 = .ok (.ireturn, 1) := by decide +kernel
theorem d_X3_keyOf_54 : decode c_X3_keyOf 54 = .ok (.aload_n 2, 1) := by decide +kernel
theorem d_X3_keyOf_55 : decode c_X3_keyOf 55 = .ok (.getfield 43, 3) := by decide +kernel
theorem d_X3_keyOf_58 : decode c_X3_keyOf 58 = .ok (.ireturn, 1) := by decide +kernel
def f_X3_keyOf (v : tV) (k : Nat) (si : Int32) (k2 : Nat) (today : Int32) : Int32 := bnd (v k 5) fun x1 => (if x1.toInt < 1 ∨ 3 < x1.toInt then bnd (v k2 8) fun x3 => x3 else (if x1.toInt = 1 then bnd (v k2 3) fun x4 => x4 else (if x1.toInt = 2 then bnd (v k2 6) fun x5 => x5 else bnd ((7 : Int32) * si) fun x6 => bnd ((5 : Int32) * today) fun x7 => bnd (x6 + x7) fun x8 => bnd (x8 - x8 / (23 : Int32) * (23 : Int32)) fun x9 => x9)))
set_option maxHeartbeats 4000000 in
set_option maxRecDepth 100000 in
theorem ct_X3_keyOf (l : Launch) (D : va_G) (dA : Nat → ClassId) (ad : Nat → Nat) (v : tV) (hI : Inv v) (k : Nat) (si : Int32) (k2 : Nat) (today : Int32) (ka : 60 ≤ k) (kb : k < 69) (k2a : 100 ≤ k2) (k2b : k2 < 160) : Met l m_X3_keyOf [.code m_X3_keyOf c_X3_keyOf 4 (some .int)] ({ frames := 1, cells := 0, slots := 0, locals := 40 } : Room) (tP D dA ad v [.ref (ad k), .int si, .ref (ad k2), .int today]) (tQi D dA ad (fun r v' => (v' = v) ∧ r = f_X3_keyOf v k si k2 today)) 0 0 (tA ad) := by
  refine tMet (by decide) (Nat.le_of_ble_eq_true rfl) ?_
  intro p e s m below meth c ls X hr hlocks hw hl
  have X : CX p s m ([.ref (ad k), .int si, .ref (ad k2), .int today] : List Value).toArray c c_X3_keyOf N_X3 4 D dA := X
  have hx := X.1
  have hb := X.2.1
  have hS : va_S (tA ad) s.heap s.heap [] := va_S.rf
  have hl : lv_has ls 4 [(0, .ref (ad k)), (1, .int si), (2, .ref (ad k2)), (3, .int today)] := hl
  obtain ⟨RR, eRR⟩ : ∃ z, f_X3_keyOf v k si k2 today = z := ⟨_, rfl⟩
  have hG := eRR
  unfold f_X3_keyOf at hG
  refine lv_aload_n hx hb d_X3_keyOf_0 rfl (lv_at hl 0 rfl) ?_
  refine r_geti X hw FL_X3_29 (KD_order (by omega) (by omega)) (SH_order (by omega) (by omega) (by decide)) d_X3_keyOf_1 ?_
  refine lv_topi (fun x1 ex1 => ?_)
  have hG := bnd_use ex1 hG
  by_cases c2 : x1.toInt < 1 ∨ 3 < x1.toInt
  · refine lv_tableOut (tgt := 54) hx hb d_X3_keyOf_4 c2 (by decide) ?_
    have hG := g_pos c2 hG
    refine lv_aload_n hx hb d_X3_keyOf_54 rfl (lv_at hl 2 rfl) ?_
    refine r_geti X hw FL_X3_43 (KD_ship (by omega) (by omega)) (SH_ship (by omega) (by omega)) d_X3_keyOf_55 ?_
    refine lv_topi (fun x3 ex3 => ?_)
    have hG := bnd_use ex3 hG
    exact r_iret X hr hlocks hw hS ⟨rfl, hG.trans eRR.symm⟩ d_X3_keyOf_58
  · have c2b : x1.toInt = 1 ∨ x1.toInt = 2 ∨ x1.toInt = 3 := by omega
    have hG := g_neg c2 hG
    rcases c2b with c2e | c2e | c2e
    · refine lv_tableIn (off := 28) (tgt := 32) hx hb d_X3_keyOf_4 (by omega) (by omega) (by rw [c2e]; rfl) (by decide) ?_
      have hG := g_pos c2e hG
      refine lv_aload_n hx hb d_X3_keyOf_32 rfl (lv_at hl 2 rfl) ?_
      refine r_geti X hw FL_X3_35 (KD_ship (by omega) (by omega)) (SH_ship (by omega) (by omega)) d_X3_keyOf_33 ?_
      refine lv_topi (fun x4 ex4 => ?_)
      have hG := bnd_use ex4 hG
      exact r_iret X hr hlocks hw hS ⟨rfl, hG.trans eRR.symm⟩ d_X3_keyOf_36
    · refine lv_tableIn (off := 33) (tgt := 37) hx hb d_X3_keyOf_4 (by omega) (by omega) (by rw [c2e]; rfl) (by decide) ?_
      have hG := g_neg (by omega) hG
      have hG := g_pos c2e hG
      refine lv_aload_n hx hb d_X3_keyOf_37 rfl (lv_at hl 2 rfl) ?_
      refine r_geti X hw FL_X3_40 (KD_ship (by omega) (by omega)) (SH_ship (by omega) (by omega)) d_X3_keyOf_38 ?_
      refine lv_topi (fun x5 ex5 => ?_)
      have hG := bnd_use ex5 hG
      exact r_iret X hr hlocks hw hS ⟨rfl, hG.trans eRR.symm⟩ d_X3_keyOf_41
    · refine lv_tableIn (off := 38) (tgt := 42) hx hb d_X3_keyOf_4 (by omega) (by omega) (by rw [c2e]; rfl) (by decide) ?_
      have hG := g_neg (by omega) hG
      have hG := g_neg (by omega) hG
      refine lv_bipush (v := 7) hx hb d_X3_keyOf_42 (by decide) ?_
      refine lv_iload_n hx hb d_X3_keyOf_44 rfl (lv_at hl 1 rfl) ?_
      refine lv_imul hx hb d_X3_keyOf_45 ?_
      refine lv_topi (fun x6 ex6 => ?_)
      have hG := bnd_use ex6 hG
      refine lv_iconst (v := 5) hx hb d_X3_keyOf_46 (by decide) ?_
      refine lv_iload_n hx hb d_X3_keyOf_47 rfl (lv_at hl 3 rfl) ?_
      refine lv_imul hx hb d_X3_keyOf_48 ?_
      refine lv_topi (fun x7 ex7 => ?_)
      have hG := bnd_use ex7 hG
      refine lv_iadd hx hb d_X3_keyOf_49 ?_
      refine lv_topi (fun x8 ex8 => ?_)
      have hG := bnd_use ex8 hG
      refine lv_bipush (v := 23) hx hb d_X3_keyOf_50 (by decide) ?_
      refine lv_irem hx hb d_X3_keyOf_52 (by decide) ?_
      refine lv_topi (fun x9 ex9 => ?_)
      have hG := bnd_use ex9 hG
      exact r_iret X hr hlocks hw hS ⟨rfl, hG.trans eRR.symm⟩ d_X3_keyOf_53
