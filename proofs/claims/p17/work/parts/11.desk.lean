theorem d_X7_begin_0 : decode c_X7_begin 0 = .ok (.aload_n 0, 1) := by decide +kernel
theorem d_X7_begin_1 : decode c_X7_begin 1 = .ok (.iload_n 1, 1) := by decide +kernel
theorem d_X7_begin_2 : decode c_X7_begin 2 = .ok (.putfield 9, 3) := by decide +kernel
theorem d_X7_begin_5 : decode c_X7_begin 5 = .ok (.aload_n 0, 1) := by decide +kernel
theorem d_X7_begin_6 : decode c_X7_begin 6 = .ok (.iload_n 2, 1) := by decide +kernel
theorem d_X7_begin_7 : decode c_X7_begin 7 = .ok (.putfield 15, 3) := by decide +kernel
theorem d_X7_begin_10 : decode c_X7_begin 10 = .ok (.aload_n 0, 1) := by decide +kernel
theorem d_X7_begin_11 : decode c_X7_begin 11 = .ok (.iload_n 3, 1) := by decide +kernel
theorem d_X7_begin_12 : decode c_X7_begin 12 = .ok (.putfield 18, 3) := by decide +kernel
theorem d_X7_begin_15 : decode c_X7_begin 15 = .ok (.aload_n 0, 1) := by decide +kernel
theorem d_X7_begin_16 : decode c_X7_begin 16 = .ok (.iload 4, 2) := by decide +kernel
theorem d_X7_begin_18 : decode c_X7_begin 18 = .ok (.putfield 21, 3) := by decide +kernel
theorem d_X7_begin_21 : decode c_X7_begin 21 = .ok (.aload_n 0, 1) := by decide +kernel
theorem d_X7_begin_22 : decode c_X7_begin 22 = .ok (.iload 5, 2) := by decide +kernel
theorem d_X7_begin_24 : decode c_X7_begin 24 = .ok (.putfield 24, 3) := by decide +kernel
theorem d_X7_begin_27 : decode c_X7_begin 27 = .ok (.aload_n 0, 1) := by decide +kernel
theorem d_X7_begin_28 : decode c_X7_begin 28 = .ok (.iload 6, 2) := by decide +kernel
theorem d_X7_begin_30 : decode c_X7_begin 30 = .ok (.putfield 27, 3) := by decide +kernel
theorem d_X7_begin_33 : decode c_X7_begin 33 = .ok (.aload_n 0, 1) := by decide +kernel
theorem d_X7_begin_34 : decode c_X7_begin 34 = .ok (.iload_n 3, 1) := by decide +kernel
theorem d_X7_begin_35 : decode c_X7_begin 35 = .ok (.putfield 30, 3) := by decide +kernel
theorem d_X7_begin_38 : decode c_X7_begin 38 = .ok (.aload_n 0, 1) := by decide +kernel
theorem d_X7_begin_39 : decode c_X7_begin 39 = .ok (.iconst 0, 1) := by decide +kernel
theorem d_X7_begin_40 : decode c_X7_begin 40 = .ok (.putfield 33, 3) := by decide +kernel
theorem d_X7_begin_43 : decode c_X7_begin 43 = .ok (.aload_n 0, 1) := by decide +kernel
theorem d_X7_begin_44 : decode c_X7_begin 44 = .ok (.iconst (-1), 1) := by decide +kernel
theorem d_X7_begin_45 : decode c_X7_begin 45 = .ok (.putfield 36, 3) := by decide +kernel
theorem d_X7_begin_48 : decode c_X7_begin 48 = .ok (.return_, 1) := by decide +kernel
def kp_X7_begin (k : Nat) (kd : Int32) (so : Int32) (lo : Int32) (ak : Int32) (fa : Int32) (wy : Int32) (a j : Nat) : Prop := a ≠ k
def f_X7_begin (v : tV) (k : Nat) (kd : Int32) (so : Int32) (lo : Int32) (ak : Int32) (fa : Int32) (wy : Int32) : tV := bnd (up2 v k 0 kd) fun v1 => bnd (up2 v1 k 1 so) fun v4 => bnd (up2 v4 k 2 lo) fun v7 => bnd (up2 v7 k 3 ak) fun v10 => bnd (up2 v10 k 4 fa) fun v13 => bnd (up2 v13 k 5 wy) fun v16 => bnd (up2 v16 k 6 lo) fun v19 => bnd (up2 v19 k 7 0) fun v22 => bnd (up2 v22 k 8 (-1)) fun v25 => v25
set_option maxHeartbeats 4000000 in
set_option maxRecDepth 100000 in
theorem ct_X7_begin (l : Launch) (D : va_G) (dA : Nat → ClassId) (ad : Nat → Nat) (v : tV) (hI : Inv v) (k : Nat) (kd : Int32) (so : Int32) (lo : Int32) (ak : Int32) (fa : Int32) (wy : Int32) (ka : 100 ≤ k) (kb : k < 120) : Met l m_X7_begin [.code m_X7_begin c_X7_begin 7 none] ({ frames := 1, cells := 0, slots := 0, locals := 40 } : Room) (tP D dA ad v [.ref (ad k), .int kd, .int so, .int lo, .int ak, .int fa, .int wy]) (tQv D dA ad (fun v' => (Inv v' ∧ Kp (kp_X7_begin k kd so lo ak fa wy) v v') ∧ v' = f_X7_begin v k kd so lo ak fa wy)) 0 0 (tA ad) := by
  refine tMet (by decide) (Nat.le_of_ble_eq_true rfl) ?_
  intro p e s m below meth c ls X hr hlocks hw hl
  have X : CX p s m ([.ref (ad k), .int kd, .int so, .int lo, .int ak, .int fa, .int wy] : List Value).toArray c c_X7_begin N_X7 7 D dA := X
  have hx := X.1
  have hb := X.2.1
  have hS : va_S (tA ad) s.heap s.heap [] := va_S.rf
  have hl : lv_has ls 7 [(0, .ref (ad k)), (1, .int kd), (2, .int so), (3, .int lo), (4, .int ak), (5, .int fa), (6, .int wy)] := hl
  obtain ⟨RR, eRR⟩ : ∃ z, f_X7_begin v k kd so lo ak fa wy = z := ⟨_, rfl⟩
  have hK0 : Kp (kp_X7_begin k kd so lo ak fa wy) v v := Kp.rf _ v
  have hG := eRR
  unfold f_X7_begin at hG
  refine lv_aload_n hx hb d_X7_begin_0 rfl (lv_at hl 0 rfl) ?_
  refine lv_iload_n hx hb d_X7_begin_1 rfl (lv_at hl 1 rfl) ?_
  refine r_put X hw hS FP_X7_9 (KD_ship (by omega) (by omega)) (SH_ship (by omega) (by omega)) ⟨rfl, rfl⟩ d_X7_begin_2 (fun H locs hw hS => ?_)
  obtain ⟨v1, ev1⟩ : ∃ z, z = up2 v k 0 kd := ⟨_, rfl⟩
  rw [← ev1] at hw
  have hG := bnd_use ev1 hG
  have hI2 : Inv v1 := by rw [ev1]; exact Inv.put0 hI _ (RG_ship (by omega) (by omega))
  have hK3 : Kp (kp_X7_begin k kd so lo ak fa wy) v v1 := by rw [ev1]; exact Kp.put hK0 _ (by unfold kp_X7_begin; omega)
  refine lv_aload_n hx hb d_X7_begin_5 rfl (lv_at hl 0 rfl) ?_
  refine lv_iload_n hx hb d_X7_begin_6 rfl (lv_at hl 2 rfl) ?_
  refine r_put X hw hS FP_X7_15 (KD_ship (by omega) (by omega)) (SH_ship (by omega) (by omega)) ⟨rfl, rfl⟩ d_X7_begin_7 (fun H locs hw hS => ?_)
  obtain ⟨v4, ev4⟩ : ∃ z, z = up2 v1 k 1 so := ⟨_, rfl⟩
  rw [← ev4] at hw
  have hG := bnd_use ev4 hG
  have hI5 : Inv v4 := by rw [ev4]; exact Inv.put0 hI2 _ (RG_ship (by omega) (by omega))
  have hK6 : Kp (kp_X7_begin k kd so lo ak fa wy) v v4 := by rw [ev4]; exact Kp.put hK3 _ (by unfold kp_X7_begin; omega)
  refine lv_aload_n hx hb d_X7_begin_10 rfl (lv_at hl 0 rfl) ?_
  refine lv_iload_n hx hb d_X7_begin_11 rfl (lv_at hl 3 rfl) ?_
  refine r_put X hw hS FP_X7_18 (KD_ship (by omega) (by omega)) (SH_ship (by omega) (by omega)) ⟨rfl, rfl⟩ d_X7_begin_12 (fun H locs hw hS => ?_)
  obtain ⟨v7, ev7⟩ : ∃ z, z = up2 v4 k 2 lo := ⟨_, rfl⟩
  rw [← ev7] at hw
  have hG := bnd_use ev7 hG
  have hI8 : Inv v7 := by rw [ev7]; exact Inv.put0 hI5 _ (RG_ship (by omega) (by omega))
  have hK9 : Kp (kp_X7_begin k kd so lo ak fa wy) v v7 := by rw [ev7]; exact Kp.put hK6 _ (by unfold kp_X7_begin; omega)
  refine lv_aload_n hx hb d_X7_begin_15 rfl (lv_at hl 0 rfl) ?_
  refine lv_iload hx hb d_X7_begin_16 (lv_at hl 4 rfl) ?_
  refine r_put X hw hS FP_X7_21 (KD_ship (by omega) (by omega)) (SH_ship (by omega) (by omega)) ⟨rfl, rfl⟩ d_X7_begin_18 (fun H locs hw hS => ?_)
  obtain ⟨v10, ev10⟩ : ∃ z, z = up2 v7 k 3 ak := ⟨_, rfl⟩
  rw [← ev10] at hw
  have hG := bnd_use ev10 hG
  have hI11 : Inv v10 := by rw [ev10]; exact Inv.put0 hI8 _ (RG_ship (by omega) (by omega))
  have hK12 : Kp (kp_X7_begin k kd so lo ak fa wy) v v10 := by rw [ev10]; exact Kp.put hK9 _ (by unfold kp_X7_begin; omega)
  refine lv_aload_n hx hb d_X7_begin_21 rfl (lv_at hl 0 rfl) ?_
  refine lv_iload hx hb d_X7_begin_22 (lv_at hl 5 rfl) ?_
  refine r_put X hw hS FP_X7_24 (KD_ship (by omega) (by omega)) (SH_ship (by omega) (by omega)) ⟨rfl, rfl⟩ d_X7_begin_24 (fun H locs hw hS => ?_)
  obtain ⟨v13, ev13⟩ : ∃ z, z = up2 v10 k 4 fa := ⟨_, rfl⟩
  rw [← ev13] at hw
  have hG := bnd_use ev13 hG
  have hI14 : Inv v13 := by rw [ev13]; exact Inv.put0 hI11 _ (RG_ship (by omega) (by omega))
  have hK15 : Kp (kp_X7_begin k kd so lo ak fa wy) v v13 := by rw [ev13]; exact Kp.put hK12 _ (by unfold kp_X7_begin; omega)
  refine lv_aload_n hx hb d_X7_begin_27 rfl (lv_at hl 0 rfl) ?_
  refine lv_iload hx hb d_X7_begin_28 (lv_at hl 6 rfl) ?_
  refine r_put X hw hS FP_X7_27 (KD_ship (by omega) (by omega)) (SH_ship (by omega) (by omega)) ⟨rfl, rfl⟩ d_X7_begin_30 (fun H locs hw hS => ?_)
  obtain ⟨v16, ev16⟩ : ∃ z, z = up2 v13 k 5 wy := ⟨_, rfl⟩
  rw [← ev16] at hw
  have hG := bnd_use ev16 hG
  have hI17 : Inv v16 := by rw [ev16]; exact Inv.put0 hI14 _ (RG_ship (by omega) (by omega))
  have hK18 : Kp (kp_X7_begin k kd so lo ak fa wy) v v16 := by rw [ev16]; exact Kp.put hK15 _ (by unfold kp_X7_begin; omega)
  refine lv_aload_n hx hb d_X7_begin_33 rfl (lv_at hl 0 rfl) ?_
  refine lv_iload_n hx hb d_X7_begin_34 rfl (lv_at hl 3 rfl) ?_
  refine r_put X hw hS FP_X7_30 (KD_ship (by omega) (by omega)) (SH_ship (by omega) (by omega)) ⟨rfl, rfl⟩ d_X7_begin_35 (fun H locs hw hS => ?_)
  obtain ⟨v19, ev19⟩ : ∃ z, z = up2 v16 k 6 lo := ⟨_, rfl⟩
  rw [← ev19] at hw
  have hG := bnd_use ev19 hG
  have hI20 : Inv v19 := by rw [ev19]; exact Inv.put0 hI17 _ (RG_ship (by omega) (by omega))
  have hK21 : Kp (kp_X7_begin k kd so lo ak fa wy) v v19 := by rw [ev19]; exact Kp.put hK18 _ (by unfold kp_X7_begin; omega)
  refine lv_aload_n hx hb d_X7_begin_38 rfl (lv_at hl 0 rfl) ?_
  refine lv_iconst (v := 0) hx hb d_X7_begin_39 (by decide) ?_
  refine r_put X hw hS FP_X7_33 (KD_ship (by omega) (by omega)) (SH_ship (by omega) (by omega)) ⟨rfl, rfl⟩ d_X7_begin_40 (fun H locs hw hS => ?_)
  obtain ⟨v22, ev22⟩ : ∃ z, z = up2 v19 k 7 0 := ⟨_, rfl⟩
  rw [← ev22] at hw
  have hG := bnd_use ev22 hG
  have hI23 : Inv v22 := by rw [ev22]; exact Inv.put0 hI20 _ (RG_ship (by omega) (by omega))
  have hK24 : Kp (kp_X7_begin k kd so lo ak fa wy) v v22 := by rw [ev22]; exact Kp.put hK21 _ (by unfold kp_X7_begin; omega)
  refine lv_aload_n hx hb d_X7_begin_43 rfl (lv_at hl 0 rfl) ?_
  refine lv_iconst (v := -1) hx hb d_X7_begin_44 (by decide) ?_
  refine r_put X hw hS FP_X7_36 (KD_ship (by omega) (by omega)) (SH_ship (by omega) (by omega)) ⟨rfl, rfl⟩ d_X7_begin_45 (fun H locs hw hS => ?_)
  obtain ⟨v25, ev25⟩ : ∃ z, z = up2 v22 k 8 (-1) := ⟨_, rfl⟩
  rw [← ev25] at hw
  have hG := bnd_use ev25 hG
  have hI26 : Inv v25 := by rw [ev25]; exact Inv.put0 hI23 _ (RG_ship (by omega) (by omega))
  have hK27 : Kp (kp_X7_begin k kd so lo ak fa wy) v v25 := by rw [ev25]; exact Kp.put hK24 _ (by unfold kp_X7_begin; omega)
  exact r_vret X hr hlocks hw hS ⟨⟨hI26, hK27⟩, hG.trans eRR.symm⟩ d_X7_begin_48
theorem d_X10_ship_0 : decode c_X10_ship 0 = .ok (.iload_n 1, 1) := by decide +kernel
theorem d_X10_ship_1 : decode c_X10_ship 1 = .ok (.iconst 0, 1) := by decide +kernel
theorem d_X10_ship_2 : decode c_X10_ship 2 = .ok (.iconst 3, 1) := by decide +kernel
theorem d_X10_ship_3 : decode c_X10_ship 3 = .ok (.invokestatic 74, 3) := by decide +kernel
theorem d_X10_ship_6 : decode c_X10_ship 6 = .ok (.ifCond .eq 56, 3) := by decide +kernel
theorem d_X10_ship_9 : decode c_X10_ship 9 = .ok (.iload_n 2, 1) := by decide +kernel
theorem d_X10_ship_10 : decode c_X10_ship 10 = .ok (.iconst 0, 1) := by decide +kernel
theorem d_X10_ship_11 : decode c_X10_ship 11 = .ok (.iconst 3, 1) := by decide +kernel
theorem d_X10_ship_12 : decode c_X10_ship 12 = .ok (.invokestatic 74, 3) := by decide +kernel
theorem d_X10_ship_15 : decode c_X10_ship 15 = .ok (.ifCond .eq 47, 3) := by decide +kernel
theorem d_X10_ship_18 : decode c_X10_ship 18 = .ok (.iload_n 3, 1) := by decide +kernel
theorem d_X10_ship_19 : decode c_X10_ship 19 = .ok (.iconst 1, 1) := by decide +kernel
theorem d_X10_ship_20 : decode c_X10_ship 20 = .ok (.sipush 400, 3) := by decide +kernel
theorem d_X10_ship_23 : decode c_X10_ship 23 = .ok (.invokestatic 74, 3) := by decide +kernel
theorem d_X10_ship_26 : decode c_X10_ship 26 = .ok (.ifCond .eq 36, 3) := by decide +kernel
theorem d_X10_ship_29 : decode c_X10_ship 29 = .ok (.iload 4, 2) := by decide +kernel
theorem d_X10_ship_31 : decode c_X10_ship 31 = .ok (.invokestatic 78, 3) := by decide +kernel
theorem d_X10_ship_34 : decode c_X10_ship 34 = .ok (.ifCond .eq 28, 3) := by decide +kernel
theorem d_X10_ship_37 : decode c_X10_ship 37 = .ok (.iload 5, 2) := by decide +kernel
theorem d_X10_ship_39 : decode c_X10_ship 39 = .ok (.iconst 0, 1) := by decide +kernel
theorem d_X10_ship_40 : decode c_X10_ship 40 = .ok (.iconst 5, 1) := by decide +kernel
theorem d_X10_ship_41 : decode c_X10_ship 41 = .ok (.invokestatic 74, 3) := by decide +kernel
theorem d_X10_ship_44 : decode c_X10_ship 44 = .ok (.ifCond .eq 18, 3) := by decide +kernel
theorem d_X10_ship_47 : decode c_X10_ship 47 = .ok (.iload 6, 2) := by decide +kernel
theorem d_X10_ship_49 : decode c_X10_ship 49 = .ok (.iconst 1, 1) := by decide +kernel
theorem d_X10_ship_50 : decode c_X10_ship 50 = .ok (.bipush 60, 2) := by decide +kernel
theorem d_X10_ship_52 : decode c_X10_ship 52 = .ok (.invokestatic 74, 3) := by decide +kernel
theorem d_X10_ship_55 : decode c_X10_ship 55 = .ok (.ifCond .eq 7, 3) := by decide +kernel
theorem d_X10_ship_58 : decode c_X10_ship 58 = .ok (.iconst 1, 1) := by decide +kernel
theorem d_X10_ship_59 : decode c_X10_ship 59 = .ok (.goto 4, 3) := by decide +kernel
theorem d_X10_ship_62 : decode c_X10_ship 62 = .ok (.iconst 0, 1) := by decide +kernel
theorem d_X10_ship_63 : decode c_X10_ship 63 = .ok (.istore 7, 2) := by decide +kernel
theorem d_X10_ship_65 : decode c_X10_ship 65 = .ok (.iload 7, 2) := by decide +kernel
theorem d_X10_ship_67 : decode c_X10_ship 67 = .ok (.ifCond .ne 6, 3) := by decide +kernel
theorem d_X10_ship_70 : decode c_X10_ship 70 = .ok (.bipush (-2), 2) := by decide +kernel
theorem d_X10_ship_72 : decode c_X10_ship 72 = .ok (.ireturn, 1) := by decide +kernel
theorem d_X10_ship_73 : decode c_X10_ship 73 = .ok (.aload_n 0, 1) := by decide +kernel
theorem d_X10_ship_74 : decode c_X10_ship 74 = .ok (.getfield 10, 3) := by decide +kernel
theorem d_X10_ship_77 : decode c_X10_ship 77 = .ok (.getfield 82, 3) := by decide +kernel
theorem d_X10_ship_80 : decode c_X10_ship 80 = .ok (.bipush 20, 2) := by decide +kernel
theorem d_X10_ship_82 : decode c_X10_ship 82 = .ok (.if_icmp .lt 6, 3) := by decide +kernel
theorem d_X10_ship_85 : decode c_X10_ship 85 = .ok (.bipush (-4), 2) := by decide +kernel
theorem d_X10_ship_87 : decode c_X10_ship 87 = .ok (.ireturn, 1) := by decide +kernel
theorem d_X10_ship_88 : decode c_X10_ship 88 = .ok (.aload_n 0, 1) := by decide +kernel
theorem d_X10_ship_89 : decode c_X10_ship 89 = .ok (.getfield 10, 3) := by decide +kernel
theorem d_X10_ship_92 : decode c_X10_ship 92 = .ok (.getfield 85, 3) := by decide +kernel
theorem d_X10_ship_95 : decode c_X10_ship 95 = .ok (.aload_n 0, 1) := by decide +kernel
theorem d_X10_ship_96 : decode c_X10_ship 96 = .ok (.getfield 10, 3) := by decide +kernel
theorem d_X10_ship_99 : decode c_X10_ship 99 = .ok (.getfield 82, 3) := by decide +kernel
theorem d_X10_ship_102 : decode c_X10_ship 102 = .ok (.aaload, 1) := by decide +kernel
theorem d_X10_ship_103 : decode c_X10_ship 103 = .ok (.iload_n 1, 1) := by decide +kernel
theorem d_X10_ship_104 : decode c_X10_ship 104 = .ok (.iload_n 2, 1) := by decide +kernel
theorem d_X10_ship_105 : decode c_X10_ship 105 = .ok (.iload_n 3, 1) := by decide +kernel
theorem d_X10_ship_106 : decode c_X10_ship 106 = .ok (.iload 4, 2) := by decide +kernel
theorem d_X10_ship_108 : decode c_X10_ship 108 = .ok (.iload 5, 2) := by decide +kernel
theorem d_X10_ship_110 : decode c_X10_ship 110 = .ok (.iload 6, 2) := by decide +kernel
theorem d_X10_ship_112 : decode c_X10_ship 112 = .ok (.invokevirtual 89, 3) := by decide +kernel
theorem d_X10_ship_115 : decode c_X10_ship 115 = .ok (.aload_n 0, 1) := by decide +kernel
theorem d_X10_ship_116 : decode c_X10_ship 116 = .ok (.getfield 10, 3) := by decide +kernel
theorem d_X10_ship_119 : decode c_X10_ship 119 = .ok (.dup, 1) := by decide +kernel
theorem d_X10_ship_120 : decode c_X10_ship 120 = .ok (.getfield 82, 3) := by decide +kernel
theorem d_X10_ship_123 : decode c_X10_ship 123 = .ok (.dup_x1, 1) := by decide +kernel
theorem d_X10_ship_124 : decode c_X10_ship 124 = .ok (.iconst 1, 1) := by decide +kernel
theorem d_X10_ship_125 : decode c_X10_ship 125 = .ok (.iadd, 1) := by decide +kernel
theorem d_X10_ship_126 : decode c_X10_ship 126 = .ok (.putfield 82, 3) := by decide +kernel
theorem d_X10_ship_129 : decode c_X10_ship 129 = .ok (.ireturn, 1) := by decide +kernel
def kp_X10_ship_0 (kd : Int32) (so : Int32) (lo : Int32) (ak : Int32) (fa : Int32) (wy : Int32) (a j : Nat) : Prop := (a ≠ 1 ∨ j ≠ 3) ∧ (a < 100 ∨ 120 ≤ a)
def f_X10_ship_0 (v : tV) (kd : Int32) (so : Int32) (lo : Int32) (ak : Int32) (fa : Int32) (wy : Int32) : Int32 × tV := (if (0 : Int32).toInt ≤ kd.toInt ∧ kd.toInt ≤ (3 : Int32).toInt then (if (0 : Int32).toInt ≤ so.toInt ∧ so.toInt ≤ (3 : Int32).toInt then (if (1 : Int32).toInt ≤ lo.toInt ∧ lo.toInt ≤ (400 : Int32).toInt then (if 1 ≤ ak.toInt ∧ ak.toInt ≤ 99 then (if (0 : Int32).toInt ≤ fa.toInt ∧ fa.toInt ≤ (5 : Int32).toInt then (if (1 : Int32).toInt ≤ wy.toInt ∧ wy.toInt ≤ (60 : Int32).toInt then bnd (v 1 3) fun x38 => (if x38 < (20 : Int32) then bnd (100 + x38.toNatClampNeg) fun kc44 => bnd (f_X7_begin v kc44 kd so lo ak fa wy) fun v46 => bnd (x38 + (1 : Int32)) fun x52 => bnd (up2 v46 1 3 x52) fun v55 => (x38, v55) else ((-4 : Int32), v)) else ((-2 : Int32), v)) else ((-2 : Int32), v)) else ((-2 : Int32), v)) else ((-2 : Int32), v)) else ((-2 : Int32), v)) else ((-2 : Int32), v))
set_option maxHeartbeats 4000000 in
set_option maxRecDepth 100000 in
theorem ct_X10_ship_0 (l : Launch) (D : va_G) (dA : Nat → ClassId) (ad : Nat → Nat) (v : tV) (hI : Inv v) (kd : Int32) (so : Int32) (lo : Int32) (ak : Int32) (fa : Int32) (wy : Int32) : Met l m_X10_ship [.code m_X10_ship c_X10_ship 8 (some .int)] ({ frames := 3, cells := 0, slots := 0, locals := 82 } : Room) (tP D dA ad v [.ref (ad 0), .int kd, .int so, .int lo, .int ak, .int fa, .int wy]) (tQi D dA ad (fun r v' => (Inv v' ∧ Kp (kp_X10_ship_0 kd so lo ak fa wy) v v') ∧ (r, v') = f_X10_ship_0 v kd so lo ak fa wy)) 0 0 (tA ad) := by
  refine tMet (by decide) (Nat.le_of_ble_eq_true rfl) ?_
  intro p e s m below meth c ls X hr hlocks hw hl
  have X : CX p s m ([.ref (ad 0), .int kd, .int so, .int lo, .int ak, .int fa, .int wy] : List Value).toArray c c_X10_ship N_X10 8 D dA := X
  have hx := X.1
  have hb := X.2.1
  have hS : va_S (tA ad) s.heap s.heap [] := va_S.rf
  have hl : lv_has ls 8 [(0, .ref (ad 0)), (1, .int kd), (2, .int so), (3, .int lo), (4, .int ak), (5, .int fa), (6, .int wy)] := hl
  obtain ⟨RR, eRR⟩ : ∃ z, f_X10_ship_0 v kd so lo ak fa wy = z := ⟨_, rfl⟩
  have hK0 : Kp (kp_X10_ship_0 kd so lo ak fa wy) v v := Kp.rf _ v
  have hG := eRR
  unfold f_X10_ship_0 at hG
  refine lv_iload_n hx hb d_X10_ship_0 rfl (lv_at hl 1 rfl) ?_
  refine lv_iconst (v := 0) hx hb d_X10_ship_1 (by decide) ?_
  refine lv_iconst (v := 3) hx hb d_X10_ship_2 (by decide) ?_
  refine r_ci (r_runS (n := 3) (As := [.int kd, .int 0, .int 3]) (rest := []) X hw (ct_X10_within l D dA ad v hI kd 0 3) gc_X10_74 (by decide +kernel) ⟨rfl, rfl, Nat.le_of_ble_eq_true rfl, Nat.le_of_ble_eq_true rfl⟩ rfl hl.1 rfl (Nat.le_of_ble_eq_true rfl) ⟨Nat.zero_le _, Nat.zero_le _⟩ d_X10_ship_3) hS (fun x2 v3 H locs hp1 hw hS => ?_)
  obtain ⟨ev3, hp1⟩ := hp1
  rw [ev3] at hw
  rcases hp1 with ⟨rfl, w4a, w4b⟩ | ⟨rfl, w4n⟩
  · skip
    have hG := g_pos ⟨w4a, w4b⟩ hG
    have r5 : Rg kd 0 3 := by obtain ⟨_, _⟩ := (rg_any kd); have : (0 : Int32).toInt = 0 := rfl; have : (3 : Int32).toInt = 3 := rfl; exact ⟨by omega, by omega⟩
    refine lv_if_eq (tgt := 62) hx hb d_X10_ship_6 (by decide) (fun c6 => ?_) (fun c6 => ?_)
    · exact absurd c6 (by decide)
    · refine lv_iload_n hx hb d_X10_ship_9 rfl (lv_at hl 2 rfl) ?_
      refine lv_iconst (v := 0) hx hb d_X10_ship_10 (by decide) ?_
      refine lv_iconst (v := 3) hx hb d_X10_ship_11 (by decide) ?_
      refine r_ci (r_runS (n := 3) (As := [.int so, .int 0, .int 3]) (rest := []) X hw (ct_X10_within l D dA ad v hI so 0 3) gc_X10_74 (by decide +kernel) ⟨rfl, rfl, Nat.le_of_ble_eq_true rfl, Nat.le_of_ble_eq_true rfl⟩ rfl hl.1 rfl (Nat.le_of_ble_eq_true rfl) ⟨Nat.zero_le _, Nat.zero_le _⟩ d_X10_ship_12) hS (fun x8 v9 H locs hp7 hw hS => ?_)
      obtain ⟨ev9, hp7⟩ := hp7
      rw [ev9] at hw
      rcases hp7 with ⟨rfl, w10a, w10b⟩ | ⟨rfl, w10n⟩
      · skip
        have hG := g_pos ⟨w10a, w10b⟩ hG
        have r11 : Rg so 0 3 := by obtain ⟨_, _⟩ := (rg_any so); have : (0 : Int32).toInt = 0 := rfl; have : (3 : Int32).toInt = 3 := rfl; exact ⟨by omega, by omega⟩
        refine lv_if_eq (tgt := 62) hx hb d_X10_ship_15 (by decide) (fun c12 => ?_) (fun c12 => ?_)
        · exact absurd c12 (by decide)
        · refine lv_iload_n hx hb d_X10_ship_18 rfl (lv_at hl 3 rfl) ?_
          refine lv_iconst (v := 1) hx hb d_X10_ship_19 (by decide) ?_
          refine lv_sipush (v := 400) hx hb d_X10_ship_20 (by decide) ?_
          refine r_ci (r_runS (n := 3) (As := [.int lo, .int 1, .int 400]) (rest := []) X hw (ct_X10_within l D dA ad v hI lo 1 400) gc_X10_74 (by decide +kernel) ⟨rfl, rfl, Nat.le_of_ble_eq_true rfl, Nat.le_of_ble_eq_true rfl⟩ rfl hl.1 rfl (Nat.le_of_ble_eq_true rfl) ⟨Nat.zero_le _, Nat.zero_le _⟩ d_X10_ship_23) hS (fun x14 v15 H locs hp13 hw hS => ?_)
          obtain ⟨ev15, hp13⟩ := hp13
          rw [ev15] at hw
          rcases hp13 with ⟨rfl, w16a, w16b⟩ | ⟨rfl, w16n⟩
          · skip
            have hG := g_pos ⟨w16a, w16b⟩ hG
            have r17 : Rg lo 1 400 := by obtain ⟨_, _⟩ := (rg_any lo); have : (1 : Int32).toInt = 1 := rfl; have : (400 : Int32).toInt = 400 := rfl; exact ⟨by omega, by omega⟩
            refine lv_if_eq (tgt := 62) hx hb d_X10_ship_26 (by decide) (fun c18 => ?_) (fun c18 => ?_)
            · exact absurd c18 (by decide)
            · refine lv_iload hx hb d_X10_ship_29 (lv_at hl 4 rfl) ?_
              refine r_ci (r_runS (n := 1) (As := [.int ak]) (rest := []) X hw (ct_X10_isAsk l D dA ad v hI ak) gc_X10_78 (by decide +kernel) ⟨rfl, rfl, Nat.le_of_ble_eq_true rfl, Nat.le_of_ble_eq_true rfl⟩ rfl hl.1 rfl (Nat.le_of_ble_eq_true rfl) ⟨Nat.zero_le _, Nat.zero_le _⟩ d_X10_ship_31) hS (fun x20 v21 H locs hp19 hw hS => ?_)
              obtain ⟨ev21, hp19⟩ := hp19
              rw [ev21] at hw
              rcases hp19 with ⟨rfl, w22a, w22b⟩ | ⟨rfl, w22n⟩
              · skip
                have hG := g_pos ⟨w22a, w22b⟩ hG
                have r23 : Rg ak 1 99 := by obtain ⟨_, _⟩ := (rg_any ak); exact ⟨by omega, by omega⟩
                refine lv_if_eq (tgt := 62) hx hb d_X10_ship_34 (by decide) (fun c24 => ?_) (fun c24 => ?_)
                · exact absurd c24 (by decide)
                · refine lv_iload hx hb d_X10_ship_37 (lv_at hl 5 rfl) ?_
                  refine lv_iconst (v := 0) hx hb d_X10_ship_39 (by decide) ?_
                  refine lv_iconst (v := 5) hx hb d_X10_ship_40 (by decide) ?_
                  refine r_ci (r_runS (n := 3) (As := [.int fa, .int 0, .int 5]) (rest := []) X hw (ct_X10_within l D dA ad v hI fa 0 5) gc_X10_74 (by decide +kernel) ⟨rfl, rfl, Nat.le_of_ble_eq_true rfl, Nat.le_of_ble_eq_true rfl⟩ rfl hl.1 rfl (Nat.le_of_ble_eq_true rfl) ⟨Nat.zero_le _, Nat.zero_le _⟩ d_X10_ship_41) hS (fun x26 v27 H locs hp25 hw hS => ?_)
                  obtain ⟨ev27, hp25⟩ := hp25
                  rw [ev27] at hw
                  rcases hp25 with ⟨rfl, w28a, w28b⟩ | ⟨rfl, w28n⟩
                  · skip
                    have hG := g_pos ⟨w28a, w28b⟩ hG
                    have r29 : Rg fa 0 5 := by obtain ⟨_, _⟩ := (rg_any fa); have : (0 : Int32).toInt = 0 := rfl; have : (5 : Int32).toInt = 5 := rfl; exact ⟨by omega, by omega⟩
                    refine lv_if_eq (tgt := 62) hx hb d_X10_ship_44 (by decide) (fun c30 => ?_) (fun c30 => ?_)
                    · exact absurd c30 (by decide)
                    · refine lv_iload hx hb d_X10_ship_47 (lv_at hl 6 rfl) ?_
                      refine lv_iconst (v := 1) hx hb d_X10_ship_49 (by decide) ?_
                      refine lv_bipush (v := 60) hx hb d_X10_ship_50 (by decide) ?_
                      refine r_ci (r_runS (n := 3) (As := [.int wy, .int 1, .int 60]) (rest := []) X hw (ct_X10_within l D dA ad v hI wy 1 60) gc_X10_74 (by decide +kernel) ⟨rfl, rfl, Nat.le_of_ble_eq_true rfl, Nat.le_of_ble_eq_true rfl⟩ rfl hl.1 rfl (Nat.le_of_ble_eq_true rfl) ⟨Nat.zero_le _, Nat.zero_le _⟩ d_X10_ship_52) hS (fun x32 v33 H locs hp31 hw hS => ?_)
                      obtain ⟨ev33, hp31⟩ := hp31
                      rw [ev33] at hw
                      rcases hp31 with ⟨rfl, w34a, w34b⟩ | ⟨rfl, w34n⟩
                      · skip
                        have hG := g_pos ⟨w34a, w34b⟩ hG
                        have r35 : Rg wy 1 60 := by obtain ⟨_, _⟩ := (rg_any wy); have : (1 : Int32).toInt = 1 := rfl; have : (60 : Int32).toInt = 60 := rfl; exact ⟨by omega, by omega⟩
                        refine lv_if_eq (tgt := 62) hx hb d_X10_ship_55 (by decide) (fun c36 => ?_) (fun c36 => ?_)
                        · exact absurd c36 (by decide)
                        · refine lv_iconst (v := 1) hx hb d_X10_ship_58 (by decide) ?_
                          refine lv_goto (tgt := 63) hx hb d_X10_ship_59 (by decide) ?_
                          refine lv_istore (lv' := [(7, .int 1), (0, .ref (ad 0)), (1, .int kd), (2, .int so), (3, .int lo), (4, .int ak), (5, .int fa), (6, .int wy)]) hx hb d_X10_ship_63 hl (by decide) rfl (fun ls hl => ?_)
                          refine lv_iload hx hb d_X10_ship_65 (lv_at hl 0 rfl) ?_
                          refine lv_if_ne (tgt := 73) hx hb d_X10_ship_67 (by decide) (fun c37 => ?_) (fun c37 => ?_)
                          · refine lv_aload_n hx hb d_X10_ship_73 rfl (lv_at hl 1 rfl) ?_
                            refine r_getr (r := 1) X hw FL_X10_10 (rfl : KD 0 = _) rfl d_X10_ship_74 ?_
                            refine r_geti X hw FL_X10_82 (rfl : KD 1 = _) rfl d_X10_ship_77 ?_
                            refine lv_topi (fun x38 ex38 => ?_)
                            have hG := bnd_use ex38 hG
                            have r39 : Rg x38 0 20 := by rw [ex38]; exact hI _ _ _ _ rfl
                            have hm40 : v 1 3 = x38 := ex38.symm
                            refine lv_bipush (v := 20) hx hb d_X10_ship_80 (by decide) ?_
                            refine lv_icmp_lt (tgt := 88) hx hb d_X10_ship_82 (by decide) (fun c41 => ?_) (fun c41 => ?_)
                            · have f42 := i_lt c41
                              have r43 : Rg x38 0 19 := by obtain ⟨a1, a2⟩ := r39; obtain ⟨b1, b2⟩ := (⟨by decide, by decide⟩ : Rg 20 20 20); have f := i_lt c41; exact ⟨by omega, by omega⟩
                              have hG := g_pos c41 hG
                              refine lv_aload_n hx hb d_X10_ship_88 rfl (lv_at hl 1 rfl) ?_
                              refine r_getr (r := 1) X hw FL_X10_10 (rfl : KD 0 = _) rfl d_X10_ship_89 ?_
                              refine r_getr (r := 10) X hw FL_X10_85 (rfl : KD 1 = _) rfl d_X10_ship_92 ?_
                              refine lv_aload_n hx hb d_X10_ship_95 rfl (lv_at hl 1 rfl) ?_
                              refine r_getr (r := 1) X hw FL_X10_10 (rfl : KD 0 = _) rfl d_X10_ship_96 ?_
                              refine r_geti X hw FL_X10_82 (rfl : KD 1 = _) rfl d_X10_ship_99 ?_
                              rw [hm40]
                              refine r_aald X hw (rfl : KD 10 = _) (Or.inl rfl) (Rg.vp (b := 19) r43 (by decide)) rfl d_X10_ship_102 ?_
                              refine r_nm (fun kc44 ekc44 => ?_)
                              have hG := bnd_use ekc44 hG
                              have kc44a : 100 ≤ kc44 := by omega
                              have kc44b : kc44 ≤ 119 := by have := Rg.nat r43; omega
                              refine lv_iload_n hx hb d_X10_ship_103 rfl (lv_at hl 2 rfl) ?_
                              refine lv_iload_n hx hb d_X10_ship_104 rfl (lv_at hl 3 rfl) ?_
                              refine lv_iload_n hx hb d_X10_ship_105 rfl (lv_at hl 4 rfl) ?_
                              refine lv_iload hx hb d_X10_ship_106 (lv_at hl 5 rfl) ?_
                              refine lv_iload hx hb d_X10_ship_108 (lv_at hl 6 rfl) ?_
                              refine lv_iload hx hb d_X10_ship_110 (lv_at hl 7 rfl) ?_
                              refine r_cv (r_runV (n := 6) (As := [.int kd, .int so, .int lo, .int ak, .int fa, .int wy]) (rest := []) X hw (ct_X7_begin l D dA ad v hI kc44 kd so lo ak fa wy (by omega) (by omega)) gc_X10_89 (KD_ship (by omega) (by omega)) (by decide) rfl (by decide +kernel) ⟨rfl, rfl, Nat.le_of_ble_eq_true rfl, Nat.le_of_ble_eq_true rfl⟩ rfl hl.1 rfl (Nat.le_of_ble_eq_true rfl) ⟨Nat.zero_le _, Nat.zero_le _⟩ d_X10_ship_112) hS (fun v46 H locs hp45 hw hS => ?_)
                              obtain ⟨hp45, hE47⟩ := hp45
                              obtain ⟨hI48, hK49⟩ := hp45
                              have hm50 : v46 1 3 = x38 := (hK49 1 3 (by unfold kp_X7_begin; omega)).trans hm40
                              have hK51 : Kp (kp_X10_ship_0 kd so lo ak fa wy) v v46 := Kp.tr hK0 hK49 (by have z0 : (0 : Int32).toInt = 0 := rfl; intro a j; unfold kp_X10_ship_0 kp_X7_begin; omega)
                              have hG := bnd_use hE47 hG
                              refine lv_aload_n hx hb d_X10_ship_115 rfl (lv_at hl 1 rfl) ?_
                              refine r_getr (r := 1) X hw FL_X10_10 (rfl : KD 0 = _) rfl d_X10_ship_116 ?_
                              refine lv_dup hx hb d_X10_ship_119 rfl ?_
                              refine r_geti X hw FL_X10_82 (rfl : KD 1 = _) rfl d_X10_ship_120 ?_
                              rw [hm50]
                              refine lv_dup_x1 hx hb d_X10_ship_123 rfl rfl ?_
                              refine lv_iconst (v := 1) hx hb d_X10_ship_124 (by decide) ?_
                              refine lv_iadd hx hb d_X10_ship_125 ?_
                              refine lv_topi (fun x52 ex52 => ?_)
                              have hG := bnd_use ex52 hG
                              have r53 : Rg x52 1 20 := rg_add ex52 r43 (⟨by decide, by decide⟩ : Rg 1 1 1) (by decide) (by decide)
                              have s54 : x52.toInt = x38.toInt + (1 : Int32).toInt := by rw [ex52]; exact i_add (by obtain ⟨_, _⟩ := r43; obtain ⟨_, _⟩ := (⟨by decide, by decide⟩ : Rg 1 1 1); omega) (by obtain ⟨_, _⟩ := r43; obtain ⟨_, _⟩ := (⟨by decide, by decide⟩ : Rg 1 1 1); omega)
                              have s54l : (1 : Int32).toInt = 1 := rfl
                              refine r_put X hw hS FP_X10_82 (rfl : KD 1 = _) rfl ⟨rfl, rfl⟩ d_X10_ship_126 (fun H locs hw hS => ?_)
                              obtain ⟨v55, ev55⟩ : ∃ z, z = up2 v46 1 3 x52 := ⟨_, rfl⟩
                              rw [← ev55] at hw
                              have hG := bnd_use ev55 hG
                              have hI56 : Inv v55 := by rw [ev55]; exact Inv.putr hI48 rfl (rg_w r53 (by decide) (by decide))
                              have hK57 : Kp (kp_X10_ship_0 kd so lo ak fa wy) v v55 := by rw [ev55]; exact Kp.put hK51 _ (by unfold kp_X10_ship_0; omega)
                              have hm58 : v55 1 3 = x52 := by rw [ev55, up2_s]
                              exact r_iret X hr hlocks hw hS ⟨⟨hI56, hK57⟩, hG.trans eRR.symm⟩ d_X10_ship_129
                            · have f59 := i_nlt c41
                              have r60 : Rg x38 20 20 := by obtain ⟨a1, a2⟩ := r39; obtain ⟨b1, b2⟩ := (⟨by decide, by decide⟩ : Rg 20 20 20); have f := i_nlt c41; exact ⟨by omega, by omega⟩
                              have hG := g_neg c41 hG
                              refine lv_bipush (v := -4) hx hb d_X10_ship_85 (by decide) ?_
                              exact r_iret X hr hlocks hw hS ⟨⟨hI, hK0⟩, hG.trans eRR.symm⟩ d_X10_ship_87
                          · exact absurd c37 (by decide)
                      · skip
                        have hG := g_neg w34n hG
                        refine lv_if_eq (tgt := 62) hx hb d_X10_ship_55 (by decide) (fun c61 => ?_) (fun c61 => ?_)
                        · refine lv_iconst (v := 0) hx hb d_X10_ship_62 (by decide) ?_
                          refine lv_istore (lv' := [(7, .int 0), (0, .ref (ad 0)), (1, .int kd), (2, .int so), (3, .int lo), (4, .int ak), (5, .int fa), (6, .int wy)]) hx hb d_X10_ship_63 hl (by decide) rfl (fun ls hl => ?_)
                          refine lv_iload hx hb d_X10_ship_65 (lv_at hl 0 rfl) ?_
                          refine lv_if_ne (tgt := 73) hx hb d_X10_ship_67 (by decide) (fun c62 => ?_) (fun c62 => ?_)
                          · exact absurd c62 (by decide)
                          · refine lv_bipush (v := -2) hx hb d_X10_ship_70 (by decide) ?_
                            exact r_iret X hr hlocks hw hS ⟨⟨hI, hK0⟩, hG.trans eRR.symm⟩ d_X10_ship_72
                        · exact absurd c61 (by decide)
                  · skip
                    have hG := g_neg w28n hG
                    refine lv_if_eq (tgt := 62) hx hb d_X10_ship_44 (by decide) (fun c63 => ?_) (fun c63 => ?_)
                    · refine lv_iconst (v := 0) hx hb d_X10_ship_62 (by decide) ?_
                      refine lv_istore (lv' := [(7, .int 0), (0, .ref (ad 0)), (1, .int kd), (2, .int so), (3, .int lo), (4, .int ak), (5, .int fa), (6, .int wy)]) hx hb d_X10_ship_63 hl (by decide) rfl (fun ls hl => ?_)
                      refine lv_iload hx hb d_X10_ship_65 (lv_at hl 0 rfl) ?_
                      refine lv_if_ne (tgt := 73) hx hb d_X10_ship_67 (by decide) (fun c64 => ?_) (fun c64 => ?_)
                      · exact absurd c64 (by decide)
                      · refine lv_bipush (v := -2) hx hb d_X10_ship_70 (by decide) ?_
                        exact r_iret X hr hlocks hw hS ⟨⟨hI, hK0⟩, hG.trans eRR.symm⟩ d_X10_ship_72
                    · exact absurd c63 (by decide)
              · skip
                have hG := g_neg w22n hG
                refine lv_if_eq (tgt := 62) hx hb d_X10_ship_34 (by decide) (fun c65 => ?_) (fun c65 => ?_)
                · refine lv_iconst (v := 0) hx hb d_X10_ship_62 (by decide) ?_
                  refine lv_istore (lv' := [(7, .int 0), (0, .ref (ad 0)), (1, .int kd), (2, .int so), (3, .int lo), (4, .int ak), (5, .int fa), (6, .int wy)]) hx hb d_X10_ship_63 hl (by decide) rfl (fun ls hl => ?_)
                  refine lv_iload hx hb d_X10_ship_65 (lv_at hl 0 rfl) ?_
                  refine lv_if_ne (tgt := 73) hx hb d_X10_ship_67 (by decide) (fun c66 => ?_) (fun c66 => ?_)
                  · exact absurd c66 (by decide)
                  · refine lv_bipush (v := -2) hx hb d_X10_ship_70 (by decide) ?_
                    exact r_iret X hr hlocks hw hS ⟨⟨hI, hK0⟩, hG.trans eRR.symm⟩ d_X10_ship_72
                · exact absurd c65 (by decide)
          · skip
            have hG := g_neg w16n hG
            refine lv_if_eq (tgt := 62) hx hb d_X10_ship_26 (by decide) (fun c67 => ?_) (fun c67 => ?_)
            · refine lv_iconst (v := 0) hx hb d_X10_ship_62 (by decide) ?_
              refine lv_istore (lv' := [(7, .int 0), (0, .ref (ad 0)), (1, .int kd), (2, .int so), (3, .int lo), (4, .int ak), (5, .int fa), (6, .int wy)]) hx hb d_X10_ship_63 hl (by decide) rfl (fun ls hl => ?_)
              refine lv_iload hx hb d_X10_ship_65 (lv_at hl 0 rfl) ?_
              refine lv_if_ne (tgt := 73) hx hb d_X10_ship_67 (by decide) (fun c68 => ?_) (fun c68 => ?_)
              · exact absurd c68 (by decide)
              · refine lv_bipush (v := -2) hx hb d_X10_ship_70 (by decide) ?_
                exact r_iret X hr hlocks hw hS ⟨⟨hI, hK0⟩, hG.trans eRR.symm⟩ d_X10_ship_72
            · exact absurd c67 (by decide)
      · skip
        have hG := g_neg w10n hG
        refine lv_if_eq (tgt := 62) hx hb d_X10_ship_15 (by decide) (fun c69 => ?_) (fun c69 => ?_)
        · refine lv_iconst (v := 0) hx hb d_X10_ship_62 (by decide) ?_
          refine lv_istore (lv' := [(7, .int 0), (0, .ref (ad 0)), (1, .int kd), (2, .int so), (3, .int lo), (4, .int ak), (5, .int fa), (6, .int wy)]) hx hb d_X10_ship_63 hl (by decide) rfl (fun ls hl => ?_)
          refine lv_iload hx hb d_X10_ship_65 (lv_at hl 0 rfl) ?_
          refine lv_if_ne (tgt := 73) hx hb d_X10_ship_67 (by decide) (fun c70 => ?_) (fun c70 => ?_)
          · exact absurd c70 (by decide)
          · refine lv_bipush (v := -2) hx hb d_X10_ship_70 (by decide) ?_
            exact r_iret X hr hlocks hw hS ⟨⟨hI, hK0⟩, hG.trans eRR.symm⟩ d_X10_ship_72
        · exact absurd c69 (by decide)
  · skip
    have hG := g_neg w4n hG
    refine lv_if_eq (tgt := 62) hx hb d_X10_ship_6 (by decide) (fun c71 => ?_) (fun c71 => ?_)
    · refine lv_iconst (v := 0) hx hb d_X10_ship_62 (by decide) ?_
      refine lv_istore (lv' := [(7, .int 0), (0, .ref (ad 0)), (1, .int kd), (2, .int so), (3, .int lo), (4, .int ak), (5, .int fa), (6, .int wy)]) hx hb d_X10_ship_63 hl (by decide) rfl (fun ls hl => ?_)
      refine lv_iload hx hb d_X10_ship_65 (lv_at hl 0 rfl) ?_
      refine lv_if_ne (tgt := 73) hx hb d_X10_ship_67 (by decide) (fun c72 => ?_) (fun c72 => ?_)
      · exact absurd c72 (by decide)
      · refine lv_bipush (v := -2) hx hb d_X10_ship_70 (by decide) ?_
        exact r_iret X hr hlocks hw hS ⟨⟨hI, hK0⟩, hG.trans eRR.symm⟩ d_X10_ship_72
    · exact absurd c71 (by decide)
theorem d_X10_ask_0 : decode c_X10_ask 0 = .ok (.aload_n 0, 1) := by decide +kernel
theorem d_X10_ask_1 : decode c_X10_ask 1 = .ok (.getfield 10, 3) := by decide +kernel
theorem d_X10_ask_4 : decode c_X10_ask 4 = .ok (.iload_n 1, 1) := by decide +kernel
theorem d_X10_ask_5 : decode c_X10_ask 5 = .ok (.invokevirtual 95, 3) := by decide +kernel
theorem d_X10_ask_8 : decode c_X10_ask 8 = .ok (.ifCond .ne 5, 3) := by decide +kernel
theorem d_X10_ask_11 : decode c_X10_ask 11 = .ok (.iconst (-1), 1) := by decide +kernel
theorem d_X10_ask_12 : decode c_X10_ask 12 = .ok (.ireturn, 1) := by decide +kernel
theorem d_X10_ask_13 : decode c_X10_ask 13 = .ok (.iload_n 2, 1) := by decide +kernel
theorem d_X10_ask_14 : decode c_X10_ask 14 = .ok (.invokestatic 78, 3) := by decide +kernel
theorem d_X10_ask_17 : decode c_X10_ask 17 = .ok (.ifCond .ne 6, 3) := by decide +kernel
theorem d_X10_ask_20 : decode c_X10_ask 20 = .ok (.bipush (-2), 2) := by decide +kernel
theorem d_X10_ask_22 : decode c_X10_ask 22 = .ok (.ireturn, 1) := by decide +kernel
theorem d_X10_ask_23 : decode c_X10_ask 23 = .ok (.aload_n 0, 1) := by decide +kernel
theorem d_X10_ask_24 : decode c_X10_ask 24 = .ok (.getfield 10, 3) := by decide +kernel
theorem d_X10_ask_27 : decode c_X10_ask 27 = .ok (.getfield 85, 3) := by decide +kernel
theorem d_X10_ask_30 : decode c_X10_ask 30 = .ok (.iload_n 1, 1) := by decide +kernel
theorem d_X10_ask_31 : decode c_X10_ask 31 = .ok (.aaload, 1) := by decide +kernel
theorem d_X10_ask_32 : decode c_X10_ask 32 = .ok (.getfield 98, 3) := by decide +kernel
theorem d_X10_ask_35 : decode c_X10_ask 35 = .ok (.istore_n 3, 1) := by decide +kernel
theorem d_X10_ask_36 : decode c_X10_ask 36 = .ok (.aload_n 0, 1) := by decide +kernel
theorem d_X10_ask_37 : decode c_X10_ask 37 = .ok (.getfield 10, 3) := by decide +kernel
theorem d_X10_ask_40 : decode c_X10_ask 40 = .ok (.getfield 85, 3) := by decide +kernel
theorem d_X10_ask_43 : decode c_X10_ask 43 = .ok (.iload_n 1, 1) := by decide +kernel
theorem d_X10_ask_44 : decode c_X10_ask 44 = .ok (.aaload, 1) := by decide +kernel
theorem d_X10_ask_45 : decode c_X10_ask 45 = .ok (.iload_n 2, 1) := by decide +kernel
theorem d_X10_ask_46 : decode c_X10_ask 46 = .ok (.putfield 98, 3) := by decide +kernel
theorem d_X10_ask_49 : decode c_X10_ask 49 = .ok (.iload_n 3, 1) := by decide +kernel
theorem d_X10_ask_50 : decode c_X10_ask 50 = .ok (.ireturn, 1) := by decide +kernel
def kp_X10_ask_0 (si : Int32) (ak : Int32) (a j : Nat) : Prop := a < 100 ∨ 120 ≤ a ∨ j ≠ 3
def f_X10_ask_0 (v : tV) (si : Int32) (ak : Int32) : Int32 × tV := (if 0 ≤ si.toInt ∧ si.toInt ≤ (v 1 3).toInt - 1 then (if 1 ≤ ak.toInt ∧ ak.toInt ≤ 99 then bnd (100 + si.toNatClampNeg) fun kc13 => bnd (v kc13 3) fun x14 => bnd (100 + si.toNatClampNeg) fun kc15 => bnd (up2 v kc15 3 ak) fun v16 => (x14, v16) else ((-2 : Int32), v)) else ((-1 : Int32), v))
set_option maxHeartbeats 4000000 in
set_option maxRecDepth 100000 in
theorem ct_X10_ask_0 (l : Launch) (D : va_G) (dA : Nat → ClassId) (ad : Nat → Nat) (v : tV) (hI : Inv v) (si : Int32) (ak : Int32) : Met l m_X10_ask [.code m_X10_ask c_X10_ask 4 (some .int)] ({ frames := 3, cells := 0, slots := 0, locals := 83 } : Room) (tP D dA ad v [.ref (ad 0), .int si, .int ak]) (tQi D dA ad (fun r v' => (Inv v' ∧ Kp (kp_X10_ask_0 si ak) v v') ∧ (r, v') = f_X10_ask_0 v si ak)) 0 0 (tA ad) := by
  refine tMet (by decide) (Nat.le_of_ble_eq_true rfl) ?_
  intro p e s m below meth c ls X hr hlocks hw hl
  have X : CX p s m ([.ref (ad 0), .int si, .int ak] : List Value).toArray c c_X10_ask N_X10 4 D dA := X
  have hx := X.1
  have hb := X.2.1
  have hS : va_S (tA ad) s.heap s.heap [] := va_S.rf
  have hl : lv_has ls 4 [(0, .ref (ad 0)), (1, .int si), (2, .int ak)] := hl
  obtain ⟨RR, eRR⟩ : ∃ z, f_X10_ask_0 v si ak = z := ⟨_, rfl⟩
  have hK0 : Kp (kp_X10_ask_0 si ak) v v := Kp.rf _ v
  have hG := eRR
  unfold f_X10_ask_0 at hG
  refine lv_aload_n hx hb d_X10_ask_0 rfl (lv_at hl 0 rfl) ?_
  refine r_getr (r := 1) X hw FL_X10_10 (rfl : KD 0 = _) rfl d_X10_ask_1 ?_
  refine lv_iload_n hx hb d_X10_ask_4 rfl (lv_at hl 1 rfl) ?_
  refine r_ci (r_runV (n := 1) (As := [.int si]) (rest := []) X hw (ct_X6_hasShip_1 l D dA ad v hI si) gc_X10_95 (rfl : KD 1 = _) (by decide) rfl (by decide +kernel) ⟨rfl, rfl, Nat.le_of_ble_eq_true rfl, Nat.le_of_ble_eq_true rfl⟩ rfl hl.1 rfl (Nat.le_of_ble_eq_true rfl) ⟨Nat.zero_le _, Nat.zero_le _⟩ d_X10_ask_5) hS (fun x2 v3 H locs hp1 hw hS => ?_)
  obtain ⟨ev3, hp1⟩ := hp1
  rw [ev3] at hw
  rcases hp1 with ⟨rfl, w4a, w4b⟩ | ⟨rfl, w4n⟩
  · skip
    have hG := g_pos ⟨w4a, w4b⟩ hG
    have r5 : Rg si 0 19 := by have q := hI 1 3 0 20 rfl; obtain ⟨_, _⟩ := q; obtain ⟨_, _⟩ := (rg_any si); exact ⟨by omega, by omega⟩
    refine lv_if_ne (tgt := 13) hx hb d_X10_ask_8 (by decide) (fun c6 => ?_) (fun c6 => ?_)
    · refine lv_iload_n hx hb d_X10_ask_13 rfl (lv_at hl 2 rfl) ?_
      refine r_ci (r_runS (n := 1) (As := [.int ak]) (rest := []) X hw (ct_X10_isAsk l D dA ad v hI ak) gc_X10_78 (by decide +kernel) ⟨rfl, rfl, Nat.le_of_ble_eq_true rfl, Nat.le_of_ble_eq_true rfl⟩ rfl hl.1 rfl (Nat.le_of_ble_eq_true rfl) ⟨Nat.zero_le _, Nat.zero_le _⟩ d_X10_ask_14) hS (fun x8 v9 H locs hp7 hw hS => ?_)
      obtain ⟨ev9, hp7⟩ := hp7
      rw [ev9] at hw
      rcases hp7 with ⟨rfl, w10a, w10b⟩ | ⟨rfl, w10n⟩
      · skip
        have hG := g_pos ⟨w10a, w10b⟩ hG
        have r11 : Rg ak 1 99 := by obtain ⟨_, _⟩ := (rg_any ak); exact ⟨by omega, by omega⟩
        refine lv_if_ne (tgt := 23) hx hb d_X10_ask_17 (by decide) (fun c12 => ?_) (fun c12 => ?_)
        · refine lv_aload_n hx hb d_X10_ask_23 rfl (lv_at hl 0 rfl) ?_
          refine r_getr (r := 1) X hw FL_X10_10 (rfl : KD 0 = _) rfl d_X10_ask_24 ?_
          refine r_getr (r := 10) X hw FL_X10_85 (rfl : KD 1 = _) rfl d_X10_ask_27 ?_
          refine lv_iload_n hx hb d_X10_ask_30 rfl (lv_at hl 1 rfl) ?_
          refine r_aald X hw (rfl : KD 10 = _) (Or.inl rfl) (Rg.vp (b := 19) r5 (by decide)) rfl d_X10_ask_31 ?_
          refine r_nm (fun kc13 ekc13 => ?_)
          have hG := bnd_use ekc13 hG
          have kc13a : 100 ≤ kc13 := by omega
          have kc13b : kc13 ≤ 119 := by have := Rg.nat r5; omega
          refine r_geti X hw FL_X10_98 (KD_ship (by omega) (by omega)) (SH_ship (by omega) (by omega)) d_X10_ask_32 ?_
          refine lv_topi (fun x14 ex14 => ?_)
          have hG := bnd_use ex14 hG
          refine lv_istore_n (lv' := [(3, .int x14), (0, .ref (ad 0)), (1, .int si), (2, .int ak)]) hx hb d_X10_ask_35 rfl hl (by decide) rfl (fun ls hl => ?_)
          refine lv_aload_n hx hb d_X10_ask_36 rfl (lv_at hl 1 rfl) ?_
          refine r_getr (r := 1) X hw FL_X10_10 (rfl : KD 0 = _) rfl d_X10_ask_37 ?_
          refine r_getr (r := 10) X hw FL_X10_85 (rfl : KD 1 = _) rfl d_X10_ask_40 ?_
          refine lv_iload_n hx hb d_X10_ask_43 rfl (lv_at hl 2 rfl) ?_
          refine r_aald X hw (rfl : KD 10 = _) (Or.inl rfl) (Rg.vp (b := 19) r5 (by decide)) rfl d_X10_ask_44 ?_
          refine r_nm (fun kc15 ekc15 => ?_)
          have hG := bnd_use ekc15 hG
          have kc15a : 100 ≤ kc15 := by omega
          have kc15b : kc15 ≤ 119 := by have := Rg.nat r5; omega
          refine lv_iload_n hx hb d_X10_ask_45 rfl (lv_at hl 3 rfl) ?_
          refine r_put X hw hS FP_X10_98 (KD_ship (by omega) (by omega)) (SH_ship (by omega) (by omega)) ⟨rfl, rfl⟩ d_X10_ask_46 (fun H locs hw hS => ?_)
          obtain ⟨v16, ev16⟩ : ∃ z, z = up2 v kc15 3 ak := ⟨_, rfl⟩
          rw [← ev16] at hw
          have hG := bnd_use ev16 hG
          have hI17 : Inv v16 := by rw [ev16]; exact Inv.put0 hI _ (RG_ship (by omega) (by omega))
          have hK18 : Kp (kp_X10_ask_0 si ak) v v16 := by rw [ev16]; exact Kp.put hK0 _ (by unfold kp_X10_ask_0; omega)
          refine lv_iload_n hx hb d_X10_ask_49 rfl (lv_at hl 0 rfl) ?_
          exact r_iret X hr hlocks hw hS ⟨⟨hI17, hK18⟩, hG.trans eRR.symm⟩ d_X10_ask_50
        · exact absurd c12 (by decide)
      · skip
        have hG := g_neg w10n hG
        refine lv_if_ne (tgt := 23) hx hb d_X10_ask_17 (by decide) (fun c19 => ?_) (fun c19 => ?_)
        · exact absurd c19 (by decide)
        · refine lv_bipush (v := -2) hx hb d_X10_ask_20 (by decide) ?_
          exact r_iret X hr hlocks hw hS ⟨⟨hI, hK0⟩, hG.trans eRR.symm⟩ d_X10_ask_22
    · exact absurd c6 (by decide)
  · skip
    have hG := g_neg w4n hG
    refine lv_if_ne (tgt := 13) hx hb d_X10_ask_8 (by decide) (fun c20 => ?_) (fun c20 => ?_)
    · exact absurd c20 (by decide)
    · refine lv_iconst (v := -1) hx hb d_X10_ask_11 (by decide) ?_
      exact r_iret X hr hlocks hw hS ⟨⟨hI, hK0⟩, hG.trans eRR.symm⟩ d_X10_ask_12
theorem d_X10_wreck_0 : decode c_X10_wreck 0 = .ok (.aload_n 0, 1) := by decide +kernel
theorem d_X10_wreck_1 : decode c_X10_wreck 1 = .ok (.getfield 10, 3) := by decide +kernel
theorem d_X10_wreck_4 : decode c_X10_wreck 4 = .ok (.iload_n 1, 1) := by decide +kernel
theorem d_X10_wreck_5 : decode c_X10_wreck 5 = .ok (.invokevirtual 95, 3) := by decide +kernel
theorem d_X10_wreck_8 : decode c_X10_wreck 8 = .ok (.ifCond .ne 5, 3) := by decide +kernel
theorem d_X10_wreck_11 : decode c_X10_wreck 11 = .ok (.iconst (-1), 1) := by decide +kernel
theorem d_X10_wreck_12 : decode c_X10_wreck 12 = .ok (.ireturn, 1) := by decide +kernel
theorem d_X10_wreck_13 : decode c_X10_wreck 13 = .ok (.aload_n 0, 1) := by decide +kernel
theorem d_X10_wreck_14 : decode c_X10_wreck 14 = .ok (.getfield 10, 3) := by decide +kernel
theorem d_X10_wreck_17 : decode c_X10_wreck 17 = .ok (.getfield 85, 3) := by decide +kernel
theorem d_X10_wreck_20 : decode c_X10_wreck 20 = .ok (.iload_n 1, 1) := by decide +kernel
theorem d_X10_wreck_21 : decode c_X10_wreck 21 = .ok (.aaload, 1) := by decide +kernel
theorem d_X10_wreck_22 : decode c_X10_wreck 22 = .ok (.astore_n 3, 1) := by decide +kernel
theorem d_X10_wreck_23 : decode c_X10_wreck 23 = .ok (.iload_n 2, 1) := by decide +kernel
theorem d_X10_wreck_24 : decode c_X10_wreck 24 = .ok (.iconst 0, 1) := by decide +kernel
theorem d_X10_wreck_25 : decode c_X10_wreck 25 = .ok (.aload_n 3, 1) := by decide +kernel
theorem d_X10_wreck_26 : decode c_X10_wreck 26 = .ok (.getfield 101, 3) := by decide +kernel
theorem d_X10_wreck_29 : decode c_X10_wreck 29 = .ok (.invokestatic 74, 3) := by decide +kernel
theorem d_X10_wreck_32 : decode c_X10_wreck 32 = .ok (.ifCond .ne 6, 3) := by decide +kernel
theorem d_X10_wreck_35 : decode c_X10_wreck 35 = .ok (.bipush (-2), 2) := by decide +kernel
theorem d_X10_wreck_37 : decode c_X10_wreck 37 = .ok (.ireturn, 1) := by decide +kernel
theorem d_X10_wreck_38 : decode c_X10_wreck 38 = .ok (.aload_n 3, 1) := by decide +kernel
theorem d_X10_wreck_39 : decode c_X10_wreck 39 = .ok (.getfield 104, 3) := by decide +kernel
theorem d_X10_wreck_42 : decode c_X10_wreck 42 = .ok (.iconst 0, 1) := by decide +kernel
theorem d_X10_wreck_43 : decode c_X10_wreck 43 = .ok (.iconst 2, 1) := by decide +kernel
theorem d_X10_wreck_44 : decode c_X10_wreck 44 = .ok (.invokestatic 74, 3) := by decide +kernel
theorem d_X10_wreck_47 : decode c_X10_wreck 47 = .ok (.ifCond .ne 6, 3) := by decide +kernel
theorem d_X10_wreck_50 : decode c_X10_wreck 50 = .ok (.bipush (-3), 2) := by decide +kernel
theorem d_X10_wreck_52 : decode c_X10_wreck 52 = .ok (.ireturn, 1) := by decide +kernel
theorem d_X10_wreck_53 : decode c_X10_wreck 53 = .ok (.aload_n 3, 1) := by decide +kernel
theorem d_X10_wreck_54 : decode c_X10_wreck 54 = .ok (.iload_n 2, 1) := by decide +kernel
theorem d_X10_wreck_55 : decode c_X10_wreck 55 = .ok (.invokevirtual 107, 3) := by decide +kernel
theorem d_X10_wreck_58 : decode c_X10_wreck 58 = .ok (.ireturn, 1) := by decide +kernel
def kp_X10_wreck_0 (si : Int32) (sv : Int32) (a j : Nat) : Prop := a < 100 ∨ 120 ≤ a ∨ j ≤ 4
def f_X10_wreck_0 (v : tV) (si : Int32) (sv : Int32) : Int32 × tV := (if 0 ≤ si.toInt ∧ si.toInt ≤ (v 1 3).toInt - 1 then bnd (100 + si.toNatClampNeg) fun kc7 => bnd (v kc7 6) fun x8 => (if (0 : Int32).toInt ≤ sv.toInt ∧ sv.toInt ≤ x8.toInt then bnd (v kc7 7) fun x15 => (if (0 : Int32).toInt ≤ x15.toInt ∧ x15.toInt ≤ (2 : Int32).toInt then bnd2 (f_X7_founder v kc7 sv) fun x23 v24 => (x23, v24) else ((-3 : Int32), v)) else ((-2 : Int32), v)) else ((-1 : Int32), v))
set_option maxHeartbeats 4000000 in
set_option maxRecDepth 100000 in
theorem ct_X10_wreck_0 (l : Launch) (D : va_G) (dA : Nat → ClassId) (ad : Nat → Nat) (v : tV) (hI : Inv v) (si : Int32) (sv : Int32) : Met l m_X10_wreck [.code m_X10_wreck c_X10_wreck 4 (some .int)] ({ frames := 3, cells := 0, slots := 0, locals := 83 } : Room) (tP D dA ad v [.ref (ad 0), .int si, .int sv]) (tQi D dA ad (fun r v' => (Inv v' ∧ Kp (kp_X10_wreck_0 si sv) v v') ∧ (r, v') = f_X10_wreck_0 v si sv)) 0 0 (tA ad) := by
  refine tMet (by decide) (Nat.le_of_ble_eq_true rfl) ?_
  intro p e s m below meth c ls X hr hlocks hw hl
  have X : CX p s m ([.ref (ad 0), .int si, .int sv] : List Value).toArray c c_X10_wreck N_X10 4 D dA := X
  have hx := X.1
  have hb := X.2.1
  have hS : va_S (tA ad) s.heap s.heap [] := va_S.rf
  have hl : lv_has ls 4 [(0, .ref (ad 0)), (1, .int si), (2, .int sv)] := hl
  obtain ⟨RR, eRR⟩ : ∃ z, f_X10_wreck_0 v si sv = z := ⟨_, rfl⟩
  have hK0 : Kp (kp_X10_wreck_0 si sv) v v := Kp.rf _ v
  have hG := eRR
  unfold f_X10_wreck_0 at hG
  refine lv_aload_n hx hb d_X10_wreck_0 rfl (lv_at hl 0 rfl) ?_
  refine r_getr (r := 1) X hw FL_X10_10 (rfl : KD 0 = _) rfl d_X10_wreck_1 ?_
  refine lv_iload_n hx hb d_X10_wreck_4 rfl (lv_at hl 1 rfl) ?_
  refine r_ci (r_runV (n := 1) (As := [.int si]) (rest := []) X hw (ct_X6_hasShip_1 l D dA ad v hI si) gc_X10_95 (rfl : KD 1 = _) (by decide) rfl (by decide +kernel) ⟨rfl, rfl, Nat.le_of_ble_eq_true rfl, Nat.le_of_ble_eq_true rfl⟩ rfl hl.1 rfl (Nat.le_of_ble_eq_true rfl) ⟨Nat.zero_le _, Nat.zero_le _⟩ d_X10_wreck_5) hS (fun x2 v3 H locs hp1 hw hS => ?_)
  obtain ⟨ev3, hp1⟩ := hp1
  rw [ev3] at hw
  rcases hp1 with ⟨rfl, w4a, w4b⟩ | ⟨rfl, w4n⟩
  · skip
    have hG := g_pos ⟨w4a, w4b⟩ hG
    have r5 : Rg si 0 19 := by have q := hI 1 3 0 20 rfl; obtain ⟨_, _⟩ := q; obtain ⟨_, _⟩ := (rg_any si); exact ⟨by omega, by omega⟩
    refine lv_if_ne (tgt := 13) hx hb d_X10_wreck_8 (by decide) (fun c6 => ?_) (fun c6 => ?_)
    · refine lv_aload_n hx hb d_X10_wreck_13 rfl (lv_at hl 0 rfl) ?_
      refine r_getr (r := 1) X hw FL_X10_10 (rfl : KD 0 = _) rfl d_X10_wreck_14 ?_
      refine r_getr (r := 10) X hw FL_X10_85 (rfl : KD 1 = _) rfl d_X10_wreck_17 ?_
      refine lv_iload_n hx hb d_X10_wreck_20 rfl (lv_at hl 1 rfl) ?_
      refine r_aald X hw (rfl : KD 10 = _) (Or.inl rfl) (Rg.vp (b := 19) r5 (by decide)) rfl d_X10_wreck_21 ?_
      refine r_nm (fun kc7 ekc7 => ?_)
      have hG := bnd_use ekc7 hG
      have kc7a : 100 ≤ kc7 := by omega
      have kc7b : kc7 ≤ 119 := by have := Rg.nat r5; omega
      refine lv_astore_n (lv' := [(3, .ref (ad kc7)), (0, .ref (ad 0)), (1, .int si), (2, .int sv)]) hx hb d_X10_wreck_22 rfl hl (by decide) rfl (fun ls hl => ?_)
      refine lv_iload_n hx hb d_X10_wreck_23 rfl (lv_at hl 3 rfl) ?_
      refine lv_iconst (v := 0) hx hb d_X10_wreck_24 (by decide) ?_
      refine lv_aload_n hx hb d_X10_wreck_25 rfl (lv_at hl 0 rfl) ?_
      refine r_geti X hw FL_X10_101 (KD_ship (by omega) (by omega)) (SH_ship (by omega) (by omega)) d_X10_wreck_26 ?_
      refine lv_topi (fun x8 ex8 => ?_)
      have hG := bnd_use ex8 hG
      refine r_ci (r_runS (n := 3) (As := [.int sv, .int 0, .int x8]) (rest := []) X hw (ct_X10_within l D dA ad v hI sv 0 x8) gc_X10_74 (by decide +kernel) ⟨rfl, rfl, Nat.le_of_ble_eq_true rfl, Nat.le_of_ble_eq_true rfl⟩ rfl hl.1 rfl (Nat.le_of_ble_eq_true rfl) ⟨Nat.zero_le _, Nat.zero_le _⟩ d_X10_wreck_29) hS (fun x10 v11 H locs hp9 hw hS => ?_)
      obtain ⟨ev11, hp9⟩ := hp9
      rw [ev11] at hw
      rcases hp9 with ⟨rfl, w12a, w12b⟩ | ⟨rfl, w12n⟩
      · skip
        have hG := g_pos ⟨w12a, w12b⟩ hG
        have r13 : Rg sv 0 2147483647 := by obtain ⟨_, _⟩ := (rg_any sv); have : (0 : Int32).toInt = 0 := rfl; exact ⟨by omega, by omega⟩
        refine lv_if_ne (tgt := 38) hx hb d_X10_wreck_32 (by decide) (fun c14 => ?_) (fun c14 => ?_)
        · refine lv_aload_n hx hb d_X10_wreck_38 rfl (lv_at hl 0 rfl) ?_
          refine r_geti X hw FL_X10_104 (KD_ship (by omega) (by omega)) (SH_ship (by omega) (by omega)) d_X10_wreck_39 ?_
          refine lv_topi (fun x15 ex15 => ?_)
          have hG := bnd_use ex15 hG
          refine lv_iconst (v := 0) hx hb d_X10_wreck_42 (by decide) ?_
          refine lv_iconst (v := 2) hx hb d_X10_wreck_43 (by decide) ?_
          refine r_ci (r_runS (n := 3) (As := [.int x15, .int 0, .int 2]) (rest := []) X hw (ct_X10_within l D dA ad v hI x15 0 2) gc_X10_74 (by decide +kernel) ⟨rfl, rfl, Nat.le_of_ble_eq_true rfl, Nat.le_of_ble_eq_true rfl⟩ rfl hl.1 rfl (Nat.le_of_ble_eq_true rfl) ⟨Nat.zero_le _, Nat.zero_le _⟩ d_X10_wreck_44) hS (fun x17 v18 H locs hp16 hw hS => ?_)
          obtain ⟨ev18, hp16⟩ := hp16
          rw [ev18] at hw
          rcases hp16 with ⟨rfl, w19a, w19b⟩ | ⟨rfl, w19n⟩
          · skip
            have hG := g_pos ⟨w19a, w19b⟩ hG
            have r20 : Rg x15 0 2 := by obtain ⟨_, _⟩ := (rg_any x15); have : (0 : Int32).toInt = 0 := rfl; have : (2 : Int32).toInt = 2 := rfl; exact ⟨by omega, by omega⟩
            refine lv_if_ne (tgt := 53) hx hb d_X10_wreck_47 (by decide) (fun c21 => ?_) (fun c21 => ?_)
            · refine lv_aload_n hx hb d_X10_wreck_53 rfl (lv_at hl 0 rfl) ?_
              refine lv_iload_n hx hb d_X10_wreck_54 rfl (lv_at hl 3 rfl) ?_
              refine r_ci (r_runV (n := 1) (As := [.int sv]) (rest := []) X hw (ct_X7_founder l D dA ad v hI kc7 sv (by omega) (by omega)) gc_X10_107 (KD_ship (by omega) (by omega)) (by decide) rfl (by decide +kernel) ⟨rfl, rfl, Nat.le_of_ble_eq_true rfl, Nat.le_of_ble_eq_true rfl⟩ rfl hl.1 rfl (Nat.le_of_ble_eq_true rfl) ⟨Nat.zero_le _, Nat.zero_le _⟩ d_X10_wreck_55) hS (fun x23 v24 H locs hp22 hw hS => ?_)
              obtain ⟨hp22, hE25⟩ := hp22
              obtain ⟨hI26, hK27⟩ := hp22
              have hK28 : Kp (kp_X10_wreck_0 si sv) v v24 := Kp.tr hK0 hK27 (by have z0 : (0 : Int32).toInt = 0 := rfl; intro a j; unfold kp_X10_wreck_0 kp_X7_founder; omega)
              have hG := bnd2_use hE25 hG
              exact r_iret X hr hlocks hw hS ⟨⟨hI26, hK28⟩, hG.trans eRR.symm⟩ d_X10_wreck_58
            · exact absurd c21 (by decide)
          · skip
            have hG := g_neg w19n hG
            refine lv_if_ne (tgt := 53) hx hb d_X10_wreck_47 (by decide) (fun c29 => ?_) (fun c29 => ?_)
            · exact absurd c29 (by decide)
            · refine lv_bipush (v := -3) hx hb d_X10_wreck_50 (by decide) ?_
              exact r_iret X hr hlocks hw hS ⟨⟨hI, hK0⟩, hG.trans eRR.symm⟩ d_X10_wreck_52
        · exact absurd c14 (by decide)
      · skip
        have hG := g_neg w12n hG
        refine lv_if_ne (tgt := 38) hx hb d_X10_wreck_32 (by decide) (fun c30 => ?_) (fun c30 => ?_)
        · exact absurd c30 (by decide)
        · refine lv_bipush (v := -2) hx hb d_X10_wreck_35 (by decide) ?_
          exact r_iret X hr hlocks hw hS ⟨⟨hI, hK0⟩, hG.trans eRR.symm⟩ d_X10_wreck_37
    · exact absurd c6 (by decide)
  · skip
    have hG := g_neg w4n hG
    refine lv_if_ne (tgt := 13) hx hb d_X10_wreck_8 (by decide) (fun c31 => ?_) (fun c31 => ?_)
    · exact absurd c31 (by decide)
    · refine lv_iconst (v := -1) hx hb d_X10_wreck_11 (by decide) ?_
      exact r_iret X hr hlocks hw hS ⟨⟨hI, hK0⟩, hG.trans eRR.symm⟩ d_X10_wreck_12
theorem d_X10_goOn_0 : decode c_X10_goOn 0 = .ok (.aload_n 0, 1) := by decide +kernel
theorem d_X10_goOn_1 : decode c_X10_goOn 1 = .ok (.getfield 10, 3) := by decide +kernel
theorem d_X10_goOn_4 : decode c_X10_goOn 4 = .ok (.iload_n 1, 1) := by decide +kernel
theorem d_X10_goOn_5 : decode c_X10_goOn 5 = .ok (.invokevirtual 95, 3) := by decide +kernel
theorem d_X10_goOn_8 : decode c_X10_goOn 8 = .ok (.ifCond .ne 5, 3) := by decide +kernel
theorem d_X10_goOn_11 : decode c_X10_goOn 11 = .ok (.iconst (-1), 1) := by decide +kernel
theorem d_X10_goOn_12 : decode c_X10_goOn 12 = .ok (.ireturn, 1) := by decide +kernel
theorem d_X10_goOn_13 : decode c_X10_goOn 13 = .ok (.aload_n 0, 1) := by decide +kernel
theorem d_X10_goOn_14 : decode c_X10_goOn 14 = .ok (.getfield 10, 3) := by decide +kernel
theorem d_X10_goOn_17 : decode c_X10_goOn 17 = .ok (.getfield 85, 3) := by decide +kernel
theorem d_X10_goOn_20 : decode c_X10_goOn 20 = .ok (.iload_n 1, 1) := by decide +kernel
theorem d_X10_goOn_21 : decode c_X10_goOn 21 = .ok (.aaload, 1) := by decide +kernel
theorem d_X10_goOn_22 : decode c_X10_goOn 22 = .ok (.astore_n 2, 1) := by decide +kernel
theorem d_X10_goOn_23 : decode c_X10_goOn 23 = .ok (.aload_n 2, 1) := by decide +kernel
theorem d_X10_goOn_24 : decode c_X10_goOn 24 = .ok (.getfield 111, 3) := by decide +kernel
theorem d_X10_goOn_27 : decode c_X10_goOn 27 = .ok (.iconst 3, 1) := by decide +kernel
theorem d_X10_goOn_28 : decode c_X10_goOn 28 = .ok (.if_icmp .ne 11, 3) := by decide +kernel
theorem d_X10_goOn_31 : decode c_X10_goOn 31 = .ok (.aload_n 2, 1) := by decide +kernel
theorem d_X10_goOn_32 : decode c_X10_goOn 32 = .ok (.getfield 104, 3) := by decide +kernel
theorem d_X10_goOn_35 : decode c_X10_goOn 35 = .ok (.iconst 1, 1) := by decide +kernel
theorem d_X10_goOn_36 : decode c_X10_goOn 36 = .ok (.if_icmp .eq 6, 3) := by decide +kernel
theorem d_X10_goOn_39 : decode c_X10_goOn 39 = .ok (.bipush (-3), 2) := by decide +kernel
theorem d_X10_goOn_41 : decode c_X10_goOn 41 = .ok (.ireturn, 1) := by decide +kernel
theorem d_X10_goOn_42 : decode c_X10_goOn 42 = .ok (.aload_n 2, 1) := by decide +kernel
theorem d_X10_goOn_43 : decode c_X10_goOn 43 = .ok (.invokevirtual 114, 3) := by decide +kernel
theorem d_X10_goOn_46 : decode c_X10_goOn 46 = .ok (.ireturn, 1) := by decide +kernel
def kp_X10_goOn_0 (si : Int32) (a j : Nat) : Prop := a < 100 ∨ 120 ≤ a ∨ j ≤ 4
def f_X10_goOn_0 (v : tV) (si : Int32) : Int32 × tV := (if 0 ≤ si.toInt ∧ si.toInt ≤ (v 1 3).toInt - 1 then bnd (100 + si.toNatClampNeg) fun kc7 => bnd (v kc7 0) fun x8 => (if x8 = (3 : Int32) then bnd (v kc7 7) fun x13 => (if x13 = (1 : Int32) then bnd2 (f_X7_leave v kc7) fun x18 v19 => (x18, v19) else ((-3 : Int32), v)) else ((-3 : Int32), v)) else ((-1 : Int32), v))
set_option maxHeartbeats 4000000 in
set_option maxRecDepth 100000 in
theorem ct_X10_goOn_0 (l : Launch) (D : va_G) (dA : Nat → ClassId) (ad : Nat → Nat) (v : tV) (hI : Inv v) (si : Int32) : Met l m_X10_goOn [.code m_X10_goOn c_X10_goOn 3 (some .int)] ({ frames := 3, cells := 0, slots := 0, locals := 83 } : Room) (tP D dA ad v [.ref (ad 0), .int si]) (tQi D dA ad (fun r v' => (Inv v' ∧ Kp (kp_X10_goOn_0 si) v v') ∧ (r, v') = f_X10_goOn_0 v si)) 0 0 (tA ad) := by
  refine tMet (by decide) (Nat.le_of_ble_eq_true rfl) ?_
  intro p e s m below meth c ls X hr hlocks hw hl
  have X : CX p s m ([.ref (ad 0), .int si] : List Value).toArray c c_X10_goOn N_X10 3 D dA := X
  have hx := X.1
  have hb := X.2.1
  have hS : va_S (tA ad) s.heap s.heap [] := va_S.rf
  have hl : lv_has ls 3 [(0, .ref (ad 0)), (1, .int si)] := hl
  obtain ⟨RR, eRR⟩ : ∃ z, f_X10_goOn_0 v si = z := ⟨_, rfl⟩
  have hK0 : Kp (kp_X10_goOn_0 si) v v := Kp.rf _ v
  have hG := eRR
  unfold f_X10_goOn_0 at hG
  refine lv_aload_n hx hb d_X10_goOn_0 rfl (lv_at hl 0 rfl) ?_
  refine r_getr (r := 1) X hw FL_X10_10 (rfl : KD 0 = _) rfl d_X10_goOn_1 ?_
  refine lv_iload_n hx hb d_X10_goOn_4 rfl (lv_at hl 1 rfl) ?_
  refine r_ci (r_runV (n := 1) (As := [.int si]) (rest := []) X hw (ct_X6_hasShip_1 l D dA ad v hI si) gc_X10_95 (rfl : KD 1 = _) (by decide) rfl (by decide +kernel) ⟨rfl, rfl, Nat.le_of_ble_eq_true rfl, Nat.le_of_ble_eq_true rfl⟩ rfl hl.1 rfl (Nat.le_of_ble_eq_true rfl) ⟨Nat.zero_le _, Nat.zero_le _⟩ d_X10_goOn_5) hS (fun x2 v3 H locs hp1 hw hS => ?_)
  obtain ⟨ev3, hp1⟩ := hp1
  rw [ev3] at hw
  rcases hp1 with ⟨rfl, w4a, w4b⟩ | ⟨rfl, w4n⟩
  · skip
    have hG := g_pos ⟨w4a, w4b⟩ hG
    have r5 : Rg si 0 19 := by have q := hI 1 3 0 20 rfl; obtain ⟨_, _⟩ := q; obtain ⟨_, _⟩ := (rg_any si); exact ⟨by omega, by omega⟩
    refine lv_if_ne (tgt := 13) hx hb d_X10_goOn_8 (by decide) (fun c6 => ?_) (fun c6 => ?_)
    · refine lv_aload_n hx hb d_X10_goOn_13 rfl (lv_at hl 0 rfl) ?_
      refine r_getr (r := 1) X hw FL_X10_10 (rfl : KD 0 = _) rfl d_X10_goOn_14 ?_
      refine r_getr (r := 10) X hw FL_X10_85 (rfl : KD 1 = _) rfl d_X10_goOn_17 ?_
      refine lv_iload_n hx hb d_X10_goOn_20 rfl (lv_at hl 1 rfl) ?_
      refine r_aald X hw (rfl : KD 10 = _) (Or.inl rfl) (Rg.vp (b := 19) r5 (by decide)) rfl d_X10_goOn_21 ?_
      refine r_nm (fun kc7 ekc7 => ?_)
      have hG := bnd_use ekc7 hG
      have kc7a : 100 ≤ kc7 := by omega
      have kc7b : kc7 ≤ 119 := by have := Rg.nat r5; omega
      refine lv_astore_n (lv' := [(2, .ref (ad kc7)), (0, .ref (ad 0)), (1, .int si)]) hx hb d_X10_goOn_22 rfl hl (by decide) rfl (fun ls hl => ?_)
      refine lv_aload_n hx hb d_X10_goOn_23 rfl (lv_at hl 0 rfl) ?_
      refine r_geti X hw FL_X10_111 (KD_ship (by omega) (by omega)) (SH_ship (by omega) (by omega)) d_X10_goOn_24 ?_
      refine lv_topi (fun x8 ex8 => ?_)
      have hG := bnd_use ex8 hG
      refine lv_iconst (v := 3) hx hb d_X10_goOn_27 (by decide) ?_
      refine lv_icmp_ne (tgt := 39) hx hb d_X10_goOn_28 (by decide) (fun c9 => ?_) (fun c9 => ?_)
      · have f10 := i_ne c9
        have hG := g_neg c9 hG
        refine lv_bipush (v := -3) hx hb d_X10_goOn_39 (by decide) ?_
        exact r_iret X hr hlocks hw hS ⟨⟨hI, hK0⟩, hG.trans eRR.symm⟩ d_X10_goOn_41
      · have f11 := i_eq c9
        have r12 : Rg x8 3 3 := by obtain ⟨a1, a2⟩ := (rg_any x8); obtain ⟨b1, b2⟩ := (⟨by decide, by decide⟩ : Rg 3 3 3); have f := i_eq c9; exact ⟨by omega, by omega⟩
        have hG := g_pos c9 hG
        refine lv_aload_n hx hb d_X10_goOn_31 rfl (lv_at hl 0 rfl) ?_
        refine r_geti X hw FL_X10_104 (KD_ship (by omega) (by omega)) (SH_ship (by omega) (by omega)) d_X10_goOn_32 ?_
        refine lv_topi (fun x13 ex13 => ?_)
        have hG := bnd_use ex13 hG
        refine lv_iconst (v := 1) hx hb d_X10_goOn_35 (by decide) ?_
        refine lv_icmp_eq (tgt := 42) hx hb d_X10_goOn_36 (by decide) (fun c14 => ?_) (fun c14 => ?_)
        · have f15 := i_eq c14
          have r16 : Rg x13 1 1 := by obtain ⟨a1, a2⟩ := (rg_any x13); obtain ⟨b1, b2⟩ := (⟨by decide, by decide⟩ : Rg 1 1 1); have f := i_eq c14; exact ⟨by omega, by omega⟩
          have hG := g_pos c14 hG
          refine lv_aload_n hx hb d_X10_goOn_42 rfl (lv_at hl 0 rfl) ?_
          refine r_ci (r_runV (n := 0) (As := []) (rest := []) X hw (ct_X7_leave l D dA ad v hI kc7 (by omega) (by omega)) gc_X10_114 (KD_ship (by omega) (by omega)) (by decide) rfl (by decide +kernel) ⟨rfl, rfl, Nat.le_of_ble_eq_true rfl, Nat.le_of_ble_eq_true rfl⟩ rfl hl.1 rfl (Nat.le_of_ble_eq_true rfl) ⟨Nat.zero_le _, Nat.zero_le _⟩ d_X10_goOn_43) hS (fun x18 v19 H locs hp17 hw hS => ?_)
          obtain ⟨hp17, hE20⟩ := hp17
          obtain ⟨hI21, hK22⟩ := hp17
          have hK23 : Kp (kp_X10_goOn_0 si) v v19 := Kp.tr hK0 hK22 (by have z0 : (0 : Int32).toInt = 0 := rfl; intro a j; unfold kp_X10_goOn_0 kp_X7_leave; omega)
          have hG := bnd2_use hE20 hG
          exact r_iret X hr hlocks hw hS ⟨⟨hI21, hK23⟩, hG.trans eRR.symm⟩ d_X10_goOn_46
        · have f24 := i_ne c14
          have hG := g_neg c14 hG
          refine lv_bipush (v := -3) hx hb d_X10_goOn_39 (by decide) ?_
          exact r_iret X hr hlocks hw hS ⟨⟨hI, hK0⟩, hG.trans eRR.symm⟩ d_X10_goOn_41
    · exact absurd c6 (by decide)
  · skip
    have hG := g_neg w4n hG
    refine lv_if_ne (tgt := 13) hx hb d_X10_goOn_8 (by decide) (fun c25 => ?_) (fun c25 => ?_)
    · exact absurd c25 (by decide)
    · refine lv_iconst (v := -1) hx hb d_X10_goOn_11 (by decide) ?_
      exact r_iret X hr hlocks hw hS ⟨⟨hI, hK0⟩, hG.trans eRR.symm⟩ d_X10_goOn_12
theorem d_X10_buyer_0 : decode c_X10_buyer 0 = .ok (.iload_n 1, 1) := by decide +kernel
theorem d_X10_buyer_1 : decode c_X10_buyer 1 = .ok (.invokestatic 118, 3) := by decide +kernel
theorem d_X10_buyer_4 : decode c_X10_buyer 4 = .ok (.ifCond .ne 5, 3) := by decide +kernel
theorem d_X10_buyer_7 : decode c_X10_buyer 7 = .ok (.iconst (-1), 1) := by decide +kernel
theorem d_X10_buyer_8 : decode c_X10_buyer 8 = .ok (.ireturn, 1) := by decide +kernel
theorem d_X10_buyer_9 : decode c_X10_buyer 9 = .ok (.iload_n 2, 1) := by decide +kernel
theorem d_X10_buyer_10 : decode c_X10_buyer 10 = .ok (.iconst 0, 1) := by decide +kernel
theorem d_X10_buyer_11 : decode c_X10_buyer 11 = .ok (.iconst 3, 1) := by decide +kernel
theorem d_X10_buyer_12 : decode c_X10_buyer 12 = .ok (.invokestatic 74, 3) := by decide +kernel
theorem d_X10_buyer_15 : decode c_X10_buyer 15 = .ok (.ifCond .eq 18, 3) := by decide +kernel
theorem d_X10_buyer_18 : decode c_X10_buyer 18 = .ok (.iload_n 3, 1) := by decide +kernel
theorem d_X10_buyer_19 : decode c_X10_buyer 19 = .ok (.invokestatic 121, 3) := by decide +kernel
theorem d_X10_buyer_22 : decode c_X10_buyer 22 = .ok (.ifCond .eq 11, 3) := by decide +kernel
theorem d_X10_buyer_25 : decode c_X10_buyer 25 = .ok (.iload 4, 2) := by decide +kernel
theorem d_X10_buyer_27 : decode c_X10_buyer 27 = .ok (.invokestatic 124, 3) := by decide +kernel
theorem d_X10_buyer_30 : decode c_X10_buyer 30 = .ok (.ifCond .ne 6, 3) := by decide +kernel
theorem d_X10_buyer_33 : decode c_X10_buyer 33 = .ok (.bipush (-2), 2) := by decide +kernel
theorem d_X10_buyer_35 : decode c_X10_buyer 35 = .ok (.ireturn, 1) := by decide +kernel
theorem d_X10_buyer_36 : decode c_X10_buyer 36 = .ok (.aload_n 0, 1) := by decide +kernel
theorem d_X10_buyer_37 : decode c_X10_buyer 37 = .ok (.getfield 10, 3) := by decide +kernel
theorem d_X10_buyer_40 : decode c_X10_buyer 40 = .ok (.getfield 127, 3) := by decide +kernel
theorem d_X10_buyer_43 : decode c_X10_buyer 43 = .ok (.bipush 10, 2) := by decide +kernel
theorem d_X10_buyer_45 : decode c_X10_buyer 45 = .ok (.if_icmp .lt 6, 3) := by decide +kernel
theorem d_X10_buyer_48 : decode c_X10_buyer 48 = .ok (.bipush (-4), 2) := by decide +kernel
theorem d_X10_buyer_50 : decode c_X10_buyer 50 = .ok (.ireturn, 1) := by decide +kernel
theorem d_X10_buyer_51 : decode c_X10_buyer 51 = .ok (.aload_n 0, 1) := by decide +kernel
theorem d_X10_buyer_52 : decode c_X10_buyer 52 = .ok (.getfield 10, 3) := by decide +kernel
theorem d_X10_buyer_55 : decode c_X10_buyer 55 = .ok (.getfield 130, 3) := by decide +kernel
theorem d_X10_buyer_58 : decode c_X10_buyer 58 = .ok (.aload_n 0, 1) := by decide +kernel
theorem d_X10_buyer_59 : decode c_X10_buyer 59 = .ok (.getfield 10, 3) := by decide +kernel
theorem d_X10_buyer_62 : decode c_X10_buyer 62 = .ok (.getfield 127, 3) := by decide +kernel
theorem d_X10_buyer_65 : decode c_X10_buyer 65 = .ok (.aaload, 1) := by decide +kernel
theorem d_X10_buyer_66 : decode c_X10_buyer 66 = .ok (.iload_n 1, 1) := by decide +kernel
theorem d_X10_buyer_67 : decode c_X10_buyer 67 = .ok (.iload_n 2, 1) := by decide +kernel
theorem d_X10_buyer_68 : decode c_X10_buyer 68 = .ok (.iload_n 3, 1) := by decide +kernel
theorem d_X10_buyer_69 : decode c_X10_buyer 69 = .ok (.iload 4, 2) := by decide +kernel
theorem d_X10_buyer_71 : decode c_X10_buyer 71 = .ok (.invokevirtual 134, 3) := by decide +kernel
theorem d_X10_buyer_74 : decode c_X10_buyer 74 = .ok (.aload_n 0, 1) := by decide +kernel
theorem d_X10_buyer_75 : decode c_X10_buyer 75 = .ok (.getfield 10, 3) := by decide +kernel
theorem d_X10_buyer_78 : decode c_X10_buyer 78 = .ok (.dup, 1) := by decide +kernel
theorem d_X10_buyer_79 : decode c_X10_buyer 79 = .ok (.getfield 127, 3) := by decide +kernel
theorem d_X10_buyer_82 : decode c_X10_buyer 82 = .ok (.dup_x1, 1) := by decide +kernel
theorem d_X10_buyer_83 : decode c_X10_buyer 83 = .ok (.iconst 1, 1) := by decide +kernel
theorem d_X10_buyer_84 : decode c_X10_buyer 84 = .ok (.iadd, 1) := by decide +kernel
theorem d_X10_buyer_85 : decode c_X10_buyer 85 = .ok (.putfield 127, 3) := by decide +kernel
theorem d_X10_buyer_88 : decode c_X10_buyer 88 = .ok (.ireturn, 1) := by decide +kernel
def kp_X10_buyer_0 (wd : Int32) (so : Int32) (wt : Int32) (bd : Int32) (a j : Nat) : Prop := (a ≠ 1 ∨ j ≠ 4) ∧ (a < 200 ∨ 210 ≤ a)
def f_X10_buyer_0 (v : tV) (wd : Int32) (so : Int32) (wt : Int32) (bd : Int32) : Int32 × tV := (if 0 ≤ wd.toInt ∧ wd.toInt ≤ 5 then (if (0 : Int32).toInt ≤ so.toInt ∧ so.toInt ≤ (3 : Int32).toInt then (if 0 ≤ wt.toInt ∧ wt.toInt ≤ 2000 then (if 1 ≤ bd.toInt ∧ bd.toInt ≤ 120 then bnd (v 1 4) fun x25 => (if x25 < (10 : Int32) then bnd (200 + x25.toNatClampNeg) fun kc31 => bnd (f_X0_begin v kc31 wd so wt bd) fun v33 => bnd (x25 + (1 : Int32)) fun x39 => bnd (up2 v33 1 4 x39) fun v42 => (x25, v42) else ((-4 : Int32), v)) else ((-2 : Int32), v)) else ((-2 : Int32), v)) else ((-2 : Int32), v)) else ((-1 : Int32), v))
set_option maxHeartbeats 4000000 in
set_option maxRecDepth 100000 in
theorem ct_X10_buyer_0 (l : Launch) (D : va_G) (dA : Nat → ClassId) (ad : Nat → Nat) (v : tV) (hI : Inv v) (wd : Int32) (so : Int32) (wt : Int32) (bd : Int32) : Met l m_X10_buyer [.code m_X10_buyer c_X10_buyer 5 (some .int)] ({ frames := 3, cells := 0, slots := 0, locals := 82 } : Room) (tP D dA ad v [.ref (ad 0), .int wd, .int so, .int wt, .int bd]) (tQi D dA ad (fun r v' => (Inv v' ∧ Kp (kp_X10_buyer_0 wd so wt bd) v v') ∧ (r, v') = f_X10_buyer_0 v wd so wt bd)) 0 0 (tA ad) := by
  refine tMet (by decide) (Nat.le_of_ble_eq_true rfl) ?_
  intro p e s m below meth c ls X hr hlocks hw hl
  have X : CX p s m ([.ref (ad 0), .int wd, .int so, .int wt, .int bd] : List Value).toArray c c_X10_buyer N_X10 5 D dA := X
  have hx := X.1
  have hb := X.2.1
  have hS : va_S (tA ad) s.heap s.heap [] := va_S.rf
  have hl : lv_has ls 5 [(0, .ref (ad 0)), (1, .int wd), (2, .int so), (3, .int wt), (4, .int bd)] := hl
  obtain ⟨RR, eRR⟩ : ∃ z, f_X10_buyer_0 v wd so wt bd = z := ⟨_, rfl⟩
  have hK0 : Kp (kp_X10_buyer_0 wd so wt bd) v v := Kp.rf _ v
  have hG := eRR
  unfold f_X10_buyer_0 at hG
  refine lv_iload_n hx hb d_X10_buyer_0 rfl (lv_at hl 1 rfl) ?_
  refine r_ci (r_runS (n := 1) (As := [.int wd]) (rest := []) X hw (ct_X10_isWard l D dA ad v hI wd) gc_X10_118 (by decide +kernel) ⟨rfl, rfl, Nat.le_of_ble_eq_true rfl, Nat.le_of_ble_eq_true rfl⟩ rfl hl.1 rfl (Nat.le_of_ble_eq_true rfl) ⟨Nat.zero_le _, Nat.zero_le _⟩ d_X10_buyer_1) hS (fun x2 v3 H locs hp1 hw hS => ?_)
  obtain ⟨ev3, hp1⟩ := hp1
  rw [ev3] at hw
  rcases hp1 with ⟨rfl, w4a, w4b⟩ | ⟨rfl, w4n⟩
  · skip
    have hG := g_pos ⟨w4a, w4b⟩ hG
    have r5 : Rg wd 0 5 := by obtain ⟨_, _⟩ := (rg_any wd); exact ⟨by omega, by omega⟩
    refine lv_if_ne (tgt := 9) hx hb d_X10_buyer_4 (by decide) (fun c6 => ?_) (fun c6 => ?_)
    · refine lv_iload_n hx hb d_X10_buyer_9 rfl (lv_at hl 2 rfl) ?_
      refine lv_iconst (v := 0) hx hb d_X10_buyer_10 (by decide) ?_
      refine lv_iconst (v := 3) hx hb d_X10_buyer_11 (by decide) ?_
      refine r_ci (r_runS (n := 3) (As := [.int so, .int 0, .int 3]) (rest := []) X hw (ct_X10_within l D dA ad v hI so 0 3) gc_X10_74 (by decide +kernel) ⟨rfl, rfl, Nat.le_of_ble_eq_true rfl, Nat.le_of_ble_eq_true rfl⟩ rfl hl.1 rfl (Nat.le_of_ble_eq_true rfl) ⟨Nat.zero_le _, Nat.zero_le _⟩ d_X10_buyer_12) hS (fun x8 v9 H locs hp7 hw hS => ?_)
      obtain ⟨ev9, hp7⟩ := hp7
      rw [ev9] at hw
      rcases hp7 with ⟨rfl, w10a, w10b⟩ | ⟨rfl, w10n⟩
      · skip
        have hG := g_pos ⟨w10a, w10b⟩ hG
        have r11 : Rg so 0 3 := by obtain ⟨_, _⟩ := (rg_any so); have : (0 : Int32).toInt = 0 := rfl; have : (3 : Int32).toInt = 3 := rfl; exact ⟨by omega, by omega⟩
        refine lv_if_eq (tgt := 33) hx hb d_X10_buyer_15 (by decide) (fun c12 => ?_) (fun c12 => ?_)
        · exact absurd c12 (by decide)
        · refine lv_iload_n hx hb d_X10_buyer_18 rfl (lv_at hl 3 rfl) ?_
          refine r_ci (r_runS (n := 1) (As := [.int wt]) (rest := []) X hw (ct_X10_isWant l D dA ad v hI wt) gc_X10_121 (by decide +kernel) ⟨rfl, rfl, Nat.le_of_ble_eq_true rfl, Nat.le_of_ble_eq_true rfl⟩ rfl hl.1 rfl (Nat.le_of_ble_eq_true rfl) ⟨Nat.zero_le _, Nat.zero_le _⟩ d_X10_buyer_19) hS (fun x14 v15 H locs hp13 hw hS => ?_)
          obtain ⟨ev15, hp13⟩ := hp13
          rw [ev15] at hw
          rcases hp13 with ⟨rfl, w16a, w16b⟩ | ⟨rfl, w16n⟩
          · skip
            have hG := g_pos ⟨w16a, w16b⟩ hG
            have r17 : Rg wt 0 2000 := by obtain ⟨_, _⟩ := (rg_any wt); exact ⟨by omega, by omega⟩
            refine lv_if_eq (tgt := 33) hx hb d_X10_buyer_22 (by decide) (fun c18 => ?_) (fun c18 => ?_)
            · exact absurd c18 (by decide)
            · refine lv_iload hx hb d_X10_buyer_25 (lv_at hl 4 rfl) ?_
              refine r_ci (r_runS (n := 1) (As := [.int bd]) (rest := []) X hw (ct_X10_isBid l D dA ad v hI bd) gc_X10_124 (by decide +kernel) ⟨rfl, rfl, Nat.le_of_ble_eq_true rfl, Nat.le_of_ble_eq_true rfl⟩ rfl hl.1 rfl (Nat.le_of_ble_eq_true rfl) ⟨Nat.zero_le _, Nat.zero_le _⟩ d_X10_buyer_27) hS (fun x20 v21 H locs hp19 hw hS => ?_)
              obtain ⟨ev21, hp19⟩ := hp19
              rw [ev21] at hw
              rcases hp19 with ⟨rfl, w22a, w22b⟩ | ⟨rfl, w22n⟩
              · skip
                have hG := g_pos ⟨w22a, w22b⟩ hG
                have r23 : Rg bd 1 120 := by obtain ⟨_, _⟩ := (rg_any bd); exact ⟨by omega, by omega⟩
                refine lv_if_ne (tgt := 36) hx hb d_X10_buyer_30 (by decide) (fun c24 => ?_) (fun c24 => ?_)
                · refine lv_aload_n hx hb d_X10_buyer_36 rfl (lv_at hl 0 rfl) ?_
                  refine r_getr (r := 1) X hw FL_X10_10 (rfl : KD 0 = _) rfl d_X10_buyer_37 ?_
                  refine r_geti X hw FL_X10_127 (rfl : KD 1 = _) rfl d_X10_buyer_40 ?_
                  refine lv_topi (fun x25 ex25 => ?_)
                  have hG := bnd_use ex25 hG
                  have r26 : Rg x25 0 10 := by rw [ex25]; exact hI _ _ _ _ rfl
                  have hm27 : v 1 4 = x25 := ex25.symm
                  refine lv_bipush (v := 10) hx hb d_X10_buyer_43 (by decide) ?_
                  refine lv_icmp_lt (tgt := 51) hx hb d_X10_buyer_45 (by decide) (fun c28 => ?_) (fun c28 => ?_)
                  · have f29 := i_lt c28
                    have r30 : Rg x25 0 9 := by obtain ⟨a1, a2⟩ := r26; obtain ⟨b1, b2⟩ := (⟨by decide, by decide⟩ : Rg 10 10 10); have f := i_lt c28; exact ⟨by omega, by omega⟩
                    have hG := g_pos c28 hG
                    refine lv_aload_n hx hb d_X10_buyer_51 rfl (lv_at hl 0 rfl) ?_
                    refine r_getr (r := 1) X hw FL_X10_10 (rfl : KD 0 = _) rfl d_X10_buyer_52 ?_
                    refine r_getr (r := 13) X hw FL_X10_130 (rfl : KD 1 = _) rfl d_X10_buyer_55 ?_
                    refine lv_aload_n hx hb d_X10_buyer_58 rfl (lv_at hl 0 rfl) ?_
                    refine r_getr (r := 1) X hw FL_X10_10 (rfl : KD 0 = _) rfl d_X10_buyer_59 ?_
                    refine r_geti X hw FL_X10_127 (rfl : KD 1 = _) rfl d_X10_buyer_62 ?_
                    rw [hm27]
                    refine r_aald X hw (rfl : KD 13 = _) (Or.inr (Or.inl rfl)) (Rg.vp (b := 9) r30 (by decide)) rfl d_X10_buyer_65 ?_
                    refine r_nm (fun kc31 ekc31 => ?_)
                    have hG := bnd_use ekc31 hG
                    have kc31a : 200 ≤ kc31 := by omega
                    have kc31b : kc31 ≤ 209 := by have := Rg.nat r30; omega
                    refine lv_iload_n hx hb d_X10_buyer_66 rfl (lv_at hl 1 rfl) ?_
                    refine lv_iload_n hx hb d_X10_buyer_67 rfl (lv_at hl 2 rfl) ?_
                    refine lv_iload_n hx hb d_X10_buyer_68 rfl (lv_at hl 3 rfl) ?_
                    refine lv_iload hx hb d_X10_buyer_69 (lv_at hl 4 rfl) ?_
                    refine r_cv (r_runV (n := 4) (As := [.int wd, .int so, .int wt, .int bd]) (rest := []) X hw (ct_X0_begin l D dA ad v hI kc31 wd so wt bd (by omega) (by omega) r5) gc_X10_134 (KD_buyer (by omega) (by omega)) (by decide) rfl (by decide +kernel) ⟨rfl, rfl, Nat.le_of_ble_eq_true rfl, Nat.le_of_ble_eq_true rfl⟩ rfl hl.1 rfl (Nat.le_of_ble_eq_true rfl) ⟨Nat.zero_le _, Nat.zero_le _⟩ d_X10_buyer_71) hS (fun v33 H locs hp32 hw hS => ?_)
                    obtain ⟨hp32, hE34⟩ := hp32
                    obtain ⟨hI35, hK36⟩ := hp32
                    have hm37 : v33 1 4 = x25 := (hK36 1 4 (by unfold kp_X0_begin; omega)).trans hm27
                    have hK38 : Kp (kp_X10_buyer_0 wd so wt bd) v v33 := Kp.tr hK0 hK36 (by have z0 : (0 : Int32).toInt = 0 := rfl; intro a j; unfold kp_X10_buyer_0 kp_X0_begin; omega)
                    have hG := bnd_use hE34 hG
                    refine lv_aload_n hx hb d_X10_buyer_74 rfl (lv_at hl 0 rfl) ?_
                    refine r_getr (r := 1) X hw FL_X10_10 (rfl : KD 0 = _) rfl d_X10_buyer_75 ?_
                    refine lv_dup hx hb d_X10_buyer_78 rfl ?_
                    refine r_geti X hw FL_X10_127 (rfl : KD 1 = _) rfl d_X10_buyer_79 ?_
                    rw [hm37]
                    refine lv_dup_x1 hx hb d_X10_buyer_82 rfl rfl ?_
                    refine lv_iconst (v := 1) hx hb d_X10_buyer_83 (by decide) ?_
                    refine lv_iadd hx hb d_X10_buyer_84 ?_
                    refine lv_topi (fun x39 ex39 => ?_)
                    have hG := bnd_use ex39 hG
                    have r40 : Rg x39 1 10 := rg_add ex39 r30 (⟨by decide, by decide⟩ : Rg 1 1 1) (by decide) (by decide)
                    have s41 : x39.toInt = x25.toInt + (1 : Int32).toInt := by rw [ex39]; exact i_add (by obtain ⟨_, _⟩ := r30; obtain ⟨_, _⟩ := (⟨by decide, by decide⟩ : Rg 1 1 1); omega) (by obtain ⟨_, _⟩ := r30; obtain ⟨_, _⟩ := (⟨by decide, by decide⟩ : Rg 1 1 1); omega)
                    have s41l : (1 : Int32).toInt = 1 := rfl
                    refine r_put X hw hS FP_X10_127 (rfl : KD 1 = _) rfl ⟨rfl, rfl⟩ d_X10_buyer_85 (fun H locs hw hS => ?_)
                    obtain ⟨v42, ev42⟩ : ∃ z, z = up2 v33 1 4 x39 := ⟨_, rfl⟩
                    rw [← ev42] at hw
                    have hG := bnd_use ev42 hG
                    have hI43 : Inv v42 := by rw [ev42]; exact Inv.putr hI35 rfl (rg_w r40 (by decide) (by decide))
                    have hK44 : Kp (kp_X10_buyer_0 wd so wt bd) v v42 := by rw [ev42]; exact Kp.put hK38 _ (by unfold kp_X10_buyer_0; omega)
                    have hm45 : v42 1 4 = x39 := by rw [ev42, up2_s]
                    exact r_iret X hr hlocks hw hS ⟨⟨hI43, hK44⟩, hG.trans eRR.symm⟩ d_X10_buyer_88
                  · have f46 := i_nlt c28
                    have r47 : Rg x25 10 10 := by obtain ⟨a1, a2⟩ := r26; obtain ⟨b1, b2⟩ := (⟨by decide, by decide⟩ : Rg 10 10 10); have f := i_nlt c28; exact ⟨by omega, by omega⟩
                    have hG := g_neg c28 hG
                    refine lv_bipush (v := -4) hx hb d_X10_buyer_48 (by decide) ?_
                    exact r_iret X hr hlocks hw hS ⟨⟨hI, hK0⟩, hG.trans eRR.symm⟩ d_X10_buyer_50
                · exact absurd c24 (by decide)
              · skip
                have hG := g_neg w22n hG
                refine lv_if_ne (tgt := 36) hx hb d_X10_buyer_30 (by decide) (fun c48 => ?_) (fun c48 => ?_)
                · exact absurd c48 (by decide)
                · refine lv_bipush (v := -2) hx hb d_X10_buyer_33 (by decide) ?_
                  exact r_iret X hr hlocks hw hS ⟨⟨hI, hK0⟩, hG.trans eRR.symm⟩ d_X10_buyer_35
          · skip
            have hG := g_neg w16n hG
            refine lv_if_eq (tgt := 33) hx hb d_X10_buyer_22 (by decide) (fun c49 => ?_) (fun c49 => ?_)
            · refine lv_bipush (v := -2) hx hb d_X10_buyer_33 (by decide) ?_
              exact r_iret X hr hlocks hw hS ⟨⟨hI, hK0⟩, hG.trans eRR.symm⟩ d_X10_buyer_35
            · exact absurd c49 (by decide)
      · skip
        have hG := g_neg w10n hG
        refine lv_if_eq (tgt := 33) hx hb d_X10_buyer_15 (by decide) (fun c50 => ?_) (fun c50 => ?_)
        · refine lv_bipush (v := -2) hx hb d_X10_buyer_33 (by decide) ?_
          exact r_iret X hr hlocks hw hS ⟨⟨hI, hK0⟩, hG.trans eRR.symm⟩ d_X10_buyer_35
        · exact absurd c50 (by decide)
    · exact absurd c6 (by decide)
  · skip
    have hG := g_neg w4n hG
    refine lv_if_ne (tgt := 9) hx hb d_X10_buyer_4 (by decide) (fun c51 => ?_) (fun c51 => ?_)
    · exact absurd c51 (by decide)
    · refine lv_iconst (v := -1) hx hb d_X10_buyer_7 (by decide) ?_
      exact r_iret X hr hlocks hw hS ⟨⟨hI, hK0⟩, hG.trans eRR.symm⟩ d_X10_buyer_8
theorem d_X10_want_0 : decode c_X10_want 0 = .ok (.iload_n 1, 1) := by decide +kernel
theorem d_X10_want_1 : decode c_X10_want 1 = .ok (.iconst 0, 1) := by decide +kernel
theorem d_X10_want_2 : decode c_X10_want 2 = .ok (.aload_n 0, 1) := by decide +kernel
theorem d_X10_want_3 : decode c_X10_want 3 = .ok (.getfield 10, 3) := by decide +kernel
theorem d_X10_want_6 : decode c_X10_want 6 = .ok (.getfield 127, 3) := by decide +kernel
theorem d_X10_want_9 : decode c_X10_want 9 = .ok (.iconst 1, 1) := by decide +kernel
theorem d_X10_want_10 : decode c_X10_want 10 = .ok (.isub, 1) := by decide +kernel
theorem d_X10_want_11 : decode c_X10_want 11 = .ok (.invokestatic 74, 3) := by decide +kernel
theorem d_X10_want_14 : decode c_X10_want 14 = .ok (.ifCond .ne 5, 3) := by decide +kernel
theorem d_X10_want_17 : decode c_X10_want 17 = .ok (.iconst (-1), 1) := by decide +kernel
theorem d_X10_want_18 : decode c_X10_want 18 = .ok (.ireturn, 1) := by decide +kernel
theorem d_X10_want_19 : decode c_X10_want 19 = .ok (.iload_n 2, 1) := by decide +kernel
theorem d_X10_want_20 : decode c_X10_want 20 = .ok (.invokestatic 121, 3) := by decide +kernel
theorem d_X10_want_23 : decode c_X10_want 23 = .ok (.ifCond .eq 10, 3) := by decide +kernel
theorem d_X10_want_26 : decode c_X10_want 26 = .ok (.iload_n 3, 1) := by decide +kernel
theorem d_X10_want_27 : decode c_X10_want 27 = .ok (.invokestatic 124, 3) := by decide +kernel
theorem d_X10_want_30 : decode c_X10_want 30 = .ok (.ifCond .ne 6, 3) := by decide +kernel
theorem d_X10_want_33 : decode c_X10_want 33 = .ok (.bipush (-2), 2) := by decide +kernel
theorem d_X10_want_35 : decode c_X10_want 35 = .ok (.ireturn, 1) := by decide +kernel
theorem d_X10_want_36 : decode c_X10_want 36 = .ok (.aload_n 0, 1) := by decide +kernel
theorem d_X10_want_37 : decode c_X10_want 37 = .ok (.getfield 10, 3) := by decide +kernel
theorem d_X10_want_40 : decode c_X10_want 40 = .ok (.getfield 130, 3) := by decide +kernel
theorem d_X10_want_43 : decode c_X10_want 43 = .ok (.iload_n 1, 1) := by decide +kernel
theorem d_X10_want_44 : decode c_X10_want 44 = .ok (.aaload, 1) := by decide +kernel
theorem d_X10_want_45 : decode c_X10_want 45 = .ok (.astore 4, 2) := by decide +kernel
theorem d_X10_want_47 : decode c_X10_want 47 = .ok (.aload 4, 2) := by decide +kernel
theorem d_X10_want_49 : decode c_X10_want 49 = .ok (.getfield 139, 3) := by decide +kernel
theorem d_X10_want_52 : decode c_X10_want 52 = .ok (.istore 5, 2) := by decide +kernel
theorem d_X10_want_54 : decode c_X10_want 54 = .ok (.aload 4, 2) := by decide +kernel
theorem d_X10_want_56 : decode c_X10_want 56 = .ok (.iload_n 2, 1) := by decide +kernel
theorem d_X10_want_57 : decode c_X10_want 57 = .ok (.putfield 139, 3) := by decide +kernel
theorem d_X10_want_60 : decode c_X10_want 60 = .ok (.aload 4, 2) := by decide +kernel
theorem d_X10_want_62 : decode c_X10_want 62 = .ok (.iload_n 3, 1) := by decide +kernel
theorem d_X10_want_63 : decode c_X10_want 63 = .ok (.putfield 142, 3) := by decide +kernel
theorem d_X10_want_66 : decode c_X10_want 66 = .ok (.iload 5, 2) := by decide +kernel
theorem d_X10_want_68 : decode c_X10_want 68 = .ok (.ireturn, 1) := by decide +kernel
def kp_X10_want_0 (bi : Int32) (wt : Int32) (bd : Int32) (a j : Nat) : Prop := a < 200 ∨ 210 ≤ a ∨ j ≤ 1
def f_X10_want_0 (v : tV) (bi : Int32) (wt : Int32) (bd : Int32) : Int32 × tV := bnd (v 1 4) fun x1 => bnd (x1 - (1 : Int32)) fun x4 => (if (0 : Int32).toInt ≤ bi.toInt ∧ bi.toInt ≤ x4.toInt then (if 0 ≤ wt.toInt ∧ wt.toInt ≤ 2000 then (if 1 ≤ bd.toInt ∧ bd.toInt ≤ 120 then bnd (200 + bi.toNatClampNeg) fun kc25 => bnd (v kc25 2) fun x26 => bnd (up2 v kc25 2 wt) fun v27 => bnd (up2 v27 kc25 3 bd) fun v31 => (x26, v31) else ((-2 : Int32), v)) else ((-2 : Int32), v)) else ((-1 : Int32), v))
set_option maxHeartbeats 4000000 in
set_option maxRecDepth 100000 in
theorem ct_X10_want_0 (l : Launch) (D : va_G) (dA : Nat → ClassId) (ad : Nat → Nat) (v : tV) (hI : Inv v) (bi : Int32) (wt : Int32) (bd : Int32) : Met l m_X10_want [.code m_X10_want c_X10_want 6 (some .int)] ({ frames := 3, cells := 0, slots := 0, locals := 82 } : Room) (tP D dA ad v [.ref (ad 0), .int bi, .int wt, .int bd]) (tQi D dA ad (fun r v' => (Inv v' ∧ Kp (kp_X10_want_0 bi wt bd) v v') ∧ (r, v') = f_X10_want_0 v bi wt bd)) 0 0 (tA ad) := by
  refine tMet (by decide) (Nat.le_of_ble_eq_true rfl) ?_
  intro p e s m below meth c ls X hr hlocks hw hl
  have X : CX p s m ([.ref (ad 0), .int bi, .int wt, .int bd] : List Value).toArray c c_X10_want N_X10 6 D dA := X
  have hx := X.1
  have hb := X.2.1
  have hS : va_S (tA ad) s.heap s.heap [] := va_S.rf
  have hl : lv_has ls 6 [(0, .ref (ad 0)), (1, .int bi), (2, .int wt), (3, .int bd)] := hl
  obtain ⟨RR, eRR⟩ : ∃ z, f_X10_want_0 v bi wt bd = z := ⟨_, rfl⟩
  have hK0 : Kp (kp_X10_want_0 bi wt bd) v v := Kp.rf _ v
  have hG := eRR
  unfold f_X10_want_0 at hG
  refine lv_iload_n hx hb d_X10_want_0 rfl (lv_at hl 1 rfl) ?_
  refine lv_iconst (v := 0) hx hb d_X10_want_1 (by decide) ?_
  refine lv_aload_n hx hb d_X10_want_2 rfl (lv_at hl 0 rfl) ?_
  refine r_getr (r := 1) X hw FL_X10_10 (rfl : KD 0 = _) rfl d_X10_want_3 ?_
  refine r_geti X hw FL_X10_127 (rfl : KD 1 = _) rfl d_X10_want_6 ?_
  refine lv_topi (fun x1 ex1 => ?_)
  have hG := bnd_use ex1 hG
  have r2 : Rg x1 0 10 := by rw [ex1]; exact hI _ _ _ _ rfl
  have hm3 : v 1 4 = x1 := ex1.symm
  refine lv_iconst (v := 1) hx hb d_X10_want_9 (by decide) ?_
  refine lv_isub hx hb d_X10_want_10 ?_
  refine lv_topi (fun x4 ex4 => ?_)
  have hG := bnd_use ex4 hG
  have r5 : Rg x4 (-1) 9 := rg_sub ex4 r2 (⟨by decide, by decide⟩ : Rg 1 1 1) (by decide) (by decide)
  have s6 : x4.toInt = x1.toInt - (1 : Int32).toInt := by rw [ex4]; exact i_sub (by obtain ⟨_, _⟩ := r2; obtain ⟨_, _⟩ := (⟨by decide, by decide⟩ : Rg 1 1 1); omega) (by obtain ⟨_, _⟩ := r2; obtain ⟨_, _⟩ := (⟨by decide, by decide⟩ : Rg 1 1 1); omega)
  have s6l : (1 : Int32).toInt = 1 := rfl
  refine r_ci (r_runS (n := 3) (As := [.int bi, .int 0, .int x4]) (rest := []) X hw (ct_X10_within l D dA ad v hI bi 0 x4) gc_X10_74 (by decide +kernel) ⟨rfl, rfl, Nat.le_of_ble_eq_true rfl, Nat.le_of_ble_eq_true rfl⟩ rfl hl.1 rfl (Nat.le_of_ble_eq_true rfl) ⟨Nat.zero_le _, Nat.zero_le _⟩ d_X10_want_11) hS (fun x8 v9 H locs hp7 hw hS => ?_)
  obtain ⟨ev9, hp7⟩ := hp7
  rw [ev9] at hw
  rcases hp7 with ⟨rfl, w10a, w10b⟩ | ⟨rfl, w10n⟩
  · skip
    have hG := g_pos ⟨w10a, w10b⟩ hG
    have r11 : Rg bi 0 9 := by obtain ⟨_, _⟩ := (rg_any bi); have : (0 : Int32).toInt = 0 := rfl; obtain ⟨_, _⟩ := r5; exact ⟨by omega, by omega⟩
    refine lv_if_ne (tgt := 19) hx hb d_X10_want_14 (by decide) (fun c12 => ?_) (fun c12 => ?_)
    · refine lv_iload_n hx hb d_X10_want_19 rfl (lv_at hl 2 rfl) ?_
      refine r_ci (r_runS (n := 1) (As := [.int wt]) (rest := []) X hw (ct_X10_isWant l D dA ad v hI wt) gc_X10_121 (by decide +kernel) ⟨rfl, rfl, Nat.le_of_ble_eq_true rfl, Nat.le_of_ble_eq_true rfl⟩ rfl hl.1 rfl (Nat.le_of_ble_eq_true rfl) ⟨Nat.zero_le _, Nat.zero_le _⟩ d_X10_want_20) hS (fun x14 v15 H locs hp13 hw hS => ?_)
      obtain ⟨ev15, hp13⟩ := hp13
      rw [ev15] at hw
      rcases hp13 with ⟨rfl, w16a, w16b⟩ | ⟨rfl, w16n⟩
      · skip
        have hG := g_pos ⟨w16a, w16b⟩ hG
        have r17 : Rg wt 0 2000 := by obtain ⟨_, _⟩ := (rg_any wt); exact ⟨by omega, by omega⟩
        refine lv_if_eq (tgt := 33) hx hb d_X10_want_23 (by decide) (fun c18 => ?_) (fun c18 => ?_)
        · exact absurd c18 (by decide)
        · refine lv_iload_n hx hb d_X10_want_26 rfl (lv_at hl 3 rfl) ?_
          refine r_ci (r_runS (n := 1) (As := [.int bd]) (rest := []) X hw (ct_X10_isBid l D dA ad v hI bd) gc_X10_124 (by decide +kernel) ⟨rfl, rfl, Nat.le_of_ble_eq_true rfl, Nat.le_of_ble_eq_true rfl⟩ rfl hl.1 rfl (Nat.le_of_ble_eq_true rfl) ⟨Nat.zero_le _, Nat.zero_le _⟩ d_X10_want_27) hS (fun x20 v21 H locs hp19 hw hS => ?_)
          obtain ⟨ev21, hp19⟩ := hp19
          rw [ev21] at hw
          rcases hp19 with ⟨rfl, w22a, w22b⟩ | ⟨rfl, w22n⟩
          · skip
            have hG := g_pos ⟨w22a, w22b⟩ hG
            have r23 : Rg bd 1 120 := by obtain ⟨_, _⟩ := (rg_any bd); exact ⟨by omega, by omega⟩
            refine lv_if_ne (tgt := 36) hx hb d_X10_want_30 (by decide) (fun c24 => ?_) (fun c24 => ?_)
            · refine lv_aload_n hx hb d_X10_want_36 rfl (lv_at hl 0 rfl) ?_
              refine r_getr (r := 1) X hw FL_X10_10 (rfl : KD 0 = _) rfl d_X10_want_37 ?_
              refine r_getr (r := 13) X hw FL_X10_130 (rfl : KD 1 = _) rfl d_X10_want_40 ?_
              refine lv_iload_n hx hb d_X10_want_43 rfl (lv_at hl 1 rfl) ?_
              refine r_aald X hw (rfl : KD 13 = _) (Or.inr (Or.inl rfl)) (Rg.vp (b := 9) r11 (by decide)) rfl d_X10_want_44 ?_
              refine r_nm (fun kc25 ekc25 => ?_)
              have hG := bnd_use ekc25 hG
              have kc25a : 200 ≤ kc25 := by omega
              have kc25b : kc25 ≤ 209 := by have := Rg.nat r11; omega
              refine lv_astore (lv' := [(4, .ref (ad kc25)), (0, .ref (ad 0)), (1, .int bi), (2, .int wt), (3, .int bd)]) hx hb d_X10_want_45 hl (by decide) rfl (fun ls hl => ?_)
              refine lv_aload hx hb d_X10_want_47 (lv_at hl 0 rfl) ?_
              refine r_geti X hw FL_X10_139 (KD_buyer (by omega) (by omega)) (SH_buyer (by omega) (by omega)) d_X10_want_49 ?_
              refine lv_topi (fun x26 ex26 => ?_)
              have hG := bnd_use ex26 hG
              refine lv_istore (lv' := [(5, .int x26), (4, .ref (ad kc25)), (0, .ref (ad 0)), (1, .int bi), (2, .int wt), (3, .int bd)]) hx hb d_X10_want_52 hl (by decide) rfl (fun ls hl => ?_)
              refine lv_aload hx hb d_X10_want_54 (lv_at hl 1 rfl) ?_
              refine lv_iload_n hx hb d_X10_want_56 rfl (lv_at hl 4 rfl) ?_
              refine r_put X hw hS FP_X10_139 (KD_buyer (by omega) (by omega)) (SH_buyer (by omega) (by omega)) ⟨rfl, rfl⟩ d_X10_want_57 (fun H locs hw hS => ?_)
              obtain ⟨v27, ev27⟩ : ∃ z, z = up2 v kc25 2 wt := ⟨_, rfl⟩
              rw [← ev27] at hw
              have hG := bnd_use ev27 hG
              have hI28 : Inv v27 := by rw [ev27]; exact Inv.put0 hI _ (RG_buyer (by omega) (by omega) (by decide))
              have hK29 : Kp (kp_X10_want_0 bi wt bd) v v27 := by rw [ev27]; exact Kp.put hK0 _ (by unfold kp_X10_want_0; omega)
              have hm30 : v27 1 4 = x1 := by rw [ev27, up2_n _ _ (by omega)]; exact hm3
              refine lv_aload hx hb d_X10_want_60 (lv_at hl 1 rfl) ?_
              refine lv_iload_n hx hb d_X10_want_62 rfl (lv_at hl 5 rfl) ?_
              refine r_put X hw hS FP_X10_142 (KD_buyer (by omega) (by omega)) (SH_buyer (by omega) (by omega)) ⟨rfl, rfl⟩ d_X10_want_63 (fun H locs hw hS => ?_)
              obtain ⟨v31, ev31⟩ : ∃ z, z = up2 v27 kc25 3 bd := ⟨_, rfl⟩
              rw [← ev31] at hw
              have hG := bnd_use ev31 hG
              have hI32 : Inv v31 := by rw [ev31]; exact Inv.put0 hI28 _ (RG_buyer (by omega) (by omega) (by decide))
              have hK33 : Kp (kp_X10_want_0 bi wt bd) v v31 := by rw [ev31]; exact Kp.put hK29 _ (by unfold kp_X10_want_0; omega)
              have hm34 : v31 1 4 = x1 := by rw [ev31, up2_n _ _ (by omega)]; exact hm30
              refine lv_iload hx hb d_X10_want_66 (lv_at hl 0 rfl) ?_
              exact r_iret X hr hlocks hw hS ⟨⟨hI32, hK33⟩, hG.trans eRR.symm⟩ d_X10_want_68
            · exact absurd c24 (by decide)
          · skip
            have hG := g_neg w22n hG
            refine lv_if_ne (tgt := 36) hx hb d_X10_want_30 (by decide) (fun c35 => ?_) (fun c35 => ?_)
            · exact absurd c35 (by decide)
            · refine lv_bipush (v := -2) hx hb d_X10_want_33 (by decide) ?_
              exact r_iret X hr hlocks hw hS ⟨⟨hI, hK0⟩, hG.trans eRR.symm⟩ d_X10_want_35
      · skip
        have hG := g_neg w16n hG
        refine lv_if_eq (tgt := 33) hx hb d_X10_want_23 (by decide) (fun c36 => ?_) (fun c36 => ?_)
        · refine lv_bipush (v := -2) hx hb d_X10_want_33 (by decide) ?_
          exact r_iret X hr hlocks hw hS ⟨⟨hI, hK0⟩, hG.trans eRR.symm⟩ d_X10_want_35
        · exact absurd c36 (by decide)
    · exact absurd c12 (by decide)
  · skip
    have hG := g_neg w10n hG
    refine lv_if_ne (tgt := 19) hx hb d_X10_want_14 (by decide) (fun c37 => ?_) (fun c37 => ?_)
    · exact absurd c37 (by decide)
    · refine lv_iconst (v := -1) hx hb d_X10_want_17 (by decide) ?_
      exact r_iret X hr hlocks hw hS ⟨⟨hI, hK0⟩, hG.trans eRR.symm⟩ d_X10_want_18
theorem d_X10_burn_0 : decode c_X10_burn 0 = .ok (.iload_n 1, 1) := by decide +kernel
theorem d_X10_burn_1 : decode c_X10_burn 1 = .ok (.invokestatic 118, 3) := by decide +kernel
theorem d_X10_burn_4 : decode c_X10_burn 4 = .ok (.ifCond .ne 5, 3) := by decide +kernel
theorem d_X10_burn_7 : decode c_X10_burn 7 = .ok (.iconst (-1), 1) := by decide +kernel
theorem d_X10_burn_8 : decode c_X10_burn 8 = .ok (.ireturn, 1) := by decide +kernel
theorem d_X10_burn_9 : decode c_X10_burn 9 = .ok (.iload_n 2, 1) := by decide +kernel
theorem d_X10_burn_10 : decode c_X10_burn 10 = .ok (.invokestatic 145, 3) := by decide +kernel
theorem d_X10_burn_13 : decode c_X10_burn 13 = .ok (.ifCond .eq 14, 3) := by decide +kernel
theorem d_X10_burn_16 : decode c_X10_burn 16 = .ok (.iload_n 3, 1) := by decide +kernel
theorem d_X10_burn_17 : decode c_X10_burn 17 = .ok (.iconst 0, 1) := by decide +kernel
theorem d_X10_burn_18 : decode c_X10_burn 18 = .ok (.sipush 500, 3) := by decide +kernel
theorem d_X10_burn_21 : decode c_X10_burn 21 = .ok (.invokestatic 74, 3) := by decide +kernel
theorem d_X10_burn_24 : decode c_X10_burn 24 = .ok (.ifCond .ne 6, 3) := by decide +kernel
theorem d_X10_burn_27 : decode c_X10_burn 27 = .ok (.bipush (-2), 2) := by decide +kernel
theorem d_X10_burn_29 : decode c_X10_burn 29 = .ok (.ireturn, 1) := by decide +kernel
theorem d_X10_burn_30 : decode c_X10_burn 30 = .ok (.aload_n 0, 1) := by decide +kernel
theorem d_X10_burn_31 : decode c_X10_burn 31 = .ok (.getfield 10, 3) := by decide +kernel
theorem d_X10_burn_34 : decode c_X10_burn 34 = .ok (.getfield 148, 3) := by decide +kernel
theorem d_X10_burn_37 : decode c_X10_burn 37 = .ok (.iload_n 1, 1) := by decide +kernel
theorem d_X10_burn_38 : decode c_X10_burn 38 = .ok (.aaload, 1) := by decide +kernel
theorem d_X10_burn_39 : decode c_X10_burn 39 = .ok (.getfield 152, 3) := by decide +kernel
theorem d_X10_burn_42 : decode c_X10_burn 42 = .ok (.astore 4, 2) := by decide +kernel
theorem d_X10_burn_44 : decode c_X10_burn 44 = .ok (.aload 4, 2) := by decide +kernel
theorem d_X10_burn_46 : decode c_X10_burn 46 = .ok (.iload_n 2, 1) := by decide +kernel
theorem d_X10_burn_47 : decode c_X10_burn 47 = .ok (.iaload, 1) := by decide +kernel
theorem d_X10_burn_48 : decode c_X10_burn 48 = .ok (.istore 5, 2) := by decide +kernel
theorem d_X10_burn_50 : decode c_X10_burn 50 = .ok (.aload 4, 2) := by decide +kernel
theorem d_X10_burn_52 : decode c_X10_burn 52 = .ok (.iload_n 2, 1) := by decide +kernel
theorem d_X10_burn_53 : decode c_X10_burn 53 = .ok (.iload_n 3, 1) := by decide +kernel
theorem d_X10_burn_54 : decode c_X10_burn 54 = .ok (.iastore, 1) := by decide +kernel
theorem d_X10_burn_55 : decode c_X10_burn 55 = .ok (.iload 5, 2) := by decide +kernel
theorem d_X10_burn_57 : decode c_X10_burn 57 = .ok (.ireturn, 1) := by decide +kernel
def kp_X10_burn_0 (wd : Int32) (co : Int32) (am : Int32) (a j : Nat) : Prop := (a < 320 ∨ 326 ≤ a)
def f_X10_burn_0 (v : tV) (wd : Int32) (co : Int32) (am : Int32) : Int32 × tV := (if 0 ≤ wd.toInt ∧ wd.toInt ≤ 5 then (if 0 ≤ co.toInt ∧ co.toInt ≤ 4 then (if (0 : Int32).toInt ≤ am.toInt ∧ am.toInt ≤ (500 : Int32).toInt then bnd (300 + wd.toNatClampNeg) fun kc19 => bnd (kc19 + 20) fun kc20 => bnd (v kc20 co.toNatClampNeg) fun x21 => bnd (up2 v kc20 (co.toNatClampNeg) am) fun v22 => (x21, v22) else ((-2 : Int32), v)) else ((-2 : Int32), v)) else ((-1 : Int32), v))
set_option maxHeartbeats 4000000 in
set_option maxRecDepth 100000 in
theorem ct_X10_burn_0 (l : Launch) (D : va_G) (dA : Nat → ClassId) (ad : Nat → Nat) (v : tV) (hI : Inv v) (wd : Int32) (co : Int32) (am : Int32) : Met l m_X10_burn [.code m_X10_burn c_X10_burn 6 (some .int)] ({ frames := 3, cells := 0, slots := 0, locals := 82 } : Room) (tP D dA ad v [.ref (ad 0), .int wd, .int co, .int am]) (tQi D dA ad (fun r v' => (Inv v' ∧ Kp (kp_X10_burn_0 wd co am) v v') ∧ (r, v') = f_X10_burn_0 v wd co am)) 0 0 (tA ad) := by
  refine tMet (by decide) (Nat.le_of_ble_eq_true rfl) ?_
  intro p e s m below meth c ls X hr hlocks hw hl
  have X : CX p s m ([.ref (ad 0), .int wd, .int co, .int am] : List Value).toArray c c_X10_burn N_X10 6 D dA := X
  have hx := X.1
  have hb := X.2.1
  have hS : va_S (tA ad) s.heap s.heap [] := va_S.rf
  have hl : lv_has ls 6 [(0, .ref (ad 0)), (1, .int wd), (2, .int co), (3, .int am)] := hl
  obtain ⟨RR, eRR⟩ : ∃ z, f_X10_burn_0 v wd co am = z := ⟨_, rfl⟩
  have hK0 : Kp (kp_X10_burn_0 wd co am) v v := Kp.rf _ v
  have hG := eRR
  unfold f_X10_burn_0 at hG
  refine lv_iload_n hx hb d_X10_burn_0 rfl (lv_at hl 1 rfl) ?_
  refine r_ci (r_runS (n := 1) (As := [.int wd]) (rest := []) X hw (ct_X10_isWard l D dA ad v hI wd) gc_X10_118 (by decide +kernel) ⟨rfl, rfl, Nat.le_of_ble_eq_true rfl, Nat.le_of_ble_eq_true rfl⟩ rfl hl.1 rfl (Nat.le_of_ble_eq_true rfl) ⟨Nat.zero_le _, Nat.zero_le _⟩ d_X10_burn_1) hS (fun x2 v3 H locs hp1 hw hS => ?_)
  obtain ⟨ev3, hp1⟩ := hp1
  rw [ev3] at hw
  rcases hp1 with ⟨rfl, w4a, w4b⟩ | ⟨rfl, w4n⟩
  · skip
    have hG := g_pos ⟨w4a, w4b⟩ hG
    have r5 : Rg wd 0 5 := by obtain ⟨_, _⟩ := (rg_any wd); exact ⟨by omega, by omega⟩
    refine lv_if_ne (tgt := 9) hx hb d_X10_burn_4 (by decide) (fun c6 => ?_) (fun c6 => ?_)
    · refine lv_iload_n hx hb d_X10_burn_9 rfl (lv_at hl 2 rfl) ?_
      refine r_ci (r_runS (n := 1) (As := [.int co]) (rest := []) X hw (ct_X10_isCold l D dA ad v hI co) gc_X10_145 (by decide +kernel) ⟨rfl, rfl, Nat.le_of_ble_eq_true rfl, Nat.le_of_ble_eq_true rfl⟩ rfl hl.1 rfl (Nat.le_of_ble_eq_true rfl) ⟨Nat.zero_le _, Nat.zero_le _⟩ d_X10_burn_10) hS (fun x8 v9 H locs hp7 hw hS => ?_)
      obtain ⟨ev9, hp7⟩ := hp7
      rw [ev9] at hw
      rcases hp7 with ⟨rfl, w10a, w10b⟩ | ⟨rfl, w10n⟩
      · skip
        have hG := g_pos ⟨w10a, w10b⟩ hG
        have r11 : Rg co 0 4 := by obtain ⟨_, _⟩ := (rg_any co); exact ⟨by omega, by omega⟩
        refine lv_if_eq (tgt := 27) hx hb d_X10_burn_13 (by decide) (fun c12 => ?_) (fun c12 => ?_)
        · exact absurd c12 (by decide)
        · refine lv_iload_n hx hb d_X10_burn_16 rfl (lv_at hl 3 rfl) ?_
          refine lv_iconst (v := 0) hx hb d_X10_burn_17 (by decide) ?_
          refine lv_sipush (v := 500) hx hb d_X10_burn_18 (by decide) ?_
          refine r_ci (r_runS (n := 3) (As := [.int am, .int 0, .int 500]) (rest := []) X hw (ct_X10_within l D dA ad v hI am 0 500) gc_X10_74 (by decide +kernel) ⟨rfl, rfl, Nat.le_of_ble_eq_true rfl, Nat.le_of_ble_eq_true rfl⟩ rfl hl.1 rfl (Nat.le_of_ble_eq_true rfl) ⟨Nat.zero_le _, Nat.zero_le _⟩ d_X10_burn_21) hS (fun x14 v15 H locs hp13 hw hS => ?_)
          obtain ⟨ev15, hp13⟩ := hp13
          rw [ev15] at hw
          rcases hp13 with ⟨rfl, w16a, w16b⟩ | ⟨rfl, w16n⟩
          · skip
            have hG := g_pos ⟨w16a, w16b⟩ hG
            have r17 : Rg am 0 500 := by obtain ⟨_, _⟩ := (rg_any am); have : (0 : Int32).toInt = 0 := rfl; have : (500 : Int32).toInt = 500 := rfl; exact ⟨by omega, by omega⟩
            refine lv_if_ne (tgt := 30) hx hb d_X10_burn_24 (by decide) (fun c18 => ?_) (fun c18 => ?_)
            · refine lv_aload_n hx hb d_X10_burn_30 rfl (lv_at hl 0 rfl) ?_
              refine r_getr (r := 1) X hw FL_X10_10 (rfl : KD 0 = _) rfl d_X10_burn_31 ?_
              refine r_getr (r := 16) X hw FL_X10_148 (rfl : KD 1 = _) rfl d_X10_burn_34 ?_
              refine lv_iload_n hx hb d_X10_burn_37 rfl (lv_at hl 1 rfl) ?_
              refine r_aald X hw (rfl : KD 16 = _) (Or.inr (Or.inr (Or.inl rfl))) (Rg.vp (b := 5) r5 (by decide)) rfl d_X10_burn_38 ?_
              refine r_nm (fun kc19 ekc19 => ?_)
              have hG := bnd_use ekc19 hG
              have kc19a : 300 ≤ kc19 := by omega
              have kc19b : kc19 ≤ 305 := by have := Rg.nat r5; omega
              refine r_getr (r := kc19 + 20) X hw FL_X10_152 (KD_ward (by omega) (by omega)) (SH_ward0 (by omega) (by omega)) d_X10_burn_39 ?_
              refine r_nm (fun kc20 ekc20 => ?_)
              have hG := bnd_use ekc20 hG
              refine lv_astore (lv' := [(4, .ref (ad kc20)), (0, .ref (ad 0)), (1, .int wd), (2, .int co), (3, .int am)]) hx hb d_X10_burn_42 hl (by decide) rfl (fun ls hl => ?_)
              refine lv_aload hx hb d_X10_burn_44 (lv_at hl 0 rfl) ?_
              refine lv_iload_n hx hb d_X10_burn_46 rfl (lv_at hl 3 rfl) ?_
              refine r_iald X hw (KD_burns (by omega) (by omega)) (Rg.vp (b := 4) r11 (by decide)) (SH_burns (by omega) (by omega)) d_X10_burn_47 ?_
              refine lv_topi (fun x21 ex21 => ?_)
              have hG := bnd_use ex21 hG
              refine lv_istore (lv' := [(5, .int x21), (4, .ref (ad kc20)), (0, .ref (ad 0)), (1, .int wd), (2, .int co), (3, .int am)]) hx hb d_X10_burn_48 hl (by decide) rfl (fun ls hl => ?_)
              refine lv_aload hx hb d_X10_burn_50 (lv_at hl 1 rfl) ?_
              refine lv_iload_n hx hb d_X10_burn_52 rfl (lv_at hl 4 rfl) ?_
              refine lv_iload_n hx hb d_X10_burn_53 rfl (lv_at hl 5 rfl) ?_
              refine r_iast X hw hS (KD_burns (by omega) (by omega)) (Rg.vp (b := 4) r11 (by decide)) (SH_burns (by omega) (by omega)) d_X10_burn_54 (fun H locs hw hS => ?_)
              obtain ⟨v22, ev22⟩ : ∃ z, z = up2 v kc20 co.toNatClampNeg am := ⟨_, rfl⟩
              rw [← ev22] at hw
              have hG := bnd_use ev22 hG
              have hI23 : Inv v22 := by rw [ev22]; exact Inv.put0 hI _ (RG_ward (by omega) (by omega))
              have hK24 : Kp (kp_X10_burn_0 wd co am) v v22 := by rw [ev22]; exact Kp.put hK0 _ (by unfold kp_X10_burn_0; omega)
              refine lv_iload hx hb d_X10_burn_55 (lv_at hl 0 rfl) ?_
              exact r_iret X hr hlocks hw hS ⟨⟨hI23, hK24⟩, hG.trans eRR.symm⟩ d_X10_burn_57
            · exact absurd c18 (by decide)
          · skip
            have hG := g_neg w16n hG
            refine lv_if_ne (tgt := 30) hx hb d_X10_burn_24 (by decide) (fun c25 => ?_) (fun c25 => ?_)
            · exact absurd c25 (by decide)
            · refine lv_bipush (v := -2) hx hb d_X10_burn_27 (by decide) ?_
              exact r_iret X hr hlocks hw hS ⟨⟨hI, hK0⟩, hG.trans eRR.symm⟩ d_X10_burn_29
      · skip
        have hG := g_neg w10n hG
        refine lv_if_eq (tgt := 27) hx hb d_X10_burn_13 (by decide) (fun c26 => ?_) (fun c26 => ?_)
        · refine lv_bipush (v := -2) hx hb d_X10_burn_27 (by decide) ?_
          exact r_iret X hr hlocks hw hS ⟨⟨hI, hK0⟩, hG.trans eRR.symm⟩ d_X10_burn_29
        · exact absurd c26 (by decide)
    · exact absurd c6 (by decide)
  · skip
    have hG := g_neg w4n hG
    refine lv_if_ne (tgt := 9) hx hb d_X10_burn_4 (by decide) (fun c27 => ?_) (fun c27 => ?_)
    · exact absurd c27 (by decide)
    · refine lv_iconst (v := -1) hx hb d_X10_burn_7 (by decide) ?_
      exact r_iret X hr hlocks hw hS ⟨⟨hI, hK0⟩, hG.trans eRR.symm⟩ d_X10_burn_8
theorem d_X10_store_0 : decode c_X10_store 0 = .ok (.iload_n 1, 1) := by decide +kernel
theorem d_X10_store_1 : decode c_X10_store 1 = .ok (.invokestatic 118, 3) := by decide +kernel
theorem d_X10_store_4 : decode c_X10_store 4 = .ok (.ifCond .ne 5, 3) := by decide +kernel
theorem d_X10_store_7 : decode c_X10_store 7 = .ok (.iconst (-1), 1) := by decide +kernel
theorem d_X10_store_8 : decode c_X10_store 8 = .ok (.ireturn, 1) := by decide +kernel
theorem d_X10_store_9 : decode c_X10_store 9 = .ok (.iload_n 2, 1) := by decide +kernel
theorem d_X10_store_10 : decode c_X10_store 10 = .ok (.iconst 0, 1) := by decide +kernel
theorem d_X10_store_11 : decode c_X10_store 11 = .ok (.sipush 9999, 3) := by decide +kernel
theorem d_X10_store_14 : decode c_X10_store 14 = .ok (.invokestatic 74, 3) := by decide +kernel
theorem d_X10_store_17 : decode c_X10_store 17 = .ok (.ifCond .ne 6, 3) := by decide +kernel
theorem d_X10_store_20 : decode c_X10_store 20 = .ok (.bipush (-2), 2) := by decide +kernel
theorem d_X10_store_22 : decode c_X10_store 22 = .ok (.ireturn, 1) := by decide +kernel
theorem d_X10_store_23 : decode c_X10_store 23 = .ok (.aload_n 0, 1) := by decide +kernel
theorem d_X10_store_24 : decode c_X10_store 24 = .ok (.getfield 10, 3) := by decide +kernel
theorem d_X10_store_27 : decode c_X10_store 27 = .ok (.getfield 148, 3) := by decide +kernel
theorem d_X10_store_30 : decode c_X10_store 30 = .ok (.iload_n 1, 1) := by decide +kernel
theorem d_X10_store_31 : decode c_X10_store 31 = .ok (.aaload, 1) := by decide +kernel
theorem d_X10_store_32 : decode c_X10_store 32 = .ok (.dup, 1) := by decide +kernel
theorem d_X10_store_33 : decode c_X10_store 33 = .ok (.getfield 158, 3) := by decide +kernel
theorem d_X10_store_36 : decode c_X10_store 36 = .ok (.iload_n 2, 1) := by decide +kernel
theorem d_X10_store_37 : decode c_X10_store 37 = .ok (.iadd, 1) := by decide +kernel
theorem d_X10_store_38 : decode c_X10_store 38 = .ok (.putfield 158, 3) := by decide +kernel
theorem d_X10_store_41 : decode c_X10_store 41 = .ok (.aload_n 0, 1) := by decide +kernel
theorem d_X10_store_42 : decode c_X10_store 42 = .ok (.getfield 10, 3) := by decide +kernel
theorem d_X10_store_45 : decode c_X10_store 45 = .ok (.getfield 148, 3) := by decide +kernel
theorem d_X10_store_48 : decode c_X10_store 48 = .ok (.iload_n 1, 1) := by decide +kernel
theorem d_X10_store_49 : decode c_X10_store 49 = .ok (.aaload, 1) := by decide +kernel
theorem d_X10_store_50 : decode c_X10_store 50 = .ok (.getfield 158, 3) := by decide +kernel
theorem d_X10_store_53 : decode c_X10_store 53 = .ok (.ireturn, 1) := by decide +kernel
def kp_X10_store_0 (wd : Int32) (mo : Int32) (a j : Nat) : Prop := a < 300 ∨ 306 ≤ a ∨ j ≠ 1
def f_X10_store_0 (v : tV) (wd : Int32) (mo : Int32) : Int32 × tV := (if 0 ≤ wd.toInt ∧ wd.toInt ≤ 5 then (if (0 : Int32).toInt ≤ mo.toInt ∧ mo.toInt ≤ (9999 : Int32).toInt then bnd (300 + wd.toNatClampNeg) fun kc13 => bnd (v kc13 1) fun x14 => bnd (x14 + mo) fun x15 => bnd (up2 v kc13 1 x15) fun v16 => bnd (300 + wd.toNatClampNeg) fun kc19 => bnd (v16 kc19 1) fun x20 => (x20, v16) else ((-2 : Int32), v)) else ((-1 : Int32), v))
set_option maxHeartbeats 4000000 in
set_option maxRecDepth 100000 in
theorem ct_X10_store_0 (l : Launch) (D : va_G) (dA : Nat → ClassId) (ad : Nat → Nat) (v : tV) (hI : Inv v) (wd : Int32) (mo : Int32) : Met l m_X10_store [.code m_X10_store c_X10_store 3 (some .int)] ({ frames := 3, cells := 0, slots := 0, locals := 82 } : Room) (tP D dA ad v [.ref (ad 0), .int wd, .int mo]) (tQi D dA ad (fun r v' => (Inv v' ∧ Kp (kp_X10_store_0 wd mo) v v') ∧ (r, v') = f_X10_store_0 v wd mo)) 0 0 (tA ad) := by
  refine tMet (by decide) (Nat.le_of_ble_eq_true rfl) ?_
  intro p e s m below meth c ls X hr hlocks hw hl
  have X : CX p s m ([.ref (ad 0), .int wd, .int mo] : List Value).toArray c c_X10_store N_X10 3 D dA := X
  have hx := X.1
  have hb := X.2.1
  have hS : va_S (tA ad) s.heap s.heap [] := va_S.rf
  have hl : lv_has ls 3 [(0, .ref (ad 0)), (1, .int wd), (2, .int mo)] := hl
  obtain ⟨RR, eRR⟩ : ∃ z, f_X10_store_0 v wd mo = z := ⟨_, rfl⟩
  have hK0 : Kp (kp_X10_store_0 wd mo) v v := Kp.rf _ v
  have hG := eRR
  unfold f_X10_store_0 at hG
  refine lv_iload_n hx hb d_X10_store_0 rfl (lv_at hl 1 rfl) ?_
  refine r_ci (r_runS (n := 1) (As := [.int wd]) (rest := []) X hw (ct_X10_isWard l D dA ad v hI wd) gc_X10_118 (by decide +kernel) ⟨rfl, rfl, Nat.le_of_ble_eq_true rfl, Nat.le_of_ble_eq_true rfl⟩ rfl hl.1 rfl (Nat.le_of_ble_eq_true rfl) ⟨Nat.zero_le _, Nat.zero_le _⟩ d_X10_store_1) hS (fun x2 v3 H locs hp1 hw hS => ?_)
  obtain ⟨ev3, hp1⟩ := hp1
  rw [ev3] at hw
  rcases hp1 with ⟨rfl, w4a, w4b⟩ | ⟨rfl, w4n⟩
  · skip
    have hG := g_pos ⟨w4a, w4b⟩ hG
    have r5 : Rg wd 0 5 := by obtain ⟨_, _⟩ := (rg_any wd); exact ⟨by omega, by omega⟩
    refine lv_if_ne (tgt := 9) hx hb d_X10_store_4 (by decide) (fun c6 => ?_) (fun c6 => ?_)
    · refine lv_iload_n hx hb d_X10_store_9 rfl (lv_at hl 2 rfl) ?_
      refine lv_iconst (v := 0) hx hb d_X10_store_10 (by decide) ?_
      refine lv_sipush (v := 9999) hx hb d_X10_store_11 (by decide) ?_
      refine r_ci (r_runS (n := 3) (As := [.int mo, .int 0, .int 9999]) (rest := []) X hw (ct_X10_within l D dA ad v hI mo 0 9999) gc_X10_74 (by decide +kernel) ⟨rfl, rfl, Nat.le_of_ble_eq_true rfl, Nat.le_of_ble_eq_true rfl⟩ rfl hl.1 rfl (Nat.le_of_ble_eq_true rfl) ⟨Nat.zero_le _, Nat.zero_le _⟩ d_X10_store_14) hS (fun x8 v9 H locs hp7 hw hS => ?_)
      obtain ⟨ev9, hp7⟩ := hp7
      rw [ev9] at hw
      rcases hp7 with ⟨rfl, w10a, w10b⟩ | ⟨rfl, w10n⟩
      · skip
        have hG := g_pos ⟨w10a, w10b⟩ hG
        have r11 : Rg mo 0 9999 := by obtain ⟨_, _⟩ := (rg_any mo); have : (0 : Int32).toInt = 0 := rfl; have : (9999 : Int32).toInt = 9999 := rfl; exact ⟨by omega, by omega⟩
        refine lv_if_ne (tgt := 23) hx hb d_X10_store_17 (by decide) (fun c12 => ?_) (fun c12 => ?_)
        · refine lv_aload_n hx hb d_X10_store_23 rfl (lv_at hl 0 rfl) ?_
          refine r_getr (r := 1) X hw FL_X10_10 (rfl : KD 0 = _) rfl d_X10_store_24 ?_
          refine r_getr (r := 16) X hw FL_X10_148 (rfl : KD 1 = _) rfl d_X10_store_27 ?_
          refine lv_iload_n hx hb d_X10_store_30 rfl (lv_at hl 1 rfl) ?_
          refine r_aald X hw (rfl : KD 16 = _) (Or.inr (Or.inr (Or.inl rfl))) (Rg.vp (b := 5) r5 (by decide)) rfl d_X10_store_31 ?_
          refine r_nm (fun kc13 ekc13 => ?_)
          have hG := bnd_use ekc13 hG
          have kc13a : 300 ≤ kc13 := by omega
          have kc13b : kc13 ≤ 305 := by have := Rg.nat r5; omega
          refine lv_dup hx hb d_X10_store_32 rfl ?_
          refine r_geti X hw FL_X10_158 (KD_ward (by omega) (by omega)) (SH_ward (by omega) (by omega) (by decide)) d_X10_store_33 ?_
          refine lv_topi (fun x14 ex14 => ?_)
          have hG := bnd_use ex14 hG
          refine lv_iload_n hx hb d_X10_store_36 rfl (lv_at hl 2 rfl) ?_
          refine lv_iadd hx hb d_X10_store_37 ?_
          refine lv_topi (fun x15 ex15 => ?_)
          have hG := bnd_use ex15 hG
          refine r_put X hw hS FP_X10_158 (KD_ward (by omega) (by omega)) (SH_ward (by omega) (by omega) (by decide)) ⟨rfl, rfl⟩ d_X10_store_38 (fun H locs hw hS => ?_)
          obtain ⟨v16, ev16⟩ : ∃ z, z = up2 v kc13 1 x15 := ⟨_, rfl⟩
          rw [← ev16] at hw
          have hG := bnd_use ev16 hG
          have hI17 : Inv v16 := by rw [ev16]; exact Inv.put0 hI _ (RG_ward (by omega) (by omega))
          have hK18 : Kp (kp_X10_store_0 wd mo) v v16 := by rw [ev16]; exact Kp.put hK0 _ (by unfold kp_X10_store_0; omega)
          refine lv_aload_n hx hb d_X10_store_41 rfl (lv_at hl 0 rfl) ?_
          refine r_getr (r := 1) X hw FL_X10_10 (rfl : KD 0 = _) rfl d_X10_store_42 ?_
          refine r_getr (r := 16) X hw FL_X10_148 (rfl : KD 1 = _) rfl d_X10_store_45 ?_
          refine lv_iload_n hx hb d_X10_store_48 rfl (lv_at hl 1 rfl) ?_
          refine r_aald X hw (rfl : KD 16 = _) (Or.inr (Or.inr (Or.inl rfl))) (Rg.vp (b := 5) r5 (by decide)) rfl d_X10_store_49 ?_
          refine r_nm (fun kc19 ekc19 => ?_)
          have hG := bnd_use ekc19 hG
          have kc19a : 300 ≤ kc19 := by omega
          have kc19b : kc19 ≤ 305 := by have := Rg.nat r5; omega
          refine r_geti X hw FL_X10_158 (KD_ward (by omega) (by omega)) (SH_ward (by omega) (by omega) (by decide)) d_X10_store_50 ?_
          refine lv_topi (fun x20 ex20 => ?_)
          have hG := bnd_use ex20 hG
          exact r_iret X hr hlocks hw hS ⟨⟨hI17, hK18⟩, hG.trans eRR.symm⟩ d_X10_store_53
        · exact absurd c12 (by decide)
      · skip
        have hG := g_neg w10n hG
        refine lv_if_ne (tgt := 23) hx hb d_X10_store_17 (by decide) (fun c21 => ?_) (fun c21 => ?_)
        · exact absurd c21 (by decide)
        · refine lv_bipush (v := -2) hx hb d_X10_store_20 (by decide) ?_
          exact r_iret X hr hlocks hw hS ⟨⟨hI, hK0⟩, hG.trans eRR.symm⟩ d_X10_store_22
    · exact absurd c6 (by decide)
  · skip
    have hG := g_neg w4n hG
    refine lv_if_ne (tgt := 9) hx hb d_X10_store_4 (by decide) (fun c22 => ?_) (fun c22 => ?_)
    · exact absurd c22 (by decide)
    · refine lv_iconst (v := -1) hx hb d_X10_store_7 (by decide) ?_
      exact r_iret X hr hlocks hw hS ⟨⟨hI, hK0⟩, hG.trans eRR.symm⟩ d_X10_store_8
theorem d_X8_append_0 : decode c_X8_append 0 = .ok (.aload_n 0, 1) := by decide +kernel
theorem d_X8_append_1 : decode c_X8_append 1 = .ok (.getfield 15, 3) := by decide +kernel
theorem d_X8_append_4 : decode c_X8_append 4 = .ok (.bipush 120, 2) := by decide +kernel
theorem d_X8_append_6 : decode c_X8_append 6 = .ok (.if_icmp .ge 20, 3) := by decide +kernel
theorem d_X8_append_9 : decode c_X8_append 9 = .ok (.aload_n 0, 1) := by decide +kernel
theorem d_X8_append_10 : decode c_X8_append 10 = .ok (.getfield 9, 3) := by decide +kernel
theorem d_X8_append_13 : decode c_X8_append 13 = .ok (.aload_n 0, 1) := by decide +kernel
theorem d_X8_append_14 : decode c_X8_append 14 = .ok (.dup, 1) := by decide +kernel
theorem d_X8_append_15 : decode c_X8_append 15 = .ok (.getfield 15, 3) := by decide +kernel
theorem d_X8_append_18 : decode c_X8_append 18 = .ok (.dup_x1, 1) := by decide +kernel
theorem d_X8_append_19 : decode c_X8_append 19 = .ok (.iconst 1, 1) := by decide +kernel
theorem d_X8_append_20 : decode c_X8_append 20 = .ok (.iadd, 1) := by decide +kernel
theorem d_X8_append_21 : decode c_X8_append 21 = .ok (.putfield 15, 3) := by decide +kernel
theorem d_X8_append_24 : decode c_X8_append 24 = .ok (.iload_n 1, 1) := by decide +kernel
theorem d_X8_append_25 : decode c_X8_append 25 = .ok (.iastore, 1) := by decide +kernel
theorem d_X8_append_26 : decode c_X8_append 26 = .ok (.return_, 1) := by decide +kernel
def kp_X8_append_55 (byt : Int32) (a j : Nat) : Prop := a ≠ 55 ∧ a ≠ 56
def f_X8_append_55 (v : tV) (byt : Int32) : tV := bnd (v 55 1) fun x1 => (if (120 : Int32) ≤ x1 then v else bnd (x1 + (1 : Int32)) fun x9 => bnd (up2 v 55 1 x9) fun v12 => bnd (up2 v12 56 (x1.toNatClampNeg) byt) fun v16 => v16)
set_option maxHeartbeats 4000000 in
set_option maxRecDepth 100000 in
theorem ct_X8_append_55 (l : Launch) (D : va_G) (dA : Nat → ClassId) (ad : Nat → Nat) (v : tV) (hI : Inv v) (byt : Int32) : Met l m_X8_append [.code m_X8_append c_X8_append 2 none] ({ frames := 1, cells := 0, slots := 0, locals := 40 } : Room) (tP D dA ad v [.ref (ad 55), .int byt]) (tQv D dA ad (fun v' => (Inv v' ∧ Kp (kp_X8_append_55 byt) v v') ∧ v' = f_X8_append_55 v byt)) 0 0 (tA ad) := by
  refine tMet (by decide) (Nat.le_of_ble_eq_true rfl) ?_
  intro p e s m below meth c ls X hr hlocks hw hl
  have X : CX p s m ([.ref (ad 55), .int byt] : List Value).toArray c c_X8_append N_X8 2 D dA := X
  have hx := X.1
  have hb := X.2.1
  have hS : va_S (tA ad) s.heap s.heap [] := va_S.rf
  have hl : lv_has ls 2 [(0, .ref (ad 55)), (1, .int byt)] := hl
  obtain ⟨RR, eRR⟩ : ∃ z, f_X8_append_55 v byt = z := ⟨_, rfl⟩
  have hK0 : Kp (kp_X8_append_55 byt) v v := Kp.rf _ v
  have hG := eRR
  unfold f_X8_append_55 at hG
  refine lv_aload_n hx hb d_X8_append_0 rfl (lv_at hl 0 rfl) ?_
  refine r_geti X hw FL_X8_15 (rfl : KD 55 = _) rfl d_X8_append_1 ?_
  refine lv_topi (fun x1 ex1 => ?_)
  have hG := bnd_use ex1 hG
  have r2 : Rg x1 0 120 := by rw [ex1]; exact hI _ _ _ _ rfl
  have hm3 : v 55 1 = x1 := ex1.symm
  refine lv_bipush (v := 120) hx hb d_X8_append_4 (by decide) ?_
  refine lv_icmp_ge (tgt := 26) hx hb d_X8_append_6 (by decide) (fun c4 => ?_) (fun c4 => ?_)
  · have f5 := i_le c4
    have r6 : Rg x1 120 120 := by obtain ⟨a1, a2⟩ := r2; obtain ⟨b1, b2⟩ := (⟨by decide, by decide⟩ : Rg 120 120 120); have f := i_le c4; exact ⟨by omega, by omega⟩
    have hG := g_pos c4 hG
    exact r_vret X hr hlocks hw hS ⟨⟨hI, hK0⟩, hG.trans eRR.symm⟩ d_X8_append_26
  · have f7 := i_nle c4
    have r8 : Rg x1 0 119 := by obtain ⟨a1, a2⟩ := r2; obtain ⟨b1, b2⟩ := (⟨by decide, by decide⟩ : Rg 120 120 120); have f := i_nle c4; exact ⟨by omega, by omega⟩
    have hG := g_neg c4 hG
    refine lv_aload_n hx hb d_X8_append_9 rfl (lv_at hl 0 rfl) ?_
    refine r_getr (r := 56) X hw FL_X8_9 (rfl : KD 55 = _) rfl d_X8_append_10 ?_
    refine lv_aload_n hx hb d_X8_append_13 rfl (lv_at hl 0 rfl) ?_
    refine lv_dup hx hb d_X8_append_14 rfl ?_
    refine r_geti X hw FL_X8_15 (rfl : KD 55 = _) rfl d_X8_append_15 ?_
    rw [hm3]
    refine lv_dup_x1 hx hb d_X8_append_18 rfl rfl ?_
    refine lv_iconst (v := 1) hx hb d_X8_append_19 (by decide) ?_
    refine lv_iadd hx hb d_X8_append_20 ?_
    refine lv_topi (fun x9 ex9 => ?_)
    have hG := bnd_use ex9 hG
    have r10 : Rg x9 1 120 := rg_add ex9 r8 (⟨by decide, by decide⟩ : Rg 1 1 1) (by decide) (by decide)
    have s11 : x9.toInt = x1.toInt + (1 : Int32).toInt := by rw [ex9]; exact i_add (by obtain ⟨_, _⟩ := r8; obtain ⟨_, _⟩ := (⟨by decide, by decide⟩ : Rg 1 1 1); omega) (by obtain ⟨_, _⟩ := r8; obtain ⟨_, _⟩ := (⟨by decide, by decide⟩ : Rg 1 1 1); omega)
    have s11l : (1 : Int32).toInt = 1 := rfl
    refine r_put X hw hS FP_X8_15 (rfl : KD 55 = _) rfl ⟨rfl, rfl⟩ d_X8_append_21 (fun H locs hw hS => ?_)
    obtain ⟨v12, ev12⟩ : ∃ z, z = up2 v 55 1 x9 := ⟨_, rfl⟩
    rw [← ev12] at hw
    have hG := bnd_use ev12 hG
    have hI13 : Inv v12 := by rw [ev12]; exact Inv.putr hI rfl (rg_w r10 (by decide) (by decide))
    have hK14 : Kp (kp_X8_append_55 byt) v v12 := by rw [ev12]; exact Kp.put hK0 _ (by unfold kp_X8_append_55; omega)
    have hm15 : v12 55 1 = x9 := by rw [ev12, up2_s]
    refine lv_iload_n hx hb d_X8_append_24 rfl (lv_at hl 1 rfl) ?_
    refine r_iast X hw hS (rfl : KD 56 = _) (Rg.vp (b := 119) r8 (by decide)) rfl d_X8_append_25 (fun H locs hw hS => ?_)
    obtain ⟨v16, ev16⟩ : ∃ z, z = up2 v12 56 x1.toNatClampNeg byt := ⟨_, rfl⟩
    rw [← ev16] at hw
    have hG := bnd_use ev16 hG
    have hI17 : Inv v16 := by rw [ev16]; exact Inv.put0 hI13 _ rfl
    have hK18 : Kp (kp_X8_append_55 byt) v v16 := by rw [ev16]; exact Kp.put hK14 _ (by unfold kp_X8_append_55; omega)
    have hm19 : v16 55 1 = x9 := by rw [ev16, up2_n _ _ (by omega)]; exact hm15
    exact r_vret X hr hlocks hw hS ⟨⟨hI17, hK18⟩, hG.trans eRR.symm⟩ d_X8_append_26
theorem d_X10_feed_0 : decode c_X10_feed 0 = .ok (.iload_n 3, 1) := by decide +kernel
theorem d_X10_feed_1 : decode c_X10_feed 1 = .ok (.iconst 1, 1) := by decide +kernel
theorem d_X10_feed_2 : decode c_X10_feed 2 = .ok (.bipush 8, 2) := by decide +kernel
theorem d_X10_feed_4 : decode c_X10_feed 4 = .ok (.invokestatic 74, 3) := by decide +kernel
theorem d_X10_feed_7 : decode c_X10_feed 7 = .ok (.ifCond .ne 6, 3) := by decide +kernel
theorem d_X10_feed_10 : decode c_X10_feed 10 = .ok (.bipush (-2), 2) := by decide +kernel
theorem d_X10_feed_12 : decode c_X10_feed 12 = .ok (.ireturn, 1) := by decide +kernel
theorem d_X10_feed_13 : decode c_X10_feed 13 = .ok (.aload_n 0, 1) := by decide +kernel
theorem d_X10_feed_14 : decode c_X10_feed 14 = .ok (.getfield 59, 3) := by decide +kernel
theorem d_X10_feed_17 : decode c_X10_feed 17 = .ok (.getfield 161, 3) := by decide +kernel
theorem d_X10_feed_20 : decode c_X10_feed 20 = .ok (.iload_n 3, 1) := by decide +kernel
theorem d_X10_feed_21 : decode c_X10_feed 21 = .ok (.iadd, 1) := by decide +kernel
theorem d_X10_feed_22 : decode c_X10_feed 22 = .ok (.bipush 120, 2) := by decide +kernel
theorem d_X10_feed_24 : decode c_X10_feed 24 = .ok (.if_icmp .le 6, 3) := by decide +kernel
theorem d_X10_feed_27 : decode c_X10_feed 27 = .ok (.bipush (-4), 2) := by decide +kernel
theorem d_X10_feed_29 : decode c_X10_feed 29 = .ok (.ireturn, 1) := by decide +kernel
theorem d_X10_feed_30 : decode c_X10_feed 30 = .ok (.iload_n 3, 1) := by decide +kernel
theorem d_X10_feed_31 : decode c_X10_feed 31 = .ok (.iconst 1, 1) := by decide +kernel
theorem d_X10_feed_32 : decode c_X10_feed 32 = .ok (.isub, 1) := by decide +kernel
theorem d_X10_feed_33 : decode c_X10_feed 33 = .ok (.istore 4, 2) := by decide +kernel
theorem d_X10_feed_35 : decode c_X10_feed 35 = .ok (.iload 4, 2) := by decide +kernel
theorem d_X10_feed_37 : decode c_X10_feed 37 = .ok (.ifCond .lt 28, 3) := by decide +kernel
theorem d_X10_feed_40 : decode c_X10_feed 40 = .ok (.aload_n 0, 1) := by decide +kernel
theorem d_X10_feed_41 : decode c_X10_feed 41 = .ok (.getfield 59, 3) := by decide +kernel
theorem d_X10_feed_44 : decode c_X10_feed 44 = .ok (.lload_n 1, 1) := by decide +kernel
theorem d_X10_feed_45 : decode c_X10_feed 45 = .ok (.bipush 8, 2) := by decide +kernel
theorem d_X10_feed_47 : decode c_X10_feed 47 = .ok (.iload 4, 2) := by decide +kernel
theorem d_X10_feed_49 : decode c_X10_feed 49 = .ok (.imul, 1) := by decide +kernel
theorem d_X10_feed_50 : decode c_X10_feed 50 = .ok (.lushr, 1) := by decide +kernel
theorem d_X10_feed_51 : decode c_X10_feed 51 = .ok (.l2i, 1) := by decide +kernel
theorem d_X10_feed_52 : decode c_X10_feed 52 = .ok (.sipush 255, 3) := by decide +kernel
theorem d_X10_feed_55 : decode c_X10_feed 55 = .ok (.iand, 1) := by decide +kernel
theorem d_X10_feed_56 : decode c_X10_feed 56 = .ok (.invokevirtual 164, 3) := by decide +kernel
theorem d_X10_feed_59 : decode c_X10_feed 59 = .ok (.iinc 4 (-1), 3) := by decide +kernel
theorem d_X10_feed_62 : decode c_X10_feed 62 = .ok (.goto (-27), 3) := by decide +kernel
theorem d_X10_feed_65 : decode c_X10_feed 65 = .ok (.aload_n 0, 1) := by decide +kernel
theorem d_X10_feed_66 : decode c_X10_feed 66 = .ok (.getfield 59, 3) := by decide +kernel
theorem d_X10_feed_69 : decode c_X10_feed 69 = .ok (.getfield 161, 3) := by decide +kernel
theorem d_X10_feed_72 : decode c_X10_feed 72 = .ok (.ireturn, 1) := by decide +kernel
def kp_X10_feed_0 (w : Int64) (cnt : Int32) (a j : Nat) : Prop := a ≠ 55 ∧ a ≠ 56
def b_X10_feed_0_35 (w : Int64) (cnt : Int32) (rc35 : Int32 → tV → Int32 × tV) (y4 : Int32) (v1 : tV) : Int32 × tV := (if y4 < (0 : Int32) then bnd (v1 55 1) fun x4 => (x4, v1) else bnd ((8 : Int32) * y4) fun x9 => bnd ((w.toUInt64 >>> (x9.toInt64.toUInt64 &&& Int64.toUInt64 63)).toInt64) fun x11 => bnd (x11.toInt32) fun x12 => bnd (x12 &&& (255 : Int32)) fun x13 => bnd (f_X8_append_55 v1 x13) fun v15 => bnd (y4 + -1) fun x20 => rc35 x20 v15)
def g_X10_feed_0_35 (w : Int64) (cnt : Int32) : Nat → Int32 → tV → Int32 × tV
  | 0, _, v1 => (0, v1)
  | n + 1, y4, v1 => b_X10_feed_0_35 w cnt (g_X10_feed_0_35 w cnt n) y4 v1
def f_X10_feed_0 (v : tV) (w : Int64) (cnt : Int32) : Int32 × tV := (if (1 : Int32).toInt ≤ cnt.toInt ∧ cnt.toInt ≤ (8 : Int32).toInt then bnd (v 55 1) fun x29 => bnd (x29 + cnt) fun x32 => (if x32 ≤ (120 : Int32) then bnd (cnt - (1 : Int32)) fun x38 => g_X10_feed_0_35 w cnt 100000 x38 v else ((-4 : Int32), v)) else ((-2 : Int32), v))
set_option maxHeartbeats 4000000 in
set_option maxRecDepth 100000 in
theorem ct_X10_feed_0 (l : Launch) (D : va_G) (dA : Nat → ClassId) (ad : Nat → Nat) (v : tV) (hI : Inv v) (w : Int64) (cnt : Int32) : Met l m_X10_feed [.code m_X10_feed c_X10_feed 5 (some .int)] ({ frames := 2, cells := 0, slots := 0, locals := 62 } : Room) (tP D dA ad v [.ref (ad 0), .long w, .int cnt]) (tQi D dA ad (fun r v' => (Inv v' ∧ Kp (kp_X10_feed_0 w cnt) v v') ∧ (r, v') = f_X10_feed_0 v w cnt)) 0 0 (tA ad) := by
  refine tMet (by decide) (Nat.le_of_ble_eq_true rfl) ?_
  intro p e s m below meth c ls X hr hlocks hw hl
  have X : CX p s m ([.ref (ad 0), .long w, .int cnt] : List Value).toArray c c_X10_feed N_X10 5 D dA := X
  have hx := X.1
  have hb := X.2.1
  have hS : va_S (tA ad) s.heap s.heap [] := va_S.rf
  have hl : lv_has ls 5 [(0, .ref (ad 0)), (1, .long w), (3, .int cnt)] := hl
  obtain ⟨RR, eRR⟩ : ∃ z, f_X10_feed_0 v w cnt = z := ⟨_, rfl⟩
  have LL : ∀ n : Nat, (∀ (y4 : Int32) (v1 : tV) (H : Heap) (locs : List Loc) (ls : Array Slot), (y4.toInt + 1).toNat < n → Rg y4 (-1) 7 → Inv v1 → Kp (kp_X10_feed_0 w cnt) v v1 → g_X10_feed_0_35 w cnt n y4 v1 = RR → tI D dA ad v1 H → va_S (tA ad) s.heap H locs → lv_has ls 5 [(0, .ref (ad 0)), (1, .long w), (3, .int cnt), (4, .int y4)] → W p l e ({ frames := 2, cells := 0, slots := 0, locals := 62 } : Room) s m ([.ref (ad 0), .long w, .int cnt] : List Value).toArray below meth c H locs 0 0 (MQ below (tQi D dA ad (fun r v' => (Inv v' ∧ Kp (kp_X10_feed_0 w cnt) v v') ∧ (r, v') = f_X10_feed_0 v w cnt)) ([.ref (ad 0), .long w, .int cnt] : List Value).toArray s 0 0 (tA ad)) (F0 m 35 ls [])) := by
    intro n
    induction n with
    | zero => intros; omega
    | succ n ih =>
      have ih0 := ih
      intro y4 v1 H locs ls hmu r_y4 hI1 hK1 hG hw hS hl
      have hG : b_X10_feed_0_35 w cnt (g_X10_feed_0_35 w cnt n) y4 v1 = RR := hG
      unfold b_X10_feed_0_35 at hG
      refine lv_iload hx hb d_X10_feed_35 (lv_at hl 3 rfl) ?_
      refine lv_if_lt (tgt := 65) hx hb d_X10_feed_37 (by decide) (fun c1 => ?_) (fun c1 => ?_)
      · have f2 := i_lt c1
        have r3 : Rg y4 (-1) (-1) := by obtain ⟨a1, a2⟩ := r_y4; obtain ⟨b1, b2⟩ := (⟨by decide, by decide⟩ : Rg 0 0 0); have f := i_lt c1; exact ⟨by omega, by omega⟩
        have hG := g_pos c1 hG
        refine lv_aload_n hx hb d_X10_feed_65 rfl (lv_at hl 0 rfl) ?_
        refine r_getr (r := 55) X hw FL_X10_59 (rfl : KD 0 = _) rfl d_X10_feed_66 ?_
        refine r_geti X hw FL_X10_161 (rfl : KD 55 = _) rfl d_X10_feed_69 ?_
        refine lv_topi (fun x4 ex4 => ?_)
        have hG := bnd_use ex4 hG
        have r5 : Rg x4 0 120 := by rw [ex4]; exact hI1 _ _ _ _ rfl
        have hm6 : v1 55 1 = x4 := ex4.symm
        exact r_iret X hr hlocks hw hS ⟨⟨hI1, hK1⟩, hG.trans eRR.symm⟩ d_X10_feed_72
      · have f7 := i_nlt c1
        have r8 : Rg y4 0 7 := by obtain ⟨a1, a2⟩ := r_y4; obtain ⟨b1, b2⟩ := (⟨by decide, by decide⟩ : Rg 0 0 0); have f := i_nlt c1; exact ⟨by omega, by omega⟩
        have hG := g_neg c1 hG
        refine lv_aload_n hx hb d_X10_feed_40 rfl (lv_at hl 0 rfl) ?_
        refine r_getr (r := 55) X hw FL_X10_59 (rfl : KD 0 = _) rfl d_X10_feed_41 ?_
        refine lv_lload_n hx hb d_X10_feed_44 rfl (lv_at hl 1 rfl) ?_
        refine lv_bipush (v := 8) hx hb d_X10_feed_45 (by decide) ?_
        refine lv_iload hx hb d_X10_feed_47 (lv_at hl 3 rfl) ?_
        refine lv_imul hx hb d_X10_feed_49 ?_
        refine lv_topi (fun x9 ex9 => ?_)
        have hG := bnd_use ex9 hG
        have r10 : Rg x9 0 56 := rg_mulc ex9 (⟨by decide, by decide⟩ : Rg 8 8 8) r8 (by decide) (by decide) (by decide)
        refine lv_lushr hx hb d_X10_feed_50 rfl ?_
        refine lv_topl (fun x11 ex11 => ?_)
        have hG := bnd_use ex11 hG
        refine lv_l2i hx hb d_X10_feed_51 rfl ?_
        refine lv_topi (fun x12 ex12 => ?_)
        have hG := bnd_use ex12 hG
        refine lv_sipush (v := 255) hx hb d_X10_feed_52 (by decide) ?_
        refine lv_iand hx hb d_X10_feed_55 ?_
        refine lv_topi (fun x13 ex13 => ?_)
        have hG := bnd_use ex13 hG
        refine r_cv (r_runV (n := 1) (As := [.int x13]) (rest := []) X hw (ct_X8_append_55 l D dA ad v1 hI1 x13) gc_X10_164 (rfl : KD 55 = _) (by decide) rfl (by decide +kernel) ⟨rfl, rfl, Nat.le_of_ble_eq_true rfl, Nat.le_of_ble_eq_true rfl⟩ rfl hl.1 rfl (Nat.le_of_ble_eq_true rfl) ⟨Nat.zero_le _, Nat.zero_le _⟩ d_X10_feed_56) hS (fun v15 H locs hp14 hw hS => ?_)
        obtain ⟨hp14, hE16⟩ := hp14
        obtain ⟨hI17, hK18⟩ := hp14
        have hK19 : Kp (kp_X10_feed_0 w cnt) v v15 := Kp.tr hK1 hK18 (by have z0 : (0 : Int32).toInt = 0 := rfl; intro a j; unfold kp_X10_feed_0 kp_X8_append_55; omega)
        have hG := bnd_use hE16 hG
        obtain ⟨x20, ex20⟩ : ∃ y : Int32, y = y4 + -1 := ⟨_, rfl⟩
        have hG := bnd_use ex20 hG
        refine lv_iinc (v := x20) (lv' := [(4, .int x20), (0, .ref (ad 0)), (1, .long w), (3, .int cnt)]) hx hb d_X10_feed_59 hl (k := 3) rfl (by rw [ex20]; rfl) (by decide) rfl (fun ls hl => ?_)
        have r21 : Rg x20 (-1) 6 := rg_add ex20 r8 (⟨by decide, by decide⟩ : Rg (-1) (-1) (-1)) (by decide) (by decide)
        have s22 : x20.toInt = y4.toInt + (-1 : Int32).toInt := by rw [ex20]; exact i_add (by obtain ⟨_, _⟩ := r8; obtain ⟨_, _⟩ := (⟨by decide, by decide⟩ : Rg (-1) (-1) (-1)); omega) (by obtain ⟨_, _⟩ := r8; obtain ⟨_, _⟩ := (⟨by decide, by decide⟩ : Rg (-1) (-1) (-1)); omega)
        have s22l : (-1 : Int32).toInt = (-1) := rfl
        refine lv_goto (tgt := 35) hx hb d_X10_feed_62 (by decide) ?_
        exact ih0 x20 v15 _ _ _ (by have := s22; obtain ⟨_, _⟩ := r21; omega) (rg_w r21 (by decide) (by decide)) hI17 hK19 hG hw hS (lv_sub hl [1, 2, 3, 0] rfl)
  have ih0 := LL 100000
  have hK0 : Kp (kp_X10_feed_0 w cnt) v v := Kp.rf _ v
  have hG := eRR
  unfold f_X10_feed_0 at hG
  refine lv_iload_n hx hb d_X10_feed_0 rfl (lv_at hl 2 rfl) ?_
  refine lv_iconst (v := 1) hx hb d_X10_feed_1 (by decide) ?_
  refine lv_bipush (v := 8) hx hb d_X10_feed_2 (by decide) ?_
  refine r_ci (r_runS (n := 3) (As := [.int cnt, .int 1, .int 8]) (rest := []) X hw (ct_X10_within l D dA ad v hI cnt 1 8) gc_X10_74 (by decide +kernel) ⟨rfl, rfl, Nat.le_of_ble_eq_true rfl, Nat.le_of_ble_eq_true rfl⟩ rfl hl.1 rfl (Nat.le_of_ble_eq_true rfl) ⟨Nat.zero_le _, Nat.zero_le _⟩ d_X10_feed_4) hS (fun x24 v25 H locs hp23 hw hS => ?_)
  obtain ⟨ev25, hp23⟩ := hp23
  rw [ev25] at hw
  rcases hp23 with ⟨rfl, w26a, w26b⟩ | ⟨rfl, w26n⟩
  · skip
    have hG := g_pos ⟨w26a, w26b⟩ hG
    have r27 : Rg cnt 1 8 := by obtain ⟨_, _⟩ := (rg_any cnt); have : (1 : Int32).toInt = 1 := rfl; have : (8 : Int32).toInt = 8 := rfl; exact ⟨by omega, by omega⟩
    refine lv_if_ne (tgt := 13) hx hb d_X10_feed_7 (by decide) (fun c28 => ?_) (fun c28 => ?_)
    · refine lv_aload_n hx hb d_X10_feed_13 rfl (lv_at hl 0 rfl) ?_
      refine r_getr (r := 55) X hw FL_X10_59 (rfl : KD 0 = _) rfl d_X10_feed_14 ?_
      refine r_geti X hw FL_X10_161 (rfl : KD 55 = _) rfl d_X10_feed_17 ?_
      refine lv_topi (fun x29 ex29 => ?_)
      have hG := bnd_use ex29 hG
      have r30 : Rg x29 0 120 := by rw [ex29]; exact hI _ _ _ _ rfl
      have hm31 : v 55 1 = x29 := ex29.symm
      refine lv_iload_n hx hb d_X10_feed_20 rfl (lv_at hl 2 rfl) ?_
      refine lv_iadd hx hb d_X10_feed_21 ?_
      refine lv_topi (fun x32 ex32 => ?_)
      have hG := bnd_use ex32 hG
      have r33 : Rg x32 1 128 := rg_add ex32 r30 r27 (by decide) (by decide)
      have s34 : x32.toInt = x29.toInt + (cnt : Int32).toInt := by rw [ex32]; exact i_add (by obtain ⟨_, _⟩ := r30; obtain ⟨_, _⟩ := r27; omega) (by obtain ⟨_, _⟩ := r30; obtain ⟨_, _⟩ := r27; omega)
      refine lv_bipush (v := 120) hx hb d_X10_feed_22 (by decide) ?_
      refine lv_icmp_le (tgt := 30) hx hb d_X10_feed_24 (by decide) (fun c35 => ?_) (fun c35 => ?_)
      · have f36 := i_le c35
        have r37 : Rg x32 1 120 := by obtain ⟨a1, a2⟩ := r33; obtain ⟨b1, b2⟩ := (⟨by decide, by decide⟩ : Rg 120 120 120); have f := i_le c35; exact ⟨by omega, by omega⟩
        have hG := g_pos c35 hG
        refine lv_iload_n hx hb d_X10_feed_30 rfl (lv_at hl 2 rfl) ?_
        refine lv_iconst (v := 1) hx hb d_X10_feed_31 (by decide) ?_
        refine lv_isub hx hb d_X10_feed_32 ?_
        refine lv_topi (fun x38 ex38 => ?_)
        have hG := bnd_use ex38 hG
        have r39 : Rg x38 0 7 := rg_sub ex38 r27 (⟨by decide, by decide⟩ : Rg 1 1 1) (by decide) (by decide)
        have s40 : x38.toInt = cnt.toInt - (1 : Int32).toInt := by rw [ex38]; exact i_sub (by obtain ⟨_, _⟩ := r27; obtain ⟨_, _⟩ := (⟨by decide, by decide⟩ : Rg 1 1 1); omega) (by obtain ⟨_, _⟩ := r27; obtain ⟨_, _⟩ := (⟨by decide, by decide⟩ : Rg 1 1 1); omega)
        have s40l : (1 : Int32).toInt = 1 := rfl
        refine lv_istore (lv' := [(4, .int x38), (0, .ref (ad 0)), (1, .long w), (3, .int cnt)]) hx hb d_X10_feed_33 hl (by decide) rfl (fun ls hl => ?_)
        exact ih0 x38 v _ _ _ (by have := s34; have := s40; obtain ⟨_, _⟩ := r39; omega) (rg_w r39 (by decide) (by decide)) hI hK0 hG hw hS (lv_sub hl [1, 2, 3, 0] rfl)
      · have f41 := i_nle c35
        have r42 : Rg x32 121 128 := by obtain ⟨a1, a2⟩ := r33; obtain ⟨b1, b2⟩ := (⟨by decide, by decide⟩ : Rg 120 120 120); have f := i_nle c35; exact ⟨by omega, by omega⟩
        have hG := g_neg c35 hG
        refine lv_bipush (v := -4) hx hb d_X10_feed_27 (by decide) ?_
        exact r_iret X hr hlocks hw hS ⟨⟨hI, hK0⟩, hG.trans eRR.symm⟩ d_X10_feed_29
    · exact absurd c28 (by decide)
  · skip
    have hG := g_neg w26n hG
    refine lv_if_ne (tgt := 13) hx hb d_X10_feed_7 (by decide) (fun c43 => ?_) (fun c43 => ?_)
    · exact absurd c43 (by decide)
    · refine lv_bipush (v := -2) hx hb d_X10_feed_10 (by decide) ?_
      exact r_iret X hr hlocks hw hS ⟨⟨hI, hK0⟩, hG.trans eRR.symm⟩ d_X10_feed_12
theorem d_X10_force_0 : decode c_X10_force 0 = .ok (.aload_n 0, 1) := by decide +kernel
theorem d_X10_force_1 : decode c_X10_force 1 = .ok (.getfield 52, 3) := by decide +kernel
theorem d_X10_force_4 : decode c_X10_force 4 = .ok (.iload_n 1, 1) := by decide +kernel
theorem d_X10_force_5 : decode c_X10_force 5 = .ok (.invokevirtual 182, 3) := by decide +kernel
theorem d_X10_force_8 : decode c_X10_force 8 = .ok (.ireturn, 1) := by decide +kernel
def f_X10_force_0 (v : tV) (dy : Int32) : Int32 := bnd (f_X4_inForce_50 v dy) fun x2 => x2
set_option maxHeartbeats 4000000 in
set_option maxRecDepth 100000 in
theorem ct_X10_force_0 (l : Launch) (D : va_G) (dA : Nat → ClassId) (ad : Nat → Nat) (v : tV) (hI : Inv v) (dy : Int32) : Met l m_X10_force [.code m_X10_force c_X10_force 2 (some .int)] ({ frames := 2, cells := 0, slots := 0, locals := 64 } : Room) (tP D dA ad v [.ref (ad 0), .int dy]) (tQi D dA ad (fun r v' => (v' = v) ∧ r = f_X10_force_0 v dy)) 0 0 (tA ad) := by
  refine tMet (by decide) (Nat.le_of_ble_eq_true rfl) ?_
  intro p e s m below meth c ls X hr hlocks hw hl
  have X : CX p s m ([.ref (ad 0), .int dy] : List Value).toArray c c_X10_force N_X10 2 D dA := X
  have hx := X.1
  have hb := X.2.1
  have hS : va_S (tA ad) s.heap s.heap [] := va_S.rf
  have hl : lv_has ls 2 [(0, .ref (ad 0)), (1, .int dy)] := hl
  obtain ⟨RR, eRR⟩ : ∃ z, f_X10_force_0 v dy = z := ⟨_, rfl⟩
  have hG := eRR
  unfold f_X10_force_0 at hG
  refine lv_aload_n hx hb d_X10_force_0 rfl (lv_at hl 0 rfl) ?_
  refine r_getr (r := 50) X hw FL_X10_52 (rfl : KD 0 = _) rfl d_X10_force_1 ?_
  refine lv_iload_n hx hb d_X10_force_4 rfl (lv_at hl 1 rfl) ?_
  refine r_ci (r_runV (n := 1) (As := [.int dy]) (rest := []) X hw (ct_X4_inForce_50 l D dA ad v hI dy) gc_X10_182 (rfl : KD 50 = _) (by decide) rfl (by decide +kernel) ⟨rfl, rfl, Nat.le_of_ble_eq_true rfl, Nat.le_of_ble_eq_true rfl⟩ rfl hl.1 rfl (Nat.le_of_ble_eq_true rfl) ⟨Nat.zero_le _, Nat.zero_le _⟩ d_X10_force_5) hS (fun x2 v3 H locs hp1 hw hS => ?_)
  obtain ⟨hp1, hE4⟩ := hp1
  obtain ⟨ev3, hp1⟩ := hp1
  rw [ev3] at hw
  have hG := bnd_use hE4 hG
  exact r_iret X hr hlocks hw hS ⟨rfl, hG.trans eRR.symm⟩ d_X10_force_8
theorem d_X10_many_0 : decode c_X10_many 0 = .ok (.aload_n 0, 1) := by decide +kernel
theorem d_X10_many_1 : decode c_X10_many 1 = .ok (.getfield 52, 3) := by decide +kernel
theorem d_X10_many_4 : decode c_X10_many 4 = .ok (.iload_n 1, 1) := by decide +kernel
theorem d_X10_many_5 : decode c_X10_many 5 = .ok (.invokevirtual 185, 3) := by decide +kernel
theorem d_X10_many_8 : decode c_X10_many 8 = .ok (.ifCond .ne 5, 3) := by decide +kernel
theorem d_X10_many_11 : decode c_X10_many 11 = .ok (.iconst (-1), 1) := by decide +kernel
theorem d_X10_many_12 : decode c_X10_many 12 = .ok (.ireturn, 1) := by decide +kernel
theorem d_X10_many_13 : decode c_X10_many 13 = .ok (.iload_n 2, 1) := by decide +kernel
theorem d_X10_many_14 : decode c_X10_many 14 = .ok (.ifCond .ge 6, 3) := by decide +kernel
theorem d_X10_many_17 : decode c_X10_many 17 = .ok (.bipush (-2), 2) := by decide +kernel
theorem d_X10_many_19 : decode c_X10_many 19 = .ok (.ireturn, 1) := by decide +kernel
theorem d_X10_many_20 : decode c_X10_many 20 = .ok (.aload_n 0, 1) := by decide +kernel
theorem d_X10_many_21 : decode c_X10_many 21 = .ok (.getfield 52, 3) := by decide +kernel
theorem d_X10_many_24 : decode c_X10_many 24 = .ok (.getfield 169, 3) := by decide +kernel
theorem d_X10_many_27 : decode c_X10_many 27 = .ok (.iload_n 1, 1) := by decide +kernel
theorem d_X10_many_28 : decode c_X10_many 28 = .ok (.aaload, 1) := by decide +kernel
theorem d_X10_many_29 : decode c_X10_many 29 = .ok (.iload_n 2, 1) := by decide +kernel
theorem d_X10_many_30 : decode c_X10_many 30 = .ok (.invokevirtual 188, 3) := by decide +kernel
theorem d_X10_many_33 : decode c_X10_many 33 = .ok (.ireturn, 1) := by decide +kernel
def f_X10_many_0 (v : tV) (od : Int32) (pr : Int32) : Int32 := (if 0 ≤ od.toInt ∧ od.toInt ≤ (v 50 2).toInt - 1 then (if (0 : Int32) ≤ pr then bnd (60 + od.toNatClampNeg) fun kc10 => bnd (f_X3_sellers v kc10 pr) fun x12 => x12 else (-2 : Int32)) else (-1 : Int32))
set_option maxHeartbeats 4000000 in
set_option maxRecDepth 100000 in
theorem ct_X10_many_0 (l : Launch) (D : va_G) (dA : Nat → ClassId) (ad : Nat → Nat) (v : tV) (hI : Inv v) (od : Int32) (pr : Int32) : Met l m_X10_many [.code m_X10_many c_X10_many 3 (some .int)] ({ frames := 3, cells := 0, slots := 0, locals := 83 } : Room) (tP D dA ad v [.ref (ad 0), .int od, .int pr]) (tQi D dA ad (fun r v' => (v' = v) ∧ r = f_X10_many_0 v od pr)) 0 0 (tA ad) := by
  refine tMet (by decide) (Nat.le_of_ble_eq_true rfl) ?_
  intro p e s m below meth c ls X hr hlocks hw hl
  have X : CX p s m ([.ref (ad 0), .int od, .int pr] : List Value).toArray c c_X10_many N_X10 3 D dA := X
  have hx := X.1
  have hb := X.2.1
  have hS : va_S (tA ad) s.heap s.heap [] := va_S.rf
  have hl : lv_has ls 3 [(0, .ref (ad 0)), (1, .int od), (2, .int pr)] := hl
  obtain ⟨RR, eRR⟩ : ∃ z, f_X10_many_0 v od pr = z := ⟨_, rfl⟩
  have hG := eRR
  unfold f_X10_many_0 at hG
  refine lv_aload_n hx hb d_X10_many_0 rfl (lv_at hl 0 rfl) ?_
  refine r_getr (r := 50) X hw FL_X10_52 (rfl : KD 0 = _) rfl d_X10_many_1 ?_
  refine lv_iload_n hx hb d_X10_many_4 rfl (lv_at hl 1 rfl) ?_
  refine r_ci (r_runV (n := 1) (As := [.int od]) (rest := []) X hw (ct_X4_has_50 l D dA ad v hI od) gc_X10_185 (rfl : KD 50 = _) (by decide) rfl (by decide +kernel) ⟨rfl, rfl, Nat.le_of_ble_eq_true rfl, Nat.le_of_ble_eq_true rfl⟩ rfl hl.1 rfl (Nat.le_of_ble_eq_true rfl) ⟨Nat.zero_le _, Nat.zero_le _⟩ d_X10_many_5) hS (fun x2 v3 H locs hp1 hw hS => ?_)
  obtain ⟨ev3, hp1⟩ := hp1
  rw [ev3] at hw
  rcases hp1 with ⟨rfl, w4a, w4b⟩ | ⟨rfl, w4n⟩
  · skip
    have hG := g_pos ⟨w4a, w4b⟩ hG
    have r5 : Rg od 0 7 := by have q := hI 50 2 0 8 rfl; obtain ⟨_, _⟩ := q; obtain ⟨_, _⟩ := (rg_any od); exact ⟨by omega, by omega⟩
    refine lv_if_ne (tgt := 13) hx hb d_X10_many_8 (by decide) (fun c6 => ?_) (fun c6 => ?_)
    · refine lv_iload_n hx hb d_X10_many_13 rfl (lv_at hl 2 rfl) ?_
      refine lv_if_ge (tgt := 20) hx hb d_X10_many_14 (by decide) (fun c7 => ?_) (fun c7 => ?_)
      · have f8 := i_le c7
        have r9 : Rg pr 0 2147483647 := by obtain ⟨a1, a2⟩ := (rg_any pr); obtain ⟨b1, b2⟩ := (⟨by decide, by decide⟩ : Rg 0 0 0); have f := i_le c7; exact ⟨by omega, by omega⟩
        have hG := g_pos c7 hG
        refine lv_aload_n hx hb d_X10_many_20 rfl (lv_at hl 0 rfl) ?_
        refine r_getr (r := 50) X hw FL_X10_52 (rfl : KD 0 = _) rfl d_X10_many_21 ?_
        refine r_getr (r := 51) X hw FL_X10_169 (rfl : KD 50 = _) rfl d_X10_many_24 ?_
        refine lv_iload_n hx hb d_X10_many_27 rfl (lv_at hl 1 rfl) ?_
        refine r_aald X hw (rfl : KD 51 = _) (Or.inr (Or.inr (Or.inr rfl))) (Rg.vp (b := 7) r5 (by decide)) rfl d_X10_many_28 ?_
        refine r_nm (fun kc10 ekc10 => ?_)
        have hG := bnd_use ekc10 hG
        have kc10a : 60 ≤ kc10 := by omega
        have kc10b : kc10 ≤ 67 := by have := Rg.nat r5; omega
        refine lv_iload_n hx hb d_X10_many_29 rfl (lv_at hl 2 rfl) ?_
        refine r_ci (r_runV (n := 1) (As := [.int pr]) (rest := []) X hw (ct_X3_sellers l D dA ad v hI kc10 pr (by omega) (by omega)) gc_X10_188 (KD_order (by omega) (by omega)) (by decide) rfl (by decide +kernel) ⟨rfl, rfl, Nat.le_of_ble_eq_true rfl, Nat.le_of_ble_eq_true rfl⟩ rfl hl.1 rfl (Nat.le_of_ble_eq_true rfl) ⟨Nat.zero_le _, Nat.zero_le _⟩ d_X10_many_30) hS (fun x12 v13 H locs hp11 hw hS => ?_)
        obtain ⟨hp11, hE14⟩ := hp11
        obtain ⟨ev13, hp11⟩ := hp11
        rw [ev13] at hw
        have hG := bnd_use hE14 hG
        exact r_iret X hr hlocks hw hS ⟨rfl, hG.trans eRR.symm⟩ d_X10_many_33
      · have f15 := i_nle c7
        have r16 : Rg pr (-2147483648) (-1) := by obtain ⟨a1, a2⟩ := (rg_any pr); obtain ⟨b1, b2⟩ := (⟨by decide, by decide⟩ : Rg 0 0 0); have f := i_nle c7; exact ⟨by omega, by omega⟩
        have hG := g_neg c7 hG
        refine lv_bipush (v := -2) hx hb d_X10_many_17 (by decide) ?_
        exact r_iret X hr hlocks hw hS ⟨rfl, hG.trans eRR.symm⟩ d_X10_many_19
    · exact absurd c6 (by decide)
  · skip
    have hG := g_neg w4n hG
    refine lv_if_ne (tgt := 13) hx hb d_X10_many_8 (by decide) (fun c17 => ?_) (fun c17 => ?_)
    · exact absurd c17 (by decide)
    · refine lv_iconst (v := -1) hx hb d_X10_many_11 (by decide) ?_
      exact r_iret X hr hlocks hw hS ⟨rfl, hG.trans eRR.symm⟩ d_X10_many_12
theorem d_X10_turn_0 : decode c_X10_turn 0 = .ok (.aload_n 0, 1) := by decide +kernel
theorem d_X10_turn_1 : decode c_X10_turn 1 = .ok (.getfield 25, 3) := by decide +kernel
theorem d_X10_turn_4 : decode c_X10_turn 4 = .ok (.aload_n 0, 1) := by decide +kernel
theorem d_X10_turn_5 : decode c_X10_turn 5 = .ok (.getfield 10, 3) := by decide +kernel
theorem d_X10_turn_8 : decode c_X10_turn 8 = .ok (.aload_n 0, 1) := by decide +kernel
theorem d_X10_turn_9 : decode c_X10_turn 9 = .ok (.getfield 52, 3) := by decide +kernel
theorem d_X10_turn_12 : decode c_X10_turn 12 = .ok (.aload_n 0, 1) := by decide +kernel
theorem d_X10_turn_13 : decode c_X10_turn 13 = .ok (.getfield 10, 3) := by decide +kernel
theorem d_X10_turn_16 : decode c_X10_turn 16 = .ok (.getfield 191, 3) := by decide +kernel
theorem d_X10_turn_19 : decode c_X10_turn 19 = .ok (.invokevirtual 194, 3) := by decide +kernel
theorem d_X10_turn_22 : decode c_X10_turn 22 = .ok (.invokevirtual 198, 3) := by decide +kernel
theorem d_X10_turn_25 : decode c_X10_turn 25 = .ok (.iload_n 1, 1) := by decide +kernel
theorem d_X10_turn_26 : decode c_X10_turn 26 = .ok (.iconst 0, 1) := by decide +kernel
theorem d_X10_turn_27 : decode c_X10_turn 27 = .ok (.aload_n 0, 1) := by decide +kernel
theorem d_X10_turn_28 : decode c_X10_turn 28 = .ok (.getfield 25, 3) := by decide +kernel
theorem d_X10_turn_31 : decode c_X10_turn 31 = .ok (.getfield 202, 3) := by decide +kernel
theorem d_X10_turn_34 : decode c_X10_turn 34 = .ok (.iconst 1, 1) := by decide +kernel
theorem d_X10_turn_35 : decode c_X10_turn 35 = .ok (.isub, 1) := by decide +kernel
theorem d_X10_turn_36 : decode c_X10_turn 36 = .ok (.invokestatic 74, 3) := by decide +kernel
theorem d_X10_turn_39 : decode c_X10_turn 39 = .ok (.ifCond .eq 15, 3) := by decide +kernel
theorem d_X10_turn_42 : decode c_X10_turn 42 = .ok (.aload_n 0, 1) := by decide +kernel
theorem d_X10_turn_43 : decode c_X10_turn 43 = .ok (.getfield 25, 3) := by decide +kernel
theorem d_X10_turn_46 : decode c_X10_turn 46 = .ok (.getfield 203, 3) := by decide +kernel
theorem d_X10_turn_49 : decode c_X10_turn 49 = .ok (.iload_n 1, 1) := by decide +kernel
theorem d_X10_turn_50 : decode c_X10_turn 50 = .ok (.iaload, 1) := by decide +kernel
theorem d_X10_turn_51 : decode c_X10_turn 51 = .ok (.goto 4, 3) := by decide +kernel
theorem d_X10_turn_54 : decode c_X10_turn 54 = .ok (.iconst (-1), 1) := by decide +kernel
theorem d_X10_turn_55 : decode c_X10_turn 55 = .ok (.ireturn, 1) := by decide +kernel
def kp_X10_turn_0 (ti : Int32) (a j : Nat) : Prop := a ≠ 20 ∧ a ≠ 22 ∧ a ≠ 24
def f_X10_turn_0 (v : tV) (ti : Int32) : Int32 × tV := bnd (v 1 5) fun x1 => bnd (f_X4_ruleOn_50 v x1) fun kc4 => bnd (f_X5_line_20_1 v kc4) fun v7 => bnd (v7 20 2) fun x12 => bnd (x12 - (1 : Int32)) fun x15 => (if (0 : Int32).toInt ≤ ti.toInt ∧ ti.toInt ≤ x15.toInt then bnd (v7 22 ti.toNatClampNeg) fun x24 => (x24, v7) else ((-1 : Int32), v7))
set_option maxHeartbeats 4000000 in
set_option maxRecDepth 100000 in
theorem ct_X10_turn_0 (l : Launch) (D : va_G) (dA : Nat → ClassId) (ad : Nat → Nat) (v : tV) (hI : Inv v) (ti : Int32) : Met l m_X10_turn [.code m_X10_turn c_X10_turn 2 (some .int)] ({ frames := 4, cells := 0, slots := 0, locals := 110 } : Room) (tP D dA ad v [.ref (ad 0), .int ti]) (tQi D dA ad (fun r v' => (Inv v' ∧ Kp (kp_X10_turn_0 ti) v v') ∧ (r, v') = f_X10_turn_0 v ti)) 0 0 (tA ad) := by
  refine tMet (by decide) (Nat.le_of_ble_eq_true rfl) ?_
  intro p e s m below meth c ls X hr hlocks hw hl
  have X : CX p s m ([.ref (ad 0), .int ti] : List Value).toArray c c_X10_turn N_X10 2 D dA := X
  have hx := X.1
  have hb := X.2.1
  have hS : va_S (tA ad) s.heap s.heap [] := va_S.rf
  have hl : lv_has ls 2 [(0, .ref (ad 0)), (1, .int ti)] := hl
  obtain ⟨RR, eRR⟩ : ∃ z, f_X10_turn_0 v ti = z := ⟨_, rfl⟩
  have hK0 : Kp (kp_X10_turn_0 ti) v v := Kp.rf _ v
  have hG := eRR
  unfold f_X10_turn_0 at hG
  refine lv_aload_n hx hb d_X10_turn_0 rfl (lv_at hl 0 rfl) ?_
  refine r_getr (r := 20) X hw FL_X10_25 (rfl : KD 0 = _) rfl d_X10_turn_1 ?_
  refine lv_aload_n hx hb d_X10_turn_4 rfl (lv_at hl 0 rfl) ?_
  refine r_getr (r := 1) X hw FL_X10_10 (rfl : KD 0 = _) rfl d_X10_turn_5 ?_
  refine lv_aload_n hx hb d_X10_turn_8 rfl (lv_at hl 0 rfl) ?_
  refine r_getr (r := 50) X hw FL_X10_52 (rfl : KD 0 = _) rfl d_X10_turn_9 ?_
  refine lv_aload_n hx hb d_X10_turn_12 rfl (lv_at hl 0 rfl) ?_
  refine r_getr (r := 1) X hw FL_X10_10 (rfl : KD 0 = _) rfl d_X10_turn_13 ?_
  refine r_geti X hw FL_X10_191 (rfl : KD 1 = _) rfl d_X10_turn_16 ?_
  refine lv_topi (fun x1 ex1 => ?_)
  have hG := bnd_use ex1 hG
  refine r_cr (r_runV (n := 1) (As := [.int x1]) (rest := [.ref (ad 1), .ref (ad 20)]) X hw (ct_X4_ruleOn_50 l D dA ad v hI x1) gc_X10_194 (rfl : KD 50 = _) (by decide) rfl (by decide +kernel) ⟨rfl, rfl, Nat.le_of_ble_eq_true rfl, Nat.le_of_ble_eq_true rfl⟩ rfl hl.1 rfl (Nat.le_of_ble_eq_true rfl) ⟨Nat.zero_le _, Nat.zero_le _⟩ d_X10_turn_19) hS (fun kc4 v3 H locs hp2 hw hS => ?_)
  obtain ⟨hp2, hE5⟩ := hp2
  obtain ⟨ev3, kc4a, kc4b⟩ := hp2
  rw [ev3] at hw
  have hG := bnd_use hE5 hG
  refine r_cv (r_runV (n := 2) (As := [.ref (ad 1), .ref (ad kc4)]) (rest := []) X hw (ct_X5_line_20_1 l D dA ad v hI kc4 (by omega) (by omega)) gc_X10_198 (rfl : KD 20 = _) (by decide) rfl (by decide +kernel) ⟨rfl, rfl, Nat.le_of_ble_eq_true rfl, Nat.le_of_ble_eq_true rfl⟩ rfl hl.1 rfl (Nat.le_of_ble_eq_true rfl) ⟨Nat.zero_le _, Nat.zero_le _⟩ d_X10_turn_22) hS (fun v7 H locs hp6 hw hS => ?_)
  obtain ⟨hp6, hE8⟩ := hp6
  obtain ⟨hI9, hK10⟩ := hp6
  have hK11 : Kp (kp_X10_turn_0 ti) v v7 := Kp.tr hK0 hK10 (by have z0 : (0 : Int32).toInt = 0 := rfl; intro a j; unfold kp_X10_turn_0 kp_X5_line_20_1; omega)
  have hG := bnd_use hE8 hG
  refine lv_iload_n hx hb d_X10_turn_25 rfl (lv_at hl 1 rfl) ?_
  refine lv_iconst (v := 0) hx hb d_X10_turn_26 (by decide) ?_
  refine lv_aload_n hx hb d_X10_turn_27 rfl (lv_at hl 0 rfl) ?_
  refine r_getr (r := 20) X hw FL_X10_25 (rfl : KD 0 = _) rfl d_X10_turn_28 ?_
  refine r_geti X hw FL_X10_202 (rfl : KD 20 = _) rfl d_X10_turn_31 ?_
  refine lv_topi (fun x12 ex12 => ?_)
  have hG := bnd_use ex12 hG
  have r13 : Rg x12 0 20 := by rw [ex12]; exact hI9 _ _ _ _ rfl
  have hm14 : v7 20 2 = x12 := ex12.symm
  refine lv_iconst (v := 1) hx hb d_X10_turn_34 (by decide) ?_
  refine lv_isub hx hb d_X10_turn_35 ?_
  refine lv_topi (fun x15 ex15 => ?_)
  have hG := bnd_use ex15 hG
  have r16 : Rg x15 (-1) 19 := rg_sub ex15 r13 (⟨by decide, by decide⟩ : Rg 1 1 1) (by decide) (by decide)
  have s17 : x15.toInt = x12.toInt - (1 : Int32).toInt := by rw [ex15]; exact i_sub (by obtain ⟨_, _⟩ := r13; obtain ⟨_, _⟩ := (⟨by decide, by decide⟩ : Rg 1 1 1); omega) (by obtain ⟨_, _⟩ := r13; obtain ⟨_, _⟩ := (⟨by decide, by decide⟩ : Rg 1 1 1); omega)
  have s17l : (1 : Int32).toInt = 1 := rfl
  refine r_ci (r_runS (n := 3) (As := [.int ti, .int 0, .int x15]) (rest := []) X hw (ct_X10_within l D dA ad v7 hI9 ti 0 x15) gc_X10_74 (by decide +kernel) ⟨rfl, rfl, Nat.le_of_ble_eq_true rfl, Nat.le_of_ble_eq_true rfl⟩ rfl hl.1 rfl (Nat.le_of_ble_eq_true rfl) ⟨Nat.zero_le _, Nat.zero_le _⟩ d_X10_turn_36) hS (fun x19 v20 H locs hp18 hw hS => ?_)
  obtain ⟨ev20, hp18⟩ := hp18
  rw [ev20] at hw
  rcases hp18 with ⟨rfl, w21a, w21b⟩ | ⟨rfl, w21n⟩
  · skip
    have hG := g_pos ⟨w21a, w21b⟩ hG
    have r22 : Rg ti 0 19 := by obtain ⟨_, _⟩ := (rg_any ti); have : (0 : Int32).toInt = 0 := rfl; obtain ⟨_, _⟩ := r16; exact ⟨by omega, by omega⟩
    refine lv_if_eq (tgt := 54) hx hb d_X10_turn_39 (by decide) (fun c23 => ?_) (fun c23 => ?_)
    · exact absurd c23 (by decide)
    · refine lv_aload_n hx hb d_X10_turn_42 rfl (lv_at hl 0 rfl) ?_
      refine r_getr (r := 20) X hw FL_X10_25 (rfl : KD 0 = _) rfl d_X10_turn_43 ?_
      refine r_getr (r := 22) X hw FL_X10_203 (rfl : KD 20 = _) rfl d_X10_turn_46 ?_
      refine lv_iload_n hx hb d_X10_turn_49 rfl (lv_at hl 1 rfl) ?_
      refine r_iald X hw (rfl : KD 22 = _) (Rg.vp (b := 19) r22 (by decide)) rfl d_X10_turn_50 ?_
      refine lv_topi (fun x24 ex24 => ?_)
      have hG := bnd_use ex24 hG
      have r25 : Rg x24 0 19 := by rw [ex24]; exact hI9 _ _ _ _ rfl
      refine lv_goto (tgt := 55) hx hb d_X10_turn_51 (by decide) ?_
      exact r_iret X hr hlocks hw hS ⟨⟨hI9, hK11⟩, hG.trans eRR.symm⟩ d_X10_turn_55
  · skip
    have hG := g_neg w21n hG
    refine lv_if_eq (tgt := 54) hx hb d_X10_turn_39 (by decide) (fun c26 => ?_) (fun c26 => ?_)
    · refine lv_iconst (v := -1) hx hb d_X10_turn_54 (by decide) ?_
      exact r_iret X hr hlocks hw hS ⟨⟨hI9, hK11⟩, hG.trans eRR.symm⟩ d_X10_turn_55
    · exact absurd c26 (by decide)
theorem d_X10_day_0 : decode c_X10_day 0 = .ok (.iload_n 1, 1) := by decide +kernel
theorem d_X10_day_1 : decode c_X10_day 1 = .ok (.invokestatic 205, 3) := by decide +kernel
theorem d_X10_day_4 : decode c_X10_day 4 = .ok (.ifCond .eq 19, 3) := by decide +kernel
theorem d_X10_day_7 : decode c_X10_day 7 = .ok (.iload_n 2, 1) := by decide +kernel
theorem d_X10_day_8 : decode c_X10_day 8 = .ok (.invokestatic 145, 3) := by decide +kernel
theorem d_X10_day_11 : decode c_X10_day 11 = .ok (.ifCond .eq 12, 3) := by decide +kernel
theorem d_X10_day_14 : decode c_X10_day 14 = .ok (.iload_n 3, 1) := by decide +kernel
theorem d_X10_day_15 : decode c_X10_day 15 = .ok (.iconst 0, 1) := by decide +kernel
theorem d_X10_day_16 : decode c_X10_day 16 = .ok (.iconst 1, 1) := by decide +kernel
theorem d_X10_day_17 : decode c_X10_day 17 = .ok (.invokestatic 74, 3) := by decide +kernel
theorem d_X10_day_20 : decode c_X10_day 20 = .ok (.ifCond .ne 6, 3) := by decide +kernel
theorem d_X10_day_23 : decode c_X10_day 23 = .ok (.bipush (-2), 2) := by decide +kernel
theorem d_X10_day_25 : decode c_X10_day 25 = .ok (.ireturn, 1) := by decide +kernel
theorem d_X10_day_26 : decode c_X10_day 26 = .ok (.aload_n 0, 1) := by decide +kernel
theorem d_X10_day_27 : decode c_X10_day 27 = .ok (.getfield 10, 3) := by decide +kernel
theorem d_X10_day_30 : decode c_X10_day 30 = .ok (.getfield 191, 3) := by decide +kernel
theorem d_X10_day_33 : decode c_X10_day 33 = .ok (.sipush 999, 3) := by decide +kernel
theorem d_X10_day_36 : decode c_X10_day 36 = .ok (.if_icmp .lt 6, 3) := by decide +kernel
theorem d_X10_day_39 : decode c_X10_day 39 = .ok (.bipush (-4), 2) := by decide +kernel
theorem d_X10_day_41 : decode c_X10_day 41 = .ok (.ireturn, 1) := by decide +kernel
theorem d_X10_day_42 : decode c_X10_day 42 = .ok (.aload_n 0, 1) := by decide +kernel
theorem d_X10_day_43 : decode c_X10_day 43 = .ok (.getfield 35, 3) := by decide +kernel
theorem d_X10_day_46 : decode c_X10_day 46 = .ok (.invokevirtual 208, 3) := by decide +kernel
theorem d_X10_day_49 : decode c_X10_day 49 = .ok (.aload_n 0, 1) := by decide +kernel
theorem d_X10_day_50 : decode c_X10_day 50 = .ok (.getfield 10, 3) := by decide +kernel
theorem d_X10_day_53 : decode c_X10_day 53 = .ok (.iload_n 1, 1) := by decide +kernel
theorem d_X10_day_54 : decode c_X10_day 54 = .ok (.invokevirtual 211, 3) := by decide +kernel
theorem d_X10_day_57 : decode c_X10_day 57 = .ok (.iload_n 3, 1) := by decide +kernel
theorem d_X10_day_58 : decode c_X10_day 58 = .ok (.ifCond .ne 59, 3) := by decide +kernel
theorem d_X10_day_61 : decode c_X10_day 61 = .ok (.aload_n 0, 1) := by decide +kernel
theorem d_X10_day_62 : decode c_X10_day 62 = .ok (.getfield 29, 3) := by decide +kernel
theorem d_X10_day_65 : decode c_X10_day 65 = .ok (.aload_n 0, 1) := by decide +kernel
theorem d_X10_day_66 : decode c_X10_day 66 = .ok (.getfield 10, 3) := by decide +kernel
theorem d_X10_day_69 : decode c_X10_day 69 = .ok (.aload_n 0, 1) := by decide +kernel
theorem d_X10_day_70 : decode c_X10_day 70 = .ok (.getfield 52, 3) := by decide +kernel
theorem d_X10_day_73 : decode c_X10_day 73 = .ok (.aload_n 0, 1) := by decide +kernel
theorem d_X10_day_74 : decode c_X10_day 74 = .ok (.getfield 10, 3) := by decide +kernel
theorem d_X10_day_77 : decode c_X10_day 77 = .ok (.getfield 191, 3) := by decide +kernel
theorem d_X10_day_80 : decode c_X10_day 80 = .ok (.invokevirtual 194, 3) := by decide +kernel
theorem d_X10_day_83 : decode c_X10_day 83 = .ok (.invokevirtual 198, 3) := by decide +kernel
theorem d_X10_day_86 : decode c_X10_day 86 = .ok (.aload_n 0, 1) := by decide +kernel
theorem d_X10_day_87 : decode c_X10_day 87 = .ok (.getfield 16, 3) := by decide +kernel
theorem d_X10_day_90 : decode c_X10_day 90 = .ok (.aload_n 0, 1) := by decide +kernel
theorem d_X10_day_91 : decode c_X10_day 91 = .ok (.getfield 10, 3) := by decide +kernel
theorem d_X10_day_94 : decode c_X10_day 94 = .ok (.invokevirtual 214, 3) := by decide +kernel
theorem d_X10_day_97 : decode c_X10_day 97 = .ok (.aload_n 0, 1) := by decide +kernel
theorem d_X10_day_98 : decode c_X10_day 98 = .ok (.iconst 1, 1) := by decide +kernel
theorem d_X10_day_99 : decode c_X10_day 99 = .ok (.putfield 63, 3) := by decide +kernel
theorem d_X10_day_102 : decode c_X10_day 102 = .ok (.aload_n 0, 1) := by decide +kernel
theorem d_X10_day_103 : decode c_X10_day 103 = .ok (.getfield 10, 3) := by decide +kernel
theorem d_X10_day_106 : decode c_X10_day 106 = .ok (.aload_n 0, 1) := by decide +kernel
theorem d_X10_day_107 : decode c_X10_day 107 = .ok (.getfield 29, 3) := by decide +kernel
theorem d_X10_day_110 : decode c_X10_day 110 = .ok (.aload_n 0, 1) := by decide +kernel
theorem d_X10_day_111 : decode c_X10_day 111 = .ok (.getfield 35, 3) := by decide +kernel
theorem d_X10_day_114 : decode c_X10_day 114 = .ok (.invokevirtual 218, 3) := by decide +kernel
theorem d_X10_day_117 : decode c_X10_day 117 = .ok (.aload_n 0, 1) := by decide +kernel
theorem d_X10_day_118 : decode c_X10_day 118 = .ok (.getfield 10, 3) := by decide +kernel
theorem d_X10_day_121 : decode c_X10_day 121 = .ok (.iload_n 2, 1) := by decide +kernel
theorem d_X10_day_122 : decode c_X10_day 122 = .ok (.invokevirtual 222, 3) := by decide +kernel
theorem d_X10_day_125 : decode c_X10_day 125 = .ok (.aload_n 0, 1) := by decide +kernel
theorem d_X10_day_126 : decode c_X10_day 126 = .ok (.getfield 35, 3) := by decide +kernel
theorem d_X10_day_129 : decode c_X10_day 129 = .ok (.getfield 225, 3) := by decide +kernel
theorem d_X10_day_132 : decode c_X10_day 132 = .ok (.ireturn, 1) := by decide +kernel
def kp_X10_day_0 (wi : Int32) (co : Int32) (fr : Int32) (a j : Nat) : Prop := 400 ≤ a ∨ (a = 1 ∧ (j = 3 ∨ j = 4)) ∨ (100 ≤ a ∧ a < 120 ∧ j ≤ 4) ∨ (200 ≤ a ∧ a < 210 ∧ j ≤ 1) ∨ (320 ≤ a ∧ a < 326) ∨ (a = 0 ∧ (j = 11 ∨ j = 12)) ∨ (200 ≤ a ∧ a < 210 ∧ j = 3) ∨ (a = 50 ∧ j = 2) ∨ (60 ≤ a ∧ a < 99) ∨ a = 55 ∨ a = 56
def f_X10_day_0 (v : tV) (wi : Int32) (co : Int32) (fr : Int32) : Int32 × tV := (if 0 ≤ wi.toInt ∧ wi.toInt ≤ 9 then (if 0 ≤ co.toInt ∧ co.toInt ≤ 4 then (if (0 : Int32).toInt ≤ fr.toInt ∧ fr.toInt ≤ (1 : Int32).toInt then bnd (v 1 5) fun x19 => (if x19 < (999 : Int32) then bnd (f_X1_open_30 v ) fun v24 => bnd (f_X6_sail_1 v24 wi) fun v30 => (if fr = (0 : Int32) then bnd (v30 1 5) fun x47 => bnd (f_X4_ruleOn_50 v30 x47) fun kc50 => bnd (f_X5_line_21_1 v30 kc50) fun v53 => bnd (f_X6_copy_2_1 v53 ) fun v59 => bnd (up2 v59 0 10 1) fun v64 => bnd (f_X6_trade_1_21_30 v64 ) fun v68 => bnd (f_X6_endDay_1 v68 co) fun v74 => bnd (v74 30 5) fun x79 => (x79, v74) else bnd (f_X6_endDay_1 v30 co) fun v39 => bnd (v39 30 5) fun x44 => (x44, v39)) else ((-4 : Int32), v)) else ((-2 : Int32), v)) else ((-2 : Int32), v)) else ((-2 : Int32), v))
set_option maxHeartbeats 4000000 in
set_option maxRecDepth 100000 in
theorem ct_X10_day_0 (l : Launch) (D : va_G) (dA : Nat → ClassId) (ad : Nat → Nat) (v : tV) (hI : Inv v) (wi : Int32) (co : Int32) (fr : Int32) : Met l m_X10_day [.code m_X10_day c_X10_day 4 (some .int)] ({ frames := 6, cells := 0, slots := 0, locals := 160 } : Room) (tP D dA ad v [.ref (ad 0), .int wi, .int co, .int fr]) (tQi D dA ad (fun r v' => (Inv v' ∧ Kp (kp_X10_day_0 wi co fr) v v') ∧ (r, v') = f_X10_day_0 v wi co fr)) 0 0 (tA ad) := by
  refine tMet (by decide) (Nat.le_of_ble_eq_true rfl) ?_
  intro p e s m below meth c ls X hr hlocks hw hl
  have X : CX p s m ([.ref (ad 0), .int wi, .int co, .int fr] : List Value).toArray c c_X10_day N_X10 4 D dA := X
  have hx := X.1
  have hb := X.2.1
  have hS : va_S (tA ad) s.heap s.heap [] := va_S.rf
  have hl : lv_has ls 4 [(0, .ref (ad 0)), (1, .int wi), (2, .int co), (3, .int fr)] := hl
  obtain ⟨RR, eRR⟩ : ∃ z, f_X10_day_0 v wi co fr = z := ⟨_, rfl⟩
  have hK0 : Kp (kp_X10_day_0 wi co fr) v v := Kp.rf _ v
  have hG := eRR
  unfold f_X10_day_0 at hG
  refine lv_iload_n hx hb d_X10_day_0 rfl (lv_at hl 1 rfl) ?_
  refine r_ci (r_runS (n := 1) (As := [.int wi]) (rest := []) X hw (ct_X10_isWind l D dA ad v hI wi) gc_X10_205 (by decide +kernel) ⟨rfl, rfl, Nat.le_of_ble_eq_true rfl, Nat.le_of_ble_eq_true rfl⟩ rfl hl.1 rfl (Nat.le_of_ble_eq_true rfl) ⟨Nat.zero_le _, Nat.zero_le _⟩ d_X10_day_1) hS (fun x2 v3 H locs hp1 hw hS => ?_)
  obtain ⟨ev3, hp1⟩ := hp1
  rw [ev3] at hw
  rcases hp1 with ⟨rfl, w4a, w4b⟩ | ⟨rfl, w4n⟩
  · skip
    have hG := g_pos ⟨w4a, w4b⟩ hG
    have r5 : Rg wi 0 9 := by obtain ⟨_, _⟩ := (rg_any wi); exact ⟨by omega, by omega⟩
    refine lv_if_eq (tgt := 23) hx hb d_X10_day_4 (by decide) (fun c6 => ?_) (fun c6 => ?_)
    · exact absurd c6 (by decide)
    · refine lv_iload_n hx hb d_X10_day_7 rfl (lv_at hl 2 rfl) ?_
      refine r_ci (r_runS (n := 1) (As := [.int co]) (rest := []) X hw (ct_X10_isCold l D dA ad v hI co) gc_X10_145 (by decide +kernel) ⟨rfl, rfl, Nat.le_of_ble_eq_true rfl, Nat.le_of_ble_eq_true rfl⟩ rfl hl.1 rfl (Nat.le_of_ble_eq_true rfl) ⟨Nat.zero_le _, Nat.zero_le _⟩ d_X10_day_8) hS (fun x8 v9 H locs hp7 hw hS => ?_)
      obtain ⟨ev9, hp7⟩ := hp7
      rw [ev9] at hw
      rcases hp7 with ⟨rfl, w10a, w10b⟩ | ⟨rfl, w10n⟩
      · skip
        have hG := g_pos ⟨w10a, w10b⟩ hG
        have r11 : Rg co 0 4 := by obtain ⟨_, _⟩ := (rg_any co); exact ⟨by omega, by omega⟩
        refine lv_if_eq (tgt := 23) hx hb d_X10_day_11 (by decide) (fun c12 => ?_) (fun c12 => ?_)
        · exact absurd c12 (by decide)
        · refine lv_iload_n hx hb d_X10_day_14 rfl (lv_at hl 3 rfl) ?_
          refine lv_iconst (v := 0) hx hb d_X10_day_15 (by decide) ?_
          refine lv_iconst (v := 1) hx hb d_X10_day_16 (by decide) ?_
          refine r_ci (r_runS (n := 3) (As := [.int fr, .int 0, .int 1]) (rest := []) X hw (ct_X10_within l D dA ad v hI fr 0 1) gc_X10_74 (by decide +kernel) ⟨rfl, rfl, Nat.le_of_ble_eq_true rfl, Nat.le_of_ble_eq_true rfl⟩ rfl hl.1 rfl (Nat.le_of_ble_eq_true rfl) ⟨Nat.zero_le _, Nat.zero_le _⟩ d_X10_day_17) hS (fun x14 v15 H locs hp13 hw hS => ?_)
          obtain ⟨ev15, hp13⟩ := hp13
          rw [ev15] at hw
          rcases hp13 with ⟨rfl, w16a, w16b⟩ | ⟨rfl, w16n⟩
          · skip
            have hG := g_pos ⟨w16a, w16b⟩ hG
            have r17 : Rg fr 0 1 := by obtain ⟨_, _⟩ := (rg_any fr); have : (0 : Int32).toInt = 0 := rfl; have : (1 : Int32).toInt = 1 := rfl; exact ⟨by omega, by omega⟩
            refine lv_if_ne (tgt := 26) hx hb d_X10_day_20 (by decide) (fun c18 => ?_) (fun c18 => ?_)
            · refine lv_aload_n hx hb d_X10_day_26 rfl (lv_at hl 0 rfl) ?_
              refine r_getr (r := 1) X hw FL_X10_10 (rfl : KD 0 = _) rfl d_X10_day_27 ?_
              refine r_geti X hw FL_X10_191 (rfl : KD 1 = _) rfl d_X10_day_30 ?_
              refine lv_topi (fun x19 ex19 => ?_)
              have hG := bnd_use ex19 hG
              refine lv_sipush (v := 999) hx hb d_X10_day_33 (by decide) ?_
              refine lv_icmp_lt (tgt := 42) hx hb d_X10_day_36 (by decide) (fun c20 => ?_) (fun c20 => ?_)
              · have f21 := i_lt c20
                have r22 : Rg x19 (-2147483648) 998 := by obtain ⟨a1, a2⟩ := (rg_any x19); obtain ⟨b1, b2⟩ := (⟨by decide, by decide⟩ : Rg 999 999 999); have f := i_lt c20; exact ⟨by omega, by omega⟩
                have hG := g_pos c20 hG
                refine lv_aload_n hx hb d_X10_day_42 rfl (lv_at hl 0 rfl) ?_
                refine r_getr (r := 30) X hw FL_X10_35 (rfl : KD 0 = _) rfl d_X10_day_43 ?_
                refine r_cv (r_runV (n := 0) (As := []) (rest := []) X hw (ct_X1_open_30 l D dA ad v hI) gc_X10_208 (rfl : KD 30 = _) (by decide) rfl (by decide +kernel) ⟨rfl, rfl, Nat.le_of_ble_eq_true rfl, Nat.le_of_ble_eq_true rfl⟩ rfl hl.1 rfl (Nat.le_of_ble_eq_true rfl) ⟨Nat.zero_le _, Nat.zero_le _⟩ d_X10_day_46) hS (fun v24 H locs hp23 hw hS => ?_)
                obtain ⟨hp23, hE25⟩ := hp23
                obtain ⟨hI26, hK27⟩ := hp23
                have hK28 : Kp (kp_X10_day_0 wi co fr) v v24 := Kp.tr hK0 hK27 (by have z0 : (0 : Int32).toInt = 0 := rfl; intro a j; unfold kp_X10_day_0 kp_X1_open_30; omega)
                have hG := bnd_use hE25 hG
                refine lv_aload_n hx hb d_X10_day_49 rfl (lv_at hl 0 rfl) ?_
                refine r_getr (r := 1) X hw FL_X10_10 (rfl : KD 0 = _) rfl d_X10_day_50 ?_
                refine lv_iload_n hx hb d_X10_day_53 rfl (lv_at hl 1 rfl) ?_
                refine r_cv (r_runV (n := 1) (As := [.int wi]) (rest := []) X hw (ct_X6_sail_1 l D dA ad v24 hI26 wi) gc_X10_211 (rfl : KD 1 = _) (by decide) rfl (by decide +kernel) ⟨rfl, rfl, Nat.le_of_ble_eq_true rfl, Nat.le_of_ble_eq_true rfl⟩ rfl hl.1 rfl (Nat.le_of_ble_eq_true rfl) ⟨Nat.zero_le _, Nat.zero_le _⟩ d_X10_day_54) hS (fun v30 H locs hp29 hw hS => ?_)
                obtain ⟨hp29, hE31⟩ := hp29
                obtain ⟨hI32, hK33⟩ := hp29
                have hK34 : Kp (kp_X10_day_0 wi co fr) v v30 := Kp.tr hK28 hK33 (by have z0 : (0 : Int32).toInt = 0 := rfl; intro a j; unfold kp_X10_day_0 kp_X6_sail_1; omega)
                have hG := bnd_use hE31 hG
                refine lv_iload_n hx hb d_X10_day_57 rfl (lv_at hl 3 rfl) ?_
                refine lv_if_ne (tgt := 117) hx hb d_X10_day_58 (by decide) (fun c35 => ?_) (fun c35 => ?_)
                · have f36 := i_ne c35
                  have r37 : Rg fr 1 1 := by obtain ⟨a1, a2⟩ := r17; obtain ⟨b1, b2⟩ := (⟨by decide, by decide⟩ : Rg 0 0 0); have f := i_ne c35; exact ⟨by omega, by omega⟩
                  have hG := g_neg c35 hG
                  refine lv_aload_n hx hb d_X10_day_117 rfl (lv_at hl 0 rfl) ?_
                  refine r_getr (r := 1) X hw FL_X10_10 (rfl : KD 0 = _) rfl d_X10_day_118 ?_
                  refine lv_iload_n hx hb d_X10_day_121 rfl (lv_at hl 2 rfl) ?_
                  refine r_cv (r_runV (n := 1) (As := [.int co]) (rest := []) X hw (ct_X6_endDay_1 l D dA ad v30 hI32 co r11) gc_X10_222 (rfl : KD 1 = _) (by decide) rfl (by decide +kernel) ⟨rfl, rfl, Nat.le_of_ble_eq_true rfl, Nat.le_of_ble_eq_true rfl⟩ rfl hl.1 rfl (Nat.le_of_ble_eq_true rfl) ⟨Nat.zero_le _, Nat.zero_le _⟩ d_X10_day_122) hS (fun v39 H locs hp38 hw hS => ?_)
                  obtain ⟨hp38, hE40⟩ := hp38
                  obtain ⟨hI41, hK42⟩ := hp38
                  have hK43 : Kp (kp_X10_day_0 wi co fr) v v39 := Kp.tr hK34 hK42 (by have z0 : (0 : Int32).toInt = 0 := rfl; intro a j; unfold kp_X10_day_0 kp_X6_endDay_1; omega)
                  have hG := bnd_use hE40 hG
                  refine lv_aload_n hx hb d_X10_day_125 rfl (lv_at hl 0 rfl) ?_
                  refine r_getr (r := 30) X hw FL_X10_35 (rfl : KD 0 = _) rfl d_X10_day_126 ?_
                  refine r_geti X hw FL_X10_225 (rfl : KD 30 = _) rfl d_X10_day_129 ?_
                  refine lv_topi (fun x44 ex44 => ?_)
                  have hG := bnd_use ex44 hG
                  exact r_iret X hr hlocks hw hS ⟨⟨hI41, hK43⟩, hG.trans eRR.symm⟩ d_X10_day_132
                · have f45 := i_eq c35
                  have r46 : Rg fr 0 0 := by obtain ⟨a1, a2⟩ := r17; obtain ⟨b1, b2⟩ := (⟨by decide, by decide⟩ : Rg 0 0 0); have f := i_eq c35; exact ⟨by omega, by omega⟩
                  have hG := g_pos c35 hG
                  refine lv_aload_n hx hb d_X10_day_61 rfl (lv_at hl 0 rfl) ?_
                  refine r_getr (r := 21) X hw FL_X10_29 (rfl : KD 0 = _) rfl d_X10_day_62 ?_
                  refine lv_aload_n hx hb d_X10_day_65 rfl (lv_at hl 0 rfl) ?_
                  refine r_getr (r := 1) X hw FL_X10_10 (rfl : KD 0 = _) rfl d_X10_day_66 ?_
                  refine lv_aload_n hx hb d_X10_day_69 rfl (lv_at hl 0 rfl) ?_
                  refine r_getr (r := 50) X hw FL_X10_52 (rfl : KD 0 = _) rfl d_X10_day_70 ?_
                  refine lv_aload_n hx hb d_X10_day_73 rfl (lv_at hl 0 rfl) ?_
                  refine r_getr (r := 1) X hw FL_X10_10 (rfl : KD 0 = _) rfl d_X10_day_74 ?_
                  refine r_geti X hw FL_X10_191 (rfl : KD 1 = _) rfl d_X10_day_77 ?_
                  refine lv_topi (fun x47 ex47 => ?_)
                  have hG := bnd_use ex47 hG
                  refine r_cr (r_runV (n := 1) (As := [.int x47]) (rest := [.ref (ad 1), .ref (ad 21)]) X hw (ct_X4_ruleOn_50 l D dA ad v30 hI32 x47) gc_X10_194 (rfl : KD 50 = _) (by decide) rfl (by decide +kernel) ⟨rfl, rfl, Nat.le_of_ble_eq_true rfl, Nat.le_of_ble_eq_true rfl⟩ rfl hl.1 rfl (Nat.le_of_ble_eq_true rfl) ⟨Nat.zero_le _, Nat.zero_le _⟩ d_X10_day_80) hS (fun kc50 v49 H locs hp48 hw hS => ?_)
                  obtain ⟨hp48, hE51⟩ := hp48
                  obtain ⟨ev49, kc50a, kc50b⟩ := hp48
                  rw [ev49] at hw
                  have hG := bnd_use hE51 hG
                  refine r_cv (r_runV (n := 2) (As := [.ref (ad 1), .ref (ad kc50)]) (rest := []) X hw (ct_X5_line_21_1 l D dA ad v30 hI32 kc50 (by omega) (by omega)) gc_X10_198 (rfl : KD 21 = _) (by decide) rfl (by decide +kernel) ⟨rfl, rfl, Nat.le_of_ble_eq_true rfl, Nat.le_of_ble_eq_true rfl⟩ rfl hl.1 rfl (Nat.le_of_ble_eq_true rfl) ⟨Nat.zero_le _, Nat.zero_le _⟩ d_X10_day_83) hS (fun v53 H locs hp52 hw hS => ?_)
                  obtain ⟨hp52, hE54⟩ := hp52
                  obtain ⟨hI55, hK56⟩ := hp52
                  have hK57 : Kp (kp_X10_day_0 wi co fr) v v53 := Kp.tr hK34 hK56 (by have z0 : (0 : Int32).toInt = 0 := rfl; intro a j; unfold kp_X10_day_0 kp_X5_line_21_1; omega)
                  have hG := bnd_use hE54 hG
                  refine lv_aload_n hx hb d_X10_day_86 rfl (lv_at hl 0 rfl) ?_
                  refine r_getr (r := 2) X hw FL_X10_16 (rfl : KD 0 = _) rfl d_X10_day_87 ?_
                  refine lv_aload_n hx hb d_X10_day_90 rfl (lv_at hl 0 rfl) ?_
                  refine r_getr (r := 1) X hw FL_X10_10 (rfl : KD 0 = _) rfl d_X10_day_91 ?_
                  refine r_cv (r_runV (n := 1) (As := [.ref (ad 1)]) (rest := []) X hw (ct_X6_copy_2_1 l D dA ad v53 hI55) gc_X10_214 (rfl : KD 2 = _) (by decide) rfl (by decide +kernel) ⟨rfl, rfl, Nat.le_of_ble_eq_true rfl, Nat.le_of_ble_eq_true rfl⟩ rfl hl.1 rfl (Nat.le_of_ble_eq_true rfl) ⟨Nat.zero_le _, Nat.zero_le _⟩ d_X10_day_94) hS (fun v59 H locs hp58 hw hS => ?_)
                  obtain ⟨hp58, hE60⟩ := hp58
                  obtain ⟨hI61, hK62⟩ := hp58
                  have hK63 : Kp (kp_X10_day_0 wi co fr) v v59 := Kp.tr hK57 hK62 (by have z0 : (0 : Int32).toInt = 0 := rfl; intro a j; unfold kp_X10_day_0 kp_X6_copy_2_1; omega)
                  have hG := bnd_use hE60 hG
                  refine lv_aload_n hx hb d_X10_day_97 rfl (lv_at hl 0 rfl) ?_
                  refine lv_iconst (v := 1) hx hb d_X10_day_98 (by decide) ?_
                  refine r_put X hw hS FP_X10_63 (rfl : KD 0 = _) rfl ⟨rfl, rfl⟩ d_X10_day_99 (fun H locs hw hS => ?_)
                  obtain ⟨v64, ev64⟩ : ∃ z, z = up2 v59 0 10 1 := ⟨_, rfl⟩
                  rw [← ev64] at hw
                  have hG := bnd_use ev64 hG
                  have hI65 : Inv v64 := by rw [ev64]; exact Inv.put0 hI61 _ rfl
                  have hK66 : Kp (kp_X10_day_0 wi co fr) v v64 := by rw [ev64]; exact Kp.put hK63 _ (by unfold kp_X10_day_0; omega)
                  refine lv_aload_n hx hb d_X10_day_102 rfl (lv_at hl 0 rfl) ?_
                  refine r_getr (r := 1) X hw FL_X10_10 (rfl : KD 0 = _) rfl d_X10_day_103 ?_
                  refine lv_aload_n hx hb d_X10_day_106 rfl (lv_at hl 0 rfl) ?_
                  refine r_getr (r := 21) X hw FL_X10_29 (rfl : KD 0 = _) rfl d_X10_day_107 ?_
                  refine lv_aload_n hx hb d_X10_day_110 rfl (lv_at hl 0 rfl) ?_
                  refine r_getr (r := 30) X hw FL_X10_35 (rfl : KD 0 = _) rfl d_X10_day_111 ?_
                  refine r_cv (r_runV (n := 2) (As := [.ref (ad 21), .ref (ad 30)]) (rest := []) X hw (ct_X6_trade_1_21_30 l D dA ad v64 hI65) gc_X10_218 (rfl : KD 1 = _) (by decide) rfl (by decide +kernel) ⟨rfl, rfl, Nat.le_of_ble_eq_true rfl, Nat.le_of_ble_eq_true rfl⟩ rfl hl.1 rfl (Nat.le_of_ble_eq_true rfl) ⟨Nat.zero_le _, Nat.zero_le _⟩ d_X10_day_114) hS (fun v68 H locs hp67 hw hS => ?_)
                  obtain ⟨hp67, hE69⟩ := hp67
                  obtain ⟨hI70, hK71⟩ := hp67
                  have hK72 : Kp (kp_X10_day_0 wi co fr) v v68 := Kp.tr hK66 hK71 (by have z0 : (0 : Int32).toInt = 0 := rfl; intro a j; unfold kp_X10_day_0 kp_X6_trade_1_21_30; omega)
                  have hG := bnd_use hE69 hG
                  refine lv_aload_n hx hb d_X10_day_117 rfl (lv_at hl 0 rfl) ?_
                  refine r_getr (r := 1) X hw FL_X10_10 (rfl : KD 0 = _) rfl d_X10_day_118 ?_
                  refine lv_iload_n hx hb d_X10_day_121 rfl (lv_at hl 2 rfl) ?_
                  refine r_cv (r_runV (n := 1) (As := [.int co]) (rest := []) X hw (ct_X6_endDay_1 l D dA ad v68 hI70 co r11) gc_X10_222 (rfl : KD 1 = _) (by decide) rfl (by decide +kernel) ⟨rfl, rfl, Nat.le_of_ble_eq_true rfl, Nat.le_of_ble_eq_true rfl⟩ rfl hl.1 rfl (Nat.le_of_ble_eq_true rfl) ⟨Nat.zero_le _, Nat.zero_le _⟩ d_X10_day_122) hS (fun v74 H locs hp73 hw hS => ?_)
                  obtain ⟨hp73, hE75⟩ := hp73
                  obtain ⟨hI76, hK77⟩ := hp73
                  have hK78 : Kp (kp_X10_day_0 wi co fr) v v74 := Kp.tr hK72 hK77 (by have z0 : (0 : Int32).toInt = 0 := rfl; intro a j; unfold kp_X10_day_0 kp_X6_endDay_1; omega)
                  have hG := bnd_use hE75 hG
                  refine lv_aload_n hx hb d_X10_day_125 rfl (lv_at hl 0 rfl) ?_
                  refine r_getr (r := 30) X hw FL_X10_35 (rfl : KD 0 = _) rfl d_X10_day_126 ?_
                  refine r_geti X hw FL_X10_225 (rfl : KD 30 = _) rfl d_X10_day_129 ?_
                  refine lv_topi (fun x79 ex79 => ?_)
                  have hG := bnd_use ex79 hG
                  exact r_iret X hr hlocks hw hS ⟨⟨hI76, hK78⟩, hG.trans eRR.symm⟩ d_X10_day_132
              · have f80 := i_nlt c20
                have r81 : Rg x19 999 2147483647 := by obtain ⟨a1, a2⟩ := (rg_any x19); obtain ⟨b1, b2⟩ := (⟨by decide, by decide⟩ : Rg 999 999 999); have f := i_nlt c20; exact ⟨by omega, by omega⟩
                have hG := g_neg c20 hG
                refine lv_bipush (v := -4) hx hb d_X10_day_39 (by decide) ?_
                exact r_iret X hr hlocks hw hS ⟨⟨hI, hK0⟩, hG.trans eRR.symm⟩ d_X10_day_41
            · exact absurd c18 (by decide)
          · skip
            have hG := g_neg w16n hG
            refine lv_if_ne (tgt := 26) hx hb d_X10_day_20 (by decide) (fun c82 => ?_) (fun c82 => ?_)
            · exact absurd c82 (by decide)
            · refine lv_bipush (v := -2) hx hb d_X10_day_23 (by decide) ?_
              exact r_iret X hr hlocks hw hS ⟨⟨hI, hK0⟩, hG.trans eRR.symm⟩ d_X10_day_25
      · skip
        have hG := g_neg w10n hG
        refine lv_if_eq (tgt := 23) hx hb d_X10_day_11 (by decide) (fun c83 => ?_) (fun c83 => ?_)
        · refine lv_bipush (v := -2) hx hb d_X10_day_23 (by decide) ?_
          exact r_iret X hr hlocks hw hS ⟨⟨hI, hK0⟩, hG.trans eRR.symm⟩ d_X10_day_25
        · exact absurd c83 (by decide)
  · skip
    have hG := g_neg w4n hG
    refine lv_if_eq (tgt := 23) hx hb d_X10_day_4 (by decide) (fun c84 => ?_) (fun c84 => ?_)
    · refine lv_bipush (v := -2) hx hb d_X10_day_23 (by decide) ?_
      exact r_iret X hr hlocks hw hS ⟨⟨hI, hK0⟩, hG.trans eRR.symm⟩ d_X10_day_25
    · exact absurd c84 (by decide)
theorem d_X10_about_0 : decode c_X10_about 0 = .ok (.aload_n 0, 1) := by decide +kernel
theorem d_X10_about_1 : decode c_X10_about 1 = .ok (.getfield 10, 3) := by decide +kernel
theorem d_X10_about_4 : decode c_X10_about 4 = .ok (.iload_n 1, 1) := by decide +kernel
theorem d_X10_about_5 : decode c_X10_about 5 = .ok (.invokevirtual 95, 3) := by decide +kernel
theorem d_X10_about_8 : decode c_X10_about 8 = .ok (.ifCond .eq 19, 3) := by decide +kernel
theorem d_X10_about_11 : decode c_X10_about 11 = .ok (.aload_n 0, 1) := by decide +kernel
theorem d_X10_about_12 : decode c_X10_about 12 = .ok (.getfield 10, 3) := by decide +kernel
theorem d_X10_about_15 : decode c_X10_about 15 = .ok (.getfield 85, 3) := by decide +kernel
theorem d_X10_about_18 : decode c_X10_about 18 = .ok (.iload_n 1, 1) := by decide +kernel
theorem d_X10_about_19 : decode c_X10_about 19 = .ok (.aaload, 1) := by decide +kernel
theorem d_X10_about_20 : decode c_X10_about 20 = .ok (.iload_n 2, 1) := by decide +kernel
theorem d_X10_about_21 : decode c_X10_about 21 = .ok (.invokevirtual 228, 3) := by decide +kernel
theorem d_X10_about_24 : decode c_X10_about 24 = .ok (.goto 4, 3) := by decide +kernel
theorem d_X10_about_27 : decode c_X10_about 27 = .ok (.iconst (-1), 1) := by decide +kernel
theorem d_X10_about_28 : decode c_X10_about 28 = .ok (.ireturn, 1) := by decide +kernel
def f_X10_about_0 (v : tV) (si : Int32) (wh : Int32) : Int32 := (if 0 ≤ si.toInt ∧ si.toInt ≤ (v 1 3).toInt - 1 then bnd (100 + si.toNatClampNeg) fun kc7 => bnd (f_X7_fact v kc7 wh) fun x9 => x9 else (-1 : Int32))
set_option maxHeartbeats 4000000 in
set_option maxRecDepth 100000 in
theorem ct_X10_about_0 (l : Launch) (D : va_G) (dA : Nat → ClassId) (ad : Nat → Nat) (v : tV) (hI : Inv v) (si : Int32) (wh : Int32) : Met l m_X10_about [.code m_X10_about c_X10_about 3 (some .int)] ({ frames := 3, cells := 0, slots := 0, locals := 83 } : Room) (tP D dA ad v [.ref (ad 0), .int si, .int wh]) (tQi D dA ad (fun r v' => (v' = v) ∧ r = f_X10_about_0 v si wh)) 0 0 (tA ad) := by
  refine tMet (by decide) (Nat.le_of_ble_eq_true rfl) ?_
  intro p e s m below meth c ls X hr hlocks hw hl
  have X : CX p s m ([.ref (ad 0), .int si, .int wh] : List Value).toArray c c_X10_about N_X10 3 D dA := X
  have hx := X.1
  have hb := X.2.1
  have hS : va_S (tA ad) s.heap s.heap [] := va_S.rf
  have hl : lv_has ls 3 [(0, .ref (ad 0)), (1, .int si), (2, .int wh)] := hl
  obtain ⟨RR, eRR⟩ : ∃ z, f_X10_about_0 v si wh = z := ⟨_, rfl⟩
  have hG := eRR
  unfold f_X10_about_0 at hG
  refine lv_aload_n hx hb d_X10_about_0 rfl (lv_at hl 0 rfl) ?_
  refine r_getr (r := 1) X hw FL_X10_10 (rfl : KD 0 = _) rfl d_X10_about_1 ?_
  refine lv_iload_n hx hb d_X10_about_4 rfl (lv_at hl 1 rfl) ?_
  refine r_ci (r_runV (n := 1) (As := [.int si]) (rest := []) X hw (ct_X6_hasShip_1 l D dA ad v hI si) gc_X10_95 (rfl : KD 1 = _) (by decide) rfl (by decide +kernel) ⟨rfl, rfl, Nat.le_of_ble_eq_true rfl, Nat.le_of_ble_eq_true rfl⟩ rfl hl.1 rfl (Nat.le_of_ble_eq_true rfl) ⟨Nat.zero_le _, Nat.zero_le _⟩ d_X10_about_5) hS (fun x2 v3 H locs hp1 hw hS => ?_)
  obtain ⟨ev3, hp1⟩ := hp1
  rw [ev3] at hw
  rcases hp1 with ⟨rfl, w4a, w4b⟩ | ⟨rfl, w4n⟩
  · skip
    have hG := g_pos ⟨w4a, w4b⟩ hG
    have r5 : Rg si 0 19 := by have q := hI 1 3 0 20 rfl; obtain ⟨_, _⟩ := q; obtain ⟨_, _⟩ := (rg_any si); exact ⟨by omega, by omega⟩
    refine lv_if_eq (tgt := 27) hx hb d_X10_about_8 (by decide) (fun c6 => ?_) (fun c6 => ?_)
    · exact absurd c6 (by decide)
    · refine lv_aload_n hx hb d_X10_about_11 rfl (lv_at hl 0 rfl) ?_
      refine r_getr (r := 1) X hw FL_X10_10 (rfl : KD 0 = _) rfl d_X10_about_12 ?_
      refine r_getr (r := 10) X hw FL_X10_85 (rfl : KD 1 = _) rfl d_X10_about_15 ?_
      refine lv_iload_n hx hb d_X10_about_18 rfl (lv_at hl 1 rfl) ?_
      refine r_aald X hw (rfl : KD 10 = _) (Or.inl rfl) (Rg.vp (b := 19) r5 (by decide)) rfl d_X10_about_19 ?_
      refine r_nm (fun kc7 ekc7 => ?_)
      have hG := bnd_use ekc7 hG
      have kc7a : 100 ≤ kc7 := by omega
      have kc7b : kc7 ≤ 119 := by have := Rg.nat r5; omega
      refine lv_iload_n hx hb d_X10_about_20 rfl (lv_at hl 2 rfl) ?_
      refine r_ci (r_runV (n := 1) (As := [.int wh]) (rest := []) X hw (ct_X7_fact l D dA ad v hI kc7 wh (by omega) (by omega)) gc_X10_228 (KD_ship (by omega) (by omega)) (by decide) rfl (by decide +kernel) ⟨rfl, rfl, Nat.le_of_ble_eq_true rfl, Nat.le_of_ble_eq_true rfl⟩ rfl hl.1 rfl (Nat.le_of_ble_eq_true rfl) ⟨Nat.zero_le _, Nat.zero_le _⟩ d_X10_about_21) hS (fun x9 v10 H locs hp8 hw hS => ?_)
      obtain ⟨hp8, hE11⟩ := hp8
      rw [hp8] at hw
      have hG := bnd_use hE11 hG
      refine lv_goto (tgt := 28) hx hb d_X10_about_24 (by decide) ?_
      exact r_iret X hr hlocks hw hS ⟨rfl, hG.trans eRR.symm⟩ d_X10_about_28
  · skip
    have hG := g_neg w4n hG
    refine lv_if_eq (tgt := 27) hx hb d_X10_about_8 (by decide) (fun c12 => ?_) (fun c12 => ?_)
    · refine lv_iconst (v := -1) hx hb d_X10_about_27 (by decide) ?_
      exact r_iret X hr hlocks hw hS ⟨rfl, hG.trans eRR.symm⟩ d_X10_about_28
    · exact absurd c12 (by decide)
theorem d_X10_bargain_0 : decode c_X10_bargain 0 = .ok (.aload_n 0, 1) := by decide +kernel
theorem d_X10_bargain_1 : decode c_X10_bargain 1 = .ok (.getfield 35, 3) := by decide +kernel
theorem d_X10_bargain_4 : decode c_X10_bargain 4 = .ok (.iload_n 1, 1) := by decide +kernel
theorem d_X10_bargain_5 : decode c_X10_bargain 5 = .ok (.iload_n 2, 1) := by decide +kernel
theorem d_X10_bargain_6 : decode c_X10_bargain 6 = .ok (.invokevirtual 231, 3) := by decide +kernel
theorem d_X10_bargain_9 : decode c_X10_bargain 9 = .ok (.ireturn, 1) := by decide +kernel
def f_X10_bargain_0 (v : tV) (bi : Int32) (wh : Int32) : Int32 := bnd (f_X1_fact_30 v bi wh) fun x2 => x2
set_option maxHeartbeats 4000000 in
set_option maxRecDepth 100000 in
theorem ct_X10_bargain_0 (l : Launch) (D : va_G) (dA : Nat → ClassId) (ad : Nat → Nat) (v : tV) (hI : Inv v) (bi : Int32) (wh : Int32) : Met l m_X10_bargain [.code m_X10_bargain c_X10_bargain 3 (some .int)] ({ frames := 3, cells := 0, slots := 0, locals := 84 } : Room) (tP D dA ad v [.ref (ad 0), .int bi, .int wh]) (tQi D dA ad (fun r v' => (v' = v) ∧ r = f_X10_bargain_0 v bi wh)) 0 0 (tA ad) := by
  refine tMet (by decide) (Nat.le_of_ble_eq_true rfl) ?_
  intro p e s m below meth c ls X hr hlocks hw hl
  have X : CX p s m ([.ref (ad 0), .int bi, .int wh] : List Value).toArray c c_X10_bargain N_X10 3 D dA := X
  have hx := X.1
  have hb := X.2.1
  have hS : va_S (tA ad) s.heap s.heap [] := va_S.rf
  have hl : lv_has ls 3 [(0, .ref (ad 0)), (1, .int bi), (2, .int wh)] := hl
  obtain ⟨RR, eRR⟩ : ∃ z, f_X10_bargain_0 v bi wh = z := ⟨_, rfl⟩
  have hG := eRR
  unfold f_X10_bargain_0 at hG
  refine lv_aload_n hx hb d_X10_bargain_0 rfl (lv_at hl 0 rfl) ?_
  refine r_getr (r := 30) X hw FL_X10_35 (rfl : KD 0 = _) rfl d_X10_bargain_1 ?_
  refine lv_iload_n hx hb d_X10_bargain_4 rfl (lv_at hl 1 rfl) ?_
  refine lv_iload_n hx hb d_X10_bargain_5 rfl (lv_at hl 2 rfl) ?_
  refine r_ci (r_runV (n := 2) (As := [.int bi, .int wh]) (rest := []) X hw (ct_X1_fact_30 l D dA ad v hI bi wh) gc_X10_231 (rfl : KD 30 = _) (by decide) rfl (by decide +kernel) ⟨rfl, rfl, Nat.le_of_ble_eq_true rfl, Nat.le_of_ble_eq_true rfl⟩ rfl hl.1 rfl (Nat.le_of_ble_eq_true rfl) ⟨Nat.zero_le _, Nat.zero_le _⟩ d_X10_bargain_6) hS (fun x2 v3 H locs hp1 hw hS => ?_)
  obtain ⟨hp1, hE4⟩ := hp1
  rw [hp1] at hw
  have hG := bnd_use hE4 hG
  exact r_iret X hr hlocks hw hS ⟨rfl, hG.trans eRR.symm⟩ d_X10_bargain_9
theorem d_X10_held_0 : decode c_X10_held 0 = .ok (.aload_n 0, 1) := by decide +kernel
theorem d_X10_held_1 : decode c_X10_held 1 = .ok (.getfield 63, 3) := by decide +kernel
theorem d_X10_held_4 : decode c_X10_held 4 = .ok (.ifCond .eq 14, 3) := by decide +kernel
theorem d_X10_held_7 : decode c_X10_held 7 = .ok (.aload_n 0, 1) := by decide +kernel
theorem d_X10_held_8 : decode c_X10_held 8 = .ok (.getfield 16, 3) := by decide +kernel
theorem d_X10_held_11 : decode c_X10_held 11 = .ok (.iload_n 1, 1) := by decide +kernel
theorem d_X10_held_12 : decode c_X10_held 12 = .ok (.invokevirtual 95, 3) := by decide +kernel
theorem d_X10_held_15 : decode c_X10_held 15 = .ok (.ifCond .ne 5, 3) := by decide +kernel
theorem d_X10_held_18 : decode c_X10_held 18 = .ok (.iconst (-1), 1) := by decide +kernel
theorem d_X10_held_19 : decode c_X10_held 19 = .ok (.ireturn, 1) := by decide +kernel
theorem d_X10_held_20 : decode c_X10_held 20 = .ok (.aload_n 0, 1) := by decide +kernel
theorem d_X10_held_21 : decode c_X10_held 21 = .ok (.getfield 16, 3) := by decide +kernel
theorem d_X10_held_24 : decode c_X10_held 24 = .ok (.getfield 85, 3) := by decide +kernel
theorem d_X10_held_27 : decode c_X10_held 27 = .ok (.iload_n 1, 1) := by decide +kernel
theorem d_X10_held_28 : decode c_X10_held 28 = .ok (.aaload, 1) := by decide +kernel
theorem d_X10_held_29 : decode c_X10_held 29 = .ok (.astore_n 2, 1) := by decide +kernel
theorem d_X10_held_30 : decode c_X10_held 30 = .ok (.aload_n 2, 1) := by decide +kernel
theorem d_X10_held_31 : decode c_X10_held 31 = .ok (.getfield 111, 3) := by decide +kernel
theorem d_X10_held_34 : decode c_X10_held 34 = .ok (.iconst 3, 1) := by decide +kernel
theorem d_X10_held_35 : decode c_X10_held 35 = .ok (.if_icmp .eq 15, 3) := by decide +kernel
theorem d_X10_held_38 : decode c_X10_held 38 = .ok (.aload_n 2, 1) := by decide +kernel
theorem d_X10_held_39 : decode c_X10_held 39 = .ok (.getfield 104, 3) := by decide +kernel
theorem d_X10_held_42 : decode c_X10_held 42 = .ok (.iconst 0, 1) := by decide +kernel
theorem d_X10_held_43 : decode c_X10_held 43 = .ok (.iconst 1, 1) := by decide +kernel
theorem d_X10_held_44 : decode c_X10_held 44 = .ok (.invokestatic 74, 3) := by decide +kernel
theorem d_X10_held_47 : decode c_X10_held 47 = .ok (.ifCond .ne 5, 3) := by decide +kernel
theorem d_X10_held_50 : decode c_X10_held 50 = .ok (.iconst (-1), 1) := by decide +kernel
theorem d_X10_held_51 : decode c_X10_held 51 = .ok (.ireturn, 1) := by decide +kernel
theorem d_X10_held_52 : decode c_X10_held 52 = .ok (.aload_n 0, 1) := by decide +kernel
theorem d_X10_held_53 : decode c_X10_held 53 = .ok (.getfield 19, 3) := by decide +kernel
theorem d_X10_held_56 : decode c_X10_held 56 = .ok (.aload_n 0, 1) := by decide +kernel
theorem d_X10_held_57 : decode c_X10_held 57 = .ok (.getfield 16, 3) := by decide +kernel
theorem d_X10_held_60 : decode c_X10_held 60 = .ok (.invokevirtual 214, 3) := by decide +kernel
theorem d_X10_held_63 : decode c_X10_held 63 = .ok (.aload_n 0, 1) := by decide +kernel
theorem d_X10_held_64 : decode c_X10_held 64 = .ok (.getfield 25, 3) := by decide +kernel
theorem d_X10_held_67 : decode c_X10_held 67 = .ok (.iload_n 1, 1) := by decide +kernel
theorem d_X10_held_68 : decode c_X10_held 68 = .ok (.aload_n 0, 1) := by decide +kernel
theorem d_X10_held_69 : decode c_X10_held 69 = .ok (.getfield 29, 3) := by decide +kernel
theorem d_X10_held_72 : decode c_X10_held 72 = .ok (.invokevirtual 238, 3) := by decide +kernel
theorem d_X10_held_75 : decode c_X10_held 75 = .ok (.aload_n 0, 1) := by decide +kernel
theorem d_X10_held_76 : decode c_X10_held 76 = .ok (.getfield 39, 3) := by decide +kernel
theorem d_X10_held_79 : decode c_X10_held 79 = .ok (.invokevirtual 208, 3) := by decide +kernel
theorem d_X10_held_82 : decode c_X10_held 82 = .ok (.aload_n 0, 1) := by decide +kernel
theorem d_X10_held_83 : decode c_X10_held 83 = .ok (.getfield 19, 3) := by decide +kernel
theorem d_X10_held_86 : decode c_X10_held 86 = .ok (.aload_n 0, 1) := by decide +kernel
theorem d_X10_held_87 : decode c_X10_held 87 = .ok (.getfield 25, 3) := by decide +kernel
theorem d_X10_held_90 : decode c_X10_held 90 = .ok (.aload_n 0, 1) := by decide +kernel
theorem d_X10_held_91 : decode c_X10_held 91 = .ok (.getfield 39, 3) := by decide +kernel
theorem d_X10_held_94 : decode c_X10_held 94 = .ok (.invokevirtual 218, 3) := by decide +kernel
theorem d_X10_held_97 : decode c_X10_held 97 = .ok (.aload_n 0, 1) := by decide +kernel
theorem d_X10_held_98 : decode c_X10_held 98 = .ok (.getfield 19, 3) := by decide +kernel
theorem d_X10_held_101 : decode c_X10_held 101 = .ok (.getfield 242, 3) := by decide +kernel
theorem d_X10_held_104 : decode c_X10_held 104 = .ok (.ireturn, 1) := by decide +kernel
def kp_X10_held_0 (si : Int32) (a j : Nat) : Prop := ¬ (a = 3 ∨ a = 20 ∨ a = 22 ∨ a = 24 ∨ a = 31 ∨ a = 33 ∨ a = 35 ∨ a = 37 ∨ a = 39 ∨ (140 ≤ a ∧ a < 160) ∨ (220 ≤ a ∧ a < 230) ∨ (312 ≤ a ∧ a < 318) ∨ (332 ≤ a ∧ a < 338))
def f_X10_held_0 (v : tV) (si : Int32) : Int32 × tV := bnd (v 0 10) fun x1 => (if x1 = (0 : Int32) then ((-1 : Int32), v) else (if 0 ≤ si.toInt ∧ si.toInt ≤ (v 2 3).toInt - 1 then bnd (120 + si.toNatClampNeg) fun kc12 => bnd (v kc12 0) fun x13 => (if x13 = (3 : Int32) then ((-1 : Int32), v) else bnd (v kc12 7) fun x18 => (if (0 : Int32).toInt ≤ x18.toInt ∧ x18.toInt ≤ (1 : Int32).toInt then bnd (f_X6_copy_3_2 v ) fun v26 => bnd (f_X5_putFirst_20_21 v26 si) fun v32 => bnd (f_X1_open_31 v32 ) fun v38 => bnd (f_X6_trade_3_20_31 v38 ) fun v44 => bnd (v44 3 6) fun x49 => (x49, v44) else ((-1 : Int32), v))) else ((-1 : Int32), v)))
set_option maxHeartbeats 4000000 in
set_option maxRecDepth 100000 in
theorem ct_X10_held_0 (l : Launch) (D : va_G) (dA : Nat → ClassId) (ad : Nat → Nat) (v : tV) (hI : Inv v) (si : Int32) : Met l m_X10_held [.code m_X10_held c_X10_held 3 (some .int)] ({ frames := 6, cells := 0, slots := 0, locals := 160 } : Room) (tP D dA ad v [.ref (ad 0), .int si]) (tQi D dA ad (fun r v' => (Inv v' ∧ Kp (kp_X10_held_0 si) v v') ∧ (r, v') = f_X10_held_0 v si)) 0 0 (tA ad) := by
  refine tMet (by decide) (Nat.le_of_ble_eq_true rfl) ?_
  intro p e s m below meth c ls X hr hlocks hw hl
  have X : CX p s m ([.ref (ad 0), .int si] : List Value).toArray c c_X10_held N_X10 3 D dA := X
  have hx := X.1
  have hb := X.2.1
  have hS : va_S (tA ad) s.heap s.heap [] := va_S.rf
  have hl : lv_has ls 3 [(0, .ref (ad 0)), (1, .int si)] := hl
  obtain ⟨RR, eRR⟩ : ∃ z, f_X10_held_0 v si = z := ⟨_, rfl⟩
  have hK0 : Kp (kp_X10_held_0 si) v v := Kp.rf _ v
  have hG := eRR
  unfold f_X10_held_0 at hG
  refine lv_aload_n hx hb d_X10_held_0 rfl (lv_at hl 0 rfl) ?_
  refine r_geti X hw FL_X10_63 (rfl : KD 0 = _) rfl d_X10_held_1 ?_
  refine lv_topi (fun x1 ex1 => ?_)
  have hG := bnd_use ex1 hG
  refine lv_if_eq (tgt := 18) hx hb d_X10_held_4 (by decide) (fun c2 => ?_) (fun c2 => ?_)
  · have f3 := i_eq c2
    have r4 : Rg x1 0 0 := by obtain ⟨a1, a2⟩ := (rg_any x1); obtain ⟨b1, b2⟩ := (⟨by decide, by decide⟩ : Rg 0 0 0); have f := i_eq c2; exact ⟨by omega, by omega⟩
    have hG := g_pos c2 hG
    refine lv_iconst (v := -1) hx hb d_X10_held_18 (by decide) ?_
    exact r_iret X hr hlocks hw hS ⟨⟨hI, hK0⟩, hG.trans eRR.symm⟩ d_X10_held_19
  · have f5 := i_ne c2
    have hG := g_neg c2 hG
    refine lv_aload_n hx hb d_X10_held_7 rfl (lv_at hl 0 rfl) ?_
    refine r_getr (r := 2) X hw FL_X10_16 (rfl : KD 0 = _) rfl d_X10_held_8 ?_
    refine lv_iload_n hx hb d_X10_held_11 rfl (lv_at hl 1 rfl) ?_
    refine r_ci (r_runV (n := 1) (As := [.int si]) (rest := []) X hw (ct_X6_hasShip_2 l D dA ad v hI si) gc_X10_95 (rfl : KD 2 = _) (by decide) rfl (by decide +kernel) ⟨rfl, rfl, Nat.le_of_ble_eq_true rfl, Nat.le_of_ble_eq_true rfl⟩ rfl hl.1 rfl (Nat.le_of_ble_eq_true rfl) ⟨Nat.zero_le _, Nat.zero_le _⟩ d_X10_held_12) hS (fun x7 v8 H locs hp6 hw hS => ?_)
    obtain ⟨ev8, hp6⟩ := hp6
    rw [ev8] at hw
    rcases hp6 with ⟨rfl, w9a, w9b⟩ | ⟨rfl, w9n⟩
    · skip
      have hG := g_pos ⟨w9a, w9b⟩ hG
      have r10 : Rg si 0 19 := by have q := hI 2 3 0 20 rfl; obtain ⟨_, _⟩ := q; obtain ⟨_, _⟩ := (rg_any si); exact ⟨by omega, by omega⟩
      refine lv_if_ne (tgt := 20) hx hb d_X10_held_15 (by decide) (fun c11 => ?_) (fun c11 => ?_)
      · refine lv_aload_n hx hb d_X10_held_20 rfl (lv_at hl 0 rfl) ?_
        refine r_getr (r := 2) X hw FL_X10_16 (rfl : KD 0 = _) rfl d_X10_held_21 ?_
        refine r_getr (r := 11) X hw FL_X10_85 (rfl : KD 2 = _) rfl d_X10_held_24 ?_
        refine lv_iload_n hx hb d_X10_held_27 rfl (lv_at hl 1 rfl) ?_
        refine r_aald X hw (rfl : KD 11 = _) (Or.inl rfl) (Rg.vp (b := 19) r10 (by decide)) rfl d_X10_held_28 ?_
        refine r_nm (fun kc12 ekc12 => ?_)
        have hG := bnd_use ekc12 hG
        have kc12a : 120 ≤ kc12 := by omega
        have kc12b : kc12 ≤ 139 := by have := Rg.nat r10; omega
        refine lv_astore_n (lv' := [(2, .ref (ad kc12)), (0, .ref (ad 0)), (1, .int si)]) hx hb d_X10_held_29 rfl hl (by decide) rfl (fun ls hl => ?_)
        refine lv_aload_n hx hb d_X10_held_30 rfl (lv_at hl 0 rfl) ?_
        refine r_geti X hw FL_X10_111 (KD_ship (by omega) (by omega)) (SH_ship (by omega) (by omega)) d_X10_held_31 ?_
        refine lv_topi (fun x13 ex13 => ?_)
        have hG := bnd_use ex13 hG
        refine lv_iconst (v := 3) hx hb d_X10_held_34 (by decide) ?_
        refine lv_icmp_eq (tgt := 50) hx hb d_X10_held_35 (by decide) (fun c14 => ?_) (fun c14 => ?_)
        · have f15 := i_eq c14
          have r16 : Rg x13 3 3 := by obtain ⟨a1, a2⟩ := (rg_any x13); obtain ⟨b1, b2⟩ := (⟨by decide, by decide⟩ : Rg 3 3 3); have f := i_eq c14; exact ⟨by omega, by omega⟩
          have hG := g_pos c14 hG
          refine lv_iconst (v := -1) hx hb d_X10_held_50 (by decide) ?_
          exact r_iret X hr hlocks hw hS ⟨⟨hI, hK0⟩, hG.trans eRR.symm⟩ d_X10_held_51
        · have f17 := i_ne c14
          have hG := g_neg c14 hG
          refine lv_aload_n hx hb d_X10_held_38 rfl (lv_at hl 0 rfl) ?_
          refine r_geti X hw FL_X10_104 (KD_ship (by omega) (by omega)) (SH_ship (by omega) (by omega)) d_X10_held_39 ?_
          refine lv_topi (fun x18 ex18 => ?_)
          have hG := bnd_use ex18 hG
          refine lv_iconst (v := 0) hx hb d_X10_held_42 (by decide) ?_
          refine lv_iconst (v := 1) hx hb d_X10_held_43 (by decide) ?_
          refine r_ci (r_runS (n := 3) (As := [.int x18, .int 0, .int 1]) (rest := []) X hw (ct_X10_within l D dA ad v hI x18 0 1) gc_X10_74 (by decide +kernel) ⟨rfl, rfl, Nat.le_of_ble_eq_true rfl, Nat.le_of_ble_eq_true rfl⟩ rfl hl.1 rfl (Nat.le_of_ble_eq_true rfl) ⟨Nat.zero_le _, Nat.zero_le _⟩ d_X10_held_44) hS (fun x20 v21 H locs hp19 hw hS => ?_)
          obtain ⟨ev21, hp19⟩ := hp19
          rw [ev21] at hw
          rcases hp19 with ⟨rfl, w22a, w22b⟩ | ⟨rfl, w22n⟩
          · skip
            have hG := g_pos ⟨w22a, w22b⟩ hG
            have r23 : Rg x18 0 1 := by obtain ⟨_, _⟩ := (rg_any x18); have : (0 : Int32).toInt = 0 := rfl; have : (1 : Int32).toInt = 1 := rfl; exact ⟨by omega, by omega⟩
            refine lv_if_ne (tgt := 52) hx hb d_X10_held_47 (by decide) (fun c24 => ?_) (fun c24 => ?_)
            · refine lv_aload_n hx hb d_X10_held_52 rfl (lv_at hl 1 rfl) ?_
              refine r_getr (r := 3) X hw FL_X10_19 (rfl : KD 0 = _) rfl d_X10_held_53 ?_
              refine lv_aload_n hx hb d_X10_held_56 rfl (lv_at hl 1 rfl) ?_
              refine r_getr (r := 2) X hw FL_X10_16 (rfl : KD 0 = _) rfl d_X10_held_57 ?_
              refine r_cv (r_runV (n := 1) (As := [.ref (ad 2)]) (rest := []) X hw (ct_X6_copy_3_2 l D dA ad v hI) gc_X10_214 (rfl : KD 3 = _) (by decide) rfl (by decide +kernel) ⟨rfl, rfl, Nat.le_of_ble_eq_true rfl, Nat.le_of_ble_eq_true rfl⟩ rfl hl.1 rfl (Nat.le_of_ble_eq_true rfl) ⟨Nat.zero_le _, Nat.zero_le _⟩ d_X10_held_60) hS (fun v26 H locs hp25 hw hS => ?_)
              obtain ⟨hp25, hE27⟩ := hp25
              obtain ⟨hI28, hK29⟩ := hp25
              have hK30 : Kp (kp_X10_held_0 si) v v26 := Kp.tr hK0 hK29 (by have z0 : (0 : Int32).toInt = 0 := rfl; intro a j; unfold kp_X10_held_0 kp_X6_copy_3_2; omega)
              have hG := bnd_use hE27 hG
              refine lv_aload_n hx hb d_X10_held_63 rfl (lv_at hl 1 rfl) ?_
              refine r_getr (r := 20) X hw FL_X10_25 (rfl : KD 0 = _) rfl d_X10_held_64 ?_
              refine lv_iload_n hx hb d_X10_held_67 rfl (lv_at hl 2 rfl) ?_
              refine lv_aload_n hx hb d_X10_held_68 rfl (lv_at hl 1 rfl) ?_
              refine r_getr (r := 21) X hw FL_X10_29 (rfl : KD 0 = _) rfl d_X10_held_69 ?_
              refine r_cv (r_runV (n := 2) (As := [.int si, .ref (ad 21)]) (rest := []) X hw (ct_X5_putFirst_20_21 l D dA ad v26 hI28 si r10) gc_X10_238 (rfl : KD 20 = _) (by decide) rfl (by decide +kernel) ⟨rfl, rfl, Nat.le_of_ble_eq_true rfl, Nat.le_of_ble_eq_true rfl⟩ rfl hl.1 rfl (Nat.le_of_ble_eq_true rfl) ⟨Nat.zero_le _, Nat.zero_le _⟩ d_X10_held_72) hS (fun v32 H locs hp31 hw hS => ?_)
              obtain ⟨hp31, hE33⟩ := hp31
              obtain ⟨hI34, hK35⟩ := hp31
              have hK36 : Kp (kp_X10_held_0 si) v v32 := Kp.tr hK30 hK35 (by have z0 : (0 : Int32).toInt = 0 := rfl; intro a j; unfold kp_X10_held_0 kp_X5_putFirst_20_21; omega)
              have hG := bnd_use hE33 hG
              refine lv_aload_n hx hb d_X10_held_75 rfl (lv_at hl 1 rfl) ?_
              refine r_getr (r := 31) X hw FL_X10_39 (rfl : KD 0 = _) rfl d_X10_held_76 ?_
              refine r_cv (r_runV (n := 0) (As := []) (rest := []) X hw (ct_X1_open_31 l D dA ad v32 hI34) gc_X10_208 (rfl : KD 31 = _) (by decide) rfl (by decide +kernel) ⟨rfl, rfl, Nat.le_of_ble_eq_true rfl, Nat.le_of_ble_eq_true rfl⟩ rfl hl.1 rfl (Nat.le_of_ble_eq_true rfl) ⟨Nat.zero_le _, Nat.zero_le _⟩ d_X10_held_79) hS (fun v38 H locs hp37 hw hS => ?_)
              obtain ⟨hp37, hE39⟩ := hp37
              obtain ⟨hI40, hK41⟩ := hp37
              have hK42 : Kp (kp_X10_held_0 si) v v38 := Kp.tr hK36 hK41 (by have z0 : (0 : Int32).toInt = 0 := rfl; intro a j; unfold kp_X10_held_0 kp_X1_open_31; omega)
              have hG := bnd_use hE39 hG
              refine lv_aload_n hx hb d_X10_held_82 rfl (lv_at hl 1 rfl) ?_
              refine r_getr (r := 3) X hw FL_X10_19 (rfl : KD 0 = _) rfl d_X10_held_83 ?_
              refine lv_aload_n hx hb d_X10_held_86 rfl (lv_at hl 1 rfl) ?_
              refine r_getr (r := 20) X hw FL_X10_25 (rfl : KD 0 = _) rfl d_X10_held_87 ?_
              refine lv_aload_n hx hb d_X10_held_90 rfl (lv_at hl 1 rfl) ?_
              refine r_getr (r := 31) X hw FL_X10_39 (rfl : KD 0 = _) rfl d_X10_held_91 ?_
              refine r_cv (r_runV (n := 2) (As := [.ref (ad 20), .ref (ad 31)]) (rest := []) X hw (ct_X6_trade_3_20_31 l D dA ad v38 hI40) gc_X10_218 (rfl : KD 3 = _) (by decide) rfl (by decide +kernel) ⟨rfl, rfl, Nat.le_of_ble_eq_true rfl, Nat.le_of_ble_eq_true rfl⟩ rfl hl.1 rfl (Nat.le_of_ble_eq_true rfl) ⟨Nat.zero_le _, Nat.zero_le _⟩ d_X10_held_94) hS (fun v44 H locs hp43 hw hS => ?_)
              obtain ⟨hp43, hE45⟩ := hp43
              obtain ⟨hI46, hK47⟩ := hp43
              have hK48 : Kp (kp_X10_held_0 si) v v44 := Kp.tr hK42 hK47 (by have z0 : (0 : Int32).toInt = 0 := rfl; intro a j; unfold kp_X10_held_0 kp_X6_trade_3_20_31; omega)
              have hG := bnd_use hE45 hG
              refine lv_aload_n hx hb d_X10_held_97 rfl (lv_at hl 1 rfl) ?_
              refine r_getr (r := 3) X hw FL_X10_19 (rfl : KD 0 = _) rfl d_X10_held_98 ?_
              refine r_geti X hw FL_X10_242 (rfl : KD 3 = _) rfl d_X10_held_101 ?_
              refine lv_topi (fun x49 ex49 => ?_)
              have hG := bnd_use ex49 hG
              exact r_iret X hr hlocks hw hS ⟨⟨hI46, hK48⟩, hG.trans eRR.symm⟩ d_X10_held_104
            · exact absurd c24 (by decide)
          · skip
            have hG := g_neg w22n hG
            refine lv_if_ne (tgt := 52) hx hb d_X10_held_47 (by decide) (fun c50 => ?_) (fun c50 => ?_)
            · exact absurd c50 (by decide)
            · refine lv_iconst (v := -1) hx hb d_X10_held_50 (by decide) ?_
              exact r_iret X hr hlocks hw hS ⟨⟨hI, hK0⟩, hG.trans eRR.symm⟩ d_X10_held_51
      · exact absurd c11 (by decide)
    · skip
      have hG := g_neg w9n hG
      refine lv_if_ne (tgt := 20) hx hb d_X10_held_15 (by decide) (fun c51 => ?_) (fun c51 => ?_)
      · exact absurd c51 (by decide)
      · refine lv_iconst (v := -1) hx hb d_X10_held_18 (by decide) ?_
        exact r_iret X hr hlocks hw hS ⟨⟨hI, hK0⟩, hG.trans eRR.symm⟩ d_X10_held_19
theorem d_X10_measure_0 : decode c_X10_measure 0 = .ok (.iload_n 1, 1) := by decide +kernel
theorem d_X10_measure_1 : decode c_X10_measure 1 = .ok (.iconst 1, 1) := by decide +kernel
theorem d_X10_measure_2 : decode c_X10_measure 2 = .ok (.if_icmp .lt 14, 3) := by decide +kernel
theorem d_X10_measure_5 : decode c_X10_measure 5 = .ok (.iload_n 2, 1) := by decide +kernel
theorem d_X10_measure_6 : decode c_X10_measure 6 = .ok (.iload_n 1, 1) := by decide +kernel
theorem d_X10_measure_7 : decode c_X10_measure 7 = .ok (.if_icmp .lt 9, 3) := by decide +kernel
theorem d_X10_measure_10 : decode c_X10_measure 10 = .ok (.iload_n 2, 1) := by decide +kernel
theorem d_X10_measure_11 : decode c_X10_measure 11 = .ok (.bipush 99, 2) := by decide +kernel
theorem d_X10_measure_13 : decode c_X10_measure 13 = .ok (.if_icmp .le 6, 3) := by decide +kernel
theorem d_X10_measure_16 : decode c_X10_measure 16 = .ok (.bipush (-2), 2) := by decide +kernel
theorem d_X10_measure_18 : decode c_X10_measure 18 = .ok (.ireturn, 1) := by decide +kernel
theorem d_X10_measure_19 : decode c_X10_measure 19 = .ok (.aload_n 0, 1) := by decide +kernel
theorem d_X10_measure_20 : decode c_X10_measure 20 = .ok (.iload_n 1, 1) := by decide +kernel
theorem d_X10_measure_21 : decode c_X10_measure 21 = .ok (.putfield 67, 3) := by decide +kernel
theorem d_X10_measure_24 : decode c_X10_measure 24 = .ok (.aload_n 0, 1) := by decide +kernel
theorem d_X10_measure_25 : decode c_X10_measure 25 = .ok (.iload_n 2, 1) := by decide +kernel
theorem d_X10_measure_26 : decode c_X10_measure 26 = .ok (.putfield 71, 3) := by decide +kernel
theorem d_X10_measure_29 : decode c_X10_measure 29 = .ok (.iconst 0, 1) := by decide +kernel
theorem d_X10_measure_30 : decode c_X10_measure 30 = .ok (.ireturn, 1) := by decide +kernel
def kp_X10_measure_0 (lo : Int32) (hi : Int32) (a j : Nat) : Prop := a ≠ 0 ∨ (j ≠ 11 ∧ j ≠ 12)
def f_X10_measure_0 (v : tV) (lo : Int32) (hi : Int32) : Int32 × tV := (if lo < (1 : Int32) then ((-2 : Int32), v) else (if hi < lo then ((-2 : Int32), v) else (if hi ≤ (99 : Int32) then bnd (up2 v 0 11 lo) fun v14 => bnd (up2 v14 0 12 hi) fun v17 => ((0 : Int32), v17) else ((-2 : Int32), v))))
set_option maxHeartbeats 4000000 in
set_option maxRecDepth 100000 in
theorem ct_X10_measure_0 (l : Launch) (D : va_G) (dA : Nat → ClassId) (ad : Nat → Nat) (v : tV) (hI : Inv v) (lo : Int32) (hi : Int32) : Met l m_X10_measure [.code m_X10_measure c_X10_measure 3 (some .int)] ({ frames := 1, cells := 0, slots := 0, locals := 40 } : Room) (tP D dA ad v [.ref (ad 0), .int lo, .int hi]) (tQi D dA ad (fun r v' => (Inv v' ∧ Kp (kp_X10_measure_0 lo hi) v v' ∧ r = (if lo.toInt < 1 ∨ hi.toInt < lo.toInt ∨ 99 < hi.toInt then -2 else 0)) ∧ (r, v') = f_X10_measure_0 v lo hi)) 0 0 (tA ad) := by
  refine tMet (by decide) (Nat.le_of_ble_eq_true rfl) ?_
  intro p e s m below meth c ls X hr hlocks hw hl
  have X : CX p s m ([.ref (ad 0), .int lo, .int hi] : List Value).toArray c c_X10_measure N_X10 3 D dA := X
  have hx := X.1
  have hb := X.2.1
  have hS : va_S (tA ad) s.heap s.heap [] := va_S.rf
  have hl : lv_has ls 3 [(0, .ref (ad 0)), (1, .int lo), (2, .int hi)] := hl
  obtain ⟨RR, eRR⟩ : ∃ z, f_X10_measure_0 v lo hi = z := ⟨_, rfl⟩
  have hK0 : Kp (kp_X10_measure_0 lo hi) v v := Kp.rf _ v
  have hG := eRR
  unfold f_X10_measure_0 at hG
  refine lv_iload_n hx hb d_X10_measure_0 rfl (lv_at hl 1 rfl) ?_
  refine lv_iconst (v := 1) hx hb d_X10_measure_1 (by decide) ?_
  refine lv_icmp_lt (tgt := 16) hx hb d_X10_measure_2 (by decide) (fun c1 => ?_) (fun c1 => ?_)
  · have f2 := i_lt c1
    have r3 : Rg lo (-2147483648) 0 := by obtain ⟨a1, a2⟩ := (rg_any lo); obtain ⟨b1, b2⟩ := (⟨by decide, by decide⟩ : Rg 1 1 1); have f := i_lt c1; exact ⟨by omega, by omega⟩
    have hG := g_pos c1 hG
    refine lv_bipush (v := -2) hx hb d_X10_measure_16 (by decide) ?_
    exact r_iret X hr hlocks hw hS ⟨⟨hI, hK0, by have : (1 : Int32).toInt = 1 := rfl; have : (99 : Int32).toInt = 99 := rfl; first | (rw [if_pos (by omega)]; done) | rw [if_neg (by omega)]⟩, hG.trans eRR.symm⟩ d_X10_measure_18
  · have f4 := i_nlt c1
    have r5 : Rg lo 1 2147483647 := by obtain ⟨a1, a2⟩ := (rg_any lo); obtain ⟨b1, b2⟩ := (⟨by decide, by decide⟩ : Rg 1 1 1); have f := i_nlt c1; exact ⟨by omega, by omega⟩
    have hG := g_neg c1 hG
    refine lv_iload_n hx hb d_X10_measure_5 rfl (lv_at hl 2 rfl) ?_
    refine lv_iload_n hx hb d_X10_measure_6 rfl (lv_at hl 1 rfl) ?_
    refine lv_icmp_lt (tgt := 16) hx hb d_X10_measure_7 (by decide) (fun c6 => ?_) (fun c6 => ?_)
    · have f7 := i_lt c6
      have r8 : Rg hi (-2147483648) 2147483646 := by obtain ⟨a1, a2⟩ := (rg_any hi); obtain ⟨b1, b2⟩ := r5; have f := i_lt c6; exact ⟨by omega, by omega⟩
      have hG := g_pos c6 hG
      refine lv_bipush (v := -2) hx hb d_X10_measure_16 (by decide) ?_
      exact r_iret X hr hlocks hw hS ⟨⟨hI, hK0, by have : (1 : Int32).toInt = 1 := rfl; have : (99 : Int32).toInt = 99 := rfl; first | (rw [if_pos (by omega)]; done) | rw [if_neg (by omega)]⟩, hG.trans eRR.symm⟩ d_X10_measure_18
    · have f9 := i_nlt c6
      have r10 : Rg hi 1 2147483647 := by obtain ⟨a1, a2⟩ := (rg_any hi); obtain ⟨b1, b2⟩ := r5; have f := i_nlt c6; exact ⟨by omega, by omega⟩
      have hG := g_neg c6 hG
      refine lv_iload_n hx hb d_X10_measure_10 rfl (lv_at hl 2 rfl) ?_
      refine lv_bipush (v := 99) hx hb d_X10_measure_11 (by decide) ?_
      refine lv_icmp_le (tgt := 19) hx hb d_X10_measure_13 (by decide) (fun c11 => ?_) (fun c11 => ?_)
      · have f12 := i_le c11
        have r13 : Rg hi 1 99 := by obtain ⟨a1, a2⟩ := r10; obtain ⟨b1, b2⟩ := (⟨by decide, by decide⟩ : Rg 99 99 99); have f := i_le c11; exact ⟨by omega, by omega⟩
        have hG := g_pos c11 hG
        refine lv_aload_n hx hb d_X10_measure_19 rfl (lv_at hl 0 rfl) ?_
        refine lv_iload_n hx hb d_X10_measure_20 rfl (lv_at hl 1 rfl) ?_
        refine r_put X hw hS FP_X10_67 (rfl : KD 0 = _) rfl ⟨rfl, rfl⟩ d_X10_measure_21 (fun H locs hw hS => ?_)
        obtain ⟨v14, ev14⟩ : ∃ z, z = up2 v 0 11 lo := ⟨_, rfl⟩
        rw [← ev14] at hw
        have hG := bnd_use ev14 hG
        have hI15 : Inv v14 := by rw [ev14]; exact Inv.put0 hI _ rfl
        have hK16 : Kp (kp_X10_measure_0 lo hi) v v14 := by rw [ev14]; exact Kp.put hK0 _ (by unfold kp_X10_measure_0; omega)
        refine lv_aload_n hx hb d_X10_measure_24 rfl (lv_at hl 0 rfl) ?_
        refine lv_iload_n hx hb d_X10_measure_25 rfl (lv_at hl 2 rfl) ?_
        refine r_put X hw hS FP_X10_71 (rfl : KD 0 = _) rfl ⟨rfl, rfl⟩ d_X10_measure_26 (fun H locs hw hS => ?_)
        obtain ⟨v17, ev17⟩ : ∃ z, z = up2 v14 0 12 hi := ⟨_, rfl⟩
        rw [← ev17] at hw
        have hG := bnd_use ev17 hG
        have hI18 : Inv v17 := by rw [ev17]; exact Inv.put0 hI15 _ rfl
        have hK19 : Kp (kp_X10_measure_0 lo hi) v v17 := by rw [ev17]; exact Kp.put hK16 _ (by unfold kp_X10_measure_0; omega)
        refine lv_iconst (v := 0) hx hb d_X10_measure_29 (by decide) ?_
        exact r_iret X hr hlocks hw hS ⟨⟨hI18, hK19, by have : (1 : Int32).toInt = 1 := rfl; have : (99 : Int32).toInt = 99 := rfl; first | (rw [if_pos (by omega)]; done) | rw [if_neg (by omega)]⟩, hG.trans eRR.symm⟩ d_X10_measure_30
      · have f20 := i_nle c11
        have r21 : Rg hi 100 2147483647 := by obtain ⟨a1, a2⟩ := r10; obtain ⟨b1, b2⟩ := (⟨by decide, by decide⟩ : Rg 99 99 99); have f := i_nle c11; exact ⟨by omega, by omega⟩
        have hG := g_neg c11 hG
        refine lv_bipush (v := -2) hx hb d_X10_measure_16 (by decide) ?_
        exact r_iret X hr hlocks hw hS ⟨⟨hI, hK0, by have : (1 : Int32).toInt = 1 := rfl; have : (99 : Int32).toInt = 99 := rfl; first | (rw [if_pos (by omega)]; done) | rw [if_neg (by omega)]⟩, hG.trans eRR.symm⟩ d_X10_measure_18
theorem d_X10_weighed_0 : decode c_X10_weighed 0 = .ok (.aload_n 0, 1) := by decide +kernel
theorem d_X10_weighed_1 : decode c_X10_weighed 1 = .ok (.getfield 10, 3) := by decide +kernel
theorem d_X10_weighed_4 : decode c_X10_weighed 4 = .ok (.iload_n 1, 1) := by decide +kernel
theorem d_X10_weighed_5 : decode c_X10_weighed 5 = .ok (.invokevirtual 95, 3) := by decide +kernel
theorem d_X10_weighed_8 : decode c_X10_weighed 8 = .ok (.ifCond .eq 13, 3) := by decide +kernel
theorem d_X10_weighed_11 : decode c_X10_weighed 11 = .ok (.iload 4, 2) := by decide +kernel
theorem d_X10_weighed_13 : decode c_X10_weighed 13 = .ok (.iconst 0, 1) := by decide +kernel
theorem d_X10_weighed_14 : decode c_X10_weighed 14 = .ok (.iconst 2, 1) := by decide +kernel
theorem d_X10_weighed_15 : decode c_X10_weighed 15 = .ok (.invokestatic 74, 3) := by decide +kernel
theorem d_X10_weighed_18 : decode c_X10_weighed 18 = .ok (.ifCond .ne 5, 3) := by decide +kernel
theorem d_X10_weighed_21 : decode c_X10_weighed 21 = .ok (.iconst (-1), 1) := by decide +kernel
theorem d_X10_weighed_22 : decode c_X10_weighed 22 = .ok (.ireturn, 1) := by decide +kernel
theorem d_X10_weighed_23 : decode c_X10_weighed 23 = .ok (.aload_n 0, 1) := by decide +kernel
theorem d_X10_weighed_24 : decode c_X10_weighed 24 = .ok (.getfield 10, 3) := by decide +kernel
theorem d_X10_weighed_27 : decode c_X10_weighed 27 = .ok (.getfield 85, 3) := by decide +kernel
theorem d_X10_weighed_30 : decode c_X10_weighed 30 = .ok (.iload_n 1, 1) := by decide +kernel
theorem d_X10_weighed_31 : decode c_X10_weighed 31 = .ok (.aaload, 1) := by decide +kernel
theorem d_X10_weighed_32 : decode c_X10_weighed 32 = .ok (.getfield 245, 3) := by decide +kernel
theorem d_X10_weighed_35 : decode c_X10_weighed 35 = .ok (.istore 5, 2) := by decide +kernel
theorem d_X10_weighed_37 : decode c_X10_weighed 37 = .ok (.iload_n 2, 1) := by decide +kernel
theorem d_X10_weighed_38 : decode c_X10_weighed 38 = .ok (.iconst 0, 1) := by decide +kernel
theorem d_X10_weighed_39 : decode c_X10_weighed 39 = .ok (.iload 5, 2) := by decide +kernel
theorem d_X10_weighed_41 : decode c_X10_weighed 41 = .ok (.invokestatic 74, 3) := by decide +kernel
theorem d_X10_weighed_44 : decode c_X10_weighed 44 = .ok (.ifCond .eq 22, 3) := by decide +kernel
theorem d_X10_weighed_47 : decode c_X10_weighed 47 = .ok (.iload_n 3, 1) := by decide +kernel
theorem d_X10_weighed_48 : decode c_X10_weighed 48 = .ok (.iload_n 2, 1) := by decide +kernel
theorem d_X10_weighed_49 : decode c_X10_weighed 49 = .ok (.aload_n 0, 1) := by decide +kernel
theorem d_X10_weighed_50 : decode c_X10_weighed 50 = .ok (.getfield 67, 3) := by decide +kernel
theorem d_X10_weighed_53 : decode c_X10_weighed 53 = .ok (.imul, 1) := by decide +kernel
theorem d_X10_weighed_54 : decode c_X10_weighed 54 = .ok (.iload_n 2, 1) := by decide +kernel
theorem d_X10_weighed_55 : decode c_X10_weighed 55 = .ok (.aload_n 0, 1) := by decide +kernel
theorem d_X10_weighed_56 : decode c_X10_weighed 56 = .ok (.getfield 71, 3) := by decide +kernel
theorem d_X10_weighed_59 : decode c_X10_weighed 59 = .ok (.imul, 1) := by decide +kernel
theorem d_X10_weighed_60 : decode c_X10_weighed 60 = .ok (.invokestatic 74, 3) := by decide +kernel
theorem d_X10_weighed_63 : decode c_X10_weighed 63 = .ok (.ifCond .ne 6, 3) := by decide +kernel
theorem d_X10_weighed_66 : decode c_X10_weighed 66 = .ok (.bipush (-2), 2) := by decide +kernel
theorem d_X10_weighed_68 : decode c_X10_weighed 68 = .ok (.ireturn, 1) := by decide +kernel
theorem d_X10_weighed_69 : decode c_X10_weighed 69 = .ok (.iload 4, 2) := by decide +kernel
theorem d_X10_weighed_71 : decode c_X10_weighed 71 = .ok (.ifCond .ne 15, 3) := by decide +kernel
theorem d_X10_weighed_74 : decode c_X10_weighed 74 = .ok (.iload_n 3, 1) := by decide +kernel
theorem d_X10_weighed_75 : decode c_X10_weighed 75 = .ok (.iload 5, 2) := by decide +kernel
theorem d_X10_weighed_77 : decode c_X10_weighed 77 = .ok (.iload_n 2, 1) := by decide +kernel
theorem d_X10_weighed_78 : decode c_X10_weighed 78 = .ok (.isub, 1) := by decide +kernel
theorem d_X10_weighed_79 : decode c_X10_weighed 79 = .ok (.aload_n 0, 1) := by decide +kernel
theorem d_X10_weighed_80 : decode c_X10_weighed 80 = .ok (.getfield 67, 3) := by decide +kernel
theorem d_X10_weighed_83 : decode c_X10_weighed 83 = .ok (.imul, 1) := by decide +kernel
theorem d_X10_weighed_84 : decode c_X10_weighed 84 = .ok (.iadd, 1) := by decide +kernel
theorem d_X10_weighed_85 : decode c_X10_weighed 85 = .ok (.ireturn, 1) := by decide +kernel
theorem d_X10_weighed_86 : decode c_X10_weighed 86 = .ok (.iload_n 3, 1) := by decide +kernel
theorem d_X10_weighed_87 : decode c_X10_weighed 87 = .ok (.iload 5, 2) := by decide +kernel
theorem d_X10_weighed_89 : decode c_X10_weighed 89 = .ok (.iload_n 2, 1) := by decide +kernel
theorem d_X10_weighed_90 : decode c_X10_weighed 90 = .ok (.isub, 1) := by decide +kernel
theorem d_X10_weighed_91 : decode c_X10_weighed 91 = .ok (.aload_n 0, 1) := by decide +kernel
theorem d_X10_weighed_92 : decode c_X10_weighed 92 = .ok (.getfield 71, 3) := by decide +kernel
theorem d_X10_weighed_95 : decode c_X10_weighed 95 = .ok (.imul, 1) := by decide +kernel
theorem d_X10_weighed_96 : decode c_X10_weighed 96 = .ok (.iadd, 1) := by decide +kernel
theorem d_X10_weighed_97 : decode c_X10_weighed 97 = .ok (.istore 6, 2) := by decide +kernel
theorem d_X10_weighed_99 : decode c_X10_weighed 99 = .ok (.iload 4, 2) := by decide +kernel
theorem d_X10_weighed_101 : decode c_X10_weighed 101 = .ok (.iconst 1, 1) := by decide +kernel
theorem d_X10_weighed_102 : decode c_X10_weighed 102 = .ok (.if_icmp .ne 6, 3) := by decide +kernel
theorem d_X10_weighed_105 : decode c_X10_weighed 105 = .ok (.iload 6, 2) := by decide +kernel
theorem d_X10_weighed_107 : decode c_X10_weighed 107 = .ok (.ireturn, 1) := by decide +kernel
theorem d_X10_weighed_108 : decode c_X10_weighed 108 = .ok (.iload 6, 2) := by decide +kernel
theorem d_X10_weighed_110 : decode c_X10_weighed 110 = .ok (.iload 5, 2) := by decide +kernel
theorem d_X10_weighed_112 : decode c_X10_weighed 112 = .ok (.bipush 24, 2) := by decide +kernel
theorem d_X10_weighed_114 : decode c_X10_weighed 114 = .ok (.imul, 1) := by decide +kernel
theorem d_X10_weighed_115 : decode c_X10_weighed 115 = .ok (.if_icmp .ge 7, 3) := by decide +kernel
theorem d_X10_weighed_118 : decode c_X10_weighed 118 = .ok (.iconst 1, 1) := by decide +kernel
theorem d_X10_weighed_119 : decode c_X10_weighed 119 = .ok (.goto 4, 3) := by decide +kernel
theorem d_X10_weighed_122 : decode c_X10_weighed 122 = .ok (.iconst 0, 1) := by decide +kernel
theorem d_X10_weighed_123 : decode c_X10_weighed 123 = .ok (.ireturn, 1) := by decide +kernel
def f_X10_weighed_0 (v : tV) (si : Int32) (kk : Int32) (we : Int32) (wh : Int32) : Int32 := (if 0 ≤ si.toInt ∧ si.toInt ≤ (v 1 3).toInt - 1 then (if (0 : Int32).toInt ≤ wh.toInt ∧ wh.toInt ≤ (2 : Int32).toInt then bnd (100 + si.toNatClampNeg) fun kc13 => bnd (v kc13 2) fun x14 => (if (0 : Int32).toInt ≤ kk.toInt ∧ kk.toInt ≤ x14.toInt then bnd (v 0 11) fun x21 => bnd (kk * x21) fun x22 => bnd (v 0 12) fun x23 => bnd (kk * x23) fun x24 => (if x22.toInt ≤ we.toInt ∧ we.toInt ≤ x24.toInt then (if wh = (0 : Int32) then bnd (x14 - kk) fun x49 => bnd (v 0 11) fun x50 => bnd (x49 * x50) fun x51 => bnd (we + x51) fun x52 => x52 else bnd (x14 - kk) fun x34 => bnd (v 0 12) fun x35 => bnd (x34 * x35) fun x36 => bnd (we + x36) fun x37 => (if wh = (1 : Int32) then x37 else bnd (x14 * (24 : Int32)) fun x41 => (if x41 ≤ x37 then (0 : Int32) else (1 : Int32)))) else (-2 : Int32)) else (-2 : Int32)) else (-1 : Int32)) else (-1 : Int32))
set_option maxHeartbeats 4000000 in
set_option maxRecDepth 100000 in
theorem ct_X10_weighed_0 (l : Launch) (D : va_G) (dA : Nat → ClassId) (ad : Nat → Nat) (v : tV) (hI : Inv v) (si : Int32) (kk : Int32) (we : Int32) (wh : Int32) : Met l m_X10_weighed [.code m_X10_weighed c_X10_weighed 7 (some .int)] ({ frames := 3, cells := 0, slots := 0, locals := 83 } : Room) (tP D dA ad v [.ref (ad 0), .int si, .int kk, .int we, .int wh]) (tQi D dA ad (fun r v' => (v' = v) ∧ r = f_X10_weighed_0 v si kk we wh)) 0 0 (tA ad) := by
  refine tMet (by decide) (Nat.le_of_ble_eq_true rfl) ?_
  intro p e s m below meth c ls X hr hlocks hw hl
  have X : CX p s m ([.ref (ad 0), .int si, .int kk, .int we, .int wh] : List Value).toArray c c_X10_weighed N_X10 7 D dA := X
  have hx := X.1
  have hb := X.2.1
  have hS : va_S (tA ad) s.heap s.heap [] := va_S.rf
  have hl : lv_has ls 7 [(0, .ref (ad 0)), (1, .int si), (2, .int kk), (3, .int we), (4, .int wh)] := hl
  obtain ⟨RR, eRR⟩ : ∃ z, f_X10_weighed_0 v si kk we wh = z := ⟨_, rfl⟩
  have hG := eRR
  unfold f_X10_weighed_0 at hG
  refine lv_aload_n hx hb d_X10_weighed_0 rfl (lv_at hl 0 rfl) ?_
  refine r_getr (r := 1) X hw FL_X10_10 (rfl : KD 0 = _) rfl d_X10_weighed_1 ?_
  refine lv_iload_n hx hb d_X10_weighed_4 rfl (lv_at hl 1 rfl) ?_
  refine r_ci (r_runV (n := 1) (As := [.int si]) (rest := []) X hw (ct_X6_hasShip_1 l D dA ad v hI si) gc_X10_95 (rfl : KD 1 = _) (by decide) rfl (by decide +kernel) ⟨rfl, rfl, Nat.le_of_ble_eq_true rfl, Nat.le_of_ble_eq_true rfl⟩ rfl hl.1 rfl (Nat.le_of_ble_eq_true rfl) ⟨Nat.zero_le _, Nat.zero_le _⟩ d_X10_weighed_5) hS (fun x2 v3 H locs hp1 hw hS => ?_)
  obtain ⟨ev3, hp1⟩ := hp1
  rw [ev3] at hw
  rcases hp1 with ⟨rfl, w4a, w4b⟩ | ⟨rfl, w4n⟩
  · skip
    have hG := g_pos ⟨w4a, w4b⟩ hG
    have r5 : Rg si 0 19 := by have q := hI 1 3 0 20 rfl; obtain ⟨_, _⟩ := q; obtain ⟨_, _⟩ := (rg_any si); exact ⟨by omega, by omega⟩
    refine lv_if_eq (tgt := 21) hx hb d_X10_weighed_8 (by decide) (fun c6 => ?_) (fun c6 => ?_)
    · exact absurd c6 (by decide)
    · refine lv_iload hx hb d_X10_weighed_11 (lv_at hl 4 rfl) ?_
      refine lv_iconst (v := 0) hx hb d_X10_weighed_13 (by decide) ?_
      refine lv_iconst (v := 2) hx hb d_X10_weighed_14 (by decide) ?_
      refine r_ci (r_runS (n := 3) (As := [.int wh, .int 0, .int 2]) (rest := []) X hw (ct_X10_within l D dA ad v hI wh 0 2) gc_X10_74 (by decide +kernel) ⟨rfl, rfl, Nat.le_of_ble_eq_true rfl, Nat.le_of_ble_eq_true rfl⟩ rfl hl.1 rfl (Nat.le_of_ble_eq_true rfl) ⟨Nat.zero_le _, Nat.zero_le _⟩ d_X10_weighed_15) hS (fun x8 v9 H locs hp7 hw hS => ?_)
      obtain ⟨ev9, hp7⟩ := hp7
      rw [ev9] at hw
      rcases hp7 with ⟨rfl, w10a, w10b⟩ | ⟨rfl, w10n⟩
      · skip
        have hG := g_pos ⟨w10a, w10b⟩ hG
        have r11 : Rg wh 0 2 := by obtain ⟨_, _⟩ := (rg_any wh); have : (0 : Int32).toInt = 0 := rfl; have : (2 : Int32).toInt = 2 := rfl; exact ⟨by omega, by omega⟩
        refine lv_if_ne (tgt := 23) hx hb d_X10_weighed_18 (by decide) (fun c12 => ?_) (fun c12 => ?_)
        · refine lv_aload_n hx hb d_X10_weighed_23 rfl (lv_at hl 0 rfl) ?_
          refine r_getr (r := 1) X hw FL_X10_10 (rfl : KD 0 = _) rfl d_X10_weighed_24 ?_
          refine r_getr (r := 10) X hw FL_X10_85 (rfl : KD 1 = _) rfl d_X10_weighed_27 ?_
          refine lv_iload_n hx hb d_X10_weighed_30 rfl (lv_at hl 1 rfl) ?_
          refine r_aald X hw (rfl : KD 10 = _) (Or.inl rfl) (Rg.vp (b := 19) r5 (by decide)) rfl d_X10_weighed_31 ?_
          refine r_nm (fun kc13 ekc13 => ?_)
          have hG := bnd_use ekc13 hG
          have kc13a : 100 ≤ kc13 := by omega
          have kc13b : kc13 ≤ 119 := by have := Rg.nat r5; omega
          refine r_geti X hw FL_X10_245 (KD_ship (by omega) (by omega)) (SH_ship (by omega) (by omega)) d_X10_weighed_32 ?_
          refine lv_topi (fun x14 ex14 => ?_)
          have hG := bnd_use ex14 hG
          refine lv_istore (lv' := [(5, .int x14), (0, .ref (ad 0)), (1, .int si), (2, .int kk), (3, .int we), (4, .int wh)]) hx hb d_X10_weighed_35 hl (by decide) rfl (fun ls hl => ?_)
          refine lv_iload_n hx hb d_X10_weighed_37 rfl (lv_at hl 3 rfl) ?_
          refine lv_iconst (v := 0) hx hb d_X10_weighed_38 (by decide) ?_
          refine lv_iload hx hb d_X10_weighed_39 (lv_at hl 0 rfl) ?_
          refine r_ci (r_runS (n := 3) (As := [.int kk, .int 0, .int x14]) (rest := []) X hw (ct_X10_within l D dA ad v hI kk 0 x14) gc_X10_74 (by decide +kernel) ⟨rfl, rfl, Nat.le_of_ble_eq_true rfl, Nat.le_of_ble_eq_true rfl⟩ rfl hl.1 rfl (Nat.le_of_ble_eq_true rfl) ⟨Nat.zero_le _, Nat.zero_le _⟩ d_X10_weighed_41) hS (fun x16 v17 H locs hp15 hw hS => ?_)
          obtain ⟨ev17, hp15⟩ := hp15
          rw [ev17] at hw
          rcases hp15 with ⟨rfl, w18a, w18b⟩ | ⟨rfl, w18n⟩
          · skip
            have hG := g_pos ⟨w18a, w18b⟩ hG
            have r19 : Rg kk 0 2147483647 := by obtain ⟨_, _⟩ := (rg_any kk); have : (0 : Int32).toInt = 0 := rfl; exact ⟨by omega, by omega⟩
            refine lv_if_eq (tgt := 66) hx hb d_X10_weighed_44 (by decide) (fun c20 => ?_) (fun c20 => ?_)
            · exact absurd c20 (by decide)
            · refine lv_iload_n hx hb d_X10_weighed_47 rfl (lv_at hl 4 rfl) ?_
              refine lv_iload_n hx hb d_X10_weighed_48 rfl (lv_at hl 3 rfl) ?_
              refine lv_aload_n hx hb d_X10_weighed_49 rfl (lv_at hl 1 rfl) ?_
              refine r_geti X hw FL_X10_67 (rfl : KD 0 = _) rfl d_X10_weighed_50 ?_
              refine lv_topi (fun x21 ex21 => ?_)
              have hG := bnd_use ex21 hG
              refine lv_imul hx hb d_X10_weighed_53 ?_
              refine lv_topi (fun x22 ex22 => ?_)
              have hG := bnd_use ex22 hG
              refine lv_iload_n hx hb d_X10_weighed_54 rfl (lv_at hl 3 rfl) ?_
              refine lv_aload_n hx hb d_X10_weighed_55 rfl (lv_at hl 1 rfl) ?_
              refine r_geti X hw FL_X10_71 (rfl : KD 0 = _) rfl d_X10_weighed_56 ?_
              refine lv_topi (fun x23 ex23 => ?_)
              have hG := bnd_use ex23 hG
              refine lv_imul hx hb d_X10_weighed_59 ?_
              refine lv_topi (fun x24 ex24 => ?_)
              have hG := bnd_use ex24 hG
              refine r_ci (r_runS (n := 3) (As := [.int we, .int x22, .int x24]) (rest := []) X hw (ct_X10_within l D dA ad v hI we x22 x24) gc_X10_74 (by decide +kernel) ⟨rfl, rfl, Nat.le_of_ble_eq_true rfl, Nat.le_of_ble_eq_true rfl⟩ rfl hl.1 rfl (Nat.le_of_ble_eq_true rfl) ⟨Nat.zero_le _, Nat.zero_le _⟩ d_X10_weighed_60) hS (fun x26 v27 H locs hp25 hw hS => ?_)
              obtain ⟨ev27, hp25⟩ := hp25
              rw [ev27] at hw
              rcases hp25 with ⟨rfl, w28a, w28b⟩ | ⟨rfl, w28n⟩
              · skip
                have hG := g_pos ⟨w28a, w28b⟩ hG
                have r29 : Rg we (-2147483648) 2147483647 := by obtain ⟨_, _⟩ := (rg_any we); exact ⟨by omega, by omega⟩
                refine lv_if_ne (tgt := 69) hx hb d_X10_weighed_63 (by decide) (fun c30 => ?_) (fun c30 => ?_)
                · refine lv_iload hx hb d_X10_weighed_69 (lv_at hl 5 rfl) ?_
                  refine lv_if_ne (tgt := 86) hx hb d_X10_weighed_71 (by decide) (fun c31 => ?_) (fun c31 => ?_)
                  · have f32 := i_ne c31
                    have r33 : Rg wh 1 2 := by obtain ⟨a1, a2⟩ := r11; obtain ⟨b1, b2⟩ := (⟨by decide, by decide⟩ : Rg 0 0 0); have f := i_ne c31; exact ⟨by omega, by omega⟩
                    have hG := g_neg c31 hG
                    refine lv_iload_n hx hb d_X10_weighed_86 rfl (lv_at hl 4 rfl) ?_
                    refine lv_iload hx hb d_X10_weighed_87 (lv_at hl 0 rfl) ?_
                    refine lv_iload_n hx hb d_X10_weighed_89 rfl (lv_at hl 3 rfl) ?_
                    refine lv_isub hx hb d_X10_weighed_90 ?_
                    refine lv_topi (fun x34 ex34 => ?_)
                    have hG := bnd_use ex34 hG
                    refine lv_aload_n hx hb d_X10_weighed_91 rfl (lv_at hl 1 rfl) ?_
                    refine r_geti X hw FL_X10_71 (rfl : KD 0 = _) rfl d_X10_weighed_92 ?_
                    refine lv_topi (fun x35 ex35 => ?_)
                    have hG := bnd_use ex35 hG
                    refine lv_imul hx hb d_X10_weighed_95 ?_
                    refine lv_topi (fun x36 ex36 => ?_)
                    have hG := bnd_use ex36 hG
                    refine lv_iadd hx hb d_X10_weighed_96 ?_
                    refine lv_topi (fun x37 ex37 => ?_)
                    have hG := bnd_use ex37 hG
                    refine lv_istore (lv' := [(6, .int x37), (5, .int x14), (0, .ref (ad 0)), (1, .int si), (2, .int kk), (3, .int we), (4, .int wh)]) hx hb d_X10_weighed_97 hl (by decide) rfl (fun ls hl => ?_)
                    refine lv_iload hx hb d_X10_weighed_99 (lv_at hl 6 rfl) ?_
                    refine lv_iconst (v := 1) hx hb d_X10_weighed_101 (by decide) ?_
                    refine lv_icmp_ne (tgt := 108) hx hb d_X10_weighed_102 (by decide) (fun c38 => ?_) (fun c38 => ?_)
                    · have f39 := i_ne c38
                      have r40 : Rg wh 2 2 := by obtain ⟨a1, a2⟩ := r33; obtain ⟨b1, b2⟩ := (⟨by decide, by decide⟩ : Rg 1 1 1); have f := i_ne c38; exact ⟨by omega, by omega⟩
                      have hG := g_neg c38 hG
                      refine lv_iload hx hb d_X10_weighed_108 (lv_at hl 0 rfl) ?_
                      refine lv_iload hx hb d_X10_weighed_110 (lv_at hl 1 rfl) ?_
                      refine lv_bipush (v := 24) hx hb d_X10_weighed_112 (by decide) ?_
                      refine lv_imul hx hb d_X10_weighed_114 ?_
                      refine lv_topi (fun x41 ex41 => ?_)
                      have hG := bnd_use ex41 hG
                      refine lv_icmp_ge (tgt := 122) hx hb d_X10_weighed_115 (by decide) (fun c42 => ?_) (fun c42 => ?_)
                      · have f43 := i_le c42
                        have hG := g_pos c42 hG
                        refine lv_iconst (v := 0) hx hb d_X10_weighed_122 (by decide) ?_
                        exact r_iret X hr hlocks hw hS ⟨rfl, hG.trans eRR.symm⟩ d_X10_weighed_123
                      · have f44 := i_nle c42
                        have hG := g_neg c42 hG
                        refine lv_iconst (v := 1) hx hb d_X10_weighed_118 (by decide) ?_
                        refine lv_goto (tgt := 123) hx hb d_X10_weighed_119 (by decide) ?_
                        exact r_iret X hr hlocks hw hS ⟨rfl, hG.trans eRR.symm⟩ d_X10_weighed_123
                    · have f45 := i_eq c38
                      have r46 : Rg wh 1 1 := by obtain ⟨a1, a2⟩ := r33; obtain ⟨b1, b2⟩ := (⟨by decide, by decide⟩ : Rg 1 1 1); have f := i_eq c38; exact ⟨by omega, by omega⟩
                      have hG := g_pos c38 hG
                      refine lv_iload hx hb d_X10_weighed_105 (lv_at hl 0 rfl) ?_
                      exact r_iret X hr hlocks hw hS ⟨rfl, hG.trans eRR.symm⟩ d_X10_weighed_107
                  · have f47 := i_eq c31
                    have r48 : Rg wh 0 0 := by obtain ⟨a1, a2⟩ := r11; obtain ⟨b1, b2⟩ := (⟨by decide, by decide⟩ : Rg 0 0 0); have f := i_eq c31; exact ⟨by omega, by omega⟩
                    have hG := g_pos c31 hG
                    refine lv_iload_n hx hb d_X10_weighed_74 rfl (lv_at hl 4 rfl) ?_
                    refine lv_iload hx hb d_X10_weighed_75 (lv_at hl 0 rfl) ?_
                    refine lv_iload_n hx hb d_X10_weighed_77 rfl (lv_at hl 3 rfl) ?_
                    refine lv_isub hx hb d_X10_weighed_78 ?_
                    refine lv_topi (fun x49 ex49 => ?_)
                    have hG := bnd_use ex49 hG
                    refine lv_aload_n hx hb d_X10_weighed_79 rfl (lv_at hl 1 rfl) ?_
                    refine r_geti X hw FL_X10_67 (rfl : KD 0 = _) rfl d_X10_weighed_80 ?_
                    refine lv_topi (fun x50 ex50 => ?_)
                    have hG := bnd_use ex50 hG
                    refine lv_imul hx hb d_X10_weighed_83 ?_
                    refine lv_topi (fun x51 ex51 => ?_)
                    have hG := bnd_use ex51 hG
                    refine lv_iadd hx hb d_X10_weighed_84 ?_
                    refine lv_topi (fun x52 ex52 => ?_)
                    have hG := bnd_use ex52 hG
                    exact r_iret X hr hlocks hw hS ⟨rfl, hG.trans eRR.symm⟩ d_X10_weighed_85
                · exact absurd c30 (by decide)
              · skip
                have hG := g_neg w28n hG
                refine lv_if_ne (tgt := 69) hx hb d_X10_weighed_63 (by decide) (fun c53 => ?_) (fun c53 => ?_)
                · exact absurd c53 (by decide)
                · refine lv_bipush (v := -2) hx hb d_X10_weighed_66 (by decide) ?_
                  exact r_iret X hr hlocks hw hS ⟨rfl, hG.trans eRR.symm⟩ d_X10_weighed_68
          · skip
            have hG := g_neg w18n hG
            refine lv_if_eq (tgt := 66) hx hb d_X10_weighed_44 (by decide) (fun c54 => ?_) (fun c54 => ?_)
            · refine lv_bipush (v := -2) hx hb d_X10_weighed_66 (by decide) ?_
              exact r_iret X hr hlocks hw hS ⟨rfl, hG.trans eRR.symm⟩ d_X10_weighed_68
            · exact absurd c54 (by decide)
        · exact absurd c12 (by decide)
      · skip
        have hG := g_neg w10n hG
        refine lv_if_ne (tgt := 23) hx hb d_X10_weighed_18 (by decide) (fun c55 => ?_) (fun c55 => ?_)
        · exact absurd c55 (by decide)
        · refine lv_iconst (v := -1) hx hb d_X10_weighed_21 (by decide) ?_
          exact r_iret X hr hlocks hw hS ⟨rfl, hG.trans eRR.symm⟩ d_X10_weighed_22
  · skip
    have hG := g_neg w4n hG
    refine lv_if_eq (tgt := 21) hx hb d_X10_weighed_8 (by decide) (fun c56 => ?_) (fun c56 => ?_)
    · refine lv_iconst (v := -1) hx hb d_X10_weighed_21 (by decide) ?_
      exact r_iret X hr hlocks hw hS ⟨rfl, hG.trans eRR.symm⟩ d_X10_weighed_22
    · exact absurd c56 (by decide)
theorem d_X10_ward_0 : decode c_X10_ward 0 = .ok (.iload_n 1, 1) := by decide +kernel
theorem d_X10_ward_1 : decode c_X10_ward 1 = .ok (.invokestatic 118, 3) := by decide +kernel
theorem d_X10_ward_4 : decode c_X10_ward 4 = .ok (.ifCond .eq 19, 3) := by decide +kernel
theorem d_X10_ward_7 : decode c_X10_ward 7 = .ok (.aload_n 0, 1) := by decide +kernel
theorem d_X10_ward_8 : decode c_X10_ward 8 = .ok (.getfield 10, 3) := by decide +kernel
theorem d_X10_ward_11 : decode c_X10_ward 11 = .ok (.getfield 148, 3) := by decide +kernel
theorem d_X10_ward_14 : decode c_X10_ward 14 = .ok (.iload_n 1, 1) := by decide +kernel
theorem d_X10_ward_15 : decode c_X10_ward 15 = .ok (.aaload, 1) := by decide +kernel
theorem d_X10_ward_16 : decode c_X10_ward 16 = .ok (.iload_n 2, 1) := by decide +kernel
theorem d_X10_ward_17 : decode c_X10_ward 17 = .ok (.invokevirtual 248, 3) := by decide +kernel
theorem d_X10_ward_20 : decode c_X10_ward 20 = .ok (.goto 4, 3) := by decide +kernel
theorem d_X10_ward_23 : decode c_X10_ward 23 = .ok (.iconst (-1), 1) := by decide +kernel
theorem d_X10_ward_24 : decode c_X10_ward 24 = .ok (.ireturn, 1) := by decide +kernel
def f_X10_ward_0 (v : tV) (wd : Int32) (wh : Int32) : Int32 := (if 0 ≤ wd.toInt ∧ wd.toInt ≤ 5 then bnd (300 + wd.toNatClampNeg) fun kc7 => bnd (f_X9_fact v kc7 wh) fun x9 => x9 else (-1 : Int32))
set_option maxHeartbeats 4000000 in
set_option maxRecDepth 100000 in
theorem ct_X10_ward_0 (l : Launch) (D : va_G) (dA : Nat → ClassId) (ad : Nat → Nat) (v : tV) (hI : Inv v) (wd : Int32) (wh : Int32) : Met l m_X10_ward [.code m_X10_ward c_X10_ward 3 (some .int)] ({ frames := 3, cells := 0, slots := 0, locals := 82 } : Room) (tP D dA ad v [.ref (ad 0), .int wd, .int wh]) (tQi D dA ad (fun r v' => (v' = v) ∧ r = f_X10_ward_0 v wd wh)) 0 0 (tA ad) := by
  refine tMet (by decide) (Nat.le_of_ble_eq_true rfl) ?_
  intro p e s m below meth c ls X hr hlocks hw hl
  have X : CX p s m ([.ref (ad 0), .int wd, .int wh] : List Value).toArray c c_X10_ward N_X10 3 D dA := X
  have hx := X.1
  have hb := X.2.1
  have hS : va_S (tA ad) s.heap s.heap [] := va_S.rf
  have hl : lv_has ls 3 [(0, .ref (ad 0)), (1, .int wd), (2, .int wh)] := hl
  obtain ⟨RR, eRR⟩ : ∃ z, f_X10_ward_0 v wd wh = z := ⟨_, rfl⟩
  have hG := eRR
  unfold f_X10_ward_0 at hG
  refine lv_iload_n hx hb d_X10_ward_0 rfl (lv_at hl 1 rfl) ?_
  refine r_ci (r_runS (n := 1) (As := [.int wd]) (rest := []) X hw (ct_X10_isWard l D dA ad v hI wd) gc_X10_118 (by decide +kernel) ⟨rfl, rfl, Nat.le_of_ble_eq_true rfl, Nat.le_of_ble_eq_true rfl⟩ rfl hl.1 rfl (Nat.le_of_ble_eq_true rfl) ⟨Nat.zero_le _, Nat.zero_le _⟩ d_X10_ward_1) hS (fun x2 v3 H locs hp1 hw hS => ?_)
  obtain ⟨ev3, hp1⟩ := hp1
  rw [ev3] at hw
  rcases hp1 with ⟨rfl, w4a, w4b⟩ | ⟨rfl, w4n⟩
  · skip
    have hG := g_pos ⟨w4a, w4b⟩ hG
    have r5 : Rg wd 0 5 := by obtain ⟨_, _⟩ := (rg_any wd); exact ⟨by omega, by omega⟩
    refine lv_if_eq (tgt := 23) hx hb d_X10_ward_4 (by decide) (fun c6 => ?_) (fun c6 => ?_)
    · exact absurd c6 (by decide)
    · refine lv_aload_n hx hb d_X10_ward_7 rfl (lv_at hl 0 rfl) ?_
      refine r_getr (r := 1) X hw FL_X10_10 (rfl : KD 0 = _) rfl d_X10_ward_8 ?_
      refine r_getr (r := 16) X hw FL_X10_148 (rfl : KD 1 = _) rfl d_X10_ward_11 ?_
      refine lv_iload_n hx hb d_X10_ward_14 rfl (lv_at hl 1 rfl) ?_
      refine r_aald X hw (rfl : KD 16 = _) (Or.inr (Or.inr (Or.inl rfl))) (Rg.vp (b := 5) r5 (by decide)) rfl d_X10_ward_15 ?_
      refine r_nm (fun kc7 ekc7 => ?_)
      have hG := bnd_use ekc7 hG
      have kc7a : 300 ≤ kc7 := by omega
      have kc7b : kc7 ≤ 305 := by have := Rg.nat r5; omega
      refine lv_iload_n hx hb d_X10_ward_16 rfl (lv_at hl 2 rfl) ?_
      refine r_ci (r_runV (n := 1) (As := [.int wh]) (rest := []) X hw (ct_X9_fact l D dA ad v hI kc7 wh (by omega) (by omega)) gc_X10_248 (KD_ward (by omega) (by omega)) (by decide) rfl (by decide +kernel) ⟨rfl, rfl, Nat.le_of_ble_eq_true rfl, Nat.le_of_ble_eq_true rfl⟩ rfl hl.1 rfl (Nat.le_of_ble_eq_true rfl) ⟨Nat.zero_le _, Nat.zero_le _⟩ d_X10_ward_17) hS (fun x9 v10 H locs hp8 hw hS => ?_)
      obtain ⟨hp8, hE11⟩ := hp8
      rw [hp8] at hw
      have hG := bnd_use hE11 hG
      refine lv_goto (tgt := 24) hx hb d_X10_ward_20 (by decide) ?_
      exact r_iret X hr hlocks hw hS ⟨rfl, hG.trans eRR.symm⟩ d_X10_ward_24
  · skip
    have hG := g_neg w4n hG
    refine lv_if_eq (tgt := 23) hx hb d_X10_ward_4 (by decide) (fun c12 => ?_) (fun c12 => ?_)
    · refine lv_iconst (v := -1) hx hb d_X10_ward_23 (by decide) ?_
      exact r_iret X hr hlocks hw hS ⟨rfl, hG.trans eRR.symm⟩ d_X10_ward_24
    · exact absurd c12 (by decide)
theorem d_X10_lasts_0 : decode c_X10_lasts 0 = .ok (.iload_n 1, 1) := by decide +kernel
theorem d_X10_lasts_1 : decode c_X10_lasts 1 = .ok (.invokestatic 118, 3) := by decide +kernel
theorem d_X10_lasts_4 : decode c_X10_lasts 4 = .ok (.ifCond .ne 5, 3) := by decide +kernel
theorem d_X10_lasts_7 : decode c_X10_lasts 7 = .ok (.iconst (-1), 1) := by decide +kernel
theorem d_X10_lasts_8 : decode c_X10_lasts 8 = .ok (.ireturn, 1) := by decide +kernel
theorem d_X10_lasts_9 : decode c_X10_lasts 9 = .ok (.iload_n 2, 1) := by decide +kernel
theorem d_X10_lasts_10 : decode c_X10_lasts 10 = .ok (.invokestatic 145, 3) := by decide +kernel
theorem d_X10_lasts_13 : decode c_X10_lasts 13 = .ok (.ifCond .ne 6, 3) := by decide +kernel
theorem d_X10_lasts_16 : decode c_X10_lasts 16 = .ok (.bipush (-2), 2) := by decide +kernel
theorem d_X10_lasts_18 : decode c_X10_lasts 18 = .ok (.ireturn, 1) := by decide +kernel
theorem d_X10_lasts_19 : decode c_X10_lasts 19 = .ok (.aload_n 0, 1) := by decide +kernel
theorem d_X10_lasts_20 : decode c_X10_lasts 20 = .ok (.getfield 10, 3) := by decide +kernel
theorem d_X10_lasts_23 : decode c_X10_lasts 23 = .ok (.getfield 148, 3) := by decide +kernel
theorem d_X10_lasts_26 : decode c_X10_lasts 26 = .ok (.iload_n 1, 1) := by decide +kernel
theorem d_X10_lasts_27 : decode c_X10_lasts 27 = .ok (.aaload, 1) := by decide +kernel
theorem d_X10_lasts_28 : decode c_X10_lasts 28 = .ok (.getfield 152, 3) := by decide +kernel
theorem d_X10_lasts_31 : decode c_X10_lasts 31 = .ok (.iload_n 2, 1) := by decide +kernel
theorem d_X10_lasts_32 : decode c_X10_lasts 32 = .ok (.iaload, 1) := by decide +kernel
theorem d_X10_lasts_33 : decode c_X10_lasts 33 = .ok (.istore_n 3, 1) := by decide +kernel
theorem d_X10_lasts_34 : decode c_X10_lasts 34 = .ok (.iload_n 3, 1) := by decide +kernel
theorem d_X10_lasts_35 : decode c_X10_lasts 35 = .ok (.ifCond .gt 7, 3) := by decide +kernel
theorem d_X10_lasts_38 : decode c_X10_lasts 38 = .ok (.sipush 1000, 3) := by decide +kernel
theorem d_X10_lasts_41 : decode c_X10_lasts 41 = .ok (.ireturn, 1) := by decide +kernel
theorem d_X10_lasts_42 : decode c_X10_lasts 42 = .ok (.aload_n 0, 1) := by decide +kernel
theorem d_X10_lasts_43 : decode c_X10_lasts 43 = .ok (.getfield 10, 3) := by decide +kernel
theorem d_X10_lasts_46 : decode c_X10_lasts 46 = .ok (.getfield 148, 3) := by decide +kernel
theorem d_X10_lasts_49 : decode c_X10_lasts 49 = .ok (.iload_n 1, 1) := by decide +kernel
theorem d_X10_lasts_50 : decode c_X10_lasts 50 = .ok (.aaload, 1) := by decide +kernel
theorem d_X10_lasts_51 : decode c_X10_lasts 51 = .ok (.getfield 158, 3) := by decide +kernel
theorem d_X10_lasts_54 : decode c_X10_lasts 54 = .ok (.iload_n 3, 1) := by decide +kernel
theorem d_X10_lasts_55 : decode c_X10_lasts 55 = .ok (.idiv, 1) := by decide +kernel
theorem d_X10_lasts_56 : decode c_X10_lasts 56 = .ok (.sipush 1000, 3) := by decide +kernel
theorem d_X10_lasts_59 : decode c_X10_lasts 59 = .ok (.invokestatic 249, 3) := by decide +kernel
theorem d_X10_lasts_62 : decode c_X10_lasts 62 = .ok (.ireturn, 1) := by decide +kernel
def f_X10_lasts_0 (v : tV) (wd : Int32) (co : Int32) : Int32 := (if 0 ≤ wd.toInt ∧ wd.toInt ≤ 5 then (if 0 ≤ co.toInt ∧ co.toInt ≤ 4 then bnd (300 + wd.toNatClampNeg) fun kc13 => bnd (kc13 + 20) fun kc14 => bnd (v kc14 co.toNatClampNeg) fun x15 => (if (0 : Int32) < x15 then bnd (300 + wd.toNatClampNeg) fun kc19 => bnd (v kc19 1) fun x20 => bnd (x20 / x15) fun x21 => bnd (if (1000 : Int32) < x21 then (1000 : Int32) else x21) fun x22 => x22 else (1000 : Int32)) else (-2 : Int32)) else (-1 : Int32))
set_option maxHeartbeats 4000000 in
set_option maxRecDepth 100000 in
theorem ct_X10_lasts_0 (l : Launch) (D : va_G) (dA : Nat → ClassId) (ad : Nat → Nat) (v : tV) (hI : Inv v) (wd : Int32) (co : Int32) : Met l m_X10_lasts [.code m_X10_lasts c_X10_lasts 4 (some .int)] ({ frames := 3, cells := 0, slots := 0, locals := 82 } : Room) (tP D dA ad v [.ref (ad 0), .int wd, .int co]) (tQi D dA ad (fun r v' => (v' = v) ∧ r = f_X10_lasts_0 v wd co)) 0 0 (tA ad) := by
  refine tMet (by decide) (Nat.le_of_ble_eq_true rfl) ?_
  intro p e s m below meth c ls X hr hlocks hw hl
  have X : CX p s m ([.ref (ad 0), .int wd, .int co] : List Value).toArray c c_X10_lasts N_X10 4 D dA := X
  have hx := X.1
  have hb := X.2.1
  have hS : va_S (tA ad) s.heap s.heap [] := va_S.rf
  have hl : lv_has ls 4 [(0, .ref (ad 0)), (1, .int wd), (2, .int co)] := hl
  obtain ⟨RR, eRR⟩ : ∃ z, f_X10_lasts_0 v wd co = z := ⟨_, rfl⟩
  have hG := eRR
  unfold f_X10_lasts_0 at hG
  refine lv_iload_n hx hb d_X10_lasts_0 rfl (lv_at hl 1 rfl) ?_
  refine r_ci (r_runS (n := 1) (As := [.int wd]) (rest := []) X hw (ct_X10_isWard l D dA ad v hI wd) gc_X10_118 (by decide +kernel) ⟨rfl, rfl, Nat.le_of_ble_eq_true rfl, Nat.le_of_ble_eq_true rfl⟩ rfl hl.1 rfl (Nat.le_of_ble_eq_true rfl) ⟨Nat.zero_le _, Nat.zero_le _⟩ d_X10_lasts_1) hS (fun x2 v3 H locs hp1 hw hS => ?_)
  obtain ⟨ev3, hp1⟩ := hp1
  rw [ev3] at hw
  rcases hp1 with ⟨rfl, w4a, w4b⟩ | ⟨rfl, w4n⟩
  · skip
    have hG := g_pos ⟨w4a, w4b⟩ hG
    have r5 : Rg wd 0 5 := by obtain ⟨_, _⟩ := (rg_any wd); exact ⟨by omega, by omega⟩
    refine lv_if_ne (tgt := 9) hx hb d_X10_lasts_4 (by decide) (fun c6 => ?_) (fun c6 => ?_)
    · refine lv_iload_n hx hb d_X10_lasts_9 rfl (lv_at hl 2 rfl) ?_
      refine r_ci (r_runS (n := 1) (As := [.int co]) (rest := []) X hw (ct_X10_isCold l D dA ad v hI co) gc_X10_145 (by decide +kernel) ⟨rfl, rfl, Nat.le_of_ble_eq_true rfl, Nat.le_of_ble_eq_true rfl⟩ rfl hl.1 rfl (Nat.le_of_ble_eq_true rfl) ⟨Nat.zero_le _, Nat.zero_le _⟩ d_X10_lasts_10) hS (fun x8 v9 H locs hp7 hw hS => ?_)
      obtain ⟨ev9, hp7⟩ := hp7
      rw [ev9] at hw
      rcases hp7 with ⟨rfl, w10a, w10b⟩ | ⟨rfl, w10n⟩
      · skip
        have hG := g_pos ⟨w10a, w10b⟩ hG
        have r11 : Rg co 0 4 := by obtain ⟨_, _⟩ := (rg_any co); exact ⟨by omega, by omega⟩
        refine lv_if_ne (tgt := 19) hx hb d_X10_lasts_13 (by decide) (fun c12 => ?_) (fun c12 => ?_)
        · refine lv_aload_n hx hb d_X10_lasts_19 rfl (lv_at hl 0 rfl) ?_
          refine r_getr (r := 1) X hw FL_X10_10 (rfl : KD 0 = _) rfl d_X10_lasts_20 ?_
          refine r_getr (r := 16) X hw FL_X10_148 (rfl : KD 1 = _) rfl d_X10_lasts_23 ?_
          refine lv_iload_n hx hb d_X10_lasts_26 rfl (lv_at hl 1 rfl) ?_
          refine r_aald X hw (rfl : KD 16 = _) (Or.inr (Or.inr (Or.inl rfl))) (Rg.vp (b := 5) r5 (by decide)) rfl d_X10_lasts_27 ?_
          refine r_nm (fun kc13 ekc13 => ?_)
          have hG := bnd_use ekc13 hG
          have kc13a : 300 ≤ kc13 := by omega
          have kc13b : kc13 ≤ 305 := by have := Rg.nat r5; omega
          refine r_getr (r := kc13 + 20) X hw FL_X10_152 (KD_ward (by omega) (by omega)) (SH_ward0 (by omega) (by omega)) d_X10_lasts_28 ?_
          refine r_nm (fun kc14 ekc14 => ?_)
          have hG := bnd_use ekc14 hG
          refine lv_iload_n hx hb d_X10_lasts_31 rfl (lv_at hl 2 rfl) ?_
          refine r_iald X hw (KD_burns (by omega) (by omega)) (Rg.vp (b := 4) r11 (by decide)) (SH_burns (by omega) (by omega)) d_X10_lasts_32 ?_
          refine lv_topi (fun x15 ex15 => ?_)
          have hG := bnd_use ex15 hG
          refine lv_istore_n (lv' := [(3, .int x15), (0, .ref (ad 0)), (1, .int wd), (2, .int co)]) hx hb d_X10_lasts_33 rfl hl (by decide) rfl (fun ls hl => ?_)
          refine lv_iload_n hx hb d_X10_lasts_34 rfl (lv_at hl 0 rfl) ?_
          refine lv_if_gt (tgt := 42) hx hb d_X10_lasts_35 (by decide) (fun c16 => ?_) (fun c16 => ?_)
          · have f17 := i_lt c16
            have r18 : Rg x15 1 2147483647 := by obtain ⟨a1, a2⟩ := (rg_any x15); obtain ⟨b1, b2⟩ := (⟨by decide, by decide⟩ : Rg 0 0 0); have f := i_lt c16; exact ⟨by omega, by omega⟩
            have hG := g_pos c16 hG
            refine lv_aload_n hx hb d_X10_lasts_42 rfl (lv_at hl 1 rfl) ?_
            refine r_getr (r := 1) X hw FL_X10_10 (rfl : KD 0 = _) rfl d_X10_lasts_43 ?_
            refine r_getr (r := 16) X hw FL_X10_148 (rfl : KD 1 = _) rfl d_X10_lasts_46 ?_
            refine lv_iload_n hx hb d_X10_lasts_49 rfl (lv_at hl 2 rfl) ?_
            refine r_aald X hw (rfl : KD 16 = _) (Or.inr (Or.inr (Or.inl rfl))) (Rg.vp (b := 5) r5 (by decide)) rfl d_X10_lasts_50 ?_
            refine r_nm (fun kc19 ekc19 => ?_)
            have hG := bnd_use ekc19 hG
            have kc19a : 300 ≤ kc19 := by omega
            have kc19b : kc19 ≤ 305 := by have := Rg.nat r5; omega
            refine r_geti X hw FL_X10_158 (KD_ward (by omega) (by omega)) (SH_ward (by omega) (by omega) (by decide)) d_X10_lasts_51 ?_
            refine lv_topi (fun x20 ex20 => ?_)
            have hG := bnd_use ex20 hG
            refine lv_iload_n hx hb d_X10_lasts_54 rfl (lv_at hl 0 rfl) ?_
            refine lv_idiv hx hb d_X10_lasts_55 (by intro h; have := i_eq h; obtain ⟨b1, b2⟩ := r18; have z0 : (0 : Int32).toInt = 0 := rfl; omega) ?_
            refine lv_topi (fun x21 ex21 => ?_)
            have hG := bnd_use ex21 hG
            refine lv_sipush (v := 1000) hx hb d_X10_lasts_56 (by decide) ?_
            refine va_mmin hx hb (X.2.2.1.trans hl.1.symm) X.2.2.2.1 (X.2.2.2.2.1 _ ml_X10_249) (X.2.2.2.2.1 _ ml_mins) (X.2.2.2.2.1 _ ml_mi) (X.2.2.2.2.1 _ ml_minc) (Nat.le_of_ble_eq_true rfl) (Nat.le_of_ble_eq_true rfl) (Nat.zero_le _) (Nat.zero_le _) d_X10_lasts_59 ?_
            refine lv_topi (fun x22 ex22 => ?_)
            have hG := bnd_use ex22 hG
            have r23 : Rg x22 (-2147483648) 1000 := by obtain ⟨a1, a2⟩ := (rg_any x21); obtain ⟨b1, b2⟩ := (⟨by decide, by decide⟩ : Rg 1000 1000 1000); rw [ex22]; split <;> rename_i q <;> first | (have := i_lt q; exact ⟨by omega, by omega⟩) | (have := i_nlt q; exact ⟨by omega, by omega⟩)
            exact r_iret X hr hlocks hw hS ⟨rfl, hG.trans eRR.symm⟩ d_X10_lasts_62
          · have f24 := i_nlt c16
            have r25 : Rg x15 (-2147483648) 0 := by obtain ⟨a1, a2⟩ := (rg_any x15); obtain ⟨b1, b2⟩ := (⟨by decide, by decide⟩ : Rg 0 0 0); have f := i_nlt c16; exact ⟨by omega, by omega⟩
            have hG := g_neg c16 hG
            refine lv_sipush (v := 1000) hx hb d_X10_lasts_38 (by decide) ?_
            exact r_iret X hr hlocks hw hS ⟨rfl, hG.trans eRR.symm⟩ d_X10_lasts_41
        · exact absurd c12 (by decide)
      · skip
        have hG := g_neg w10n hG
        refine lv_if_ne (tgt := 19) hx hb d_X10_lasts_13 (by decide) (fun c26 => ?_) (fun c26 => ?_)
        · exact absurd c26 (by decide)
        · refine lv_bipush (v := -2) hx hb d_X10_lasts_16 (by decide) ?_
          exact r_iret X hr hlocks hw hS ⟨rfl, hG.trans eRR.symm⟩ d_X10_lasts_18
    · exact absurd c6 (by decide)
  · skip
    have hG := g_neg w4n hG
    refine lv_if_ne (tgt := 9) hx hb d_X10_lasts_4 (by decide) (fun c27 => ?_) (fun c27 => ?_)
    · exact absurd c27 (by decide)
    · refine lv_iconst (v := -1) hx hb d_X10_lasts_7 (by decide) ?_
      exact r_iret X hr hlocks hw hS ⟨rfl, hG.trans eRR.symm⟩ d_X10_lasts_8
theorem d_X10_tryDay_0 : decode c_X10_tryDay 0 = .ok (.aload_n 0, 1) := by decide +kernel
theorem d_X10_tryDay_1 : decode c_X10_tryDay 1 = .ok (.getfield 39, 3) := by decide +kernel
theorem d_X10_tryDay_4 : decode c_X10_tryDay 4 = .ok (.invokevirtual 208, 3) := by decide +kernel
theorem d_X10_tryDay_7 : decode c_X10_tryDay 7 = .ok (.aload_n 0, 1) := by decide +kernel
theorem d_X10_tryDay_8 : decode c_X10_tryDay 8 = .ok (.getfield 19, 3) := by decide +kernel
theorem d_X10_tryDay_11 : decode c_X10_tryDay 11 = .ok (.iload_n 2, 1) := by decide +kernel
theorem d_X10_tryDay_12 : decode c_X10_tryDay 12 = .ok (.invokevirtual 211, 3) := by decide +kernel
theorem d_X10_tryDay_15 : decode c_X10_tryDay 15 = .ok (.aload_n 0, 1) := by decide +kernel
theorem d_X10_tryDay_16 : decode c_X10_tryDay 16 = .ok (.getfield 25, 3) := by decide +kernel
theorem d_X10_tryDay_19 : decode c_X10_tryDay 19 = .ok (.aload_n 0, 1) := by decide +kernel
theorem d_X10_tryDay_20 : decode c_X10_tryDay 20 = .ok (.getfield 19, 3) := by decide +kernel
theorem d_X10_tryDay_23 : decode c_X10_tryDay 23 = .ok (.aload_n 1, 1) := by decide +kernel
theorem d_X10_tryDay_24 : decode c_X10_tryDay 24 = .ok (.invokevirtual 198, 3) := by decide +kernel
theorem d_X10_tryDay_27 : decode c_X10_tryDay 27 = .ok (.aload_n 0, 1) := by decide +kernel
theorem d_X10_tryDay_28 : decode c_X10_tryDay 28 = .ok (.getfield 19, 3) := by decide +kernel
theorem d_X10_tryDay_31 : decode c_X10_tryDay 31 = .ok (.aload_n 0, 1) := by decide +kernel
theorem d_X10_tryDay_32 : decode c_X10_tryDay 32 = .ok (.getfield 25, 3) := by decide +kernel
theorem d_X10_tryDay_35 : decode c_X10_tryDay 35 = .ok (.aload_n 0, 1) := by decide +kernel
theorem d_X10_tryDay_36 : decode c_X10_tryDay 36 = .ok (.getfield 39, 3) := by decide +kernel
theorem d_X10_tryDay_39 : decode c_X10_tryDay 39 = .ok (.invokevirtual 218, 3) := by decide +kernel
theorem d_X10_tryDay_42 : decode c_X10_tryDay 42 = .ok (.aload_n 0, 1) := by decide +kernel
theorem d_X10_tryDay_43 : decode c_X10_tryDay 43 = .ok (.getfield 19, 3) := by decide +kernel
theorem d_X10_tryDay_46 : decode c_X10_tryDay 46 = .ok (.iload_n 3, 1) := by decide +kernel
theorem d_X10_tryDay_47 : decode c_X10_tryDay 47 = .ok (.invokevirtual 222, 3) := by decide +kernel
theorem d_X10_tryDay_50 : decode c_X10_tryDay 50 = .ok (.aload_n 0, 1) := by decide +kernel
theorem d_X10_tryDay_51 : decode c_X10_tryDay 51 = .ok (.getfield 39, 3) := by decide +kernel
theorem d_X10_tryDay_54 : decode c_X10_tryDay 54 = .ok (.getfield 225, 3) := by decide +kernel
theorem d_X10_tryDay_57 : decode c_X10_tryDay 57 = .ok (.ireturn, 1) := by decide +kernel
def kp_X10_tryDay_0 (k : Nat) (wi : Int32) (co : Int32) (a j : Nat) : Prop := ¬ (a = 3 ∨ a = 20 ∨ a = 22 ∨ a = 24 ∨ a = 31 ∨ a = 33 ∨ a = 35 ∨ a = 37 ∨ a = 39 ∨ (140 ≤ a ∧ a < 160) ∨ (220 ≤ a ∧ a < 230) ∨ (312 ≤ a ∧ a < 318) ∨ (332 ≤ a ∧ a < 338))
def f_X10_tryDay_0 (v : tV) (k : Nat) (wi : Int32) (co : Int32) : Int32 × tV := bnd (f_X1_open_31 v ) fun v2 => bnd (f_X6_sail_3 v2 wi) fun v8 => bnd (f_X5_line_20_3 v8 k) fun v14 => bnd (f_X6_trade_3_20_31 v14 ) fun v20 => bnd (f_X6_endDay_3 v20 co) fun v26 => bnd (v26 31 5) fun x31 => (x31, v26)
set_option maxHeartbeats 4000000 in
set_option maxRecDepth 100000 in
theorem ct_X10_tryDay_0 (l : Launch) (D : va_G) (dA : Nat → ClassId) (ad : Nat → Nat) (v : tV) (hI : Inv v) (k : Nat) (wi : Int32) (co : Int32) (ka : 60 ≤ k) (kb : k < 69) (r_co : Rg co 0 4) : Met l m_X10_tryDay [.code m_X10_tryDay c_X10_tryDay 4 (some .int)] ({ frames := 6, cells := 0, slots := 0, locals := 160 } : Room) (tP D dA ad v [.ref (ad 0), .ref (ad k), .int wi, .int co]) (tQi D dA ad (fun r v' => (Inv v' ∧ Kp (kp_X10_tryDay_0 k wi co) v v') ∧ (r, v') = f_X10_tryDay_0 v k wi co)) 0 0 (tA ad) := by
  refine tMet (by decide) (Nat.le_of_ble_eq_true rfl) ?_
  intro p e s m below meth c ls X hr hlocks hw hl
  have X : CX p s m ([.ref (ad 0), .ref (ad k), .int wi, .int co] : List Value).toArray c c_X10_tryDay N_X10 4 D dA := X
  have hx := X.1
  have hb := X.2.1
  have hS : va_S (tA ad) s.heap s.heap [] := va_S.rf
  have hl : lv_has ls 4 [(0, .ref (ad 0)), (1, .ref (ad k)), (2, .int wi), (3, .int co)] := hl
  obtain ⟨RR, eRR⟩ : ∃ z, f_X10_tryDay_0 v k wi co = z := ⟨_, rfl⟩
  have hK0 : Kp (kp_X10_tryDay_0 k wi co) v v := Kp.rf _ v
  have hG := eRR
  unfold f_X10_tryDay_0 at hG
  refine lv_aload_n hx hb d_X10_tryDay_0 rfl (lv_at hl 0 rfl) ?_
  refine r_getr (r := 31) X hw FL_X10_39 (rfl : KD 0 = _) rfl d_X10_tryDay_1 ?_
  refine r_cv (r_runV (n := 0) (As := []) (rest := []) X hw (ct_X1_open_31 l D dA ad v hI) gc_X10_208 (rfl : KD 31 = _) (by decide) rfl (by decide +kernel) ⟨rfl, rfl, Nat.le_of_ble_eq_true rfl, Nat.le_of_ble_eq_true rfl⟩ rfl hl.1 rfl (Nat.le_of_ble_eq_true rfl) ⟨Nat.zero_le _, Nat.zero_le _⟩ d_X10_tryDay_4) hS (fun v2 H locs hp1 hw hS => ?_)
  obtain ⟨hp1, hE3⟩ := hp1
  obtain ⟨hI4, hK5⟩ := hp1
  have hK6 : Kp (kp_X10_tryDay_0 k wi co) v v2 := Kp.tr hK0 hK5 (by have z0 : (0 : Int32).toInt = 0 := rfl; intro a j; unfold kp_X10_tryDay_0 kp_X1_open_31; omega)
  have hG := bnd_use hE3 hG
  refine lv_aload_n hx hb d_X10_tryDay_7 rfl (lv_at hl 0 rfl) ?_
  refine r_getr (r := 3) X hw FL_X10_19 (rfl : KD 0 = _) rfl d_X10_tryDay_8 ?_
  refine lv_iload_n hx hb d_X10_tryDay_11 rfl (lv_at hl 2 rfl) ?_
  refine r_cv (r_runV (n := 1) (As := [.int wi]) (rest := []) X hw (ct_X6_sail_3 l D dA ad v2 hI4 wi) gc_X10_211 (rfl : KD 3 = _) (by decide) rfl (by decide +kernel) ⟨rfl, rfl, Nat.le_of_ble_eq_true rfl, Nat.le_of_ble_eq_true rfl⟩ rfl hl.1 rfl (Nat.le_of_ble_eq_true rfl) ⟨Nat.zero_le _, Nat.zero_le _⟩ d_X10_tryDay_12) hS (fun v8 H locs hp7 hw hS => ?_)
  obtain ⟨hp7, hE9⟩ := hp7
  obtain ⟨hI10, hK11⟩ := hp7
  have hK12 : Kp (kp_X10_tryDay_0 k wi co) v v8 := Kp.tr hK6 hK11 (by have z0 : (0 : Int32).toInt = 0 := rfl; intro a j; unfold kp_X10_tryDay_0 kp_X6_sail_3; omega)
  have hG := bnd_use hE9 hG
  refine lv_aload_n hx hb d_X10_tryDay_15 rfl (lv_at hl 0 rfl) ?_
  refine r_getr (r := 20) X hw FL_X10_25 (rfl : KD 0 = _) rfl d_X10_tryDay_16 ?_
  refine lv_aload_n hx hb d_X10_tryDay_19 rfl (lv_at hl 0 rfl) ?_
  refine r_getr (r := 3) X hw FL_X10_19 (rfl : KD 0 = _) rfl d_X10_tryDay_20 ?_
  refine lv_aload_n hx hb d_X10_tryDay_23 rfl (lv_at hl 1 rfl) ?_
  refine r_cv (r_runV (n := 2) (As := [.ref (ad 3), .ref (ad k)]) (rest := []) X hw (ct_X5_line_20_3 l D dA ad v8 hI10 k (by omega) (by omega)) gc_X10_198 (rfl : KD 20 = _) (by decide) rfl (by decide +kernel) ⟨rfl, rfl, Nat.le_of_ble_eq_true rfl, Nat.le_of_ble_eq_true rfl⟩ rfl hl.1 rfl (Nat.le_of_ble_eq_true rfl) ⟨Nat.zero_le _, Nat.zero_le _⟩ d_X10_tryDay_24) hS (fun v14 H locs hp13 hw hS => ?_)
  obtain ⟨hp13, hE15⟩ := hp13
  obtain ⟨hI16, hK17⟩ := hp13
  have hK18 : Kp (kp_X10_tryDay_0 k wi co) v v14 := Kp.tr hK12 hK17 (by have z0 : (0 : Int32).toInt = 0 := rfl; intro a j; unfold kp_X10_tryDay_0 kp_X5_line_20_3; omega)
  have hG := bnd_use hE15 hG
  refine lv_aload_n hx hb d_X10_tryDay_27 rfl (lv_at hl 0 rfl) ?_
  refine r_getr (r := 3) X hw FL_X10_19 (rfl : KD 0 = _) rfl d_X10_tryDay_28 ?_
  refine lv_aload_n hx hb d_X10_tryDay_31 rfl (lv_at hl 0 rfl) ?_
  refine r_getr (r := 20) X hw FL_X10_25 (rfl : KD 0 = _) rfl d_X10_tryDay_32 ?_
  refine lv_aload_n hx hb d_X10_tryDay_35 rfl (lv_at hl 0 rfl) ?_
  refine r_getr (r := 31) X hw FL_X10_39 (rfl : KD 0 = _) rfl d_X10_tryDay_36 ?_
  refine r_cv (r_runV (n := 2) (As := [.ref (ad 20), .ref (ad 31)]) (rest := []) X hw (ct_X6_trade_3_20_31 l D dA ad v14 hI16) gc_X10_218 (rfl : KD 3 = _) (by decide) rfl (by decide +kernel) ⟨rfl, rfl, Nat.le_of_ble_eq_true rfl, Nat.le_of_ble_eq_true rfl⟩ rfl hl.1 rfl (Nat.le_of_ble_eq_true rfl) ⟨Nat.zero_le _, Nat.zero_le _⟩ d_X10_tryDay_39) hS (fun v20 H locs hp19 hw hS => ?_)
  obtain ⟨hp19, hE21⟩ := hp19
  obtain ⟨hI22, hK23⟩ := hp19
  have hK24 : Kp (kp_X10_tryDay_0 k wi co) v v20 := Kp.tr hK18 hK23 (by have z0 : (0 : Int32).toInt = 0 := rfl; intro a j; unfold kp_X10_tryDay_0 kp_X6_trade_3_20_31; omega)
  have hG := bnd_use hE21 hG
  refine lv_aload_n hx hb d_X10_tryDay_42 rfl (lv_at hl 0 rfl) ?_
  refine r_getr (r := 3) X hw FL_X10_19 (rfl : KD 0 = _) rfl d_X10_tryDay_43 ?_
  refine lv_iload_n hx hb d_X10_tryDay_46 rfl (lv_at hl 3 rfl) ?_
  refine r_cv (r_runV (n := 1) (As := [.int co]) (rest := []) X hw (ct_X6_endDay_3 l D dA ad v20 hI22 co r_co) gc_X10_222 (rfl : KD 3 = _) (by decide) rfl (by decide +kernel) ⟨rfl, rfl, Nat.le_of_ble_eq_true rfl, Nat.le_of_ble_eq_true rfl⟩ rfl hl.1 rfl (Nat.le_of_ble_eq_true rfl) ⟨Nat.zero_le _, Nat.zero_le _⟩ d_X10_tryDay_47) hS (fun v26 H locs hp25 hw hS => ?_)
  obtain ⟨hp25, hE27⟩ := hp25
  obtain ⟨hI28, hK29⟩ := hp25
  have hK30 : Kp (kp_X10_tryDay_0 k wi co) v v26 := Kp.tr hK24 hK29 (by have z0 : (0 : Int32).toInt = 0 := rfl; intro a j; unfold kp_X10_tryDay_0 kp_X6_endDay_3; omega)
  have hG := bnd_use hE27 hG
  refine lv_aload_n hx hb d_X10_tryDay_50 rfl (lv_at hl 0 rfl) ?_
  refine r_getr (r := 31) X hw FL_X10_39 (rfl : KD 0 = _) rfl d_X10_tryDay_51 ?_
  refine r_geti X hw FL_X10_225 (rfl : KD 31 = _) rfl d_X10_tryDay_54 ?_
  refine lv_topi (fun x31 ex31 => ?_)
  have hG := bnd_use ex31 hG
  exact r_iret X hr hlocks hw hS ⟨⟨hI28, hK30⟩, hG.trans eRR.symm⟩ d_X10_tryDay_57
theorem d_X10_tried_0 : decode c_X10_tried 0 = .ok (.iload_n 2, 1) := by decide +kernel
theorem d_X10_tried_1 : decode c_X10_tried 1 = .ok (.iconst 1, 1) := by decide +kernel
theorem d_X10_tried_2 : decode c_X10_tried 2 = .ok (.bipush 30, 2) := by decide +kernel
theorem d_X10_tried_4 : decode c_X10_tried 4 = .ok (.invokestatic 74, 3) := by decide +kernel
theorem d_X10_tried_7 : decode c_X10_tried 7 = .ok (.ifCond .eq 28, 3) := by decide +kernel
theorem d_X10_tried_10 : decode c_X10_tried 10 = .ok (.iload_n 3, 1) := by decide +kernel
theorem d_X10_tried_11 : decode c_X10_tried 11 = .ok (.invokestatic 205, 3) := by decide +kernel
theorem d_X10_tried_14 : decode c_X10_tried 14 = .ok (.ifCond .eq 21, 3) := by decide +kernel
theorem d_X10_tried_17 : decode c_X10_tried 17 = .ok (.iload 4, 2) := by decide +kernel
theorem d_X10_tried_19 : decode c_X10_tried 19 = .ok (.invokestatic 145, 3) := by decide +kernel
theorem d_X10_tried_22 : decode c_X10_tried 22 = .ok (.ifCond .eq 13, 3) := by decide +kernel
theorem d_X10_tried_25 : decode c_X10_tried 25 = .ok (.iload 5, 2) := by decide +kernel
theorem d_X10_tried_27 : decode c_X10_tried 27 = .ok (.iconst 0, 1) := by decide +kernel
theorem d_X10_tried_28 : decode c_X10_tried 28 = .ok (.iconst 2, 1) := by decide +kernel
theorem d_X10_tried_29 : decode c_X10_tried 29 = .ok (.invokestatic 74, 3) := by decide +kernel
theorem d_X10_tried_32 : decode c_X10_tried 32 = .ok (.ifCond .ne 6, 3) := by decide +kernel
theorem d_X10_tried_35 : decode c_X10_tried 35 = .ok (.bipush (-2), 2) := by decide +kernel
theorem d_X10_tried_37 : decode c_X10_tried 37 = .ok (.ireturn, 1) := by decide +kernel
theorem d_X10_tried_38 : decode c_X10_tried 38 = .ok (.iload_n 1, 1) := by decide +kernel
theorem d_X10_tried_39 : decode c_X10_tried 39 = .ok (.iconst (-1), 1) := by decide +kernel
theorem d_X10_tried_40 : decode c_X10_tried 40 = .ok (.if_icmp .eq 16, 3) := by decide +kernel
theorem d_X10_tried_43 : decode c_X10_tried 43 = .ok (.aload_n 0, 1) := by decide +kernel
theorem d_X10_tried_44 : decode c_X10_tried 44 = .ok (.getfield 52, 3) := by decide +kernel
theorem d_X10_tried_47 : decode c_X10_tried 47 = .ok (.iload_n 1, 1) := by decide +kernel
theorem d_X10_tried_48 : decode c_X10_tried 48 = .ok (.invokevirtual 185, 3) := by decide +kernel
theorem d_X10_tried_51 : decode c_X10_tried 51 = .ok (.ifCond .ne 5, 3) := by decide +kernel
theorem d_X10_tried_54 : decode c_X10_tried 54 = .ok (.iconst (-1), 1) := by decide +kernel
theorem d_X10_tried_55 : decode c_X10_tried 55 = .ok (.ireturn, 1) := by decide +kernel
theorem d_X10_tried_56 : decode c_X10_tried 56 = .ok (.aload_n 0, 1) := by decide +kernel
theorem d_X10_tried_57 : decode c_X10_tried 57 = .ok (.getfield 19, 3) := by decide +kernel
theorem d_X10_tried_60 : decode c_X10_tried 60 = .ok (.aload_n 0, 1) := by decide +kernel
theorem d_X10_tried_61 : decode c_X10_tried 61 = .ok (.getfield 10, 3) := by decide +kernel
theorem d_X10_tried_64 : decode c_X10_tried 64 = .ok (.invokevirtual 214, 3) := by decide +kernel
theorem d_X10_tried_67 : decode c_X10_tried 67 = .ok (.iconst 0, 1) := by decide +kernel
theorem d_X10_tried_68 : decode c_X10_tried 68 = .ok (.istore 6, 2) := by decide +kernel
theorem d_X10_tried_70 : decode c_X10_tried 70 = .ok (.iconst 0, 1) := by decide +kernel
theorem d_X10_tried_71 : decode c_X10_tried 71 = .ok (.istore 7, 2) := by decide +kernel
theorem d_X10_tried_73 : decode c_X10_tried 73 = .ok (.iload 7, 2) := by decide +kernel
theorem d_X10_tried_75 : decode c_X10_tried 75 = .ok (.iload_n 2, 1) := by decide +kernel
theorem d_X10_tried_76 : decode c_X10_tried 76 = .ok (.if_icmp .ge 56, 3) := by decide +kernel
theorem d_X10_tried_79 : decode c_X10_tried 79 = .ok (.iload_n 1, 1) := by decide +kernel
theorem d_X10_tried_80 : decode c_X10_tried 80 = .ok (.iconst (-1), 1) := by decide +kernel
theorem d_X10_tried_81 : decode c_X10_tried 81 = .ok (.if_icmp .ne 20, 3) := by decide +kernel
theorem d_X10_tried_84 : decode c_X10_tried 84 = .ok (.aload_n 0, 1) := by decide +kernel
theorem d_X10_tried_85 : decode c_X10_tried 85 = .ok (.getfield 52, 3) := by decide +kernel
theorem d_X10_tried_88 : decode c_X10_tried 88 = .ok (.aload_n 0, 1) := by decide +kernel
theorem d_X10_tried_89 : decode c_X10_tried 89 = .ok (.getfield 19, 3) := by decide +kernel
theorem d_X10_tried_92 : decode c_X10_tried 92 = .ok (.getfield 191, 3) := by decide +kernel
theorem d_X10_tried_95 : decode c_X10_tried 95 = .ok (.invokevirtual 194, 3) := by decide +kernel
theorem d_X10_tried_98 : decode c_X10_tried 98 = .ok (.goto 12, 3) := by decide +kernel
theorem d_X10_tried_101 : decode c_X10_tried 101 = .ok (.aload_n 0, 1) := by decide +kernel
theorem d_X10_tried_102 : decode c_X10_tried 102 = .ok (.getfield 52, 3) := by decide +kernel
theorem d_X10_tried_105 : decode c_X10_tried 105 = .ok (.getfield 169, 3) := by decide +kernel
theorem d_X10_tried_108 : decode c_X10_tried 108 = .ok (.iload_n 1, 1) := by decide +kernel
theorem d_X10_tried_109 : decode c_X10_tried 109 = .ok (.aaload, 1) := by decide +kernel
theorem d_X10_tried_110 : decode c_X10_tried 110 = .ok (.astore 8, 2) := by decide +kernel
theorem d_X10_tried_112 : decode c_X10_tried 112 = .ok (.iload 6, 2) := by decide +kernel
theorem d_X10_tried_114 : decode c_X10_tried 114 = .ok (.aload_n 0, 1) := by decide +kernel
theorem d_X10_tried_115 : decode c_X10_tried 115 = .ok (.aload 8, 2) := by decide +kernel
theorem d_X10_tried_117 : decode c_X10_tried 117 = .ok (.iload_n 3, 1) := by decide +kernel
theorem d_X10_tried_118 : decode c_X10_tried 118 = .ok (.iload 4, 2) := by decide +kernel
theorem d_X10_tried_120 : decode c_X10_tried 120 = .ok (.invokevirtual 254, 3) := by decide +kernel
theorem d_X10_tried_123 : decode c_X10_tried 123 = .ok (.iadd, 1) := by decide +kernel
theorem d_X10_tried_124 : decode c_X10_tried 124 = .ok (.istore 6, 2) := by decide +kernel
theorem d_X10_tried_126 : decode c_X10_tried 126 = .ok (.iinc 7 1, 3) := by decide +kernel
theorem d_X10_tried_129 : decode c_X10_tried 129 = .ok (.goto (-56), 3) := by decide +kernel
theorem d_X10_tried_132 : decode c_X10_tried 132 = .ok (.iload 5, 2) := by decide +kernel
theorem d_X10_tried_134 : decode c_X10_tried 134 = .ok (.ifCond .ne 11, 3) := by decide +kernel
theorem d_X10_tried_137 : decode c_X10_tried 137 = .ok (.aload_n 0, 1) := by decide +kernel
theorem d_X10_tried_138 : decode c_X10_tried 138 = .ok (.getfield 19, 3) := by decide +kernel
theorem d_X10_tried_141 : decode c_X10_tried 141 = .ok (.getfield 242, 3) := by decide +kernel
theorem d_X10_tried_144 : decode c_X10_tried 144 = .ok (.ireturn, 1) := by decide +kernel
theorem d_X10_tried_145 : decode c_X10_tried 145 = .ok (.iload 5, 2) := by decide +kernel
theorem d_X10_tried_147 : decode c_X10_tried 147 = .ok (.iconst 1, 1) := by decide +kernel
theorem d_X10_tried_148 : decode c_X10_tried 148 = .ok (.if_icmp .ne 8, 3) := by decide +kernel
theorem d_X10_tried_151 : decode c_X10_tried 151 = .ok (.iload 6, 2) := by decide +kernel
theorem d_X10_tried_153 : decode c_X10_tried 153 = .ok (.goto 18, 3) := by decide +kernel
theorem d_X10_tried_156 : decode c_X10_tried 156 = .ok (.aload_n 0, 1) := by decide +kernel
theorem d_X10_tried_157 : decode c_X10_tried 157 = .ok (.getfield 19, 3) := by decide +kernel
theorem d_X10_tried_160 : decode c_X10_tried 160 = .ok (.invokevirtual 258, 3) := by decide +kernel
theorem d_X10_tried_163 : decode c_X10_tried 163 = .ok (.aload_n 0, 1) := by decide +kernel
theorem d_X10_tried_164 : decode c_X10_tried 164 = .ok (.getfield 10, 3) := by decide +kernel
theorem d_X10_tried_167 : decode c_X10_tried 167 = .ok (.invokevirtual 258, 3) := by decide +kernel
theorem d_X10_tried_170 : decode c_X10_tried 170 = .ok (.isub, 1) := by decide +kernel
theorem d_X10_tried_171 : decode c_X10_tried 171 = .ok (.ireturn, 1) := by decide +kernel
def kp_X10_tried_0 (od : Int32) (dn : Int32) (wi : Int32) (co : Int32) (wh : Int32) (a j : Nat) : Prop := ¬ (a = 3 ∨ a = 20 ∨ a = 22 ∨ a = 24 ∨ a = 31 ∨ a = 33 ∨ a = 35 ∨ a = 37 ∨ a = 39 ∨ (140 ≤ a ∧ a < 160) ∨ (220 ≤ a ∧ a < 230) ∨ (312 ≤ a ∧ a < 318) ∨ (332 ≤ a ∧ a < 338))
def b_X10_tried_0_73 (od : Int32) (dn : Int32) (wi : Int32) (co : Int32) (wh : Int32) (rc73 : Int32 → Int32 → tV → Int32 × tV) (y6 : Int32) (y7 : Int32) (v1 : tV) : Int32 × tV := (if dn ≤ y7 then (if wh = (0 : Int32) then bnd (v1 3 6) fun x21 => (x21, v1) else (if wh = (1 : Int32) then (y6, v1) else bnd (f_X6_lackedDays_3 v1 ) fun x9 => bnd (f_X6_lackedDays_1 v1 ) fun x13 => bnd (x9 - x13) fun x16 => (x16, v1))) else (if od = (-1 : Int32) then bnd (v1 3 5) fun x41 => bnd (f_X4_ruleOn_50 v1 x41) fun kc44 => bnd2 (f_X10_tryDay_0 v1 kc44 wi co) fun x47 v48 => bnd (y6 + x47) fun x53 => bnd (y7 + 1) fun x54 => rc73 x53 x54 v48 else bnd (60 + od.toNatClampNeg) fun kc27 => bnd2 (f_X10_tryDay_0 v1 kc27 wi co) fun x29 v30 => bnd (y6 + x29) fun x35 => bnd (y7 + 1) fun x36 => rc73 x35 x36 v30))
def g_X10_tried_0_73 (od : Int32) (dn : Int32) (wi : Int32) (co : Int32) (wh : Int32) : Nat → Int32 → Int32 → tV → Int32 × tV
  | 0, _, _, v1 => (0, v1)
  | n + 1, y6, y7, v1 => b_X10_tried_0_73 od dn wi co wh (g_X10_tried_0_73 od dn wi co wh n) y6 y7 v1
def f_X10_tried_0 (v : tV) (od : Int32) (dn : Int32) (wi : Int32) (co : Int32) (wh : Int32) : Int32 × tV := (if (1 : Int32).toInt ≤ dn.toInt ∧ dn.toInt ≤ (30 : Int32).toInt then (if 0 ≤ wi.toInt ∧ wi.toInt ≤ 9 then (if 0 ≤ co.toInt ∧ co.toInt ≤ 4 then (if (0 : Int32).toInt ≤ wh.toInt ∧ wh.toInt ≤ (2 : Int32).toInt then (if od = (-1 : Int32) then bnd (f_X6_copy_3_1 v ) fun v85 => g_X10_tried_0_73 od dn wi co wh 100000 0 0 v85 else (if 0 ≤ od.toInt ∧ od.toInt ≤ (v 50 2).toInt - 1 then bnd (f_X6_copy_3_1 v ) fun v98 => g_X10_tried_0_73 od dn wi co wh 100000 0 0 v98 else ((-1 : Int32), v))) else ((-2 : Int32), v)) else ((-2 : Int32), v)) else ((-2 : Int32), v)) else ((-2 : Int32), v))
set_option maxHeartbeats 4000000 in
set_option maxRecDepth 100000 in
theorem ct_X10_tried_0 (l : Launch) (D : va_G) (dA : Nat → ClassId) (ad : Nat → Nat) (v : tV) (hI : Inv v) (od : Int32) (dn : Int32) (wi : Int32) (co : Int32) (wh : Int32) : Met l m_X10_tried [.code m_X10_tried c_X10_tried 9 (some .int)] ({ frames := 7, cells := 0, slots := 0, locals := 183 } : Room) (tP D dA ad v [.ref (ad 0), .int od, .int dn, .int wi, .int co, .int wh]) (tQi D dA ad (fun r v' => (Inv v' ∧ Kp (kp_X10_tried_0 od dn wi co wh) v v') ∧ (r, v') = f_X10_tried_0 v od dn wi co wh)) 0 0 (tA ad) := by
  refine tMet (by decide) (Nat.le_of_ble_eq_true rfl) ?_
  intro p e s m below meth c ls X hr hlocks hw hl
  have X : CX p s m ([.ref (ad 0), .int od, .int dn, .int wi, .int co, .int wh] : List Value).toArray c c_X10_tried N_X10 9 D dA := X
  have hx := X.1
  have hb := X.2.1
  have hS : va_S (tA ad) s.heap s.heap [] := va_S.rf
  have hl : lv_has ls 9 [(0, .ref (ad 0)), (1, .int od), (2, .int dn), (3, .int wi), (4, .int co), (5, .int wh)] := hl
  obtain ⟨RR, eRR⟩ : ∃ z, f_X10_tried_0 v od dn wi co wh = z := ⟨_, rfl⟩
  have LL : ∀ n : Nat, (∀ (y6 : Int32) (y7 : Int32) (v1 : tV) (H : Heap) (locs : List Loc) (ls : Array Slot), (30 - y7.toInt).toNat < n → Rg od (-1) 7 → Rg dn 1 30 → Rg co 0 4 → Rg y7 0 30 → Inv v1 → Kp (kp_X10_tried_0 od dn wi co wh) v v1 → g_X10_tried_0_73 od dn wi co wh n y6 y7 v1 = RR → tI D dA ad v1 H → va_S (tA ad) s.heap H locs → lv_has ls 9 [(0, .ref (ad 0)), (1, .int od), (2, .int dn), (3, .int wi), (4, .int co), (5, .int wh), (6, .int y6), (7, .int y7)] → W p l e ({ frames := 7, cells := 0, slots := 0, locals := 183 } : Room) s m ([.ref (ad 0), .int od, .int dn, .int wi, .int co, .int wh] : List Value).toArray below meth c H locs 0 0 (MQ below (tQi D dA ad (fun r v' => (Inv v' ∧ Kp (kp_X10_tried_0 od dn wi co wh) v v') ∧ (r, v') = f_X10_tried_0 v od dn wi co wh)) ([.ref (ad 0), .int od, .int dn, .int wi, .int co, .int wh] : List Value).toArray s 0 0 (tA ad)) (F0 m 73 ls [])) := by
    intro n
    induction n with
    | zero => intros; omega
    | succ n ih =>
      have ih0 := ih
      intro y6 y7 v1 H locs ls hmu r_y1 r_y2 r_y4 r_y7 hI1 hK1 hG hw hS hl
      have hG : b_X10_tried_0_73 od dn wi co wh (g_X10_tried_0_73 od dn wi co wh n) y6 y7 v1 = RR := hG
      unfold b_X10_tried_0_73 at hG
      refine lv_iload hx hb d_X10_tried_73 (lv_at hl 7 rfl) ?_
      refine lv_iload_n hx hb d_X10_tried_75 rfl (lv_at hl 2 rfl) ?_
      refine lv_icmp_ge (tgt := 132) hx hb d_X10_tried_76 (by decide) (fun c1 => ?_) (fun c1 => ?_)
      · have f2 := i_le c1
        have r3 : Rg y7 1 30 := by obtain ⟨a1, a2⟩ := r_y7; obtain ⟨b1, b2⟩ := r_y2; have f := i_le c1; exact ⟨by omega, by omega⟩
        have hG := g_pos c1 hG
        refine lv_iload hx hb d_X10_tried_132 (lv_at hl 5 rfl) ?_
        refine lv_if_ne (tgt := 145) hx hb d_X10_tried_134 (by decide) (fun c4 => ?_) (fun c4 => ?_)
        · have f5 := i_ne c4
          have hG := g_neg c4 hG
          refine lv_iload hx hb d_X10_tried_145 (lv_at hl 5 rfl) ?_
          refine lv_iconst (v := 1) hx hb d_X10_tried_147 (by decide) ?_
          refine lv_icmp_ne (tgt := 156) hx hb d_X10_tried_148 (by decide) (fun c6 => ?_) (fun c6 => ?_)
          · have f7 := i_ne c6
            have hG := g_neg c6 hG
            refine lv_aload_n hx hb d_X10_tried_156 rfl (lv_at hl 0 rfl) ?_
            refine r_getr (r := 3) X hw FL_X10_19 (rfl : KD 0 = _) rfl d_X10_tried_157 ?_
            refine r_ci (r_runV (n := 0) (As := []) (rest := []) X hw (ct_X6_lackedDays_3 l D dA ad v1 hI1) gc_X10_258 (rfl : KD 3 = _) (by decide) rfl (by decide +kernel) ⟨rfl, rfl, Nat.le_of_ble_eq_true rfl, Nat.le_of_ble_eq_true rfl⟩ rfl hl.1 rfl (Nat.le_of_ble_eq_true rfl) ⟨Nat.zero_le _, Nat.zero_le _⟩ d_X10_tried_160) hS (fun x9 v10 H locs hp8 hw hS => ?_)
            obtain ⟨hp8, hE11⟩ := hp8
            rw [hp8] at hw
            have hG := bnd_use hE11 hG
            refine lv_aload_n hx hb d_X10_tried_163 rfl (lv_at hl 0 rfl) ?_
            refine r_getr (r := 1) X hw FL_X10_10 (rfl : KD 0 = _) rfl d_X10_tried_164 ?_
            refine r_ci (r_runV (n := 0) (As := []) (rest := [.int x9]) X hw (ct_X6_lackedDays_1 l D dA ad v1 hI1) gc_X10_258 (rfl : KD 1 = _) (by decide) rfl (by decide +kernel) ⟨rfl, rfl, Nat.le_of_ble_eq_true rfl, Nat.le_of_ble_eq_true rfl⟩ rfl hl.1 rfl (Nat.le_of_ble_eq_true rfl) ⟨Nat.zero_le _, Nat.zero_le _⟩ d_X10_tried_167) hS (fun x13 v14 H locs hp12 hw hS => ?_)
            obtain ⟨hp12, hE15⟩ := hp12
            rw [hp12] at hw
            have hG := bnd_use hE15 hG
            refine lv_isub hx hb d_X10_tried_170 ?_
            refine lv_topi (fun x16 ex16 => ?_)
            have hG := bnd_use ex16 hG
            exact r_iret X hr hlocks hw hS ⟨⟨hI1, hK1⟩, hG.trans eRR.symm⟩ d_X10_tried_171
          · have f17 := i_eq c6
            have r18 : Rg wh 1 1 := by obtain ⟨a1, a2⟩ := (rg_any wh); obtain ⟨b1, b2⟩ := (⟨by decide, by decide⟩ : Rg 1 1 1); have f := i_eq c6; exact ⟨by omega, by omega⟩
            have hG := g_pos c6 hG
            refine lv_iload hx hb d_X10_tried_151 (lv_at hl 6 rfl) ?_
            refine lv_goto (tgt := 171) hx hb d_X10_tried_153 (by decide) ?_
            exact r_iret X hr hlocks hw hS ⟨⟨hI1, hK1⟩, hG.trans eRR.symm⟩ d_X10_tried_171
        · have f19 := i_eq c4
          have r20 : Rg wh 0 0 := by obtain ⟨a1, a2⟩ := (rg_any wh); obtain ⟨b1, b2⟩ := (⟨by decide, by decide⟩ : Rg 0 0 0); have f := i_eq c4; exact ⟨by omega, by omega⟩
          have hG := g_pos c4 hG
          refine lv_aload_n hx hb d_X10_tried_137 rfl (lv_at hl 0 rfl) ?_
          refine r_getr (r := 3) X hw FL_X10_19 (rfl : KD 0 = _) rfl d_X10_tried_138 ?_
          refine r_geti X hw FL_X10_242 (rfl : KD 3 = _) rfl d_X10_tried_141 ?_
          refine lv_topi (fun x21 ex21 => ?_)
          have hG := bnd_use ex21 hG
          exact r_iret X hr hlocks hw hS ⟨⟨hI1, hK1⟩, hG.trans eRR.symm⟩ d_X10_tried_144
      · have f22 := i_nle c1
        have r23 : Rg y7 0 29 := by obtain ⟨a1, a2⟩ := r_y7; obtain ⟨b1, b2⟩ := r_y2; have f := i_nle c1; exact ⟨by omega, by omega⟩
        have hG := g_neg c1 hG
        refine lv_iload_n hx hb d_X10_tried_79 rfl (lv_at hl 1 rfl) ?_
        refine lv_iconst (v := -1) hx hb d_X10_tried_80 (by decide) ?_
        refine lv_icmp_ne (tgt := 101) hx hb d_X10_tried_81 (by decide) (fun c24 => ?_) (fun c24 => ?_)
        · have f25 := i_ne c24
          have r26 : Rg od 0 7 := by obtain ⟨a1, a2⟩ := r_y1; obtain ⟨b1, b2⟩ := (⟨by decide, by decide⟩ : Rg (-1) (-1) (-1)); have f := i_ne c24; exact ⟨by omega, by omega⟩
          have hG := g_neg c24 hG
          refine lv_aload_n hx hb d_X10_tried_101 rfl (lv_at hl 0 rfl) ?_
          refine r_getr (r := 50) X hw FL_X10_52 (rfl : KD 0 = _) rfl d_X10_tried_102 ?_
          refine r_getr (r := 51) X hw FL_X10_169 (rfl : KD 50 = _) rfl d_X10_tried_105 ?_
          refine lv_iload_n hx hb d_X10_tried_108 rfl (lv_at hl 1 rfl) ?_
          refine r_aald X hw (rfl : KD 51 = _) (Or.inr (Or.inr (Or.inr rfl))) (Rg.vp (b := 7) r26 (by decide)) rfl d_X10_tried_109 ?_
          refine r_nm (fun kc27 ekc27 => ?_)
          have hG := bnd_use ekc27 hG
          have kc27a : 60 ≤ kc27 := by omega
          have kc27b : kc27 ≤ 67 := by have := Rg.nat r26; omega
          refine lv_astore (lv' := [(8, .ref (ad kc27)), (0, .ref (ad 0)), (1, .int od), (2, .int dn), (3, .int wi), (4, .int co), (5, .int wh), (6, .int y6), (7, .int y7)]) hx hb d_X10_tried_110 hl (by decide) rfl (fun ls hl => ?_)
          refine lv_iload hx hb d_X10_tried_112 (lv_at hl 7 rfl) ?_
          refine lv_aload_n hx hb d_X10_tried_114 rfl (lv_at hl 1 rfl) ?_
          refine lv_aload hx hb d_X10_tried_115 (lv_at hl 0 rfl) ?_
          refine lv_iload_n hx hb d_X10_tried_117 rfl (lv_at hl 4 rfl) ?_
          refine lv_iload hx hb d_X10_tried_118 (lv_at hl 5 rfl) ?_
          refine r_ci (r_runV (n := 3) (As := [.ref (ad kc27), .int wi, .int co]) (rest := [.int y6]) X hw (ct_X10_tryDay_0 l D dA ad v1 hI1 kc27 wi co (by omega) (by omega) r_y4) gc_X10_254 (rfl : KD 0 = _) (by decide) rfl (by decide +kernel) ⟨rfl, rfl, Nat.le_of_ble_eq_true rfl, Nat.le_of_ble_eq_true rfl⟩ rfl hl.1 rfl (Nat.le_of_ble_eq_true rfl) ⟨Nat.zero_le _, Nat.zero_le _⟩ d_X10_tried_120) hS (fun x29 v30 H locs hp28 hw hS => ?_)
          obtain ⟨hp28, hE31⟩ := hp28
          obtain ⟨hI32, hK33⟩ := hp28
          have hK34 : Kp (kp_X10_tried_0 od dn wi co wh) v v30 := Kp.tr hK1 hK33 (by have z0 : (0 : Int32).toInt = 0 := rfl; intro a j; unfold kp_X10_tried_0 kp_X10_tryDay_0; omega)
          have hG := bnd2_use hE31 hG
          refine lv_iadd hx hb d_X10_tried_123 ?_
          refine lv_topi (fun x35 ex35 => ?_)
          have hG := bnd_use ex35 hG
          refine lv_istore (lv' := [(6, .int x35), (8, .ref (ad kc27)), (0, .ref (ad 0)), (1, .int od), (2, .int dn), (3, .int wi), (4, .int co), (5, .int wh), (7, .int y7)]) hx hb d_X10_tried_124 hl (by decide) rfl (fun ls hl => ?_)
          obtain ⟨x36, ex36⟩ : ∃ y : Int32, y = y7 + 1 := ⟨_, rfl⟩
          have hG := bnd_use ex36 hG
          refine lv_iinc (v := x36) (lv' := [(7, .int x36), (6, .int x35), (8, .ref (ad kc27)), (0, .ref (ad 0)), (1, .int od), (2, .int dn), (3, .int wi), (4, .int co), (5, .int wh)]) hx hb d_X10_tried_126 hl (k := 8) rfl (by rw [ex36]; rfl) (by decide) rfl (fun ls hl => ?_)
          have r37 : Rg x36 1 30 := rg_add ex36 r23 (⟨by decide, by decide⟩ : Rg 1 1 1) (by decide) (by decide)
          have s38 : x36.toInt = y7.toInt + (1 : Int32).toInt := by rw [ex36]; exact i_add (by obtain ⟨_, _⟩ := r23; obtain ⟨_, _⟩ := (⟨by decide, by decide⟩ : Rg 1 1 1); omega) (by obtain ⟨_, _⟩ := r23; obtain ⟨_, _⟩ := (⟨by decide, by decide⟩ : Rg 1 1 1); omega)
          have s38l : (1 : Int32).toInt = 1 := rfl
          refine lv_goto (tgt := 73) hx hb d_X10_tried_129 (by decide) ?_
          exact ih0 x35 x36 v30 _ _ _ (by have := s38; obtain ⟨_, _⟩ := r37; omega) (rg_w r26 (by decide) (by decide)) r_y2 r_y4 (rg_w r37 (by decide) (by decide)) hI32 hK34 hG hw hS (lv_sub hl [3, 4, 5, 6, 7, 8, 1, 0] rfl)
        · have f39 := i_eq c24
          have r40 : Rg od (-1) (-1) := by obtain ⟨a1, a2⟩ := r_y1; obtain ⟨b1, b2⟩ := (⟨by decide, by decide⟩ : Rg (-1) (-1) (-1)); have f := i_eq c24; exact ⟨by omega, by omega⟩
          have hG := g_pos c24 hG
          refine lv_aload_n hx hb d_X10_tried_84 rfl (lv_at hl 0 rfl) ?_
          refine r_getr (r := 50) X hw FL_X10_52 (rfl : KD 0 = _) rfl d_X10_tried_85 ?_
          refine lv_aload_n hx hb d_X10_tried_88 rfl (lv_at hl 0 rfl) ?_
          refine r_getr (r := 3) X hw FL_X10_19 (rfl : KD 0 = _) rfl d_X10_tried_89 ?_
          refine r_geti X hw FL_X10_191 (rfl : KD 3 = _) rfl d_X10_tried_92 ?_
          refine lv_topi (fun x41 ex41 => ?_)
          have hG := bnd_use ex41 hG
          refine r_cr (r_runV (n := 1) (As := [.int x41]) (rest := []) X hw (ct_X4_ruleOn_50 l D dA ad v1 hI1 x41) gc_X10_194 (rfl : KD 50 = _) (by decide) rfl (by decide +kernel) ⟨rfl, rfl, Nat.le_of_ble_eq_true rfl, Nat.le_of_ble_eq_true rfl⟩ rfl hl.1 rfl (Nat.le_of_ble_eq_true rfl) ⟨Nat.zero_le _, Nat.zero_le _⟩ d_X10_tried_95) hS (fun kc44 v43 H locs hp42 hw hS => ?_)
          obtain ⟨hp42, hE45⟩ := hp42
          obtain ⟨ev43, kc44a, kc44b⟩ := hp42
          rw [ev43] at hw
          have hG := bnd_use hE45 hG
          refine lv_goto (tgt := 110) hx hb d_X10_tried_98 (by decide) ?_
          refine lv_astore (lv' := [(8, .ref (ad kc44)), (0, .ref (ad 0)), (1, .int od), (2, .int dn), (3, .int wi), (4, .int co), (5, .int wh), (6, .int y6), (7, .int y7)]) hx hb d_X10_tried_110 hl (by decide) rfl (fun ls hl => ?_)
          refine lv_iload hx hb d_X10_tried_112 (lv_at hl 7 rfl) ?_
          refine lv_aload_n hx hb d_X10_tried_114 rfl (lv_at hl 1 rfl) ?_
          refine lv_aload hx hb d_X10_tried_115 (lv_at hl 0 rfl) ?_
          refine lv_iload_n hx hb d_X10_tried_117 rfl (lv_at hl 4 rfl) ?_
          refine lv_iload hx hb d_X10_tried_118 (lv_at hl 5 rfl) ?_
          refine r_ci (r_runV (n := 3) (As := [.ref (ad kc44), .int wi, .int co]) (rest := [.int y6]) X hw (ct_X10_tryDay_0 l D dA ad v1 hI1 kc44 wi co (by omega) (by omega) r_y4) gc_X10_254 (rfl : KD 0 = _) (by decide) rfl (by decide +kernel) ⟨rfl, rfl, Nat.le_of_ble_eq_true rfl, Nat.le_of_ble_eq_true rfl⟩ rfl hl.1 rfl (Nat.le_of_ble_eq_true rfl) ⟨Nat.zero_le _, Nat.zero_le _⟩ d_X10_tried_120) hS (fun x47 v48 H locs hp46 hw hS => ?_)
          obtain ⟨hp46, hE49⟩ := hp46
          obtain ⟨hI50, hK51⟩ := hp46
          have hK52 : Kp (kp_X10_tried_0 od dn wi co wh) v v48 := Kp.tr hK1 hK51 (by have z0 : (0 : Int32).toInt = 0 := rfl; intro a j; unfold kp_X10_tried_0 kp_X10_tryDay_0; omega)
          have hG := bnd2_use hE49 hG
          refine lv_iadd hx hb d_X10_tried_123 ?_
          refine lv_topi (fun x53 ex53 => ?_)
          have hG := bnd_use ex53 hG
          refine lv_istore (lv' := [(6, .int x53), (8, .ref (ad kc44)), (0, .ref (ad 0)), (1, .int od), (2, .int dn), (3, .int wi), (4, .int co), (5, .int wh), (7, .int y7)]) hx hb d_X10_tried_124 hl (by decide) rfl (fun ls hl => ?_)
          obtain ⟨x54, ex54⟩ : ∃ y : Int32, y = y7 + 1 := ⟨_, rfl⟩
          have hG := bnd_use ex54 hG
          refine lv_iinc (v := x54) (lv' := [(7, .int x54), (6, .int x53), (8, .ref (ad kc44)), (0, .ref (ad 0)), (1, .int od), (2, .int dn), (3, .int wi), (4, .int co), (5, .int wh)]) hx hb d_X10_tried_126 hl (k := 8) rfl (by rw [ex54]; rfl) (by decide) rfl (fun ls hl => ?_)
          have r55 : Rg x54 1 30 := rg_add ex54 r23 (⟨by decide, by decide⟩ : Rg 1 1 1) (by decide) (by decide)
          have s56 : x54.toInt = y7.toInt + (1 : Int32).toInt := by rw [ex54]; exact i_add (by obtain ⟨_, _⟩ := r23; obtain ⟨_, _⟩ := (⟨by decide, by decide⟩ : Rg 1 1 1); omega) (by obtain ⟨_, _⟩ := r23; obtain ⟨_, _⟩ := (⟨by decide, by decide⟩ : Rg 1 1 1); omega)
          have s56l : (1 : Int32).toInt = 1 := rfl
          refine lv_goto (tgt := 73) hx hb d_X10_tried_129 (by decide) ?_
          exact ih0 x53 x54 v48 _ _ _ (by have := s56; obtain ⟨_, _⟩ := r55; omega) (rg_w r40 (by decide) (by decide)) r_y2 r_y4 (rg_w r55 (by decide) (by decide)) hI50 hK52 hG hw hS (lv_sub hl [3, 4, 5, 6, 7, 8, 1, 0] rfl)
  have ih0 := LL 100000
  have hK0 : Kp (kp_X10_tried_0 od dn wi co wh) v v := Kp.rf _ v
  have hG := eRR
  unfold f_X10_tried_0 at hG
  refine lv_iload_n hx hb d_X10_tried_0 rfl (lv_at hl 2 rfl) ?_
  refine lv_iconst (v := 1) hx hb d_X10_tried_1 (by decide) ?_
  refine lv_bipush (v := 30) hx hb d_X10_tried_2 (by decide) ?_
  refine r_ci (r_runS (n := 3) (As := [.int dn, .int 1, .int 30]) (rest := []) X hw (ct_X10_within l D dA ad v hI dn 1 30) gc_X10_74 (by decide +kernel) ⟨rfl, rfl, Nat.le_of_ble_eq_true rfl, Nat.le_of_ble_eq_true rfl⟩ rfl hl.1 rfl (Nat.le_of_ble_eq_true rfl) ⟨Nat.zero_le _, Nat.zero_le _⟩ d_X10_tried_4) hS (fun x58 v59 H locs hp57 hw hS => ?_)
  obtain ⟨ev59, hp57⟩ := hp57
  rw [ev59] at hw
  rcases hp57 with ⟨rfl, w60a, w60b⟩ | ⟨rfl, w60n⟩
  · skip
    have hG := g_pos ⟨w60a, w60b⟩ hG
    have r61 : Rg dn 1 30 := by obtain ⟨_, _⟩ := (rg_any dn); have : (1 : Int32).toInt = 1 := rfl; have : (30 : Int32).toInt = 30 := rfl; exact ⟨by omega, by omega⟩
    refine lv_if_eq (tgt := 35) hx hb d_X10_tried_7 (by decide) (fun c62 => ?_) (fun c62 => ?_)
    · exact absurd c62 (by decide)
    · refine lv_iload_n hx hb d_X10_tried_10 rfl (lv_at hl 3 rfl) ?_
      refine r_ci (r_runS (n := 1) (As := [.int wi]) (rest := []) X hw (ct_X10_isWind l D dA ad v hI wi) gc_X10_205 (by decide +kernel) ⟨rfl, rfl, Nat.le_of_ble_eq_true rfl, Nat.le_of_ble_eq_true rfl⟩ rfl hl.1 rfl (Nat.le_of_ble_eq_true rfl) ⟨Nat.zero_le _, Nat.zero_le _⟩ d_X10_tried_11) hS (fun x64 v65 H locs hp63 hw hS => ?_)
      obtain ⟨ev65, hp63⟩ := hp63
      rw [ev65] at hw
      rcases hp63 with ⟨rfl, w66a, w66b⟩ | ⟨rfl, w66n⟩
      · skip
        have hG := g_pos ⟨w66a, w66b⟩ hG
        have r67 : Rg wi 0 9 := by obtain ⟨_, _⟩ := (rg_any wi); exact ⟨by omega, by omega⟩
        refine lv_if_eq (tgt := 35) hx hb d_X10_tried_14 (by decide) (fun c68 => ?_) (fun c68 => ?_)
        · exact absurd c68 (by decide)
        · refine lv_iload hx hb d_X10_tried_17 (lv_at hl 4 rfl) ?_
          refine r_ci (r_runS (n := 1) (As := [.int co]) (rest := []) X hw (ct_X10_isCold l D dA ad v hI co) gc_X10_145 (by decide +kernel) ⟨rfl, rfl, Nat.le_of_ble_eq_true rfl, Nat.le_of_ble_eq_true rfl⟩ rfl hl.1 rfl (Nat.le_of_ble_eq_true rfl) ⟨Nat.zero_le _, Nat.zero_le _⟩ d_X10_tried_19) hS (fun x70 v71 H locs hp69 hw hS => ?_)
          obtain ⟨ev71, hp69⟩ := hp69
          rw [ev71] at hw
          rcases hp69 with ⟨rfl, w72a, w72b⟩ | ⟨rfl, w72n⟩
          · skip
            have hG := g_pos ⟨w72a, w72b⟩ hG
            have r73 : Rg co 0 4 := by obtain ⟨_, _⟩ := (rg_any co); exact ⟨by omega, by omega⟩
            refine lv_if_eq (tgt := 35) hx hb d_X10_tried_22 (by decide) (fun c74 => ?_) (fun c74 => ?_)
            · exact absurd c74 (by decide)
            · refine lv_iload hx hb d_X10_tried_25 (lv_at hl 5 rfl) ?_
              refine lv_iconst (v := 0) hx hb d_X10_tried_27 (by decide) ?_
              refine lv_iconst (v := 2) hx hb d_X10_tried_28 (by decide) ?_
              refine r_ci (r_runS (n := 3) (As := [.int wh, .int 0, .int 2]) (rest := []) X hw (ct_X10_within l D dA ad v hI wh 0 2) gc_X10_74 (by decide +kernel) ⟨rfl, rfl, Nat.le_of_ble_eq_true rfl, Nat.le_of_ble_eq_true rfl⟩ rfl hl.1 rfl (Nat.le_of_ble_eq_true rfl) ⟨Nat.zero_le _, Nat.zero_le _⟩ d_X10_tried_29) hS (fun x76 v77 H locs hp75 hw hS => ?_)
              obtain ⟨ev77, hp75⟩ := hp75
              rw [ev77] at hw
              rcases hp75 with ⟨rfl, w78a, w78b⟩ | ⟨rfl, w78n⟩
              · skip
                have hG := g_pos ⟨w78a, w78b⟩ hG
                have r79 : Rg wh 0 2 := by obtain ⟨_, _⟩ := (rg_any wh); have : (0 : Int32).toInt = 0 := rfl; have : (2 : Int32).toInt = 2 := rfl; exact ⟨by omega, by omega⟩
                refine lv_if_ne (tgt := 38) hx hb d_X10_tried_32 (by decide) (fun c80 => ?_) (fun c80 => ?_)
                · refine lv_iload_n hx hb d_X10_tried_38 rfl (lv_at hl 1 rfl) ?_
                  refine lv_iconst (v := -1) hx hb d_X10_tried_39 (by decide) ?_
                  refine lv_icmp_eq (tgt := 56) hx hb d_X10_tried_40 (by decide) (fun c81 => ?_) (fun c81 => ?_)
                  · have f82 := i_eq c81
                    have r83 : Rg od (-1) (-1) := by obtain ⟨a1, a2⟩ := (rg_any od); obtain ⟨b1, b2⟩ := (⟨by decide, by decide⟩ : Rg (-1) (-1) (-1)); have f := i_eq c81; exact ⟨by omega, by omega⟩
                    have hG := g_pos c81 hG
                    refine lv_aload_n hx hb d_X10_tried_56 rfl (lv_at hl 0 rfl) ?_
                    refine r_getr (r := 3) X hw FL_X10_19 (rfl : KD 0 = _) rfl d_X10_tried_57 ?_
                    refine lv_aload_n hx hb d_X10_tried_60 rfl (lv_at hl 0 rfl) ?_
                    refine r_getr (r := 1) X hw FL_X10_10 (rfl : KD 0 = _) rfl d_X10_tried_61 ?_
                    refine r_cv (r_runV (n := 1) (As := [.ref (ad 1)]) (rest := []) X hw (ct_X6_copy_3_1 l D dA ad v hI) gc_X10_214 (rfl : KD 3 = _) (by decide) rfl (by decide +kernel) ⟨rfl, rfl, Nat.le_of_ble_eq_true rfl, Nat.le_of_ble_eq_true rfl⟩ rfl hl.1 rfl (Nat.le_of_ble_eq_true rfl) ⟨Nat.zero_le _, Nat.zero_le _⟩ d_X10_tried_64) hS (fun v85 H locs hp84 hw hS => ?_)
                    obtain ⟨hp84, hE86⟩ := hp84
                    obtain ⟨hI87, hK88⟩ := hp84
                    have hK89 : Kp (kp_X10_tried_0 od dn wi co wh) v v85 := Kp.tr hK0 hK88 (by have z0 : (0 : Int32).toInt = 0 := rfl; intro a j; unfold kp_X10_tried_0 kp_X6_copy_3_1; omega)
                    have hG := bnd_use hE86 hG
                    refine lv_iconst (v := 0) hx hb d_X10_tried_67 (by decide) ?_
                    refine lv_istore (lv' := [(6, .int 0), (0, .ref (ad 0)), (1, .int od), (2, .int dn), (3, .int wi), (4, .int co), (5, .int wh)]) hx hb d_X10_tried_68 hl (by decide) rfl (fun ls hl => ?_)
                    refine lv_iconst (v := 0) hx hb d_X10_tried_70 (by decide) ?_
                    refine lv_istore (lv' := [(7, .int 0), (6, .int 0), (0, .ref (ad 0)), (1, .int od), (2, .int dn), (3, .int wi), (4, .int co), (5, .int wh)]) hx hb d_X10_tried_71 hl (by decide) rfl (fun ls hl => ?_)
                    exact ih0 0 0 v85 _ _ _ (by obtain ⟨_, _⟩ := (⟨by decide, by decide⟩ : Rg 0 0 0); obtain ⟨_, _⟩ := (⟨by decide, by decide⟩ : Rg 0 0 0); omega) (rg_w r83 (by decide) (by decide)) r61 r73 (rg_w (⟨by decide, by decide⟩ : Rg 0 0 0) (by decide) (by decide)) hI87 hK89 hG hw hS (lv_sub hl [2, 3, 4, 5, 6, 7, 1, 0] rfl)
                  · have f90 := i_ne c81
                    have hG := g_neg c81 hG
                    refine lv_aload_n hx hb d_X10_tried_43 rfl (lv_at hl 0 rfl) ?_
                    refine r_getr (r := 50) X hw FL_X10_52 (rfl : KD 0 = _) rfl d_X10_tried_44 ?_
                    refine lv_iload_n hx hb d_X10_tried_47 rfl (lv_at hl 1 rfl) ?_
                    refine r_ci (r_runV (n := 1) (As := [.int od]) (rest := []) X hw (ct_X4_has_50 l D dA ad v hI od) gc_X10_185 (rfl : KD 50 = _) (by decide) rfl (by decide +kernel) ⟨rfl, rfl, Nat.le_of_ble_eq_true rfl, Nat.le_of_ble_eq_true rfl⟩ rfl hl.1 rfl (Nat.le_of_ble_eq_true rfl) ⟨Nat.zero_le _, Nat.zero_le _⟩ d_X10_tried_48) hS (fun x92 v93 H locs hp91 hw hS => ?_)
                    obtain ⟨ev93, hp91⟩ := hp91
                    rw [ev93] at hw
                    rcases hp91 with ⟨rfl, w94a, w94b⟩ | ⟨rfl, w94n⟩
                    · skip
                      have hG := g_pos ⟨w94a, w94b⟩ hG
                      have r95 : Rg od 0 7 := by have q := hI 50 2 0 8 rfl; obtain ⟨_, _⟩ := q; obtain ⟨_, _⟩ := (rg_any od); exact ⟨by omega, by omega⟩
                      refine lv_if_ne (tgt := 56) hx hb d_X10_tried_51 (by decide) (fun c96 => ?_) (fun c96 => ?_)
                      · refine lv_aload_n hx hb d_X10_tried_56 rfl (lv_at hl 0 rfl) ?_
                        refine r_getr (r := 3) X hw FL_X10_19 (rfl : KD 0 = _) rfl d_X10_tried_57 ?_
                        refine lv_aload_n hx hb d_X10_tried_60 rfl (lv_at hl 0 rfl) ?_
                        refine r_getr (r := 1) X hw FL_X10_10 (rfl : KD 0 = _) rfl d_X10_tried_61 ?_
                        refine r_cv (r_runV (n := 1) (As := [.ref (ad 1)]) (rest := []) X hw (ct_X6_copy_3_1 l D dA ad v hI) gc_X10_214 (rfl : KD 3 = _) (by decide) rfl (by decide +kernel) ⟨rfl, rfl, Nat.le_of_ble_eq_true rfl, Nat.le_of_ble_eq_true rfl⟩ rfl hl.1 rfl (Nat.le_of_ble_eq_true rfl) ⟨Nat.zero_le _, Nat.zero_le _⟩ d_X10_tried_64) hS (fun v98 H locs hp97 hw hS => ?_)
                        obtain ⟨hp97, hE99⟩ := hp97
                        obtain ⟨hI100, hK101⟩ := hp97
                        have hK102 : Kp (kp_X10_tried_0 od dn wi co wh) v v98 := Kp.tr hK0 hK101 (by have z0 : (0 : Int32).toInt = 0 := rfl; intro a j; unfold kp_X10_tried_0 kp_X6_copy_3_1; omega)
                        have hG := bnd_use hE99 hG
                        refine lv_iconst (v := 0) hx hb d_X10_tried_67 (by decide) ?_
                        refine lv_istore (lv' := [(6, .int 0), (0, .ref (ad 0)), (1, .int od), (2, .int dn), (3, .int wi), (4, .int co), (5, .int wh)]) hx hb d_X10_tried_68 hl (by decide) rfl (fun ls hl => ?_)
                        refine lv_iconst (v := 0) hx hb d_X10_tried_70 (by decide) ?_
                        refine lv_istore (lv' := [(7, .int 0), (6, .int 0), (0, .ref (ad 0)), (1, .int od), (2, .int dn), (3, .int wi), (4, .int co), (5, .int wh)]) hx hb d_X10_tried_71 hl (by decide) rfl (fun ls hl => ?_)
                        exact ih0 0 0 v98 _ _ _ (by obtain ⟨_, _⟩ := (⟨by decide, by decide⟩ : Rg 0 0 0); obtain ⟨_, _⟩ := (⟨by decide, by decide⟩ : Rg 0 0 0); omega) (rg_w r95 (by decide) (by decide)) r61 r73 (rg_w (⟨by decide, by decide⟩ : Rg 0 0 0) (by decide) (by decide)) hI100 hK102 hG hw hS (lv_sub hl [2, 3, 4, 5, 6, 7, 1, 0] rfl)
                      · exact absurd c96 (by decide)
                    · skip
                      have hG := g_neg w94n hG
                      refine lv_if_ne (tgt := 56) hx hb d_X10_tried_51 (by decide) (fun c103 => ?_) (fun c103 => ?_)
                      · exact absurd c103 (by decide)
                      · refine lv_iconst (v := -1) hx hb d_X10_tried_54 (by decide) ?_
                        exact r_iret X hr hlocks hw hS ⟨⟨hI, hK0⟩, hG.trans eRR.symm⟩ d_X10_tried_55
                · exact absurd c80 (by decide)
              · skip
                have hG := g_neg w78n hG
                refine lv_if_ne (tgt := 38) hx hb d_X10_tried_32 (by decide) (fun c104 => ?_) (fun c104 => ?_)
                · exact absurd c104 (by decide)
                · refine lv_bipush (v := -2) hx hb d_X10_tried_35 (by decide) ?_
                  exact r_iret X hr hlocks hw hS ⟨⟨hI, hK0⟩, hG.trans eRR.symm⟩ d_X10_tried_37
          · skip
            have hG := g_neg w72n hG
            refine lv_if_eq (tgt := 35) hx hb d_X10_tried_22 (by decide) (fun c105 => ?_) (fun c105 => ?_)
            · refine lv_bipush (v := -2) hx hb d_X10_tried_35 (by decide) ?_
              exact r_iret X hr hlocks hw hS ⟨⟨hI, hK0⟩, hG.trans eRR.symm⟩ d_X10_tried_37
            · exact absurd c105 (by decide)
      · skip
        have hG := g_neg w66n hG
        refine lv_if_eq (tgt := 35) hx hb d_X10_tried_14 (by decide) (fun c106 => ?_) (fun c106 => ?_)
        · refine lv_bipush (v := -2) hx hb d_X10_tried_35 (by decide) ?_
          exact r_iret X hr hlocks hw hS ⟨⟨hI, hK0⟩, hG.trans eRR.symm⟩ d_X10_tried_37
        · exact absurd c106 (by decide)
  · skip
    have hG := g_neg w60n hG
    refine lv_if_eq (tgt := 35) hx hb d_X10_tried_7 (by decide) (fun c107 => ?_) (fun c107 => ?_)
    · refine lv_bipush (v := -2) hx hb d_X10_tried_35 (by decide) ?_
      exact r_iret X hr hlocks hw hS ⟨⟨hI, hK0⟩, hG.trans eRR.symm⟩ d_X10_tried_37
    · exact absurd c107 (by decide)
theorem d_X10_count_0 : decode c_X10_count 0 = .ok (.iload_n 1, 1) := by decide +kernel
theorem d_X10_count_1 : decode c_X10_count 1 = .ok (.tableswitch 111 0 7 #[47, 55, 63, 71, 79, 87, 95, 103], 47) := by decide +kernel
theorem d_X10_count_48 : decode c_X10_count 48 = .ok (.aload_n 0, 1) := by decide +kernel
theorem d_X10_count_49 : decode c_X10_count 49 = .ok (.getfield 10, 3) := by decide +kernel
theorem d_X10_count_52 : decode c_X10_count 52 = .ok (.getfield 82, 3) := by decide +kernel
theorem d_X10_count_55 : decode c_X10_count 55 = .ok (.ireturn, 1) := by decide +kernel
theorem d_X10_count_56 : decode c_X10_count 56 = .ok (.aload_n 0, 1) := by decide +kernel
theorem d_X10_count_57 : decode c_X10_count 57 = .ok (.getfield 10, 3) := by decide +kernel
theorem d_X10_count_60 : decode c_X10_count 60 = .ok (.getfield 127, 3) := by decide +kernel
theorem d_X10_count_63 : decode c_X10_count 63 = .ok (.ireturn, 1) := by decide +kernel
theorem d_X10_count_64 : decode c_X10_count 64 = .ok (.aload_n 0, 1) := by decide +kernel
theorem d_X10_count_65 : decode c_X10_count 65 = .ok (.getfield 52, 3) := by decide +kernel
theorem d_X10_count_68 : decode c_X10_count 68 = .ok (.getfield 168, 3) := by decide +kernel
theorem d_X10_count_71 : decode c_X10_count 71 = .ok (.ireturn, 1) := by decide +kernel
theorem d_X10_count_72 : decode c_X10_count 72 = .ok (.aload_n 0, 1) := by decide +kernel
theorem d_X10_count_73 : decode c_X10_count 73 = .ok (.getfield 10, 3) := by decide +kernel
theorem d_X10_count_76 : decode c_X10_count 76 = .ok (.getfield 191, 3) := by decide +kernel
theorem d_X10_count_79 : decode c_X10_count 79 = .ok (.ireturn, 1) := by decide +kernel
theorem d_X10_count_80 : decode c_X10_count 80 = .ok (.aload_n 0, 1) := by decide +kernel
theorem d_X10_count_81 : decode c_X10_count 81 = .ok (.getfield 10, 3) := by decide +kernel
theorem d_X10_count_84 : decode c_X10_count 84 = .ok (.getfield 242, 3) := by decide +kernel
theorem d_X10_count_87 : decode c_X10_count 87 = .ok (.ireturn, 1) := by decide +kernel
theorem d_X10_count_88 : decode c_X10_count 88 = .ok (.aload_n 0, 1) := by decide +kernel
theorem d_X10_count_89 : decode c_X10_count 89 = .ok (.getfield 35, 3) := by decide +kernel
theorem d_X10_count_92 : decode c_X10_count 92 = .ok (.getfield 261, 3) := by decide +kernel
theorem d_X10_count_95 : decode c_X10_count 95 = .ok (.ireturn, 1) := by decide +kernel
theorem d_X10_count_96 : decode c_X10_count 96 = .ok (.aload_n 0, 1) := by decide +kernel
theorem d_X10_count_97 : decode c_X10_count 97 = .ok (.getfield 10, 3) := by decide +kernel
theorem d_X10_count_100 : decode c_X10_count 100 = .ok (.invokevirtual 262, 3) := by decide +kernel
theorem d_X10_count_103 : decode c_X10_count 103 = .ok (.ireturn, 1) := by decide +kernel
theorem d_X10_count_104 : decode c_X10_count 104 = .ok (.aload_n 0, 1) := by decide +kernel
theorem d_X10_count_105 : decode c_X10_count 105 = .ok (.getfield 59, 3) := by decide +kernel
theorem d_X10_count_108 : decode c_X10_count 108 = .ok (.getfield 161, 3) := by decide +kernel
theorem d_X10_count_111 : decode c_X10_count 111 = .ok (.ireturn, 1) := by decide +kernel
theorem d_X10_count_112 : decode c_X10_count 112 = .ok (.iconst (-1), 1) := by decide +kernel
theorem d_X10_count_113 : decode c_X10_count 113 = .ok (.ireturn, 1) := by decide +kernel
def f_X10_count_0 (v : tV) (wh : Int32) : Int32 := (if wh.toInt < 0 ∨ 7 < wh.toInt then (-1 : Int32) else (if wh.toInt = 0 then bnd (v 1 3) fun x2 => x2 else (if wh.toInt = 1 then bnd (v 1 4) fun x5 => x5 else (if wh.toInt = 2 then bnd (v 50 2) fun x8 => x8 else (if wh.toInt = 3 then bnd (v 1 5) fun x11 => x11 else (if wh.toInt = 4 then bnd (v 1 6) fun x12 => x12 else (if wh.toInt = 5 then bnd (v 30 4) fun x13 => x13 else (if wh.toInt = 6 then bnd (f_X6_duesOfAll_1 v ) fun x17 => x17 else bnd (v 55 1) fun x20 => x20))))))))
set_option maxHeartbeats 4000000 in
set_option maxRecDepth 100000 in
theorem ct_X10_count_0 (l : Launch) (D : va_G) (dA : Nat → ClassId) (ad : Nat → Nat) (v : tV) (hI : Inv v) (wh : Int32) : Met l m_X10_count [.code m_X10_count c_X10_count 2 (some .int)] ({ frames := 2, cells := 0, slots := 0, locals := 62 } : Room) (tP D dA ad v [.ref (ad 0), .int wh]) (tQi D dA ad (fun r v' => (v' = v) ∧ r = f_X10_count_0 v wh)) 0 0 (tA ad) := by
  refine tMet (by decide) (Nat.le_of_ble_eq_true rfl) ?_
  intro p e s m below meth c ls X hr hlocks hw hl
  have X : CX p s m ([.ref (ad 0), .int wh] : List Value).toArray c c_X10_count N_X10 2 D dA := X
  have hx := X.1
  have hb := X.2.1
  have hS : va_S (tA ad) s.heap s.heap [] := va_S.rf
  have hl : lv_has ls 2 [(0, .ref (ad 0)), (1, .int wh)] := hl
  obtain ⟨RR, eRR⟩ : ∃ z, f_X10_count_0 v wh = z := ⟨_, rfl⟩
  have hG := eRR
  unfold f_X10_count_0 at hG
  refine lv_iload_n hx hb d_X10_count_0 rfl (lv_at hl 1 rfl) ?_
  by_cases c1 : wh.toInt < 0 ∨ 7 < wh.toInt
  · refine lv_tableOut (tgt := 112) hx hb d_X10_count_1 c1 (by decide) ?_
    have hG := g_pos c1 hG
    refine lv_iconst (v := -1) hx hb d_X10_count_112 (by decide) ?_
    exact r_iret X hr hlocks hw hS ⟨rfl, hG.trans eRR.symm⟩ d_X10_count_113
  · have c1b : wh.toInt = 0 ∨ wh.toInt = 1 ∨ wh.toInt = 2 ∨ wh.toInt = 3 ∨ wh.toInt = 4 ∨ wh.toInt = 5 ∨ wh.toInt = 6 ∨ wh.toInt = 7 := by omega
    have hG := g_neg c1 hG
    rcases c1b with c1e | c1e | c1e | c1e | c1e | c1e | c1e | c1e
    · refine lv_tableIn (off := 47) (tgt := 48) hx hb d_X10_count_1 (by omega) (by omega) (by rw [c1e]; rfl) (by decide) ?_
      have hG := g_pos c1e hG
      refine lv_aload_n hx hb d_X10_count_48 rfl (lv_at hl 0 rfl) ?_
      refine r_getr (r := 1) X hw FL_X10_10 (rfl : KD 0 = _) rfl d_X10_count_49 ?_
      refine r_geti X hw FL_X10_82 (rfl : KD 1 = _) rfl d_X10_count_52 ?_
      refine lv_topi (fun x2 ex2 => ?_)
      have hG := bnd_use ex2 hG
      have r3 : Rg x2 0 20 := by rw [ex2]; exact hI _ _ _ _ rfl
      have hm4 : v 1 3 = x2 := ex2.symm
      exact r_iret X hr hlocks hw hS ⟨rfl, hG.trans eRR.symm⟩ d_X10_count_55
    · refine lv_tableIn (off := 55) (tgt := 56) hx hb d_X10_count_1 (by omega) (by omega) (by rw [c1e]; rfl) (by decide) ?_
      have hG := g_neg (by omega) hG
      have hG := g_pos c1e hG
      refine lv_aload_n hx hb d_X10_count_56 rfl (lv_at hl 0 rfl) ?_
      refine r_getr (r := 1) X hw FL_X10_10 (rfl : KD 0 = _) rfl d_X10_count_57 ?_
      refine r_geti X hw FL_X10_127 (rfl : KD 1 = _) rfl d_X10_count_60 ?_
      refine lv_topi (fun x5 ex5 => ?_)
      have hG := bnd_use ex5 hG
      have r6 : Rg x5 0 10 := by rw [ex5]; exact hI _ _ _ _ rfl
      have hm7 : v 1 4 = x5 := ex5.symm
      exact r_iret X hr hlocks hw hS ⟨rfl, hG.trans eRR.symm⟩ d_X10_count_63
    · refine lv_tableIn (off := 63) (tgt := 64) hx hb d_X10_count_1 (by omega) (by omega) (by rw [c1e]; rfl) (by decide) ?_
      have hG := g_neg (by omega) hG
      have hG := g_neg (by omega) hG
      have hG := g_pos c1e hG
      refine lv_aload_n hx hb d_X10_count_64 rfl (lv_at hl 0 rfl) ?_
      refine r_getr (r := 50) X hw FL_X10_52 (rfl : KD 0 = _) rfl d_X10_count_65 ?_
      refine r_geti X hw FL_X10_168 (rfl : KD 50 = _) rfl d_X10_count_68 ?_
      refine lv_topi (fun x8 ex8 => ?_)
      have hG := bnd_use ex8 hG
      have r9 : Rg x8 0 8 := by rw [ex8]; exact hI _ _ _ _ rfl
      have hm10 : v 50 2 = x8 := ex8.symm
      exact r_iret X hr hlocks hw hS ⟨rfl, hG.trans eRR.symm⟩ d_X10_count_71
    · refine lv_tableIn (off := 71) (tgt := 72) hx hb d_X10_count_1 (by omega) (by omega) (by rw [c1e]; rfl) (by decide) ?_
      have hG := g_neg (by omega) hG
      have hG := g_neg (by omega) hG
      have hG := g_neg (by omega) hG
      have hG := g_pos c1e hG
      refine lv_aload_n hx hb d_X10_count_72 rfl (lv_at hl 0 rfl) ?_
      refine r_getr (r := 1) X hw FL_X10_10 (rfl : KD 0 = _) rfl d_X10_count_73 ?_
      refine r_geti X hw FL_X10_191 (rfl : KD 1 = _) rfl d_X10_count_76 ?_
      refine lv_topi (fun x11 ex11 => ?_)
      have hG := bnd_use ex11 hG
      exact r_iret X hr hlocks hw hS ⟨rfl, hG.trans eRR.symm⟩ d_X10_count_79
    · refine lv_tableIn (off := 79) (tgt := 80) hx hb d_X10_count_1 (by omega) (by omega) (by rw [c1e]; rfl) (by decide) ?_
      have hG := g_neg (by omega) hG
      have hG := g_neg (by omega) hG
      have hG := g_neg (by omega) hG
      have hG := g_neg (by omega) hG
      have hG := g_pos c1e hG
      refine lv_aload_n hx hb d_X10_count_80 rfl (lv_at hl 0 rfl) ?_
      refine r_getr (r := 1) X hw FL_X10_10 (rfl : KD 0 = _) rfl d_X10_count_81 ?_
      refine r_geti X hw FL_X10_242 (rfl : KD 1 = _) rfl d_X10_count_84 ?_
      refine lv_topi (fun x12 ex12 => ?_)
      have hG := bnd_use ex12 hG
      exact r_iret X hr hlocks hw hS ⟨rfl, hG.trans eRR.symm⟩ d_X10_count_87
    · refine lv_tableIn (off := 87) (tgt := 88) hx hb d_X10_count_1 (by omega) (by omega) (by rw [c1e]; rfl) (by decide) ?_
      have hG := g_neg (by omega) hG
      have hG := g_neg (by omega) hG
      have hG := g_neg (by omega) hG
      have hG := g_neg (by omega) hG
      have hG := g_neg (by omega) hG
      have hG := g_pos c1e hG
      refine lv_aload_n hx hb d_X10_count_88 rfl (lv_at hl 0 rfl) ?_
      refine r_getr (r := 30) X hw FL_X10_35 (rfl : KD 0 = _) rfl d_X10_count_89 ?_
      refine r_geti X hw FL_X10_261 (rfl : KD 30 = _) rfl d_X10_count_92 ?_
      refine lv_topi (fun x13 ex13 => ?_)
      have hG := bnd_use ex13 hG
      have r14 : Rg x13 0 30 := by rw [ex13]; exact hI _ _ _ _ rfl
      have hm15 : v 30 4 = x13 := ex13.symm
      exact r_iret X hr hlocks hw hS ⟨rfl, hG.trans eRR.symm⟩ d_X10_count_95
    · refine lv_tableIn (off := 95) (tgt := 96) hx hb d_X10_count_1 (by omega) (by omega) (by rw [c1e]; rfl) (by decide) ?_
      have hG := g_neg (by omega) hG
      have hG := g_neg (by omega) hG
      have hG := g_neg (by omega) hG
      have hG := g_neg (by omega) hG
      have hG := g_neg (by omega) hG
      have hG := g_neg (by omega) hG
      have hG := g_pos c1e hG
      refine lv_aload_n hx hb d_X10_count_96 rfl (lv_at hl 0 rfl) ?_
      refine r_getr (r := 1) X hw FL_X10_10 (rfl : KD 0 = _) rfl d_X10_count_97 ?_
      refine r_ci (r_runV (n := 0) (As := []) (rest := []) X hw (ct_X6_duesOfAll_1 l D dA ad v hI) gc_X10_262 (rfl : KD 1 = _) (by decide) rfl (by decide +kernel) ⟨rfl, rfl, Nat.le_of_ble_eq_true rfl, Nat.le_of_ble_eq_true rfl⟩ rfl hl.1 rfl (Nat.le_of_ble_eq_true rfl) ⟨Nat.zero_le _, Nat.zero_le _⟩ d_X10_count_100) hS (fun x17 v18 H locs hp16 hw hS => ?_)
      obtain ⟨hp16, hE19⟩ := hp16
      rw [hp16] at hw
      have hG := bnd_use hE19 hG
      exact r_iret X hr hlocks hw hS ⟨rfl, hG.trans eRR.symm⟩ d_X10_count_103
    · refine lv_tableIn (off := 103) (tgt := 104) hx hb d_X10_count_1 (by omega) (by omega) (by rw [c1e]; rfl) (by decide) ?_
      have hG := g_neg (by omega) hG
      have hG := g_neg (by omega) hG
      have hG := g_neg (by omega) hG
      have hG := g_neg (by omega) hG
      have hG := g_neg (by omega) hG
      have hG := g_neg (by omega) hG
      have hG := g_neg (by omega) hG
      refine lv_aload_n hx hb d_X10_count_104 rfl (lv_at hl 0 rfl) ?_
      refine r_getr (r := 55) X hw FL_X10_59 (rfl : KD 0 = _) rfl d_X10_count_105 ?_
      refine r_geti X hw FL_X10_161 (rfl : KD 55 = _) rfl d_X10_count_108 ?_
      refine lv_topi (fun x20 ex20 => ?_)
      have hG := bnd_use ex20 hG
      have r21 : Rg x20 0 120 := by rw [ex20]; exact hI _ _ _ _ rfl
      have hm22 : v 55 1 = x20 := ex20.symm
      exact r_iret X hr hlocks hw hS ⟨rfl, hG.trans eRR.symm⟩ d_X10_count_111
theorem d_X10_factor_0 : decode c_X10_factor 0 = .ok (.iload_n 1, 1) := by decide +kernel
theorem d_X10_factor_1 : decode c_X10_factor 1 = .ok (.iconst 0, 1) := by decide +kernel
theorem d_X10_factor_2 : decode c_X10_factor 2 = .ok (.iconst 5, 1) := by decide +kernel
theorem d_X10_factor_3 : decode c_X10_factor 3 = .ok (.invokestatic 74, 3) := by decide +kernel
theorem d_X10_factor_6 : decode c_X10_factor 6 = .ok (.ifCond .eq 14, 3) := by decide +kernel
theorem d_X10_factor_9 : decode c_X10_factor 9 = .ok (.aload_n 0, 1) := by decide +kernel
theorem d_X10_factor_10 : decode c_X10_factor 10 = .ok (.getfield 10, 3) := by decide +kernel
theorem d_X10_factor_13 : decode c_X10_factor 13 = .ok (.iload_n 1, 1) := by decide +kernel
theorem d_X10_factor_14 : decode c_X10_factor 14 = .ok (.invokevirtual 265, 3) := by decide +kernel
theorem d_X10_factor_17 : decode c_X10_factor 17 = .ok (.goto 4, 3) := by decide +kernel
theorem d_X10_factor_20 : decode c_X10_factor 20 = .ok (.iconst (-1), 1) := by decide +kernel
theorem d_X10_factor_21 : decode c_X10_factor 21 = .ok (.ireturn, 1) := by decide +kernel
def f_X10_factor_0 (v : tV) (fi : Int32) : Int32 := (if (0 : Int32).toInt ≤ fi.toInt ∧ fi.toInt ≤ (5 : Int32).toInt then bnd (f_X6_takenFor_1 v fi) fun x8 => x8 else (-1 : Int32))
set_option maxHeartbeats 4000000 in
set_option maxRecDepth 100000 in
theorem ct_X10_factor_0 (l : Launch) (D : va_G) (dA : Nat → ClassId) (ad : Nat → Nat) (v : tV) (hI : Inv v) (fi : Int32) : Met l m_X10_factor [.code m_X10_factor c_X10_factor 2 (some .int)] ({ frames := 2, cells := 0, slots := 0, locals := 63 } : Room) (tP D dA ad v [.ref (ad 0), .int fi]) (tQi D dA ad (fun r v' => (v' = v) ∧ r = f_X10_factor_0 v fi)) 0 0 (tA ad) := by
  refine tMet (by decide) (Nat.le_of_ble_eq_true rfl) ?_
  intro p e s m below meth c ls X hr hlocks hw hl
  have X : CX p s m ([.ref (ad 0), .int fi] : List Value).toArray c c_X10_factor N_X10 2 D dA := X
  have hx := X.1
  have hb := X.2.1
  have hS : va_S (tA ad) s.heap s.heap [] := va_S.rf
  have hl : lv_has ls 2 [(0, .ref (ad 0)), (1, .int fi)] := hl
  obtain ⟨RR, eRR⟩ : ∃ z, f_X10_factor_0 v fi = z := ⟨_, rfl⟩
  have hG := eRR
  unfold f_X10_factor_0 at hG
  refine lv_iload_n hx hb d_X10_factor_0 rfl (lv_at hl 1 rfl) ?_
  refine lv_iconst (v := 0) hx hb d_X10_factor_1 (by decide) ?_
  refine lv_iconst (v := 5) hx hb d_X10_factor_2 (by decide) ?_
  refine r_ci (r_runS (n := 3) (As := [.int fi, .int 0, .int 5]) (rest := []) X hw (ct_X10_within l D dA ad v hI fi 0 5) gc_X10_74 (by decide +kernel) ⟨rfl, rfl, Nat.le_of_ble_eq_true rfl, Nat.le_of_ble_eq_true rfl⟩ rfl hl.1 rfl (Nat.le_of_ble_eq_true rfl) ⟨Nat.zero_le _, Nat.zero_le _⟩ d_X10_factor_3) hS (fun x2 v3 H locs hp1 hw hS => ?_)
  obtain ⟨ev3, hp1⟩ := hp1
  rw [ev3] at hw
  rcases hp1 with ⟨rfl, w4a, w4b⟩ | ⟨rfl, w4n⟩
  · skip
    have hG := g_pos ⟨w4a, w4b⟩ hG
    have r5 : Rg fi 0 5 := by obtain ⟨_, _⟩ := (rg_any fi); have : (0 : Int32).toInt = 0 := rfl; have : (5 : Int32).toInt = 5 := rfl; exact ⟨by omega, by omega⟩
    refine lv_if_eq (tgt := 20) hx hb d_X10_factor_6 (by decide) (fun c6 => ?_) (fun c6 => ?_)
    · exact absurd c6 (by decide)
    · refine lv_aload_n hx hb d_X10_factor_9 rfl (lv_at hl 0 rfl) ?_
      refine r_getr (r := 1) X hw FL_X10_10 (rfl : KD 0 = _) rfl d_X10_factor_10 ?_
      refine lv_iload_n hx hb d_X10_factor_13 rfl (lv_at hl 1 rfl) ?_
      refine r_ci (r_runV (n := 1) (As := [.int fi]) (rest := []) X hw (ct_X6_takenFor_1 l D dA ad v hI fi) gc_X10_265 (rfl : KD 1 = _) (by decide) rfl (by decide +kernel) ⟨rfl, rfl, Nat.le_of_ble_eq_true rfl, Nat.le_of_ble_eq_true rfl⟩ rfl hl.1 rfl (Nat.le_of_ble_eq_true rfl) ⟨Nat.zero_le _, Nat.zero_le _⟩ d_X10_factor_14) hS (fun x8 v9 H locs hp7 hw hS => ?_)
      obtain ⟨hp7, hE10⟩ := hp7
      rw [hp7] at hw
      have hG := bnd_use hE10 hG
      refine lv_goto (tgt := 21) hx hb d_X10_factor_17 (by decide) ?_
      exact r_iret X hr hlocks hw hS ⟨rfl, hG.trans eRR.symm⟩ d_X10_factor_21
  · skip
    have hG := g_neg w4n hG
    refine lv_if_eq (tgt := 20) hx hb d_X10_factor_6 (by decide) (fun c11 => ?_) (fun c11 => ?_)
    · refine lv_iconst (v := -1) hx hb d_X10_factor_20 (by decide) ?_
      exact r_iret X hr hlocks hw hS ⟨rfl, hG.trans eRR.symm⟩ d_X10_factor_21
    · exact absurd c11 (by decide)
