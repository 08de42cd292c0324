set_option maxHeartbeats 8000000 in
set_option maxRecDepth 100000 in
theorem ci_desk (l : Launch) (D : va_G) (dA : Nat → ClassId) (sz : Nat) (u : tU) (hu : ∀ j, j < 13 → u 0 j = defaultValue (y_X10 j)) : Met l m_X10_init [.code m_X10_init c_X10_init 1 none] ({ frames := 5, cells := 197, slots := 1839, locals := 200 } : Room) (cP D dA sz 1 u [.ref (AD sz 0)]) (cQ D dA sz 198 (fun u' => (∀ a, a ≠ 0 → ordN a < 1 → u' a = u a) ∧ FN sz 0 198 u')) 197 1839 (CA sz) := by
  refine cMet (by decide) (Nat.le_of_ble_eq_true rfl) rfl ?_
  intro p e s m below meth c ls X hr hlocks hmn hw hz hO hl
  have X : CX p s m ([.ref (AD sz 0)] : List Value).toArray c c_X10_init N_X10 1 D dA := X
  have hx := X.1
  have hb := X.2.1
  have hS : va_S (CA sz) s.heap s.heap [] := va_S.rf
  have hl : lv_has ls 1 [(0, .ref (AD sz 0))] := hl
  have o0 : ordN 0 = 0 := rfl
  refine lv_aload_n hx hb d_X10_init_0 rfl (lv_at hl 0 rfl) ?_
  refine c_oi X hl.1 ol_X10 (Nat.le_of_ble_eq_true rfl) (Nat.le_of_ble_eq_true rfl) (Nat.le_of_ble_eq_true rfl) d_X10_init_1 ?_
  have hF0 : FN sz 1 1 u := fun a kn _ h1 h2 => by omega
  have ok0 : ordN 1 = 1 := rfl
  refine lv_aload_n hx hb d_X10_init_4 rfl (lv_at hl 0 rfl) ?_
  refine cw_new (k := 1) (n := 1) X hw hz hS (ci := 6) (N := 7) rfl (by decide) uw_X6 y_X6 ty_X6 kl_X10_7 in_X6 ii_X6 (rfl : KD 1 = _) rfl (Nat.le_of_ble_eq_true rfl) (Nat.le_of_ble_eq_true rfl) d_X10_init_5 (fun H hw hz hS => ?_)
  refine lv_dup hx hb d_X10_init_8 rfl ?_
  refine c_cv (c_runI (n := 2) (k := 1) (rest := [.ref (AD sz 1), .ref (AD sz 0)]) X hw hz hO (ci_river_0 l D dA sz _ (fun j _ => by rw [t_row_s])) gi_X10_9 rfl (by decide +kernel) ⟨rfl, rfl, Nat.le_of_ble_eq_true rfl, Nat.le_of_ble_eq_true rfl⟩ hl.1 rfl (Nat.le_of_ble_eq_true rfl) ⟨Nat.le_of_ble_eq_true rfl, Nat.le_of_ble_eq_true rfl⟩ d_X10_init_9) hS (fun b0 H locs hp hw hz hS => ?_)
  obtain ⟨hp1, hp2⟩ := hp
  have hr0 : ∀ a, ordN a < 1 → b0 a = u a := fun a ha => by
    have hne : a ≠ 1 := by intro z; rw [z] at ha; omega
    rw [hp1 a hne (by omega), t_row_o hne]
  have hp3 : FN sz 1 47 b0 := hp2
  have hG0 : FN sz 1 47 b0 := (hF0.keep (fun x _ h2 => hr0 x h2)).app hp3
  refine cw_putF (n := 47) X hmn hw hz hS FQ_X10_10 (rfl : KD 0 = _) (by omega) ⟨rfl, rfl⟩ d_X10_init_12 (fun H locs hw hz hS => ?_)
  obtain ⟨c0x, ec0x⟩ : ∃ z, z = t_up b0 0 0 (.ref (AD sz 1)) := ⟨_, rfl⟩
  rw [← ec0x] at hw
  have hH0 : FN sz 1 47 c0x := hG0.keep (fun x h1 _ => by rw [ec0x]; exact t_up_o (by intro z; rw [z] at h1; omega))
  have hm0_0 : c0x 0 0 = .ref (AD sz 1) := by rw [ec0x, t_up_s]
  have ok1 : ordN 2 = 47 := rfl
  refine lv_aload_n hx hb d_X10_init_15 rfl (lv_at hl 0 rfl) ?_
  refine cw_new (k := 2) (n := 47) X hw hz hS (ci := 6) (N := 7) rfl (by decide) uw_X6 y_X6 ty_X6 kl_X10_7 in_X6 ii_X6 (rfl : KD 2 = _) rfl (Nat.le_of_ble_eq_true rfl) (Nat.le_of_ble_eq_true rfl) d_X10_init_16 (fun H hw hz hS => ?_)
  refine lv_dup hx hb d_X10_init_19 rfl ?_
  refine c_cv (c_runI (n := 48) (k := 2) (rest := [.ref (AD sz 2), .ref (AD sz 0)]) X hw hz hO (ci_river_1 l D dA sz _ (fun j _ => by rw [t_row_s])) gi_X10_9 rfl (by decide +kernel) ⟨rfl, rfl, Nat.le_of_ble_eq_true rfl, Nat.le_of_ble_eq_true rfl⟩ hl.1 rfl (Nat.le_of_ble_eq_true rfl) ⟨Nat.le_of_ble_eq_true rfl, Nat.le_of_ble_eq_true rfl⟩ d_X10_init_20) hS (fun b1 H locs hp hw hz hS => ?_)
  obtain ⟨hp1, hp2⟩ := hp
  have hr1 : ∀ a, ordN a < 47 → b1 a = c0x a := fun a ha => by
    have hne : a ≠ 2 := by intro z; rw [z] at ha; omega
    rw [hp1 a hne (by omega), t_row_o hne]
  have hp3 : FN sz 47 93 b1 := hp2
  have hG1 : FN sz 1 93 b1 := (hH0.keep (fun x _ h2 => hr1 x h2)).app hp3
  refine cw_putF (n := 93) X hmn hw hz hS FQ_X10_16 (rfl : KD 0 = _) (by omega) ⟨rfl, rfl⟩ d_X10_init_23 (fun H locs hw hz hS => ?_)
  obtain ⟨c1x, ec1x⟩ : ∃ z, z = t_up b1 0 1 (.ref (AD sz 2)) := ⟨_, rfl⟩
  rw [← ec1x] at hw
  have hH1 : FN sz 1 93 c1x := hG1.keep (fun x h1 _ => by rw [ec1x]; exact t_up_o (by intro z; rw [z] at h1; omega))
  have hm1_0 : c1x 0 0 = .ref (AD sz 1) := by rw [ec1x, t_up_j _ _ _ (by decide), hr1 0 (by omega)]; exact hm0_0
  have hm1_1 : c1x 0 1 = .ref (AD sz 2) := by rw [ec1x, t_up_s]
  have ok2 : ordN 3 = 93 := rfl
  refine lv_aload_n hx hb d_X10_init_26 rfl (lv_at hl 0 rfl) ?_
  refine cw_new (k := 3) (n := 93) X hw hz hS (ci := 6) (N := 7) rfl (by decide) uw_X6 y_X6 ty_X6 kl_X10_7 in_X6 ii_X6 (rfl : KD 3 = _) rfl (Nat.le_of_ble_eq_true rfl) (Nat.le_of_ble_eq_true rfl) d_X10_init_27 (fun H hw hz hS => ?_)
  refine lv_dup hx hb d_X10_init_30 rfl ?_
  refine c_cv (c_runI (n := 94) (k := 3) (rest := [.ref (AD sz 3), .ref (AD sz 0)]) X hw hz hO (ci_river_2 l D dA sz _ (fun j _ => by rw [t_row_s])) gi_X10_9 rfl (by decide +kernel) ⟨rfl, rfl, Nat.le_of_ble_eq_true rfl, Nat.le_of_ble_eq_true rfl⟩ hl.1 rfl (Nat.le_of_ble_eq_true rfl) ⟨Nat.le_of_ble_eq_true rfl, Nat.le_of_ble_eq_true rfl⟩ d_X10_init_31) hS (fun b2 H locs hp hw hz hS => ?_)
  obtain ⟨hp1, hp2⟩ := hp
  have hr2 : ∀ a, ordN a < 93 → b2 a = c1x a := fun a ha => by
    have hne : a ≠ 3 := by intro z; rw [z] at ha; omega
    rw [hp1 a hne (by omega), t_row_o hne]
  have hp3 : FN sz 93 139 b2 := hp2
  have hG2 : FN sz 1 139 b2 := (hH1.keep (fun x _ h2 => hr2 x h2)).app hp3
  refine cw_putF (n := 139) X hmn hw hz hS FQ_X10_19 (rfl : KD 0 = _) (by omega) ⟨rfl, rfl⟩ d_X10_init_34 (fun H locs hw hz hS => ?_)
  obtain ⟨c2x, ec2x⟩ : ∃ z, z = t_up b2 0 2 (.ref (AD sz 3)) := ⟨_, rfl⟩
  rw [← ec2x] at hw
  have hH2 : FN sz 1 139 c2x := hG2.keep (fun x h1 _ => by rw [ec2x]; exact t_up_o (by intro z; rw [z] at h1; omega))
  have hm2_0 : c2x 0 0 = .ref (AD sz 1) := by rw [ec2x, t_up_j _ _ _ (by decide), hr2 0 (by omega)]; exact hm1_0
  have hm2_1 : c2x 0 1 = .ref (AD sz 2) := by rw [ec2x, t_up_j _ _ _ (by decide), hr2 0 (by omega)]; exact hm1_1
  have hm2_2 : c2x 0 2 = .ref (AD sz 3) := by rw [ec2x, t_up_s]
  have ok3 : ordN 20 = 139 := rfl
  refine lv_aload_n hx hb d_X10_init_37 rfl (lv_at hl 0 rfl) ?_
  refine cw_new (k := 20) (n := 139) X hw hz hS (ci := 5) (N := 3) rfl (by decide) uw_X5 y_X5 ty_X5 kl_X10_22 in_X5 ii_X5 (rfl : KD 20 = _) rfl (Nat.le_of_ble_eq_true rfl) (Nat.le_of_ble_eq_true rfl) d_X10_init_38 (fun H hw hz hS => ?_)
  refine lv_dup hx hb d_X10_init_41 rfl ?_
  refine c_cv (c_runIN (n := 140) (k := 20) (rest := [.ref (AD sz 20), .ref (AD sz 0)]) X hw hz hO (ci_queue_20 l D dA sz _ (fun j _ => by rw [t_row_s])) ni_X10_24 gi_X10_24 rfl (by decide +kernel) ⟨rfl, rfl, Nat.le_of_ble_eq_true rfl, Nat.le_of_ble_eq_true rfl⟩ hl.1 rfl (Nat.le_of_ble_eq_true rfl) ⟨Nat.le_of_ble_eq_true rfl, Nat.le_of_ble_eq_true rfl⟩ d_X10_init_42) hS (fun b3 H locs hp hw hz hS => ?_)
  obtain ⟨hp1, hp2⟩ := hp
  have hr3 : ∀ a, ordN a < 139 → b3 a = c2x a := fun a ha => by
    have hne : a ≠ 20 := by intro z; rw [z] at ha; omega
    rw [hp1 a hne (by omega), t_row_o hne]
  have hp3 : FN sz 139 142 b3 := hp2
  have hG3 : FN sz 1 142 b3 := (hH2.keep (fun x _ h2 => hr3 x h2)).app hp3
  refine cw_putF (n := 142) X hmn hw hz hS FQ_X10_25 (rfl : KD 0 = _) (by omega) ⟨rfl, rfl⟩ d_X10_init_45 (fun H locs hw hz hS => ?_)
  obtain ⟨c3x, ec3x⟩ : ∃ z, z = t_up b3 0 3 (.ref (AD sz 20)) := ⟨_, rfl⟩
  rw [← ec3x] at hw
  have hH3 : FN sz 1 142 c3x := hG3.keep (fun x h1 _ => by rw [ec3x]; exact t_up_o (by intro z; rw [z] at h1; omega))
  have hm3_0 : c3x 0 0 = .ref (AD sz 1) := by rw [ec3x, t_up_j _ _ _ (by decide), hr3 0 (by omega)]; exact hm2_0
  have hm3_1 : c3x 0 1 = .ref (AD sz 2) := by rw [ec3x, t_up_j _ _ _ (by decide), hr3 0 (by omega)]; exact hm2_1
  have hm3_2 : c3x 0 2 = .ref (AD sz 3) := by rw [ec3x, t_up_j _ _ _ (by decide), hr3 0 (by omega)]; exact hm2_2
  have hm3_3 : c3x 0 3 = .ref (AD sz 20) := by rw [ec3x, t_up_s]
  have ok4 : ordN 21 = 142 := rfl
  refine lv_aload_n hx hb d_X10_init_48 rfl (lv_at hl 0 rfl) ?_
  refine cw_new (k := 21) (n := 142) X hw hz hS (ci := 5) (N := 3) rfl (by decide) uw_X5 y_X5 ty_X5 kl_X10_22 in_X5 ii_X5 (rfl : KD 21 = _) rfl (Nat.le_of_ble_eq_true rfl) (Nat.le_of_ble_eq_true rfl) d_X10_init_49 (fun H hw hz hS => ?_)
  refine lv_dup hx hb d_X10_init_52 rfl ?_
  refine c_cv (c_runIN (n := 143) (k := 21) (rest := [.ref (AD sz 21), .ref (AD sz 0)]) X hw hz hO (ci_queue_21 l D dA sz _ (fun j _ => by rw [t_row_s])) ni_X10_24 gi_X10_24 rfl (by decide +kernel) ⟨rfl, rfl, Nat.le_of_ble_eq_true rfl, Nat.le_of_ble_eq_true rfl⟩ hl.1 rfl (Nat.le_of_ble_eq_true rfl) ⟨Nat.le_of_ble_eq_true rfl, Nat.le_of_ble_eq_true rfl⟩ d_X10_init_53) hS (fun b4 H locs hp hw hz hS => ?_)
  obtain ⟨hp1, hp2⟩ := hp
  have hr4 : ∀ a, ordN a < 142 → b4 a = c3x a := fun a ha => by
    have hne : a ≠ 21 := by intro z; rw [z] at ha; omega
    rw [hp1 a hne (by omega), t_row_o hne]
  have hp3 : FN sz 142 145 b4 := hp2
  have hG4 : FN sz 1 145 b4 := (hH3.keep (fun x _ h2 => hr4 x h2)).app hp3
  refine cw_putF (n := 145) X hmn hw hz hS FQ_X10_29 (rfl : KD 0 = _) (by omega) ⟨rfl, rfl⟩ d_X10_init_56 (fun H locs hw hz hS => ?_)
  obtain ⟨c4x, ec4x⟩ : ∃ z, z = t_up b4 0 4 (.ref (AD sz 21)) := ⟨_, rfl⟩
  rw [← ec4x] at hw
  have hH4 : FN sz 1 145 c4x := hG4.keep (fun x h1 _ => by rw [ec4x]; exact t_up_o (by intro z; rw [z] at h1; omega))
  have hm4_0 : c4x 0 0 = .ref (AD sz 1) := by rw [ec4x, t_up_j _ _ _ (by decide), hr4 0 (by omega)]; exact hm3_0
  have hm4_1 : c4x 0 1 = .ref (AD sz 2) := by rw [ec4x, t_up_j _ _ _ (by decide), hr4 0 (by omega)]; exact hm3_1
  have hm4_2 : c4x 0 2 = .ref (AD sz 3) := by rw [ec4x, t_up_j _ _ _ (by decide), hr4 0 (by omega)]; exact hm3_2
  have hm4_3 : c4x 0 3 = .ref (AD sz 20) := by rw [ec4x, t_up_j _ _ _ (by decide), hr4 0 (by omega)]; exact hm3_3
  have hm4_4 : c4x 0 4 = .ref (AD sz 21) := by rw [ec4x, t_up_s]
  have ok5 : ordN 30 = 145 := rfl
  refine lv_aload_n hx hb d_X10_init_59 rfl (lv_at hl 0 rfl) ?_
  refine cw_new (k := 30) (n := 145) X hw hz hS (ci := 1) (N := 7) rfl (by decide) uw_X1 y_X1 ty_X1 kl_X10_32 in_X1 ii_X1 (rfl : KD 30 = _) rfl (Nat.le_of_ble_eq_true rfl) (Nat.le_of_ble_eq_true rfl) d_X10_init_60 (fun H hw hz hS => ?_)
  refine lv_dup hx hb d_X10_init_63 rfl ?_
  refine c_cv (c_runIN (n := 146) (k := 30) (rest := [.ref (AD sz 30), .ref (AD sz 0)]) X hw hz hO (ci_book_30 l D dA sz _ (fun j _ => by rw [t_row_s])) ni_X10_34 gi_X10_34 rfl (by decide +kernel) ⟨rfl, rfl, Nat.le_of_ble_eq_true rfl, Nat.le_of_ble_eq_true rfl⟩ hl.1 rfl (Nat.le_of_ble_eq_true rfl) ⟨Nat.le_of_ble_eq_true rfl, Nat.le_of_ble_eq_true rfl⟩ d_X10_init_64) hS (fun b5 H locs hp hw hz hS => ?_)
  obtain ⟨hp1, hp2⟩ := hp
  have hr5 : ∀ a, ordN a < 145 → b5 a = c4x a := fun a ha => by
    have hne : a ≠ 30 := by intro z; rw [z] at ha; omega
    rw [hp1 a hne (by omega), t_row_o hne]
  have hp3 : FN sz 145 150 b5 := hp2
  have hG5 : FN sz 1 150 b5 := (hH4.keep (fun x _ h2 => hr5 x h2)).app hp3
  refine cw_putF (n := 150) X hmn hw hz hS FQ_X10_35 (rfl : KD 0 = _) (by omega) ⟨rfl, rfl⟩ d_X10_init_67 (fun H locs hw hz hS => ?_)
  obtain ⟨c5x, ec5x⟩ : ∃ z, z = t_up b5 0 5 (.ref (AD sz 30)) := ⟨_, rfl⟩
  rw [← ec5x] at hw
  have hH5 : FN sz 1 150 c5x := hG5.keep (fun x h1 _ => by rw [ec5x]; exact t_up_o (by intro z; rw [z] at h1; omega))
  have hm5_0 : c5x 0 0 = .ref (AD sz 1) := by rw [ec5x, t_up_j _ _ _ (by decide), hr5 0 (by omega)]; exact hm4_0
  have hm5_1 : c5x 0 1 = .ref (AD sz 2) := by rw [ec5x, t_up_j _ _ _ (by decide), hr5 0 (by omega)]; exact hm4_1
  have hm5_2 : c5x 0 2 = .ref (AD sz 3) := by rw [ec5x, t_up_j _ _ _ (by decide), hr5 0 (by omega)]; exact hm4_2
  have hm5_3 : c5x 0 3 = .ref (AD sz 20) := by rw [ec5x, t_up_j _ _ _ (by decide), hr5 0 (by omega)]; exact hm4_3
  have hm5_4 : c5x 0 4 = .ref (AD sz 21) := by rw [ec5x, t_up_j _ _ _ (by decide), hr5 0 (by omega)]; exact hm4_4
  have hm5_5 : c5x 0 5 = .ref (AD sz 30) := by rw [ec5x, t_up_s]
  have ok6 : ordN 31 = 150 := rfl
  refine lv_aload_n hx hb d_X10_init_70 rfl (lv_at hl 0 rfl) ?_
  refine cw_new (k := 31) (n := 150) X hw hz hS (ci := 1) (N := 7) rfl (by decide) uw_X1 y_X1 ty_X1 kl_X10_32 in_X1 ii_X1 (rfl : KD 31 = _) rfl (Nat.le_of_ble_eq_true rfl) (Nat.le_of_ble_eq_true rfl) d_X10_init_71 (fun H hw hz hS => ?_)
  refine lv_dup hx hb d_X10_init_74 rfl ?_
  refine c_cv (c_runIN (n := 151) (k := 31) (rest := [.ref (AD sz 31), .ref (AD sz 0)]) X hw hz hO (ci_book_31 l D dA sz _ (fun j _ => by rw [t_row_s])) ni_X10_34 gi_X10_34 rfl (by decide +kernel) ⟨rfl, rfl, Nat.le_of_ble_eq_true rfl, Nat.le_of_ble_eq_true rfl⟩ hl.1 rfl (Nat.le_of_ble_eq_true rfl) ⟨Nat.le_of_ble_eq_true rfl, Nat.le_of_ble_eq_true rfl⟩ d_X10_init_75) hS (fun b6 H locs hp hw hz hS => ?_)
  obtain ⟨hp1, hp2⟩ := hp
  have hr6 : ∀ a, ordN a < 150 → b6 a = c5x a := fun a ha => by
    have hne : a ≠ 31 := by intro z; rw [z] at ha; omega
    rw [hp1 a hne (by omega), t_row_o hne]
  have hp3 : FN sz 150 155 b6 := hp2
  have hG6 : FN sz 1 155 b6 := (hH5.keep (fun x _ h2 => hr6 x h2)).app hp3
  refine cw_putF (n := 155) X hmn hw hz hS FQ_X10_39 (rfl : KD 0 = _) (by omega) ⟨rfl, rfl⟩ d_X10_init_78 (fun H locs hw hz hS => ?_)
  obtain ⟨c6x, ec6x⟩ : ∃ z, z = t_up b6 0 6 (.ref (AD sz 31)) := ⟨_, rfl⟩
  rw [← ec6x] at hw
  have hH6 : FN sz 1 155 c6x := hG6.keep (fun x h1 _ => by rw [ec6x]; exact t_up_o (by intro z; rw [z] at h1; omega))
  have hm6_0 : c6x 0 0 = .ref (AD sz 1) := by rw [ec6x, t_up_j _ _ _ (by decide), hr6 0 (by omega)]; exact hm5_0
  have hm6_1 : c6x 0 1 = .ref (AD sz 2) := by rw [ec6x, t_up_j _ _ _ (by decide), hr6 0 (by omega)]; exact hm5_1
  have hm6_2 : c6x 0 2 = .ref (AD sz 3) := by rw [ec6x, t_up_j _ _ _ (by decide), hr6 0 (by omega)]; exact hm5_2
  have hm6_3 : c6x 0 3 = .ref (AD sz 20) := by rw [ec6x, t_up_j _ _ _ (by decide), hr6 0 (by omega)]; exact hm5_3
  have hm6_4 : c6x 0 4 = .ref (AD sz 21) := by rw [ec6x, t_up_j _ _ _ (by decide), hr6 0 (by omega)]; exact hm5_4
  have hm6_5 : c6x 0 5 = .ref (AD sz 30) := by rw [ec6x, t_up_j _ _ _ (by decide), hr6 0 (by omega)]; exact hm5_5
  have hm6_6 : c6x 0 6 = .ref (AD sz 31) := by rw [ec6x, t_up_s]
  have ok7 : ordN 40 = 155 := rfl
  refine lv_aload_n hx hb d_X10_init_81 rfl (lv_at hl 0 rfl) ?_
  refine cw_new (k := 40) (n := 155) X hw hz hS (ci := 2) (N := 2) rfl (by decide) uw_X2 y_X2 ty_X2 kl_X10_42 in_X2 ii_X2 (rfl : KD 40 = _) rfl (Nat.le_of_ble_eq_true rfl) (Nat.le_of_ble_eq_true rfl) d_X10_init_82 (fun H hw hz hS => ?_)
  refine lv_dup hx hb d_X10_init_85 rfl ?_
  refine c_cv (c_runIN (n := 156) (k := 40) (rest := [.ref (AD sz 40), .ref (AD sz 0)]) X hw hz hO (ci_lighters l D dA sz _ (fun j _ => by rw [t_row_s])) ni_X10_44 gi_X10_44 rfl (by decide +kernel) ⟨rfl, rfl, Nat.le_of_ble_eq_true rfl, Nat.le_of_ble_eq_true rfl⟩ hl.1 rfl (Nat.le_of_ble_eq_true rfl) ⟨Nat.le_of_ble_eq_true rfl, Nat.le_of_ble_eq_true rfl⟩ d_X10_init_86) hS (fun b7 H locs hp hw hz hS => ?_)
  obtain ⟨hp1, hp2⟩ := hp
  have hr7 : ∀ a, ordN a < 155 → b7 a = c6x a := fun a ha => by
    have hne : a ≠ 40 := by intro z; rw [z] at ha; omega
    rw [hp1 a hne (by omega), t_row_o hne]
  have hp3 : FN sz 155 158 b7 := hp2
  have hG7 : FN sz 1 158 b7 := (hH6.keep (fun x _ h2 => hr7 x h2)).app hp3
  refine cw_putF (n := 158) X hmn hw hz hS FQ_X10_45 (rfl : KD 0 = _) (by omega) ⟨rfl, rfl⟩ d_X10_init_89 (fun H locs hw hz hS => ?_)
  obtain ⟨c7x, ec7x⟩ : ∃ z, z = t_up b7 0 7 (.ref (AD sz 40)) := ⟨_, rfl⟩
  rw [← ec7x] at hw
  have hH7 : FN sz 1 158 c7x := hG7.keep (fun x h1 _ => by rw [ec7x]; exact t_up_o (by intro z; rw [z] at h1; omega))
  have hm7_0 : c7x 0 0 = .ref (AD sz 1) := by rw [ec7x, t_up_j _ _ _ (by decide), hr7 0 (by omega)]; exact hm6_0
  have hm7_1 : c7x 0 1 = .ref (AD sz 2) := by rw [ec7x, t_up_j _ _ _ (by decide), hr7 0 (by omega)]; exact hm6_1
  have hm7_2 : c7x 0 2 = .ref (AD sz 3) := by rw [ec7x, t_up_j _ _ _ (by decide), hr7 0 (by omega)]; exact hm6_2
  have hm7_3 : c7x 0 3 = .ref (AD sz 20) := by rw [ec7x, t_up_j _ _ _ (by decide), hr7 0 (by omega)]; exact hm6_3
  have hm7_4 : c7x 0 4 = .ref (AD sz 21) := by rw [ec7x, t_up_j _ _ _ (by decide), hr7 0 (by omega)]; exact hm6_4
  have hm7_5 : c7x 0 5 = .ref (AD sz 30) := by rw [ec7x, t_up_j _ _ _ (by decide), hr7 0 (by omega)]; exact hm6_5
  have hm7_6 : c7x 0 6 = .ref (AD sz 31) := by rw [ec7x, t_up_j _ _ _ (by decide), hr7 0 (by omega)]; exact hm6_6
  have hm7_7 : c7x 0 7 = .ref (AD sz 40) := by rw [ec7x, t_up_s]
  have ok8 : ordN 50 = 158 := rfl
  refine lv_aload_n hx hb d_X10_init_92 rfl (lv_at hl 0 rfl) ?_
  refine cw_new (k := 50) (n := 158) X hw hz hS (ci := 4) (N := 3) rfl (by decide) uw_X4 y_X4 ty_X4 kl_X10_49 in_X4 ii_X4 (rfl : KD 50 = _) rfl (Nat.le_of_ble_eq_true rfl) (Nat.le_of_ble_eq_true rfl) d_X10_init_93 (fun H hw hz hS => ?_)
  refine lv_dup hx hb d_X10_init_96 rfl ?_
  refine c_cv (c_runI (n := 159) (k := 50) (rest := [.ref (AD sz 50), .ref (AD sz 0)]) X hw hz hO (ci_orders l D dA sz _ (fun j _ => by rw [t_row_s])) gi_X10_51 rfl (by decide +kernel) ⟨rfl, rfl, Nat.le_of_ble_eq_true rfl, Nat.le_of_ble_eq_true rfl⟩ hl.1 rfl (Nat.le_of_ble_eq_true rfl) ⟨Nat.le_of_ble_eq_true rfl, Nat.le_of_ble_eq_true rfl⟩ d_X10_init_97) hS (fun b8 H locs hp hw hz hS => ?_)
  obtain ⟨hp1, hp2⟩ := hp
  have hr8 : ∀ a, ordN a < 158 → b8 a = c7x a := fun a ha => by
    have hne : a ≠ 50 := by intro z; rw [z] at ha; omega
    rw [hp1 a hne (by omega), t_row_o hne]
  have hp3 : FN sz 158 196 b8 := hp2
  have hG8 : FN sz 1 196 b8 := (hH7.keep (fun x _ h2 => hr8 x h2)).app hp3
  refine cw_putF (n := 196) X hmn hw hz hS FQ_X10_52 (rfl : KD 0 = _) (by omega) ⟨rfl, rfl⟩ d_X10_init_100 (fun H locs hw hz hS => ?_)
  obtain ⟨c8x, ec8x⟩ : ∃ z, z = t_up b8 0 8 (.ref (AD sz 50)) := ⟨_, rfl⟩
  rw [← ec8x] at hw
  have hH8 : FN sz 1 196 c8x := hG8.keep (fun x h1 _ => by rw [ec8x]; exact t_up_o (by intro z; rw [z] at h1; omega))
  have hm8_0 : c8x 0 0 = .ref (AD sz 1) := by rw [ec8x, t_up_j _ _ _ (by decide), hr8 0 (by omega)]; exact hm7_0
  have hm8_1 : c8x 0 1 = .ref (AD sz 2) := by rw [ec8x, t_up_j _ _ _ (by decide), hr8 0 (by omega)]; exact hm7_1
  have hm8_2 : c8x 0 2 = .ref (AD sz 3) := by rw [ec8x, t_up_j _ _ _ (by decide), hr8 0 (by omega)]; exact hm7_2
  have hm8_3 : c8x 0 3 = .ref (AD sz 20) := by rw [ec8x, t_up_j _ _ _ (by decide), hr8 0 (by omega)]; exact hm7_3
  have hm8_4 : c8x 0 4 = .ref (AD sz 21) := by rw [ec8x, t_up_j _ _ _ (by decide), hr8 0 (by omega)]; exact hm7_4
  have hm8_5 : c8x 0 5 = .ref (AD sz 30) := by rw [ec8x, t_up_j _ _ _ (by decide), hr8 0 (by omega)]; exact hm7_5
  have hm8_6 : c8x 0 6 = .ref (AD sz 31) := by rw [ec8x, t_up_j _ _ _ (by decide), hr8 0 (by omega)]; exact hm7_6
  have hm8_7 : c8x 0 7 = .ref (AD sz 40) := by rw [ec8x, t_up_j _ _ _ (by decide), hr8 0 (by omega)]; exact hm7_7
  have hm8_8 : c8x 0 8 = .ref (AD sz 50) := by rw [ec8x, t_up_s]
  have ok9 : ordN 55 = 196 := rfl
  refine lv_aload_n hx hb d_X10_init_103 rfl (lv_at hl 0 rfl) ?_
  refine cw_new (k := 55) (n := 196) X hw hz hS (ci := 8) (N := 3) rfl (by decide) uw_X8 y_X8 ty_X8 kl_X10_56 in_X8 ii_X8 (rfl : KD 55 = _) rfl (Nat.le_of_ble_eq_true rfl) (Nat.le_of_ble_eq_true rfl) d_X10_init_104 (fun H hw hz hS => ?_)
  refine lv_dup hx hb d_X10_init_107 rfl ?_
  refine c_cv (c_runIN (n := 197) (k := 55) (rest := [.ref (AD sz 55), .ref (AD sz 0)]) X hw hz hO (ci_tape l D dA sz _ (fun j _ => by rw [t_row_s])) ni_X10_58 gi_X10_58 rfl (by decide +kernel) ⟨rfl, rfl, Nat.le_of_ble_eq_true rfl, Nat.le_of_ble_eq_true rfl⟩ hl.1 rfl (Nat.le_of_ble_eq_true rfl) ⟨Nat.le_of_ble_eq_true rfl, Nat.le_of_ble_eq_true rfl⟩ d_X10_init_108) hS (fun b9 H locs hp hw hz hS => ?_)
  obtain ⟨hp1, hp2⟩ := hp
  have hr9 : ∀ a, ordN a < 196 → b9 a = c8x a := fun a ha => by
    have hne : a ≠ 55 := by intro z; rw [z] at ha; omega
    rw [hp1 a hne (by omega), t_row_o hne]
  have hp3 : FN sz 196 198 b9 := hp2
  have hG9 : FN sz 1 198 b9 := (hH8.keep (fun x _ h2 => hr9 x h2)).app hp3
  refine cw_putF (n := 198) X hmn hw hz hS FQ_X10_59 (rfl : KD 0 = _) (by omega) ⟨rfl, rfl⟩ d_X10_init_111 (fun H locs hw hz hS => ?_)
  obtain ⟨c9x, ec9x⟩ : ∃ z, z = t_up b9 0 9 (.ref (AD sz 55)) := ⟨_, rfl⟩
  rw [← ec9x] at hw
  have hH9 : FN sz 1 198 c9x := hG9.keep (fun x h1 _ => by rw [ec9x]; exact t_up_o (by intro z; rw [z] at h1; omega))
  have hm9_0 : c9x 0 0 = .ref (AD sz 1) := by rw [ec9x, t_up_j _ _ _ (by decide), hr9 0 (by omega)]; exact hm8_0
  have hm9_1 : c9x 0 1 = .ref (AD sz 2) := by rw [ec9x, t_up_j _ _ _ (by decide), hr9 0 (by omega)]; exact hm8_1
  have hm9_2 : c9x 0 2 = .ref (AD sz 3) := by rw [ec9x, t_up_j _ _ _ (by decide), hr9 0 (by omega)]; exact hm8_2
  have hm9_3 : c9x 0 3 = .ref (AD sz 20) := by rw [ec9x, t_up_j _ _ _ (by decide), hr9 0 (by omega)]; exact hm8_3
  have hm9_4 : c9x 0 4 = .ref (AD sz 21) := by rw [ec9x, t_up_j _ _ _ (by decide), hr9 0 (by omega)]; exact hm8_4
  have hm9_5 : c9x 0 5 = .ref (AD sz 30) := by rw [ec9x, t_up_j _ _ _ (by decide), hr9 0 (by omega)]; exact hm8_5
  have hm9_6 : c9x 0 6 = .ref (AD sz 31) := by rw [ec9x, t_up_j _ _ _ (by decide), hr9 0 (by omega)]; exact hm8_6
  have hm9_7 : c9x 0 7 = .ref (AD sz 40) := by rw [ec9x, t_up_j _ _ _ (by decide), hr9 0 (by omega)]; exact hm8_7
  have hm9_8 : c9x 0 8 = .ref (AD sz 50) := by rw [ec9x, t_up_j _ _ _ (by decide), hr9 0 (by omega)]; exact hm8_8
  have hm9_9 : c9x 0 9 = .ref (AD sz 55) := by rw [ec9x, t_up_s]
  refine lv_aload_n hx hb d_X10_init_114 rfl (lv_at hl 0 rfl) ?_
  refine lv_iconst (v := 0) hx hb d_X10_init_115 (by decide) ?_
  refine cw_put (n := 198) X hw hz hS FP_X10_63 (rfl : KD 0 = _) (by omega) ⟨rfl, rfl⟩ d_X10_init_116 (fun H locs hw hz hS => ?_)
  obtain ⟨f0x, ef0x⟩ : ∃ z, z = t_up c9x 0 10 (.int 0) := ⟨_, rfl⟩
  rw [← ef0x] at hw
  have hL0 : FN sz 1 198 f0x := hH9.keep (fun x h1 _ => by rw [ef0x]; exact t_up_o (by intro z; rw [z] at h1; omega))
  have hn0_0 : f0x 0 0 = .ref (AD sz 1) := by rw [ef0x, t_up_j _ _ _ (by decide)]; exact hm9_0
  have hn0_1 : f0x 0 1 = .ref (AD sz 2) := by rw [ef0x, t_up_j _ _ _ (by decide)]; exact hm9_1
  have hn0_2 : f0x 0 2 = .ref (AD sz 3) := by rw [ef0x, t_up_j _ _ _ (by decide)]; exact hm9_2
  have hn0_3 : f0x 0 3 = .ref (AD sz 20) := by rw [ef0x, t_up_j _ _ _ (by decide)]; exact hm9_3
  have hn0_4 : f0x 0 4 = .ref (AD sz 21) := by rw [ef0x, t_up_j _ _ _ (by decide)]; exact hm9_4
  have hn0_5 : f0x 0 5 = .ref (AD sz 30) := by rw [ef0x, t_up_j _ _ _ (by decide)]; exact hm9_5
  have hn0_6 : f0x 0 6 = .ref (AD sz 31) := by rw [ef0x, t_up_j _ _ _ (by decide)]; exact hm9_6
  have hn0_7 : f0x 0 7 = .ref (AD sz 40) := by rw [ef0x, t_up_j _ _ _ (by decide)]; exact hm9_7
  have hn0_8 : f0x 0 8 = .ref (AD sz 50) := by rw [ef0x, t_up_j _ _ _ (by decide)]; exact hm9_8
  have hn0_9 : f0x 0 9 = .ref (AD sz 55) := by rw [ef0x, t_up_j _ _ _ (by decide)]; exact hm9_9
  have hn0_10 : f0x 0 10 = .int 0 := by rw [ef0x, t_up_s]
  refine lv_aload_n hx hb d_X10_init_119 rfl (lv_at hl 0 rfl) ?_
  refine lv_bipush (v := 20) hx hb d_X10_init_120 (by decide) ?_
  refine cw_put (n := 198) X hw hz hS FP_X10_67 (rfl : KD 0 = _) (by omega) ⟨rfl, rfl⟩ d_X10_init_122 (fun H locs hw hz hS => ?_)
  obtain ⟨f1x, ef1x⟩ : ∃ z, z = t_up f0x 0 11 (.int 20) := ⟨_, rfl⟩
  rw [← ef1x] at hw
  have hL1 : FN sz 1 198 f1x := hL0.keep (fun x h1 _ => by rw [ef1x]; exact t_up_o (by intro z; rw [z] at h1; omega))
  have hn1_0 : f1x 0 0 = .ref (AD sz 1) := by rw [ef1x, t_up_j _ _ _ (by decide)]; exact hn0_0
  have hn1_1 : f1x 0 1 = .ref (AD sz 2) := by rw [ef1x, t_up_j _ _ _ (by decide)]; exact hn0_1
  have hn1_2 : f1x 0 2 = .ref (AD sz 3) := by rw [ef1x, t_up_j _ _ _ (by decide)]; exact hn0_2
  have hn1_3 : f1x 0 3 = .ref (AD sz 20) := by rw [ef1x, t_up_j _ _ _ (by decide)]; exact hn0_3
  have hn1_4 : f1x 0 4 = .ref (AD sz 21) := by rw [ef1x, t_up_j _ _ _ (by decide)]; exact hn0_4
  have hn1_5 : f1x 0 5 = .ref (AD sz 30) := by rw [ef1x, t_up_j _ _ _ (by decide)]; exact hn0_5
  have hn1_6 : f1x 0 6 = .ref (AD sz 31) := by rw [ef1x, t_up_j _ _ _ (by decide)]; exact hn0_6
  have hn1_7 : f1x 0 7 = .ref (AD sz 40) := by rw [ef1x, t_up_j _ _ _ (by decide)]; exact hn0_7
  have hn1_8 : f1x 0 8 = .ref (AD sz 50) := by rw [ef1x, t_up_j _ _ _ (by decide)]; exact hn0_8
  have hn1_9 : f1x 0 9 = .ref (AD sz 55) := by rw [ef1x, t_up_j _ _ _ (by decide)]; exact hn0_9
  have hn1_10 : f1x 0 10 = .int 0 := by rw [ef1x, t_up_j _ _ _ (by decide)]; exact hn0_10
  have hn1_11 : f1x 0 11 = .int 20 := by rw [ef1x, t_up_s]
  refine lv_aload_n hx hb d_X10_init_125 rfl (lv_at hl 0 rfl) ?_
  refine lv_bipush (v := 28) hx hb d_X10_init_126 (by decide) ?_
  refine cw_put (n := 198) X hw hz hS FP_X10_71 (rfl : KD 0 = _) (by omega) ⟨rfl, rfl⟩ d_X10_init_128 (fun H locs hw hz hS => ?_)
  obtain ⟨f2x, ef2x⟩ : ∃ z, z = t_up f1x 0 12 (.int 28) := ⟨_, rfl⟩
  rw [← ef2x] at hw
  have hL2 : FN sz 1 198 f2x := hL1.keep (fun x h1 _ => by rw [ef2x]; exact t_up_o (by intro z; rw [z] at h1; omega))
  have hn2_0 : f2x 0 0 = .ref (AD sz 1) := by rw [ef2x, t_up_j _ _ _ (by decide)]; exact hn1_0
  have hn2_1 : f2x 0 1 = .ref (AD sz 2) := by rw [ef2x, t_up_j _ _ _ (by decide)]; exact hn1_1
  have hn2_2 : f2x 0 2 = .ref (AD sz 3) := by rw [ef2x, t_up_j _ _ _ (by decide)]; exact hn1_2
  have hn2_3 : f2x 0 3 = .ref (AD sz 20) := by rw [ef2x, t_up_j _ _ _ (by decide)]; exact hn1_3
  have hn2_4 : f2x 0 4 = .ref (AD sz 21) := by rw [ef2x, t_up_j _ _ _ (by decide)]; exact hn1_4
  have hn2_5 : f2x 0 5 = .ref (AD sz 30) := by rw [ef2x, t_up_j _ _ _ (by decide)]; exact hn1_5
  have hn2_6 : f2x 0 6 = .ref (AD sz 31) := by rw [ef2x, t_up_j _ _ _ (by decide)]; exact hn1_6
  have hn2_7 : f2x 0 7 = .ref (AD sz 40) := by rw [ef2x, t_up_j _ _ _ (by decide)]; exact hn1_7
  have hn2_8 : f2x 0 8 = .ref (AD sz 50) := by rw [ef2x, t_up_j _ _ _ (by decide)]; exact hn1_8
  have hn2_9 : f2x 0 9 = .ref (AD sz 55) := by rw [ef2x, t_up_j _ _ _ (by decide)]; exact hn1_9
  have hn2_10 : f2x 0 10 = .int 0 := by rw [ef2x, t_up_j _ _ _ (by decide)]; exact hn1_10
  have hn2_11 : f2x 0 11 = .int 20 := by rw [ef2x, t_up_j _ _ _ (by decide)]; exact hn1_11
  have hn2_12 : f2x 0 12 = .int 28 := by rw [ef2x, t_up_s]
  refine c_vret X hr hlocks hw hz hS ⟨?_, ?_⟩ d_X10_init_131
  · intro a ha1 ha2
    rw [ef2x, t_up_o ha1, ef1x, t_up_o ha1, ef0x, t_up_o ha1, ec9x, t_up_o ha1, hr9 a (by omega), ec8x, t_up_o ha1, hr8 a (by omega), ec7x, t_up_o ha1, hr7 a (by omega), ec6x, t_up_o ha1, hr6 a (by omega), ec5x, t_up_o ha1, hr5 a (by omega), ec4x, t_up_o ha1, hr4 a (by omega), ec3x, t_up_o ha1, hr3 a (by omega), ec2x, t_up_o ha1, hr2 a (by omega), ec1x, t_up_o ha1, hr1 a (by omega), ec0x, t_up_o ha1, hr0 a (by omega)]
  · have h1 : FN sz 0 1 f2x := by
      intro a kn ha q1 q2 j hj
      have ea : a = 0 := ord_inj ha (rfl : KD 0 = _) (by omega)
      rw [ea] at ha ⊢
      have ek : kn = (10, 0) := Option.some.inj (ha.symm.trans (rfl : KD 0 = _))
      subst ek
      have hj2 : j = 0 ∨ j = 1 ∨ j = 2 ∨ j = 3 ∨ j = 4 ∨ j = 5 ∨ j = 6 ∨ j = 7 ∨ j = 8 ∨ j = 9 ∨ j = 10 ∨ j = 11 ∨ j = 12 := by have h9 : j < 13 := hj; omega
      rcases hj2 with rfl | rfl | rfl | rfl | rfl | rfl | rfl | rfl | rfl | rfl | rfl | rfl | rfl
      · rw [hn2_0]; rfl
      · rw [hn2_1]; rfl
      · rw [hn2_2]; rfl
      · rw [hn2_3]; rfl
      · rw [hn2_4]; rfl
      · rw [hn2_5]; rfl
      · rw [hn2_6]; rfl
      · rw [hn2_7]; rfl
      · rw [hn2_8]; rfl
      · rw [hn2_9]; rfl
      · rw [hn2_10]; rfl
      · rw [hn2_11]; rfl
      · rw [hn2_12]; rfl
    exact h1.app hL2
