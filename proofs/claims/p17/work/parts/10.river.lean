theorem d_X7_copy_0 : decode c_X7_copy 0 = .ok (.aload_n 0, 1) := by decide +kernel
theorem d_X7_copy_1 : decode c_X7_copy 1 = .ok (.aload_n 1, 1) := by decide +kernel
theorem d_X7_copy_2 : decode c_X7_copy 2 = .ok (.getfield 9, 3) := by decide +kernel
theorem d_X7_copy_5 : decode c_X7_copy 5 = .ok (.putfield 9, 3) := by decide +kernel
theorem d_X7_copy_8 : decode c_X7_copy 8 = .ok (.aload_n 0, 1) := by decide +kernel
theorem d_X7_copy_9 : decode c_X7_copy 9 = .ok (.aload_n 1, 1) := by decide +kernel
theorem d_X7_copy_10 : decode c_X7_copy 10 = .ok (.getfield 15, 3) := by decide +kernel
theorem d_X7_copy_13 : decode c_X7_copy 13 = .ok (.putfield 15, 3) := by decide +kernel
theorem d_X7_copy_16 : decode c_X7_copy 16 = .ok (.aload_n 0, 1) := by decide +kernel
theorem d_X7_copy_17 : decode c_X7_copy 17 = .ok (.aload_n 1, 1) := by decide +kernel
theorem d_X7_copy_18 : decode c_X7_copy 18 = .ok (.getfield 18, 3) := by decide +kernel
theorem d_X7_copy_21 : decode c_X7_copy 21 = .ok (.putfield 18, 3) := by decide +kernel
theorem d_X7_copy_24 : decode c_X7_copy 24 = .ok (.aload_n 0, 1) := by decide +kernel
theorem d_X7_copy_25 : decode c_X7_copy 25 = .ok (.aload_n 1, 1) := by decide +kernel
theorem d_X7_copy_26 : decode c_X7_copy 26 = .ok (.getfield 21, 3) := by decide +kernel
theorem d_X7_copy_29 : decode c_X7_copy 29 = .ok (.putfield 21, 3) := by decide +kernel
theorem d_X7_copy_32 : decode c_X7_copy 32 = .ok (.aload_n 0, 1) := by decide +kernel
theorem d_X7_copy_33 : decode c_X7_copy 33 = .ok (.aload_n 1, 1) := by decide +kernel
theorem d_X7_copy_34 : decode c_X7_copy 34 = .ok (.getfield 24, 3) := by decide +kernel
theorem d_X7_copy_37 : decode c_X7_copy 37 = .ok (.putfield 24, 3) := by decide +kernel
theorem d_X7_copy_40 : decode c_X7_copy 40 = .ok (.aload_n 0, 1) := by decide +kernel
theorem d_X7_copy_41 : decode c_X7_copy 41 = .ok (.aload_n 1, 1) := by decide +kernel
theorem d_X7_copy_42 : decode c_X7_copy 42 = .ok (.getfield 27, 3) := by decide +kernel
theorem d_X7_copy_45 : decode c_X7_copy 45 = .ok (.putfield 27, 3) := by decide +kernel
theorem d_X7_copy_48 : decode c_X7_copy 48 = .ok (.aload_n 0, 1) := by decide +kernel
theorem d_X7_copy_49 : decode c_X7_copy 49 = .ok (.aload_n 1, 1) := by decide +kernel
theorem d_X7_copy_50 : decode c_X7_copy 50 = .ok (.getfield 30, 3) := by decide +kernel
theorem d_X7_copy_53 : decode c_X7_copy 53 = .ok (.putfield 30, 3) := by decide +kernel
theorem d_X7_copy_56 : decode c_X7_copy 56 = .ok (.aload_n 0, 1) := by decide +kernel
theorem d_X7_copy_57 : decode c_X7_copy 57 = .ok (.aload_n 1, 1) := by decide +kernel
theorem d_X7_copy_58 : decode c_X7_copy 58 = .ok (.getfield 33, 3) := by decide +kernel
theorem d_X7_copy_61 : decode c_X7_copy 61 = .ok (.putfield 33, 3) := by decide +kernel
theorem d_X7_copy_64 : decode c_X7_copy 64 = .ok (.aload_n 0, 1) := by decide +kernel
theorem d_X7_copy_65 : decode c_X7_copy 65 = .ok (.aload_n 1, 1) := by decide +kernel
theorem d_X7_copy_66 : decode c_X7_copy 66 = .ok (.getfield 36, 3) := by decide +kernel
theorem d_X7_copy_69 : decode c_X7_copy 69 = .ok (.putfield 36, 3) := by decide +kernel
theorem d_X7_copy_72 : decode c_X7_copy 72 = .ok (.aload_n 0, 1) := by decide +kernel
theorem d_X7_copy_73 : decode c_X7_copy 73 = .ok (.aload_n 1, 1) := by decide +kernel
theorem d_X7_copy_74 : decode c_X7_copy 74 = .ok (.getfield 39, 3) := by decide +kernel
theorem d_X7_copy_77 : decode c_X7_copy 77 = .ok (.putfield 39, 3) := by decide +kernel
theorem d_X7_copy_80 : decode c_X7_copy 80 = .ok (.aload_n 0, 1) := by decide +kernel
theorem d_X7_copy_81 : decode c_X7_copy 81 = .ok (.aload_n 1, 1) := by decide +kernel
theorem d_X7_copy_82 : decode c_X7_copy 82 = .ok (.getfield 42, 3) := by decide +kernel
theorem d_X7_copy_85 : decode c_X7_copy 85 = .ok (.putfield 42, 3) := by decide +kernel
theorem d_X7_copy_88 : decode c_X7_copy 88 = .ok (.aload_n 0, 1) := by decide +kernel
theorem d_X7_copy_89 : decode c_X7_copy 89 = .ok (.aload_n 1, 1) := by decide +kernel
theorem d_X7_copy_90 : decode c_X7_copy 90 = .ok (.getfield 45, 3) := by decide +kernel
theorem d_X7_copy_93 : decode c_X7_copy 93 = .ok (.putfield 45, 3) := by decide +kernel
theorem d_X7_copy_96 : decode c_X7_copy 96 = .ok (.aload_n 0, 1) := by decide +kernel
theorem d_X7_copy_97 : decode c_X7_copy 97 = .ok (.aload_n 1, 1) := by decide +kernel
theorem d_X7_copy_98 : decode c_X7_copy 98 = .ok (.getfield 48, 3) := by decide +kernel
theorem d_X7_copy_101 : decode c_X7_copy 101 = .ok (.putfield 48, 3) := by decide +kernel
theorem d_X7_copy_104 : decode c_X7_copy 104 = .ok (.return_, 1) := by decide +kernel
def kp_X7_copy (k : Nat) (k2 : Nat) (a j : Nat) : Prop := a ≠ k
def f_X7_copy (v : tV) (k : Nat) (k2 : Nat) : tV := bnd (v k2 0) fun x1 => bnd (up2 v k 0 x1) fun v2 => bnd (v2 k2 1) fun x5 => bnd (up2 v2 k 1 x5) fun v6 => bnd (v6 k2 2) fun x9 => bnd (up2 v6 k 2 x9) fun v10 => bnd (v10 k2 3) fun x13 => bnd (up2 v10 k 3 x13) fun v14 => bnd (v14 k2 4) fun x17 => bnd (up2 v14 k 4 x17) fun v18 => bnd (v18 k2 5) fun x21 => bnd (up2 v18 k 5 x21) fun v22 => bnd (v22 k2 6) fun x25 => bnd (up2 v22 k 6 x25) fun v26 => bnd (v26 k2 7) fun x29 => bnd (up2 v26 k 7 x29) fun v30 => bnd (v30 k2 8) fun x33 => bnd (up2 v30 k 8 x33) fun v34 => bnd (v34 k2 9) fun x37 => bnd (up2 v34 k 9 x37) fun v38 => bnd (v38 k2 10) fun x41 => bnd (up2 v38 k 10 x41) fun v42 => bnd (v42 k2 11) fun x45 => bnd (up2 v42 k 11 x45) fun v46 => bnd (v46 k2 12) fun x49 => bnd (up2 v46 k 12 x49) fun v50 => v50
set_option maxHeartbeats 4000000 in
set_option maxRecDepth 100000 in
theorem ct_X7_copy (l : Launch) (D : va_G) (dA : Nat → ClassId) (ad : Nat → Nat) (v : tV) (hI : Inv v) (k : Nat) (k2 : Nat) (ka : 120 ≤ k) (kb : k < 160) (k2a : 100 ≤ k2) (k2b : k2 < 160) : Met l m_X7_copy [.code m_X7_copy c_X7_copy 2 none] ({ frames := 1, cells := 0, slots := 0, locals := 40 } : Room) (tP D dA ad v [.ref (ad k), .ref (ad k2)]) (tQv D dA ad (fun v' => (Inv v' ∧ Kp (kp_X7_copy k k2) v v') ∧ v' = f_X7_copy v k k2)) 0 0 (tA ad) := by
  refine tMet (by decide) (Nat.le_of_ble_eq_true rfl) ?_
  intro p e s m below meth c ls X hr hlocks hw hl
  have X : CX p s m ([.ref (ad k), .ref (ad k2)] : List Value).toArray c c_X7_copy N_X7 2 D dA := X
  have hx := X.1
  have hb := X.2.1
  have hS : va_S (tA ad) s.heap s.heap [] := va_S.rf
  have hl : lv_has ls 2 [(0, .ref (ad k)), (1, .ref (ad k2))] := hl
  obtain ⟨RR, eRR⟩ : ∃ z, f_X7_copy v k k2 = z := ⟨_, rfl⟩
  have hK0 : Kp (kp_X7_copy k k2) v v := Kp.rf _ v
  have hG := eRR
  unfold f_X7_copy at hG
  refine lv_aload_n hx hb d_X7_copy_0 rfl (lv_at hl 0 rfl) ?_
  refine lv_aload_n hx hb d_X7_copy_1 rfl (lv_at hl 1 rfl) ?_
  refine r_geti X hw FL_X7_9 (KD_ship (by omega) (by omega)) (SH_ship (by omega) (by omega)) d_X7_copy_2 ?_
  refine lv_topi (fun x1 ex1 => ?_)
  have hG := bnd_use ex1 hG
  refine r_put X hw hS FP_X7_9 (KD_ship (by omega) (by omega)) (SH_ship (by omega) (by omega)) ⟨rfl, rfl⟩ d_X7_copy_5 (fun H locs hw hS => ?_)
  obtain ⟨v2, ev2⟩ : ∃ z, z = up2 v k 0 x1 := ⟨_, rfl⟩
  rw [← ev2] at hw
  have hG := bnd_use ev2 hG
  have hI3 : Inv v2 := by rw [ev2]; exact Inv.put0 hI _ (RG_ship (by omega) (by omega))
  have hK4 : Kp (kp_X7_copy k k2) v v2 := by rw [ev2]; exact Kp.put hK0 _ (by unfold kp_X7_copy; omega)
  refine lv_aload_n hx hb d_X7_copy_8 rfl (lv_at hl 0 rfl) ?_
  refine lv_aload_n hx hb d_X7_copy_9 rfl (lv_at hl 1 rfl) ?_
  refine r_geti X hw FL_X7_15 (KD_ship (by omega) (by omega)) (SH_ship (by omega) (by omega)) d_X7_copy_10 ?_
  refine lv_topi (fun x5 ex5 => ?_)
  have hG := bnd_use ex5 hG
  refine r_put X hw hS FP_X7_15 (KD_ship (by omega) (by omega)) (SH_ship (by omega) (by omega)) ⟨rfl, rfl⟩ d_X7_copy_13 (fun H locs hw hS => ?_)
  obtain ⟨v6, ev6⟩ : ∃ z, z = up2 v2 k 1 x5 := ⟨_, rfl⟩
  rw [← ev6] at hw
  have hG := bnd_use ev6 hG
  have hI7 : Inv v6 := by rw [ev6]; exact Inv.put0 hI3 _ (RG_ship (by omega) (by omega))
  have hK8 : Kp (kp_X7_copy k k2) v v6 := by rw [ev6]; exact Kp.put hK4 _ (by unfold kp_X7_copy; omega)
  refine lv_aload_n hx hb d_X7_copy_16 rfl (lv_at hl 0 rfl) ?_
  refine lv_aload_n hx hb d_X7_copy_17 rfl (lv_at hl 1 rfl) ?_
  refine r_geti X hw FL_X7_18 (KD_ship (by omega) (by omega)) (SH_ship (by omega) (by omega)) d_X7_copy_18 ?_
  refine lv_topi (fun x9 ex9 => ?_)
  have hG := bnd_use ex9 hG
  refine r_put X hw hS FP_X7_18 (KD_ship (by omega) (by omega)) (SH_ship (by omega) (by omega)) ⟨rfl, rfl⟩ d_X7_copy_21 (fun H locs hw hS => ?_)
  obtain ⟨v10, ev10⟩ : ∃ z, z = up2 v6 k 2 x9 := ⟨_, rfl⟩
  rw [← ev10] at hw
  have hG := bnd_use ev10 hG
  have hI11 : Inv v10 := by rw [ev10]; exact Inv.put0 hI7 _ (RG_ship (by omega) (by omega))
  have hK12 : Kp (kp_X7_copy k k2) v v10 := by rw [ev10]; exact Kp.put hK8 _ (by unfold kp_X7_copy; omega)
  refine lv_aload_n hx hb d_X7_copy_24 rfl (lv_at hl 0 rfl) ?_
  refine lv_aload_n hx hb d_X7_copy_25 rfl (lv_at hl 1 rfl) ?_
  refine r_geti X hw FL_X7_21 (KD_ship (by omega) (by omega)) (SH_ship (by omega) (by omega)) d_X7_copy_26 ?_
  refine lv_topi (fun x13 ex13 => ?_)
  have hG := bnd_use ex13 hG
  refine r_put X hw hS FP_X7_21 (KD_ship (by omega) (by omega)) (SH_ship (by omega) (by omega)) ⟨rfl, rfl⟩ d_X7_copy_29 (fun H locs hw hS => ?_)
  obtain ⟨v14, ev14⟩ : ∃ z, z = up2 v10 k 3 x13 := ⟨_, rfl⟩
  rw [← ev14] at hw
  have hG := bnd_use ev14 hG
  have hI15 : Inv v14 := by rw [ev14]; exact Inv.put0 hI11 _ (RG_ship (by omega) (by omega))
  have hK16 : Kp (kp_X7_copy k k2) v v14 := by rw [ev14]; exact Kp.put hK12 _ (by unfold kp_X7_copy; omega)
  refine lv_aload_n hx hb d_X7_copy_32 rfl (lv_at hl 0 rfl) ?_
  refine lv_aload_n hx hb d_X7_copy_33 rfl (lv_at hl 1 rfl) ?_
  refine r_geti X hw FL_X7_24 (KD_ship (by omega) (by omega)) (SH_ship (by omega) (by omega)) d_X7_copy_34 ?_
  refine lv_topi (fun x17 ex17 => ?_)
  have hG := bnd_use ex17 hG
  refine r_put X hw hS FP_X7_24 (KD_ship (by omega) (by omega)) (SH_ship (by omega) (by omega)) ⟨rfl, rfl⟩ d_X7_copy_37 (fun H locs hw hS => ?_)
  obtain ⟨v18, ev18⟩ : ∃ z, z = up2 v14 k 4 x17 := ⟨_, rfl⟩
  rw [← ev18] at hw
  have hG := bnd_use ev18 hG
  have hI19 : Inv v18 := by rw [ev18]; exact Inv.put0 hI15 _ (RG_ship (by omega) (by omega))
  have hK20 : Kp (kp_X7_copy k k2) v v18 := by rw [ev18]; exact Kp.put hK16 _ (by unfold kp_X7_copy; omega)
  refine lv_aload_n hx hb d_X7_copy_40 rfl (lv_at hl 0 rfl) ?_
  refine lv_aload_n hx hb d_X7_copy_41 rfl (lv_at hl 1 rfl) ?_
  refine r_geti X hw FL_X7_27 (KD_ship (by omega) (by omega)) (SH_ship (by omega) (by omega)) d_X7_copy_42 ?_
  refine lv_topi (fun x21 ex21 => ?_)
  have hG := bnd_use ex21 hG
  refine r_put X hw hS FP_X7_27 (KD_ship (by omega) (by omega)) (SH_ship (by omega) (by omega)) ⟨rfl, rfl⟩ d_X7_copy_45 (fun H locs hw hS => ?_)
  obtain ⟨v22, ev22⟩ : ∃ z, z = up2 v18 k 5 x21 := ⟨_, rfl⟩
  rw [← ev22] at hw
  have hG := bnd_use ev22 hG
  have hI23 : Inv v22 := by rw [ev22]; exact Inv.put0 hI19 _ (RG_ship (by omega) (by omega))
  have hK24 : Kp (kp_X7_copy k k2) v v22 := by rw [ev22]; exact Kp.put hK20 _ (by unfold kp_X7_copy; omega)
  refine lv_aload_n hx hb d_X7_copy_48 rfl (lv_at hl 0 rfl) ?_
  refine lv_aload_n hx hb d_X7_copy_49 rfl (lv_at hl 1 rfl) ?_
  refine r_geti X hw FL_X7_30 (KD_ship (by omega) (by omega)) (SH_ship (by omega) (by omega)) d_X7_copy_50 ?_
  refine lv_topi (fun x25 ex25 => ?_)
  have hG := bnd_use ex25 hG
  refine r_put X hw hS FP_X7_30 (KD_ship (by omega) (by omega)) (SH_ship (by omega) (by omega)) ⟨rfl, rfl⟩ d_X7_copy_53 (fun H locs hw hS => ?_)
  obtain ⟨v26, ev26⟩ : ∃ z, z = up2 v22 k 6 x25 := ⟨_, rfl⟩
  rw [← ev26] at hw
  have hG := bnd_use ev26 hG
  have hI27 : Inv v26 := by rw [ev26]; exact Inv.put0 hI23 _ (RG_ship (by omega) (by omega))
  have hK28 : Kp (kp_X7_copy k k2) v v26 := by rw [ev26]; exact Kp.put hK24 _ (by unfold kp_X7_copy; omega)
  refine lv_aload_n hx hb d_X7_copy_56 rfl (lv_at hl 0 rfl) ?_
  refine lv_aload_n hx hb d_X7_copy_57 rfl (lv_at hl 1 rfl) ?_
  refine r_geti X hw FL_X7_33 (KD_ship (by omega) (by omega)) (SH_ship (by omega) (by omega)) d_X7_copy_58 ?_
  refine lv_topi (fun x29 ex29 => ?_)
  have hG := bnd_use ex29 hG
  refine r_put X hw hS FP_X7_33 (KD_ship (by omega) (by omega)) (SH_ship (by omega) (by omega)) ⟨rfl, rfl⟩ d_X7_copy_61 (fun H locs hw hS => ?_)
  obtain ⟨v30, ev30⟩ : ∃ z, z = up2 v26 k 7 x29 := ⟨_, rfl⟩
  rw [← ev30] at hw
  have hG := bnd_use ev30 hG
  have hI31 : Inv v30 := by rw [ev30]; exact Inv.put0 hI27 _ (RG_ship (by omega) (by omega))
  have hK32 : Kp (kp_X7_copy k k2) v v30 := by rw [ev30]; exact Kp.put hK28 _ (by unfold kp_X7_copy; omega)
  refine lv_aload_n hx hb d_X7_copy_64 rfl (lv_at hl 0 rfl) ?_
  refine lv_aload_n hx hb d_X7_copy_65 rfl (lv_at hl 1 rfl) ?_
  refine r_geti X hw FL_X7_36 (KD_ship (by omega) (by omega)) (SH_ship (by omega) (by omega)) d_X7_copy_66 ?_
  refine lv_topi (fun x33 ex33 => ?_)
  have hG := bnd_use ex33 hG
  refine r_put X hw hS FP_X7_36 (KD_ship (by omega) (by omega)) (SH_ship (by omega) (by omega)) ⟨rfl, rfl⟩ d_X7_copy_69 (fun H locs hw hS => ?_)
  obtain ⟨v34, ev34⟩ : ∃ z, z = up2 v30 k 8 x33 := ⟨_, rfl⟩
  rw [← ev34] at hw
  have hG := bnd_use ev34 hG
  have hI35 : Inv v34 := by rw [ev34]; exact Inv.put0 hI31 _ (RG_ship (by omega) (by omega))
  have hK36 : Kp (kp_X7_copy k k2) v v34 := by rw [ev34]; exact Kp.put hK32 _ (by unfold kp_X7_copy; omega)
  refine lv_aload_n hx hb d_X7_copy_72 rfl (lv_at hl 0 rfl) ?_
  refine lv_aload_n hx hb d_X7_copy_73 rfl (lv_at hl 1 rfl) ?_
  refine r_geti X hw FL_X7_39 (KD_ship (by omega) (by omega)) (SH_ship (by omega) (by omega)) d_X7_copy_74 ?_
  refine lv_topi (fun x37 ex37 => ?_)
  have hG := bnd_use ex37 hG
  refine r_put X hw hS FP_X7_39 (KD_ship (by omega) (by omega)) (SH_ship (by omega) (by omega)) ⟨rfl, rfl⟩ d_X7_copy_77 (fun H locs hw hS => ?_)
  obtain ⟨v38, ev38⟩ : ∃ z, z = up2 v34 k 9 x37 := ⟨_, rfl⟩
  rw [← ev38] at hw
  have hG := bnd_use ev38 hG
  have hI39 : Inv v38 := by rw [ev38]; exact Inv.put0 hI35 _ (RG_ship (by omega) (by omega))
  have hK40 : Kp (kp_X7_copy k k2) v v38 := by rw [ev38]; exact Kp.put hK36 _ (by unfold kp_X7_copy; omega)
  refine lv_aload_n hx hb d_X7_copy_80 rfl (lv_at hl 0 rfl) ?_
  refine lv_aload_n hx hb d_X7_copy_81 rfl (lv_at hl 1 rfl) ?_
  refine r_geti X hw FL_X7_42 (KD_ship (by omega) (by omega)) (SH_ship (by omega) (by omega)) d_X7_copy_82 ?_
  refine lv_topi (fun x41 ex41 => ?_)
  have hG := bnd_use ex41 hG
  refine r_put X hw hS FP_X7_42 (KD_ship (by omega) (by omega)) (SH_ship (by omega) (by omega)) ⟨rfl, rfl⟩ d_X7_copy_85 (fun H locs hw hS => ?_)
  obtain ⟨v42, ev42⟩ : ∃ z, z = up2 v38 k 10 x41 := ⟨_, rfl⟩
  rw [← ev42] at hw
  have hG := bnd_use ev42 hG
  have hI43 : Inv v42 := by rw [ev42]; exact Inv.put0 hI39 _ (RG_ship (by omega) (by omega))
  have hK44 : Kp (kp_X7_copy k k2) v v42 := by rw [ev42]; exact Kp.put hK40 _ (by unfold kp_X7_copy; omega)
  refine lv_aload_n hx hb d_X7_copy_88 rfl (lv_at hl 0 rfl) ?_
  refine lv_aload_n hx hb d_X7_copy_89 rfl (lv_at hl 1 rfl) ?_
  refine r_geti X hw FL_X7_45 (KD_ship (by omega) (by omega)) (SH_ship (by omega) (by omega)) d_X7_copy_90 ?_
  refine lv_topi (fun x45 ex45 => ?_)
  have hG := bnd_use ex45 hG
  refine r_put X hw hS FP_X7_45 (KD_ship (by omega) (by omega)) (SH_ship (by omega) (by omega)) ⟨rfl, rfl⟩ d_X7_copy_93 (fun H locs hw hS => ?_)
  obtain ⟨v46, ev46⟩ : ∃ z, z = up2 v42 k 11 x45 := ⟨_, rfl⟩
  rw [← ev46] at hw
  have hG := bnd_use ev46 hG
  have hI47 : Inv v46 := by rw [ev46]; exact Inv.put0 hI43 _ (RG_ship (by omega) (by omega))
  have hK48 : Kp (kp_X7_copy k k2) v v46 := by rw [ev46]; exact Kp.put hK44 _ (by unfold kp_X7_copy; omega)
  refine lv_aload_n hx hb d_X7_copy_96 rfl (lv_at hl 0 rfl) ?_
  refine lv_aload_n hx hb d_X7_copy_97 rfl (lv_at hl 1 rfl) ?_
  refine r_geti X hw FL_X7_48 (KD_ship (by omega) (by omega)) (SH_ship (by omega) (by omega)) d_X7_copy_98 ?_
  refine lv_topi (fun x49 ex49 => ?_)
  have hG := bnd_use ex49 hG
  refine r_put X hw hS FP_X7_48 (KD_ship (by omega) (by omega)) (SH_ship (by omega) (by omega)) ⟨rfl, rfl⟩ d_X7_copy_101 (fun H locs hw hS => ?_)
  obtain ⟨v50, ev50⟩ : ∃ z, z = up2 v46 k 12 x49 := ⟨_, rfl⟩
  rw [← ev50] at hw
  have hG := bnd_use ev50 hG
  have hI51 : Inv v50 := by rw [ev50]; exact Inv.put0 hI47 _ (RG_ship (by omega) (by omega))
  have hK52 : Kp (kp_X7_copy k k2) v v50 := by rw [ev50]; exact Kp.put hK48 _ (by unfold kp_X7_copy; omega)
  exact r_vret X hr hlocks hw hS ⟨⟨hI51, hK52⟩, hG.trans eRR.symm⟩ d_X7_copy_104
theorem d_X6_sail_0 : decode c_X6_sail 0 = .ok (.iconst 0, 1) := by decide +kernel
theorem d_X6_sail_1 : decode c_X6_sail 1 = .ok (.istore_n 2, 1) := by decide +kernel
theorem d_X6_sail_2 : decode c_X6_sail 2 = .ok (.iload_n 2, 1) := by decide +kernel
theorem d_X6_sail_3 : decode c_X6_sail 3 = .ok (.aload_n 0, 1) := by decide +kernel
theorem d_X6_sail_4 : decode c_X6_sail 4 = .ok (.getfield 29, 3) := by decide +kernel
theorem d_X6_sail_7 : decode c_X6_sail 7 = .ok (.if_icmp .ge 23, 3) := by decide +kernel
theorem d_X6_sail_10 : decode c_X6_sail 10 = .ok (.aload_n 0, 1) := by decide +kernel
theorem d_X6_sail_11 : decode c_X6_sail 11 = .ok (.getfield 11, 3) := by decide +kernel
theorem d_X6_sail_14 : decode c_X6_sail 14 = .ok (.iload_n 2, 1) := by decide +kernel
theorem d_X6_sail_15 : decode c_X6_sail 15 = .ok (.aaload, 1) := by decide +kernel
theorem d_X6_sail_16 : decode c_X6_sail 16 = .ok (.iload_n 1, 1) := by decide +kernel
theorem d_X6_sail_17 : decode c_X6_sail 17 = .ok (.aload_n 0, 1) := by decide +kernel
theorem d_X6_sail_18 : decode c_X6_sail 18 = .ok (.getfield 36, 3) := by decide +kernel
theorem d_X6_sail_21 : decode c_X6_sail 21 = .ok (.invokevirtual 59, 3) := by decide +kernel
theorem d_X6_sail_24 : decode c_X6_sail 24 = .ok (.iinc 2 1, 3) := by decide +kernel
theorem d_X6_sail_27 : decode c_X6_sail 27 = .ok (.goto (-25), 3) := by decide +kernel
theorem d_X6_sail_30 : decode c_X6_sail 30 = .ok (.return_, 1) := by decide +kernel
def kp_X6_sail_1 (wind : Int32) (a j : Nat) : Prop := (a < 100 ∨ 120 ≤ a ∨ j ≤ 4)
def b_X6_sail_1_2 (wind : Int32) (rc2 : Int32 → tV → tV) (y2 : Int32) (v1 : tV) : tV := bnd (v1 1 3) fun x1 => (if x1 ≤ y2 then v1 else bnd (100 + y2.toNatClampNeg) fun kc9 => bnd (v1 1 5) fun x10 => bnd (f_X7_sail v1 kc9 wind x10) fun v12 => bnd (y2 + 1) fun x17 => rc2 x17 v12)
def g_X6_sail_1_2 (wind : Int32) : Nat → Int32 → tV → tV
  | 0, _, v1 => v1
  | n + 1, y2, v1 => b_X6_sail_1_2 wind (g_X6_sail_1_2 wind n) y2 v1
def f_X6_sail_1 (v : tV) (wind : Int32) : tV := g_X6_sail_1_2 wind 100000 0 v
set_option maxHeartbeats 4000000 in
set_option maxRecDepth 100000 in
theorem ct_X6_sail_1 (l : Launch) (D : va_G) (dA : Nat → ClassId) (ad : Nat → Nat) (v : tV) (hI : Inv v) (wind : Int32) : Met l m_X6_sail [.code m_X6_sail c_X6_sail 3 none] ({ frames := 2, cells := 0, slots := 0, locals := 62 } : Room) (tP D dA ad v [.ref (ad 1), .int wind]) (tQv D dA ad (fun v' => (Inv v' ∧ Kp (kp_X6_sail_1 wind) v v') ∧ v' = f_X6_sail_1 v wind)) 0 0 (tA ad) := by
  refine tMet (by decide) (Nat.le_of_ble_eq_true rfl) ?_
  intro p e s m below meth c ls X hr hlocks hw hl
  have X : CX p s m ([.ref (ad 1), .int wind] : List Value).toArray c c_X6_sail N_X6 3 D dA := X
  have hx := X.1
  have hb := X.2.1
  have hS : va_S (tA ad) s.heap s.heap [] := va_S.rf
  have hl : lv_has ls 3 [(0, .ref (ad 1)), (1, .int wind)] := hl
  obtain ⟨RR, eRR⟩ : ∃ z, f_X6_sail_1 v wind = z := ⟨_, rfl⟩
  have LL : ∀ n : Nat, (∀ (y2 : Int32) (v1 : tV) (H : Heap) (locs : List Loc) (ls : Array Slot), (20 - y2.toInt).toNat < n → Rg y2 0 20 → Inv v1 → Kp (kp_X6_sail_1 wind) v v1 → g_X6_sail_1_2 wind n y2 v1 = RR → tI D dA ad v1 H → va_S (tA ad) s.heap H locs → lv_has ls 3 [(0, .ref (ad 1)), (1, .int wind), (2, .int y2)] → W p l e ({ frames := 2, cells := 0, slots := 0, locals := 62 } : Room) s m ([.ref (ad 1), .int wind] : List Value).toArray below meth c H locs 0 0 (MQ below (tQv D dA ad (fun v' => (Inv v' ∧ Kp (kp_X6_sail_1 wind) v v') ∧ v' = f_X6_sail_1 v wind)) ([.ref (ad 1), .int wind] : List Value).toArray s 0 0 (tA ad)) (F0 m 2 ls [])) := by
    intro n
    induction n with
    | zero => intros; omega
    | succ n ih =>
      have ih0 := ih
      intro y2 v1 H locs ls hmu r_y2 hI1 hK1 hG hw hS hl
      have hG : b_X6_sail_1_2 wind (g_X6_sail_1_2 wind n) y2 v1 = RR := hG
      unfold b_X6_sail_1_2 at hG
      refine lv_iload_n hx hb d_X6_sail_2 rfl (lv_at hl 2 rfl) ?_
      refine lv_aload_n hx hb d_X6_sail_3 rfl (lv_at hl 0 rfl) ?_
      refine r_geti X hw FL_X6_29 (rfl : KD 1 = _) rfl d_X6_sail_4 ?_
      refine lv_topi (fun x1 ex1 => ?_)
      have hG := bnd_use ex1 hG
      have r2 : Rg x1 0 20 := by rw [ex1]; exact hI1 _ _ _ _ rfl
      have hm3 : v1 1 3 = x1 := ex1.symm
      refine lv_icmp_ge (tgt := 30) hx hb d_X6_sail_7 (by decide) (fun c4 => ?_) (fun c4 => ?_)
      · have f5 := i_le c4
        have hG := g_pos c4 hG
        exact r_vret X hr hlocks hw hS ⟨⟨hI1, hK1⟩, hG.trans eRR.symm⟩ d_X6_sail_30
      · have f6 := i_nle c4
        have r7 : Rg y2 0 19 := by obtain ⟨a1, a2⟩ := r_y2; obtain ⟨b1, b2⟩ := r2; have f := i_nle c4; exact ⟨by omega, by omega⟩
        have r8 : Rg x1 1 20 := by obtain ⟨a1, a2⟩ := r_y2; obtain ⟨b1, b2⟩ := r2; have f := i_nle c4; exact ⟨by omega, by omega⟩
        have hG := g_neg c4 hG
        refine lv_aload_n hx hb d_X6_sail_10 rfl (lv_at hl 0 rfl) ?_
        refine r_getr (r := 10) X hw FL_X6_11 (rfl : KD 1 = _) rfl d_X6_sail_11 ?_
        refine lv_iload_n hx hb d_X6_sail_14 rfl (lv_at hl 2 rfl) ?_
        refine r_aald X hw (rfl : KD 10 = _) (Or.inl rfl) (Rg.vp (b := 19) r7 (by decide)) rfl d_X6_sail_15 ?_
        refine r_nm (fun kc9 ekc9 => ?_)
        have hG := bnd_use ekc9 hG
        have kc9a : 100 ≤ kc9 := by omega
        have kc9b : kc9 ≤ 119 := by have := Rg.nat r7; omega
        refine lv_iload_n hx hb d_X6_sail_16 rfl (lv_at hl 1 rfl) ?_
        refine lv_aload_n hx hb d_X6_sail_17 rfl (lv_at hl 0 rfl) ?_
        refine r_geti X hw FL_X6_36 (rfl : KD 1 = _) rfl d_X6_sail_18 ?_
        refine lv_topi (fun x10 ex10 => ?_)
        have hG := bnd_use ex10 hG
        refine r_cv (r_runV (n := 2) (As := [.int wind, .int x10]) (rest := []) X hw (ct_X7_sail l D dA ad v1 hI1 kc9 wind x10 (by omega) (by omega)) gc_X6_59 (KD_ship (by omega) (by omega)) (by decide) rfl (by decide +kernel) ⟨rfl, rfl, Nat.le_of_ble_eq_true rfl, Nat.le_of_ble_eq_true rfl⟩ rfl hl.1 rfl (Nat.le_of_ble_eq_true rfl) ⟨Nat.zero_le _, Nat.zero_le _⟩ d_X6_sail_21) hS (fun v12 H locs hp11 hw hS => ?_)
        obtain ⟨hp11, hE13⟩ := hp11
        obtain ⟨hI14, hK15⟩ := hp11
        have hK16 : Kp (kp_X6_sail_1 wind) v v12 := Kp.tr hK1 hK15 (by have z0 : (0 : Int32).toInt = 0 := rfl; intro a j; unfold kp_X6_sail_1 kp_X7_sail; omega)
        have hG := bnd_use hE13 hG
        obtain ⟨x17, ex17⟩ : ∃ y : Int32, y = y2 + 1 := ⟨_, rfl⟩
        have hG := bnd_use ex17 hG
        refine lv_iinc (v := x17) (lv' := [(2, .int x17), (0, .ref (ad 1)), (1, .int wind)]) hx hb d_X6_sail_24 hl (k := 2) rfl (by rw [ex17]; rfl) (by decide) rfl (fun ls hl => ?_)
        have r18 : Rg x17 1 20 := rg_add ex17 r7 (⟨by decide, by decide⟩ : Rg 1 1 1) (by decide) (by decide)
        have s19 : x17.toInt = y2.toInt + (1 : Int32).toInt := by rw [ex17]; exact i_add (by obtain ⟨_, _⟩ := r7; obtain ⟨_, _⟩ := (⟨by decide, by decide⟩ : Rg 1 1 1); omega) (by obtain ⟨_, _⟩ := r7; obtain ⟨_, _⟩ := (⟨by decide, by decide⟩ : Rg 1 1 1); omega)
        have s19l : (1 : Int32).toInt = 1 := rfl
        refine lv_goto (tgt := 2) hx hb d_X6_sail_27 (by decide) ?_
        exact ih0 x17 v12 _ _ _ (by have := s19; obtain ⟨_, _⟩ := r18; omega) (rg_w r18 (by decide) (by decide)) hI14 hK16 hG hw hS (lv_sub hl [1, 2, 0] rfl)
  have ih0 := LL 100000
  have hK0 : Kp (kp_X6_sail_1 wind) v v := Kp.rf _ v
  have hG := eRR
  unfold f_X6_sail_1 at hG
  refine lv_iconst (v := 0) hx hb d_X6_sail_0 (by decide) ?_
  refine lv_istore_n (lv' := [(2, .int 0), (0, .ref (ad 1)), (1, .int wind)]) hx hb d_X6_sail_1 rfl hl (by decide) rfl (fun ls hl => ?_)
  exact ih0 0 v _ _ _ (by obtain ⟨_, _⟩ := (⟨by decide, by decide⟩ : Rg 0 0 0); omega) (rg_w (⟨by decide, by decide⟩ : Rg 0 0 0) (by decide) (by decide)) hI hK0 hG hw hS (lv_sub hl [1, 2, 0] rfl)
theorem d_X6_bestBuyer_0 : decode c_X6_bestBuyer 0 = .ok (.iconst (-1), 1) := by decide +kernel
theorem d_X6_bestBuyer_1 : decode c_X6_bestBuyer 1 = .ok (.istore_n 2, 1) := by decide +kernel
theorem d_X6_bestBuyer_2 : decode c_X6_bestBuyer 2 = .ok (.iconst 0, 1) := by decide +kernel
theorem d_X6_bestBuyer_3 : decode c_X6_bestBuyer 3 = .ok (.istore_n 3, 1) := by decide +kernel
theorem d_X6_bestBuyer_4 : decode c_X6_bestBuyer 4 = .ok (.iload_n 3, 1) := by decide +kernel
theorem d_X6_bestBuyer_5 : decode c_X6_bestBuyer 5 = .ok (.aload_n 0, 1) := by decide +kernel
theorem d_X6_bestBuyer_6 : decode c_X6_bestBuyer 6 = .ok (.getfield 33, 3) := by decide +kernel
theorem d_X6_bestBuyer_9 : decode c_X6_bestBuyer 9 = .ok (.if_icmp .ge 62, 3) := by decide +kernel
theorem d_X6_bestBuyer_12 : decode c_X6_bestBuyer 12 = .ok (.iload_n 2, 1) := by decide +kernel
theorem d_X6_bestBuyer_13 : decode c_X6_bestBuyer 13 = .ok (.iconst (-1), 1) := by decide +kernel
theorem d_X6_bestBuyer_14 : decode c_X6_bestBuyer 14 = .ok (.if_icmp .eq 24, 3) := by decide +kernel
theorem d_X6_bestBuyer_17 : decode c_X6_bestBuyer 17 = .ok (.aload_n 0, 1) := by decide +kernel
theorem d_X6_bestBuyer_18 : decode c_X6_bestBuyer 18 = .ok (.getfield 19, 3) := by decide +kernel
theorem d_X6_bestBuyer_21 : decode c_X6_bestBuyer 21 = .ok (.iload_n 3, 1) := by decide +kernel
theorem d_X6_bestBuyer_22 : decode c_X6_bestBuyer 22 = .ok (.aaload, 1) := by decide +kernel
theorem d_X6_bestBuyer_23 : decode c_X6_bestBuyer 23 = .ok (.getfield 97, 3) := by decide +kernel
theorem d_X6_bestBuyer_26 : decode c_X6_bestBuyer 26 = .ok (.aload_n 0, 1) := by decide +kernel
theorem d_X6_bestBuyer_27 : decode c_X6_bestBuyer 27 = .ok (.getfield 19, 3) := by decide +kernel
theorem d_X6_bestBuyer_30 : decode c_X6_bestBuyer 30 = .ok (.iload_n 2, 1) := by decide +kernel
theorem d_X6_bestBuyer_31 : decode c_X6_bestBuyer 31 = .ok (.aaload, 1) := by decide +kernel
theorem d_X6_bestBuyer_32 : decode c_X6_bestBuyer 32 = .ok (.getfield 97, 3) := by decide +kernel
theorem d_X6_bestBuyer_35 : decode c_X6_bestBuyer 35 = .ok (.if_icmp .le 7, 3) := by decide +kernel
theorem d_X6_bestBuyer_38 : decode c_X6_bestBuyer 38 = .ok (.iconst 1, 1) := by decide +kernel
theorem d_X6_bestBuyer_39 : decode c_X6_bestBuyer 39 = .ok (.goto 4, 3) := by decide +kernel
theorem d_X6_bestBuyer_42 : decode c_X6_bestBuyer 42 = .ok (.iconst 0, 1) := by decide +kernel
theorem d_X6_bestBuyer_43 : decode c_X6_bestBuyer 43 = .ok (.istore 4, 2) := by decide +kernel
theorem d_X6_bestBuyer_45 : decode c_X6_bestBuyer 45 = .ok (.iload 4, 2) := by decide +kernel
theorem d_X6_bestBuyer_47 : decode c_X6_bestBuyer 47 = .ok (.ifCond .eq 18, 3) := by decide +kernel
theorem d_X6_bestBuyer_50 : decode c_X6_bestBuyer 50 = .ok (.aload_n 0, 1) := by decide +kernel
theorem d_X6_bestBuyer_51 : decode c_X6_bestBuyer 51 = .ok (.getfield 19, 3) := by decide +kernel
theorem d_X6_bestBuyer_54 : decode c_X6_bestBuyer 54 = .ok (.iload_n 3, 1) := by decide +kernel
theorem d_X6_bestBuyer_55 : decode c_X6_bestBuyer 55 = .ok (.aaload, 1) := by decide +kernel
theorem d_X6_bestBuyer_56 : decode c_X6_bestBuyer 56 = .ok (.aload_n 1, 1) := by decide +kernel
theorem d_X6_bestBuyer_57 : decode c_X6_bestBuyer 57 = .ok (.invokevirtual 100, 3) := by decide +kernel
theorem d_X6_bestBuyer_60 : decode c_X6_bestBuyer 60 = .ok (.ifCond .eq 5, 3) := by decide +kernel
theorem d_X6_bestBuyer_63 : decode c_X6_bestBuyer 63 = .ok (.iload_n 3, 1) := by decide +kernel
theorem d_X6_bestBuyer_64 : decode c_X6_bestBuyer 64 = .ok (.istore_n 2, 1) := by decide +kernel
theorem d_X6_bestBuyer_65 : decode c_X6_bestBuyer 65 = .ok (.iinc 3 1, 3) := by decide +kernel
theorem d_X6_bestBuyer_68 : decode c_X6_bestBuyer 68 = .ok (.goto (-64), 3) := by decide +kernel
theorem d_X6_bestBuyer_71 : decode c_X6_bestBuyer 71 = .ok (.iload_n 2, 1) := by decide +kernel
theorem d_X6_bestBuyer_72 : decode c_X6_bestBuyer 72 = .ok (.ireturn, 1) := by decide +kernel
def b_X6_bestBuyer_1_4 (v : tV) (k : Nat) (rc4 : Int32 → Int32 → Int32) (y2 : Int32) (y3 : Int32) : Int32 := bnd (v 1 4) fun x1 => (if x1 ≤ y3 then y2 else (if y2 = (-1 : Int32) then bnd (200 + y3.toNatClampNeg) fun kc13 => bnd (f_X0_takes v kc13 k) fun x15 => (if x15 = (0 : Int32) then bnd (y3 + 1) fun x21 => rc4 y2 x21 else bnd (y3 + 1) fun x26 => rc4 y3 x26) else bnd (200 + y3.toNatClampNeg) fun kc31 => bnd (v kc31 3) fun x32 => bnd (200 + y2.toNatClampNeg) fun kc33 => bnd (v kc33 3) fun x34 => (if x32 ≤ x34 then bnd (y3 + 1) fun x38 => rc4 y2 x38 else bnd (200 + y3.toNatClampNeg) fun kc43 => bnd (f_X0_takes v kc43 k) fun x45 => (if x45 = (0 : Int32) then bnd (y3 + 1) fun x51 => rc4 y2 x51 else bnd (y3 + 1) fun x56 => rc4 y3 x56))))
def g_X6_bestBuyer_1_4 (v : tV) (k : Nat) : Nat → Int32 → Int32 → Int32
  | 0, _, _ => 0
  | n + 1, y2, y3 => b_X6_bestBuyer_1_4 v k (g_X6_bestBuyer_1_4 v k n) y2 y3
def f_X6_bestBuyer_1 (v : tV) (k : Nat) : Int32 := g_X6_bestBuyer_1_4 v k 100000 (-1) 0
set_option maxHeartbeats 4000000 in
set_option maxRecDepth 100000 in
theorem ct_X6_bestBuyer_1 (l : Launch) (D : va_G) (dA : Nat → ClassId) (ad : Nat → Nat) (v : tV) (hI : Inv v) (k : Nat) (ka : 100 ≤ k) (kb : k < 160) : Met l m_X6_bestBuyer [.code m_X6_bestBuyer c_X6_bestBuyer 5 (some .int)] ({ frames := 2, cells := 0, slots := 0, locals := 61 } : Room) (tP D dA ad v [.ref (ad 1), .ref (ad k)]) (tQi D dA ad (fun r v' => (v' = v ∧ Rg r (-1) 9) ∧ r = f_X6_bestBuyer_1 v k)) 0 0 (tA ad) := by
  refine tMet (by decide) (Nat.le_of_ble_eq_true rfl) ?_
  intro p e s m below meth c ls X hr hlocks hw hl
  have X : CX p s m ([.ref (ad 1), .ref (ad k)] : List Value).toArray c c_X6_bestBuyer N_X6 5 D dA := X
  have hx := X.1
  have hb := X.2.1
  have hS : va_S (tA ad) s.heap s.heap [] := va_S.rf
  have hl : lv_has ls 5 [(0, .ref (ad 1)), (1, .ref (ad k))] := hl
  obtain ⟨RR, eRR⟩ : ∃ z, f_X6_bestBuyer_1 v k = z := ⟨_, rfl⟩
  have LL : ∀ n : Nat, (∀ (y2 : Int32) (y3 : Int32)  (H : Heap) (locs : List Loc) (ls : Array Slot), (10 - y3.toInt).toNat < n → Rg y2 (-1) 9 → Rg y3 0 10 → g_X6_bestBuyer_1_4 v k n y2 y3 = RR → tI D dA ad v H → va_S (tA ad) s.heap H locs → lv_has ls 5 [(0, .ref (ad 1)), (1, .ref (ad k)), (2, .int y2), (3, .int y3)] → W p l e ({ frames := 2, cells := 0, slots := 0, locals := 61 } : Room) s m ([.ref (ad 1), .ref (ad k)] : List Value).toArray below meth c H locs 0 0 (MQ below (tQi D dA ad (fun r v' => (v' = v ∧ Rg r (-1) 9) ∧ r = f_X6_bestBuyer_1 v k)) ([.ref (ad 1), .ref (ad k)] : List Value).toArray s 0 0 (tA ad)) (F0 m 4 ls [])) := by
    intro n
    induction n with
    | zero => intros; omega
    | succ n ih =>
      have ih0 := ih
      intro y2 y3 H locs ls hmu r_y2 r_y3 hG hw hS hl
      have hG : b_X6_bestBuyer_1_4 v k (g_X6_bestBuyer_1_4 v k n) y2 y3 = RR := hG
      unfold b_X6_bestBuyer_1_4 at hG
      refine lv_iload_n hx hb d_X6_bestBuyer_4 rfl (lv_at hl 3 rfl) ?_
      refine lv_aload_n hx hb d_X6_bestBuyer_5 rfl (lv_at hl 0 rfl) ?_
      refine r_geti X hw FL_X6_33 (rfl : KD 1 = _) rfl d_X6_bestBuyer_6 ?_
      refine lv_topi (fun x1 ex1 => ?_)
      have hG := bnd_use ex1 hG
      have r2 : Rg x1 0 10 := by rw [ex1]; exact hI _ _ _ _ rfl
      have hm3 : v 1 4 = x1 := ex1.symm
      refine lv_icmp_ge (tgt := 71) hx hb d_X6_bestBuyer_9 (by decide) (fun c4 => ?_) (fun c4 => ?_)
      · have f5 := i_le c4
        have hG := g_pos c4 hG
        refine lv_iload_n hx hb d_X6_bestBuyer_71 rfl (lv_at hl 2 rfl) ?_
        exact r_iret X hr hlocks hw hS ⟨⟨rfl, r_y2⟩, hG.trans eRR.symm⟩ d_X6_bestBuyer_72
      · have f6 := i_nle c4
        have r7 : Rg y3 0 9 := by obtain ⟨a1, a2⟩ := r_y3; obtain ⟨b1, b2⟩ := r2; have f := i_nle c4; exact ⟨by omega, by omega⟩
        have r8 : Rg x1 1 10 := by obtain ⟨a1, a2⟩ := r_y3; obtain ⟨b1, b2⟩ := r2; have f := i_nle c4; exact ⟨by omega, by omega⟩
        have hG := g_neg c4 hG
        refine lv_iload_n hx hb d_X6_bestBuyer_12 rfl (lv_at hl 2 rfl) ?_
        refine lv_iconst (v := -1) hx hb d_X6_bestBuyer_13 (by decide) ?_
        refine lv_icmp_eq (tgt := 38) hx hb d_X6_bestBuyer_14 (by decide) (fun c9 => ?_) (fun c9 => ?_)
        · have f10 := i_eq c9
          have r11 : Rg y2 (-1) (-1) := by obtain ⟨a1, a2⟩ := r_y2; obtain ⟨b1, b2⟩ := (⟨by decide, by decide⟩ : Rg (-1) (-1) (-1)); have f := i_eq c9; exact ⟨by omega, by omega⟩
          have hG := g_pos c9 hG
          refine lv_iconst (v := 1) hx hb d_X6_bestBuyer_38 (by decide) ?_
          refine lv_goto (tgt := 43) hx hb d_X6_bestBuyer_39 (by decide) ?_
          refine lv_istore (lv' := [(4, .int 1), (0, .ref (ad 1)), (1, .ref (ad k)), (2, .int y2), (3, .int y3)]) hx hb d_X6_bestBuyer_43 hl (by decide) rfl (fun ls hl => ?_)
          refine lv_iload hx hb d_X6_bestBuyer_45 (lv_at hl 0 rfl) ?_
          refine lv_if_eq (tgt := 65) hx hb d_X6_bestBuyer_47 (by decide) (fun c12 => ?_) (fun c12 => ?_)
          · exact absurd c12 (by decide)
          · refine lv_aload_n hx hb d_X6_bestBuyer_50 rfl (lv_at hl 1 rfl) ?_
            refine r_getr (r := 13) X hw FL_X6_19 (rfl : KD 1 = _) rfl d_X6_bestBuyer_51 ?_
            refine lv_iload_n hx hb d_X6_bestBuyer_54 rfl (lv_at hl 4 rfl) ?_
            refine r_aald X hw (rfl : KD 13 = _) (Or.inr (Or.inl rfl)) (Rg.vp (b := 9) r7 (by decide)) rfl d_X6_bestBuyer_55 ?_
            refine r_nm (fun kc13 ekc13 => ?_)
            have hG := bnd_use ekc13 hG
            have kc13a : 200 ≤ kc13 := by omega
            have kc13b : kc13 ≤ 209 := by have := Rg.nat r7; omega
            refine lv_aload_n hx hb d_X6_bestBuyer_56 rfl (lv_at hl 2 rfl) ?_
            refine r_ci (r_runV (n := 1) (As := [.ref (ad k)]) (rest := []) X hw (ct_X0_takes l D dA ad v hI kc13 k (by omega) (by omega) (by omega) (by omega)) gc_X6_100 (KD_buyer (by omega) (by omega)) (by decide) rfl (by decide +kernel) ⟨rfl, rfl, Nat.le_of_ble_eq_true rfl, Nat.le_of_ble_eq_true rfl⟩ rfl hl.1 rfl (Nat.le_of_ble_eq_true rfl) ⟨Nat.zero_le _, Nat.zero_le _⟩ d_X6_bestBuyer_57) hS (fun x15 v16 H locs hp14 hw hS => ?_)
            obtain ⟨hp14, hE17⟩ := hp14
            obtain ⟨ev16, hp14⟩ := hp14
            rw [ev16] at hw
            have hG := bnd_use hE17 hG
            refine lv_if_eq (tgt := 65) hx hb d_X6_bestBuyer_60 (by decide) (fun c18 => ?_) (fun c18 => ?_)
            · have f19 := i_eq c18
              have r20 : Rg x15 0 0 := by obtain ⟨a1, a2⟩ := hp14; obtain ⟨b1, b2⟩ := (⟨by decide, by decide⟩ : Rg 0 0 0); have f := i_eq c18; exact ⟨by omega, by omega⟩
              have hG := g_pos c18 hG
              obtain ⟨x21, ex21⟩ : ∃ y : Int32, y = y3 + 1 := ⟨_, rfl⟩
              have hG := bnd_use ex21 hG
              refine lv_iinc (v := x21) (lv' := [(3, .int x21), (4, .int 1), (0, .ref (ad 1)), (1, .ref (ad k)), (2, .int y2)]) hx hb d_X6_bestBuyer_65 hl (k := 4) rfl (by rw [ex21]; rfl) (by decide) rfl (fun ls hl => ?_)
              have r22 : Rg x21 1 10 := rg_add ex21 r7 (⟨by decide, by decide⟩ : Rg 1 1 1) (by decide) (by decide)
              have s23 : x21.toInt = y3.toInt + (1 : Int32).toInt := by rw [ex21]; exact i_add (by obtain ⟨_, _⟩ := r7; obtain ⟨_, _⟩ := (⟨by decide, by decide⟩ : Rg 1 1 1); omega) (by obtain ⟨_, _⟩ := r7; obtain ⟨_, _⟩ := (⟨by decide, by decide⟩ : Rg 1 1 1); omega)
              have s23l : (1 : Int32).toInt = 1 := rfl
              refine lv_goto (tgt := 4) hx hb d_X6_bestBuyer_68 (by decide) ?_
              exact ih0 y2 x21 _ _ _ (by have := s23; obtain ⟨_, _⟩ := r11; obtain ⟨_, _⟩ := r22; omega) (rg_w r11 (by decide) (by decide)) (rg_w r22 (by decide) (by decide)) hG hw hS (lv_sub hl [2, 3, 4, 0] rfl)
            · have f24 := i_ne c18
              have r25 : Rg x15 1 1 := by obtain ⟨a1, a2⟩ := hp14; obtain ⟨b1, b2⟩ := (⟨by decide, by decide⟩ : Rg 0 0 0); have f := i_ne c18; exact ⟨by omega, by omega⟩
              have hG := g_neg c18 hG
              refine lv_iload_n hx hb d_X6_bestBuyer_63 rfl (lv_at hl 4 rfl) ?_
              refine lv_istore_n (lv' := [(2, .int y3), (4, .int 1), (0, .ref (ad 1)), (1, .ref (ad k)), (3, .int y3)]) hx hb d_X6_bestBuyer_64 rfl hl (by decide) rfl (fun ls hl => ?_)
              obtain ⟨x26, ex26⟩ : ∃ y : Int32, y = y3 + 1 := ⟨_, rfl⟩
              have hG := bnd_use ex26 hG
              refine lv_iinc (v := x26) (lv' := [(3, .int x26), (2, .int y3), (4, .int 1), (0, .ref (ad 1)), (1, .ref (ad k))]) hx hb d_X6_bestBuyer_65 hl (k := 4) rfl (by rw [ex26]; rfl) (by decide) rfl (fun ls hl => ?_)
              have r27 : Rg x26 1 10 := rg_add ex26 r7 (⟨by decide, by decide⟩ : Rg 1 1 1) (by decide) (by decide)
              have s28 : x26.toInt = y3.toInt + (1 : Int32).toInt := by rw [ex26]; exact i_add (by obtain ⟨_, _⟩ := r7; obtain ⟨_, _⟩ := (⟨by decide, by decide⟩ : Rg 1 1 1); omega) (by obtain ⟨_, _⟩ := r7; obtain ⟨_, _⟩ := (⟨by decide, by decide⟩ : Rg 1 1 1); omega)
              have s28l : (1 : Int32).toInt = 1 := rfl
              refine lv_goto (tgt := 4) hx hb d_X6_bestBuyer_68 (by decide) ?_
              exact ih0 y3 x26 _ _ _ (by have := s28; obtain ⟨_, _⟩ := r7; obtain ⟨_, _⟩ := r27; omega) (rg_w r7 (by decide) (by decide)) (rg_w r27 (by decide) (by decide)) hG hw hS (lv_sub hl [3, 4, 1, 0] rfl)
        · have f29 := i_ne c9
          have r30 : Rg y2 0 9 := by obtain ⟨a1, a2⟩ := r_y2; obtain ⟨b1, b2⟩ := (⟨by decide, by decide⟩ : Rg (-1) (-1) (-1)); have f := i_ne c9; exact ⟨by omega, by omega⟩
          have hG := g_neg c9 hG
          refine lv_aload_n hx hb d_X6_bestBuyer_17 rfl (lv_at hl 0 rfl) ?_
          refine r_getr (r := 13) X hw FL_X6_19 (rfl : KD 1 = _) rfl d_X6_bestBuyer_18 ?_
          refine lv_iload_n hx hb d_X6_bestBuyer_21 rfl (lv_at hl 3 rfl) ?_
          refine r_aald X hw (rfl : KD 13 = _) (Or.inr (Or.inl rfl)) (Rg.vp (b := 9) r7 (by decide)) rfl d_X6_bestBuyer_22 ?_
          refine r_nm (fun kc31 ekc31 => ?_)
          have hG := bnd_use ekc31 hG
          have kc31a : 200 ≤ kc31 := by omega
          have kc31b : kc31 ≤ 209 := by have := Rg.nat r7; omega
          refine r_geti X hw FL_X6_97 (KD_buyer (by omega) (by omega)) (SH_buyer (by omega) (by omega)) d_X6_bestBuyer_23 ?_
          refine lv_topi (fun x32 ex32 => ?_)
          have hG := bnd_use ex32 hG
          refine lv_aload_n hx hb d_X6_bestBuyer_26 rfl (lv_at hl 0 rfl) ?_
          refine r_getr (r := 13) X hw FL_X6_19 (rfl : KD 1 = _) rfl d_X6_bestBuyer_27 ?_
          refine lv_iload_n hx hb d_X6_bestBuyer_30 rfl (lv_at hl 2 rfl) ?_
          refine r_aald X hw (rfl : KD 13 = _) (Or.inr (Or.inl rfl)) (Rg.vp (b := 9) r30 (by decide)) rfl d_X6_bestBuyer_31 ?_
          refine r_nm (fun kc33 ekc33 => ?_)
          have hG := bnd_use ekc33 hG
          have kc33a : 200 ≤ kc33 := by omega
          have kc33b : kc33 ≤ 209 := by have := Rg.nat r30; omega
          refine r_geti X hw FL_X6_97 (KD_buyer (by omega) (by omega)) (SH_buyer (by omega) (by omega)) d_X6_bestBuyer_32 ?_
          refine lv_topi (fun x34 ex34 => ?_)
          have hG := bnd_use ex34 hG
          refine lv_icmp_le (tgt := 42) hx hb d_X6_bestBuyer_35 (by decide) (fun c35 => ?_) (fun c35 => ?_)
          · have f36 := i_le c35
            have hG := g_pos c35 hG
            refine lv_iconst (v := 0) hx hb d_X6_bestBuyer_42 (by decide) ?_
            refine lv_istore (lv' := [(4, .int 0), (0, .ref (ad 1)), (1, .ref (ad k)), (2, .int y2), (3, .int y3)]) hx hb d_X6_bestBuyer_43 hl (by decide) rfl (fun ls hl => ?_)
            refine lv_iload hx hb d_X6_bestBuyer_45 (lv_at hl 0 rfl) ?_
            refine lv_if_eq (tgt := 65) hx hb d_X6_bestBuyer_47 (by decide) (fun c37 => ?_) (fun c37 => ?_)
            · obtain ⟨x38, ex38⟩ : ∃ y : Int32, y = y3 + 1 := ⟨_, rfl⟩
              have hG := bnd_use ex38 hG
              refine lv_iinc (v := x38) (lv' := [(3, .int x38), (4, .int 0), (0, .ref (ad 1)), (1, .ref (ad k)), (2, .int y2)]) hx hb d_X6_bestBuyer_65 hl (k := 4) rfl (by rw [ex38]; rfl) (by decide) rfl (fun ls hl => ?_)
              have r39 : Rg x38 1 10 := rg_add ex38 r7 (⟨by decide, by decide⟩ : Rg 1 1 1) (by decide) (by decide)
              have s40 : x38.toInt = y3.toInt + (1 : Int32).toInt := by rw [ex38]; exact i_add (by obtain ⟨_, _⟩ := r7; obtain ⟨_, _⟩ := (⟨by decide, by decide⟩ : Rg 1 1 1); omega) (by obtain ⟨_, _⟩ := r7; obtain ⟨_, _⟩ := (⟨by decide, by decide⟩ : Rg 1 1 1); omega)
              have s40l : (1 : Int32).toInt = 1 := rfl
              refine lv_goto (tgt := 4) hx hb d_X6_bestBuyer_68 (by decide) ?_
              exact ih0 y2 x38 _ _ _ (by have := s40; obtain ⟨_, _⟩ := r30; obtain ⟨_, _⟩ := r39; omega) (rg_w r30 (by decide) (by decide)) (rg_w r39 (by decide) (by decide)) hG hw hS (lv_sub hl [2, 3, 4, 0] rfl)
            · exact absurd c37 (by decide)
          · have f41 := i_nle c35
            have hG := g_neg c35 hG
            refine lv_iconst (v := 1) hx hb d_X6_bestBuyer_38 (by decide) ?_
            refine lv_goto (tgt := 43) hx hb d_X6_bestBuyer_39 (by decide) ?_
            refine lv_istore (lv' := [(4, .int 1), (0, .ref (ad 1)), (1, .ref (ad k)), (2, .int y2), (3, .int y3)]) hx hb d_X6_bestBuyer_43 hl (by decide) rfl (fun ls hl => ?_)
            refine lv_iload hx hb d_X6_bestBuyer_45 (lv_at hl 0 rfl) ?_
            refine lv_if_eq (tgt := 65) hx hb d_X6_bestBuyer_47 (by decide) (fun c42 => ?_) (fun c42 => ?_)
            · exact absurd c42 (by decide)
            · refine lv_aload_n hx hb d_X6_bestBuyer_50 rfl (lv_at hl 1 rfl) ?_
              refine r_getr (r := 13) X hw FL_X6_19 (rfl : KD 1 = _) rfl d_X6_bestBuyer_51 ?_
              refine lv_iload_n hx hb d_X6_bestBuyer_54 rfl (lv_at hl 4 rfl) ?_
              refine r_aald X hw (rfl : KD 13 = _) (Or.inr (Or.inl rfl)) (Rg.vp (b := 9) r7 (by decide)) rfl d_X6_bestBuyer_55 ?_
              refine r_nm (fun kc43 ekc43 => ?_)
              have hG := bnd_use ekc43 hG
              have kc43a : 200 ≤ kc43 := by omega
              have kc43b : kc43 ≤ 209 := by have := Rg.nat r7; omega
              refine lv_aload_n hx hb d_X6_bestBuyer_56 rfl (lv_at hl 2 rfl) ?_
              refine r_ci (r_runV (n := 1) (As := [.ref (ad k)]) (rest := []) X hw (ct_X0_takes l D dA ad v hI kc43 k (by omega) (by omega) (by omega) (by omega)) gc_X6_100 (KD_buyer (by omega) (by omega)) (by decide) rfl (by decide +kernel) ⟨rfl, rfl, Nat.le_of_ble_eq_true rfl, Nat.le_of_ble_eq_true rfl⟩ rfl hl.1 rfl (Nat.le_of_ble_eq_true rfl) ⟨Nat.zero_le _, Nat.zero_le _⟩ d_X6_bestBuyer_57) hS (fun x45 v46 H locs hp44 hw hS => ?_)
              obtain ⟨hp44, hE47⟩ := hp44
              obtain ⟨ev46, hp44⟩ := hp44
              rw [ev46] at hw
              have hG := bnd_use hE47 hG
              refine lv_if_eq (tgt := 65) hx hb d_X6_bestBuyer_60 (by decide) (fun c48 => ?_) (fun c48 => ?_)
              · have f49 := i_eq c48
                have r50 : Rg x45 0 0 := by obtain ⟨a1, a2⟩ := hp44; obtain ⟨b1, b2⟩ := (⟨by decide, by decide⟩ : Rg 0 0 0); have f := i_eq c48; exact ⟨by omega, by omega⟩
                have hG := g_pos c48 hG
                obtain ⟨x51, ex51⟩ : ∃ y : Int32, y = y3 + 1 := ⟨_, rfl⟩
                have hG := bnd_use ex51 hG
                refine lv_iinc (v := x51) (lv' := [(3, .int x51), (4, .int 1), (0, .ref (ad 1)), (1, .ref (ad k)), (2, .int y2)]) hx hb d_X6_bestBuyer_65 hl (k := 4) rfl (by rw [ex51]; rfl) (by decide) rfl (fun ls hl => ?_)
                have r52 : Rg x51 1 10 := rg_add ex51 r7 (⟨by decide, by decide⟩ : Rg 1 1 1) (by decide) (by decide)
                have s53 : x51.toInt = y3.toInt + (1 : Int32).toInt := by rw [ex51]; exact i_add (by obtain ⟨_, _⟩ := r7; obtain ⟨_, _⟩ := (⟨by decide, by decide⟩ : Rg 1 1 1); omega) (by obtain ⟨_, _⟩ := r7; obtain ⟨_, _⟩ := (⟨by decide, by decide⟩ : Rg 1 1 1); omega)
                have s53l : (1 : Int32).toInt = 1 := rfl
                refine lv_goto (tgt := 4) hx hb d_X6_bestBuyer_68 (by decide) ?_
                exact ih0 y2 x51 _ _ _ (by have := s53; obtain ⟨_, _⟩ := r30; obtain ⟨_, _⟩ := r52; omega) (rg_w r30 (by decide) (by decide)) (rg_w r52 (by decide) (by decide)) hG hw hS (lv_sub hl [2, 3, 4, 0] rfl)
              · have f54 := i_ne c48
                have r55 : Rg x45 1 1 := by obtain ⟨a1, a2⟩ := hp44; obtain ⟨b1, b2⟩ := (⟨by decide, by decide⟩ : Rg 0 0 0); have f := i_ne c48; exact ⟨by omega, by omega⟩
                have hG := g_neg c48 hG
                refine lv_iload_n hx hb d_X6_bestBuyer_63 rfl (lv_at hl 4 rfl) ?_
                refine lv_istore_n (lv' := [(2, .int y3), (4, .int 1), (0, .ref (ad 1)), (1, .ref (ad k)), (3, .int y3)]) hx hb d_X6_bestBuyer_64 rfl hl (by decide) rfl (fun ls hl => ?_)
                obtain ⟨x56, ex56⟩ : ∃ y : Int32, y = y3 + 1 := ⟨_, rfl⟩
                have hG := bnd_use ex56 hG
                refine lv_iinc (v := x56) (lv' := [(3, .int x56), (2, .int y3), (4, .int 1), (0, .ref (ad 1)), (1, .ref (ad k))]) hx hb d_X6_bestBuyer_65 hl (k := 4) rfl (by rw [ex56]; rfl) (by decide) rfl (fun ls hl => ?_)
                have r57 : Rg x56 1 10 := rg_add ex56 r7 (⟨by decide, by decide⟩ : Rg 1 1 1) (by decide) (by decide)
                have s58 : x56.toInt = y3.toInt + (1 : Int32).toInt := by rw [ex56]; exact i_add (by obtain ⟨_, _⟩ := r7; obtain ⟨_, _⟩ := (⟨by decide, by decide⟩ : Rg 1 1 1); omega) (by obtain ⟨_, _⟩ := r7; obtain ⟨_, _⟩ := (⟨by decide, by decide⟩ : Rg 1 1 1); omega)
                have s58l : (1 : Int32).toInt = 1 := rfl
                refine lv_goto (tgt := 4) hx hb d_X6_bestBuyer_68 (by decide) ?_
                exact ih0 y3 x56 _ _ _ (by have := s58; obtain ⟨_, _⟩ := r7; obtain ⟨_, _⟩ := r57; omega) (rg_w r7 (by decide) (by decide)) (rg_w r57 (by decide) (by decide)) hG hw hS (lv_sub hl [3, 4, 1, 0] rfl)
  have ih0 := LL 100000
  have hG := eRR
  unfold f_X6_bestBuyer_1 at hG
  refine lv_iconst (v := -1) hx hb d_X6_bestBuyer_0 (by decide) ?_
  refine lv_istore_n (lv' := [(2, .int (-1)), (0, .ref (ad 1)), (1, .ref (ad k))]) hx hb d_X6_bestBuyer_1 rfl hl (by decide) rfl (fun ls hl => ?_)
  refine lv_iconst (v := 0) hx hb d_X6_bestBuyer_2 (by decide) ?_
  refine lv_istore_n (lv' := [(3, .int 0), (2, .int (-1)), (0, .ref (ad 1)), (1, .ref (ad k))]) hx hb d_X6_bestBuyer_3 rfl hl (by decide) rfl (fun ls hl => ?_)
  exact ih0 (-1) 0 _ _ _ (by obtain ⟨_, _⟩ := (⟨by decide, by decide⟩ : Rg (-1) (-1) (-1)); obtain ⟨_, _⟩ := (⟨by decide, by decide⟩ : Rg 0 0 0); omega) (rg_w (⟨by decide, by decide⟩ : Rg (-1) (-1) (-1)) (by decide) (by decide)) (rg_w (⟨by decide, by decide⟩ : Rg 0 0 0) (by decide) (by decide)) hG hw hS (lv_sub hl [2, 3, 1, 0] rfl)
def kp_X6_sail_3 (wind : Int32) (a j : Nat) : Prop := (a < 140 ∨ 160 ≤ a ∨ j ≤ 4)
def b_X6_sail_3_2 (wind : Int32) (rc2 : Int32 → tV → tV) (y2 : Int32) (v1 : tV) : tV := bnd (v1 3 3) fun x1 => (if x1 ≤ y2 then v1 else bnd (140 + y2.toNatClampNeg) fun kc9 => bnd (v1 3 5) fun x10 => bnd (f_X7_sail v1 kc9 wind x10) fun v12 => bnd (y2 + 1) fun x17 => rc2 x17 v12)
def g_X6_sail_3_2 (wind : Int32) : Nat → Int32 → tV → tV
  | 0, _, v1 => v1
  | n + 1, y2, v1 => b_X6_sail_3_2 wind (g_X6_sail_3_2 wind n) y2 v1
def f_X6_sail_3 (v : tV) (wind : Int32) : tV := g_X6_sail_3_2 wind 100000 0 v
set_option maxHeartbeats 4000000 in
set_option maxRecDepth 100000 in
theorem ct_X6_sail_3 (l : Launch) (D : va_G) (dA : Nat → ClassId) (ad : Nat → Nat) (v : tV) (hI : Inv v) (wind : Int32) : Met l m_X6_sail [.code m_X6_sail c_X6_sail 3 none] ({ frames := 2, cells := 0, slots := 0, locals := 62 } : Room) (tP D dA ad v [.ref (ad 3), .int wind]) (tQv D dA ad (fun v' => (Inv v' ∧ Kp (kp_X6_sail_3 wind) v v') ∧ v' = f_X6_sail_3 v wind)) 0 0 (tA ad) := by
  refine tMet (by decide) (Nat.le_of_ble_eq_true rfl) ?_
  intro p e s m below meth c ls X hr hlocks hw hl
  have X : CX p s m ([.ref (ad 3), .int wind] : List Value).toArray c c_X6_sail N_X6 3 D dA := X
  have hx := X.1
  have hb := X.2.1
  have hS : va_S (tA ad) s.heap s.heap [] := va_S.rf
  have hl : lv_has ls 3 [(0, .ref (ad 3)), (1, .int wind)] := hl
  obtain ⟨RR, eRR⟩ : ∃ z, f_X6_sail_3 v wind = z := ⟨_, rfl⟩
  have LL : ∀ n : Nat, (∀ (y2 : Int32) (v1 : tV) (H : Heap) (locs : List Loc) (ls : Array Slot), (20 - y2.toInt).toNat < n → Rg y2 0 20 → Inv v1 → Kp (kp_X6_sail_3 wind) v v1 → g_X6_sail_3_2 wind n y2 v1 = RR → tI D dA ad v1 H → va_S (tA ad) s.heap H locs → lv_has ls 3 [(0, .ref (ad 3)), (1, .int wind), (2, .int y2)] → W p l e ({ frames := 2, cells := 0, slots := 0, locals := 62 } : Room) s m ([.ref (ad 3), .int wind] : List Value).toArray below meth c H locs 0 0 (MQ below (tQv D dA ad (fun v' => (Inv v' ∧ Kp (kp_X6_sail_3 wind) v v') ∧ v' = f_X6_sail_3 v wind)) ([.ref (ad 3), .int wind] : List Value).toArray s 0 0 (tA ad)) (F0 m 2 ls [])) := by
    intro n
    induction n with
    | zero => intros; omega
    | succ n ih =>
      have ih0 := ih
      intro y2 v1 H locs ls hmu r_y2 hI1 hK1 hG hw hS hl
      have hG : b_X6_sail_3_2 wind (g_X6_sail_3_2 wind n) y2 v1 = RR := hG
      unfold b_X6_sail_3_2 at hG
      refine lv_iload_n hx hb d_X6_sail_2 rfl (lv_at hl 2 rfl) ?_
      refine lv_aload_n hx hb d_X6_sail_3 rfl (lv_at hl 0 rfl) ?_
      refine r_geti X hw FL_X6_29 (rfl : KD 3 = _) rfl d_X6_sail_4 ?_
      refine lv_topi (fun x1 ex1 => ?_)
      have hG := bnd_use ex1 hG
      have r2 : Rg x1 0 20 := by rw [ex1]; exact hI1 _ _ _ _ rfl
      have hm3 : v1 3 3 = x1 := ex1.symm
      refine lv_icmp_ge (tgt := 30) hx hb d_X6_sail_7 (by decide) (fun c4 => ?_) (fun c4 => ?_)
      · have f5 := i_le c4
        have hG := g_pos c4 hG
        exact r_vret X hr hlocks hw hS ⟨⟨hI1, hK1⟩, hG.trans eRR.symm⟩ d_X6_sail_30
      · have f6 := i_nle c4
        have r7 : Rg y2 0 19 := by obtain ⟨a1, a2⟩ := r_y2; obtain ⟨b1, b2⟩ := r2; have f := i_nle c4; exact ⟨by omega, by omega⟩
        have r8 : Rg x1 1 20 := by obtain ⟨a1, a2⟩ := r_y2; obtain ⟨b1, b2⟩ := r2; have f := i_nle c4; exact ⟨by omega, by omega⟩
        have hG := g_neg c4 hG
        refine lv_aload_n hx hb d_X6_sail_10 rfl (lv_at hl 0 rfl) ?_
        refine r_getr (r := 12) X hw FL_X6_11 (rfl : KD 3 = _) rfl d_X6_sail_11 ?_
        refine lv_iload_n hx hb d_X6_sail_14 rfl (lv_at hl 2 rfl) ?_
        refine r_aald X hw (rfl : KD 12 = _) (Or.inl rfl) (Rg.vp (b := 19) r7 (by decide)) rfl d_X6_sail_15 ?_
        refine r_nm (fun kc9 ekc9 => ?_)
        have hG := bnd_use ekc9 hG
        have kc9a : 140 ≤ kc9 := by omega
        have kc9b : kc9 ≤ 159 := by have := Rg.nat r7; omega
        refine lv_iload_n hx hb d_X6_sail_16 rfl (lv_at hl 1 rfl) ?_
        refine lv_aload_n hx hb d_X6_sail_17 rfl (lv_at hl 0 rfl) ?_
        refine r_geti X hw FL_X6_36 (rfl : KD 3 = _) rfl d_X6_sail_18 ?_
        refine lv_topi (fun x10 ex10 => ?_)
        have hG := bnd_use ex10 hG
        refine r_cv (r_runV (n := 2) (As := [.int wind, .int x10]) (rest := []) X hw (ct_X7_sail l D dA ad v1 hI1 kc9 wind x10 (by omega) (by omega)) gc_X6_59 (KD_ship (by omega) (by omega)) (by decide) rfl (by decide +kernel) ⟨rfl, rfl, Nat.le_of_ble_eq_true rfl, Nat.le_of_ble_eq_true rfl⟩ rfl hl.1 rfl (Nat.le_of_ble_eq_true rfl) ⟨Nat.zero_le _, Nat.zero_le _⟩ d_X6_sail_21) hS (fun v12 H locs hp11 hw hS => ?_)
        obtain ⟨hp11, hE13⟩ := hp11
        obtain ⟨hI14, hK15⟩ := hp11
        have hK16 : Kp (kp_X6_sail_3 wind) v v12 := Kp.tr hK1 hK15 (by have z0 : (0 : Int32).toInt = 0 := rfl; intro a j; unfold kp_X6_sail_3 kp_X7_sail; omega)
        have hG := bnd_use hE13 hG
        obtain ⟨x17, ex17⟩ : ∃ y : Int32, y = y2 + 1 := ⟨_, rfl⟩
        have hG := bnd_use ex17 hG
        refine lv_iinc (v := x17) (lv' := [(2, .int x17), (0, .ref (ad 3)), (1, .int wind)]) hx hb d_X6_sail_24 hl (k := 2) rfl (by rw [ex17]; rfl) (by decide) rfl (fun ls hl => ?_)
        have r18 : Rg x17 1 20 := rg_add ex17 r7 (⟨by decide, by decide⟩ : Rg 1 1 1) (by decide) (by decide)
        have s19 : x17.toInt = y2.toInt + (1 : Int32).toInt := by rw [ex17]; exact i_add (by obtain ⟨_, _⟩ := r7; obtain ⟨_, _⟩ := (⟨by decide, by decide⟩ : Rg 1 1 1); omega) (by obtain ⟨_, _⟩ := r7; obtain ⟨_, _⟩ := (⟨by decide, by decide⟩ : Rg 1 1 1); omega)
        have s19l : (1 : Int32).toInt = 1 := rfl
        refine lv_goto (tgt := 2) hx hb d_X6_sail_27 (by decide) ?_
        exact ih0 x17 v12 _ _ _ (by have := s19; obtain ⟨_, _⟩ := r18; omega) (rg_w r18 (by decide) (by decide)) hI14 hK16 hG hw hS (lv_sub hl [1, 2, 0] rfl)
  have ih0 := LL 100000
  have hK0 : Kp (kp_X6_sail_3 wind) v v := Kp.rf _ v
  have hG := eRR
  unfold f_X6_sail_3 at hG
  refine lv_iconst (v := 0) hx hb d_X6_sail_0 (by decide) ?_
  refine lv_istore_n (lv' := [(2, .int 0), (0, .ref (ad 3)), (1, .int wind)]) hx hb d_X6_sail_1 rfl hl (by decide) rfl (fun ls hl => ?_)
  exact ih0 0 v _ _ _ (by obtain ⟨_, _⟩ := (⟨by decide, by decide⟩ : Rg 0 0 0); omega) (rg_w (⟨by decide, by decide⟩ : Rg 0 0 0) (by decide) (by decide)) hI hK0 hG hw hS (lv_sub hl [1, 2, 0] rfl)
def b_X6_bestBuyer_3_4 (v : tV) (k : Nat) (rc4 : Int32 → Int32 → Int32) (y2 : Int32) (y3 : Int32) : Int32 := bnd (v 3 4) fun x1 => (if x1 ≤ y3 then y2 else (if y2 = (-1 : Int32) then bnd (220 + y3.toNatClampNeg) fun kc13 => bnd (f_X0_takes v kc13 k) fun x15 => (if x15 = (0 : Int32) then bnd (y3 + 1) fun x21 => rc4 y2 x21 else bnd (y3 + 1) fun x26 => rc4 y3 x26) else bnd (220 + y3.toNatClampNeg) fun kc31 => bnd (v kc31 3) fun x32 => bnd (220 + y2.toNatClampNeg) fun kc33 => bnd (v kc33 3) fun x34 => (if x32 ≤ x34 then bnd (y3 + 1) fun x38 => rc4 y2 x38 else bnd (220 + y3.toNatClampNeg) fun kc43 => bnd (f_X0_takes v kc43 k) fun x45 => (if x45 = (0 : Int32) then bnd (y3 + 1) fun x51 => rc4 y2 x51 else bnd (y3 + 1) fun x56 => rc4 y3 x56))))
def g_X6_bestBuyer_3_4 (v : tV) (k : Nat) : Nat → Int32 → Int32 → Int32
  | 0, _, _ => 0
  | n + 1, y2, y3 => b_X6_bestBuyer_3_4 v k (g_X6_bestBuyer_3_4 v k n) y2 y3
def f_X6_bestBuyer_3 (v : tV) (k : Nat) : Int32 := g_X6_bestBuyer_3_4 v k 100000 (-1) 0
set_option maxHeartbeats 4000000 in
set_option maxRecDepth 100000 in
theorem ct_X6_bestBuyer_3 (l : Launch) (D : va_G) (dA : Nat → ClassId) (ad : Nat → Nat) (v : tV) (hI : Inv v) (k : Nat) (ka : 100 ≤ k) (kb : k < 160) : Met l m_X6_bestBuyer [.code m_X6_bestBuyer c_X6_bestBuyer 5 (some .int)] ({ frames := 2, cells := 0, slots := 0, locals := 61 } : Room) (tP D dA ad v [.ref (ad 3), .ref (ad k)]) (tQi D dA ad (fun r v' => (v' = v ∧ Rg r (-1) 9) ∧ r = f_X6_bestBuyer_3 v k)) 0 0 (tA ad) := by
  refine tMet (by decide) (Nat.le_of_ble_eq_true rfl) ?_
  intro p e s m below meth c ls X hr hlocks hw hl
  have X : CX p s m ([.ref (ad 3), .ref (ad k)] : List Value).toArray c c_X6_bestBuyer N_X6 5 D dA := X
  have hx := X.1
  have hb := X.2.1
  have hS : va_S (tA ad) s.heap s.heap [] := va_S.rf
  have hl : lv_has ls 5 [(0, .ref (ad 3)), (1, .ref (ad k))] := hl
  obtain ⟨RR, eRR⟩ : ∃ z, f_X6_bestBuyer_3 v k = z := ⟨_, rfl⟩
  have LL : ∀ n : Nat, (∀ (y2 : Int32) (y3 : Int32)  (H : Heap) (locs : List Loc) (ls : Array Slot), (10 - y3.toInt).toNat < n → Rg y2 (-1) 9 → Rg y3 0 10 → g_X6_bestBuyer_3_4 v k n y2 y3 = RR → tI D dA ad v H → va_S (tA ad) s.heap H locs → lv_has ls 5 [(0, .ref (ad 3)), (1, .ref (ad k)), (2, .int y2), (3, .int y3)] → W p l e ({ frames := 2, cells := 0, slots := 0, locals := 61 } : Room) s m ([.ref (ad 3), .ref (ad k)] : List Value).toArray below meth c H locs 0 0 (MQ below (tQi D dA ad (fun r v' => (v' = v ∧ Rg r (-1) 9) ∧ r = f_X6_bestBuyer_3 v k)) ([.ref (ad 3), .ref (ad k)] : List Value).toArray s 0 0 (tA ad)) (F0 m 4 ls [])) := by
    intro n
    induction n with
    | zero => intros; omega
    | succ n ih =>
      have ih0 := ih
      intro y2 y3 H locs ls hmu r_y2 r_y3 hG hw hS hl
      have hG : b_X6_bestBuyer_3_4 v k (g_X6_bestBuyer_3_4 v k n) y2 y3 = RR := hG
      unfold b_X6_bestBuyer_3_4 at hG
      refine lv_iload_n hx hb d_X6_bestBuyer_4 rfl (lv_at hl 3 rfl) ?_
      refine lv_aload_n hx hb d_X6_bestBuyer_5 rfl (lv_at hl 0 rfl) ?_
      refine r_geti X hw FL_X6_33 (rfl : KD 3 = _) rfl d_X6_bestBuyer_6 ?_
      refine lv_topi (fun x1 ex1 => ?_)
      have hG := bnd_use ex1 hG
      have r2 : Rg x1 0 10 := by rw [ex1]; exact hI _ _ _ _ rfl
      have hm3 : v 3 4 = x1 := ex1.symm
      refine lv_icmp_ge (tgt := 71) hx hb d_X6_bestBuyer_9 (by decide) (fun c4 => ?_) (fun c4 => ?_)
      · have f5 := i_le c4
        have hG := g_pos c4 hG
        refine lv_iload_n hx hb d_X6_bestBuyer_71 rfl (lv_at hl 2 rfl) ?_
        exact r_iret X hr hlocks hw hS ⟨⟨rfl, r_y2⟩, hG.trans eRR.symm⟩ d_X6_bestBuyer_72
      · have f6 := i_nle c4
        have r7 : Rg y3 0 9 := by obtain ⟨a1, a2⟩ := r_y3; obtain ⟨b1, b2⟩ := r2; have f := i_nle c4; exact ⟨by omega, by omega⟩
        have r8 : Rg x1 1 10 := by obtain ⟨a1, a2⟩ := r_y3; obtain ⟨b1, b2⟩ := r2; have f := i_nle c4; exact ⟨by omega, by omega⟩
        have hG := g_neg c4 hG
        refine lv_iload_n hx hb d_X6_bestBuyer_12 rfl (lv_at hl 2 rfl) ?_
        refine lv_iconst (v := -1) hx hb d_X6_bestBuyer_13 (by decide) ?_
        refine lv_icmp_eq (tgt := 38) hx hb d_X6_bestBuyer_14 (by decide) (fun c9 => ?_) (fun c9 => ?_)
        · have f10 := i_eq c9
          have r11 : Rg y2 (-1) (-1) := by obtain ⟨a1, a2⟩ := r_y2; obtain ⟨b1, b2⟩ := (⟨by decide, by decide⟩ : Rg (-1) (-1) (-1)); have f := i_eq c9; exact ⟨by omega, by omega⟩
          have hG := g_pos c9 hG
          refine lv_iconst (v := 1) hx hb d_X6_bestBuyer_38 (by decide) ?_
          refine lv_goto (tgt := 43) hx hb d_X6_bestBuyer_39 (by decide) ?_
          refine lv_istore (lv' := [(4, .int 1), (0, .ref (ad 3)), (1, .ref (ad k)), (2, .int y2), (3, .int y3)]) hx hb d_X6_bestBuyer_43 hl (by decide) rfl (fun ls hl => ?_)
          refine lv_iload hx hb d_X6_bestBuyer_45 (lv_at hl 0 rfl) ?_
          refine lv_if_eq (tgt := 65) hx hb d_X6_bestBuyer_47 (by decide) (fun c12 => ?_) (fun c12 => ?_)
          · exact absurd c12 (by decide)
          · refine lv_aload_n hx hb d_X6_bestBuyer_50 rfl (lv_at hl 1 rfl) ?_
            refine r_getr (r := 15) X hw FL_X6_19 (rfl : KD 3 = _) rfl d_X6_bestBuyer_51 ?_
            refine lv_iload_n hx hb d_X6_bestBuyer_54 rfl (lv_at hl 4 rfl) ?_
            refine r_aald X hw (rfl : KD 15 = _) (Or.inr (Or.inl rfl)) (Rg.vp (b := 9) r7 (by decide)) rfl d_X6_bestBuyer_55 ?_
            refine r_nm (fun kc13 ekc13 => ?_)
            have hG := bnd_use ekc13 hG
            have kc13a : 220 ≤ kc13 := by omega
            have kc13b : kc13 ≤ 229 := by have := Rg.nat r7; omega
            refine lv_aload_n hx hb d_X6_bestBuyer_56 rfl (lv_at hl 2 rfl) ?_
            refine r_ci (r_runV (n := 1) (As := [.ref (ad k)]) (rest := []) X hw (ct_X0_takes l D dA ad v hI kc13 k (by omega) (by omega) (by omega) (by omega)) gc_X6_100 (KD_buyer (by omega) (by omega)) (by decide) rfl (by decide +kernel) ⟨rfl, rfl, Nat.le_of_ble_eq_true rfl, Nat.le_of_ble_eq_true rfl⟩ rfl hl.1 rfl (Nat.le_of_ble_eq_true rfl) ⟨Nat.zero_le _, Nat.zero_le _⟩ d_X6_bestBuyer_57) hS (fun x15 v16 H locs hp14 hw hS => ?_)
            obtain ⟨hp14, hE17⟩ := hp14
            obtain ⟨ev16, hp14⟩ := hp14
            rw [ev16] at hw
            have hG := bnd_use hE17 hG
            refine lv_if_eq (tgt := 65) hx hb d_X6_bestBuyer_60 (by decide) (fun c18 => ?_) (fun c18 => ?_)
            · have f19 := i_eq c18
              have r20 : Rg x15 0 0 := by obtain ⟨a1, a2⟩ := hp14; obtain ⟨b1, b2⟩ := (⟨by decide, by decide⟩ : Rg 0 0 0); have f := i_eq c18; exact ⟨by omega, by omega⟩
              have hG := g_pos c18 hG
              obtain ⟨x21, ex21⟩ : ∃ y : Int32, y = y3 + 1 := ⟨_, rfl⟩
              have hG := bnd_use ex21 hG
              refine lv_iinc (v := x21) (lv' := [(3, .int x21), (4, .int 1), (0, .ref (ad 3)), (1, .ref (ad k)), (2, .int y2)]) hx hb d_X6_bestBuyer_65 hl (k := 4) rfl (by rw [ex21]; rfl) (by decide) rfl (fun ls hl => ?_)
              have r22 : Rg x21 1 10 := rg_add ex21 r7 (⟨by decide, by decide⟩ : Rg 1 1 1) (by decide) (by decide)
              have s23 : x21.toInt = y3.toInt + (1 : Int32).toInt := by rw [ex21]; exact i_add (by obtain ⟨_, _⟩ := r7; obtain ⟨_, _⟩ := (⟨by decide, by decide⟩ : Rg 1 1 1); omega) (by obtain ⟨_, _⟩ := r7; obtain ⟨_, _⟩ := (⟨by decide, by decide⟩ : Rg 1 1 1); omega)
              have s23l : (1 : Int32).toInt = 1 := rfl
              refine lv_goto (tgt := 4) hx hb d_X6_bestBuyer_68 (by decide) ?_
              exact ih0 y2 x21 _ _ _ (by have := s23; obtain ⟨_, _⟩ := r11; obtain ⟨_, _⟩ := r22; omega) (rg_w r11 (by decide) (by decide)) (rg_w r22 (by decide) (by decide)) hG hw hS (lv_sub hl [2, 3, 4, 0] rfl)
            · have f24 := i_ne c18
              have r25 : Rg x15 1 1 := by obtain ⟨a1, a2⟩ := hp14; obtain ⟨b1, b2⟩ := (⟨by decide, by decide⟩ : Rg 0 0 0); have f := i_ne c18; exact ⟨by omega, by omega⟩
              have hG := g_neg c18 hG
              refine lv_iload_n hx hb d_X6_bestBuyer_63 rfl (lv_at hl 4 rfl) ?_
              refine lv_istore_n (lv' := [(2, .int y3), (4, .int 1), (0, .ref (ad 3)), (1, .ref (ad k)), (3, .int y3)]) hx hb d_X6_bestBuyer_64 rfl hl (by decide) rfl (fun ls hl => ?_)
              obtain ⟨x26, ex26⟩ : ∃ y : Int32, y = y3 + 1 := ⟨_, rfl⟩
              have hG := bnd_use ex26 hG
              refine lv_iinc (v := x26) (lv' := [(3, .int x26), (2, .int y3), (4, .int 1), (0, .ref (ad 3)), (1, .ref (ad k))]) hx hb d_X6_bestBuyer_65 hl (k := 4) rfl (by rw [ex26]; rfl) (by decide) rfl (fun ls hl => ?_)
              have r27 : Rg x26 1 10 := rg_add ex26 r7 (⟨by decide, by decide⟩ : Rg 1 1 1) (by decide) (by decide)
              have s28 : x26.toInt = y3.toInt + (1 : Int32).toInt := by rw [ex26]; exact i_add (by obtain ⟨_, _⟩ := r7; obtain ⟨_, _⟩ := (⟨by decide, by decide⟩ : Rg 1 1 1); omega) (by obtain ⟨_, _⟩ := r7; obtain ⟨_, _⟩ := (⟨by decide, by decide⟩ : Rg 1 1 1); omega)
              have s28l : (1 : Int32).toInt = 1 := rfl
              refine lv_goto (tgt := 4) hx hb d_X6_bestBuyer_68 (by decide) ?_
              exact ih0 y3 x26 _ _ _ (by have := s28; obtain ⟨_, _⟩ := r7; obtain ⟨_, _⟩ := r27; omega) (rg_w r7 (by decide) (by decide)) (rg_w r27 (by decide) (by decide)) hG hw hS (lv_sub hl [3, 4, 1, 0] rfl)
        · have f29 := i_ne c9
          have r30 : Rg y2 0 9 := by obtain ⟨a1, a2⟩ := r_y2; obtain ⟨b1, b2⟩ := (⟨by decide, by decide⟩ : Rg (-1) (-1) (-1)); have f := i_ne c9; exact ⟨by omega, by omega⟩
          have hG := g_neg c9 hG
          refine lv_aload_n hx hb d_X6_bestBuyer_17 rfl (lv_at hl 0 rfl) ?_
          refine r_getr (r := 15) X hw FL_X6_19 (rfl : KD 3 = _) rfl d_X6_bestBuyer_18 ?_
          refine lv_iload_n hx hb d_X6_bestBuyer_21 rfl (lv_at hl 3 rfl) ?_
          refine r_aald X hw (rfl : KD 15 = _) (Or.inr (Or.inl rfl)) (Rg.vp (b := 9) r7 (by decide)) rfl d_X6_bestBuyer_22 ?_
          refine r_nm (fun kc31 ekc31 => ?_)
          have hG := bnd_use ekc31 hG
          have kc31a : 220 ≤ kc31 := by omega
          have kc31b : kc31 ≤ 229 := by have := Rg.nat r7; omega
          refine r_geti X hw FL_X6_97 (KD_buyer (by omega) (by omega)) (SH_buyer (by omega) (by omega)) d_X6_bestBuyer_23 ?_
          refine lv_topi (fun x32 ex32 => ?_)
          have hG := bnd_use ex32 hG
          refine lv_aload_n hx hb d_X6_bestBuyer_26 rfl (lv_at hl 0 rfl) ?_
          refine r_getr (r := 15) X hw FL_X6_19 (rfl : KD 3 = _) rfl d_X6_bestBuyer_27 ?_
          refine lv_iload_n hx hb d_X6_bestBuyer_30 rfl (lv_at hl 2 rfl) ?_
          refine r_aald X hw (rfl : KD 15 = _) (Or.inr (Or.inl rfl)) (Rg.vp (b := 9) r30 (by decide)) rfl d_X6_bestBuyer_31 ?_
          refine r_nm (fun kc33 ekc33 => ?_)
          have hG := bnd_use ekc33 hG
          have kc33a : 220 ≤ kc33 := by omega
          have kc33b : kc33 ≤ 229 := by have := Rg.nat r30; omega
          refine r_geti X hw FL_X6_97 (KD_buyer (by omega) (by omega)) (SH_buyer (by omega) (by omega)) d_X6_bestBuyer_32 ?_
          refine lv_topi (fun x34 ex34 => ?_)
          have hG := bnd_use ex34 hG
          refine lv_icmp_le (tgt := 42) hx hb d_X6_bestBuyer_35 (by decide) (fun c35 => ?_) (fun c35 => ?_)
          · have f36 := i_le c35
            have hG := g_pos c35 hG
            refine lv_iconst (v := 0) hx hb d_X6_bestBuyer_42 (by decide) ?_
            refine lv_istore (lv' := [(4, .int 0), (0, .ref (ad 3)), (1, .ref (ad k)), (2, .int y2), (3, .int y3)]) hx hb d_X6_bestBuyer_43 hl (by decide) rfl (fun ls hl => ?_)
            refine lv_iload hx hb d_X6_bestBuyer_45 (lv_at hl 0 rfl) ?_
            refine lv_if_eq (tgt := 65) hx hb d_X6_bestBuyer_47 (by decide) (fun c37 => ?_) (fun c37 => ?_)
            · obtain ⟨x38, ex38⟩ : ∃ y : Int32, y = y3 + 1 := ⟨_, rfl⟩
              have hG := bnd_use ex38 hG
              refine lv_iinc (v := x38) (lv' := [(3, .int x38), (4, .int 0), (0, .ref (ad 3)), (1, .ref (ad k)), (2, .int y2)]) hx hb d_X6_bestBuyer_65 hl (k := 4) rfl (by rw [ex38]; rfl) (by decide) rfl (fun ls hl => ?_)
              have r39 : Rg x38 1 10 := rg_add ex38 r7 (⟨by decide, by decide⟩ : Rg 1 1 1) (by decide) (by decide)
              have s40 : x38.toInt = y3.toInt + (1 : Int32).toInt := by rw [ex38]; exact i_add (by obtain ⟨_, _⟩ := r7; obtain ⟨_, _⟩ := (⟨by decide, by decide⟩ : Rg 1 1 1); omega) (by obtain ⟨_, _⟩ := r7; obtain ⟨_, _⟩ := (⟨by decide, by decide⟩ : Rg 1 1 1); omega)
              have s40l : (1 : Int32).toInt = 1 := rfl
              refine lv_goto (tgt := 4) hx hb d_X6_bestBuyer_68 (by decide) ?_
              exact ih0 y2 x38 _ _ _ (by have := s40; obtain ⟨_, _⟩ := r30; obtain ⟨_, _⟩ := r39; omega) (rg_w r30 (by decide) (by decide)) (rg_w r39 (by decide) (by decide)) hG hw hS (lv_sub hl [2, 3, 4, 0] rfl)
            · exact absurd c37 (by decide)
          · have f41 := i_nle c35
            have hG := g_neg c35 hG
            refine lv_iconst (v := 1) hx hb d_X6_bestBuyer_38 (by decide) ?_
            refine lv_goto (tgt := 43) hx hb d_X6_bestBuyer_39 (by decide) ?_
            refine lv_istore (lv' := [(4, .int 1), (0, .ref (ad 3)), (1, .ref (ad k)), (2, .int y2), (3, .int y3)]) hx hb d_X6_bestBuyer_43 hl (by decide) rfl (fun ls hl => ?_)
            refine lv_iload hx hb d_X6_bestBuyer_45 (lv_at hl 0 rfl) ?_
            refine lv_if_eq (tgt := 65) hx hb d_X6_bestBuyer_47 (by decide) (fun c42 => ?_) (fun c42 => ?_)
            · exact absurd c42 (by decide)
            · refine lv_aload_n hx hb d_X6_bestBuyer_50 rfl (lv_at hl 1 rfl) ?_
              refine r_getr (r := 15) X hw FL_X6_19 (rfl : KD 3 = _) rfl d_X6_bestBuyer_51 ?_
              refine lv_iload_n hx hb d_X6_bestBuyer_54 rfl (lv_at hl 4 rfl) ?_
              refine r_aald X hw (rfl : KD 15 = _) (Or.inr (Or.inl rfl)) (Rg.vp (b := 9) r7 (by decide)) rfl d_X6_bestBuyer_55 ?_
              refine r_nm (fun kc43 ekc43 => ?_)
              have hG := bnd_use ekc43 hG
              have kc43a : 220 ≤ kc43 := by omega
              have kc43b : kc43 ≤ 229 := by have := Rg.nat r7; omega
              refine lv_aload_n hx hb d_X6_bestBuyer_56 rfl (lv_at hl 2 rfl) ?_
              refine r_ci (r_runV (n := 1) (As := [.ref (ad k)]) (rest := []) X hw (ct_X0_takes l D dA ad v hI kc43 k (by omega) (by omega) (by omega) (by omega)) gc_X6_100 (KD_buyer (by omega) (by omega)) (by decide) rfl (by decide +kernel) ⟨rfl, rfl, Nat.le_of_ble_eq_true rfl, Nat.le_of_ble_eq_true rfl⟩ rfl hl.1 rfl (Nat.le_of_ble_eq_true rfl) ⟨Nat.zero_le _, Nat.zero_le _⟩ d_X6_bestBuyer_57) hS (fun x45 v46 H locs hp44 hw hS => ?_)
              obtain ⟨hp44, hE47⟩ := hp44
              obtain ⟨ev46, hp44⟩ := hp44
              rw [ev46] at hw
              have hG := bnd_use hE47 hG
              refine lv_if_eq (tgt := 65) hx hb d_X6_bestBuyer_60 (by decide) (fun c48 => ?_) (fun c48 => ?_)
              · have f49 := i_eq c48
                have r50 : Rg x45 0 0 := by obtain ⟨a1, a2⟩ := hp44; obtain ⟨b1, b2⟩ := (⟨by decide, by decide⟩ : Rg 0 0 0); have f := i_eq c48; exact ⟨by omega, by omega⟩
                have hG := g_pos c48 hG
                obtain ⟨x51, ex51⟩ : ∃ y : Int32, y = y3 + 1 := ⟨_, rfl⟩
                have hG := bnd_use ex51 hG
                refine lv_iinc (v := x51) (lv' := [(3, .int x51), (4, .int 1), (0, .ref (ad 3)), (1, .ref (ad k)), (2, .int y2)]) hx hb d_X6_bestBuyer_65 hl (k := 4) rfl (by rw [ex51]; rfl) (by decide) rfl (fun ls hl => ?_)
                have r52 : Rg x51 1 10 := rg_add ex51 r7 (⟨by decide, by decide⟩ : Rg 1 1 1) (by decide) (by decide)
                have s53 : x51.toInt = y3.toInt + (1 : Int32).toInt := by rw [ex51]; exact i_add (by obtain ⟨_, _⟩ := r7; obtain ⟨_, _⟩ := (⟨by decide, by decide⟩ : Rg 1 1 1); omega) (by obtain ⟨_, _⟩ := r7; obtain ⟨_, _⟩ := (⟨by decide, by decide⟩ : Rg 1 1 1); omega)
                have s53l : (1 : Int32).toInt = 1 := rfl
                refine lv_goto (tgt := 4) hx hb d_X6_bestBuyer_68 (by decide) ?_
                exact ih0 y2 x51 _ _ _ (by have := s53; obtain ⟨_, _⟩ := r30; obtain ⟨_, _⟩ := r52; omega) (rg_w r30 (by decide) (by decide)) (rg_w r52 (by decide) (by decide)) hG hw hS (lv_sub hl [2, 3, 4, 0] rfl)
              · have f54 := i_ne c48
                have r55 : Rg x45 1 1 := by obtain ⟨a1, a2⟩ := hp44; obtain ⟨b1, b2⟩ := (⟨by decide, by decide⟩ : Rg 0 0 0); have f := i_ne c48; exact ⟨by omega, by omega⟩
                have hG := g_neg c48 hG
                refine lv_iload_n hx hb d_X6_bestBuyer_63 rfl (lv_at hl 4 rfl) ?_
                refine lv_istore_n (lv' := [(2, .int y3), (4, .int 1), (0, .ref (ad 3)), (1, .ref (ad k)), (3, .int y3)]) hx hb d_X6_bestBuyer_64 rfl hl (by decide) rfl (fun ls hl => ?_)
                obtain ⟨x56, ex56⟩ : ∃ y : Int32, y = y3 + 1 := ⟨_, rfl⟩
                have hG := bnd_use ex56 hG
                refine lv_iinc (v := x56) (lv' := [(3, .int x56), (2, .int y3), (4, .int 1), (0, .ref (ad 3)), (1, .ref (ad k))]) hx hb d_X6_bestBuyer_65 hl (k := 4) rfl (by rw [ex56]; rfl) (by decide) rfl (fun ls hl => ?_)
                have r57 : Rg x56 1 10 := rg_add ex56 r7 (⟨by decide, by decide⟩ : Rg 1 1 1) (by decide) (by decide)
                have s58 : x56.toInt = y3.toInt + (1 : Int32).toInt := by rw [ex56]; exact i_add (by obtain ⟨_, _⟩ := r7; obtain ⟨_, _⟩ := (⟨by decide, by decide⟩ : Rg 1 1 1); omega) (by obtain ⟨_, _⟩ := r7; obtain ⟨_, _⟩ := (⟨by decide, by decide⟩ : Rg 1 1 1); omega)
                have s58l : (1 : Int32).toInt = 1 := rfl
                refine lv_goto (tgt := 4) hx hb d_X6_bestBuyer_68 (by decide) ?_
                exact ih0 y3 x56 _ _ _ (by have := s58; obtain ⟨_, _⟩ := r7; obtain ⟨_, _⟩ := r57; omega) (rg_w r7 (by decide) (by decide)) (rg_w r57 (by decide) (by decide)) hG hw hS (lv_sub hl [3, 4, 1, 0] rfl)
  have ih0 := LL 100000
  have hG := eRR
  unfold f_X6_bestBuyer_3 at hG
  refine lv_iconst (v := -1) hx hb d_X6_bestBuyer_0 (by decide) ?_
  refine lv_istore_n (lv' := [(2, .int (-1)), (0, .ref (ad 3)), (1, .ref (ad k))]) hx hb d_X6_bestBuyer_1 rfl hl (by decide) rfl (fun ls hl => ?_)
  refine lv_iconst (v := 0) hx hb d_X6_bestBuyer_2 (by decide) ?_
  refine lv_istore_n (lv' := [(3, .int 0), (2, .int (-1)), (0, .ref (ad 3)), (1, .ref (ad k))]) hx hb d_X6_bestBuyer_3 rfl hl (by decide) rfl (fun ls hl => ?_)
  exact ih0 (-1) 0 _ _ _ (by obtain ⟨_, _⟩ := (⟨by decide, by decide⟩ : Rg (-1) (-1) (-1)); obtain ⟨_, _⟩ := (⟨by decide, by decide⟩ : Rg 0 0 0); omega) (rg_w (⟨by decide, by decide⟩ : Rg (-1) (-1) (-1)) (by decide) (by decide)) (rg_w (⟨by decide, by decide⟩ : Rg 0 0 0) (by decide) (by decide)) hG hw hS (lv_sub hl [2, 3, 1, 0] rfl)
theorem d_X6_strike_0 : decode c_X6_strike 0 = .ok (.aload_n 0, 1) := by decide +kernel
theorem d_X6_strike_1 : decode c_X6_strike 1 = .ok (.getfield 11, 3) := by decide +kernel
theorem d_X6_strike_4 : decode c_X6_strike 4 = .ok (.iload_n 1, 1) := by decide +kernel
theorem d_X6_strike_5 : decode c_X6_strike 5 = .ok (.aaload, 1) := by decide +kernel
theorem d_X6_strike_6 : decode c_X6_strike 6 = .ok (.astore 4, 2) := by decide +kernel
theorem d_X6_strike_8 : decode c_X6_strike 8 = .ok (.aload_n 0, 1) := by decide +kernel
theorem d_X6_strike_9 : decode c_X6_strike 9 = .ok (.getfield 19, 3) := by decide +kernel
theorem d_X6_strike_12 : decode c_X6_strike 12 = .ok (.iload_n 2, 1) := by decide +kernel
theorem d_X6_strike_13 : decode c_X6_strike 13 = .ok (.aaload, 1) := by decide +kernel
theorem d_X6_strike_14 : decode c_X6_strike 14 = .ok (.astore 5, 2) := by decide +kernel
theorem d_X6_strike_16 : decode c_X6_strike 16 = .ok (.aload 4, 2) := by decide +kernel
theorem d_X6_strike_18 : decode c_X6_strike 18 = .ok (.getfield 86, 3) := by decide +kernel
theorem d_X6_strike_21 : decode c_X6_strike 21 = .ok (.aload 5, 2) := by decide +kernel
theorem d_X6_strike_23 : decode c_X6_strike 23 = .ok (.getfield 104, 3) := by decide +kernel
theorem d_X6_strike_26 : decode c_X6_strike 26 = .ok (.invokestatic 107, 3) := by decide +kernel
theorem d_X6_strike_29 : decode c_X6_strike 29 = .ok (.istore 6, 2) := by decide +kernel
theorem d_X6_strike_31 : decode c_X6_strike 31 = .ok (.aload 4, 2) := by decide +kernel
theorem d_X6_strike_33 : decode c_X6_strike 33 = .ok (.getfield 113, 3) := by decide +kernel
theorem d_X6_strike_36 : decode c_X6_strike 36 = .ok (.aload 5, 2) := by decide +kernel
theorem d_X6_strike_38 : decode c_X6_strike 38 = .ok (.getfield 97, 3) := by decide +kernel
theorem d_X6_strike_41 : decode c_X6_strike 41 = .ok (.iadd, 1) := by decide +kernel
theorem d_X6_strike_42 : decode c_X6_strike 42 = .ok (.iconst 2, 1) := by decide +kernel
theorem d_X6_strike_43 : decode c_X6_strike 43 = .ok (.idiv, 1) := by decide +kernel
theorem d_X6_strike_44 : decode c_X6_strike 44 = .ok (.istore 7, 2) := by decide +kernel
theorem d_X6_strike_46 : decode c_X6_strike 46 = .ok (.aload 4, 2) := by decide +kernel
theorem d_X6_strike_48 : decode c_X6_strike 48 = .ok (.iload 6, 2) := by decide +kernel
theorem d_X6_strike_50 : decode c_X6_strike 50 = .ok (.iload 7, 2) := by decide +kernel
theorem d_X6_strike_52 : decode c_X6_strike 52 = .ok (.invokevirtual 116, 3) := by decide +kernel
theorem d_X6_strike_55 : decode c_X6_strike 55 = .ok (.aload 5, 2) := by decide +kernel
theorem d_X6_strike_57 : decode c_X6_strike 57 = .ok (.dup, 1) := by decide +kernel
theorem d_X6_strike_58 : decode c_X6_strike 58 = .ok (.getfield 104, 3) := by decide +kernel
theorem d_X6_strike_61 : decode c_X6_strike 61 = .ok (.iload 6, 2) := by decide +kernel
theorem d_X6_strike_63 : decode c_X6_strike 63 = .ok (.isub, 1) := by decide +kernel
theorem d_X6_strike_64 : decode c_X6_strike 64 = .ok (.putfield 104, 3) := by decide +kernel
theorem d_X6_strike_67 : decode c_X6_strike 67 = .ok (.aload_n 0, 1) := by decide +kernel
theorem d_X6_strike_68 : decode c_X6_strike 68 = .ok (.getfield 25, 3) := by decide +kernel
theorem d_X6_strike_71 : decode c_X6_strike 71 = .ok (.aload 5, 2) := by decide +kernel
theorem d_X6_strike_73 : decode c_X6_strike 73 = .ok (.getfield 119, 3) := by decide +kernel
theorem d_X6_strike_76 : decode c_X6_strike 76 = .ok (.aaload, 1) := by decide +kernel
theorem d_X6_strike_77 : decode c_X6_strike 77 = .ok (.iload 6, 2) := by decide +kernel
theorem d_X6_strike_79 : decode c_X6_strike 79 = .ok (.invokevirtual 122, 3) := by decide +kernel
theorem d_X6_strike_82 : decode c_X6_strike 82 = .ok (.aload_n 3, 1) := by decide +kernel
theorem d_X6_strike_83 : decode c_X6_strike 83 = .ok (.iload_n 1, 1) := by decide +kernel
theorem d_X6_strike_84 : decode c_X6_strike 84 = .ok (.iload_n 2, 1) := by decide +kernel
theorem d_X6_strike_85 : decode c_X6_strike 85 = .ok (.iload 6, 2) := by decide +kernel
theorem d_X6_strike_87 : decode c_X6_strike 87 = .ok (.iload 7, 2) := by decide +kernel
theorem d_X6_strike_89 : decode c_X6_strike 89 = .ok (.invokevirtual 126, 3) := by decide +kernel
theorem d_X6_strike_92 : decode c_X6_strike 92 = .ok (.return_, 1) := by decide +kernel
def kp_X6_strike_1_30 (si : Int32) (bi : Int32) (a j : Nat) : Prop := (a < 100 ∨ 120 ≤ a ∨ j ≤ 4) ∧ (a < 200 ∨ 210 ≤ a ∨ j ≠ 2) ∧ (a < 300 ∨ 306 ≤ a) ∧ a ≠ 30 ∧ a ≠ 32 ∧ a ≠ 34 ∧ a ≠ 36 ∧ a ≠ 38
def f_X6_strike_1_30 (v : tV) (si : Int32) (bi : Int32) : tV := bnd (100 + si.toNatClampNeg) fun kc1 => bnd (200 + bi.toNatClampNeg) fun kc2 => bnd (v kc1 6) fun x3 => bnd (v kc2 2) fun x4 => bnd (if x4 < x3 then x4 else x3) fun x5 => bnd (v kc1 3) fun x6 => bnd (v kc2 3) fun x7 => bnd (x6 + x7) fun x8 => bnd (x8 / (2 : Int32)) fun x9 => bnd (f_X7_deliver v kc1 x5 x9) fun v11 => bnd (v11 kc2 2) fun x16 => bnd (x16 - x5) fun x17 => bnd (up2 v11 kc2 2 x17) fun v18 => bnd (v18 kc2 0) fun x21 => bnd (300 + x21.toNatClampNeg) fun kc24 => bnd (f_X9_receive v18 kc24 x5) fun v26 => bnd (f_X1_enter_30 v26 si bi x5 x9) fun v32 => v32
set_option maxHeartbeats 4000000 in
set_option maxRecDepth 100000 in
theorem ct_X6_strike_1_30 (l : Launch) (D : va_G) (dA : Nat → ClassId) (ad : Nat → Nat) (v : tV) (hI : Inv v) (si : Int32) (bi : Int32) (r_si : Rg si 0 19) (r_bi : Rg bi 0 9) : Met l m_X6_strike [.code m_X6_strike c_X6_strike 8 none] ({ frames := 3, cells := 0, slots := 0, locals := 83 } : Room) (tP D dA ad v [.ref (ad 1), .int si, .int bi, .ref (ad 30)]) (tQv D dA ad (fun v' => (Inv v' ∧ Kp (kp_X6_strike_1_30 si bi) v v') ∧ v' = f_X6_strike_1_30 v si bi)) 0 0 (tA ad) := by
  refine tMet (by decide) (Nat.le_of_ble_eq_true rfl) ?_
  intro p e s m below meth c ls X hr hlocks hw hl
  have X : CX p s m ([.ref (ad 1), .int si, .int bi, .ref (ad 30)] : List Value).toArray c c_X6_strike N_X6 8 D dA := X
  have hx := X.1
  have hb := X.2.1
  have hS : va_S (tA ad) s.heap s.heap [] := va_S.rf
  have hl : lv_has ls 8 [(0, .ref (ad 1)), (1, .int si), (2, .int bi), (3, .ref (ad 30))] := hl
  obtain ⟨RR, eRR⟩ : ∃ z, f_X6_strike_1_30 v si bi = z := ⟨_, rfl⟩
  have hK0 : Kp (kp_X6_strike_1_30 si bi) v v := Kp.rf _ v
  have hG := eRR
  unfold f_X6_strike_1_30 at hG
  refine lv_aload_n hx hb d_X6_strike_0 rfl (lv_at hl 0 rfl) ?_
  refine r_getr (r := 10) X hw FL_X6_11 (rfl : KD 1 = _) rfl d_X6_strike_1 ?_
  refine lv_iload_n hx hb d_X6_strike_4 rfl (lv_at hl 1 rfl) ?_
  refine r_aald X hw (rfl : KD 10 = _) (Or.inl rfl) (Rg.vp (b := 19) r_si (by decide)) rfl d_X6_strike_5 ?_
  refine r_nm (fun kc1 ekc1 => ?_)
  have hG := bnd_use ekc1 hG
  have kc1a : 100 ≤ kc1 := by omega
  have kc1b : kc1 ≤ 119 := by have := Rg.nat r_si; omega
  refine lv_astore (lv' := [(4, .ref (ad kc1)), (0, .ref (ad 1)), (1, .int si), (2, .int bi), (3, .ref (ad 30))]) hx hb d_X6_strike_6 hl (by decide) rfl (fun ls hl => ?_)
  refine lv_aload_n hx hb d_X6_strike_8 rfl (lv_at hl 1 rfl) ?_
  refine r_getr (r := 13) X hw FL_X6_19 (rfl : KD 1 = _) rfl d_X6_strike_9 ?_
  refine lv_iload_n hx hb d_X6_strike_12 rfl (lv_at hl 3 rfl) ?_
  refine r_aald X hw (rfl : KD 13 = _) (Or.inr (Or.inl rfl)) (Rg.vp (b := 9) r_bi (by decide)) rfl d_X6_strike_13 ?_
  refine r_nm (fun kc2 ekc2 => ?_)
  have hG := bnd_use ekc2 hG
  have kc2a : 200 ≤ kc2 := by omega
  have kc2b : kc2 ≤ 209 := by have := Rg.nat r_bi; omega
  refine lv_astore (lv' := [(5, .ref (ad kc2)), (4, .ref (ad kc1)), (0, .ref (ad 1)), (1, .int si), (2, .int bi), (3, .ref (ad 30))]) hx hb d_X6_strike_14 hl (by decide) rfl (fun ls hl => ?_)
  refine lv_aload hx hb d_X6_strike_16 (lv_at hl 1 rfl) ?_
  refine r_geti X hw FL_X6_86 (KD_ship (by omega) (by omega)) (SH_ship (by omega) (by omega)) d_X6_strike_18 ?_
  refine lv_topi (fun x3 ex3 => ?_)
  have hG := bnd_use ex3 hG
  refine lv_aload hx hb d_X6_strike_21 (lv_at hl 0 rfl) ?_
  refine r_geti X hw FL_X6_104 (KD_buyer (by omega) (by omega)) (SH_buyer (by omega) (by omega)) d_X6_strike_23 ?_
  refine lv_topi (fun x4 ex4 => ?_)
  have hG := bnd_use ex4 hG
  refine va_mmin hx hb (X.2.2.1.trans hl.1.symm) X.2.2.2.1 (X.2.2.2.2.1 _ ml_X6_107) (X.2.2.2.2.1 _ ml_mins) (X.2.2.2.2.1 _ ml_mi) (X.2.2.2.2.1 _ ml_minc) (Nat.le_of_ble_eq_true rfl) (Nat.le_of_ble_eq_true rfl) (Nat.zero_le _) (Nat.zero_le _) d_X6_strike_26 ?_
  refine lv_topi (fun x5 ex5 => ?_)
  have hG := bnd_use ex5 hG
  refine lv_istore (lv' := [(6, .int x5), (5, .ref (ad kc2)), (4, .ref (ad kc1)), (0, .ref (ad 1)), (1, .int si), (2, .int bi), (3, .ref (ad 30))]) hx hb d_X6_strike_29 hl (by decide) rfl (fun ls hl => ?_)
  refine lv_aload hx hb d_X6_strike_31 (lv_at hl 2 rfl) ?_
  refine r_geti X hw FL_X6_113 (KD_ship (by omega) (by omega)) (SH_ship (by omega) (by omega)) d_X6_strike_33 ?_
  refine lv_topi (fun x6 ex6 => ?_)
  have hG := bnd_use ex6 hG
  refine lv_aload hx hb d_X6_strike_36 (lv_at hl 1 rfl) ?_
  refine r_geti X hw FL_X6_97 (KD_buyer (by omega) (by omega)) (SH_buyer (by omega) (by omega)) d_X6_strike_38 ?_
  refine lv_topi (fun x7 ex7 => ?_)
  have hG := bnd_use ex7 hG
  refine lv_iadd hx hb d_X6_strike_41 ?_
  refine lv_topi (fun x8 ex8 => ?_)
  have hG := bnd_use ex8 hG
  refine lv_iconst (v := 2) hx hb d_X6_strike_42 (by decide) ?_
  refine lv_idiv hx hb d_X6_strike_43 (by decide) ?_
  refine lv_topi (fun x9 ex9 => ?_)
  have hG := bnd_use ex9 hG
  refine lv_istore (lv' := [(7, .int x9), (6, .int x5), (5, .ref (ad kc2)), (4, .ref (ad kc1)), (0, .ref (ad 1)), (1, .int si), (2, .int bi), (3, .ref (ad 30))]) hx hb d_X6_strike_44 hl (by decide) rfl (fun ls hl => ?_)
  refine lv_aload hx hb d_X6_strike_46 (lv_at hl 3 rfl) ?_
  refine lv_iload hx hb d_X6_strike_48 (lv_at hl 1 rfl) ?_
  refine lv_iload hx hb d_X6_strike_50 (lv_at hl 0 rfl) ?_
  refine r_cv (r_runV (n := 2) (As := [.int x5, .int x9]) (rest := []) X hw (ct_X7_deliver l D dA ad v hI kc1 x5 x9 (by omega) (by omega)) gc_X6_116 (KD_ship (by omega) (by omega)) (by decide) rfl (by decide +kernel) ⟨rfl, rfl, Nat.le_of_ble_eq_true rfl, Nat.le_of_ble_eq_true rfl⟩ rfl hl.1 rfl (Nat.le_of_ble_eq_true rfl) ⟨Nat.zero_le _, Nat.zero_le _⟩ d_X6_strike_52) hS (fun v11 H locs hp10 hw hS => ?_)
  obtain ⟨hp10, hE12⟩ := hp10
  obtain ⟨hI13, hK14⟩ := hp10
  have hK15 : Kp (kp_X6_strike_1_30 si bi) v v11 := Kp.tr hK0 hK14 (by have z0 : (0 : Int32).toInt = 0 := rfl; intro a j; unfold kp_X6_strike_1_30 kp_X7_deliver; omega)
  have hG := bnd_use hE12 hG
  refine lv_aload hx hb d_X6_strike_55 (lv_at hl 2 rfl) ?_
  refine lv_dup hx hb d_X6_strike_57 rfl ?_
  refine r_geti X hw FL_X6_104 (KD_buyer (by omega) (by omega)) (SH_buyer (by omega) (by omega)) d_X6_strike_58 ?_
  refine lv_topi (fun x16 ex16 => ?_)
  have hG := bnd_use ex16 hG
  refine lv_iload hx hb d_X6_strike_61 (lv_at hl 1 rfl) ?_
  refine lv_isub hx hb d_X6_strike_63 ?_
  refine lv_topi (fun x17 ex17 => ?_)
  have hG := bnd_use ex17 hG
  refine r_put X hw hS FP_X6_104 (KD_buyer (by omega) (by omega)) (SH_buyer (by omega) (by omega)) ⟨rfl, rfl⟩ d_X6_strike_64 (fun H locs hw hS => ?_)
  obtain ⟨v18, ev18⟩ : ∃ z, z = up2 v11 kc2 2 x17 := ⟨_, rfl⟩
  rw [← ev18] at hw
  have hG := bnd_use ev18 hG
  have hI19 : Inv v18 := by rw [ev18]; exact Inv.put0 hI13 _ (RG_buyer (by omega) (by omega) (by decide))
  have hK20 : Kp (kp_X6_strike_1_30 si bi) v v18 := by rw [ev18]; exact Kp.put hK15 _ (by unfold kp_X6_strike_1_30; omega)
  refine lv_aload_n hx hb d_X6_strike_67 rfl (lv_at hl 4 rfl) ?_
  refine r_getr (r := 16) X hw FL_X6_25 (rfl : KD 1 = _) rfl d_X6_strike_68 ?_
  refine lv_aload hx hb d_X6_strike_71 (lv_at hl 2 rfl) ?_
  refine r_geti X hw FL_X6_119 (KD_buyer (by omega) (by omega)) (SH_buyer (by omega) (by omega)) d_X6_strike_73 ?_
  refine lv_topi (fun x21 ex21 => ?_)
  have hG := bnd_use ex21 hG
  have r22 : Rg x21 0 5 := by rw [ex21]; exact hI19 _ _ _ _ (RG_buyer0 (by omega) (by omega))
  have hm23 : v18 kc2 0 = x21 := ex21.symm
  refine r_aald X hw (rfl : KD 16 = _) (Or.inr (Or.inr (Or.inl rfl))) (Rg.vp (b := 5) r22 (by decide)) rfl d_X6_strike_76 ?_
  refine r_nm (fun kc24 ekc24 => ?_)
  have hG := bnd_use ekc24 hG
  have kc24a : 300 ≤ kc24 := by omega
  have kc24b : kc24 ≤ 305 := by have := Rg.nat r22; omega
  refine lv_iload hx hb d_X6_strike_77 (lv_at hl 1 rfl) ?_
  refine r_cv (r_runV (n := 1) (As := [.int x5]) (rest := []) X hw (ct_X9_receive l D dA ad v18 hI19 kc24 x5 (by omega) (by omega)) gc_X6_122 (KD_ward (by omega) (by omega)) (by decide) rfl (by decide +kernel) ⟨rfl, rfl, Nat.le_of_ble_eq_true rfl, Nat.le_of_ble_eq_true rfl⟩ rfl hl.1 rfl (Nat.le_of_ble_eq_true rfl) ⟨Nat.zero_le _, Nat.zero_le _⟩ d_X6_strike_79) hS (fun v26 H locs hp25 hw hS => ?_)
  obtain ⟨hp25, hE27⟩ := hp25
  obtain ⟨hI28, hK29⟩ := hp25
  have hK30 : Kp (kp_X6_strike_1_30 si bi) v v26 := Kp.tr hK20 hK29 (by have z0 : (0 : Int32).toInt = 0 := rfl; intro a j; unfold kp_X6_strike_1_30 kp_X9_receive; omega)
  have hG := bnd_use hE27 hG
  refine lv_aload_n hx hb d_X6_strike_82 rfl (lv_at hl 7 rfl) ?_
  refine lv_iload_n hx hb d_X6_strike_83 rfl (lv_at hl 5 rfl) ?_
  refine lv_iload_n hx hb d_X6_strike_84 rfl (lv_at hl 6 rfl) ?_
  refine lv_iload hx hb d_X6_strike_85 (lv_at hl 1 rfl) ?_
  refine lv_iload hx hb d_X6_strike_87 (lv_at hl 0 rfl) ?_
  refine r_cv (r_runV (n := 4) (As := [.int si, .int bi, .int x5, .int x9]) (rest := []) X hw (ct_X1_enter_30 l D dA ad v26 hI28 si bi x5 x9) gc_X6_126 (rfl : KD 30 = _) (by decide) rfl (by decide +kernel) ⟨rfl, rfl, Nat.le_of_ble_eq_true rfl, Nat.le_of_ble_eq_true rfl⟩ rfl hl.1 rfl (Nat.le_of_ble_eq_true rfl) ⟨Nat.zero_le _, Nat.zero_le _⟩ d_X6_strike_89) hS (fun v32 H locs hp31 hw hS => ?_)
  obtain ⟨hp31, hE33⟩ := hp31
  obtain ⟨hI34, hK35⟩ := hp31
  have hK36 : Kp (kp_X6_strike_1_30 si bi) v v32 := Kp.tr hK30 hK35 (by have z0 : (0 : Int32).toInt = 0 := rfl; intro a j; unfold kp_X6_strike_1_30 kp_X1_enter_30; omega)
  have hG := bnd_use hE33 hG
  exact r_vret X hr hlocks hw hS ⟨⟨hI34, hK36⟩, hG.trans eRR.symm⟩ d_X6_strike_92
theorem d_X6_sell_0 : decode c_X6_sell 0 = .ok (.aload_n 0, 1) := by decide +kernel
theorem d_X6_sell_1 : decode c_X6_sell 1 = .ok (.getfield 11, 3) := by decide +kernel
theorem d_X6_sell_4 : decode c_X6_sell 4 = .ok (.iload_n 1, 1) := by decide +kernel
theorem d_X6_sell_5 : decode c_X6_sell 5 = .ok (.aaload, 1) := by decide +kernel
theorem d_X6_sell_6 : decode c_X6_sell 6 = .ok (.astore_n 3, 1) := by decide +kernel
theorem d_X6_sell_7 : decode c_X6_sell 7 = .ok (.iconst 0, 1) := by decide +kernel
theorem d_X6_sell_8 : decode c_X6_sell 8 = .ok (.istore 4, 2) := by decide +kernel
theorem d_X6_sell_10 : decode c_X6_sell 10 = .ok (.iconst 0, 1) := by decide +kernel
theorem d_X6_sell_11 : decode c_X6_sell 11 = .ok (.istore 5, 2) := by decide +kernel
theorem d_X6_sell_13 : decode c_X6_sell 13 = .ok (.iload 5, 2) := by decide +kernel
theorem d_X6_sell_15 : decode c_X6_sell 15 = .ok (.aload_n 0, 1) := by decide +kernel
theorem d_X6_sell_16 : decode c_X6_sell 16 = .ok (.getfield 33, 3) := by decide +kernel
theorem d_X6_sell_19 : decode c_X6_sell 19 = .ok (.if_icmp .ge 43, 3) := by decide +kernel
theorem d_X6_sell_22 : decode c_X6_sell 22 = .ok (.aload_n 3, 1) := by decide +kernel
theorem d_X6_sell_23 : decode c_X6_sell 23 = .ok (.getfield 86, 3) := by decide +kernel
theorem d_X6_sell_26 : decode c_X6_sell 26 = .ok (.ifCond .le 36, 3) := by decide +kernel
theorem d_X6_sell_29 : decode c_X6_sell 29 = .ok (.aload_n 0, 1) := by decide +kernel
theorem d_X6_sell_30 : decode c_X6_sell 30 = .ok (.aload_n 3, 1) := by decide +kernel
theorem d_X6_sell_31 : decode c_X6_sell 31 = .ok (.invokevirtual 89, 3) := by decide +kernel
theorem d_X6_sell_34 : decode c_X6_sell 34 = .ok (.istore 6, 2) := by decide +kernel
theorem d_X6_sell_36 : decode c_X6_sell 36 = .ok (.iload 6, 2) := by decide +kernel
theorem d_X6_sell_38 : decode c_X6_sell 38 = .ok (.iconst (-1), 1) := by decide +kernel
theorem d_X6_sell_39 : decode c_X6_sell 39 = .ok (.if_icmp .ne 6, 3) := by decide +kernel
theorem d_X6_sell_42 : decode c_X6_sell 42 = .ok (.goto 20, 3) := by decide +kernel
theorem d_X6_sell_45 : decode c_X6_sell 45 = .ok (.aload_n 0, 1) := by decide +kernel
theorem d_X6_sell_46 : decode c_X6_sell 46 = .ok (.iload_n 1, 1) := by decide +kernel
theorem d_X6_sell_47 : decode c_X6_sell 47 = .ok (.iload 6, 2) := by decide +kernel
theorem d_X6_sell_49 : decode c_X6_sell 49 = .ok (.aload_n 2, 1) := by decide +kernel
theorem d_X6_sell_50 : decode c_X6_sell 50 = .ok (.invokevirtual 93, 3) := by decide +kernel
theorem d_X6_sell_53 : decode c_X6_sell 53 = .ok (.iconst 1, 1) := by decide +kernel
theorem d_X6_sell_54 : decode c_X6_sell 54 = .ok (.istore 4, 2) := by decide +kernel
theorem d_X6_sell_56 : decode c_X6_sell 56 = .ok (.iinc 5 1, 3) := by decide +kernel
theorem d_X6_sell_59 : decode c_X6_sell 59 = .ok (.goto (-46), 3) := by decide +kernel
theorem d_X6_sell_62 : decode c_X6_sell 62 = .ok (.iload 4, 2) := by decide +kernel
theorem d_X6_sell_64 : decode c_X6_sell 64 = .ok (.ireturn, 1) := by decide +kernel
def kp_X6_sell_1_30 (si : Int32) (a j : Nat) : Prop := (a < 100 ∨ 120 ≤ a ∨ j ≤ 4) ∧ (a < 200 ∨ 210 ≤ a ∨ j ≠ 2) ∧ (a < 300 ∨ 306 ≤ a) ∧ a ≠ 30 ∧ a ≠ 32 ∧ a ≠ 34 ∧ a ≠ 36 ∧ a ≠ 38
def b_X6_sell_1_30_13 (si : Int32) (rc13 : Nat → Int32 → Int32 → tV → Int32 × tV) (q3 : Nat) (y4 : Int32) (y5 : Int32) (v1 : tV) : Int32 × tV := bnd (v1 1 4) fun x1 => (if x1 ≤ y5 then (y4, v1) else bnd (v1 q3 6) fun x9 => (if x9 ≤ (0 : Int32) then (y4, v1) else bnd (f_X6_bestBuyer_1 v1 q3) fun x16 => (if x16 = (-1 : Int32) then (y4, v1) else bnd (f_X6_strike_1_30 v1 si x16) fun v23 => bnd (y5 + 1) fun x28 => rc13 q3 1 x28 v23)))
def g_X6_sell_1_30_13 (si : Int32) : Nat → Nat → Int32 → Int32 → tV → Int32 × tV
  | 0, _, _, _, v1 => (0, v1)
  | n + 1, q3, y4, y5, v1 => b_X6_sell_1_30_13 si (g_X6_sell_1_30_13 si n) q3 y4 y5 v1
def f_X6_sell_1_30 (v : tV) (si : Int32) : Int32 × tV := bnd (100 + si.toNatClampNeg) fun kc33 => g_X6_sell_1_30_13 si 100000 kc33 0 0 v
set_option maxHeartbeats 4000000 in
set_option maxRecDepth 100000 in
theorem ct_X6_sell_1_30 (l : Launch) (D : va_G) (dA : Nat → ClassId) (ad : Nat → Nat) (v : tV) (hI : Inv v) (si : Int32) (r_si : Rg si 0 19) : Met l m_X6_sell [.code m_X6_sell c_X6_sell 7 (some .boolean)] ({ frames := 4, cells := 0, slots := 0, locals := 110 } : Room) (tP D dA ad v [.ref (ad 1), .int si, .ref (ad 30)]) (tQi D dA ad (fun r v' => (Inv v' ∧ Kp (kp_X6_sell_1_30 si) v v' ∧ Rg r 0 1) ∧ (r, v') = f_X6_sell_1_30 v si)) 0 0 (tA ad) := by
  refine tMet (by decide) (Nat.le_of_ble_eq_true rfl) ?_
  intro p e s m below meth c ls X hr hlocks hw hl
  have X : CX p s m ([.ref (ad 1), .int si, .ref (ad 30)] : List Value).toArray c c_X6_sell N_X6 7 D dA := X
  have hx := X.1
  have hb := X.2.1
  have hS : va_S (tA ad) s.heap s.heap [] := va_S.rf
  have hl : lv_has ls 7 [(0, .ref (ad 1)), (1, .int si), (2, .ref (ad 30))] := hl
  obtain ⟨RR, eRR⟩ : ∃ z, f_X6_sell_1_30 v si = z := ⟨_, rfl⟩
  have LL : ∀ n : Nat, (∀ (q3 : Nat) (y4 : Int32) (y5 : Int32) (v1 : tV) (H : Heap) (locs : List Loc) (ls : Array Slot), (10 - y5.toInt).toNat < n → 100 ≤ q3 → q3 < 120 → Rg y4 0 1 → Rg y5 0 10 → Inv v1 → Kp (kp_X6_sell_1_30 si) v v1 → g_X6_sell_1_30_13 si n q3 y4 y5 v1 = RR → tI D dA ad v1 H → va_S (tA ad) s.heap H locs → lv_has ls 7 [(0, .ref (ad 1)), (1, .int si), (2, .ref (ad 30)), (3, .ref (ad q3)), (4, .int y4), (5, .int y5)] → W p l e ({ frames := 4, cells := 0, slots := 0, locals := 110 } : Room) s m ([.ref (ad 1), .int si, .ref (ad 30)] : List Value).toArray below meth c H locs 0 0 (MQ below (tQi D dA ad (fun r v' => (Inv v' ∧ Kp (kp_X6_sell_1_30 si) v v' ∧ Rg r 0 1) ∧ (r, v') = f_X6_sell_1_30 v si)) ([.ref (ad 1), .int si, .ref (ad 30)] : List Value).toArray s 0 0 (tA ad)) (F0 m 13 ls [])) := by
    intro n
    induction n with
    | zero => intros; omega
    | succ n ih =>
      have ih0 := ih
      intro q3 y4 y5 v1 H locs ls hmu q3a q3b r_y4 r_y5 hI1 hK1 hG hw hS hl
      have hG : b_X6_sell_1_30_13 si (g_X6_sell_1_30_13 si n) q3 y4 y5 v1 = RR := hG
      unfold b_X6_sell_1_30_13 at hG
      refine lv_iload hx hb d_X6_sell_13 (lv_at hl 5 rfl) ?_
      refine lv_aload_n hx hb d_X6_sell_15 rfl (lv_at hl 0 rfl) ?_
      refine r_geti X hw FL_X6_33 (rfl : KD 1 = _) rfl d_X6_sell_16 ?_
      refine lv_topi (fun x1 ex1 => ?_)
      have hG := bnd_use ex1 hG
      have r2 : Rg x1 0 10 := by rw [ex1]; exact hI1 _ _ _ _ rfl
      have hm3 : v1 1 4 = x1 := ex1.symm
      refine lv_icmp_ge (tgt := 62) hx hb d_X6_sell_19 (by decide) (fun c4 => ?_) (fun c4 => ?_)
      · have f5 := i_le c4
        have hG := g_pos c4 hG
        refine lv_iload hx hb d_X6_sell_62 (lv_at hl 4 rfl) ?_
        exact r_zret X hr hlocks hw hS (narz r_y4) ⟨⟨hI1, hK1, r_y4⟩, hG.trans eRR.symm⟩ d_X6_sell_64
      · have f6 := i_nle c4
        have r7 : Rg y5 0 9 := by obtain ⟨a1, a2⟩ := r_y5; obtain ⟨b1, b2⟩ := r2; have f := i_nle c4; exact ⟨by omega, by omega⟩
        have r8 : Rg x1 1 10 := by obtain ⟨a1, a2⟩ := r_y5; obtain ⟨b1, b2⟩ := r2; have f := i_nle c4; exact ⟨by omega, by omega⟩
        have hG := g_neg c4 hG
        refine lv_aload_n hx hb d_X6_sell_22 rfl (lv_at hl 3 rfl) ?_
        refine r_geti X hw FL_X6_86 (KD_ship (by omega) (by omega)) (SH_ship (by omega) (by omega)) d_X6_sell_23 ?_
        refine lv_topi (fun x9 ex9 => ?_)
        have hG := bnd_use ex9 hG
        refine lv_if_le (tgt := 62) hx hb d_X6_sell_26 (by decide) (fun c10 => ?_) (fun c10 => ?_)
        · have f11 := i_le c10
          have r12 : Rg x9 (-2147483648) 0 := by obtain ⟨a1, a2⟩ := (rg_any x9); obtain ⟨b1, b2⟩ := (⟨by decide, by decide⟩ : Rg 0 0 0); have f := i_le c10; exact ⟨by omega, by omega⟩
          have hG := g_pos c10 hG
          refine lv_iload hx hb d_X6_sell_62 (lv_at hl 4 rfl) ?_
          exact r_zret X hr hlocks hw hS (narz r_y4) ⟨⟨hI1, hK1, r_y4⟩, hG.trans eRR.symm⟩ d_X6_sell_64
        · have f13 := i_nle c10
          have r14 : Rg x9 1 2147483647 := by obtain ⟨a1, a2⟩ := (rg_any x9); obtain ⟨b1, b2⟩ := (⟨by decide, by decide⟩ : Rg 0 0 0); have f := i_nle c10; exact ⟨by omega, by omega⟩
          have hG := g_neg c10 hG
          refine lv_aload_n hx hb d_X6_sell_29 rfl (lv_at hl 0 rfl) ?_
          refine lv_aload_n hx hb d_X6_sell_30 rfl (lv_at hl 3 rfl) ?_
          refine r_ci (r_runV (n := 1) (As := [.ref (ad q3)]) (rest := []) X hw (ct_X6_bestBuyer_1 l D dA ad v1 hI1 q3 (by omega) (by omega)) gc_X6_89 (rfl : KD 1 = _) (by decide) rfl (by decide +kernel) ⟨rfl, rfl, Nat.le_of_ble_eq_true rfl, Nat.le_of_ble_eq_true rfl⟩ rfl hl.1 rfl (Nat.le_of_ble_eq_true rfl) ⟨Nat.zero_le _, Nat.zero_le _⟩ d_X6_sell_31) hS (fun x16 v17 H locs hp15 hw hS => ?_)
          obtain ⟨hp15, hE18⟩ := hp15
          obtain ⟨ev17, hp15⟩ := hp15
          rw [ev17] at hw
          have hG := bnd_use hE18 hG
          refine lv_istore (lv' := [(6, .int x16), (0, .ref (ad 1)), (1, .int si), (2, .ref (ad 30)), (3, .ref (ad q3)), (4, .int y4), (5, .int y5)]) hx hb d_X6_sell_34 hl (by decide) rfl (fun ls hl => ?_)
          refine lv_iload hx hb d_X6_sell_36 (lv_at hl 0 rfl) ?_
          refine lv_iconst (v := -1) hx hb d_X6_sell_38 (by decide) ?_
          refine lv_icmp_ne (tgt := 45) hx hb d_X6_sell_39 (by decide) (fun c19 => ?_) (fun c19 => ?_)
          · have f20 := i_ne c19
            have r21 : Rg x16 0 9 := by obtain ⟨a1, a2⟩ := hp15; obtain ⟨b1, b2⟩ := (⟨by decide, by decide⟩ : Rg (-1) (-1) (-1)); have f := i_ne c19; exact ⟨by omega, by omega⟩
            have hG := g_neg c19 hG
            refine lv_aload_n hx hb d_X6_sell_45 rfl (lv_at hl 1 rfl) ?_
            refine lv_iload_n hx hb d_X6_sell_46 rfl (lv_at hl 2 rfl) ?_
            refine lv_iload hx hb d_X6_sell_47 (lv_at hl 0 rfl) ?_
            refine lv_aload_n hx hb d_X6_sell_49 rfl (lv_at hl 3 rfl) ?_
            refine r_cv (r_runV (n := 3) (As := [.int si, .int x16, .ref (ad 30)]) (rest := []) X hw (ct_X6_strike_1_30 l D dA ad v1 hI1 si x16 r_si r21) gc_X6_93 (rfl : KD 1 = _) (by decide) rfl (by decide +kernel) ⟨rfl, rfl, Nat.le_of_ble_eq_true rfl, Nat.le_of_ble_eq_true rfl⟩ rfl hl.1 rfl (Nat.le_of_ble_eq_true rfl) ⟨Nat.zero_le _, Nat.zero_le _⟩ d_X6_sell_50) hS (fun v23 H locs hp22 hw hS => ?_)
            obtain ⟨hp22, hE24⟩ := hp22
            obtain ⟨hI25, hK26⟩ := hp22
            have hK27 : Kp (kp_X6_sell_1_30 si) v v23 := Kp.tr hK1 hK26 (by have z0 : (0 : Int32).toInt = 0 := rfl; intro a j; unfold kp_X6_sell_1_30 kp_X6_strike_1_30; omega)
            have hG := bnd_use hE24 hG
            refine lv_iconst (v := 1) hx hb d_X6_sell_53 (by decide) ?_
            refine lv_istore (lv' := [(4, .int 1), (6, .int x16), (0, .ref (ad 1)), (1, .int si), (2, .ref (ad 30)), (3, .ref (ad q3)), (5, .int y5)]) hx hb d_X6_sell_54 hl (by decide) rfl (fun ls hl => ?_)
            obtain ⟨x28, ex28⟩ : ∃ y : Int32, y = y5 + 1 := ⟨_, rfl⟩
            have hG := bnd_use ex28 hG
            refine lv_iinc (v := x28) (lv' := [(5, .int x28), (4, .int 1), (6, .int x16), (0, .ref (ad 1)), (1, .int si), (2, .ref (ad 30)), (3, .ref (ad q3))]) hx hb d_X6_sell_56 hl (k := 6) rfl (by rw [ex28]; rfl) (by decide) rfl (fun ls hl => ?_)
            have r29 : Rg x28 1 10 := rg_add ex28 r7 (⟨by decide, by decide⟩ : Rg 1 1 1) (by decide) (by decide)
            have s30 : x28.toInt = y5.toInt + (1 : Int32).toInt := by rw [ex28]; exact i_add (by obtain ⟨_, _⟩ := r7; obtain ⟨_, _⟩ := (⟨by decide, by decide⟩ : Rg 1 1 1); omega) (by obtain ⟨_, _⟩ := r7; obtain ⟨_, _⟩ := (⟨by decide, by decide⟩ : Rg 1 1 1); omega)
            have s30l : (1 : Int32).toInt = 1 := rfl
            refine lv_goto (tgt := 13) hx hb d_X6_sell_59 (by decide) ?_
            exact ih0 q3 1 x28 v23 _ _ _ (by have := s30; obtain ⟨_, _⟩ := (⟨by decide, by decide⟩ : Rg 1 1 1); obtain ⟨_, _⟩ := r29; omega) (by omega) (by omega) (rg_w (⟨by decide, by decide⟩ : Rg 1 1 1) (by decide) (by decide)) (rg_w r29 (by decide) (by decide)) hI25 hK27 hG hw hS (lv_sub hl [3, 4, 5, 6, 1, 0] rfl)
          · have f31 := i_eq c19
            have r32 : Rg x16 (-1) (-1) := by obtain ⟨a1, a2⟩ := hp15; obtain ⟨b1, b2⟩ := (⟨by decide, by decide⟩ : Rg (-1) (-1) (-1)); have f := i_eq c19; exact ⟨by omega, by omega⟩
            have hG := g_pos c19 hG
            refine lv_goto (tgt := 62) hx hb d_X6_sell_42 (by decide) ?_
            refine lv_iload hx hb d_X6_sell_62 (lv_at hl 5 rfl) ?_
            exact r_zret X hr hlocks hw hS (narz r_y4) ⟨⟨hI1, hK1, r_y4⟩, hG.trans eRR.symm⟩ d_X6_sell_64
  have ih0 := LL 100000
  have hK0 : Kp (kp_X6_sell_1_30 si) v v := Kp.rf _ v
  have hG := eRR
  unfold f_X6_sell_1_30 at hG
  refine lv_aload_n hx hb d_X6_sell_0 rfl (lv_at hl 0 rfl) ?_
  refine r_getr (r := 10) X hw FL_X6_11 (rfl : KD 1 = _) rfl d_X6_sell_1 ?_
  refine lv_iload_n hx hb d_X6_sell_4 rfl (lv_at hl 1 rfl) ?_
  refine r_aald X hw (rfl : KD 10 = _) (Or.inl rfl) (Rg.vp (b := 19) r_si (by decide)) rfl d_X6_sell_5 ?_
  refine r_nm (fun kc33 ekc33 => ?_)
  have hG := bnd_use ekc33 hG
  have kc33a : 100 ≤ kc33 := by omega
  have kc33b : kc33 ≤ 119 := by have := Rg.nat r_si; omega
  refine lv_astore_n (lv' := [(3, .ref (ad kc33)), (0, .ref (ad 1)), (1, .int si), (2, .ref (ad 30))]) hx hb d_X6_sell_6 rfl hl (by decide) rfl (fun ls hl => ?_)
  refine lv_iconst (v := 0) hx hb d_X6_sell_7 (by decide) ?_
  refine lv_istore (lv' := [(4, .int 0), (3, .ref (ad kc33)), (0, .ref (ad 1)), (1, .int si), (2, .ref (ad 30))]) hx hb d_X6_sell_8 hl (by decide) rfl (fun ls hl => ?_)
  refine lv_iconst (v := 0) hx hb d_X6_sell_10 (by decide) ?_
  refine lv_istore (lv' := [(5, .int 0), (4, .int 0), (3, .ref (ad kc33)), (0, .ref (ad 1)), (1, .int si), (2, .ref (ad 30))]) hx hb d_X6_sell_11 hl (by decide) rfl (fun ls hl => ?_)
  exact ih0 kc33 0 0 v _ _ _ (by obtain ⟨_, _⟩ := (⟨by decide, by decide⟩ : Rg 0 0 0); obtain ⟨_, _⟩ := (⟨by decide, by decide⟩ : Rg 0 0 0); omega) (by omega) (by omega) (rg_w (⟨by decide, by decide⟩ : Rg 0 0 0) (by decide) (by decide)) (rg_w (⟨by decide, by decide⟩ : Rg 0 0 0) (by decide) (by decide)) hI hK0 hG hw hS (lv_sub hl [3, 4, 5, 2, 1, 0] rfl)
theorem d_X6_trade_0 : decode c_X6_trade 0 = .ok (.iconst 0, 1) := by decide +kernel
theorem d_X6_trade_1 : decode c_X6_trade 1 = .ok (.istore_n 3, 1) := by decide +kernel
theorem d_X6_trade_2 : decode c_X6_trade 2 = .ok (.iload_n 3, 1) := by decide +kernel
theorem d_X6_trade_3 : decode c_X6_trade 3 = .ok (.aload_n 1, 1) := by decide +kernel
theorem d_X6_trade_4 : decode c_X6_trade 4 = .ok (.getfield 63, 3) := by decide +kernel
theorem d_X6_trade_7 : decode c_X6_trade 7 = .ok (.if_icmp .ge 37, 3) := by decide +kernel
theorem d_X6_trade_10 : decode c_X6_trade 10 = .ok (.aload_n 1, 1) := by decide +kernel
theorem d_X6_trade_11 : decode c_X6_trade 11 = .ok (.getfield 68, 3) := by decide +kernel
theorem d_X6_trade_14 : decode c_X6_trade 14 = .ok (.iload_n 3, 1) := by decide +kernel
theorem d_X6_trade_15 : decode c_X6_trade 15 = .ok (.iaload, 1) := by decide +kernel
theorem d_X6_trade_16 : decode c_X6_trade 16 = .ok (.istore 4, 2) := by decide +kernel
theorem d_X6_trade_18 : decode c_X6_trade 18 = .ok (.aload_n 0, 1) := by decide +kernel
theorem d_X6_trade_19 : decode c_X6_trade 19 = .ok (.iload 4, 2) := by decide +kernel
theorem d_X6_trade_21 : decode c_X6_trade 21 = .ok (.aload_n 2, 1) := by decide +kernel
theorem d_X6_trade_22 : decode c_X6_trade 22 = .ok (.invokevirtual 71, 3) := by decide +kernel
theorem d_X6_trade_25 : decode c_X6_trade 25 = .ok (.ifCond .ne 13, 3) := by decide +kernel
theorem d_X6_trade_28 : decode c_X6_trade 28 = .ok (.aload_n 0, 1) := by decide +kernel
theorem d_X6_trade_29 : decode c_X6_trade 29 = .ok (.getfield 11, 3) := by decide +kernel
theorem d_X6_trade_32 : decode c_X6_trade 32 = .ok (.iload 4, 2) := by decide +kernel
theorem d_X6_trade_34 : decode c_X6_trade 34 = .ok (.aaload, 1) := by decide +kernel
theorem d_X6_trade_35 : decode c_X6_trade 35 = .ok (.invokevirtual 75, 3) := by decide +kernel
theorem d_X6_trade_38 : decode c_X6_trade 38 = .ok (.iinc 3 1, 3) := by decide +kernel
theorem d_X6_trade_41 : decode c_X6_trade 41 = .ok (.goto (-39), 3) := by decide +kernel
theorem d_X6_trade_44 : decode c_X6_trade 44 = .ok (.aload_n 2, 1) := by decide +kernel
theorem d_X6_trade_45 : decode c_X6_trade 45 = .ok (.getfield 78, 3) := by decide +kernel
theorem d_X6_trade_48 : decode c_X6_trade 48 = .ok (.ifCond .le 16, 3) := by decide +kernel
theorem d_X6_trade_51 : decode c_X6_trade 51 = .ok (.aload_n 0, 1) := by decide +kernel
theorem d_X6_trade_52 : decode c_X6_trade 52 = .ok (.aload_n 2, 1) := by decide +kernel
theorem d_X6_trade_53 : decode c_X6_trade 53 = .ok (.getfield 83, 3) := by decide +kernel
theorem d_X6_trade_56 : decode c_X6_trade 56 = .ok (.aload_n 2, 1) := by decide +kernel
theorem d_X6_trade_57 : decode c_X6_trade 57 = .ok (.getfield 78, 3) := by decide +kernel
theorem d_X6_trade_60 : decode c_X6_trade 60 = .ok (.idiv, 1) := by decide +kernel
theorem d_X6_trade_61 : decode c_X6_trade 61 = .ok (.putfield 39, 3) := by decide +kernel
theorem d_X6_trade_64 : decode c_X6_trade 64 = .ok (.return_, 1) := by decide +kernel
def kp_X6_trade_1_21_30  (a j : Nat) : Prop := (a < 100 ∨ 120 ≤ a ∨ j ≤ 4) ∧ (a < 200 ∨ 210 ≤ a ∨ j ≠ 2) ∧ (a < 300 ∨ 306 ≤ a) ∧ a ≠ 30 ∧ a ≠ 32 ∧ a ≠ 34 ∧ a ≠ 36 ∧ a ≠ 38 ∧ (a ≠ 1 ∨ j ≠ 6)
def b_X6_trade_1_21_30_2  (rc2 : Int32 → tV → tV) (y3 : Int32) (v1 : tV) : tV := bnd (v1 21 2) fun x1 => (if x1 ≤ y3 then bnd (v1 30 5) fun x6 => (if x6 ≤ (0 : Int32) then v1 else bnd (v1 30 6) fun x13 => bnd (x13 / x6) fun x14 => bnd (up2 v1 1 6 x14) fun v15 => v15) else bnd (v1 23 y3.toNatClampNeg) fun x23 => bnd2 (f_X6_sell_1_30 v1 x23) fun x26 v27 => (if x26 = (0 : Int32) then bnd (100 + x23.toNatClampNeg) fun kc40 => bnd (f_X7_miss v27 kc40) fun v42 => bnd (y3 + 1) fun x47 => rc2 x47 v42 else bnd (y3 + 1) fun x35 => rc2 x35 v27))
def g_X6_trade_1_21_30_2  : Nat → Int32 → tV → tV
  | 0, _, v1 => v1
  | n + 1, y3, v1 => b_X6_trade_1_21_30_2  (g_X6_trade_1_21_30_2  n) y3 v1
def f_X6_trade_1_21_30 (v : tV)  : tV := g_X6_trade_1_21_30_2  100000 0 v
set_option maxHeartbeats 4000000 in
set_option maxRecDepth 100000 in
theorem ct_X6_trade_1_21_30 (l : Launch) (D : va_G) (dA : Nat → ClassId) (ad : Nat → Nat) (v : tV) (hI : Inv v)  : Met l m_X6_trade [.code m_X6_trade c_X6_trade 5 none] ({ frames := 5, cells := 0, slots := 0, locals := 136 } : Room) (tP D dA ad v [.ref (ad 1), .ref (ad 21), .ref (ad 30)]) (tQv D dA ad (fun v' => (Inv v' ∧ Kp kp_X6_trade_1_21_30 v v') ∧ v' = f_X6_trade_1_21_30 v )) 0 0 (tA ad) := by
  refine tMet (by decide) (Nat.le_of_ble_eq_true rfl) ?_
  intro p e s m below meth c ls X hr hlocks hw hl
  have X : CX p s m ([.ref (ad 1), .ref (ad 21), .ref (ad 30)] : List Value).toArray c c_X6_trade N_X6 5 D dA := X
  have hx := X.1
  have hb := X.2.1
  have hS : va_S (tA ad) s.heap s.heap [] := va_S.rf
  have hl : lv_has ls 5 [(0, .ref (ad 1)), (1, .ref (ad 21)), (2, .ref (ad 30))] := hl
  obtain ⟨RR, eRR⟩ : ∃ z, f_X6_trade_1_21_30 v  = z := ⟨_, rfl⟩
  have LL : ∀ n : Nat, (∀ (y3 : Int32) (v1 : tV) (H : Heap) (locs : List Loc) (ls : Array Slot), (20 - y3.toInt).toNat < n → Rg y3 0 20 → Inv v1 → Kp kp_X6_trade_1_21_30 v v1 → g_X6_trade_1_21_30_2  n y3 v1 = RR → tI D dA ad v1 H → va_S (tA ad) s.heap H locs → lv_has ls 5 [(0, .ref (ad 1)), (1, .ref (ad 21)), (2, .ref (ad 30)), (3, .int y3)] → W p l e ({ frames := 5, cells := 0, slots := 0, locals := 136 } : Room) s m ([.ref (ad 1), .ref (ad 21), .ref (ad 30)] : List Value).toArray below meth c H locs 0 0 (MQ below (tQv D dA ad (fun v' => (Inv v' ∧ Kp kp_X6_trade_1_21_30 v v') ∧ v' = f_X6_trade_1_21_30 v )) ([.ref (ad 1), .ref (ad 21), .ref (ad 30)] : List Value).toArray s 0 0 (tA ad)) (F0 m 2 ls [])) := by
    intro n
    induction n with
    | zero => intros; omega
    | succ n ih =>
      have ih0 := ih
      intro y3 v1 H locs ls hmu r_y3 hI1 hK1 hG hw hS hl
      have hG : b_X6_trade_1_21_30_2  (g_X6_trade_1_21_30_2  n) y3 v1 = RR := hG
      unfold b_X6_trade_1_21_30_2 at hG
      refine lv_iload_n hx hb d_X6_trade_2 rfl (lv_at hl 3 rfl) ?_
      refine lv_aload_n hx hb d_X6_trade_3 rfl (lv_at hl 1 rfl) ?_
      refine r_geti X hw FL_X6_63 (rfl : KD 21 = _) rfl d_X6_trade_4 ?_
      refine lv_topi (fun x1 ex1 => ?_)
      have hG := bnd_use ex1 hG
      have r2 : Rg x1 0 20 := by rw [ex1]; exact hI1 _ _ _ _ rfl
      have hm3 : v1 21 2 = x1 := ex1.symm
      refine lv_icmp_ge (tgt := 44) hx hb d_X6_trade_7 (by decide) (fun c4 => ?_) (fun c4 => ?_)
      · have f5 := i_le c4
        have hG := g_pos c4 hG
        refine lv_aload_n hx hb d_X6_trade_44 rfl (lv_at hl 2 rfl) ?_
        refine r_geti X hw FL_X6_78 (rfl : KD 30 = _) rfl d_X6_trade_45 ?_
        refine lv_topi (fun x6 ex6 => ?_)
        have hG := bnd_use ex6 hG
        have hm7 : v1 30 5 = x6 := ex6.symm
        refine lv_if_le (tgt := 64) hx hb d_X6_trade_48 (by decide) (fun c8 => ?_) (fun c8 => ?_)
        · have f9 := i_le c8
          have r10 : Rg x6 (-2147483648) 0 := by obtain ⟨a1, a2⟩ := (rg_any x6); obtain ⟨b1, b2⟩ := (⟨by decide, by decide⟩ : Rg 0 0 0); have f := i_le c8; exact ⟨by omega, by omega⟩
          have hG := g_pos c8 hG
          exact r_vret X hr hlocks hw hS ⟨⟨hI1, hK1⟩, hG.trans eRR.symm⟩ d_X6_trade_64
        · have f11 := i_nle c8
          have r12 : Rg x6 1 2147483647 := by obtain ⟨a1, a2⟩ := (rg_any x6); obtain ⟨b1, b2⟩ := (⟨by decide, by decide⟩ : Rg 0 0 0); have f := i_nle c8; exact ⟨by omega, by omega⟩
          have hG := g_neg c8 hG
          refine lv_aload_n hx hb d_X6_trade_51 rfl (lv_at hl 0 rfl) ?_
          refine lv_aload_n hx hb d_X6_trade_52 rfl (lv_at hl 2 rfl) ?_
          refine r_geti X hw FL_X6_83 (rfl : KD 30 = _) rfl d_X6_trade_53 ?_
          refine lv_topi (fun x13 ex13 => ?_)
          have hG := bnd_use ex13 hG
          refine lv_aload_n hx hb d_X6_trade_56 rfl (lv_at hl 2 rfl) ?_
          refine r_geti X hw FL_X6_78 (rfl : KD 30 = _) rfl d_X6_trade_57 ?_
          rw [hm7]
          refine lv_idiv hx hb d_X6_trade_60 (by intro h; have := i_eq h; obtain ⟨b1, b2⟩ := r12; have z0 : (0 : Int32).toInt = 0 := rfl; omega) ?_
          refine lv_topi (fun x14 ex14 => ?_)
          have hG := bnd_use ex14 hG
          refine r_put X hw hS FP_X6_39 (rfl : KD 1 = _) rfl ⟨rfl, rfl⟩ d_X6_trade_61 (fun H locs hw hS => ?_)
          obtain ⟨v15, ev15⟩ : ∃ z, z = up2 v1 1 6 x14 := ⟨_, rfl⟩
          rw [← ev15] at hw
          have hG := bnd_use ev15 hG
          have hI16 : Inv v15 := by rw [ev15]; exact Inv.put0 hI1 _ rfl
          have hK17 : Kp kp_X6_trade_1_21_30 v v15 := by rw [ev15]; exact Kp.put hK1 _ (by unfold kp_X6_trade_1_21_30; omega)
          have hm18 : v15 21 2 = x1 := by rw [ev15, up2_n _ _ (by omega)]; exact hm3
          have hm19 : v15 30 5 = x6 := by rw [ev15, up2_n _ _ (by omega)]; exact hm7
          exact r_vret X hr hlocks hw hS ⟨⟨hI16, hK17⟩, hG.trans eRR.symm⟩ d_X6_trade_64
      · have f20 := i_nle c4
        have r21 : Rg y3 0 19 := by obtain ⟨a1, a2⟩ := r_y3; obtain ⟨b1, b2⟩ := r2; have f := i_nle c4; exact ⟨by omega, by omega⟩
        have r22 : Rg x1 1 20 := by obtain ⟨a1, a2⟩ := r_y3; obtain ⟨b1, b2⟩ := r2; have f := i_nle c4; exact ⟨by omega, by omega⟩
        have hG := g_neg c4 hG
        refine lv_aload_n hx hb d_X6_trade_10 rfl (lv_at hl 1 rfl) ?_
        refine r_getr (r := 23) X hw FL_X6_68 (rfl : KD 21 = _) rfl d_X6_trade_11 ?_
        refine lv_iload_n hx hb d_X6_trade_14 rfl (lv_at hl 3 rfl) ?_
        refine r_iald X hw (rfl : KD 23 = _) (Rg.vp (b := 19) r21 (by decide)) rfl d_X6_trade_15 ?_
        refine lv_topi (fun x23 ex23 => ?_)
        have hG := bnd_use ex23 hG
        have r24 : Rg x23 0 19 := by rw [ex23]; exact hI1 _ _ _ _ rfl
        refine lv_istore (lv' := [(4, .int x23), (0, .ref (ad 1)), (1, .ref (ad 21)), (2, .ref (ad 30)), (3, .int y3)]) hx hb d_X6_trade_16 hl (by decide) rfl (fun ls hl => ?_)
        refine lv_aload_n hx hb d_X6_trade_18 rfl (lv_at hl 1 rfl) ?_
        refine lv_iload hx hb d_X6_trade_19 (lv_at hl 0 rfl) ?_
        refine lv_aload_n hx hb d_X6_trade_21 rfl (lv_at hl 3 rfl) ?_
        refine r_ci (r_runV (n := 2) (As := [.int x23, .ref (ad 30)]) (rest := []) X hw (ct_X6_sell_1_30 l D dA ad v1 hI1 x23 r24) gc_X6_71 (rfl : KD 1 = _) (by decide) rfl (by decide +kernel) ⟨rfl, rfl, Nat.le_of_ble_eq_true rfl, Nat.le_of_ble_eq_true rfl⟩ rfl hl.1 rfl (Nat.le_of_ble_eq_true rfl) ⟨Nat.zero_le _, Nat.zero_le _⟩ d_X6_trade_22) hS (fun x26 v27 H locs hp25 hw hS => ?_)
        obtain ⟨hp25, hE28⟩ := hp25
        obtain ⟨hI29, hK30, hp25⟩ := hp25
        have hK31 : Kp kp_X6_trade_1_21_30 v v27 := Kp.tr hK1 hK30 (by have z0 : (0 : Int32).toInt = 0 := rfl; intro a j; unfold kp_X6_trade_1_21_30 kp_X6_sell_1_30; omega)
        have hG := bnd2_use hE28 hG
        refine lv_if_ne (tgt := 38) hx hb d_X6_trade_25 (by decide) (fun c32 => ?_) (fun c32 => ?_)
        · have f33 := i_ne c32
          have r34 : Rg x26 1 1 := by obtain ⟨a1, a2⟩ := hp25; obtain ⟨b1, b2⟩ := (⟨by decide, by decide⟩ : Rg 0 0 0); have f := i_ne c32; exact ⟨by omega, by omega⟩
          have hG := g_neg c32 hG
          obtain ⟨x35, ex35⟩ : ∃ y : Int32, y = y3 + 1 := ⟨_, rfl⟩
          have hG := bnd_use ex35 hG
          refine lv_iinc (v := x35) (lv' := [(3, .int x35), (4, .int x23), (0, .ref (ad 1)), (1, .ref (ad 21)), (2, .ref (ad 30))]) hx hb d_X6_trade_38 hl (k := 4) rfl (by rw [ex35]; rfl) (by decide) rfl (fun ls hl => ?_)
          have r36 : Rg x35 1 20 := rg_add ex35 r21 (⟨by decide, by decide⟩ : Rg 1 1 1) (by decide) (by decide)
          have s37 : x35.toInt = y3.toInt + (1 : Int32).toInt := by rw [ex35]; exact i_add (by obtain ⟨_, _⟩ := r21; obtain ⟨_, _⟩ := (⟨by decide, by decide⟩ : Rg 1 1 1); omega) (by obtain ⟨_, _⟩ := r21; obtain ⟨_, _⟩ := (⟨by decide, by decide⟩ : Rg 1 1 1); omega)
          have s37l : (1 : Int32).toInt = 1 := rfl
          refine lv_goto (tgt := 2) hx hb d_X6_trade_41 (by decide) ?_
          exact ih0 x35 v27 _ _ _ (by have := s37; obtain ⟨_, _⟩ := r36; omega) (rg_w r36 (by decide) (by decide)) hI29 hK31 hG hw hS (lv_sub hl [2, 3, 4, 0] rfl)
        · have f38 := i_eq c32
          have r39 : Rg x26 0 0 := by obtain ⟨a1, a2⟩ := hp25; obtain ⟨b1, b2⟩ := (⟨by decide, by decide⟩ : Rg 0 0 0); have f := i_eq c32; exact ⟨by omega, by omega⟩
          have hG := g_pos c32 hG
          refine lv_aload_n hx hb d_X6_trade_28 rfl (lv_at hl 1 rfl) ?_
          refine r_getr (r := 10) X hw FL_X6_11 (rfl : KD 1 = _) rfl d_X6_trade_29 ?_
          refine lv_iload hx hb d_X6_trade_32 (lv_at hl 0 rfl) ?_
          refine r_aald X hw (rfl : KD 10 = _) (Or.inl rfl) (Rg.vp (b := 19) r24 (by decide)) rfl d_X6_trade_34 ?_
          refine r_nm (fun kc40 ekc40 => ?_)
          have hG := bnd_use ekc40 hG
          have kc40a : 100 ≤ kc40 := by omega
          have kc40b : kc40 ≤ 119 := by have := Rg.nat r24; omega
          refine r_cv (r_runV (n := 0) (As := []) (rest := []) X hw (ct_X7_miss l D dA ad v27 hI29 kc40 (by omega) (by omega)) gc_X6_75 (KD_ship (by omega) (by omega)) (by decide) rfl (by decide +kernel) ⟨rfl, rfl, Nat.le_of_ble_eq_true rfl, Nat.le_of_ble_eq_true rfl⟩ rfl hl.1 rfl (Nat.le_of_ble_eq_true rfl) ⟨Nat.zero_le _, Nat.zero_le _⟩ d_X6_trade_35) hS (fun v42 H locs hp41 hw hS => ?_)
          obtain ⟨hp41, hE43⟩ := hp41
          obtain ⟨hI44, hK45⟩ := hp41
          have hK46 : Kp kp_X6_trade_1_21_30 v v42 := Kp.tr hK31 hK45 (by have z0 : (0 : Int32).toInt = 0 := rfl; intro a j; unfold kp_X6_trade_1_21_30 kp_X7_miss; omega)
          have hG := bnd_use hE43 hG
          obtain ⟨x47, ex47⟩ : ∃ y : Int32, y = y3 + 1 := ⟨_, rfl⟩
          have hG := bnd_use ex47 hG
          refine lv_iinc (v := x47) (lv' := [(3, .int x47), (4, .int x23), (0, .ref (ad 1)), (1, .ref (ad 21)), (2, .ref (ad 30))]) hx hb d_X6_trade_38 hl (k := 4) rfl (by rw [ex47]; rfl) (by decide) rfl (fun ls hl => ?_)
          have r48 : Rg x47 1 20 := rg_add ex47 r21 (⟨by decide, by decide⟩ : Rg 1 1 1) (by decide) (by decide)
          have s49 : x47.toInt = y3.toInt + (1 : Int32).toInt := by rw [ex47]; exact i_add (by obtain ⟨_, _⟩ := r21; obtain ⟨_, _⟩ := (⟨by decide, by decide⟩ : Rg 1 1 1); omega) (by obtain ⟨_, _⟩ := r21; obtain ⟨_, _⟩ := (⟨by decide, by decide⟩ : Rg 1 1 1); omega)
          have s49l : (1 : Int32).toInt = 1 := rfl
          refine lv_goto (tgt := 2) hx hb d_X6_trade_41 (by decide) ?_
          exact ih0 x47 v42 _ _ _ (by have := s49; obtain ⟨_, _⟩ := r48; omega) (rg_w r48 (by decide) (by decide)) hI44 hK46 hG hw hS (lv_sub hl [2, 3, 4, 0] rfl)
  have ih0 := LL 100000
  have hK0 : Kp kp_X6_trade_1_21_30 v v := Kp.rf _ v
  have hG := eRR
  unfold f_X6_trade_1_21_30 at hG
  refine lv_iconst (v := 0) hx hb d_X6_trade_0 (by decide) ?_
  refine lv_istore_n (lv' := [(3, .int 0), (0, .ref (ad 1)), (1, .ref (ad 21)), (2, .ref (ad 30))]) hx hb d_X6_trade_1 rfl hl (by decide) rfl (fun ls hl => ?_)
  exact ih0 0 v _ _ _ (by obtain ⟨_, _⟩ := (⟨by decide, by decide⟩ : Rg 0 0 0); omega) (rg_w (⟨by decide, by decide⟩ : Rg 0 0 0) (by decide) (by decide)) hI hK0 hG hw hS (lv_sub hl [1, 2, 3, 0] rfl)
theorem d_X6_endDay_0 : decode c_X6_endDay 0 = .ok (.iconst 0, 1) := by decide +kernel
theorem d_X6_endDay_1 : decode c_X6_endDay 1 = .ok (.istore_n 2, 1) := by decide +kernel
theorem d_X6_endDay_2 : decode c_X6_endDay 2 = .ok (.iload_n 2, 1) := by decide +kernel
theorem d_X6_endDay_3 : decode c_X6_endDay 3 = .ok (.bipush 6, 2) := by decide +kernel
theorem d_X6_endDay_5 : decode c_X6_endDay 5 = .ok (.if_icmp .ge 19, 3) := by decide +kernel
theorem d_X6_endDay_8 : decode c_X6_endDay 8 = .ok (.aload_n 0, 1) := by decide +kernel
theorem d_X6_endDay_9 : decode c_X6_endDay 9 = .ok (.getfield 25, 3) := by decide +kernel
theorem d_X6_endDay_12 : decode c_X6_endDay 12 = .ok (.iload_n 2, 1) := by decide +kernel
theorem d_X6_endDay_13 : decode c_X6_endDay 13 = .ok (.aaload, 1) := by decide +kernel
theorem d_X6_endDay_14 : decode c_X6_endDay 14 = .ok (.iload_n 1, 1) := by decide +kernel
theorem d_X6_endDay_15 : decode c_X6_endDay 15 = .ok (.invokevirtual 130, 3) := by decide +kernel
theorem d_X6_endDay_18 : decode c_X6_endDay 18 = .ok (.iinc 2 1, 3) := by decide +kernel
theorem d_X6_endDay_21 : decode c_X6_endDay 21 = .ok (.goto (-19), 3) := by decide +kernel
theorem d_X6_endDay_24 : decode c_X6_endDay 24 = .ok (.aload_n 0, 1) := by decide +kernel
theorem d_X6_endDay_25 : decode c_X6_endDay 25 = .ok (.dup, 1) := by decide +kernel
theorem d_X6_endDay_26 : decode c_X6_endDay 26 = .ok (.getfield 36, 3) := by decide +kernel
theorem d_X6_endDay_29 : decode c_X6_endDay 29 = .ok (.iconst 1, 1) := by decide +kernel
theorem d_X6_endDay_30 : decode c_X6_endDay 30 = .ok (.iadd, 1) := by decide +kernel
theorem d_X6_endDay_31 : decode c_X6_endDay 31 = .ok (.putfield 36, 3) := by decide +kernel
theorem d_X6_endDay_34 : decode c_X6_endDay 34 = .ok (.return_, 1) := by decide +kernel
def kp_X6_endDay_1 (cold : Int32) (a j : Nat) : Prop := (a < 300 ∨ 306 ≤ a) ∧ (a ≠ 1 ∨ j ≠ 5)
def b_X6_endDay_1_2 (cold : Int32) (rc2 : Int32 → tV → tV) (y2 : Int32) (v1 : tV) : tV := (if (6 : Int32) ≤ y2 then bnd (v1 1 5) fun x4 => bnd (x4 + (1 : Int32)) fun x5 => bnd (up2 v1 1 5 x5) fun v6 => v6 else bnd (300 + y2.toNatClampNeg) fun kc11 => bnd (f_X9_heat v1 kc11 cold) fun v13 => bnd (y2 + 1) fun x18 => rc2 x18 v13)
def g_X6_endDay_1_2 (cold : Int32) : Nat → Int32 → tV → tV
  | 0, _, v1 => v1
  | n + 1, y2, v1 => b_X6_endDay_1_2 cold (g_X6_endDay_1_2 cold n) y2 v1
def f_X6_endDay_1 (v : tV) (cold : Int32) : tV := g_X6_endDay_1_2 cold 100000 0 v
set_option maxHeartbeats 4000000 in
set_option maxRecDepth 100000 in
theorem ct_X6_endDay_1 (l : Launch) (D : va_G) (dA : Nat → ClassId) (ad : Nat → Nat) (v : tV) (hI : Inv v) (cold : Int32) (r_cold : Rg cold 0 4) : Met l m_X6_endDay [.code m_X6_endDay c_X6_endDay 3 none] ({ frames := 2, cells := 0, slots := 0, locals := 63 } : Room) (tP D dA ad v [.ref (ad 1), .int cold]) (tQv D dA ad (fun v' => (Inv v' ∧ Kp (kp_X6_endDay_1 cold) v v') ∧ v' = f_X6_endDay_1 v cold)) 0 0 (tA ad) := by
  refine tMet (by decide) (Nat.le_of_ble_eq_true rfl) ?_
  intro p e s m below meth c ls X hr hlocks hw hl
  have X : CX p s m ([.ref (ad 1), .int cold] : List Value).toArray c c_X6_endDay N_X6 3 D dA := X
  have hx := X.1
  have hb := X.2.1
  have hS : va_S (tA ad) s.heap s.heap [] := va_S.rf
  have hl : lv_has ls 3 [(0, .ref (ad 1)), (1, .int cold)] := hl
  obtain ⟨RR, eRR⟩ : ∃ z, f_X6_endDay_1 v cold = z := ⟨_, rfl⟩
  have LL : ∀ n : Nat, (∀ (y2 : Int32) (v1 : tV) (H : Heap) (locs : List Loc) (ls : Array Slot), (6 - y2.toInt).toNat < n → Rg y2 0 6 → Inv v1 → Kp (kp_X6_endDay_1 cold) v v1 → g_X6_endDay_1_2 cold n y2 v1 = RR → tI D dA ad v1 H → va_S (tA ad) s.heap H locs → lv_has ls 3 [(0, .ref (ad 1)), (1, .int cold), (2, .int y2)] → W p l e ({ frames := 2, cells := 0, slots := 0, locals := 63 } : Room) s m ([.ref (ad 1), .int cold] : List Value).toArray below meth c H locs 0 0 (MQ below (tQv D dA ad (fun v' => (Inv v' ∧ Kp (kp_X6_endDay_1 cold) v v') ∧ v' = f_X6_endDay_1 v cold)) ([.ref (ad 1), .int cold] : List Value).toArray s 0 0 (tA ad)) (F0 m 2 ls [])) := by
    intro n
    induction n with
    | zero => intros; omega
    | succ n ih =>
      have ih0 := ih
      intro y2 v1 H locs ls hmu r_y2 hI1 hK1 hG hw hS hl
      have hG : b_X6_endDay_1_2 cold (g_X6_endDay_1_2 cold n) y2 v1 = RR := hG
      unfold b_X6_endDay_1_2 at hG
      refine lv_iload_n hx hb d_X6_endDay_2 rfl (lv_at hl 2 rfl) ?_
      refine lv_bipush (v := 6) hx hb d_X6_endDay_3 (by decide) ?_
      refine lv_icmp_ge (tgt := 24) hx hb d_X6_endDay_5 (by decide) (fun c1 => ?_) (fun c1 => ?_)
      · have f2 := i_le c1
        have r3 : Rg y2 6 6 := by obtain ⟨a1, a2⟩ := r_y2; obtain ⟨b1, b2⟩ := (⟨by decide, by decide⟩ : Rg 6 6 6); have f := i_le c1; exact ⟨by omega, by omega⟩
        have hG := g_pos c1 hG
        refine lv_aload_n hx hb d_X6_endDay_24 rfl (lv_at hl 0 rfl) ?_
        refine lv_dup hx hb d_X6_endDay_25 rfl ?_
        refine r_geti X hw FL_X6_36 (rfl : KD 1 = _) rfl d_X6_endDay_26 ?_
        refine lv_topi (fun x4 ex4 => ?_)
        have hG := bnd_use ex4 hG
        refine lv_iconst (v := 1) hx hb d_X6_endDay_29 (by decide) ?_
        refine lv_iadd hx hb d_X6_endDay_30 ?_
        refine lv_topi (fun x5 ex5 => ?_)
        have hG := bnd_use ex5 hG
        refine r_put X hw hS FP_X6_36 (rfl : KD 1 = _) rfl ⟨rfl, rfl⟩ d_X6_endDay_31 (fun H locs hw hS => ?_)
        obtain ⟨v6, ev6⟩ : ∃ z, z = up2 v1 1 5 x5 := ⟨_, rfl⟩
        rw [← ev6] at hw
        have hG := bnd_use ev6 hG
        have hI7 : Inv v6 := by rw [ev6]; exact Inv.put0 hI1 _ rfl
        have hK8 : Kp (kp_X6_endDay_1 cold) v v6 := by rw [ev6]; exact Kp.put hK1 _ (by unfold kp_X6_endDay_1; omega)
        exact r_vret X hr hlocks hw hS ⟨⟨hI7, hK8⟩, hG.trans eRR.symm⟩ d_X6_endDay_34
      · have f9 := i_nle c1
        have r10 : Rg y2 0 5 := by obtain ⟨a1, a2⟩ := r_y2; obtain ⟨b1, b2⟩ := (⟨by decide, by decide⟩ : Rg 6 6 6); have f := i_nle c1; exact ⟨by omega, by omega⟩
        have hG := g_neg c1 hG
        refine lv_aload_n hx hb d_X6_endDay_8 rfl (lv_at hl 0 rfl) ?_
        refine r_getr (r := 16) X hw FL_X6_25 (rfl : KD 1 = _) rfl d_X6_endDay_9 ?_
        refine lv_iload_n hx hb d_X6_endDay_12 rfl (lv_at hl 2 rfl) ?_
        refine r_aald X hw (rfl : KD 16 = _) (Or.inr (Or.inr (Or.inl rfl))) (Rg.vp (b := 5) r10 (by decide)) rfl d_X6_endDay_13 ?_
        refine r_nm (fun kc11 ekc11 => ?_)
        have hG := bnd_use ekc11 hG
        have kc11a : 300 ≤ kc11 := by omega
        have kc11b : kc11 ≤ 305 := by have := Rg.nat r10; omega
        refine lv_iload_n hx hb d_X6_endDay_14 rfl (lv_at hl 1 rfl) ?_
        refine r_cv (r_runV (n := 1) (As := [.int cold]) (rest := []) X hw (ct_X9_heat l D dA ad v1 hI1 kc11 cold (by omega) (by omega) r_cold) gc_X6_130 (KD_ward (by omega) (by omega)) (by decide) rfl (by decide +kernel) ⟨rfl, rfl, Nat.le_of_ble_eq_true rfl, Nat.le_of_ble_eq_true rfl⟩ rfl hl.1 rfl (Nat.le_of_ble_eq_true rfl) ⟨Nat.zero_le _, Nat.zero_le _⟩ d_X6_endDay_15) hS (fun v13 H locs hp12 hw hS => ?_)
        obtain ⟨hp12, hE14⟩ := hp12
        obtain ⟨hI15, hK16⟩ := hp12
        have hK17 : Kp (kp_X6_endDay_1 cold) v v13 := Kp.tr hK1 hK16 (by have z0 : (0 : Int32).toInt = 0 := rfl; intro a j; unfold kp_X6_endDay_1 kp_X9_heat; omega)
        have hG := bnd_use hE14 hG
        obtain ⟨x18, ex18⟩ : ∃ y : Int32, y = y2 + 1 := ⟨_, rfl⟩
        have hG := bnd_use ex18 hG
        refine lv_iinc (v := x18) (lv' := [(2, .int x18), (0, .ref (ad 1)), (1, .int cold)]) hx hb d_X6_endDay_18 hl (k := 2) rfl (by rw [ex18]; rfl) (by decide) rfl (fun ls hl => ?_)
        have r19 : Rg x18 1 6 := rg_add ex18 r10 (⟨by decide, by decide⟩ : Rg 1 1 1) (by decide) (by decide)
        have s20 : x18.toInt = y2.toInt + (1 : Int32).toInt := by rw [ex18]; exact i_add (by obtain ⟨_, _⟩ := r10; obtain ⟨_, _⟩ := (⟨by decide, by decide⟩ : Rg 1 1 1); omega) (by obtain ⟨_, _⟩ := r10; obtain ⟨_, _⟩ := (⟨by decide, by decide⟩ : Rg 1 1 1); omega)
        have s20l : (1 : Int32).toInt = 1 := rfl
        refine lv_goto (tgt := 2) hx hb d_X6_endDay_21 (by decide) ?_
        exact ih0 x18 v13 _ _ _ (by have := s20; obtain ⟨_, _⟩ := r19; omega) (rg_w r19 (by decide) (by decide)) hI15 hK17 hG hw hS (lv_sub hl [1, 2, 0] rfl)
  have ih0 := LL 100000
  have hK0 : Kp (kp_X6_endDay_1 cold) v v := Kp.rf _ v
  have hG := eRR
  unfold f_X6_endDay_1 at hG
  refine lv_iconst (v := 0) hx hb d_X6_endDay_0 (by decide) ?_
  refine lv_istore_n (lv' := [(2, .int 0), (0, .ref (ad 1)), (1, .int cold)]) hx hb d_X6_endDay_1 rfl hl (by decide) rfl (fun ls hl => ?_)
  exact ih0 0 v _ _ _ (by obtain ⟨_, _⟩ := (⟨by decide, by decide⟩ : Rg 0 0 0); omega) (rg_w (⟨by decide, by decide⟩ : Rg 0 0 0) (by decide) (by decide)) hI hK0 hG hw hS (lv_sub hl [1, 2, 0] rfl)
theorem d_X6_lackedDays_0 : decode c_X6_lackedDays 0 = .ok (.iconst 0, 1) := by decide +kernel
theorem d_X6_lackedDays_1 : decode c_X6_lackedDays 1 = .ok (.istore_n 1, 1) := by decide +kernel
theorem d_X6_lackedDays_2 : decode c_X6_lackedDays 2 = .ok (.iconst 0, 1) := by decide +kernel
theorem d_X6_lackedDays_3 : decode c_X6_lackedDays 3 = .ok (.istore_n 2, 1) := by decide +kernel
theorem d_X6_lackedDays_4 : decode c_X6_lackedDays 4 = .ok (.iload_n 2, 1) := by decide +kernel
theorem d_X6_lackedDays_5 : decode c_X6_lackedDays 5 = .ok (.bipush 6, 2) := by decide +kernel
theorem d_X6_lackedDays_7 : decode c_X6_lackedDays 7 = .ok (.if_icmp .ge 21, 3) := by decide +kernel
theorem d_X6_lackedDays_10 : decode c_X6_lackedDays 10 = .ok (.iload_n 1, 1) := by decide +kernel
theorem d_X6_lackedDays_11 : decode c_X6_lackedDays 11 = .ok (.aload_n 0, 1) := by decide +kernel
theorem d_X6_lackedDays_12 : decode c_X6_lackedDays 12 = .ok (.getfield 25, 3) := by decide +kernel
theorem d_X6_lackedDays_15 : decode c_X6_lackedDays 15 = .ok (.iload_n 2, 1) := by decide +kernel
theorem d_X6_lackedDays_16 : decode c_X6_lackedDays 16 = .ok (.aaload, 1) := by decide +kernel
theorem d_X6_lackedDays_17 : decode c_X6_lackedDays 17 = .ok (.getfield 133, 3) := by decide +kernel
theorem d_X6_lackedDays_20 : decode c_X6_lackedDays 20 = .ok (.iadd, 1) := by decide +kernel
theorem d_X6_lackedDays_21 : decode c_X6_lackedDays 21 = .ok (.istore_n 1, 1) := by decide +kernel
theorem d_X6_lackedDays_22 : decode c_X6_lackedDays 22 = .ok (.iinc 2 1, 3) := by decide +kernel
theorem d_X6_lackedDays_25 : decode c_X6_lackedDays 25 = .ok (.goto (-21), 3) := by decide +kernel
theorem d_X6_lackedDays_28 : decode c_X6_lackedDays 28 = .ok (.iload_n 1, 1) := by decide +kernel
theorem d_X6_lackedDays_29 : decode c_X6_lackedDays 29 = .ok (.ireturn, 1) := by decide +kernel
def b_X6_lackedDays_1_4 (v : tV)  (rc4 : Int32 → Int32 → Int32) (y1 : Int32) (y2 : Int32) : Int32 := (if (6 : Int32) ≤ y2 then y1 else bnd (300 + y2.toNatClampNeg) fun kc6 => bnd (v kc6 2) fun x7 => bnd (y1 + x7) fun x8 => bnd (y2 + 1) fun x9 => rc4 x8 x9)
def g_X6_lackedDays_1_4 (v : tV)  : Nat → Int32 → Int32 → Int32
  | 0, _, _ => 0
  | n + 1, y1, y2 => b_X6_lackedDays_1_4 v  (g_X6_lackedDays_1_4 v  n) y1 y2
def f_X6_lackedDays_1 (v : tV)  : Int32 := g_X6_lackedDays_1_4 v  100000 0 0
set_option maxHeartbeats 4000000 in
set_option maxRecDepth 100000 in
theorem ct_X6_lackedDays_1 (l : Launch) (D : va_G) (dA : Nat → ClassId) (ad : Nat → Nat) (v : tV) (hI : Inv v)  : Met l m_X6_lackedDays [.code m_X6_lackedDays c_X6_lackedDays 3 (some .int)] ({ frames := 1, cells := 0, slots := 0, locals := 40 } : Room) (tP D dA ad v [.ref (ad 1)]) (tQi D dA ad (fun r v' => (v' = v) ∧ r = f_X6_lackedDays_1 v )) 0 0 (tA ad) := by
  refine tMet (by decide) (Nat.le_of_ble_eq_true rfl) ?_
  intro p e s m below meth c ls X hr hlocks hw hl
  have X : CX p s m ([.ref (ad 1)] : List Value).toArray c c_X6_lackedDays N_X6 3 D dA := X
  have hx := X.1
  have hb := X.2.1
  have hS : va_S (tA ad) s.heap s.heap [] := va_S.rf
  have hl : lv_has ls 3 [(0, .ref (ad 1))] := hl
  obtain ⟨RR, eRR⟩ : ∃ z, f_X6_lackedDays_1 v  = z := ⟨_, rfl⟩
  have LL : ∀ n : Nat, (∀ (y1 : Int32) (y2 : Int32)  (H : Heap) (locs : List Loc) (ls : Array Slot), (6 - y2.toInt).toNat < n → Rg y2 0 6 → g_X6_lackedDays_1_4 v  n y1 y2 = RR → tI D dA ad v H → va_S (tA ad) s.heap H locs → lv_has ls 3 [(0, .ref (ad 1)), (1, .int y1), (2, .int y2)] → W p l e ({ frames := 1, cells := 0, slots := 0, locals := 40 } : Room) s m ([.ref (ad 1)] : List Value).toArray below meth c H locs 0 0 (MQ below (tQi D dA ad (fun r v' => (v' = v) ∧ r = f_X6_lackedDays_1 v )) ([.ref (ad 1)] : List Value).toArray s 0 0 (tA ad)) (F0 m 4 ls [])) := by
    intro n
    induction n with
    | zero => intros; omega
    | succ n ih =>
      have ih0 := ih
      intro y1 y2 H locs ls hmu r_y2 hG hw hS hl
      have hG : b_X6_lackedDays_1_4 v  (g_X6_lackedDays_1_4 v  n) y1 y2 = RR := hG
      unfold b_X6_lackedDays_1_4 at hG
      refine lv_iload_n hx hb d_X6_lackedDays_4 rfl (lv_at hl 2 rfl) ?_
      refine lv_bipush (v := 6) hx hb d_X6_lackedDays_5 (by decide) ?_
      refine lv_icmp_ge (tgt := 28) hx hb d_X6_lackedDays_7 (by decide) (fun c1 => ?_) (fun c1 => ?_)
      · have f2 := i_le c1
        have r3 : Rg y2 6 6 := by obtain ⟨a1, a2⟩ := r_y2; obtain ⟨b1, b2⟩ := (⟨by decide, by decide⟩ : Rg 6 6 6); have f := i_le c1; exact ⟨by omega, by omega⟩
        have hG := g_pos c1 hG
        refine lv_iload_n hx hb d_X6_lackedDays_28 rfl (lv_at hl 1 rfl) ?_
        exact r_iret X hr hlocks hw hS ⟨rfl, hG.trans eRR.symm⟩ d_X6_lackedDays_29
      · have f4 := i_nle c1
        have r5 : Rg y2 0 5 := by obtain ⟨a1, a2⟩ := r_y2; obtain ⟨b1, b2⟩ := (⟨by decide, by decide⟩ : Rg 6 6 6); have f := i_nle c1; exact ⟨by omega, by omega⟩
        have hG := g_neg c1 hG
        refine lv_iload_n hx hb d_X6_lackedDays_10 rfl (lv_at hl 1 rfl) ?_
        refine lv_aload_n hx hb d_X6_lackedDays_11 rfl (lv_at hl 0 rfl) ?_
        refine r_getr (r := 16) X hw FL_X6_25 (rfl : KD 1 = _) rfl d_X6_lackedDays_12 ?_
        refine lv_iload_n hx hb d_X6_lackedDays_15 rfl (lv_at hl 2 rfl) ?_
        refine r_aald X hw (rfl : KD 16 = _) (Or.inr (Or.inr (Or.inl rfl))) (Rg.vp (b := 5) r5 (by decide)) rfl d_X6_lackedDays_16 ?_
        refine r_nm (fun kc6 ekc6 => ?_)
        have hG := bnd_use ekc6 hG
        have kc6a : 300 ≤ kc6 := by omega
        have kc6b : kc6 ≤ 305 := by have := Rg.nat r5; omega
        refine r_geti X hw FL_X6_133 (KD_ward (by omega) (by omega)) (SH_ward (by omega) (by omega) (by decide)) d_X6_lackedDays_17 ?_
        refine lv_topi (fun x7 ex7 => ?_)
        have hG := bnd_use ex7 hG
        refine lv_iadd hx hb d_X6_lackedDays_20 ?_
        refine lv_topi (fun x8 ex8 => ?_)
        have hG := bnd_use ex8 hG
        refine lv_istore_n (lv' := [(1, .int x8), (0, .ref (ad 1)), (2, .int y2)]) hx hb d_X6_lackedDays_21 rfl hl (by decide) rfl (fun ls hl => ?_)
        obtain ⟨x9, ex9⟩ : ∃ y : Int32, y = y2 + 1 := ⟨_, rfl⟩
        have hG := bnd_use ex9 hG
        refine lv_iinc (v := x9) (lv' := [(2, .int x9), (1, .int x8), (0, .ref (ad 1))]) hx hb d_X6_lackedDays_22 hl (k := 2) rfl (by rw [ex9]; rfl) (by decide) rfl (fun ls hl => ?_)
        have r10 : Rg x9 1 6 := rg_add ex9 r5 (⟨by decide, by decide⟩ : Rg 1 1 1) (by decide) (by decide)
        have s11 : x9.toInt = y2.toInt + (1 : Int32).toInt := by rw [ex9]; exact i_add (by obtain ⟨_, _⟩ := r5; obtain ⟨_, _⟩ := (⟨by decide, by decide⟩ : Rg 1 1 1); omega) (by obtain ⟨_, _⟩ := r5; obtain ⟨_, _⟩ := (⟨by decide, by decide⟩ : Rg 1 1 1); omega)
        have s11l : (1 : Int32).toInt = 1 := rfl
        refine lv_goto (tgt := 4) hx hb d_X6_lackedDays_25 (by decide) ?_
        exact ih0 x8 x9 _ _ _ (by have := s11; obtain ⟨_, _⟩ := r10; omega) (rg_w r10 (by decide) (by decide)) hG hw hS (lv_sub hl [2, 1, 0] rfl)
  have ih0 := LL 100000
  have hG := eRR
  unfold f_X6_lackedDays_1 at hG
  refine lv_iconst (v := 0) hx hb d_X6_lackedDays_0 (by decide) ?_
  refine lv_istore_n (lv' := [(1, .int 0), (0, .ref (ad 1))]) hx hb d_X6_lackedDays_1 rfl hl (by decide) rfl (fun ls hl => ?_)
  refine lv_iconst (v := 0) hx hb d_X6_lackedDays_2 (by decide) ?_
  refine lv_istore_n (lv' := [(2, .int 0), (1, .int 0), (0, .ref (ad 1))]) hx hb d_X6_lackedDays_3 rfl hl (by decide) rfl (fun ls hl => ?_)
  exact ih0 0 0 _ _ _ (by obtain ⟨_, _⟩ := (⟨by decide, by decide⟩ : Rg 0 0 0); obtain ⟨_, _⟩ := (⟨by decide, by decide⟩ : Rg 0 0 0); omega) (rg_w (⟨by decide, by decide⟩ : Rg 0 0 0) (by decide) (by decide)) hG hw hS (lv_sub hl [2, 1, 0] rfl)
def kp_X6_strike_3_31 (si : Int32) (bi : Int32) (a j : Nat) : Prop := (a < 140 ∨ 160 ≤ a ∨ j ≤ 4) ∧ (a < 220 ∨ 230 ≤ a ∨ j ≠ 2) ∧ (a < 312 ∨ 318 ≤ a) ∧ a ≠ 31 ∧ a ≠ 33 ∧ a ≠ 35 ∧ a ≠ 37 ∧ a ≠ 39
def f_X6_strike_3_31 (v : tV) (si : Int32) (bi : Int32) : tV := bnd (140 + si.toNatClampNeg) fun kc1 => bnd (220 + bi.toNatClampNeg) fun kc2 => bnd (v kc1 6) fun x3 => bnd (v kc2 2) fun x4 => bnd (if x4 < x3 then x4 else x3) fun x5 => bnd (v kc1 3) fun x6 => bnd (v kc2 3) fun x7 => bnd (x6 + x7) fun x8 => bnd (x8 / (2 : Int32)) fun x9 => bnd (f_X7_deliver v kc1 x5 x9) fun v11 => bnd (v11 kc2 2) fun x16 => bnd (x16 - x5) fun x17 => bnd (up2 v11 kc2 2 x17) fun v18 => bnd (v18 kc2 0) fun x21 => bnd (312 + x21.toNatClampNeg) fun kc24 => bnd (f_X9_receive v18 kc24 x5) fun v26 => bnd (f_X1_enter_31 v26 si bi x5 x9) fun v32 => v32
set_option maxHeartbeats 4000000 in
set_option maxRecDepth 100000 in
theorem ct_X6_strike_3_31 (l : Launch) (D : va_G) (dA : Nat → ClassId) (ad : Nat → Nat) (v : tV) (hI : Inv v) (si : Int32) (bi : Int32) (r_si : Rg si 0 19) (r_bi : Rg bi 0 9) : Met l m_X6_strike [.code m_X6_strike c_X6_strike 8 none] ({ frames := 3, cells := 0, slots := 0, locals := 83 } : Room) (tP D dA ad v [.ref (ad 3), .int si, .int bi, .ref (ad 31)]) (tQv D dA ad (fun v' => (Inv v' ∧ Kp (kp_X6_strike_3_31 si bi) v v') ∧ v' = f_X6_strike_3_31 v si bi)) 0 0 (tA ad) := by
  refine tMet (by decide) (Nat.le_of_ble_eq_true rfl) ?_
  intro p e s m below meth c ls X hr hlocks hw hl
  have X : CX p s m ([.ref (ad 3), .int si, .int bi, .ref (ad 31)] : List Value).toArray c c_X6_strike N_X6 8 D dA := X
  have hx := X.1
  have hb := X.2.1
  have hS : va_S (tA ad) s.heap s.heap [] := va_S.rf
  have hl : lv_has ls 8 [(0, .ref (ad 3)), (1, .int si), (2, .int bi), (3, .ref (ad 31))] := hl
  obtain ⟨RR, eRR⟩ : ∃ z, f_X6_strike_3_31 v si bi = z := ⟨_, rfl⟩
  have hK0 : Kp (kp_X6_strike_3_31 si bi) v v := Kp.rf _ v
  have hG := eRR
  unfold f_X6_strike_3_31 at hG
  refine lv_aload_n hx hb d_X6_strike_0 rfl (lv_at hl 0 rfl) ?_
  refine r_getr (r := 12) X hw FL_X6_11 (rfl : KD 3 = _) rfl d_X6_strike_1 ?_
  refine lv_iload_n hx hb d_X6_strike_4 rfl (lv_at hl 1 rfl) ?_
  refine r_aald X hw (rfl : KD 12 = _) (Or.inl rfl) (Rg.vp (b := 19) r_si (by decide)) rfl d_X6_strike_5 ?_
  refine r_nm (fun kc1 ekc1 => ?_)
  have hG := bnd_use ekc1 hG
  have kc1a : 140 ≤ kc1 := by omega
  have kc1b : kc1 ≤ 159 := by have := Rg.nat r_si; omega
  refine lv_astore (lv' := [(4, .ref (ad kc1)), (0, .ref (ad 3)), (1, .int si), (2, .int bi), (3, .ref (ad 31))]) hx hb d_X6_strike_6 hl (by decide) rfl (fun ls hl => ?_)
  refine lv_aload_n hx hb d_X6_strike_8 rfl (lv_at hl 1 rfl) ?_
  refine r_getr (r := 15) X hw FL_X6_19 (rfl : KD 3 = _) rfl d_X6_strike_9 ?_
  refine lv_iload_n hx hb d_X6_strike_12 rfl (lv_at hl 3 rfl) ?_
  refine r_aald X hw (rfl : KD 15 = _) (Or.inr (Or.inl rfl)) (Rg.vp (b := 9) r_bi (by decide)) rfl d_X6_strike_13 ?_
  refine r_nm (fun kc2 ekc2 => ?_)
  have hG := bnd_use ekc2 hG
  have kc2a : 220 ≤ kc2 := by omega
  have kc2b : kc2 ≤ 229 := by have := Rg.nat r_bi; omega
  refine lv_astore (lv' := [(5, .ref (ad kc2)), (4, .ref (ad kc1)), (0, .ref (ad 3)), (1, .int si), (2, .int bi), (3, .ref (ad 31))]) hx hb d_X6_strike_14 hl (by decide) rfl (fun ls hl => ?_)
  refine lv_aload hx hb d_X6_strike_16 (lv_at hl 1 rfl) ?_
  refine r_geti X hw FL_X6_86 (KD_ship (by omega) (by omega)) (SH_ship (by omega) (by omega)) d_X6_strike_18 ?_
  refine lv_topi (fun x3 ex3 => ?_)
  have hG := bnd_use ex3 hG
  refine lv_aload hx hb d_X6_strike_21 (lv_at hl 0 rfl) ?_
  refine r_geti X hw FL_X6_104 (KD_buyer (by omega) (by omega)) (SH_buyer (by omega) (by omega)) d_X6_strike_23 ?_
  refine lv_topi (fun x4 ex4 => ?_)
  have hG := bnd_use ex4 hG
  refine va_mmin hx hb (X.2.2.1.trans hl.1.symm) X.2.2.2.1 (X.2.2.2.2.1 _ ml_X6_107) (X.2.2.2.2.1 _ ml_mins) (X.2.2.2.2.1 _ ml_mi) (X.2.2.2.2.1 _ ml_minc) (Nat.le_of_ble_eq_true rfl) (Nat.le_of_ble_eq_true rfl) (Nat.zero_le _) (Nat.zero_le _) d_X6_strike_26 ?_
  refine lv_topi (fun x5 ex5 => ?_)
  have hG := bnd_use ex5 hG
  refine lv_istore (lv' := [(6, .int x5), (5, .ref (ad kc2)), (4, .ref (ad kc1)), (0, .ref (ad 3)), (1, .int si), (2, .int bi), (3, .ref (ad 31))]) hx hb d_X6_strike_29 hl (by decide) rfl (fun ls hl => ?_)
  refine lv_aload hx hb d_X6_strike_31 (lv_at hl 2 rfl) ?_
  refine r_geti X hw FL_X6_113 (KD_ship (by omega) (by omega)) (SH_ship (by omega) (by omega)) d_X6_strike_33 ?_
  refine lv_topi (fun x6 ex6 => ?_)
  have hG := bnd_use ex6 hG
  refine lv_aload hx hb d_X6_strike_36 (lv_at hl 1 rfl) ?_
  refine r_geti X hw FL_X6_97 (KD_buyer (by omega) (by omega)) (SH_buyer (by omega) (by omega)) d_X6_strike_38 ?_
  refine lv_topi (fun x7 ex7 => ?_)
  have hG := bnd_use ex7 hG
  refine lv_iadd hx hb d_X6_strike_41 ?_
  refine lv_topi (fun x8 ex8 => ?_)
  have hG := bnd_use ex8 hG
  refine lv_iconst (v := 2) hx hb d_X6_strike_42 (by decide) ?_
  refine lv_idiv hx hb d_X6_strike_43 (by decide) ?_
  refine lv_topi (fun x9 ex9 => ?_)
  have hG := bnd_use ex9 hG
  refine lv_istore (lv' := [(7, .int x9), (6, .int x5), (5, .ref (ad kc2)), (4, .ref (ad kc1)), (0, .ref (ad 3)), (1, .int si), (2, .int bi), (3, .ref (ad 31))]) hx hb d_X6_strike_44 hl (by decide) rfl (fun ls hl => ?_)
  refine lv_aload hx hb d_X6_strike_46 (lv_at hl 3 rfl) ?_
  refine lv_iload hx hb d_X6_strike_48 (lv_at hl 1 rfl) ?_
  refine lv_iload hx hb d_X6_strike_50 (lv_at hl 0 rfl) ?_
  refine r_cv (r_runV (n := 2) (As := [.int x5, .int x9]) (rest := []) X hw (ct_X7_deliver l D dA ad v hI kc1 x5 x9 (by omega) (by omega)) gc_X6_116 (KD_ship (by omega) (by omega)) (by decide) rfl (by decide +kernel) ⟨rfl, rfl, Nat.le_of_ble_eq_true rfl, Nat.le_of_ble_eq_true rfl⟩ rfl hl.1 rfl (Nat.le_of_ble_eq_true rfl) ⟨Nat.zero_le _, Nat.zero_le _⟩ d_X6_strike_52) hS (fun v11 H locs hp10 hw hS => ?_)
  obtain ⟨hp10, hE12⟩ := hp10
  obtain ⟨hI13, hK14⟩ := hp10
  have hK15 : Kp (kp_X6_strike_3_31 si bi) v v11 := Kp.tr hK0 hK14 (by have z0 : (0 : Int32).toInt = 0 := rfl; intro a j; unfold kp_X6_strike_3_31 kp_X7_deliver; omega)
  have hG := bnd_use hE12 hG
  refine lv_aload hx hb d_X6_strike_55 (lv_at hl 2 rfl) ?_
  refine lv_dup hx hb d_X6_strike_57 rfl ?_
  refine r_geti X hw FL_X6_104 (KD_buyer (by omega) (by omega)) (SH_buyer (by omega) (by omega)) d_X6_strike_58 ?_
  refine lv_topi (fun x16 ex16 => ?_)
  have hG := bnd_use ex16 hG
  refine lv_iload hx hb d_X6_strike_61 (lv_at hl 1 rfl) ?_
  refine lv_isub hx hb d_X6_strike_63 ?_
  refine lv_topi (fun x17 ex17 => ?_)
  have hG := bnd_use ex17 hG
  refine r_put X hw hS FP_X6_104 (KD_buyer (by omega) (by omega)) (SH_buyer (by omega) (by omega)) ⟨rfl, rfl⟩ d_X6_strike_64 (fun H locs hw hS => ?_)
  obtain ⟨v18, ev18⟩ : ∃ z, z = up2 v11 kc2 2 x17 := ⟨_, rfl⟩
  rw [← ev18] at hw
  have hG := bnd_use ev18 hG
  have hI19 : Inv v18 := by rw [ev18]; exact Inv.put0 hI13 _ (RG_buyer (by omega) (by omega) (by decide))
  have hK20 : Kp (kp_X6_strike_3_31 si bi) v v18 := by rw [ev18]; exact Kp.put hK15 _ (by unfold kp_X6_strike_3_31; omega)
  refine lv_aload_n hx hb d_X6_strike_67 rfl (lv_at hl 4 rfl) ?_
  refine r_getr (r := 18) X hw FL_X6_25 (rfl : KD 3 = _) rfl d_X6_strike_68 ?_
  refine lv_aload hx hb d_X6_strike_71 (lv_at hl 2 rfl) ?_
  refine r_geti X hw FL_X6_119 (KD_buyer (by omega) (by omega)) (SH_buyer (by omega) (by omega)) d_X6_strike_73 ?_
  refine lv_topi (fun x21 ex21 => ?_)
  have hG := bnd_use ex21 hG
  have r22 : Rg x21 0 5 := by rw [ex21]; exact hI19 _ _ _ _ (RG_buyer0 (by omega) (by omega))
  have hm23 : v18 kc2 0 = x21 := ex21.symm
  refine r_aald X hw (rfl : KD 18 = _) (Or.inr (Or.inr (Or.inl rfl))) (Rg.vp (b := 5) r22 (by decide)) rfl d_X6_strike_76 ?_
  refine r_nm (fun kc24 ekc24 => ?_)
  have hG := bnd_use ekc24 hG
  have kc24a : 312 ≤ kc24 := by omega
  have kc24b : kc24 ≤ 317 := by have := Rg.nat r22; omega
  refine lv_iload hx hb d_X6_strike_77 (lv_at hl 1 rfl) ?_
  refine r_cv (r_runV (n := 1) (As := [.int x5]) (rest := []) X hw (ct_X9_receive l D dA ad v18 hI19 kc24 x5 (by omega) (by omega)) gc_X6_122 (KD_ward (by omega) (by omega)) (by decide) rfl (by decide +kernel) ⟨rfl, rfl, Nat.le_of_ble_eq_true rfl, Nat.le_of_ble_eq_true rfl⟩ rfl hl.1 rfl (Nat.le_of_ble_eq_true rfl) ⟨Nat.zero_le _, Nat.zero_le _⟩ d_X6_strike_79) hS (fun v26 H locs hp25 hw hS => ?_)
  obtain ⟨hp25, hE27⟩ := hp25
  obtain ⟨hI28, hK29⟩ := hp25
  have hK30 : Kp (kp_X6_strike_3_31 si bi) v v26 := Kp.tr hK20 hK29 (by have z0 : (0 : Int32).toInt = 0 := rfl; intro a j; unfold kp_X6_strike_3_31 kp_X9_receive; omega)
  have hG := bnd_use hE27 hG
  refine lv_aload_n hx hb d_X6_strike_82 rfl (lv_at hl 7 rfl) ?_
  refine lv_iload_n hx hb d_X6_strike_83 rfl (lv_at hl 5 rfl) ?_
  refine lv_iload_n hx hb d_X6_strike_84 rfl (lv_at hl 6 rfl) ?_
  refine lv_iload hx hb d_X6_strike_85 (lv_at hl 1 rfl) ?_
  refine lv_iload hx hb d_X6_strike_87 (lv_at hl 0 rfl) ?_
  refine r_cv (r_runV (n := 4) (As := [.int si, .int bi, .int x5, .int x9]) (rest := []) X hw (ct_X1_enter_31 l D dA ad v26 hI28 si bi x5 x9) gc_X6_126 (rfl : KD 31 = _) (by decide) rfl (by decide +kernel) ⟨rfl, rfl, Nat.le_of_ble_eq_true rfl, Nat.le_of_ble_eq_true rfl⟩ rfl hl.1 rfl (Nat.le_of_ble_eq_true rfl) ⟨Nat.zero_le _, Nat.zero_le _⟩ d_X6_strike_89) hS (fun v32 H locs hp31 hw hS => ?_)
  obtain ⟨hp31, hE33⟩ := hp31
  obtain ⟨hI34, hK35⟩ := hp31
  have hK36 : Kp (kp_X6_strike_3_31 si bi) v v32 := Kp.tr hK30 hK35 (by have z0 : (0 : Int32).toInt = 0 := rfl; intro a j; unfold kp_X6_strike_3_31 kp_X1_enter_31; omega)
  have hG := bnd_use hE33 hG
  exact r_vret X hr hlocks hw hS ⟨⟨hI34, hK36⟩, hG.trans eRR.symm⟩ d_X6_strike_92
def kp_X6_sell_3_31 (si : Int32) (a j : Nat) : Prop := (a < 140 ∨ 160 ≤ a ∨ j ≤ 4) ∧ (a < 220 ∨ 230 ≤ a ∨ j ≠ 2) ∧ (a < 312 ∨ 318 ≤ a) ∧ a ≠ 31 ∧ a ≠ 33 ∧ a ≠ 35 ∧ a ≠ 37 ∧ a ≠ 39
def b_X6_sell_3_31_13 (si : Int32) (rc13 : Nat → Int32 → Int32 → tV → Int32 × tV) (q3 : Nat) (y4 : Int32) (y5 : Int32) (v1 : tV) : Int32 × tV := bnd (v1 3 4) fun x1 => (if x1 ≤ y5 then (y4, v1) else bnd (v1 q3 6) fun x9 => (if x9 ≤ (0 : Int32) then (y4, v1) else bnd (f_X6_bestBuyer_3 v1 q3) fun x16 => (if x16 = (-1 : Int32) then (y4, v1) else bnd (f_X6_strike_3_31 v1 si x16) fun v23 => bnd (y5 + 1) fun x28 => rc13 q3 1 x28 v23)))
def g_X6_sell_3_31_13 (si : Int32) : Nat → Nat → Int32 → Int32 → tV → Int32 × tV
  | 0, _, _, _, v1 => (0, v1)
  | n + 1, q3, y4, y5, v1 => b_X6_sell_3_31_13 si (g_X6_sell_3_31_13 si n) q3 y4 y5 v1
def f_X6_sell_3_31 (v : tV) (si : Int32) : Int32 × tV := bnd (140 + si.toNatClampNeg) fun kc33 => g_X6_sell_3_31_13 si 100000 kc33 0 0 v
set_option maxHeartbeats 4000000 in
set_option maxRecDepth 100000 in
theorem ct_X6_sell_3_31 (l : Launch) (D : va_G) (dA : Nat → ClassId) (ad : Nat → Nat) (v : tV) (hI : Inv v) (si : Int32) (r_si : Rg si 0 19) : Met l m_X6_sell [.code m_X6_sell c_X6_sell 7 (some .boolean)] ({ frames := 4, cells := 0, slots := 0, locals := 110 } : Room) (tP D dA ad v [.ref (ad 3), .int si, .ref (ad 31)]) (tQi D dA ad (fun r v' => (Inv v' ∧ Kp (kp_X6_sell_3_31 si) v v' ∧ Rg r 0 1) ∧ (r, v') = f_X6_sell_3_31 v si)) 0 0 (tA ad) := by
  refine tMet (by decide) (Nat.le_of_ble_eq_true rfl) ?_
  intro p e s m below meth c ls X hr hlocks hw hl
  have X : CX p s m ([.ref (ad 3), .int si, .ref (ad 31)] : List Value).toArray c c_X6_sell N_X6 7 D dA := X
  have hx := X.1
  have hb := X.2.1
  have hS : va_S (tA ad) s.heap s.heap [] := va_S.rf
  have hl : lv_has ls 7 [(0, .ref (ad 3)), (1, .int si), (2, .ref (ad 31))] := hl
  obtain ⟨RR, eRR⟩ : ∃ z, f_X6_sell_3_31 v si = z := ⟨_, rfl⟩
  have LL : ∀ n : Nat, (∀ (q3 : Nat) (y4 : Int32) (y5 : Int32) (v1 : tV) (H : Heap) (locs : List Loc) (ls : Array Slot), (10 - y5.toInt).toNat < n → 140 ≤ q3 → q3 < 160 → Rg y4 0 1 → Rg y5 0 10 → Inv v1 → Kp (kp_X6_sell_3_31 si) v v1 → g_X6_sell_3_31_13 si n q3 y4 y5 v1 = RR → tI D dA ad v1 H → va_S (tA ad) s.heap H locs → lv_has ls 7 [(0, .ref (ad 3)), (1, .int si), (2, .ref (ad 31)), (3, .ref (ad q3)), (4, .int y4), (5, .int y5)] → W p l e ({ frames := 4, cells := 0, slots := 0, locals := 110 } : Room) s m ([.ref (ad 3), .int si, .ref (ad 31)] : List Value).toArray below meth c H locs 0 0 (MQ below (tQi D dA ad (fun r v' => (Inv v' ∧ Kp (kp_X6_sell_3_31 si) v v' ∧ Rg r 0 1) ∧ (r, v') = f_X6_sell_3_31 v si)) ([.ref (ad 3), .int si, .ref (ad 31)] : List Value).toArray s 0 0 (tA ad)) (F0 m 13 ls [])) := by
    intro n
    induction n with
    | zero => intros; omega
    | succ n ih =>
      have ih0 := ih
      intro q3 y4 y5 v1 H locs ls hmu q3a q3b r_y4 r_y5 hI1 hK1 hG hw hS hl
      have hG : b_X6_sell_3_31_13 si (g_X6_sell_3_31_13 si n) q3 y4 y5 v1 = RR := hG
      unfold b_X6_sell_3_31_13 at hG
      refine lv_iload hx hb d_X6_sell_13 (lv_at hl 5 rfl) ?_
      refine lv_aload_n hx hb d_X6_sell_15 rfl (lv_at hl 0 rfl) ?_
      refine r_geti X hw FL_X6_33 (rfl : KD 3 = _) rfl d_X6_sell_16 ?_
      refine lv_topi (fun x1 ex1 => ?_)
      have hG := bnd_use ex1 hG
      have r2 : Rg x1 0 10 := by rw [ex1]; exact hI1 _ _ _ _ rfl
      have hm3 : v1 3 4 = x1 := ex1.symm
      refine lv_icmp_ge (tgt := 62) hx hb d_X6_sell_19 (by decide) (fun c4 => ?_) (fun c4 => ?_)
      · have f5 := i_le c4
        have hG := g_pos c4 hG
        refine lv_iload hx hb d_X6_sell_62 (lv_at hl 4 rfl) ?_
        exact r_zret X hr hlocks hw hS (narz r_y4) ⟨⟨hI1, hK1, r_y4⟩, hG.trans eRR.symm⟩ d_X6_sell_64
      · have f6 := i_nle c4
        have r7 : Rg y5 0 9 := by obtain ⟨a1, a2⟩ := r_y5; obtain ⟨b1, b2⟩ := r2; have f := i_nle c4; exact ⟨by omega, by omega⟩
        have r8 : Rg x1 1 10 := by obtain ⟨a1, a2⟩ := r_y5; obtain ⟨b1, b2⟩ := r2; have f := i_nle c4; exact ⟨by omega, by omega⟩
        have hG := g_neg c4 hG
        refine lv_aload_n hx hb d_X6_sell_22 rfl (lv_at hl 3 rfl) ?_
        refine r_geti X hw FL_X6_86 (KD_ship (by omega) (by omega)) (SH_ship (by omega) (by omega)) d_X6_sell_23 ?_
        refine lv_topi (fun x9 ex9 => ?_)
        have hG := bnd_use ex9 hG
        refine lv_if_le (tgt := 62) hx hb d_X6_sell_26 (by decide) (fun c10 => ?_) (fun c10 => ?_)
        · have f11 := i_le c10
          have r12 : Rg x9 (-2147483648) 0 := by obtain ⟨a1, a2⟩ := (rg_any x9); obtain ⟨b1, b2⟩ := (⟨by decide, by decide⟩ : Rg 0 0 0); have f := i_le c10; exact ⟨by omega, by omega⟩
          have hG := g_pos c10 hG
          refine lv_iload hx hb d_X6_sell_62 (lv_at hl 4 rfl) ?_
          exact r_zret X hr hlocks hw hS (narz r_y4) ⟨⟨hI1, hK1, r_y4⟩, hG.trans eRR.symm⟩ d_X6_sell_64
        · have f13 := i_nle c10
          have r14 : Rg x9 1 2147483647 := by obtain ⟨a1, a2⟩ := (rg_any x9); obtain ⟨b1, b2⟩ := (⟨by decide, by decide⟩ : Rg 0 0 0); have f := i_nle c10; exact ⟨by omega, by omega⟩
          have hG := g_neg c10 hG
          refine lv_aload_n hx hb d_X6_sell_29 rfl (lv_at hl 0 rfl) ?_
          refine lv_aload_n hx hb d_X6_sell_30 rfl (lv_at hl 3 rfl) ?_
          refine r_ci (r_runV (n := 1) (As := [.ref (ad q3)]) (rest := []) X hw (ct_X6_bestBuyer_3 l D dA ad v1 hI1 q3 (by omega) (by omega)) gc_X6_89 (rfl : KD 3 = _) (by decide) rfl (by decide +kernel) ⟨rfl, rfl, Nat.le_of_ble_eq_true rfl, Nat.le_of_ble_eq_true rfl⟩ rfl hl.1 rfl (Nat.le_of_ble_eq_true rfl) ⟨Nat.zero_le _, Nat.zero_le _⟩ d_X6_sell_31) hS (fun x16 v17 H locs hp15 hw hS => ?_)
          obtain ⟨hp15, hE18⟩ := hp15
          obtain ⟨ev17, hp15⟩ := hp15
          rw [ev17] at hw
          have hG := bnd_use hE18 hG
          refine lv_istore (lv' := [(6, .int x16), (0, .ref (ad 3)), (1, .int si), (2, .ref (ad 31)), (3, .ref (ad q3)), (4, .int y4), (5, .int y5)]) hx hb d_X6_sell_34 hl (by decide) rfl (fun ls hl => ?_)
          refine lv_iload hx hb d_X6_sell_36 (lv_at hl 0 rfl) ?_
          refine lv_iconst (v := -1) hx hb d_X6_sell_38 (by decide) ?_
          refine lv_icmp_ne (tgt := 45) hx hb d_X6_sell_39 (by decide) (fun c19 => ?_) (fun c19 => ?_)
          · have f20 := i_ne c19
            have r21 : Rg x16 0 9 := by obtain ⟨a1, a2⟩ := hp15; obtain ⟨b1, b2⟩ := (⟨by decide, by decide⟩ : Rg (-1) (-1) (-1)); have f := i_ne c19; exact ⟨by omega, by omega⟩
            have hG := g_neg c19 hG
            refine lv_aload_n hx hb d_X6_sell_45 rfl (lv_at hl 1 rfl) ?_
            refine lv_iload_n hx hb d_X6_sell_46 rfl (lv_at hl 2 rfl) ?_
            refine lv_iload hx hb d_X6_sell_47 (lv_at hl 0 rfl) ?_
            refine lv_aload_n hx hb d_X6_sell_49 rfl (lv_at hl 3 rfl) ?_
            refine r_cv (r_runV (n := 3) (As := [.int si, .int x16, .ref (ad 31)]) (rest := []) X hw (ct_X6_strike_3_31 l D dA ad v1 hI1 si x16 r_si r21) gc_X6_93 (rfl : KD 3 = _) (by decide) rfl (by decide +kernel) ⟨rfl, rfl, Nat.le_of_ble_eq_true rfl, Nat.le_of_ble_eq_true rfl⟩ rfl hl.1 rfl (Nat.le_of_ble_eq_true rfl) ⟨Nat.zero_le _, Nat.zero_le _⟩ d_X6_sell_50) hS (fun v23 H locs hp22 hw hS => ?_)
            obtain ⟨hp22, hE24⟩ := hp22
            obtain ⟨hI25, hK26⟩ := hp22
            have hK27 : Kp (kp_X6_sell_3_31 si) v v23 := Kp.tr hK1 hK26 (by have z0 : (0 : Int32).toInt = 0 := rfl; intro a j; unfold kp_X6_sell_3_31 kp_X6_strike_3_31; omega)
            have hG := bnd_use hE24 hG
            refine lv_iconst (v := 1) hx hb d_X6_sell_53 (by decide) ?_
            refine lv_istore (lv' := [(4, .int 1), (6, .int x16), (0, .ref (ad 3)), (1, .int si), (2, .ref (ad 31)), (3, .ref (ad q3)), (5, .int y5)]) hx hb d_X6_sell_54 hl (by decide) rfl (fun ls hl => ?_)
            obtain ⟨x28, ex28⟩ : ∃ y : Int32, y = y5 + 1 := ⟨_, rfl⟩
            have hG := bnd_use ex28 hG
            refine lv_iinc (v := x28) (lv' := [(5, .int x28), (4, .int 1), (6, .int x16), (0, .ref (ad 3)), (1, .int si), (2, .ref (ad 31)), (3, .ref (ad q3))]) hx hb d_X6_sell_56 hl (k := 6) rfl (by rw [ex28]; rfl) (by decide) rfl (fun ls hl => ?_)
            have r29 : Rg x28 1 10 := rg_add ex28 r7 (⟨by decide, by decide⟩ : Rg 1 1 1) (by decide) (by decide)
            have s30 : x28.toInt = y5.toInt + (1 : Int32).toInt := by rw [ex28]; exact i_add (by obtain ⟨_, _⟩ := r7; obtain ⟨_, _⟩ := (⟨by decide, by decide⟩ : Rg 1 1 1); omega) (by obtain ⟨_, _⟩ := r7; obtain ⟨_, _⟩ := (⟨by decide, by decide⟩ : Rg 1 1 1); omega)
            have s30l : (1 : Int32).toInt = 1 := rfl
            refine lv_goto (tgt := 13) hx hb d_X6_sell_59 (by decide) ?_
            exact ih0 q3 1 x28 v23 _ _ _ (by have := s30; obtain ⟨_, _⟩ := (⟨by decide, by decide⟩ : Rg 1 1 1); obtain ⟨_, _⟩ := r29; omega) (by omega) (by omega) (rg_w (⟨by decide, by decide⟩ : Rg 1 1 1) (by decide) (by decide)) (rg_w r29 (by decide) (by decide)) hI25 hK27 hG hw hS (lv_sub hl [3, 4, 5, 6, 1, 0] rfl)
          · have f31 := i_eq c19
            have r32 : Rg x16 (-1) (-1) := by obtain ⟨a1, a2⟩ := hp15; obtain ⟨b1, b2⟩ := (⟨by decide, by decide⟩ : Rg (-1) (-1) (-1)); have f := i_eq c19; exact ⟨by omega, by omega⟩
            have hG := g_pos c19 hG
            refine lv_goto (tgt := 62) hx hb d_X6_sell_42 (by decide) ?_
            refine lv_iload hx hb d_X6_sell_62 (lv_at hl 5 rfl) ?_
            exact r_zret X hr hlocks hw hS (narz r_y4) ⟨⟨hI1, hK1, r_y4⟩, hG.trans eRR.symm⟩ d_X6_sell_64
  have ih0 := LL 100000
  have hK0 : Kp (kp_X6_sell_3_31 si) v v := Kp.rf _ v
  have hG := eRR
  unfold f_X6_sell_3_31 at hG
  refine lv_aload_n hx hb d_X6_sell_0 rfl (lv_at hl 0 rfl) ?_
  refine r_getr (r := 12) X hw FL_X6_11 (rfl : KD 3 = _) rfl d_X6_sell_1 ?_
  refine lv_iload_n hx hb d_X6_sell_4 rfl (lv_at hl 1 rfl) ?_
  refine r_aald X hw (rfl : KD 12 = _) (Or.inl rfl) (Rg.vp (b := 19) r_si (by decide)) rfl d_X6_sell_5 ?_
  refine r_nm (fun kc33 ekc33 => ?_)
  have hG := bnd_use ekc33 hG
  have kc33a : 140 ≤ kc33 := by omega
  have kc33b : kc33 ≤ 159 := by have := Rg.nat r_si; omega
  refine lv_astore_n (lv' := [(3, .ref (ad kc33)), (0, .ref (ad 3)), (1, .int si), (2, .ref (ad 31))]) hx hb d_X6_sell_6 rfl hl (by decide) rfl (fun ls hl => ?_)
  refine lv_iconst (v := 0) hx hb d_X6_sell_7 (by decide) ?_
  refine lv_istore (lv' := [(4, .int 0), (3, .ref (ad kc33)), (0, .ref (ad 3)), (1, .int si), (2, .ref (ad 31))]) hx hb d_X6_sell_8 hl (by decide) rfl (fun ls hl => ?_)
  refine lv_iconst (v := 0) hx hb d_X6_sell_10 (by decide) ?_
  refine lv_istore (lv' := [(5, .int 0), (4, .int 0), (3, .ref (ad kc33)), (0, .ref (ad 3)), (1, .int si), (2, .ref (ad 31))]) hx hb d_X6_sell_11 hl (by decide) rfl (fun ls hl => ?_)
  exact ih0 kc33 0 0 v _ _ _ (by obtain ⟨_, _⟩ := (⟨by decide, by decide⟩ : Rg 0 0 0); obtain ⟨_, _⟩ := (⟨by decide, by decide⟩ : Rg 0 0 0); omega) (by omega) (by omega) (rg_w (⟨by decide, by decide⟩ : Rg 0 0 0) (by decide) (by decide)) (rg_w (⟨by decide, by decide⟩ : Rg 0 0 0) (by decide) (by decide)) hI hK0 hG hw hS (lv_sub hl [3, 4, 5, 2, 1, 0] rfl)
def kp_X6_trade_3_20_31  (a j : Nat) : Prop := (a < 140 ∨ 160 ≤ a ∨ j ≤ 4) ∧ (a < 220 ∨ 230 ≤ a ∨ j ≠ 2) ∧ (a < 312 ∨ 318 ≤ a) ∧ a ≠ 31 ∧ a ≠ 33 ∧ a ≠ 35 ∧ a ≠ 37 ∧ a ≠ 39 ∧ (a ≠ 3 ∨ j ≠ 6)
def b_X6_trade_3_20_31_2  (rc2 : Int32 → tV → tV) (y3 : Int32) (v1 : tV) : tV := bnd (v1 20 2) fun x1 => (if x1 ≤ y3 then bnd (v1 31 5) fun x6 => (if x6 ≤ (0 : Int32) then v1 else bnd (v1 31 6) fun x13 => bnd (x13 / x6) fun x14 => bnd (up2 v1 3 6 x14) fun v15 => v15) else bnd (v1 22 y3.toNatClampNeg) fun x23 => bnd2 (f_X6_sell_3_31 v1 x23) fun x26 v27 => (if x26 = (0 : Int32) then bnd (140 + x23.toNatClampNeg) fun kc40 => bnd (f_X7_miss v27 kc40) fun v42 => bnd (y3 + 1) fun x47 => rc2 x47 v42 else bnd (y3 + 1) fun x35 => rc2 x35 v27))
def g_X6_trade_3_20_31_2  : Nat → Int32 → tV → tV
  | 0, _, v1 => v1
  | n + 1, y3, v1 => b_X6_trade_3_20_31_2  (g_X6_trade_3_20_31_2  n) y3 v1
def f_X6_trade_3_20_31 (v : tV)  : tV := g_X6_trade_3_20_31_2  100000 0 v
set_option maxHeartbeats 4000000 in
set_option maxRecDepth 100000 in
theorem ct_X6_trade_3_20_31 (l : Launch) (D : va_G) (dA : Nat → ClassId) (ad : Nat → Nat) (v : tV) (hI : Inv v)  : Met l m_X6_trade [.code m_X6_trade c_X6_trade 5 none] ({ frames := 5, cells := 0, slots := 0, locals := 136 } : Room) (tP D dA ad v [.ref (ad 3), .ref (ad 20), .ref (ad 31)]) (tQv D dA ad (fun v' => (Inv v' ∧ Kp kp_X6_trade_3_20_31 v v') ∧ v' = f_X6_trade_3_20_31 v )) 0 0 (tA ad) := by
  refine tMet (by decide) (Nat.le_of_ble_eq_true rfl) ?_
  intro p e s m below meth c ls X hr hlocks hw hl
  have X : CX p s m ([.ref (ad 3), .ref (ad 20), .ref (ad 31)] : List Value).toArray c c_X6_trade N_X6 5 D dA := X
  have hx := X.1
  have hb := X.2.1
  have hS : va_S (tA ad) s.heap s.heap [] := va_S.rf
  have hl : lv_has ls 5 [(0, .ref (ad 3)), (1, .ref (ad 20)), (2, .ref (ad 31))] := hl
  obtain ⟨RR, eRR⟩ : ∃ z, f_X6_trade_3_20_31 v  = z := ⟨_, rfl⟩
  have LL : ∀ n : Nat, (∀ (y3 : Int32) (v1 : tV) (H : Heap) (locs : List Loc) (ls : Array Slot), (20 - y3.toInt).toNat < n → Rg y3 0 20 → Inv v1 → Kp kp_X6_trade_3_20_31 v v1 → g_X6_trade_3_20_31_2  n y3 v1 = RR → tI D dA ad v1 H → va_S (tA ad) s.heap H locs → lv_has ls 5 [(0, .ref (ad 3)), (1, .ref (ad 20)), (2, .ref (ad 31)), (3, .int y3)] → W p l e ({ frames := 5, cells := 0, slots := 0, locals := 136 } : Room) s m ([.ref (ad 3), .ref (ad 20), .ref (ad 31)] : List Value).toArray below meth c H locs 0 0 (MQ below (tQv D dA ad (fun v' => (Inv v' ∧ Kp kp_X6_trade_3_20_31 v v') ∧ v' = f_X6_trade_3_20_31 v )) ([.ref (ad 3), .ref (ad 20), .ref (ad 31)] : List Value).toArray s 0 0 (tA ad)) (F0 m 2 ls [])) := by
    intro n
    induction n with
    | zero => intros; omega
    | succ n ih =>
      have ih0 := ih
      intro y3 v1 H locs ls hmu r_y3 hI1 hK1 hG hw hS hl
      have hG : b_X6_trade_3_20_31_2  (g_X6_trade_3_20_31_2  n) y3 v1 = RR := hG
      unfold b_X6_trade_3_20_31_2 at hG
      refine lv_iload_n hx hb d_X6_trade_2 rfl (lv_at hl 3 rfl) ?_
      refine lv_aload_n hx hb d_X6_trade_3 rfl (lv_at hl 1 rfl) ?_
      refine r_geti X hw FL_X6_63 (rfl : KD 20 = _) rfl d_X6_trade_4 ?_
      refine lv_topi (fun x1 ex1 => ?_)
      have hG := bnd_use ex1 hG
      have r2 : Rg x1 0 20 := by rw [ex1]; exact hI1 _ _ _ _ rfl
      have hm3 : v1 20 2 = x1 := ex1.symm
      refine lv_icmp_ge (tgt := 44) hx hb d_X6_trade_7 (by decide) (fun c4 => ?_) (fun c4 => ?_)
      · have f5 := i_le c4
        have hG := g_pos c4 hG
        refine lv_aload_n hx hb d_X6_trade_44 rfl (lv_at hl 2 rfl) ?_
        refine r_geti X hw FL_X6_78 (rfl : KD 31 = _) rfl d_X6_trade_45 ?_
        refine lv_topi (fun x6 ex6 => ?_)
        have hG := bnd_use ex6 hG
        have hm7 : v1 31 5 = x6 := ex6.symm
        refine lv_if_le (tgt := 64) hx hb d_X6_trade_48 (by decide) (fun c8 => ?_) (fun c8 => ?_)
        · have f9 := i_le c8
          have r10 : Rg x6 (-2147483648) 0 := by obtain ⟨a1, a2⟩ := (rg_any x6); obtain ⟨b1, b2⟩ := (⟨by decide, by decide⟩ : Rg 0 0 0); have f := i_le c8; exact ⟨by omega, by omega⟩
          have hG := g_pos c8 hG
          exact r_vret X hr hlocks hw hS ⟨⟨hI1, hK1⟩, hG.trans eRR.symm⟩ d_X6_trade_64
        · have f11 := i_nle c8
          have r12 : Rg x6 1 2147483647 := by obtain ⟨a1, a2⟩ := (rg_any x6); obtain ⟨b1, b2⟩ := (⟨by decide, by decide⟩ : Rg 0 0 0); have f := i_nle c8; exact ⟨by omega, by omega⟩
          have hG := g_neg c8 hG
          refine lv_aload_n hx hb d_X6_trade_51 rfl (lv_at hl 0 rfl) ?_
          refine lv_aload_n hx hb d_X6_trade_52 rfl (lv_at hl 2 rfl) ?_
          refine r_geti X hw FL_X6_83 (rfl : KD 31 = _) rfl d_X6_trade_53 ?_
          refine lv_topi (fun x13 ex13 => ?_)
          have hG := bnd_use ex13 hG
          refine lv_aload_n hx hb d_X6_trade_56 rfl (lv_at hl 2 rfl) ?_
          refine r_geti X hw FL_X6_78 (rfl : KD 31 = _) rfl d_X6_trade_57 ?_
          rw [hm7]
          refine lv_idiv hx hb d_X6_trade_60 (by intro h; have := i_eq h; obtain ⟨b1, b2⟩ := r12; have z0 : (0 : Int32).toInt = 0 := rfl; omega) ?_
          refine lv_topi (fun x14 ex14 => ?_)
          have hG := bnd_use ex14 hG
          refine r_put X hw hS FP_X6_39 (rfl : KD 3 = _) rfl ⟨rfl, rfl⟩ d_X6_trade_61 (fun H locs hw hS => ?_)
          obtain ⟨v15, ev15⟩ : ∃ z, z = up2 v1 3 6 x14 := ⟨_, rfl⟩
          rw [← ev15] at hw
          have hG := bnd_use ev15 hG
          have hI16 : Inv v15 := by rw [ev15]; exact Inv.put0 hI1 _ rfl
          have hK17 : Kp kp_X6_trade_3_20_31 v v15 := by rw [ev15]; exact Kp.put hK1 _ (by unfold kp_X6_trade_3_20_31; omega)
          have hm18 : v15 20 2 = x1 := by rw [ev15, up2_n _ _ (by omega)]; exact hm3
          have hm19 : v15 31 5 = x6 := by rw [ev15, up2_n _ _ (by omega)]; exact hm7
          exact r_vret X hr hlocks hw hS ⟨⟨hI16, hK17⟩, hG.trans eRR.symm⟩ d_X6_trade_64
      · have f20 := i_nle c4
        have r21 : Rg y3 0 19 := by obtain ⟨a1, a2⟩ := r_y3; obtain ⟨b1, b2⟩ := r2; have f := i_nle c4; exact ⟨by omega, by omega⟩
        have r22 : Rg x1 1 20 := by obtain ⟨a1, a2⟩ := r_y3; obtain ⟨b1, b2⟩ := r2; have f := i_nle c4; exact ⟨by omega, by omega⟩
        have hG := g_neg c4 hG
        refine lv_aload_n hx hb d_X6_trade_10 rfl (lv_at hl 1 rfl) ?_
        refine r_getr (r := 22) X hw FL_X6_68 (rfl : KD 20 = _) rfl d_X6_trade_11 ?_
        refine lv_iload_n hx hb d_X6_trade_14 rfl (lv_at hl 3 rfl) ?_
        refine r_iald X hw (rfl : KD 22 = _) (Rg.vp (b := 19) r21 (by decide)) rfl d_X6_trade_15 ?_
        refine lv_topi (fun x23 ex23 => ?_)
        have hG := bnd_use ex23 hG
        have r24 : Rg x23 0 19 := by rw [ex23]; exact hI1 _ _ _ _ rfl
        refine lv_istore (lv' := [(4, .int x23), (0, .ref (ad 3)), (1, .ref (ad 20)), (2, .ref (ad 31)), (3, .int y3)]) hx hb d_X6_trade_16 hl (by decide) rfl (fun ls hl => ?_)
        refine lv_aload_n hx hb d_X6_trade_18 rfl (lv_at hl 1 rfl) ?_
        refine lv_iload hx hb d_X6_trade_19 (lv_at hl 0 rfl) ?_
        refine lv_aload_n hx hb d_X6_trade_21 rfl (lv_at hl 3 rfl) ?_
        refine r_ci (r_runV (n := 2) (As := [.int x23, .ref (ad 31)]) (rest := []) X hw (ct_X6_sell_3_31 l D dA ad v1 hI1 x23 r24) gc_X6_71 (rfl : KD 3 = _) (by decide) rfl (by decide +kernel) ⟨rfl, rfl, Nat.le_of_ble_eq_true rfl, Nat.le_of_ble_eq_true rfl⟩ rfl hl.1 rfl (Nat.le_of_ble_eq_true rfl) ⟨Nat.zero_le _, Nat.zero_le _⟩ d_X6_trade_22) hS (fun x26 v27 H locs hp25 hw hS => ?_)
        obtain ⟨hp25, hE28⟩ := hp25
        obtain ⟨hI29, hK30, hp25⟩ := hp25
        have hK31 : Kp kp_X6_trade_3_20_31 v v27 := Kp.tr hK1 hK30 (by have z0 : (0 : Int32).toInt = 0 := rfl; intro a j; unfold kp_X6_trade_3_20_31 kp_X6_sell_3_31; omega)
        have hG := bnd2_use hE28 hG
        refine lv_if_ne (tgt := 38) hx hb d_X6_trade_25 (by decide) (fun c32 => ?_) (fun c32 => ?_)
        · have f33 := i_ne c32
          have r34 : Rg x26 1 1 := by obtain ⟨a1, a2⟩ := hp25; obtain ⟨b1, b2⟩ := (⟨by decide, by decide⟩ : Rg 0 0 0); have f := i_ne c32; exact ⟨by omega, by omega⟩
          have hG := g_neg c32 hG
          obtain ⟨x35, ex35⟩ : ∃ y : Int32, y = y3 + 1 := ⟨_, rfl⟩
          have hG := bnd_use ex35 hG
          refine lv_iinc (v := x35) (lv' := [(3, .int x35), (4, .int x23), (0, .ref (ad 3)), (1, .ref (ad 20)), (2, .ref (ad 31))]) hx hb d_X6_trade_38 hl (k := 4) rfl (by rw [ex35]; rfl) (by decide) rfl (fun ls hl => ?_)
          have r36 : Rg x35 1 20 := rg_add ex35 r21 (⟨by decide, by decide⟩ : Rg 1 1 1) (by decide) (by decide)
          have s37 : x35.toInt = y3.toInt + (1 : Int32).toInt := by rw [ex35]; exact i_add (by obtain ⟨_, _⟩ := r21; obtain ⟨_, _⟩ := (⟨by decide, by decide⟩ : Rg 1 1 1); omega) (by obtain ⟨_, _⟩ := r21; obtain ⟨_, _⟩ := (⟨by decide, by decide⟩ : Rg 1 1 1); omega)
          have s37l : (1 : Int32).toInt = 1 := rfl
          refine lv_goto (tgt := 2) hx hb d_X6_trade_41 (by decide) ?_
          exact ih0 x35 v27 _ _ _ (by have := s37; obtain ⟨_, _⟩ := r36; omega) (rg_w r36 (by decide) (by decide)) hI29 hK31 hG hw hS (lv_sub hl [2, 3, 4, 0] rfl)
        · have f38 := i_eq c32
          have r39 : Rg x26 0 0 := by obtain ⟨a1, a2⟩ := hp25; obtain ⟨b1, b2⟩ := (⟨by decide, by decide⟩ : Rg 0 0 0); have f := i_eq c32; exact ⟨by omega, by omega⟩
          have hG := g_pos c32 hG
          refine lv_aload_n hx hb d_X6_trade_28 rfl (lv_at hl 1 rfl) ?_
          refine r_getr (r := 12) X hw FL_X6_11 (rfl : KD 3 = _) rfl d_X6_trade_29 ?_
          refine lv_iload hx hb d_X6_trade_32 (lv_at hl 0 rfl) ?_
          refine r_aald X hw (rfl : KD 12 = _) (Or.inl rfl) (Rg.vp (b := 19) r24 (by decide)) rfl d_X6_trade_34 ?_
          refine r_nm (fun kc40 ekc40 => ?_)
          have hG := bnd_use ekc40 hG
          have kc40a : 140 ≤ kc40 := by omega
          have kc40b : kc40 ≤ 159 := by have := Rg.nat r24; omega
          refine r_cv (r_runV (n := 0) (As := []) (rest := []) X hw (ct_X7_miss l D dA ad v27 hI29 kc40 (by omega) (by omega)) gc_X6_75 (KD_ship (by omega) (by omega)) (by decide) rfl (by decide +kernel) ⟨rfl, rfl, Nat.le_of_ble_eq_true rfl, Nat.le_of_ble_eq_true rfl⟩ rfl hl.1 rfl (Nat.le_of_ble_eq_true rfl) ⟨Nat.zero_le _, Nat.zero_le _⟩ d_X6_trade_35) hS (fun v42 H locs hp41 hw hS => ?_)
          obtain ⟨hp41, hE43⟩ := hp41
          obtain ⟨hI44, hK45⟩ := hp41
          have hK46 : Kp kp_X6_trade_3_20_31 v v42 := Kp.tr hK31 hK45 (by have z0 : (0 : Int32).toInt = 0 := rfl; intro a j; unfold kp_X6_trade_3_20_31 kp_X7_miss; omega)
          have hG := bnd_use hE43 hG
          obtain ⟨x47, ex47⟩ : ∃ y : Int32, y = y3 + 1 := ⟨_, rfl⟩
          have hG := bnd_use ex47 hG
          refine lv_iinc (v := x47) (lv' := [(3, .int x47), (4, .int x23), (0, .ref (ad 3)), (1, .ref (ad 20)), (2, .ref (ad 31))]) hx hb d_X6_trade_38 hl (k := 4) rfl (by rw [ex47]; rfl) (by decide) rfl (fun ls hl => ?_)
          have r48 : Rg x47 1 20 := rg_add ex47 r21 (⟨by decide, by decide⟩ : Rg 1 1 1) (by decide) (by decide)
          have s49 : x47.toInt = y3.toInt + (1 : Int32).toInt := by rw [ex47]; exact i_add (by obtain ⟨_, _⟩ := r21; obtain ⟨_, _⟩ := (⟨by decide, by decide⟩ : Rg 1 1 1); omega) (by obtain ⟨_, _⟩ := r21; obtain ⟨_, _⟩ := (⟨by decide, by decide⟩ : Rg 1 1 1); omega)
          have s49l : (1 : Int32).toInt = 1 := rfl
          refine lv_goto (tgt := 2) hx hb d_X6_trade_41 (by decide) ?_
          exact ih0 x47 v42 _ _ _ (by have := s49; obtain ⟨_, _⟩ := r48; omega) (rg_w r48 (by decide) (by decide)) hI44 hK46 hG hw hS (lv_sub hl [2, 3, 4, 0] rfl)
  have ih0 := LL 100000
  have hK0 : Kp kp_X6_trade_3_20_31 v v := Kp.rf _ v
  have hG := eRR
  unfold f_X6_trade_3_20_31 at hG
  refine lv_iconst (v := 0) hx hb d_X6_trade_0 (by decide) ?_
  refine lv_istore_n (lv' := [(3, .int 0), (0, .ref (ad 3)), (1, .ref (ad 20)), (2, .ref (ad 31))]) hx hb d_X6_trade_1 rfl hl (by decide) rfl (fun ls hl => ?_)
  exact ih0 0 v _ _ _ (by obtain ⟨_, _⟩ := (⟨by decide, by decide⟩ : Rg 0 0 0); omega) (rg_w (⟨by decide, by decide⟩ : Rg 0 0 0) (by decide) (by decide)) hI hK0 hG hw hS (lv_sub hl [1, 2, 3, 0] rfl)
def kp_X6_endDay_3 (cold : Int32) (a j : Nat) : Prop := (a < 312 ∨ 318 ≤ a) ∧ (a ≠ 3 ∨ j ≠ 5)
def b_X6_endDay_3_2 (cold : Int32) (rc2 : Int32 → tV → tV) (y2 : Int32) (v1 : tV) : tV := (if (6 : Int32) ≤ y2 then bnd (v1 3 5) fun x4 => bnd (x4 + (1 : Int32)) fun x5 => bnd (up2 v1 3 5 x5) fun v6 => v6 else bnd (312 + y2.toNatClampNeg) fun kc11 => bnd (f_X9_heat v1 kc11 cold) fun v13 => bnd (y2 + 1) fun x18 => rc2 x18 v13)
def g_X6_endDay_3_2 (cold : Int32) : Nat → Int32 → tV → tV
  | 0, _, v1 => v1
  | n + 1, y2, v1 => b_X6_endDay_3_2 cold (g_X6_endDay_3_2 cold n) y2 v1
def f_X6_endDay_3 (v : tV) (cold : Int32) : tV := g_X6_endDay_3_2 cold 100000 0 v
set_option maxHeartbeats 4000000 in
set_option maxRecDepth 100000 in
theorem ct_X6_endDay_3 (l : Launch) (D : va_G) (dA : Nat → ClassId) (ad : Nat → Nat) (v : tV) (hI : Inv v) (cold : Int32) (r_cold : Rg cold 0 4) : Met l m_X6_endDay [.code m_X6_endDay c_X6_endDay 3 none] ({ frames := 2, cells := 0, slots := 0, locals := 63 } : Room) (tP D dA ad v [.ref (ad 3), .int cold]) (tQv D dA ad (fun v' => (Inv v' ∧ Kp (kp_X6_endDay_3 cold) v v') ∧ v' = f_X6_endDay_3 v cold)) 0 0 (tA ad) := by
  refine tMet (by decide) (Nat.le_of_ble_eq_true rfl) ?_
  intro p e s m below meth c ls X hr hlocks hw hl
  have X : CX p s m ([.ref (ad 3), .int cold] : List Value).toArray c c_X6_endDay N_X6 3 D dA := X
  have hx := X.1
  have hb := X.2.1
  have hS : va_S (tA ad) s.heap s.heap [] := va_S.rf
  have hl : lv_has ls 3 [(0, .ref (ad 3)), (1, .int cold)] := hl
  obtain ⟨RR, eRR⟩ : ∃ z, f_X6_endDay_3 v cold = z := ⟨_, rfl⟩
  have LL : ∀ n : Nat, (∀ (y2 : Int32) (v1 : tV) (H : Heap) (locs : List Loc) (ls : Array Slot), (6 - y2.toInt).toNat < n → Rg y2 0 6 → Inv v1 → Kp (kp_X6_endDay_3 cold) v v1 → g_X6_endDay_3_2 cold n y2 v1 = RR → tI D dA ad v1 H → va_S (tA ad) s.heap H locs → lv_has ls 3 [(0, .ref (ad 3)), (1, .int cold), (2, .int y2)] → W p l e ({ frames := 2, cells := 0, slots := 0, locals := 63 } : Room) s m ([.ref (ad 3), .int cold] : List Value).toArray below meth c H locs 0 0 (MQ below (tQv D dA ad (fun v' => (Inv v' ∧ Kp (kp_X6_endDay_3 cold) v v') ∧ v' = f_X6_endDay_3 v cold)) ([.ref (ad 3), .int cold] : List Value).toArray s 0 0 (tA ad)) (F0 m 2 ls [])) := by
    intro n
    induction n with
    | zero => intros; omega
    | succ n ih =>
      have ih0 := ih
      intro y2 v1 H locs ls hmu r_y2 hI1 hK1 hG hw hS hl
      have hG : b_X6_endDay_3_2 cold (g_X6_endDay_3_2 cold n) y2 v1 = RR := hG
      unfold b_X6_endDay_3_2 at hG
      refine lv_iload_n hx hb d_X6_endDay_2 rfl (lv_at hl 2 rfl) ?_
      refine lv_bipush (v := 6) hx hb d_X6_endDay_3 (by decide) ?_
      refine lv_icmp_ge (tgt := 24) hx hb d_X6_endDay_5 (by decide) (fun c1 => ?_) (fun c1 => ?_)
      · have f2 := i_le c1
        have r3 : Rg y2 6 6 := by obtain ⟨a1, a2⟩ := r_y2; obtain ⟨b1, b2⟩ := (⟨by decide, by decide⟩ : Rg 6 6 6); have f := i_le c1; exact ⟨by omega, by omega⟩
        have hG := g_pos c1 hG
        refine lv_aload_n hx hb d_X6_endDay_24 rfl (lv_at hl 0 rfl) ?_
        refine lv_dup hx hb d_X6_endDay_25 rfl ?_
        refine r_geti X hw FL_X6_36 (rfl : KD 3 = _) rfl d_X6_endDay_26 ?_
        refine lv_topi (fun x4 ex4 => ?_)
        have hG := bnd_use ex4 hG
        refine lv_iconst (v := 1) hx hb d_X6_endDay_29 (by decide) ?_
        refine lv_iadd hx hb d_X6_endDay_30 ?_
        refine lv_topi (fun x5 ex5 => ?_)
        have hG := bnd_use ex5 hG
        refine r_put X hw hS FP_X6_36 (rfl : KD 3 = _) rfl ⟨rfl, rfl⟩ d_X6_endDay_31 (fun H locs hw hS => ?_)
        obtain ⟨v6, ev6⟩ : ∃ z, z = up2 v1 3 5 x5 := ⟨_, rfl⟩
        rw [← ev6] at hw
        have hG := bnd_use ev6 hG
        have hI7 : Inv v6 := by rw [ev6]; exact Inv.put0 hI1 _ rfl
        have hK8 : Kp (kp_X6_endDay_3 cold) v v6 := by rw [ev6]; exact Kp.put hK1 _ (by unfold kp_X6_endDay_3; omega)
        exact r_vret X hr hlocks hw hS ⟨⟨hI7, hK8⟩, hG.trans eRR.symm⟩ d_X6_endDay_34
      · have f9 := i_nle c1
        have r10 : Rg y2 0 5 := by obtain ⟨a1, a2⟩ := r_y2; obtain ⟨b1, b2⟩ := (⟨by decide, by decide⟩ : Rg 6 6 6); have f := i_nle c1; exact ⟨by omega, by omega⟩
        have hG := g_neg c1 hG
        refine lv_aload_n hx hb d_X6_endDay_8 rfl (lv_at hl 0 rfl) ?_
        refine r_getr (r := 18) X hw FL_X6_25 (rfl : KD 3 = _) rfl d_X6_endDay_9 ?_
        refine lv_iload_n hx hb d_X6_endDay_12 rfl (lv_at hl 2 rfl) ?_
        refine r_aald X hw (rfl : KD 18 = _) (Or.inr (Or.inr (Or.inl rfl))) (Rg.vp (b := 5) r10 (by decide)) rfl d_X6_endDay_13 ?_
        refine r_nm (fun kc11 ekc11 => ?_)
        have hG := bnd_use ekc11 hG
        have kc11a : 312 ≤ kc11 := by omega
        have kc11b : kc11 ≤ 317 := by have := Rg.nat r10; omega
        refine lv_iload_n hx hb d_X6_endDay_14 rfl (lv_at hl 1 rfl) ?_
        refine r_cv (r_runV (n := 1) (As := [.int cold]) (rest := []) X hw (ct_X9_heat l D dA ad v1 hI1 kc11 cold (by omega) (by omega) r_cold) gc_X6_130 (KD_ward (by omega) (by omega)) (by decide) rfl (by decide +kernel) ⟨rfl, rfl, Nat.le_of_ble_eq_true rfl, Nat.le_of_ble_eq_true rfl⟩ rfl hl.1 rfl (Nat.le_of_ble_eq_true rfl) ⟨Nat.zero_le _, Nat.zero_le _⟩ d_X6_endDay_15) hS (fun v13 H locs hp12 hw hS => ?_)
        obtain ⟨hp12, hE14⟩ := hp12
        obtain ⟨hI15, hK16⟩ := hp12
        have hK17 : Kp (kp_X6_endDay_3 cold) v v13 := Kp.tr hK1 hK16 (by have z0 : (0 : Int32).toInt = 0 := rfl; intro a j; unfold kp_X6_endDay_3 kp_X9_heat; omega)
        have hG := bnd_use hE14 hG
        obtain ⟨x18, ex18⟩ : ∃ y : Int32, y = y2 + 1 := ⟨_, rfl⟩
        have hG := bnd_use ex18 hG
        refine lv_iinc (v := x18) (lv' := [(2, .int x18), (0, .ref (ad 3)), (1, .int cold)]) hx hb d_X6_endDay_18 hl (k := 2) rfl (by rw [ex18]; rfl) (by decide) rfl (fun ls hl => ?_)
        have r19 : Rg x18 1 6 := rg_add ex18 r10 (⟨by decide, by decide⟩ : Rg 1 1 1) (by decide) (by decide)
        have s20 : x18.toInt = y2.toInt + (1 : Int32).toInt := by rw [ex18]; exact i_add (by obtain ⟨_, _⟩ := r10; obtain ⟨_, _⟩ := (⟨by decide, by decide⟩ : Rg 1 1 1); omega) (by obtain ⟨_, _⟩ := r10; obtain ⟨_, _⟩ := (⟨by decide, by decide⟩ : Rg 1 1 1); omega)
        have s20l : (1 : Int32).toInt = 1 := rfl
        refine lv_goto (tgt := 2) hx hb d_X6_endDay_21 (by decide) ?_
        exact ih0 x18 v13 _ _ _ (by have := s20; obtain ⟨_, _⟩ := r19; omega) (rg_w r19 (by decide) (by decide)) hI15 hK17 hG hw hS (lv_sub hl [1, 2, 0] rfl)
  have ih0 := LL 100000
  have hK0 : Kp (kp_X6_endDay_3 cold) v v := Kp.rf _ v
  have hG := eRR
  unfold f_X6_endDay_3 at hG
  refine lv_iconst (v := 0) hx hb d_X6_endDay_0 (by decide) ?_
  refine lv_istore_n (lv' := [(2, .int 0), (0, .ref (ad 3)), (1, .int cold)]) hx hb d_X6_endDay_1 rfl hl (by decide) rfl (fun ls hl => ?_)
  exact ih0 0 v _ _ _ (by obtain ⟨_, _⟩ := (⟨by decide, by decide⟩ : Rg 0 0 0); omega) (rg_w (⟨by decide, by decide⟩ : Rg 0 0 0) (by decide) (by decide)) hI hK0 hG hw hS (lv_sub hl [1, 2, 0] rfl)
def b_X6_lackedDays_3_4 (v : tV)  (rc4 : Int32 → Int32 → Int32) (y1 : Int32) (y2 : Int32) : Int32 := (if (6 : Int32) ≤ y2 then y1 else bnd (312 + y2.toNatClampNeg) fun kc6 => bnd (v kc6 2) fun x7 => bnd (y1 + x7) fun x8 => bnd (y2 + 1) fun x9 => rc4 x8 x9)
def g_X6_lackedDays_3_4 (v : tV)  : Nat → Int32 → Int32 → Int32
  | 0, _, _ => 0
  | n + 1, y1, y2 => b_X6_lackedDays_3_4 v  (g_X6_lackedDays_3_4 v  n) y1 y2
def f_X6_lackedDays_3 (v : tV)  : Int32 := g_X6_lackedDays_3_4 v  100000 0 0
set_option maxHeartbeats 4000000 in
set_option maxRecDepth 100000 in
theorem ct_X6_lackedDays_3 (l : Launch) (D : va_G) (dA : Nat → ClassId) (ad : Nat → Nat) (v : tV) (hI : Inv v)  : Met l m_X6_lackedDays [.code m_X6_lackedDays c_X6_lackedDays 3 (some .int)] ({ frames := 1, cells := 0, slots := 0, locals := 40 } : Room) (tP D dA ad v [.ref (ad 3)]) (tQi D dA ad (fun r v' => (v' = v) ∧ r = f_X6_lackedDays_3 v )) 0 0 (tA ad) := by
  refine tMet (by decide) (Nat.le_of_ble_eq_true rfl) ?_
  intro p e s m below meth c ls X hr hlocks hw hl
  have X : CX p s m ([.ref (ad 3)] : List Value).toArray c c_X6_lackedDays N_X6 3 D dA := X
  have hx := X.1
  have hb := X.2.1
  have hS : va_S (tA ad) s.heap s.heap [] := va_S.rf
  have hl : lv_has ls 3 [(0, .ref (ad 3))] := hl
  obtain ⟨RR, eRR⟩ : ∃ z, f_X6_lackedDays_3 v  = z := ⟨_, rfl⟩
  have LL : ∀ n : Nat, (∀ (y1 : Int32) (y2 : Int32)  (H : Heap) (locs : List Loc) (ls : Array Slot), (6 - y2.toInt).toNat < n → Rg y2 0 6 → g_X6_lackedDays_3_4 v  n y1 y2 = RR → tI D dA ad v H → va_S (tA ad) s.heap H locs → lv_has ls 3 [(0, .ref (ad 3)), (1, .int y1), (2, .int y2)] → W p l e ({ frames := 1, cells := 0, slots := 0, locals := 40 } : Room) s m ([.ref (ad 3)] : List Value).toArray below meth c H locs 0 0 (MQ below (tQi D dA ad (fun r v' => (v' = v) ∧ r = f_X6_lackedDays_3 v )) ([.ref (ad 3)] : List Value).toArray s 0 0 (tA ad)) (F0 m 4 ls [])) := by
    intro n
    induction n with
    | zero => intros; omega
    | succ n ih =>
      have ih0 := ih
      intro y1 y2 H locs ls hmu r_y2 hG hw hS hl
      have hG : b_X6_lackedDays_3_4 v  (g_X6_lackedDays_3_4 v  n) y1 y2 = RR := hG
      unfold b_X6_lackedDays_3_4 at hG
      refine lv_iload_n hx hb d_X6_lackedDays_4 rfl (lv_at hl 2 rfl) ?_
      refine lv_bipush (v := 6) hx hb d_X6_lackedDays_5 (by decide) ?_
      refine lv_icmp_ge (tgt := 28) hx hb d_X6_lackedDays_7 (by decide) (fun c1 => ?_) (fun c1 => ?_)
      · have f2 := i_le c1
        have r3 : Rg y2 6 6 := by obtain ⟨a1, a2⟩ := r_y2; obtain ⟨b1, b2⟩ := (⟨by decide, by decide⟩ : Rg 6 6 6); have f := i_le c1; exact ⟨by omega, by omega⟩
        have hG := g_pos c1 hG
        refine lv_iload_n hx hb d_X6_lackedDays_28 rfl (lv_at hl 1 rfl) ?_
        exact r_iret X hr hlocks hw hS ⟨rfl, hG.trans eRR.symm⟩ d_X6_lackedDays_29
      · have f4 := i_nle c1
        have r5 : Rg y2 0 5 := by obtain ⟨a1, a2⟩ := r_y2; obtain ⟨b1, b2⟩ := (⟨by decide, by decide⟩ : Rg 6 6 6); have f := i_nle c1; exact ⟨by omega, by omega⟩
        have hG := g_neg c1 hG
        refine lv_iload_n hx hb d_X6_lackedDays_10 rfl (lv_at hl 1 rfl) ?_
        refine lv_aload_n hx hb d_X6_lackedDays_11 rfl (lv_at hl 0 rfl) ?_
        refine r_getr (r := 18) X hw FL_X6_25 (rfl : KD 3 = _) rfl d_X6_lackedDays_12 ?_
        refine lv_iload_n hx hb d_X6_lackedDays_15 rfl (lv_at hl 2 rfl) ?_
        refine r_aald X hw (rfl : KD 18 = _) (Or.inr (Or.inr (Or.inl rfl))) (Rg.vp (b := 5) r5 (by decide)) rfl d_X6_lackedDays_16 ?_
        refine r_nm (fun kc6 ekc6 => ?_)
        have hG := bnd_use ekc6 hG
        have kc6a : 312 ≤ kc6 := by omega
        have kc6b : kc6 ≤ 317 := by have := Rg.nat r5; omega
        refine r_geti X hw FL_X6_133 (KD_ward (by omega) (by omega)) (SH_ward (by omega) (by omega) (by decide)) d_X6_lackedDays_17 ?_
        refine lv_topi (fun x7 ex7 => ?_)
        have hG := bnd_use ex7 hG
        refine lv_iadd hx hb d_X6_lackedDays_20 ?_
        refine lv_topi (fun x8 ex8 => ?_)
        have hG := bnd_use ex8 hG
        refine lv_istore_n (lv' := [(1, .int x8), (0, .ref (ad 3)), (2, .int y2)]) hx hb d_X6_lackedDays_21 rfl hl (by decide) rfl (fun ls hl => ?_)
        obtain ⟨x9, ex9⟩ : ∃ y : Int32, y = y2 + 1 := ⟨_, rfl⟩
        have hG := bnd_use ex9 hG
        refine lv_iinc (v := x9) (lv' := [(2, .int x9), (1, .int x8), (0, .ref (ad 3))]) hx hb d_X6_lackedDays_22 hl (k := 2) rfl (by rw [ex9]; rfl) (by decide) rfl (fun ls hl => ?_)
        have r10 : Rg x9 1 6 := rg_add ex9 r5 (⟨by decide, by decide⟩ : Rg 1 1 1) (by decide) (by decide)
        have s11 : x9.toInt = y2.toInt + (1 : Int32).toInt := by rw [ex9]; exact i_add (by obtain ⟨_, _⟩ := r5; obtain ⟨_, _⟩ := (⟨by decide, by decide⟩ : Rg 1 1 1); omega) (by obtain ⟨_, _⟩ := r5; obtain ⟨_, _⟩ := (⟨by decide, by decide⟩ : Rg 1 1 1); omega)
        have s11l : (1 : Int32).toInt = 1 := rfl
        refine lv_goto (tgt := 4) hx hb d_X6_lackedDays_25 (by decide) ?_
        exact ih0 x8 x9 _ _ _ (by have := s11; obtain ⟨_, _⟩ := r10; omega) (rg_w r10 (by decide) (by decide)) hG hw hS (lv_sub hl [2, 1, 0] rfl)
  have ih0 := LL 100000
  have hG := eRR
  unfold f_X6_lackedDays_3 at hG
  refine lv_iconst (v := 0) hx hb d_X6_lackedDays_0 (by decide) ?_
  refine lv_istore_n (lv' := [(1, .int 0), (0, .ref (ad 3))]) hx hb d_X6_lackedDays_1 rfl hl (by decide) rfl (fun ls hl => ?_)
  refine lv_iconst (v := 0) hx hb d_X6_lackedDays_2 (by decide) ?_
  refine lv_istore_n (lv' := [(2, .int 0), (1, .int 0), (0, .ref (ad 3))]) hx hb d_X6_lackedDays_3 rfl hl (by decide) rfl (fun ls hl => ?_)
  exact ih0 0 0 _ _ _ (by obtain ⟨_, _⟩ := (⟨by decide, by decide⟩ : Rg 0 0 0); obtain ⟨_, _⟩ := (⟨by decide, by decide⟩ : Rg 0 0 0); omega) (rg_w (⟨by decide, by decide⟩ : Rg 0 0 0) (by decide) (by decide)) hG hw hS (lv_sub hl [2, 1, 0] rfl)
theorem d_X6_duesOfAll_0 : decode c_X6_duesOfAll 0 = .ok (.iconst 0, 1) := by decide +kernel
theorem d_X6_duesOfAll_1 : decode c_X6_duesOfAll 1 = .ok (.istore_n 1, 1) := by decide +kernel
theorem d_X6_duesOfAll_2 : decode c_X6_duesOfAll 2 = .ok (.iconst 0, 1) := by decide +kernel
theorem d_X6_duesOfAll_3 : decode c_X6_duesOfAll 3 = .ok (.istore_n 2, 1) := by decide +kernel
theorem d_X6_duesOfAll_4 : decode c_X6_duesOfAll 4 = .ok (.iload_n 2, 1) := by decide +kernel
theorem d_X6_duesOfAll_5 : decode c_X6_duesOfAll 5 = .ok (.aload_n 0, 1) := by decide +kernel
theorem d_X6_duesOfAll_6 : decode c_X6_duesOfAll 6 = .ok (.getfield 29, 3) := by decide +kernel
theorem d_X6_duesOfAll_9 : decode c_X6_duesOfAll 9 = .ok (.if_icmp .ge 21, 3) := by decide +kernel
theorem d_X6_duesOfAll_12 : decode c_X6_duesOfAll 12 = .ok (.iload_n 1, 1) := by decide +kernel
theorem d_X6_duesOfAll_13 : decode c_X6_duesOfAll 13 = .ok (.aload_n 0, 1) := by decide +kernel
theorem d_X6_duesOfAll_14 : decode c_X6_duesOfAll 14 = .ok (.getfield 11, 3) := by decide +kernel
theorem d_X6_duesOfAll_17 : decode c_X6_duesOfAll 17 = .ok (.iload_n 2, 1) := by decide +kernel
theorem d_X6_duesOfAll_18 : decode c_X6_duesOfAll 18 = .ok (.aaload, 1) := by decide +kernel
theorem d_X6_duesOfAll_19 : decode c_X6_duesOfAll 19 = .ok (.getfield 136, 3) := by decide +kernel
theorem d_X6_duesOfAll_22 : decode c_X6_duesOfAll 22 = .ok (.iadd, 1) := by decide +kernel
theorem d_X6_duesOfAll_23 : decode c_X6_duesOfAll 23 = .ok (.istore_n 1, 1) := by decide +kernel
theorem d_X6_duesOfAll_24 : decode c_X6_duesOfAll 24 = .ok (.iinc 2 1, 3) := by decide +kernel
theorem d_X6_duesOfAll_27 : decode c_X6_duesOfAll 27 = .ok (.goto (-23), 3) := by decide +kernel
theorem d_X6_duesOfAll_30 : decode c_X6_duesOfAll 30 = .ok (.iload_n 1, 1) := by decide +kernel
theorem d_X6_duesOfAll_31 : decode c_X6_duesOfAll 31 = .ok (.ireturn, 1) := by decide +kernel
def b_X6_duesOfAll_1_4 (v : tV)  (rc4 : Int32 → Int32 → Int32) (y1 : Int32) (y2 : Int32) : Int32 := bnd (v 1 3) fun x1 => (if x1 ≤ y2 then y1 else bnd (100 + y2.toNatClampNeg) fun kc9 => bnd (v kc9 12) fun x10 => bnd (y1 + x10) fun x11 => bnd (y2 + 1) fun x12 => rc4 x11 x12)
def g_X6_duesOfAll_1_4 (v : tV)  : Nat → Int32 → Int32 → Int32
  | 0, _, _ => 0
  | n + 1, y1, y2 => b_X6_duesOfAll_1_4 v  (g_X6_duesOfAll_1_4 v  n) y1 y2
def f_X6_duesOfAll_1 (v : tV)  : Int32 := g_X6_duesOfAll_1_4 v  100000 0 0
set_option maxHeartbeats 4000000 in
set_option maxRecDepth 100000 in
theorem ct_X6_duesOfAll_1 (l : Launch) (D : va_G) (dA : Nat → ClassId) (ad : Nat → Nat) (v : tV) (hI : Inv v)  : Met l m_X6_duesOfAll [.code m_X6_duesOfAll c_X6_duesOfAll 3 (some .int)] ({ frames := 1, cells := 0, slots := 0, locals := 40 } : Room) (tP D dA ad v [.ref (ad 1)]) (tQi D dA ad (fun r v' => (v' = v) ∧ r = f_X6_duesOfAll_1 v )) 0 0 (tA ad) := by
  refine tMet (by decide) (Nat.le_of_ble_eq_true rfl) ?_
  intro p e s m below meth c ls X hr hlocks hw hl
  have X : CX p s m ([.ref (ad 1)] : List Value).toArray c c_X6_duesOfAll N_X6 3 D dA := X
  have hx := X.1
  have hb := X.2.1
  have hS : va_S (tA ad) s.heap s.heap [] := va_S.rf
  have hl : lv_has ls 3 [(0, .ref (ad 1))] := hl
  obtain ⟨RR, eRR⟩ : ∃ z, f_X6_duesOfAll_1 v  = z := ⟨_, rfl⟩
  have LL : ∀ n : Nat, (∀ (y1 : Int32) (y2 : Int32)  (H : Heap) (locs : List Loc) (ls : Array Slot), (20 - y2.toInt).toNat < n → Rg y2 0 20 → g_X6_duesOfAll_1_4 v  n y1 y2 = RR → tI D dA ad v H → va_S (tA ad) s.heap H locs → lv_has ls 3 [(0, .ref (ad 1)), (1, .int y1), (2, .int y2)] → W p l e ({ frames := 1, cells := 0, slots := 0, locals := 40 } : Room) s m ([.ref (ad 1)] : List Value).toArray below meth c H locs 0 0 (MQ below (tQi D dA ad (fun r v' => (v' = v) ∧ r = f_X6_duesOfAll_1 v )) ([.ref (ad 1)] : List Value).toArray s 0 0 (tA ad)) (F0 m 4 ls [])) := by
    intro n
    induction n with
    | zero => intros; omega
    | succ n ih =>
      have ih0 := ih
      intro y1 y2 H locs ls hmu r_y2 hG hw hS hl
      have hG : b_X6_duesOfAll_1_4 v  (g_X6_duesOfAll_1_4 v  n) y1 y2 = RR := hG
      unfold b_X6_duesOfAll_1_4 at hG
      refine lv_iload_n hx hb d_X6_duesOfAll_4 rfl (lv_at hl 2 rfl) ?_
      refine lv_aload_n hx hb d_X6_duesOfAll_5 rfl (lv_at hl 0 rfl) ?_
      refine r_geti X hw FL_X6_29 (rfl : KD 1 = _) rfl d_X6_duesOfAll_6 ?_
      refine lv_topi (fun x1 ex1 => ?_)
      have hG := bnd_use ex1 hG
      have r2 : Rg x1 0 20 := by rw [ex1]; exact hI _ _ _ _ rfl
      have hm3 : v 1 3 = x1 := ex1.symm
      refine lv_icmp_ge (tgt := 30) hx hb d_X6_duesOfAll_9 (by decide) (fun c4 => ?_) (fun c4 => ?_)
      · have f5 := i_le c4
        have hG := g_pos c4 hG
        refine lv_iload_n hx hb d_X6_duesOfAll_30 rfl (lv_at hl 1 rfl) ?_
        exact r_iret X hr hlocks hw hS ⟨rfl, hG.trans eRR.symm⟩ d_X6_duesOfAll_31
      · have f6 := i_nle c4
        have r7 : Rg y2 0 19 := by obtain ⟨a1, a2⟩ := r_y2; obtain ⟨b1, b2⟩ := r2; have f := i_nle c4; exact ⟨by omega, by omega⟩
        have r8 : Rg x1 1 20 := by obtain ⟨a1, a2⟩ := r_y2; obtain ⟨b1, b2⟩ := r2; have f := i_nle c4; exact ⟨by omega, by omega⟩
        have hG := g_neg c4 hG
        refine lv_iload_n hx hb d_X6_duesOfAll_12 rfl (lv_at hl 1 rfl) ?_
        refine lv_aload_n hx hb d_X6_duesOfAll_13 rfl (lv_at hl 0 rfl) ?_
        refine r_getr (r := 10) X hw FL_X6_11 (rfl : KD 1 = _) rfl d_X6_duesOfAll_14 ?_
        refine lv_iload_n hx hb d_X6_duesOfAll_17 rfl (lv_at hl 2 rfl) ?_
        refine r_aald X hw (rfl : KD 10 = _) (Or.inl rfl) (Rg.vp (b := 19) r7 (by decide)) rfl d_X6_duesOfAll_18 ?_
        refine r_nm (fun kc9 ekc9 => ?_)
        have hG := bnd_use ekc9 hG
        have kc9a : 100 ≤ kc9 := by omega
        have kc9b : kc9 ≤ 119 := by have := Rg.nat r7; omega
        refine r_geti X hw FL_X6_136 (KD_ship (by omega) (by omega)) (SH_ship (by omega) (by omega)) d_X6_duesOfAll_19 ?_
        refine lv_topi (fun x10 ex10 => ?_)
        have hG := bnd_use ex10 hG
        refine lv_iadd hx hb d_X6_duesOfAll_22 ?_
        refine lv_topi (fun x11 ex11 => ?_)
        have hG := bnd_use ex11 hG
        refine lv_istore_n (lv' := [(1, .int x11), (0, .ref (ad 1)), (2, .int y2)]) hx hb d_X6_duesOfAll_23 rfl hl (by decide) rfl (fun ls hl => ?_)
        obtain ⟨x12, ex12⟩ : ∃ y : Int32, y = y2 + 1 := ⟨_, rfl⟩
        have hG := bnd_use ex12 hG
        refine lv_iinc (v := x12) (lv' := [(2, .int x12), (1, .int x11), (0, .ref (ad 1))]) hx hb d_X6_duesOfAll_24 hl (k := 2) rfl (by rw [ex12]; rfl) (by decide) rfl (fun ls hl => ?_)
        have r13 : Rg x12 1 20 := rg_add ex12 r7 (⟨by decide, by decide⟩ : Rg 1 1 1) (by decide) (by decide)
        have s14 : x12.toInt = y2.toInt + (1 : Int32).toInt := by rw [ex12]; exact i_add (by obtain ⟨_, _⟩ := r7; obtain ⟨_, _⟩ := (⟨by decide, by decide⟩ : Rg 1 1 1); omega) (by obtain ⟨_, _⟩ := r7; obtain ⟨_, _⟩ := (⟨by decide, by decide⟩ : Rg 1 1 1); omega)
        have s14l : (1 : Int32).toInt = 1 := rfl
        refine lv_goto (tgt := 4) hx hb d_X6_duesOfAll_27 (by decide) ?_
        exact ih0 x11 x12 _ _ _ (by have := s14; obtain ⟨_, _⟩ := r13; omega) (rg_w r13 (by decide) (by decide)) hG hw hS (lv_sub hl [2, 1, 0] rfl)
  have ih0 := LL 100000
  have hG := eRR
  unfold f_X6_duesOfAll_1 at hG
  refine lv_iconst (v := 0) hx hb d_X6_duesOfAll_0 (by decide) ?_
  refine lv_istore_n (lv' := [(1, .int 0), (0, .ref (ad 1))]) hx hb d_X6_duesOfAll_1 rfl hl (by decide) rfl (fun ls hl => ?_)
  refine lv_iconst (v := 0) hx hb d_X6_duesOfAll_2 (by decide) ?_
  refine lv_istore_n (lv' := [(2, .int 0), (1, .int 0), (0, .ref (ad 1))]) hx hb d_X6_duesOfAll_3 rfl hl (by decide) rfl (fun ls hl => ?_)
  exact ih0 0 0 _ _ _ (by obtain ⟨_, _⟩ := (⟨by decide, by decide⟩ : Rg 0 0 0); obtain ⟨_, _⟩ := (⟨by decide, by decide⟩ : Rg 0 0 0); omega) (rg_w (⟨by decide, by decide⟩ : Rg 0 0 0) (by decide) (by decide)) hG hw hS (lv_sub hl [2, 1, 0] rfl)
theorem d_X6_takenFor_0 : decode c_X6_takenFor 0 = .ok (.iconst 0, 1) := by decide +kernel
theorem d_X6_takenFor_1 : decode c_X6_takenFor 1 = .ok (.istore_n 2, 1) := by decide +kernel
theorem d_X6_takenFor_2 : decode c_X6_takenFor 2 = .ok (.iconst 0, 1) := by decide +kernel
theorem d_X6_takenFor_3 : decode c_X6_takenFor 3 = .ok (.istore_n 3, 1) := by decide +kernel
theorem d_X6_takenFor_4 : decode c_X6_takenFor 4 = .ok (.iload_n 3, 1) := by decide +kernel
theorem d_X6_takenFor_5 : decode c_X6_takenFor 5 = .ok (.aload_n 0, 1) := by decide +kernel
theorem d_X6_takenFor_6 : decode c_X6_takenFor 6 = .ok (.getfield 29, 3) := by decide +kernel
theorem d_X6_takenFor_9 : decode c_X6_takenFor 9 = .ok (.if_icmp .ge 34, 3) := by decide +kernel
theorem d_X6_takenFor_12 : decode c_X6_takenFor 12 = .ok (.aload_n 0, 1) := by decide +kernel
theorem d_X6_takenFor_13 : decode c_X6_takenFor 13 = .ok (.getfield 11, 3) := by decide +kernel
theorem d_X6_takenFor_16 : decode c_X6_takenFor 16 = .ok (.iload_n 3, 1) := by decide +kernel
theorem d_X6_takenFor_17 : decode c_X6_takenFor 17 = .ok (.aaload, 1) := by decide +kernel
theorem d_X6_takenFor_18 : decode c_X6_takenFor 18 = .ok (.getfield 139, 3) := by decide +kernel
theorem d_X6_takenFor_21 : decode c_X6_takenFor 21 = .ok (.iload_n 1, 1) := by decide +kernel
theorem d_X6_takenFor_22 : decode c_X6_takenFor 22 = .ok (.if_icmp .ne 15, 3) := by decide +kernel
theorem d_X6_takenFor_25 : decode c_X6_takenFor 25 = .ok (.iload_n 2, 1) := by decide +kernel
theorem d_X6_takenFor_26 : decode c_X6_takenFor 26 = .ok (.aload_n 0, 1) := by decide +kernel
theorem d_X6_takenFor_27 : decode c_X6_takenFor 27 = .ok (.getfield 11, 3) := by decide +kernel
theorem d_X6_takenFor_30 : decode c_X6_takenFor 30 = .ok (.iload_n 3, 1) := by decide +kernel
theorem d_X6_takenFor_31 : decode c_X6_takenFor 31 = .ok (.aaload, 1) := by decide +kernel
theorem d_X6_takenFor_32 : decode c_X6_takenFor 32 = .ok (.getfield 142, 3) := by decide +kernel
theorem d_X6_takenFor_35 : decode c_X6_takenFor 35 = .ok (.iadd, 1) := by decide +kernel
theorem d_X6_takenFor_36 : decode c_X6_takenFor 36 = .ok (.istore_n 2, 1) := by decide +kernel
theorem d_X6_takenFor_37 : decode c_X6_takenFor 37 = .ok (.iinc 3 1, 3) := by decide +kernel
theorem d_X6_takenFor_40 : decode c_X6_takenFor 40 = .ok (.goto (-36), 3) := by decide +kernel
theorem d_X6_takenFor_43 : decode c_X6_takenFor 43 = .ok (.iload_n 2, 1) := by decide +kernel
theorem d_X6_takenFor_44 : decode c_X6_takenFor 44 = .ok (.ireturn, 1) := by decide +kernel
def b_X6_takenFor_1_4 (v : tV) (fi : Int32) (rc4 : Int32 → Int32 → Int32) (y2 : Int32) (y3 : Int32) : Int32 := bnd (v 1 3) fun x1 => (if x1 ≤ y3 then y2 else bnd (100 + y3.toNatClampNeg) fun kc9 => bnd (v kc9 4) fun x10 => (if x10 = fi then bnd (100 + y3.toNatClampNeg) fun kc17 => bnd (v kc17 11) fun x18 => bnd (y2 + x18) fun x19 => bnd (y3 + 1) fun x20 => rc4 x19 x20 else bnd (y3 + 1) fun x13 => rc4 y2 x13))
def g_X6_takenFor_1_4 (v : tV) (fi : Int32) : Nat → Int32 → Int32 → Int32
  | 0, _, _ => 0
  | n + 1, y2, y3 => b_X6_takenFor_1_4 v fi (g_X6_takenFor_1_4 v fi n) y2 y3
def f_X6_takenFor_1 (v : tV) (fi : Int32) : Int32 := g_X6_takenFor_1_4 v fi 100000 0 0
set_option maxHeartbeats 4000000 in
set_option maxRecDepth 100000 in
theorem ct_X6_takenFor_1 (l : Launch) (D : va_G) (dA : Nat → ClassId) (ad : Nat → Nat) (v : tV) (hI : Inv v) (fi : Int32) : Met l m_X6_takenFor [.code m_X6_takenFor c_X6_takenFor 4 (some .int)] ({ frames := 1, cells := 0, slots := 0, locals := 40 } : Room) (tP D dA ad v [.ref (ad 1), .int fi]) (tQi D dA ad (fun r v' => (v' = v) ∧ r = f_X6_takenFor_1 v fi)) 0 0 (tA ad) := by
  refine tMet (by decide) (Nat.le_of_ble_eq_true rfl) ?_
  intro p e s m below meth c ls X hr hlocks hw hl
  have X : CX p s m ([.ref (ad 1), .int fi] : List Value).toArray c c_X6_takenFor N_X6 4 D dA := X
  have hx := X.1
  have hb := X.2.1
  have hS : va_S (tA ad) s.heap s.heap [] := va_S.rf
  have hl : lv_has ls 4 [(0, .ref (ad 1)), (1, .int fi)] := hl
  obtain ⟨RR, eRR⟩ : ∃ z, f_X6_takenFor_1 v fi = z := ⟨_, rfl⟩
  have LL : ∀ n : Nat, (∀ (y2 : Int32) (y3 : Int32)  (H : Heap) (locs : List Loc) (ls : Array Slot), (20 - y3.toInt).toNat < n → Rg y3 0 20 → g_X6_takenFor_1_4 v fi n y2 y3 = RR → tI D dA ad v H → va_S (tA ad) s.heap H locs → lv_has ls 4 [(0, .ref (ad 1)), (1, .int fi), (2, .int y2), (3, .int y3)] → W p l e ({ frames := 1, cells := 0, slots := 0, locals := 40 } : Room) s m ([.ref (ad 1), .int fi] : List Value).toArray below meth c H locs 0 0 (MQ below (tQi D dA ad (fun r v' => (v' = v) ∧ r = f_X6_takenFor_1 v fi)) ([.ref (ad 1), .int fi] : List Value).toArray s 0 0 (tA ad)) (F0 m 4 ls [])) := by
    intro n
    induction n with
    | zero => intros; omega
    | succ n ih =>
      have ih0 := ih
      intro y2 y3 H locs ls hmu r_y3 hG hw hS hl
      have hG : b_X6_takenFor_1_4 v fi (g_X6_takenFor_1_4 v fi n) y2 y3 = RR := hG
      unfold b_X6_takenFor_1_4 at hG
      refine lv_iload_n hx hb d_X6_takenFor_4 rfl (lv_at hl 3 rfl) ?_
      refine lv_aload_n hx hb d_X6_takenFor_5 rfl (lv_at hl 0 rfl) ?_
      refine r_geti X hw FL_X6_29 (rfl : KD 1 = _) rfl d_X6_takenFor_6 ?_
      refine lv_topi (fun x1 ex1 => ?_)
      have hG := bnd_use ex1 hG
      have r2 : Rg x1 0 20 := by rw [ex1]; exact hI _ _ _ _ rfl
      have hm3 : v 1 3 = x1 := ex1.symm
      refine lv_icmp_ge (tgt := 43) hx hb d_X6_takenFor_9 (by decide) (fun c4 => ?_) (fun c4 => ?_)
      · have f5 := i_le c4
        have hG := g_pos c4 hG
        refine lv_iload_n hx hb d_X6_takenFor_43 rfl (lv_at hl 2 rfl) ?_
        exact r_iret X hr hlocks hw hS ⟨rfl, hG.trans eRR.symm⟩ d_X6_takenFor_44
      · have f6 := i_nle c4
        have r7 : Rg y3 0 19 := by obtain ⟨a1, a2⟩ := r_y3; obtain ⟨b1, b2⟩ := r2; have f := i_nle c4; exact ⟨by omega, by omega⟩
        have r8 : Rg x1 1 20 := by obtain ⟨a1, a2⟩ := r_y3; obtain ⟨b1, b2⟩ := r2; have f := i_nle c4; exact ⟨by omega, by omega⟩
        have hG := g_neg c4 hG
        refine lv_aload_n hx hb d_X6_takenFor_12 rfl (lv_at hl 0 rfl) ?_
        refine r_getr (r := 10) X hw FL_X6_11 (rfl : KD 1 = _) rfl d_X6_takenFor_13 ?_
        refine lv_iload_n hx hb d_X6_takenFor_16 rfl (lv_at hl 3 rfl) ?_
        refine r_aald X hw (rfl : KD 10 = _) (Or.inl rfl) (Rg.vp (b := 19) r7 (by decide)) rfl d_X6_takenFor_17 ?_
        refine r_nm (fun kc9 ekc9 => ?_)
        have hG := bnd_use ekc9 hG
        have kc9a : 100 ≤ kc9 := by omega
        have kc9b : kc9 ≤ 119 := by have := Rg.nat r7; omega
        refine r_geti X hw FL_X6_139 (KD_ship (by omega) (by omega)) (SH_ship (by omega) (by omega)) d_X6_takenFor_18 ?_
        refine lv_topi (fun x10 ex10 => ?_)
        have hG := bnd_use ex10 hG
        refine lv_iload_n hx hb d_X6_takenFor_21 rfl (lv_at hl 1 rfl) ?_
        refine lv_icmp_ne (tgt := 37) hx hb d_X6_takenFor_22 (by decide) (fun c11 => ?_) (fun c11 => ?_)
        · have f12 := i_ne c11
          have hG := g_neg c11 hG
          obtain ⟨x13, ex13⟩ : ∃ y : Int32, y = y3 + 1 := ⟨_, rfl⟩
          have hG := bnd_use ex13 hG
          refine lv_iinc (v := x13) (lv' := [(3, .int x13), (0, .ref (ad 1)), (1, .int fi), (2, .int y2)]) hx hb d_X6_takenFor_37 hl (k := 3) rfl (by rw [ex13]; rfl) (by decide) rfl (fun ls hl => ?_)
          have r14 : Rg x13 1 20 := rg_add ex13 r7 (⟨by decide, by decide⟩ : Rg 1 1 1) (by decide) (by decide)
          have s15 : x13.toInt = y3.toInt + (1 : Int32).toInt := by rw [ex13]; exact i_add (by obtain ⟨_, _⟩ := r7; obtain ⟨_, _⟩ := (⟨by decide, by decide⟩ : Rg 1 1 1); omega) (by obtain ⟨_, _⟩ := r7; obtain ⟨_, _⟩ := (⟨by decide, by decide⟩ : Rg 1 1 1); omega)
          have s15l : (1 : Int32).toInt = 1 := rfl
          refine lv_goto (tgt := 4) hx hb d_X6_takenFor_40 (by decide) ?_
          exact ih0 y2 x13 _ _ _ (by have := s15; obtain ⟨_, _⟩ := r14; omega) (rg_w r14 (by decide) (by decide)) hG hw hS (lv_sub hl [1, 2, 3, 0] rfl)
        · have f16 := i_eq c11
          have hG := g_pos c11 hG
          refine lv_iload_n hx hb d_X6_takenFor_25 rfl (lv_at hl 2 rfl) ?_
          refine lv_aload_n hx hb d_X6_takenFor_26 rfl (lv_at hl 0 rfl) ?_
          refine r_getr (r := 10) X hw FL_X6_11 (rfl : KD 1 = _) rfl d_X6_takenFor_27 ?_
          refine lv_iload_n hx hb d_X6_takenFor_30 rfl (lv_at hl 3 rfl) ?_
          refine r_aald X hw (rfl : KD 10 = _) (Or.inl rfl) (Rg.vp (b := 19) r7 (by decide)) rfl d_X6_takenFor_31 ?_
          refine r_nm (fun kc17 ekc17 => ?_)
          have hG := bnd_use ekc17 hG
          have kc17a : 100 ≤ kc17 := by omega
          have kc17b : kc17 ≤ 119 := by have := Rg.nat r7; omega
          refine r_geti X hw FL_X6_142 (KD_ship (by omega) (by omega)) (SH_ship (by omega) (by omega)) d_X6_takenFor_32 ?_
          refine lv_topi (fun x18 ex18 => ?_)
          have hG := bnd_use ex18 hG
          refine lv_iadd hx hb d_X6_takenFor_35 ?_
          refine lv_topi (fun x19 ex19 => ?_)
          have hG := bnd_use ex19 hG
          refine lv_istore_n (lv' := [(2, .int x19), (0, .ref (ad 1)), (1, .int fi), (3, .int y3)]) hx hb d_X6_takenFor_36 rfl hl (by decide) rfl (fun ls hl => ?_)
          obtain ⟨x20, ex20⟩ : ∃ y : Int32, y = y3 + 1 := ⟨_, rfl⟩
          have hG := bnd_use ex20 hG
          refine lv_iinc (v := x20) (lv' := [(3, .int x20), (2, .int x19), (0, .ref (ad 1)), (1, .int fi)]) hx hb d_X6_takenFor_37 hl (k := 3) rfl (by rw [ex20]; rfl) (by decide) rfl (fun ls hl => ?_)
          have r21 : Rg x20 1 20 := rg_add ex20 r7 (⟨by decide, by decide⟩ : Rg 1 1 1) (by decide) (by decide)
          have s22 : x20.toInt = y3.toInt + (1 : Int32).toInt := by rw [ex20]; exact i_add (by obtain ⟨_, _⟩ := r7; obtain ⟨_, _⟩ := (⟨by decide, by decide⟩ : Rg 1 1 1); omega) (by obtain ⟨_, _⟩ := r7; obtain ⟨_, _⟩ := (⟨by decide, by decide⟩ : Rg 1 1 1); omega)
          have s22l : (1 : Int32).toInt = 1 := rfl
          refine lv_goto (tgt := 4) hx hb d_X6_takenFor_40 (by decide) ?_
          exact ih0 x19 x20 _ _ _ (by have := s22; obtain ⟨_, _⟩ := r21; omega) (rg_w r21 (by decide) (by decide)) hG hw hS (lv_sub hl [2, 3, 1, 0] rfl)
  have ih0 := LL 100000
  have hG := eRR
  unfold f_X6_takenFor_1 at hG
  refine lv_iconst (v := 0) hx hb d_X6_takenFor_0 (by decide) ?_
  refine lv_istore_n (lv' := [(2, .int 0), (0, .ref (ad 1)), (1, .int fi)]) hx hb d_X6_takenFor_1 rfl hl (by decide) rfl (fun ls hl => ?_)
  refine lv_iconst (v := 0) hx hb d_X6_takenFor_2 (by decide) ?_
  refine lv_istore_n (lv' := [(3, .int 0), (2, .int 0), (0, .ref (ad 1)), (1, .int fi)]) hx hb d_X6_takenFor_3 rfl hl (by decide) rfl (fun ls hl => ?_)
  exact ih0 0 0 _ _ _ (by obtain ⟨_, _⟩ := (⟨by decide, by decide⟩ : Rg 0 0 0); obtain ⟨_, _⟩ := (⟨by decide, by decide⟩ : Rg 0 0 0); omega) (rg_w (⟨by decide, by decide⟩ : Rg 0 0 0) (by decide) (by decide)) hG hw hS (lv_sub hl [2, 3, 1, 0] rfl)
theorem d_X6_copy_0 : decode c_X6_copy 0 = .ok (.aload_n 0, 1) := by decide +kernel
theorem d_X6_copy_1 : decode c_X6_copy 1 = .ok (.aload_n 1, 1) := by decide +kernel
theorem d_X6_copy_2 : decode c_X6_copy 2 = .ok (.getfield 29, 3) := by decide +kernel
theorem d_X6_copy_5 : decode c_X6_copy 5 = .ok (.putfield 29, 3) := by decide +kernel
theorem d_X6_copy_8 : decode c_X6_copy 8 = .ok (.aload_n 0, 1) := by decide +kernel
theorem d_X6_copy_9 : decode c_X6_copy 9 = .ok (.aload_n 1, 1) := by decide +kernel
theorem d_X6_copy_10 : decode c_X6_copy 10 = .ok (.getfield 33, 3) := by decide +kernel
theorem d_X6_copy_13 : decode c_X6_copy 13 = .ok (.putfield 33, 3) := by decide +kernel
theorem d_X6_copy_16 : decode c_X6_copy 16 = .ok (.aload_n 0, 1) := by decide +kernel
theorem d_X6_copy_17 : decode c_X6_copy 17 = .ok (.aload_n 1, 1) := by decide +kernel
theorem d_X6_copy_18 : decode c_X6_copy 18 = .ok (.getfield 36, 3) := by decide +kernel
theorem d_X6_copy_21 : decode c_X6_copy 21 = .ok (.putfield 36, 3) := by decide +kernel
theorem d_X6_copy_24 : decode c_X6_copy 24 = .ok (.aload_n 0, 1) := by decide +kernel
theorem d_X6_copy_25 : decode c_X6_copy 25 = .ok (.aload_n 1, 1) := by decide +kernel
theorem d_X6_copy_26 : decode c_X6_copy 26 = .ok (.getfield 39, 3) := by decide +kernel
theorem d_X6_copy_29 : decode c_X6_copy 29 = .ok (.putfield 39, 3) := by decide +kernel
theorem d_X6_copy_32 : decode c_X6_copy 32 = .ok (.iconst 0, 1) := by decide +kernel
theorem d_X6_copy_33 : decode c_X6_copy 33 = .ok (.istore_n 2, 1) := by decide +kernel
theorem d_X6_copy_34 : decode c_X6_copy 34 = .ok (.iload_n 2, 1) := by decide +kernel
theorem d_X6_copy_35 : decode c_X6_copy 35 = .ok (.aload_n 0, 1) := by decide +kernel
theorem d_X6_copy_36 : decode c_X6_copy 36 = .ok (.getfield 29, 3) := by decide +kernel
theorem d_X6_copy_39 : decode c_X6_copy 39 = .ok (.if_icmp .ge 24, 3) := by decide +kernel
theorem d_X6_copy_42 : decode c_X6_copy 42 = .ok (.aload_n 0, 1) := by decide +kernel
theorem d_X6_copy_43 : decode c_X6_copy 43 = .ok (.getfield 11, 3) := by decide +kernel
theorem d_X6_copy_46 : decode c_X6_copy 46 = .ok (.iload_n 2, 1) := by decide +kernel
theorem d_X6_copy_47 : decode c_X6_copy 47 = .ok (.aaload, 1) := by decide +kernel
theorem d_X6_copy_48 : decode c_X6_copy 48 = .ok (.aload_n 1, 1) := by decide +kernel
theorem d_X6_copy_49 : decode c_X6_copy 49 = .ok (.getfield 11, 3) := by decide +kernel
theorem d_X6_copy_52 : decode c_X6_copy 52 = .ok (.iload_n 2, 1) := by decide +kernel
theorem d_X6_copy_53 : decode c_X6_copy 53 = .ok (.aaload, 1) := by decide +kernel
theorem d_X6_copy_54 : decode c_X6_copy 54 = .ok (.invokevirtual 45, 3) := by decide +kernel
theorem d_X6_copy_57 : decode c_X6_copy 57 = .ok (.iinc 2 1, 3) := by decide +kernel
theorem d_X6_copy_60 : decode c_X6_copy 60 = .ok (.goto (-26), 3) := by decide +kernel
theorem d_X6_copy_63 : decode c_X6_copy 63 = .ok (.iconst 0, 1) := by decide +kernel
theorem d_X6_copy_64 : decode c_X6_copy 64 = .ok (.istore_n 2, 1) := by decide +kernel
theorem d_X6_copy_65 : decode c_X6_copy 65 = .ok (.iload_n 2, 1) := by decide +kernel
theorem d_X6_copy_66 : decode c_X6_copy 66 = .ok (.aload_n 0, 1) := by decide +kernel
theorem d_X6_copy_67 : decode c_X6_copy 67 = .ok (.getfield 33, 3) := by decide +kernel
theorem d_X6_copy_70 : decode c_X6_copy 70 = .ok (.if_icmp .ge 24, 3) := by decide +kernel
theorem d_X6_copy_73 : decode c_X6_copy 73 = .ok (.aload_n 0, 1) := by decide +kernel
theorem d_X6_copy_74 : decode c_X6_copy 74 = .ok (.getfield 19, 3) := by decide +kernel
theorem d_X6_copy_77 : decode c_X6_copy 77 = .ok (.iload_n 2, 1) := by decide +kernel
theorem d_X6_copy_78 : decode c_X6_copy 78 = .ok (.aaload, 1) := by decide +kernel
theorem d_X6_copy_79 : decode c_X6_copy 79 = .ok (.aload_n 1, 1) := by decide +kernel
theorem d_X6_copy_80 : decode c_X6_copy 80 = .ok (.getfield 19, 3) := by decide +kernel
theorem d_X6_copy_83 : decode c_X6_copy 83 = .ok (.iload_n 2, 1) := by decide +kernel
theorem d_X6_copy_84 : decode c_X6_copy 84 = .ok (.aaload, 1) := by decide +kernel
theorem d_X6_copy_85 : decode c_X6_copy 85 = .ok (.invokevirtual 49, 3) := by decide +kernel
theorem d_X6_copy_88 : decode c_X6_copy 88 = .ok (.iinc 2 1, 3) := by decide +kernel
theorem d_X6_copy_91 : decode c_X6_copy 91 = .ok (.goto (-26), 3) := by decide +kernel
theorem d_X6_copy_94 : decode c_X6_copy 94 = .ok (.iconst 0, 1) := by decide +kernel
theorem d_X6_copy_95 : decode c_X6_copy 95 = .ok (.istore_n 2, 1) := by decide +kernel
theorem d_X6_copy_96 : decode c_X6_copy 96 = .ok (.iload_n 2, 1) := by decide +kernel
theorem d_X6_copy_97 : decode c_X6_copy 97 = .ok (.bipush 6, 2) := by decide +kernel
theorem d_X6_copy_99 : decode c_X6_copy 99 = .ok (.if_icmp .ge 24, 3) := by decide +kernel
theorem d_X6_copy_102 : decode c_X6_copy 102 = .ok (.aload_n 0, 1) := by decide +kernel
theorem d_X6_copy_103 : decode c_X6_copy 103 = .ok (.getfield 25, 3) := by decide +kernel
theorem d_X6_copy_106 : decode c_X6_copy 106 = .ok (.iload_n 2, 1) := by decide +kernel
theorem d_X6_copy_107 : decode c_X6_copy 107 = .ok (.aaload, 1) := by decide +kernel
theorem d_X6_copy_108 : decode c_X6_copy 108 = .ok (.aload_n 1, 1) := by decide +kernel
theorem d_X6_copy_109 : decode c_X6_copy 109 = .ok (.getfield 25, 3) := by decide +kernel
theorem d_X6_copy_112 : decode c_X6_copy 112 = .ok (.iload_n 2, 1) := by decide +kernel
theorem d_X6_copy_113 : decode c_X6_copy 113 = .ok (.aaload, 1) := by decide +kernel
theorem d_X6_copy_114 : decode c_X6_copy 114 = .ok (.invokevirtual 52, 3) := by decide +kernel
theorem d_X6_copy_117 : decode c_X6_copy 117 = .ok (.iinc 2 1, 3) := by decide +kernel
theorem d_X6_copy_120 : decode c_X6_copy 120 = .ok (.goto (-24), 3) := by decide +kernel
theorem d_X6_copy_123 : decode c_X6_copy 123 = .ok (.return_, 1) := by decide +kernel
def kp_X6_copy_2_1  (a j : Nat) : Prop := a ≠ 2 ∧ (a < 120 ∨ 140 ≤ a) ∧ (a < 210 ∨ 220 ≤ a) ∧ (a < 306 ∨ 312 ≤ a) ∧ (a < 326 ∨ 332 ≤ a)
def b_X6_copy_2_1_34  (rc34 : Int32 → tV → tV) (rc65 : Int32 → tV → tV) (y2 : Int32) (v1 : tV) : tV := bnd (v1 2 3) fun x1 => (if x1 ≤ y2 then rc65 0 v1 else bnd (120 + y2.toNatClampNeg) fun kc9 => bnd (100 + y2.toNatClampNeg) fun kc10 => bnd (f_X7_copy v1 kc9 kc10) fun v12 => bnd (y2 + 1) fun x17 => rc34 x17 v12)
def b_X6_copy_2_1_65  (rc65 : Int32 → tV → tV) (rc96 : Int32 → tV → tV) (y2 : Int32) (v1 : tV) : tV := bnd (v1 2 4) fun x20 => (if x20 ≤ y2 then rc96 0 v1 else bnd (210 + y2.toNatClampNeg) fun kc28 => bnd (200 + y2.toNatClampNeg) fun kc29 => bnd (f_X0_copy v1 kc28 kc29) fun v31 => bnd (y2 + 1) fun x36 => rc65 x36 v31)
def b_X6_copy_2_1_96  (rc96 : Int32 → tV → tV) (y2 : Int32) (v1 : tV) : tV := (if (6 : Int32) ≤ y2 then v1 else bnd (306 + y2.toNatClampNeg) fun kc44 => bnd (300 + y2.toNatClampNeg) fun kc45 => bnd (f_X9_copy_A v1 kc44 kc45) fun v47 => bnd (y2 + 1) fun x52 => rc96 x52 v47)
def g_X6_copy_2_1_96  : Nat → Int32 → tV → tV
  | 0, _, v1 => v1
  | n + 1, y2, v1 => b_X6_copy_2_1_96  (g_X6_copy_2_1_96  n) y2 v1
def g_X6_copy_2_1_65  : Nat → Int32 → tV → tV
  | 0, _, v1 => v1
  | n + 1, y2, v1 => b_X6_copy_2_1_65  (g_X6_copy_2_1_65  n) (g_X6_copy_2_1_96  n) y2 v1
def g_X6_copy_2_1_34  : Nat → Int32 → tV → tV
  | 0, _, v1 => v1
  | n + 1, y2, v1 => b_X6_copy_2_1_34  (g_X6_copy_2_1_34  n) (g_X6_copy_2_1_65  n) y2 v1
def f_X6_copy_2_1 (v : tV)  : tV := bnd (v 1 3) fun x55 => bnd (up2 v 2 3 x55) fun v58 => bnd (v58 1 4) fun x63 => bnd (up2 v58 2 4 x63) fun v66 => bnd (v66 1 5) fun x73 => bnd (up2 v66 2 5 x73) fun v74 => bnd (v74 1 6) fun x81 => bnd (up2 v74 2 6 x81) fun v82 => g_X6_copy_2_1_34  100000 0 v82
set_option maxHeartbeats 4000000 in
set_option maxRecDepth 100000 in
theorem ct_X6_copy_2_1 (l : Launch) (D : va_G) (dA : Nat → ClassId) (ad : Nat → Nat) (v : tV) (hI : Inv v)  : Met l m_X6_copy [.code m_X6_copy c_X6_copy 3 none] ({ frames := 3, cells := 0, slots := 0, locals := 101 } : Room) (tP D dA ad v [.ref (ad 2), .ref (ad 1)]) (tQv D dA ad (fun v' => (Inv v' ∧ Kp kp_X6_copy_2_1 v v') ∧ v' = f_X6_copy_2_1 v )) 0 0 (tA ad) := by
  refine tMet (by decide) (Nat.le_of_ble_eq_true rfl) ?_
  intro p e s m below meth c ls X hr hlocks hw hl
  have X : CX p s m ([.ref (ad 2), .ref (ad 1)] : List Value).toArray c c_X6_copy N_X6 3 D dA := X
  have hx := X.1
  have hb := X.2.1
  have hS : va_S (tA ad) s.heap s.heap [] := va_S.rf
  have hl : lv_has ls 3 [(0, .ref (ad 2)), (1, .ref (ad 1))] := hl
  obtain ⟨RR, eRR⟩ : ∃ z, f_X6_copy_2_1 v  = z := ⟨_, rfl⟩
  have LL : ∀ n : Nat, (∀ (y2 : Int32) (v1 : tV) (H : Heap) (locs : List Loc) (ls : Array Slot), (20 - y2.toInt).toNat + 100 < n → Rg y2 0 20 → Inv v1 → Kp kp_X6_copy_2_1 v v1 → g_X6_copy_2_1_34  n y2 v1 = RR → tI D dA ad v1 H → va_S (tA ad) s.heap H locs → lv_has ls 3 [(0, .ref (ad 2)), (1, .ref (ad 1)), (2, .int y2)] → W p l e ({ frames := 3, cells := 0, slots := 0, locals := 101 } : Room) s m ([.ref (ad 2), .ref (ad 1)] : List Value).toArray below meth c H locs 0 0 (MQ below (tQv D dA ad (fun v' => (Inv v' ∧ Kp kp_X6_copy_2_1 v v') ∧ v' = f_X6_copy_2_1 v )) ([.ref (ad 2), .ref (ad 1)] : List Value).toArray s 0 0 (tA ad)) (F0 m 34 ls [])) ∧ (∀ (y2 : Int32) (v1 : tV) (H : Heap) (locs : List Loc) (ls : Array Slot), (10 - y2.toInt).toNat + 50 < n → Rg y2 0 10 → Inv v1 → Kp kp_X6_copy_2_1 v v1 → g_X6_copy_2_1_65  n y2 v1 = RR → tI D dA ad v1 H → va_S (tA ad) s.heap H locs → lv_has ls 3 [(0, .ref (ad 2)), (1, .ref (ad 1)), (2, .int y2)] → W p l e ({ frames := 3, cells := 0, slots := 0, locals := 101 } : Room) s m ([.ref (ad 2), .ref (ad 1)] : List Value).toArray below meth c H locs 0 0 (MQ below (tQv D dA ad (fun v' => (Inv v' ∧ Kp kp_X6_copy_2_1 v v') ∧ v' = f_X6_copy_2_1 v )) ([.ref (ad 2), .ref (ad 1)] : List Value).toArray s 0 0 (tA ad)) (F0 m 65 ls [])) ∧ (∀ (y2 : Int32) (v1 : tV) (H : Heap) (locs : List Loc) (ls : Array Slot), (6 - y2.toInt).toNat + 0 < n → Rg y2 0 6 → Inv v1 → Kp kp_X6_copy_2_1 v v1 → g_X6_copy_2_1_96  n y2 v1 = RR → tI D dA ad v1 H → va_S (tA ad) s.heap H locs → lv_has ls 3 [(0, .ref (ad 2)), (1, .ref (ad 1)), (2, .int y2)] → W p l e ({ frames := 3, cells := 0, slots := 0, locals := 101 } : Room) s m ([.ref (ad 2), .ref (ad 1)] : List Value).toArray below meth c H locs 0 0 (MQ below (tQv D dA ad (fun v' => (Inv v' ∧ Kp kp_X6_copy_2_1 v v') ∧ v' = f_X6_copy_2_1 v )) ([.ref (ad 2), .ref (ad 1)] : List Value).toArray s 0 0 (tA ad)) (F0 m 96 ls [])) := by
    intro n
    induction n with
    | zero => refine ⟨?_, ?_, ?_⟩ <;> (intros; omega)
    | succ n ih =>
      obtain ⟨ih0, ih1, ih2⟩ := ih
      refine ⟨?_, ?_, ?_⟩
      · intro y2 v1 H locs ls hmu r_y2 hI1 hK1 hG hw hS hl
        have hG : b_X6_copy_2_1_34  (g_X6_copy_2_1_34  n) (g_X6_copy_2_1_65  n) y2 v1 = RR := hG
        unfold b_X6_copy_2_1_34 at hG
        refine lv_iload_n hx hb d_X6_copy_34 rfl (lv_at hl 2 rfl) ?_
        refine lv_aload_n hx hb d_X6_copy_35 rfl (lv_at hl 0 rfl) ?_
        refine r_geti X hw FL_X6_29 (rfl : KD 2 = _) rfl d_X6_copy_36 ?_
        refine lv_topi (fun x1 ex1 => ?_)
        have hG := bnd_use ex1 hG
        have r2 : Rg x1 0 20 := by rw [ex1]; exact hI1 _ _ _ _ rfl
        have hm3 : v1 2 3 = x1 := ex1.symm
        refine lv_icmp_ge (tgt := 63) hx hb d_X6_copy_39 (by decide) (fun c4 => ?_) (fun c4 => ?_)
        · have f5 := i_le c4
          have hG := g_pos c4 hG
          refine lv_iconst (v := 0) hx hb d_X6_copy_63 (by decide) ?_
          refine lv_istore_n (lv' := [(2, .int 0), (0, .ref (ad 2)), (1, .ref (ad 1))]) hx hb d_X6_copy_64 rfl hl (by decide) rfl (fun ls hl => ?_)
          exact ih1 0 v1 _ _ _ (by obtain ⟨_, _⟩ := (⟨by decide, by decide⟩ : Rg 0 0 0); omega) (rg_w (⟨by decide, by decide⟩ : Rg 0 0 0) (by decide) (by decide)) hI1 hK1 hG hw hS (lv_sub hl [1, 2, 0] rfl)
        · have f6 := i_nle c4
          have r7 : Rg y2 0 19 := by obtain ⟨a1, a2⟩ := r_y2; obtain ⟨b1, b2⟩ := r2; have f := i_nle c4; exact ⟨by omega, by omega⟩
          have r8 : Rg x1 1 20 := by obtain ⟨a1, a2⟩ := r_y2; obtain ⟨b1, b2⟩ := r2; have f := i_nle c4; exact ⟨by omega, by omega⟩
          have hG := g_neg c4 hG
          refine lv_aload_n hx hb d_X6_copy_42 rfl (lv_at hl 0 rfl) ?_
          refine r_getr (r := 11) X hw FL_X6_11 (rfl : KD 2 = _) rfl d_X6_copy_43 ?_
          refine lv_iload_n hx hb d_X6_copy_46 rfl (lv_at hl 2 rfl) ?_
          refine r_aald X hw (rfl : KD 11 = _) (Or.inl rfl) (Rg.vp (b := 19) r7 (by decide)) rfl d_X6_copy_47 ?_
          refine r_nm (fun kc9 ekc9 => ?_)
          have hG := bnd_use ekc9 hG
          have kc9a : 120 ≤ kc9 := by omega
          have kc9b : kc9 ≤ 139 := by have := Rg.nat r7; omega
          refine lv_aload_n hx hb d_X6_copy_48 rfl (lv_at hl 1 rfl) ?_
          refine r_getr (r := 10) X hw FL_X6_11 (rfl : KD 1 = _) rfl d_X6_copy_49 ?_
          refine lv_iload_n hx hb d_X6_copy_52 rfl (lv_at hl 2 rfl) ?_
          refine r_aald X hw (rfl : KD 10 = _) (Or.inl rfl) (Rg.vp (b := 19) r7 (by decide)) rfl d_X6_copy_53 ?_
          refine r_nm (fun kc10 ekc10 => ?_)
          have hG := bnd_use ekc10 hG
          have kc10a : 100 ≤ kc10 := by omega
          have kc10b : kc10 ≤ 119 := by have := Rg.nat r7; omega
          refine r_cv (r_runV (n := 1) (As := [.ref (ad kc10)]) (rest := []) X hw (ct_X7_copy l D dA ad v1 hI1 kc9 kc10 (by omega) (by omega) (by omega) (by omega)) gc_X6_45 (KD_ship (by omega) (by omega)) (by decide) rfl (by decide +kernel) ⟨rfl, rfl, Nat.le_of_ble_eq_true rfl, Nat.le_of_ble_eq_true rfl⟩ rfl hl.1 rfl (Nat.le_of_ble_eq_true rfl) ⟨Nat.zero_le _, Nat.zero_le _⟩ d_X6_copy_54) hS (fun v12 H locs hp11 hw hS => ?_)
          obtain ⟨hp11, hE13⟩ := hp11
          obtain ⟨hI14, hK15⟩ := hp11
          have hK16 : Kp kp_X6_copy_2_1 v v12 := Kp.tr hK1 hK15 (by have z0 : (0 : Int32).toInt = 0 := rfl; intro a j; unfold kp_X6_copy_2_1 kp_X7_copy; omega)
          have hG := bnd_use hE13 hG
          obtain ⟨x17, ex17⟩ : ∃ y : Int32, y = y2 + 1 := ⟨_, rfl⟩
          have hG := bnd_use ex17 hG
          refine lv_iinc (v := x17) (lv' := [(2, .int x17), (0, .ref (ad 2)), (1, .ref (ad 1))]) hx hb d_X6_copy_57 hl (k := 2) rfl (by rw [ex17]; rfl) (by decide) rfl (fun ls hl => ?_)
          have r18 : Rg x17 1 20 := rg_add ex17 r7 (⟨by decide, by decide⟩ : Rg 1 1 1) (by decide) (by decide)
          have s19 : x17.toInt = y2.toInt + (1 : Int32).toInt := by rw [ex17]; exact i_add (by obtain ⟨_, _⟩ := r7; obtain ⟨_, _⟩ := (⟨by decide, by decide⟩ : Rg 1 1 1); omega) (by obtain ⟨_, _⟩ := r7; obtain ⟨_, _⟩ := (⟨by decide, by decide⟩ : Rg 1 1 1); omega)
          have s19l : (1 : Int32).toInt = 1 := rfl
          refine lv_goto (tgt := 34) hx hb d_X6_copy_60 (by decide) ?_
          exact ih0 x17 v12 _ _ _ (by have := s19; obtain ⟨_, _⟩ := r18; omega) (rg_w r18 (by decide) (by decide)) hI14 hK16 hG hw hS (lv_sub hl [1, 2, 0] rfl)
      · intro y2 v1 H locs ls hmu r_y2 hI1 hK1 hG hw hS hl
        have hG : b_X6_copy_2_1_65  (g_X6_copy_2_1_65  n) (g_X6_copy_2_1_96  n) y2 v1 = RR := hG
        unfold b_X6_copy_2_1_65 at hG
        refine lv_iload_n hx hb d_X6_copy_65 rfl (lv_at hl 2 rfl) ?_
        refine lv_aload_n hx hb d_X6_copy_66 rfl (lv_at hl 0 rfl) ?_
        refine r_geti X hw FL_X6_33 (rfl : KD 2 = _) rfl d_X6_copy_67 ?_
        refine lv_topi (fun x20 ex20 => ?_)
        have hG := bnd_use ex20 hG
        have r21 : Rg x20 0 10 := by rw [ex20]; exact hI1 _ _ _ _ rfl
        have hm22 : v1 2 4 = x20 := ex20.symm
        refine lv_icmp_ge (tgt := 94) hx hb d_X6_copy_70 (by decide) (fun c23 => ?_) (fun c23 => ?_)
        · have f24 := i_le c23
          have hG := g_pos c23 hG
          refine lv_iconst (v := 0) hx hb d_X6_copy_94 (by decide) ?_
          refine lv_istore_n (lv' := [(2, .int 0), (0, .ref (ad 2)), (1, .ref (ad 1))]) hx hb d_X6_copy_95 rfl hl (by decide) rfl (fun ls hl => ?_)
          exact ih2 0 v1 _ _ _ (by obtain ⟨_, _⟩ := (⟨by decide, by decide⟩ : Rg 0 0 0); omega) (rg_w (⟨by decide, by decide⟩ : Rg 0 0 0) (by decide) (by decide)) hI1 hK1 hG hw hS (lv_sub hl [1, 2, 0] rfl)
        · have f25 := i_nle c23
          have r26 : Rg y2 0 9 := by obtain ⟨a1, a2⟩ := r_y2; obtain ⟨b1, b2⟩ := r21; have f := i_nle c23; exact ⟨by omega, by omega⟩
          have r27 : Rg x20 1 10 := by obtain ⟨a1, a2⟩ := r_y2; obtain ⟨b1, b2⟩ := r21; have f := i_nle c23; exact ⟨by omega, by omega⟩
          have hG := g_neg c23 hG
          refine lv_aload_n hx hb d_X6_copy_73 rfl (lv_at hl 0 rfl) ?_
          refine r_getr (r := 14) X hw FL_X6_19 (rfl : KD 2 = _) rfl d_X6_copy_74 ?_
          refine lv_iload_n hx hb d_X6_copy_77 rfl (lv_at hl 2 rfl) ?_
          refine r_aald X hw (rfl : KD 14 = _) (Or.inr (Or.inl rfl)) (Rg.vp (b := 9) r26 (by decide)) rfl d_X6_copy_78 ?_
          refine r_nm (fun kc28 ekc28 => ?_)
          have hG := bnd_use ekc28 hG
          have kc28a : 210 ≤ kc28 := by omega
          have kc28b : kc28 ≤ 219 := by have := Rg.nat r26; omega
          refine lv_aload_n hx hb d_X6_copy_79 rfl (lv_at hl 1 rfl) ?_
          refine r_getr (r := 13) X hw FL_X6_19 (rfl : KD 1 = _) rfl d_X6_copy_80 ?_
          refine lv_iload_n hx hb d_X6_copy_83 rfl (lv_at hl 2 rfl) ?_
          refine r_aald X hw (rfl : KD 13 = _) (Or.inr (Or.inl rfl)) (Rg.vp (b := 9) r26 (by decide)) rfl d_X6_copy_84 ?_
          refine r_nm (fun kc29 ekc29 => ?_)
          have hG := bnd_use ekc29 hG
          have kc29a : 200 ≤ kc29 := by omega
          have kc29b : kc29 ≤ 209 := by have := Rg.nat r26; omega
          refine r_cv (r_runV (n := 1) (As := [.ref (ad kc29)]) (rest := []) X hw (ct_X0_copy l D dA ad v1 hI1 kc28 kc29 (by omega) (by omega) (by omega) (by omega)) gc_X6_49 (KD_buyer (by omega) (by omega)) (by decide) rfl (by decide +kernel) ⟨rfl, rfl, Nat.le_of_ble_eq_true rfl, Nat.le_of_ble_eq_true rfl⟩ rfl hl.1 rfl (Nat.le_of_ble_eq_true rfl) ⟨Nat.zero_le _, Nat.zero_le _⟩ d_X6_copy_85) hS (fun v31 H locs hp30 hw hS => ?_)
          obtain ⟨hp30, hE32⟩ := hp30
          obtain ⟨hI33, hK34⟩ := hp30
          have hK35 : Kp kp_X6_copy_2_1 v v31 := Kp.tr hK1 hK34 (by have z0 : (0 : Int32).toInt = 0 := rfl; intro a j; unfold kp_X6_copy_2_1 kp_X0_copy; omega)
          have hG := bnd_use hE32 hG
          obtain ⟨x36, ex36⟩ : ∃ y : Int32, y = y2 + 1 := ⟨_, rfl⟩
          have hG := bnd_use ex36 hG
          refine lv_iinc (v := x36) (lv' := [(2, .int x36), (0, .ref (ad 2)), (1, .ref (ad 1))]) hx hb d_X6_copy_88 hl (k := 2) rfl (by rw [ex36]; rfl) (by decide) rfl (fun ls hl => ?_)
          have r37 : Rg x36 1 10 := rg_add ex36 r26 (⟨by decide, by decide⟩ : Rg 1 1 1) (by decide) (by decide)
          have s38 : x36.toInt = y2.toInt + (1 : Int32).toInt := by rw [ex36]; exact i_add (by obtain ⟨_, _⟩ := r26; obtain ⟨_, _⟩ := (⟨by decide, by decide⟩ : Rg 1 1 1); omega) (by obtain ⟨_, _⟩ := r26; obtain ⟨_, _⟩ := (⟨by decide, by decide⟩ : Rg 1 1 1); omega)
          have s38l : (1 : Int32).toInt = 1 := rfl
          refine lv_goto (tgt := 65) hx hb d_X6_copy_91 (by decide) ?_
          exact ih1 x36 v31 _ _ _ (by have := s38; obtain ⟨_, _⟩ := r37; omega) (rg_w r37 (by decide) (by decide)) hI33 hK35 hG hw hS (lv_sub hl [1, 2, 0] rfl)
      · intro y2 v1 H locs ls hmu r_y2 hI1 hK1 hG hw hS hl
        have hG : b_X6_copy_2_1_96  (g_X6_copy_2_1_96  n) y2 v1 = RR := hG
        unfold b_X6_copy_2_1_96 at hG
        refine lv_iload_n hx hb d_X6_copy_96 rfl (lv_at hl 2 rfl) ?_
        refine lv_bipush (v := 6) hx hb d_X6_copy_97 (by decide) ?_
        refine lv_icmp_ge (tgt := 123) hx hb d_X6_copy_99 (by decide) (fun c39 => ?_) (fun c39 => ?_)
        · have f40 := i_le c39
          have r41 : Rg y2 6 6 := by obtain ⟨a1, a2⟩ := r_y2; obtain ⟨b1, b2⟩ := (⟨by decide, by decide⟩ : Rg 6 6 6); have f := i_le c39; exact ⟨by omega, by omega⟩
          have hG := g_pos c39 hG
          exact r_vret X hr hlocks hw hS ⟨⟨hI1, hK1⟩, hG.trans eRR.symm⟩ d_X6_copy_123
        · have f42 := i_nle c39
          have r43 : Rg y2 0 5 := by obtain ⟨a1, a2⟩ := r_y2; obtain ⟨b1, b2⟩ := (⟨by decide, by decide⟩ : Rg 6 6 6); have f := i_nle c39; exact ⟨by omega, by omega⟩
          have hG := g_neg c39 hG
          refine lv_aload_n hx hb d_X6_copy_102 rfl (lv_at hl 0 rfl) ?_
          refine r_getr (r := 17) X hw FL_X6_25 (rfl : KD 2 = _) rfl d_X6_copy_103 ?_
          refine lv_iload_n hx hb d_X6_copy_106 rfl (lv_at hl 2 rfl) ?_
          refine r_aald X hw (rfl : KD 17 = _) (Or.inr (Or.inr (Or.inl rfl))) (Rg.vp (b := 5) r43 (by decide)) rfl d_X6_copy_107 ?_
          refine r_nm (fun kc44 ekc44 => ?_)
          have hG := bnd_use ekc44 hG
          have kc44a : 306 ≤ kc44 := by omega
          have kc44b : kc44 ≤ 311 := by have := Rg.nat r43; omega
          refine lv_aload_n hx hb d_X6_copy_108 rfl (lv_at hl 1 rfl) ?_
          refine r_getr (r := 16) X hw FL_X6_25 (rfl : KD 1 = _) rfl d_X6_copy_109 ?_
          refine lv_iload_n hx hb d_X6_copy_112 rfl (lv_at hl 2 rfl) ?_
          refine r_aald X hw (rfl : KD 16 = _) (Or.inr (Or.inr (Or.inl rfl))) (Rg.vp (b := 5) r43 (by decide)) rfl d_X6_copy_113 ?_
          refine r_nm (fun kc45 ekc45 => ?_)
          have hG := bnd_use ekc45 hG
          have kc45a : 300 ≤ kc45 := by omega
          have kc45b : kc45 ≤ 305 := by have := Rg.nat r43; omega
          refine r_cv (r_runV (n := 1) (As := [.ref (ad kc45)]) (rest := []) X hw (ct_X9_copy_A l D dA ad v1 hI1 kc44 kc45 (by omega) (by omega) (by omega) (by omega)) gc_X6_52 (KD_ward (by omega) (by omega)) (by decide) rfl (by decide +kernel) ⟨rfl, rfl, Nat.le_of_ble_eq_true rfl, Nat.le_of_ble_eq_true rfl⟩ rfl hl.1 rfl (Nat.le_of_ble_eq_true rfl) ⟨Nat.zero_le _, Nat.zero_le _⟩ d_X6_copy_114) hS (fun v47 H locs hp46 hw hS => ?_)
          obtain ⟨hp46, hE48⟩ := hp46
          obtain ⟨hI49, hK50⟩ := hp46
          have hK51 : Kp kp_X6_copy_2_1 v v47 := Kp.tr hK1 hK50 (by have z0 : (0 : Int32).toInt = 0 := rfl; intro a j; unfold kp_X6_copy_2_1 kp_X9_copy_A; omega)
          have hG := bnd_use hE48 hG
          obtain ⟨x52, ex52⟩ : ∃ y : Int32, y = y2 + 1 := ⟨_, rfl⟩
          have hG := bnd_use ex52 hG
          refine lv_iinc (v := x52) (lv' := [(2, .int x52), (0, .ref (ad 2)), (1, .ref (ad 1))]) hx hb d_X6_copy_117 hl (k := 2) rfl (by rw [ex52]; rfl) (by decide) rfl (fun ls hl => ?_)
          have r53 : Rg x52 1 6 := rg_add ex52 r43 (⟨by decide, by decide⟩ : Rg 1 1 1) (by decide) (by decide)
          have s54 : x52.toInt = y2.toInt + (1 : Int32).toInt := by rw [ex52]; exact i_add (by obtain ⟨_, _⟩ := r43; obtain ⟨_, _⟩ := (⟨by decide, by decide⟩ : Rg 1 1 1); omega) (by obtain ⟨_, _⟩ := r43; obtain ⟨_, _⟩ := (⟨by decide, by decide⟩ : Rg 1 1 1); omega)
          have s54l : (1 : Int32).toInt = 1 := rfl
          refine lv_goto (tgt := 96) hx hb d_X6_copy_120 (by decide) ?_
          exact ih2 x52 v47 _ _ _ (by have := s54; obtain ⟨_, _⟩ := r53; omega) (rg_w r53 (by decide) (by decide)) hI49 hK51 hG hw hS (lv_sub hl [1, 2, 0] rfl)
  obtain ⟨ih0, ih1, ih2⟩ := LL 100000
  have hK0 : Kp kp_X6_copy_2_1 v v := Kp.rf _ v
  have hG := eRR
  unfold f_X6_copy_2_1 at hG
  refine lv_aload_n hx hb d_X6_copy_0 rfl (lv_at hl 0 rfl) ?_
  refine lv_aload_n hx hb d_X6_copy_1 rfl (lv_at hl 1 rfl) ?_
  refine r_geti X hw FL_X6_29 (rfl : KD 1 = _) rfl d_X6_copy_2 ?_
  refine lv_topi (fun x55 ex55 => ?_)
  have hG := bnd_use ex55 hG
  have r56 : Rg x55 0 20 := by rw [ex55]; exact hI _ _ _ _ rfl
  have hm57 : v 1 3 = x55 := ex55.symm
  refine r_put X hw hS FP_X6_29 (rfl : KD 2 = _) rfl ⟨rfl, rfl⟩ d_X6_copy_5 (fun H locs hw hS => ?_)
  obtain ⟨v58, ev58⟩ : ∃ z, z = up2 v 2 3 x55 := ⟨_, rfl⟩
  rw [← ev58] at hw
  have hG := bnd_use ev58 hG
  have hI59 : Inv v58 := by rw [ev58]; exact Inv.putr hI rfl r56
  have hK60 : Kp kp_X6_copy_2_1 v v58 := by rw [ev58]; exact Kp.put hK0 _ (by unfold kp_X6_copy_2_1; omega)
  have hm61 : v58 1 3 = x55 := by rw [ev58, up2_n _ _ (by omega)]; exact hm57
  have hm62 : v58 2 3 = x55 := by rw [ev58, up2_s]
  refine lv_aload_n hx hb d_X6_copy_8 rfl (lv_at hl 0 rfl) ?_
  refine lv_aload_n hx hb d_X6_copy_9 rfl (lv_at hl 1 rfl) ?_
  refine r_geti X hw FL_X6_33 (rfl : KD 1 = _) rfl d_X6_copy_10 ?_
  refine lv_topi (fun x63 ex63 => ?_)
  have hG := bnd_use ex63 hG
  have r64 : Rg x63 0 10 := by rw [ex63]; exact hI59 _ _ _ _ rfl
  have hm65 : v58 1 4 = x63 := ex63.symm
  refine r_put X hw hS FP_X6_33 (rfl : KD 2 = _) rfl ⟨rfl, rfl⟩ d_X6_copy_13 (fun H locs hw hS => ?_)
  obtain ⟨v66, ev66⟩ : ∃ z, z = up2 v58 2 4 x63 := ⟨_, rfl⟩
  rw [← ev66] at hw
  have hG := bnd_use ev66 hG
  have hI67 : Inv v66 := by rw [ev66]; exact Inv.putr hI59 rfl r64
  have hK68 : Kp kp_X6_copy_2_1 v v66 := by rw [ev66]; exact Kp.put hK60 _ (by unfold kp_X6_copy_2_1; omega)
  have hm69 : v66 1 3 = x55 := by rw [ev66, up2_n _ _ (by omega)]; exact hm61
  have hm70 : v66 2 3 = x55 := by rw [ev66, up2_n _ _ (by omega)]; exact hm62
  have hm71 : v66 1 4 = x63 := by rw [ev66, up2_n _ _ (by omega)]; exact hm65
  have hm72 : v66 2 4 = x63 := by rw [ev66, up2_s]
  refine lv_aload_n hx hb d_X6_copy_16 rfl (lv_at hl 0 rfl) ?_
  refine lv_aload_n hx hb d_X6_copy_17 rfl (lv_at hl 1 rfl) ?_
  refine r_geti X hw FL_X6_36 (rfl : KD 1 = _) rfl d_X6_copy_18 ?_
  refine lv_topi (fun x73 ex73 => ?_)
  have hG := bnd_use ex73 hG
  refine r_put X hw hS FP_X6_36 (rfl : KD 2 = _) rfl ⟨rfl, rfl⟩ d_X6_copy_21 (fun H locs hw hS => ?_)
  obtain ⟨v74, ev74⟩ : ∃ z, z = up2 v66 2 5 x73 := ⟨_, rfl⟩
  rw [← ev74] at hw
  have hG := bnd_use ev74 hG
  have hI75 : Inv v74 := by rw [ev74]; exact Inv.put0 hI67 _ rfl
  have hK76 : Kp kp_X6_copy_2_1 v v74 := by rw [ev74]; exact Kp.put hK68 _ (by unfold kp_X6_copy_2_1; omega)
  have hm77 : v74 1 3 = x55 := by rw [ev74, up2_n _ _ (by omega)]; exact hm69
  have hm78 : v74 2 3 = x55 := by rw [ev74, up2_n _ _ (by omega)]; exact hm70
  have hm79 : v74 1 4 = x63 := by rw [ev74, up2_n _ _ (by omega)]; exact hm71
  have hm80 : v74 2 4 = x63 := by rw [ev74, up2_n _ _ (by omega)]; exact hm72
  refine lv_aload_n hx hb d_X6_copy_24 rfl (lv_at hl 0 rfl) ?_
  refine lv_aload_n hx hb d_X6_copy_25 rfl (lv_at hl 1 rfl) ?_
  refine r_geti X hw FL_X6_39 (rfl : KD 1 = _) rfl d_X6_copy_26 ?_
  refine lv_topi (fun x81 ex81 => ?_)
  have hG := bnd_use ex81 hG
  refine r_put X hw hS FP_X6_39 (rfl : KD 2 = _) rfl ⟨rfl, rfl⟩ d_X6_copy_29 (fun H locs hw hS => ?_)
  obtain ⟨v82, ev82⟩ : ∃ z, z = up2 v74 2 6 x81 := ⟨_, rfl⟩
  rw [← ev82] at hw
  have hG := bnd_use ev82 hG
  have hI83 : Inv v82 := by rw [ev82]; exact Inv.put0 hI75 _ rfl
  have hK84 : Kp kp_X6_copy_2_1 v v82 := by rw [ev82]; exact Kp.put hK76 _ (by unfold kp_X6_copy_2_1; omega)
  have hm85 : v82 1 3 = x55 := by rw [ev82, up2_n _ _ (by omega)]; exact hm77
  have hm86 : v82 2 3 = x55 := by rw [ev82, up2_n _ _ (by omega)]; exact hm78
  have hm87 : v82 1 4 = x63 := by rw [ev82, up2_n _ _ (by omega)]; exact hm79
  have hm88 : v82 2 4 = x63 := by rw [ev82, up2_n _ _ (by omega)]; exact hm80
  refine lv_iconst (v := 0) hx hb d_X6_copy_32 (by decide) ?_
  refine lv_istore_n (lv' := [(2, .int 0), (0, .ref (ad 2)), (1, .ref (ad 1))]) hx hb d_X6_copy_33 rfl hl (by decide) rfl (fun ls hl => ?_)
  exact ih0 0 v82 _ _ _ (by obtain ⟨_, _⟩ := (⟨by decide, by decide⟩ : Rg 0 0 0); omega) (rg_w (⟨by decide, by decide⟩ : Rg 0 0 0) (by decide) (by decide)) hI83 hK84 hG hw hS (lv_sub hl [1, 2, 0] rfl)
def kp_X6_copy_3_2  (a j : Nat) : Prop := a ≠ 3 ∧ (a < 140 ∨ 160 ≤ a) ∧ (a < 220 ∨ 230 ≤ a) ∧ (a < 312 ∨ 318 ≤ a) ∧ (a < 332 ∨ 338 ≤ a)
def b_X6_copy_3_2_34  (rc34 : Int32 → tV → tV) (rc65 : Int32 → tV → tV) (y2 : Int32) (v1 : tV) : tV := bnd (v1 3 3) fun x1 => (if x1 ≤ y2 then rc65 0 v1 else bnd (140 + y2.toNatClampNeg) fun kc9 => bnd (120 + y2.toNatClampNeg) fun kc10 => bnd (f_X7_copy v1 kc9 kc10) fun v12 => bnd (y2 + 1) fun x17 => rc34 x17 v12)
def b_X6_copy_3_2_65  (rc65 : Int32 → tV → tV) (rc96 : Int32 → tV → tV) (y2 : Int32) (v1 : tV) : tV := bnd (v1 3 4) fun x20 => (if x20 ≤ y2 then rc96 0 v1 else bnd (220 + y2.toNatClampNeg) fun kc28 => bnd (210 + y2.toNatClampNeg) fun kc29 => bnd (f_X0_copy v1 kc28 kc29) fun v31 => bnd (y2 + 1) fun x36 => rc65 x36 v31)
def b_X6_copy_3_2_96  (rc96 : Int32 → tV → tV) (y2 : Int32) (v1 : tV) : tV := (if (6 : Int32) ≤ y2 then v1 else bnd (312 + y2.toNatClampNeg) fun kc44 => bnd (306 + y2.toNatClampNeg) fun kc45 => bnd (f_X9_copy_B v1 kc44 kc45) fun v47 => bnd (y2 + 1) fun x52 => rc96 x52 v47)
def g_X6_copy_3_2_96  : Nat → Int32 → tV → tV
  | 0, _, v1 => v1
  | n + 1, y2, v1 => b_X6_copy_3_2_96  (g_X6_copy_3_2_96  n) y2 v1
def g_X6_copy_3_2_65  : Nat → Int32 → tV → tV
  | 0, _, v1 => v1
  | n + 1, y2, v1 => b_X6_copy_3_2_65  (g_X6_copy_3_2_65  n) (g_X6_copy_3_2_96  n) y2 v1
def g_X6_copy_3_2_34  : Nat → Int32 → tV → tV
  | 0, _, v1 => v1
  | n + 1, y2, v1 => b_X6_copy_3_2_34  (g_X6_copy_3_2_34  n) (g_X6_copy_3_2_65  n) y2 v1
def f_X6_copy_3_2 (v : tV)  : tV := bnd (v 2 3) fun x55 => bnd (up2 v 3 3 x55) fun v58 => bnd (v58 2 4) fun x63 => bnd (up2 v58 3 4 x63) fun v66 => bnd (v66 2 5) fun x73 => bnd (up2 v66 3 5 x73) fun v74 => bnd (v74 2 6) fun x81 => bnd (up2 v74 3 6 x81) fun v82 => g_X6_copy_3_2_34  100000 0 v82
set_option maxHeartbeats 4000000 in
set_option maxRecDepth 100000 in
theorem ct_X6_copy_3_2 (l : Launch) (D : va_G) (dA : Nat → ClassId) (ad : Nat → Nat) (v : tV) (hI : Inv v)  : Met l m_X6_copy [.code m_X6_copy c_X6_copy 3 none] ({ frames := 3, cells := 0, slots := 0, locals := 101 } : Room) (tP D dA ad v [.ref (ad 3), .ref (ad 2)]) (tQv D dA ad (fun v' => (Inv v' ∧ Kp kp_X6_copy_3_2 v v') ∧ v' = f_X6_copy_3_2 v )) 0 0 (tA ad) := by
  refine tMet (by decide) (Nat.le_of_ble_eq_true rfl) ?_
  intro p e s m below meth c ls X hr hlocks hw hl
  have X : CX p s m ([.ref (ad 3), .ref (ad 2)] : List Value).toArray c c_X6_copy N_X6 3 D dA := X
  have hx := X.1
  have hb := X.2.1
  have hS : va_S (tA ad) s.heap s.heap [] := va_S.rf
  have hl : lv_has ls 3 [(0, .ref (ad 3)), (1, .ref (ad 2))] := hl
  obtain ⟨RR, eRR⟩ : ∃ z, f_X6_copy_3_2 v  = z := ⟨_, rfl⟩
  have LL : ∀ n : Nat, (∀ (y2 : Int32) (v1 : tV) (H : Heap) (locs : List Loc) (ls : Array Slot), (20 - y2.toInt).toNat + 100 < n → Rg y2 0 20 → Inv v1 → Kp kp_X6_copy_3_2 v v1 → g_X6_copy_3_2_34  n y2 v1 = RR → tI D dA ad v1 H → va_S (tA ad) s.heap H locs → lv_has ls 3 [(0, .ref (ad 3)), (1, .ref (ad 2)), (2, .int y2)] → W p l e ({ frames := 3, cells := 0, slots := 0, locals := 101 } : Room) s m ([.ref (ad 3), .ref (ad 2)] : List Value).toArray below meth c H locs 0 0 (MQ below (tQv D dA ad (fun v' => (Inv v' ∧ Kp kp_X6_copy_3_2 v v') ∧ v' = f_X6_copy_3_2 v )) ([.ref (ad 3), .ref (ad 2)] : List Value).toArray s 0 0 (tA ad)) (F0 m 34 ls [])) ∧ (∀ (y2 : Int32) (v1 : tV) (H : Heap) (locs : List Loc) (ls : Array Slot), (10 - y2.toInt).toNat + 50 < n → Rg y2 0 10 → Inv v1 → Kp kp_X6_copy_3_2 v v1 → g_X6_copy_3_2_65  n y2 v1 = RR → tI D dA ad v1 H → va_S (tA ad) s.heap H locs → lv_has ls 3 [(0, .ref (ad 3)), (1, .ref (ad 2)), (2, .int y2)] → W p l e ({ frames := 3, cells := 0, slots := 0, locals := 101 } : Room) s m ([.ref (ad 3), .ref (ad 2)] : List Value).toArray below meth c H locs 0 0 (MQ below (tQv D dA ad (fun v' => (Inv v' ∧ Kp kp_X6_copy_3_2 v v') ∧ v' = f_X6_copy_3_2 v )) ([.ref (ad 3), .ref (ad 2)] : List Value).toArray s 0 0 (tA ad)) (F0 m 65 ls [])) ∧ (∀ (y2 : Int32) (v1 : tV) (H : Heap) (locs : List Loc) (ls : Array Slot), (6 - y2.toInt).toNat + 0 < n → Rg y2 0 6 → Inv v1 → Kp kp_X6_copy_3_2 v v1 → g_X6_copy_3_2_96  n y2 v1 = RR → tI D dA ad v1 H → va_S (tA ad) s.heap H locs → lv_has ls 3 [(0, .ref (ad 3)), (1, .ref (ad 2)), (2, .int y2)] → W p l e ({ frames := 3, cells := 0, slots := 0, locals := 101 } : Room) s m ([.ref (ad 3), .ref (ad 2)] : List Value).toArray below meth c H locs 0 0 (MQ below (tQv D dA ad (fun v' => (Inv v' ∧ Kp kp_X6_copy_3_2 v v') ∧ v' = f_X6_copy_3_2 v )) ([.ref (ad 3), .ref (ad 2)] : List Value).toArray s 0 0 (tA ad)) (F0 m 96 ls [])) := by
    intro n
    induction n with
    | zero => refine ⟨?_, ?_, ?_⟩ <;> (intros; omega)
    | succ n ih =>
      obtain ⟨ih0, ih1, ih2⟩ := ih
      refine ⟨?_, ?_, ?_⟩
      · intro y2 v1 H locs ls hmu r_y2 hI1 hK1 hG hw hS hl
        have hG : b_X6_copy_3_2_34  (g_X6_copy_3_2_34  n) (g_X6_copy_3_2_65  n) y2 v1 = RR := hG
        unfold b_X6_copy_3_2_34 at hG
        refine lv_iload_n hx hb d_X6_copy_34 rfl (lv_at hl 2 rfl) ?_
        refine lv_aload_n hx hb d_X6_copy_35 rfl (lv_at hl 0 rfl) ?_
        refine r_geti X hw FL_X6_29 (rfl : KD 3 = _) rfl d_X6_copy_36 ?_
        refine lv_topi (fun x1 ex1 => ?_)
        have hG := bnd_use ex1 hG
        have r2 : Rg x1 0 20 := by rw [ex1]; exact hI1 _ _ _ _ rfl
        have hm3 : v1 3 3 = x1 := ex1.symm
        refine lv_icmp_ge (tgt := 63) hx hb d_X6_copy_39 (by decide) (fun c4 => ?_) (fun c4 => ?_)
        · have f5 := i_le c4
          have hG := g_pos c4 hG
          refine lv_iconst (v := 0) hx hb d_X6_copy_63 (by decide) ?_
          refine lv_istore_n (lv' := [(2, .int 0), (0, .ref (ad 3)), (1, .ref (ad 2))]) hx hb d_X6_copy_64 rfl hl (by decide) rfl (fun ls hl => ?_)
          exact ih1 0 v1 _ _ _ (by obtain ⟨_, _⟩ := (⟨by decide, by decide⟩ : Rg 0 0 0); omega) (rg_w (⟨by decide, by decide⟩ : Rg 0 0 0) (by decide) (by decide)) hI1 hK1 hG hw hS (lv_sub hl [1, 2, 0] rfl)
        · have f6 := i_nle c4
          have r7 : Rg y2 0 19 := by obtain ⟨a1, a2⟩ := r_y2; obtain ⟨b1, b2⟩ := r2; have f := i_nle c4; exact ⟨by omega, by omega⟩
          have r8 : Rg x1 1 20 := by obtain ⟨a1, a2⟩ := r_y2; obtain ⟨b1, b2⟩ := r2; have f := i_nle c4; exact ⟨by omega, by omega⟩
          have hG := g_neg c4 hG
          refine lv_aload_n hx hb d_X6_copy_42 rfl (lv_at hl 0 rfl) ?_
          refine r_getr (r := 12) X hw FL_X6_11 (rfl : KD 3 = _) rfl d_X6_copy_43 ?_
          refine lv_iload_n hx hb d_X6_copy_46 rfl (lv_at hl 2 rfl) ?_
          refine r_aald X hw (rfl : KD 12 = _) (Or.inl rfl) (Rg.vp (b := 19) r7 (by decide)) rfl d_X6_copy_47 ?_
          refine r_nm (fun kc9 ekc9 => ?_)
          have hG := bnd_use ekc9 hG
          have kc9a : 140 ≤ kc9 := by omega
          have kc9b : kc9 ≤ 159 := by have := Rg.nat r7; omega
          refine lv_aload_n hx hb d_X6_copy_48 rfl (lv_at hl 1 rfl) ?_
          refine r_getr (r := 11) X hw FL_X6_11 (rfl : KD 2 = _) rfl d_X6_copy_49 ?_
          refine lv_iload_n hx hb d_X6_copy_52 rfl (lv_at hl 2 rfl) ?_
          refine r_aald X hw (rfl : KD 11 = _) (Or.inl rfl) (Rg.vp (b := 19) r7 (by decide)) rfl d_X6_copy_53 ?_
          refine r_nm (fun kc10 ekc10 => ?_)
          have hG := bnd_use ekc10 hG
          have kc10a : 120 ≤ kc10 := by omega
          have kc10b : kc10 ≤ 139 := by have := Rg.nat r7; omega
          refine r_cv (r_runV (n := 1) (As := [.ref (ad kc10)]) (rest := []) X hw (ct_X7_copy l D dA ad v1 hI1 kc9 kc10 (by omega) (by omega) (by omega) (by omega)) gc_X6_45 (KD_ship (by omega) (by omega)) (by decide) rfl (by decide +kernel) ⟨rfl, rfl, Nat.le_of_ble_eq_true rfl, Nat.le_of_ble_eq_true rfl⟩ rfl hl.1 rfl (Nat.le_of_ble_eq_true rfl) ⟨Nat.zero_le _, Nat.zero_le _⟩ d_X6_copy_54) hS (fun v12 H locs hp11 hw hS => ?_)
          obtain ⟨hp11, hE13⟩ := hp11
          obtain ⟨hI14, hK15⟩ := hp11
          have hK16 : Kp kp_X6_copy_3_2 v v12 := Kp.tr hK1 hK15 (by have z0 : (0 : Int32).toInt = 0 := rfl; intro a j; unfold kp_X6_copy_3_2 kp_X7_copy; omega)
          have hG := bnd_use hE13 hG
          obtain ⟨x17, ex17⟩ : ∃ y : Int32, y = y2 + 1 := ⟨_, rfl⟩
          have hG := bnd_use ex17 hG
          refine lv_iinc (v := x17) (lv' := [(2, .int x17), (0, .ref (ad 3)), (1, .ref (ad 2))]) hx hb d_X6_copy_57 hl (k := 2) rfl (by rw [ex17]; rfl) (by decide) rfl (fun ls hl => ?_)
          have r18 : Rg x17 1 20 := rg_add ex17 r7 (⟨by decide, by decide⟩ : Rg 1 1 1) (by decide) (by decide)
          have s19 : x17.toInt = y2.toInt + (1 : Int32).toInt := by rw [ex17]; exact i_add (by obtain ⟨_, _⟩ := r7; obtain ⟨_, _⟩ := (⟨by decide, by decide⟩ : Rg 1 1 1); omega) (by obtain ⟨_, _⟩ := r7; obtain ⟨_, _⟩ := (⟨by decide, by decide⟩ : Rg 1 1 1); omega)
          have s19l : (1 : Int32).toInt = 1 := rfl
          refine lv_goto (tgt := 34) hx hb d_X6_copy_60 (by decide) ?_
          exact ih0 x17 v12 _ _ _ (by have := s19; obtain ⟨_, _⟩ := r18; omega) (rg_w r18 (by decide) (by decide)) hI14 hK16 hG hw hS (lv_sub hl [1, 2, 0] rfl)
      · intro y2 v1 H locs ls hmu r_y2 hI1 hK1 hG hw hS hl
        have hG : b_X6_copy_3_2_65  (g_X6_copy_3_2_65  n) (g_X6_copy_3_2_96  n) y2 v1 = RR := hG
        unfold b_X6_copy_3_2_65 at hG
        refine lv_iload_n hx hb d_X6_copy_65 rfl (lv_at hl 2 rfl) ?_
        refine lv_aload_n hx hb d_X6_copy_66 rfl (lv_at hl 0 rfl) ?_
        refine r_geti X hw FL_X6_33 (rfl : KD 3 = _) rfl d_X6_copy_67 ?_
        refine lv_topi (fun x20 ex20 => ?_)
        have hG := bnd_use ex20 hG
        have r21 : Rg x20 0 10 := by rw [ex20]; exact hI1 _ _ _ _ rfl
        have hm22 : v1 3 4 = x20 := ex20.symm
        refine lv_icmp_ge (tgt := 94) hx hb d_X6_copy_70 (by decide) (fun c23 => ?_) (fun c23 => ?_)
        · have f24 := i_le c23
          have hG := g_pos c23 hG
          refine lv_iconst (v := 0) hx hb d_X6_copy_94 (by decide) ?_
          refine lv_istore_n (lv' := [(2, .int 0), (0, .ref (ad 3)), (1, .ref (ad 2))]) hx hb d_X6_copy_95 rfl hl (by decide) rfl (fun ls hl => ?_)
          exact ih2 0 v1 _ _ _ (by obtain ⟨_, _⟩ := (⟨by decide, by decide⟩ : Rg 0 0 0); omega) (rg_w (⟨by decide, by decide⟩ : Rg 0 0 0) (by decide) (by decide)) hI1 hK1 hG hw hS (lv_sub hl [1, 2, 0] rfl)
        · have f25 := i_nle c23
          have r26 : Rg y2 0 9 := by obtain ⟨a1, a2⟩ := r_y2; obtain ⟨b1, b2⟩ := r21; have f := i_nle c23; exact ⟨by omega, by omega⟩
          have r27 : Rg x20 1 10 := by obtain ⟨a1, a2⟩ := r_y2; obtain ⟨b1, b2⟩ := r21; have f := i_nle c23; exact ⟨by omega, by omega⟩
          have hG := g_neg c23 hG
          refine lv_aload_n hx hb d_X6_copy_73 rfl (lv_at hl 0 rfl) ?_
          refine r_getr (r := 15) X hw FL_X6_19 (rfl : KD 3 = _) rfl d_X6_copy_74 ?_
          refine lv_iload_n hx hb d_X6_copy_77 rfl (lv_at hl 2 rfl) ?_
          refine r_aald X hw (rfl : KD 15 = _) (Or.inr (Or.inl rfl)) (Rg.vp (b := 9) r26 (by decide)) rfl d_X6_copy_78 ?_
          refine r_nm (fun kc28 ekc28 => ?_)
          have hG := bnd_use ekc28 hG
          have kc28a : 220 ≤ kc28 := by omega
          have kc28b : kc28 ≤ 229 := by have := Rg.nat r26; omega
          refine lv_aload_n hx hb d_X6_copy_79 rfl (lv_at hl 1 rfl) ?_
          refine r_getr (r := 14) X hw FL_X6_19 (rfl : KD 2 = _) rfl d_X6_copy_80 ?_
          refine lv_iload_n hx hb d_X6_copy_83 rfl (lv_at hl 2 rfl) ?_
          refine r_aald X hw (rfl : KD 14 = _) (Or.inr (Or.inl rfl)) (Rg.vp (b := 9) r26 (by decide)) rfl d_X6_copy_84 ?_
          refine r_nm (fun kc29 ekc29 => ?_)
          have hG := bnd_use ekc29 hG
          have kc29a : 210 ≤ kc29 := by omega
          have kc29b : kc29 ≤ 219 := by have := Rg.nat r26; omega
          refine r_cv (r_runV (n := 1) (As := [.ref (ad kc29)]) (rest := []) X hw (ct_X0_copy l D dA ad v1 hI1 kc28 kc29 (by omega) (by omega) (by omega) (by omega)) gc_X6_49 (KD_buyer (by omega) (by omega)) (by decide) rfl (by decide +kernel) ⟨rfl, rfl, Nat.le_of_ble_eq_true rfl, Nat.le_of_ble_eq_true rfl⟩ rfl hl.1 rfl (Nat.le_of_ble_eq_true rfl) ⟨Nat.zero_le _, Nat.zero_le _⟩ d_X6_copy_85) hS (fun v31 H locs hp30 hw hS => ?_)
          obtain ⟨hp30, hE32⟩ := hp30
          obtain ⟨hI33, hK34⟩ := hp30
          have hK35 : Kp kp_X6_copy_3_2 v v31 := Kp.tr hK1 hK34 (by have z0 : (0 : Int32).toInt = 0 := rfl; intro a j; unfold kp_X6_copy_3_2 kp_X0_copy; omega)
          have hG := bnd_use hE32 hG
          obtain ⟨x36, ex36⟩ : ∃ y : Int32, y = y2 + 1 := ⟨_, rfl⟩
          have hG := bnd_use ex36 hG
          refine lv_iinc (v := x36) (lv' := [(2, .int x36), (0, .ref (ad 3)), (1, .ref (ad 2))]) hx hb d_X6_copy_88 hl (k := 2) rfl (by rw [ex36]; rfl) (by decide) rfl (fun ls hl => ?_)
          have r37 : Rg x36 1 10 := rg_add ex36 r26 (⟨by decide, by decide⟩ : Rg 1 1 1) (by decide) (by decide)
          have s38 : x36.toInt = y2.toInt + (1 : Int32).toInt := by rw [ex36]; exact i_add (by obtain ⟨_, _⟩ := r26; obtain ⟨_, _⟩ := (⟨by decide, by decide⟩ : Rg 1 1 1); omega) (by obtain ⟨_, _⟩ := r26; obtain ⟨_, _⟩ := (⟨by decide, by decide⟩ : Rg 1 1 1); omega)
          have s38l : (1 : Int32).toInt = 1 := rfl
          refine lv_goto (tgt := 65) hx hb d_X6_copy_91 (by decide) ?_
          exact ih1 x36 v31 _ _ _ (by have := s38; obtain ⟨_, _⟩ := r37; omega) (rg_w r37 (by decide) (by decide)) hI33 hK35 hG hw hS (lv_sub hl [1, 2, 0] rfl)
      · intro y2 v1 H locs ls hmu r_y2 hI1 hK1 hG hw hS hl
        have hG : b_X6_copy_3_2_96  (g_X6_copy_3_2_96  n) y2 v1 = RR := hG
        unfold b_X6_copy_3_2_96 at hG
        refine lv_iload_n hx hb d_X6_copy_96 rfl (lv_at hl 2 rfl) ?_
        refine lv_bipush (v := 6) hx hb d_X6_copy_97 (by decide) ?_
        refine lv_icmp_ge (tgt := 123) hx hb d_X6_copy_99 (by decide) (fun c39 => ?_) (fun c39 => ?_)
        · have f40 := i_le c39
          have r41 : Rg y2 6 6 := by obtain ⟨a1, a2⟩ := r_y2; obtain ⟨b1, b2⟩ := (⟨by decide, by decide⟩ : Rg 6 6 6); have f := i_le c39; exact ⟨by omega, by omega⟩
          have hG := g_pos c39 hG
          exact r_vret X hr hlocks hw hS ⟨⟨hI1, hK1⟩, hG.trans eRR.symm⟩ d_X6_copy_123
        · have f42 := i_nle c39
          have r43 : Rg y2 0 5 := by obtain ⟨a1, a2⟩ := r_y2; obtain ⟨b1, b2⟩ := (⟨by decide, by decide⟩ : Rg 6 6 6); have f := i_nle c39; exact ⟨by omega, by omega⟩
          have hG := g_neg c39 hG
          refine lv_aload_n hx hb d_X6_copy_102 rfl (lv_at hl 0 rfl) ?_
          refine r_getr (r := 18) X hw FL_X6_25 (rfl : KD 3 = _) rfl d_X6_copy_103 ?_
          refine lv_iload_n hx hb d_X6_copy_106 rfl (lv_at hl 2 rfl) ?_
          refine r_aald X hw (rfl : KD 18 = _) (Or.inr (Or.inr (Or.inl rfl))) (Rg.vp (b := 5) r43 (by decide)) rfl d_X6_copy_107 ?_
          refine r_nm (fun kc44 ekc44 => ?_)
          have hG := bnd_use ekc44 hG
          have kc44a : 312 ≤ kc44 := by omega
          have kc44b : kc44 ≤ 317 := by have := Rg.nat r43; omega
          refine lv_aload_n hx hb d_X6_copy_108 rfl (lv_at hl 1 rfl) ?_
          refine r_getr (r := 17) X hw FL_X6_25 (rfl : KD 2 = _) rfl d_X6_copy_109 ?_
          refine lv_iload_n hx hb d_X6_copy_112 rfl (lv_at hl 2 rfl) ?_
          refine r_aald X hw (rfl : KD 17 = _) (Or.inr (Or.inr (Or.inl rfl))) (Rg.vp (b := 5) r43 (by decide)) rfl d_X6_copy_113 ?_
          refine r_nm (fun kc45 ekc45 => ?_)
          have hG := bnd_use ekc45 hG
          have kc45a : 306 ≤ kc45 := by omega
          have kc45b : kc45 ≤ 311 := by have := Rg.nat r43; omega
          refine r_cv (r_runV (n := 1) (As := [.ref (ad kc45)]) (rest := []) X hw (ct_X9_copy_B l D dA ad v1 hI1 kc44 kc45 (by omega) (by omega) (by omega) (by omega)) gc_X6_52 (KD_ward (by omega) (by omega)) (by decide) rfl (by decide +kernel) ⟨rfl, rfl, Nat.le_of_ble_eq_true rfl, Nat.le_of_ble_eq_true rfl⟩ rfl hl.1 rfl (Nat.le_of_ble_eq_true rfl) ⟨Nat.zero_le _, Nat.zero_le _⟩ d_X6_copy_114) hS (fun v47 H locs hp46 hw hS => ?_)
          obtain ⟨hp46, hE48⟩ := hp46
          obtain ⟨hI49, hK50⟩ := hp46
          have hK51 : Kp kp_X6_copy_3_2 v v47 := Kp.tr hK1 hK50 (by have z0 : (0 : Int32).toInt = 0 := rfl; intro a j; unfold kp_X6_copy_3_2 kp_X9_copy_B; omega)
          have hG := bnd_use hE48 hG
          obtain ⟨x52, ex52⟩ : ∃ y : Int32, y = y2 + 1 := ⟨_, rfl⟩
          have hG := bnd_use ex52 hG
          refine lv_iinc (v := x52) (lv' := [(2, .int x52), (0, .ref (ad 3)), (1, .ref (ad 2))]) hx hb d_X6_copy_117 hl (k := 2) rfl (by rw [ex52]; rfl) (by decide) rfl (fun ls hl => ?_)
          have r53 : Rg x52 1 6 := rg_add ex52 r43 (⟨by decide, by decide⟩ : Rg 1 1 1) (by decide) (by decide)
          have s54 : x52.toInt = y2.toInt + (1 : Int32).toInt := by rw [ex52]; exact i_add (by obtain ⟨_, _⟩ := r43; obtain ⟨_, _⟩ := (⟨by decide, by decide⟩ : Rg 1 1 1); omega) (by obtain ⟨_, _⟩ := r43; obtain ⟨_, _⟩ := (⟨by decide, by decide⟩ : Rg 1 1 1); omega)
          have s54l : (1 : Int32).toInt = 1 := rfl
          refine lv_goto (tgt := 96) hx hb d_X6_copy_120 (by decide) ?_
          exact ih2 x52 v47 _ _ _ (by have := s54; obtain ⟨_, _⟩ := r53; omega) (rg_w r53 (by decide) (by decide)) hI49 hK51 hG hw hS (lv_sub hl [1, 2, 0] rfl)
  obtain ⟨ih0, ih1, ih2⟩ := LL 100000
  have hK0 : Kp kp_X6_copy_3_2 v v := Kp.rf _ v
  have hG := eRR
  unfold f_X6_copy_3_2 at hG
  refine lv_aload_n hx hb d_X6_copy_0 rfl (lv_at hl 0 rfl) ?_
  refine lv_aload_n hx hb d_X6_copy_1 rfl (lv_at hl 1 rfl) ?_
  refine r_geti X hw FL_X6_29 (rfl : KD 2 = _) rfl d_X6_copy_2 ?_
  refine lv_topi (fun x55 ex55 => ?_)
  have hG := bnd_use ex55 hG
  have r56 : Rg x55 0 20 := by rw [ex55]; exact hI _ _ _ _ rfl
  have hm57 : v 2 3 = x55 := ex55.symm
  refine r_put X hw hS FP_X6_29 (rfl : KD 3 = _) rfl ⟨rfl, rfl⟩ d_X6_copy_5 (fun H locs hw hS => ?_)
  obtain ⟨v58, ev58⟩ : ∃ z, z = up2 v 3 3 x55 := ⟨_, rfl⟩
  rw [← ev58] at hw
  have hG := bnd_use ev58 hG
  have hI59 : Inv v58 := by rw [ev58]; exact Inv.putr hI rfl r56
  have hK60 : Kp kp_X6_copy_3_2 v v58 := by rw [ev58]; exact Kp.put hK0 _ (by unfold kp_X6_copy_3_2; omega)
  have hm61 : v58 2 3 = x55 := by rw [ev58, up2_n _ _ (by omega)]; exact hm57
  have hm62 : v58 3 3 = x55 := by rw [ev58, up2_s]
  refine lv_aload_n hx hb d_X6_copy_8 rfl (lv_at hl 0 rfl) ?_
  refine lv_aload_n hx hb d_X6_copy_9 rfl (lv_at hl 1 rfl) ?_
  refine r_geti X hw FL_X6_33 (rfl : KD 2 = _) rfl d_X6_copy_10 ?_
  refine lv_topi (fun x63 ex63 => ?_)
  have hG := bnd_use ex63 hG
  have r64 : Rg x63 0 10 := by rw [ex63]; exact hI59 _ _ _ _ rfl
  have hm65 : v58 2 4 = x63 := ex63.symm
  refine r_put X hw hS FP_X6_33 (rfl : KD 3 = _) rfl ⟨rfl, rfl⟩ d_X6_copy_13 (fun H locs hw hS => ?_)
  obtain ⟨v66, ev66⟩ : ∃ z, z = up2 v58 3 4 x63 := ⟨_, rfl⟩
  rw [← ev66] at hw
  have hG := bnd_use ev66 hG
  have hI67 : Inv v66 := by rw [ev66]; exact Inv.putr hI59 rfl r64
  have hK68 : Kp kp_X6_copy_3_2 v v66 := by rw [ev66]; exact Kp.put hK60 _ (by unfold kp_X6_copy_3_2; omega)
  have hm69 : v66 2 3 = x55 := by rw [ev66, up2_n _ _ (by omega)]; exact hm61
  have hm70 : v66 3 3 = x55 := by rw [ev66, up2_n _ _ (by omega)]; exact hm62
  have hm71 : v66 2 4 = x63 := by rw [ev66, up2_n _ _ (by omega)]; exact hm65
  have hm72 : v66 3 4 = x63 := by rw [ev66, up2_s]
  refine lv_aload_n hx hb d_X6_copy_16 rfl (lv_at hl 0 rfl) ?_
  refine lv_aload_n hx hb d_X6_copy_17 rfl (lv_at hl 1 rfl) ?_
  refine r_geti X hw FL_X6_36 (rfl : KD 2 = _) rfl d_X6_copy_18 ?_
  refine lv_topi (fun x73 ex73 => ?_)
  have hG := bnd_use ex73 hG
  refine r_put X hw hS FP_X6_36 (rfl : KD 3 = _) rfl ⟨rfl, rfl⟩ d_X6_copy_21 (fun H locs hw hS => ?_)
  obtain ⟨v74, ev74⟩ : ∃ z, z = up2 v66 3 5 x73 := ⟨_, rfl⟩
  rw [← ev74] at hw
  have hG := bnd_use ev74 hG
  have hI75 : Inv v74 := by rw [ev74]; exact Inv.put0 hI67 _ rfl
  have hK76 : Kp kp_X6_copy_3_2 v v74 := by rw [ev74]; exact Kp.put hK68 _ (by unfold kp_X6_copy_3_2; omega)
  have hm77 : v74 2 3 = x55 := by rw [ev74, up2_n _ _ (by omega)]; exact hm69
  have hm78 : v74 3 3 = x55 := by rw [ev74, up2_n _ _ (by omega)]; exact hm70
  have hm79 : v74 2 4 = x63 := by rw [ev74, up2_n _ _ (by omega)]; exact hm71
  have hm80 : v74 3 4 = x63 := by rw [ev74, up2_n _ _ (by omega)]; exact hm72
  refine lv_aload_n hx hb d_X6_copy_24 rfl (lv_at hl 0 rfl) ?_
  refine lv_aload_n hx hb d_X6_copy_25 rfl (lv_at hl 1 rfl) ?_
  refine r_geti X hw FL_X6_39 (rfl : KD 2 = _) rfl d_X6_copy_26 ?_
  refine lv_topi (fun x81 ex81 => ?_)
  have hG := bnd_use ex81 hG
  refine r_put X hw hS FP_X6_39 (rfl : KD 3 = _) rfl ⟨rfl, rfl⟩ d_X6_copy_29 (fun H locs hw hS => ?_)
  obtain ⟨v82, ev82⟩ : ∃ z, z = up2 v74 3 6 x81 := ⟨_, rfl⟩
  rw [← ev82] at hw
  have hG := bnd_use ev82 hG
  have hI83 : Inv v82 := by rw [ev82]; exact Inv.put0 hI75 _ rfl
  have hK84 : Kp kp_X6_copy_3_2 v v82 := by rw [ev82]; exact Kp.put hK76 _ (by unfold kp_X6_copy_3_2; omega)
  have hm85 : v82 2 3 = x55 := by rw [ev82, up2_n _ _ (by omega)]; exact hm77
  have hm86 : v82 3 3 = x55 := by rw [ev82, up2_n _ _ (by omega)]; exact hm78
  have hm87 : v82 2 4 = x63 := by rw [ev82, up2_n _ _ (by omega)]; exact hm79
  have hm88 : v82 3 4 = x63 := by rw [ev82, up2_n _ _ (by omega)]; exact hm80
  refine lv_iconst (v := 0) hx hb d_X6_copy_32 (by decide) ?_
  refine lv_istore_n (lv' := [(2, .int 0), (0, .ref (ad 3)), (1, .ref (ad 2))]) hx hb d_X6_copy_33 rfl hl (by decide) rfl (fun ls hl => ?_)
  exact ih0 0 v82 _ _ _ (by obtain ⟨_, _⟩ := (⟨by decide, by decide⟩ : Rg 0 0 0); omega) (rg_w (⟨by decide, by decide⟩ : Rg 0 0 0) (by decide) (by decide)) hI83 hK84 hG hw hS (lv_sub hl [1, 2, 0] rfl)
def kp_X6_copy_3_1  (a j : Nat) : Prop := a ≠ 3 ∧ (a < 140 ∨ 160 ≤ a) ∧ (a < 220 ∨ 230 ≤ a) ∧ (a < 312 ∨ 318 ≤ a) ∧ (a < 332 ∨ 338 ≤ a)
def b_X6_copy_3_1_34  (rc34 : Int32 → tV → tV) (rc65 : Int32 → tV → tV) (y2 : Int32) (v1 : tV) : tV := bnd (v1 3 3) fun x1 => (if x1 ≤ y2 then rc65 0 v1 else bnd (140 + y2.toNatClampNeg) fun kc9 => bnd (100 + y2.toNatClampNeg) fun kc10 => bnd (f_X7_copy v1 kc9 kc10) fun v12 => bnd (y2 + 1) fun x17 => rc34 x17 v12)
def b_X6_copy_3_1_65  (rc65 : Int32 → tV → tV) (rc96 : Int32 → tV → tV) (y2 : Int32) (v1 : tV) : tV := bnd (v1 3 4) fun x20 => (if x20 ≤ y2 then rc96 0 v1 else bnd (220 + y2.toNatClampNeg) fun kc28 => bnd (200 + y2.toNatClampNeg) fun kc29 => bnd (f_X0_copy v1 kc28 kc29) fun v31 => bnd (y2 + 1) fun x36 => rc65 x36 v31)
def b_X6_copy_3_1_96  (rc96 : Int32 → tV → tV) (y2 : Int32) (v1 : tV) : tV := (if (6 : Int32) ≤ y2 then v1 else bnd (312 + y2.toNatClampNeg) fun kc44 => bnd (300 + y2.toNatClampNeg) fun kc45 => bnd (f_X9_copy_B v1 kc44 kc45) fun v47 => bnd (y2 + 1) fun x52 => rc96 x52 v47)
def g_X6_copy_3_1_96  : Nat → Int32 → tV → tV
  | 0, _, v1 => v1
  | n + 1, y2, v1 => b_X6_copy_3_1_96  (g_X6_copy_3_1_96  n) y2 v1
def g_X6_copy_3_1_65  : Nat → Int32 → tV → tV
  | 0, _, v1 => v1
  | n + 1, y2, v1 => b_X6_copy_3_1_65  (g_X6_copy_3_1_65  n) (g_X6_copy_3_1_96  n) y2 v1
def g_X6_copy_3_1_34  : Nat → Int32 → tV → tV
  | 0, _, v1 => v1
  | n + 1, y2, v1 => b_X6_copy_3_1_34  (g_X6_copy_3_1_34  n) (g_X6_copy_3_1_65  n) y2 v1
def f_X6_copy_3_1 (v : tV)  : tV := bnd (v 1 3) fun x55 => bnd (up2 v 3 3 x55) fun v58 => bnd (v58 1 4) fun x63 => bnd (up2 v58 3 4 x63) fun v66 => bnd (v66 1 5) fun x73 => bnd (up2 v66 3 5 x73) fun v74 => bnd (v74 1 6) fun x81 => bnd (up2 v74 3 6 x81) fun v82 => g_X6_copy_3_1_34  100000 0 v82
set_option maxHeartbeats 4000000 in
set_option maxRecDepth 100000 in
theorem ct_X6_copy_3_1 (l : Launch) (D : va_G) (dA : Nat → ClassId) (ad : Nat → Nat) (v : tV) (hI : Inv v)  : Met l m_X6_copy [.code m_X6_copy c_X6_copy 3 none] ({ frames := 3, cells := 0, slots := 0, locals := 101 } : Room) (tP D dA ad v [.ref (ad 3), .ref (ad 1)]) (tQv D dA ad (fun v' => (Inv v' ∧ Kp kp_X6_copy_3_1 v v') ∧ v' = f_X6_copy_3_1 v )) 0 0 (tA ad) := by
  refine tMet (by decide) (Nat.le_of_ble_eq_true rfl) ?_
  intro p e s m below meth c ls X hr hlocks hw hl
  have X : CX p s m ([.ref (ad 3), .ref (ad 1)] : List Value).toArray c c_X6_copy N_X6 3 D dA := X
  have hx := X.1
  have hb := X.2.1
  have hS : va_S (tA ad) s.heap s.heap [] := va_S.rf
  have hl : lv_has ls 3 [(0, .ref (ad 3)), (1, .ref (ad 1))] := hl
  obtain ⟨RR, eRR⟩ : ∃ z, f_X6_copy_3_1 v  = z := ⟨_, rfl⟩
  have LL : ∀ n : Nat, (∀ (y2 : Int32) (v1 : tV) (H : Heap) (locs : List Loc) (ls : Array Slot), (20 - y2.toInt).toNat + 100 < n → Rg y2 0 20 → Inv v1 → Kp kp_X6_copy_3_1 v v1 → g_X6_copy_3_1_34  n y2 v1 = RR → tI D dA ad v1 H → va_S (tA ad) s.heap H locs → lv_has ls 3 [(0, .ref (ad 3)), (1, .ref (ad 1)), (2, .int y2)] → W p l e ({ frames := 3, cells := 0, slots := 0, locals := 101 } : Room) s m ([.ref (ad 3), .ref (ad 1)] : List Value).toArray below meth c H locs 0 0 (MQ below (tQv D dA ad (fun v' => (Inv v' ∧ Kp kp_X6_copy_3_1 v v') ∧ v' = f_X6_copy_3_1 v )) ([.ref (ad 3), .ref (ad 1)] : List Value).toArray s 0 0 (tA ad)) (F0 m 34 ls [])) ∧ (∀ (y2 : Int32) (v1 : tV) (H : Heap) (locs : List Loc) (ls : Array Slot), (10 - y2.toInt).toNat + 50 < n → Rg y2 0 10 → Inv v1 → Kp kp_X6_copy_3_1 v v1 → g_X6_copy_3_1_65  n y2 v1 = RR → tI D dA ad v1 H → va_S (tA ad) s.heap H locs → lv_has ls 3 [(0, .ref (ad 3)), (1, .ref (ad 1)), (2, .int y2)] → W p l e ({ frames := 3, cells := 0, slots := 0, locals := 101 } : Room) s m ([.ref (ad 3), .ref (ad 1)] : List Value).toArray below meth c H locs 0 0 (MQ below (tQv D dA ad (fun v' => (Inv v' ∧ Kp kp_X6_copy_3_1 v v') ∧ v' = f_X6_copy_3_1 v )) ([.ref (ad 3), .ref (ad 1)] : List Value).toArray s 0 0 (tA ad)) (F0 m 65 ls [])) ∧ (∀ (y2 : Int32) (v1 : tV) (H : Heap) (locs : List Loc) (ls : Array Slot), (6 - y2.toInt).toNat + 0 < n → Rg y2 0 6 → Inv v1 → Kp kp_X6_copy_3_1 v v1 → g_X6_copy_3_1_96  n y2 v1 = RR → tI D dA ad v1 H → va_S (tA ad) s.heap H locs → lv_has ls 3 [(0, .ref (ad 3)), (1, .ref (ad 1)), (2, .int y2)] → W p l e ({ frames := 3, cells := 0, slots := 0, locals := 101 } : Room) s m ([.ref (ad 3), .ref (ad 1)] : List Value).toArray below meth c H locs 0 0 (MQ below (tQv D dA ad (fun v' => (Inv v' ∧ Kp kp_X6_copy_3_1 v v') ∧ v' = f_X6_copy_3_1 v )) ([.ref (ad 3), .ref (ad 1)] : List Value).toArray s 0 0 (tA ad)) (F0 m 96 ls [])) := by
    intro n
    induction n with
    | zero => refine ⟨?_, ?_, ?_⟩ <;> (intros; omega)
    | succ n ih =>
      obtain ⟨ih0, ih1, ih2⟩ := ih
      refine ⟨?_, ?_, ?_⟩
      · intro y2 v1 H locs ls hmu r_y2 hI1 hK1 hG hw hS hl
        have hG : b_X6_copy_3_1_34  (g_X6_copy_3_1_34  n) (g_X6_copy_3_1_65  n) y2 v1 = RR := hG
        unfold b_X6_copy_3_1_34 at hG
        refine lv_iload_n hx hb d_X6_copy_34 rfl (lv_at hl 2 rfl) ?_
        refine lv_aload_n hx hb d_X6_copy_35 rfl (lv_at hl 0 rfl) ?_
        refine r_geti X hw FL_X6_29 (rfl : KD 3 = _) rfl d_X6_copy_36 ?_
        refine lv_topi (fun x1 ex1 => ?_)
        have hG := bnd_use ex1 hG
        have r2 : Rg x1 0 20 := by rw [ex1]; exact hI1 _ _ _ _ rfl
        have hm3 : v1 3 3 = x1 := ex1.symm
        refine lv_icmp_ge (tgt := 63) hx hb d_X6_copy_39 (by decide) (fun c4 => ?_) (fun c4 => ?_)
        · have f5 := i_le c4
          have hG := g_pos c4 hG
          refine lv_iconst (v := 0) hx hb d_X6_copy_63 (by decide) ?_
          refine lv_istore_n (lv' := [(2, .int 0), (0, .ref (ad 3)), (1, .ref (ad 1))]) hx hb d_X6_copy_64 rfl hl (by decide) rfl (fun ls hl => ?_)
          exact ih1 0 v1 _ _ _ (by obtain ⟨_, _⟩ := (⟨by decide, by decide⟩ : Rg 0 0 0); omega) (rg_w (⟨by decide, by decide⟩ : Rg 0 0 0) (by decide) (by decide)) hI1 hK1 hG hw hS (lv_sub hl [1, 2, 0] rfl)
        · have f6 := i_nle c4
          have r7 : Rg y2 0 19 := by obtain ⟨a1, a2⟩ := r_y2; obtain ⟨b1, b2⟩ := r2; have f := i_nle c4; exact ⟨by omega, by omega⟩
          have r8 : Rg x1 1 20 := by obtain ⟨a1, a2⟩ := r_y2; obtain ⟨b1, b2⟩ := r2; have f := i_nle c4; exact ⟨by omega, by omega⟩
          have hG := g_neg c4 hG
          refine lv_aload_n hx hb d_X6_copy_42 rfl (lv_at hl 0 rfl) ?_
          refine r_getr (r := 12) X hw FL_X6_11 (rfl : KD 3 = _) rfl d_X6_copy_43 ?_
          refine lv_iload_n hx hb d_X6_copy_46 rfl (lv_at hl 2 rfl) ?_
          refine r_aald X hw (rfl : KD 12 = _) (Or.inl rfl) (Rg.vp (b := 19) r7 (by decide)) rfl d_X6_copy_47 ?_
          refine r_nm (fun kc9 ekc9 => ?_)
          have hG := bnd_use ekc9 hG
          have kc9a : 140 ≤ kc9 := by omega
          have kc9b : kc9 ≤ 159 := by have := Rg.nat r7; omega
          refine lv_aload_n hx hb d_X6_copy_48 rfl (lv_at hl 1 rfl) ?_
          refine r_getr (r := 10) X hw FL_X6_11 (rfl : KD 1 = _) rfl d_X6_copy_49 ?_
          refine lv_iload_n hx hb d_X6_copy_52 rfl (lv_at hl 2 rfl) ?_
          refine r_aald X hw (rfl : KD 10 = _) (Or.inl rfl) (Rg.vp (b := 19) r7 (by decide)) rfl d_X6_copy_53 ?_
          refine r_nm (fun kc10 ekc10 => ?_)
          have hG := bnd_use ekc10 hG
          have kc10a : 100 ≤ kc10 := by omega
          have kc10b : kc10 ≤ 119 := by have := Rg.nat r7; omega
          refine r_cv (r_runV (n := 1) (As := [.ref (ad kc10)]) (rest := []) X hw (ct_X7_copy l D dA ad v1 hI1 kc9 kc10 (by omega) (by omega) (by omega) (by omega)) gc_X6_45 (KD_ship (by omega) (by omega)) (by decide) rfl (by decide +kernel) ⟨rfl, rfl, Nat.le_of_ble_eq_true rfl, Nat.le_of_ble_eq_true rfl⟩ rfl hl.1 rfl (Nat.le_of_ble_eq_true rfl) ⟨Nat.zero_le _, Nat.zero_le _⟩ d_X6_copy_54) hS (fun v12 H locs hp11 hw hS => ?_)
          obtain ⟨hp11, hE13⟩ := hp11
          obtain ⟨hI14, hK15⟩ := hp11
          have hK16 : Kp kp_X6_copy_3_1 v v12 := Kp.tr hK1 hK15 (by have z0 : (0 : Int32).toInt = 0 := rfl; intro a j; unfold kp_X6_copy_3_1 kp_X7_copy; omega)
          have hG := bnd_use hE13 hG
          obtain ⟨x17, ex17⟩ : ∃ y : Int32, y = y2 + 1 := ⟨_, rfl⟩
          have hG := bnd_use ex17 hG
          refine lv_iinc (v := x17) (lv' := [(2, .int x17), (0, .ref (ad 3)), (1, .ref (ad 1))]) hx hb d_X6_copy_57 hl (k := 2) rfl (by rw [ex17]; rfl) (by decide) rfl (fun ls hl => ?_)
          have r18 : Rg x17 1 20 := rg_add ex17 r7 (⟨by decide, by decide⟩ : Rg 1 1 1) (by decide) (by decide)
          have s19 : x17.toInt = y2.toInt + (1 : Int32).toInt := by rw [ex17]; exact i_add (by obtain ⟨_, _⟩ := r7; obtain ⟨_, _⟩ := (⟨by decide, by decide⟩ : Rg 1 1 1); omega) (by obtain ⟨_, _⟩ := r7; obtain ⟨_, _⟩ := (⟨by decide, by decide⟩ : Rg 1 1 1); omega)
          have s19l : (1 : Int32).toInt = 1 := rfl
          refine lv_goto (tgt := 34) hx hb d_X6_copy_60 (by decide) ?_
          exact ih0 x17 v12 _ _ _ (by have := s19; obtain ⟨_, _⟩ := r18; omega) (rg_w r18 (by decide) (by decide)) hI14 hK16 hG hw hS (lv_sub hl [1, 2, 0] rfl)
      · intro y2 v1 H locs ls hmu r_y2 hI1 hK1 hG hw hS hl
        have hG : b_X6_copy_3_1_65  (g_X6_copy_3_1_65  n) (g_X6_copy_3_1_96  n) y2 v1 = RR := hG
        unfold b_X6_copy_3_1_65 at hG
        refine lv_iload_n hx hb d_X6_copy_65 rfl (lv_at hl 2 rfl) ?_
        refine lv_aload_n hx hb d_X6_copy_66 rfl (lv_at hl 0 rfl) ?_
        refine r_geti X hw FL_X6_33 (rfl : KD 3 = _) rfl d_X6_copy_67 ?_
        refine lv_topi (fun x20 ex20 => ?_)
        have hG := bnd_use ex20 hG
        have r21 : Rg x20 0 10 := by rw [ex20]; exact hI1 _ _ _ _ rfl
        have hm22 : v1 3 4 = x20 := ex20.symm
        refine lv_icmp_ge (tgt := 94) hx hb d_X6_copy_70 (by decide) (fun c23 => ?_) (fun c23 => ?_)
        · have f24 := i_le c23
          have hG := g_pos c23 hG
          refine lv_iconst (v := 0) hx hb d_X6_copy_94 (by decide) ?_
          refine lv_istore_n (lv' := [(2, .int 0), (0, .ref (ad 3)), (1, .ref (ad 1))]) hx hb d_X6_copy_95 rfl hl (by decide) rfl (fun ls hl => ?_)
          exact ih2 0 v1 _ _ _ (by obtain ⟨_, _⟩ := (⟨by decide, by decide⟩ : Rg 0 0 0); omega) (rg_w (⟨by decide, by decide⟩ : Rg 0 0 0) (by decide) (by decide)) hI1 hK1 hG hw hS (lv_sub hl [1, 2, 0] rfl)
        · have f25 := i_nle c23
          have r26 : Rg y2 0 9 := by obtain ⟨a1, a2⟩ := r_y2; obtain ⟨b1, b2⟩ := r21; have f := i_nle c23; exact ⟨by omega, by omega⟩
          have r27 : Rg x20 1 10 := by obtain ⟨a1, a2⟩ := r_y2; obtain ⟨b1, b2⟩ := r21; have f := i_nle c23; exact ⟨by omega, by omega⟩
          have hG := g_neg c23 hG
          refine lv_aload_n hx hb d_X6_copy_73 rfl (lv_at hl 0 rfl) ?_
          refine r_getr (r := 15) X hw FL_X6_19 (rfl : KD 3 = _) rfl d_X6_copy_74 ?_
          refine lv_iload_n hx hb d_X6_copy_77 rfl (lv_at hl 2 rfl) ?_
          refine r_aald X hw (rfl : KD 15 = _) (Or.inr (Or.inl rfl)) (Rg.vp (b := 9) r26 (by decide)) rfl d_X6_copy_78 ?_
          refine r_nm (fun kc28 ekc28 => ?_)
          have hG := bnd_use ekc28 hG
          have kc28a : 220 ≤ kc28 := by omega
          have kc28b : kc28 ≤ 229 := by have := Rg.nat r26; omega
          refine lv_aload_n hx hb d_X6_copy_79 rfl (lv_at hl 1 rfl) ?_
          refine r_getr (r := 13) X hw FL_X6_19 (rfl : KD 1 = _) rfl d_X6_copy_80 ?_
          refine lv_iload_n hx hb d_X6_copy_83 rfl (lv_at hl 2 rfl) ?_
          refine r_aald X hw (rfl : KD 13 = _) (Or.inr (Or.inl rfl)) (Rg.vp (b := 9) r26 (by decide)) rfl d_X6_copy_84 ?_
          refine r_nm (fun kc29 ekc29 => ?_)
          have hG := bnd_use ekc29 hG
          have kc29a : 200 ≤ kc29 := by omega
          have kc29b : kc29 ≤ 209 := by have := Rg.nat r26; omega
          refine r_cv (r_runV (n := 1) (As := [.ref (ad kc29)]) (rest := []) X hw (ct_X0_copy l D dA ad v1 hI1 kc28 kc29 (by omega) (by omega) (by omega) (by omega)) gc_X6_49 (KD_buyer (by omega) (by omega)) (by decide) rfl (by decide +kernel) ⟨rfl, rfl, Nat.le_of_ble_eq_true rfl, Nat.le_of_ble_eq_true rfl⟩ rfl hl.1 rfl (Nat.le_of_ble_eq_true rfl) ⟨Nat.zero_le _, Nat.zero_le _⟩ d_X6_copy_85) hS (fun v31 H locs hp30 hw hS => ?_)
          obtain ⟨hp30, hE32⟩ := hp30
          obtain ⟨hI33, hK34⟩ := hp30
          have hK35 : Kp kp_X6_copy_3_1 v v31 := Kp.tr hK1 hK34 (by have z0 : (0 : Int32).toInt = 0 := rfl; intro a j; unfold kp_X6_copy_3_1 kp_X0_copy; omega)
          have hG := bnd_use hE32 hG
          obtain ⟨x36, ex36⟩ : ∃ y : Int32, y = y2 + 1 := ⟨_, rfl⟩
          have hG := bnd_use ex36 hG
          refine lv_iinc (v := x36) (lv' := [(2, .int x36), (0, .ref (ad 3)), (1, .ref (ad 1))]) hx hb d_X6_copy_88 hl (k := 2) rfl (by rw [ex36]; rfl) (by decide) rfl (fun ls hl => ?_)
          have r37 : Rg x36 1 10 := rg_add ex36 r26 (⟨by decide, by decide⟩ : Rg 1 1 1) (by decide) (by decide)
          have s38 : x36.toInt = y2.toInt + (1 : Int32).toInt := by rw [ex36]; exact i_add (by obtain ⟨_, _⟩ := r26; obtain ⟨_, _⟩ := (⟨by decide, by decide⟩ : Rg 1 1 1); omega) (by obtain ⟨_, _⟩ := r26; obtain ⟨_, _⟩ := (⟨by decide, by decide⟩ : Rg 1 1 1); omega)
          have s38l : (1 : Int32).toInt = 1 := rfl
          refine lv_goto (tgt := 65) hx hb d_X6_copy_91 (by decide) ?_
          exact ih1 x36 v31 _ _ _ (by have := s38; obtain ⟨_, _⟩ := r37; omega) (rg_w r37 (by decide) (by decide)) hI33 hK35 hG hw hS (lv_sub hl [1, 2, 0] rfl)
      · intro y2 v1 H locs ls hmu r_y2 hI1 hK1 hG hw hS hl
        have hG : b_X6_copy_3_1_96  (g_X6_copy_3_1_96  n) y2 v1 = RR := hG
        unfold b_X6_copy_3_1_96 at hG
        refine lv_iload_n hx hb d_X6_copy_96 rfl (lv_at hl 2 rfl) ?_
        refine lv_bipush (v := 6) hx hb d_X6_copy_97 (by decide) ?_
        refine lv_icmp_ge (tgt := 123) hx hb d_X6_copy_99 (by decide) (fun c39 => ?_) (fun c39 => ?_)
        · have f40 := i_le c39
          have r41 : Rg y2 6 6 := by obtain ⟨a1, a2⟩ := r_y2; obtain ⟨b1, b2⟩ := (⟨by decide, by decide⟩ : Rg 6 6 6); have f := i_le c39; exact ⟨by omega, by omega⟩
          have hG := g_pos c39 hG
          exact r_vret X hr hlocks hw hS ⟨⟨hI1, hK1⟩, hG.trans eRR.symm⟩ d_X6_copy_123
        · have f42 := i_nle c39
          have r43 : Rg y2 0 5 := by obtain ⟨a1, a2⟩ := r_y2; obtain ⟨b1, b2⟩ := (⟨by decide, by decide⟩ : Rg 6 6 6); have f := i_nle c39; exact ⟨by omega, by omega⟩
          have hG := g_neg c39 hG
          refine lv_aload_n hx hb d_X6_copy_102 rfl (lv_at hl 0 rfl) ?_
          refine r_getr (r := 18) X hw FL_X6_25 (rfl : KD 3 = _) rfl d_X6_copy_103 ?_
          refine lv_iload_n hx hb d_X6_copy_106 rfl (lv_at hl 2 rfl) ?_
          refine r_aald X hw (rfl : KD 18 = _) (Or.inr (Or.inr (Or.inl rfl))) (Rg.vp (b := 5) r43 (by decide)) rfl d_X6_copy_107 ?_
          refine r_nm (fun kc44 ekc44 => ?_)
          have hG := bnd_use ekc44 hG
          have kc44a : 312 ≤ kc44 := by omega
          have kc44b : kc44 ≤ 317 := by have := Rg.nat r43; omega
          refine lv_aload_n hx hb d_X6_copy_108 rfl (lv_at hl 1 rfl) ?_
          refine r_getr (r := 16) X hw FL_X6_25 (rfl : KD 1 = _) rfl d_X6_copy_109 ?_
          refine lv_iload_n hx hb d_X6_copy_112 rfl (lv_at hl 2 rfl) ?_
          refine r_aald X hw (rfl : KD 16 = _) (Or.inr (Or.inr (Or.inl rfl))) (Rg.vp (b := 5) r43 (by decide)) rfl d_X6_copy_113 ?_
          refine r_nm (fun kc45 ekc45 => ?_)
          have hG := bnd_use ekc45 hG
          have kc45a : 300 ≤ kc45 := by omega
          have kc45b : kc45 ≤ 305 := by have := Rg.nat r43; omega
          refine r_cv (r_runV (n := 1) (As := [.ref (ad kc45)]) (rest := []) X hw (ct_X9_copy_B l D dA ad v1 hI1 kc44 kc45 (by omega) (by omega) (by omega) (by omega)) gc_X6_52 (KD_ward (by omega) (by omega)) (by decide) rfl (by decide +kernel) ⟨rfl, rfl, Nat.le_of_ble_eq_true rfl, Nat.le_of_ble_eq_true rfl⟩ rfl hl.1 rfl (Nat.le_of_ble_eq_true rfl) ⟨Nat.zero_le _, Nat.zero_le _⟩ d_X6_copy_114) hS (fun v47 H locs hp46 hw hS => ?_)
          obtain ⟨hp46, hE48⟩ := hp46
          obtain ⟨hI49, hK50⟩ := hp46
          have hK51 : Kp kp_X6_copy_3_1 v v47 := Kp.tr hK1 hK50 (by have z0 : (0 : Int32).toInt = 0 := rfl; intro a j; unfold kp_X6_copy_3_1 kp_X9_copy_B; omega)
          have hG := bnd_use hE48 hG
          obtain ⟨x52, ex52⟩ : ∃ y : Int32, y = y2 + 1 := ⟨_, rfl⟩
          have hG := bnd_use ex52 hG
          refine lv_iinc (v := x52) (lv' := [(2, .int x52), (0, .ref (ad 3)), (1, .ref (ad 1))]) hx hb d_X6_copy_117 hl (k := 2) rfl (by rw [ex52]; rfl) (by decide) rfl (fun ls hl => ?_)
          have r53 : Rg x52 1 6 := rg_add ex52 r43 (⟨by decide, by decide⟩ : Rg 1 1 1) (by decide) (by decide)
          have s54 : x52.toInt = y2.toInt + (1 : Int32).toInt := by rw [ex52]; exact i_add (by obtain ⟨_, _⟩ := r43; obtain ⟨_, _⟩ := (⟨by decide, by decide⟩ : Rg 1 1 1); omega) (by obtain ⟨_, _⟩ := r43; obtain ⟨_, _⟩ := (⟨by decide, by decide⟩ : Rg 1 1 1); omega)
          have s54l : (1 : Int32).toInt = 1 := rfl
          refine lv_goto (tgt := 96) hx hb d_X6_copy_120 (by decide) ?_
          exact ih2 x52 v47 _ _ _ (by have := s54; obtain ⟨_, _⟩ := r53; omega) (rg_w r53 (by decide) (by decide)) hI49 hK51 hG hw hS (lv_sub hl [1, 2, 0] rfl)
  obtain ⟨ih0, ih1, ih2⟩ := LL 100000
  have hK0 : Kp kp_X6_copy_3_1 v v := Kp.rf _ v
  have hG := eRR
  unfold f_X6_copy_3_1 at hG
  refine lv_aload_n hx hb d_X6_copy_0 rfl (lv_at hl 0 rfl) ?_
  refine lv_aload_n hx hb d_X6_copy_1 rfl (lv_at hl 1 rfl) ?_
  refine r_geti X hw FL_X6_29 (rfl : KD 1 = _) rfl d_X6_copy_2 ?_
  refine lv_topi (fun x55 ex55 => ?_)
  have hG := bnd_use ex55 hG
  have r56 : Rg x55 0 20 := by rw [ex55]; exact hI _ _ _ _ rfl
  have hm57 : v 1 3 = x55 := ex55.symm
  refine r_put X hw hS FP_X6_29 (rfl : KD 3 = _) rfl ⟨rfl, rfl⟩ d_X6_copy_5 (fun H locs hw hS => ?_)
  obtain ⟨v58, ev58⟩ : ∃ z, z = up2 v 3 3 x55 := ⟨_, rfl⟩
  rw [← ev58] at hw
  have hG := bnd_use ev58 hG
  have hI59 : Inv v58 := by rw [ev58]; exact Inv.putr hI rfl r56
  have hK60 : Kp kp_X6_copy_3_1 v v58 := by rw [ev58]; exact Kp.put hK0 _ (by unfold kp_X6_copy_3_1; omega)
  have hm61 : v58 1 3 = x55 := by rw [ev58, up2_n _ _ (by omega)]; exact hm57
  have hm62 : v58 3 3 = x55 := by rw [ev58, up2_s]
  refine lv_aload_n hx hb d_X6_copy_8 rfl (lv_at hl 0 rfl) ?_
  refine lv_aload_n hx hb d_X6_copy_9 rfl (lv_at hl 1 rfl) ?_
  refine r_geti X hw FL_X6_33 (rfl : KD 1 = _) rfl d_X6_copy_10 ?_
  refine lv_topi (fun x63 ex63 => ?_)
  have hG := bnd_use ex63 hG
  have r64 : Rg x63 0 10 := by rw [ex63]; exact hI59 _ _ _ _ rfl
  have hm65 : v58 1 4 = x63 := ex63.symm
  refine r_put X hw hS FP_X6_33 (rfl : KD 3 = _) rfl ⟨rfl, rfl⟩ d_X6_copy_13 (fun H locs hw hS => ?_)
  obtain ⟨v66, ev66⟩ : ∃ z, z = up2 v58 3 4 x63 := ⟨_, rfl⟩
  rw [← ev66] at hw
  have hG := bnd_use ev66 hG
  have hI67 : Inv v66 := by rw [ev66]; exact Inv.putr hI59 rfl r64
  have hK68 : Kp kp_X6_copy_3_1 v v66 := by rw [ev66]; exact Kp.put hK60 _ (by unfold kp_X6_copy_3_1; omega)
  have hm69 : v66 1 3 = x55 := by rw [ev66, up2_n _ _ (by omega)]; exact hm61
  have hm70 : v66 3 3 = x55 := by rw [ev66, up2_n _ _ (by omega)]; exact hm62
  have hm71 : v66 1 4 = x63 := by rw [ev66, up2_n _ _ (by omega)]; exact hm65
  have hm72 : v66 3 4 = x63 := by rw [ev66, up2_s]
  refine lv_aload_n hx hb d_X6_copy_16 rfl (lv_at hl 0 rfl) ?_
  refine lv_aload_n hx hb d_X6_copy_17 rfl (lv_at hl 1 rfl) ?_
  refine r_geti X hw FL_X6_36 (rfl : KD 1 = _) rfl d_X6_copy_18 ?_
  refine lv_topi (fun x73 ex73 => ?_)
  have hG := bnd_use ex73 hG
  refine r_put X hw hS FP_X6_36 (rfl : KD 3 = _) rfl ⟨rfl, rfl⟩ d_X6_copy_21 (fun H locs hw hS => ?_)
  obtain ⟨v74, ev74⟩ : ∃ z, z = up2 v66 3 5 x73 := ⟨_, rfl⟩
  rw [← ev74] at hw
  have hG := bnd_use ev74 hG
  have hI75 : Inv v74 := by rw [ev74]; exact Inv.put0 hI67 _ rfl
  have hK76 : Kp kp_X6_copy_3_1 v v74 := by rw [ev74]; exact Kp.put hK68 _ (by unfold kp_X6_copy_3_1; omega)
  have hm77 : v74 1 3 = x55 := by rw [ev74, up2_n _ _ (by omega)]; exact hm69
  have hm78 : v74 3 3 = x55 := by rw [ev74, up2_n _ _ (by omega)]; exact hm70
  have hm79 : v74 1 4 = x63 := by rw [ev74, up2_n _ _ (by omega)]; exact hm71
  have hm80 : v74 3 4 = x63 := by rw [ev74, up2_n _ _ (by omega)]; exact hm72
  refine lv_aload_n hx hb d_X6_copy_24 rfl (lv_at hl 0 rfl) ?_
  refine lv_aload_n hx hb d_X6_copy_25 rfl (lv_at hl 1 rfl) ?_
  refine r_geti X hw FL_X6_39 (rfl : KD 1 = _) rfl d_X6_copy_26 ?_
  refine lv_topi (fun x81 ex81 => ?_)
  have hG := bnd_use ex81 hG
  refine r_put X hw hS FP_X6_39 (rfl : KD 3 = _) rfl ⟨rfl, rfl⟩ d_X6_copy_29 (fun H locs hw hS => ?_)
  obtain ⟨v82, ev82⟩ : ∃ z, z = up2 v74 3 6 x81 := ⟨_, rfl⟩
  rw [← ev82] at hw
  have hG := bnd_use ev82 hG
  have hI83 : Inv v82 := by rw [ev82]; exact Inv.put0 hI75 _ rfl
  have hK84 : Kp kp_X6_copy_3_1 v v82 := by rw [ev82]; exact Kp.put hK76 _ (by unfold kp_X6_copy_3_1; omega)
  have hm85 : v82 1 3 = x55 := by rw [ev82, up2_n _ _ (by omega)]; exact hm77
  have hm86 : v82 3 3 = x55 := by rw [ev82, up2_n _ _ (by omega)]; exact hm78
  have hm87 : v82 1 4 = x63 := by rw [ev82, up2_n _ _ (by omega)]; exact hm79
  have hm88 : v82 3 4 = x63 := by rw [ev82, up2_n _ _ (by omega)]; exact hm80
  refine lv_iconst (v := 0) hx hb d_X6_copy_32 (by decide) ?_
  refine lv_istore_n (lv' := [(2, .int 0), (0, .ref (ad 3)), (1, .ref (ad 1))]) hx hb d_X6_copy_33 rfl hl (by decide) rfl (fun ls hl => ?_)
  exact ih0 0 v82 _ _ _ (by obtain ⟨_, _⟩ := (⟨by decide, by decide⟩ : Rg 0 0 0); omega) (rg_w (⟨by decide, by decide⟩ : Rg 0 0 0) (by decide) (by decide)) hI83 hK84 hG hw hS (lv_sub hl [1, 2, 0] rfl)
