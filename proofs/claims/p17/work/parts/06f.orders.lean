theorem d_X4_init_0 : decode c_X4_init 0 = .ok (.aload_n 0, 1) := by decide +kernel
theorem d_X4_init_1 : decode c_X4_init 1 = .ok (.invokespecial 3, 3) := by decide +kernel
theorem d_X4_init_4 : decode c_X4_init 4 = .ok (.aload_n 0, 1) := by decide +kernel
theorem d_X4_init_5 : decode c_X4_init 5 = .ok (.bipush 8, 2) := by decide +kernel
theorem d_X4_init_7 : decode c_X4_init 7 = .ok (.anewarray 9, 3) := by decide +kernel
theorem d_X4_init_10 : decode c_X4_init 10 = .ok (.putfield 11, 3) := by decide +kernel
theorem d_X4_init_13 : decode c_X4_init 13 = .ok (.aload_n 0, 1) := by decide +kernel
theorem d_X4_init_14 : decode c_X4_init 14 = .ok (.new 9, 3) := by decide +kernel
theorem d_X4_init_17 : decode c_X4_init 17 = .ok (.dup, 1) := by decide +kernel
theorem d_X4_init_18 : decode c_X4_init 18 = .ok (.invokespecial 17, 3) := by decide +kernel
theorem d_X4_init_21 : decode c_X4_init 21 = .ok (.putfield 18, 3) := by decide +kernel
theorem d_X4_init_24 : decode c_X4_init 24 = .ok (.aload_n 0, 1) := by decide +kernel
theorem d_X4_init_25 : decode c_X4_init 25 = .ok (.iconst 0, 1) := by decide +kernel
theorem d_X4_init_26 : decode c_X4_init 26 = .ok (.putfield 22, 3) := by decide +kernel
theorem d_X4_init_29 : decode c_X4_init 29 = .ok (.iconst 0, 1) := by decide +kernel
theorem d_X4_init_30 : decode c_X4_init 30 = .ok (.istore_n 1, 1) := by decide +kernel
theorem d_X4_init_31 : decode c_X4_init 31 = .ok (.iload_n 1, 1) := by decide +kernel
theorem d_X4_init_32 : decode c_X4_init 32 = .ok (.bipush 8, 2) := by decide +kernel
theorem d_X4_init_34 : decode c_X4_init 34 = .ok (.if_icmp .ge 22, 3) := by decide +kernel
theorem d_X4_init_37 : decode c_X4_init 37 = .ok (.aload_n 0, 1) := by decide +kernel
theorem d_X4_init_38 : decode c_X4_init 38 = .ok (.getfield 11, 3) := by decide +kernel
theorem d_X4_init_41 : decode c_X4_init 41 = .ok (.iload_n 1, 1) := by decide +kernel
theorem d_X4_init_42 : decode c_X4_init 42 = .ok (.new 9, 3) := by decide +kernel
theorem d_X4_init_45 : decode c_X4_init 45 = .ok (.dup, 1) := by decide +kernel
theorem d_X4_init_46 : decode c_X4_init 46 = .ok (.invokespecial 17, 3) := by decide +kernel
theorem d_X4_init_49 : decode c_X4_init 49 = .ok (.aastore, 1) := by decide +kernel
theorem d_X4_init_50 : decode c_X4_init 50 = .ok (.iinc 1 1, 3) := by decide +kernel
theorem d_X4_init_53 : decode c_X4_init 53 = .ok (.goto (-22), 3) := by decide +kernel
theorem d_X4_init_56 : decode c_X4_init 56 = .ok (.return_, 1) := by decide +kernel
theorem d_X10_init_0 : decode c_X10_init 0 = .ok (.aload_n 0, 1) := by decide +kernel
theorem d_X10_init_1 : decode c_X10_init 1 = .ok (.invokespecial 1, 3) := by decide +kernel
theorem d_X10_init_4 : decode c_X10_init 4 = .ok (.aload_n 0, 1) := by decide +kernel
theorem d_X10_init_5 : decode c_X10_init 5 = .ok (.new 7, 3) := by decide +kernel
theorem d_X10_init_8 : decode c_X10_init 8 = .ok (.dup, 1) := by decide +kernel
theorem d_X10_init_9 : decode c_X10_init 9 = .ok (.invokespecial 9, 3) := by decide +kernel
theorem d_X10_init_12 : decode c_X10_init 12 = .ok (.putfield 10, 3) := by decide +kernel
theorem d_X10_init_15 : decode c_X10_init 15 = .ok (.aload_n 0, 1) := by decide +kernel
theorem d_X10_init_16 : decode c_X10_init 16 = .ok (.new 7, 3) := by decide +kernel
theorem d_X10_init_19 : decode c_X10_init 19 = .ok (.dup, 1) := by decide +kernel
theorem d_X10_init_20 : decode c_X10_init 20 = .ok (.invokespecial 9, 3) := by decide +kernel
theorem d_X10_init_23 : decode c_X10_init 23 = .ok (.putfield 16, 3) := by decide +kernel
theorem d_X10_init_26 : decode c_X10_init 26 = .ok (.aload_n 0, 1) := by decide +kernel
theorem d_X10_init_27 : decode c_X10_init 27 = .ok (.new 7, 3) := by decide +kernel
theorem d_X10_init_30 : decode c_X10_init 30 = .ok (.dup, 1) := by decide +kernel
theorem d_X10_init_31 : decode c_X10_init 31 = .ok (.invokespecial 9, 3) := by decide +kernel
theorem d_X10_init_34 : decode c_X10_init 34 = .ok (.putfield 19, 3) := by decide +kernel
theorem d_X10_init_37 : decode c_X10_init 37 = .ok (.aload_n 0, 1) := by decide +kernel
theorem d_X10_init_38 : decode c_X10_init 38 = .ok (.new 22, 3) := by decide +kernel
theorem d_X10_init_41 : decode c_X10_init 41 = .ok (.dup, 1) := by decide +kernel
theorem d_X10_init_42 : decode c_X10_init 42 = .ok (.invokespecial 24, 3) := by decide +kernel
theorem d_X10_init_45 : decode c_X10_init 45 = .ok (.putfield 25, 3) := by decide +kernel
theorem d_X10_init_48 : decode c_X10_init 48 = .ok (.aload_n 0, 1) := by decide +kernel
theorem d_X10_init_49 : decode c_X10_init 49 = .ok (.new 22, 3) := by decide +kernel
theorem d_X10_init_52 : decode c_X10_init 52 = .ok (.dup, 1) := by decide +kernel
theorem d_X10_init_53 : decode c_X10_init 53 = .ok (.invokespecial 24, 3) := by decide +kernel
theorem d_X10_init_56 : decode c_X10_init 56 = .ok (.putfield 29, 3) := by decide +kernel
theorem d_X10_init_59 : decode c_X10_init 59 = .ok (.aload_n 0, 1) := by decide +kernel
theorem d_X10_init_60 : decode c_X10_init 60 = .ok (.new 32, 3) := by decide +kernel
theorem d_X10_init_63 : decode c_X10_init 63 = .ok (.dup, 1) := by decide +kernel
theorem d_X10_init_64 : decode c_X10_init 64 = .ok (.invokespecial 34, 3) := by decide +kernel
theorem d_X10_init_67 : decode c_X10_init 67 = .ok (.putfield 35, 3) := by decide +kernel
theorem d_X10_init_70 : decode c_X10_init 70 = .ok (.aload_n 0, 1) := by decide +kernel
theorem d_X10_init_71 : decode c_X10_init 71 = .ok (.new 32, 3) := by decide +kernel
theorem d_X10_init_74 : decode c_X10_init 74 = .ok (.dup, 1) := by decide +kernel
theorem d_X10_init_75 : decode c_X10_init 75 = .ok (.invokespecial 34, 3) := by decide +kernel
theorem d_X10_init_78 : decode c_X10_init 78 = .ok (.putfield 39, 3) := by decide +kernel
theorem d_X10_init_81 : decode c_X10_init 81 = .ok (.aload_n 0, 1) := by decide +kernel
theorem d_X10_init_82 : decode c_X10_init 82 = .ok (.new 42, 3) := by decide +kernel
theorem d_X10_init_85 : decode c_X10_init 85 = .ok (.dup, 1) := by decide +kernel
theorem d_X10_init_86 : decode c_X10_init 86 = .ok (.invokespecial 44, 3) := by decide +kernel
theorem d_X10_init_89 : decode c_X10_init 89 = .ok (.putfield 45, 3) := by decide +kernel
theorem d_X10_init_92 : decode c_X10_init 92 = .ok (.aload_n 0, 1) := by decide +kernel
theorem d_X10_init_93 : decode c_X10_init 93 = .ok (.new 49, 3) := by decide +kernel
theorem d_X10_init_96 : decode c_X10_init 96 = .ok (.dup, 1) := by decide +kernel
theorem d_X10_init_97 : decode c_X10_init 97 = .ok (.invokespecial 51, 3) := by decide +kernel
theorem d_X10_init_100 : decode c_X10_init 100 = .ok (.putfield 52, 3) := by decide +kernel
theorem d_X10_init_103 : decode c_X10_init 103 = .ok (.aload_n 0, 1) := by decide +kernel
theorem d_X10_init_104 : decode c_X10_init 104 = .ok (.new 56, 3) := by decide +kernel
theorem d_X10_init_107 : decode c_X10_init 107 = .ok (.dup, 1) := by decide +kernel
theorem d_X10_init_108 : decode c_X10_init 108 = .ok (.invokespecial 58, 3) := by decide +kernel
theorem d_X10_init_111 : decode c_X10_init 111 = .ok (.putfield 59, 3) := by decide +kernel
theorem d_X10_init_114 : decode c_X10_init 114 = .ok (.aload_n 0, 1) := by decide +kernel
theorem d_X10_init_115 : decode c_X10_init 115 = .ok (.iconst 0, 1) := by decide +kernel
theorem d_X10_init_116 : decode c_X10_init 116 = .ok (.putfield 63, 3) := by decide +kernel
theorem d_X10_init_119 : decode c_X10_init 119 = .ok (.aload_n 0, 1) := by decide +kernel
theorem d_X10_init_120 : decode c_X10_init 120 = .ok (.bipush 20, 2) := by decide +kernel
theorem d_X10_init_122 : decode c_X10_init 122 = .ok (.putfield 67, 3) := by decide +kernel
theorem d_X10_init_125 : decode c_X10_init 125 = .ok (.aload_n 0, 1) := by decide +kernel
theorem d_X10_init_126 : decode c_X10_init 126 = .ok (.bipush 28, 2) := by decide +kernel
theorem d_X10_init_128 : decode c_X10_init 128 = .ok (.putfield 71, 3) := by decide +kernel
theorem d_X10_init_131 : decode c_X10_init 131 = .ok (.return_, 1) := by decide +kernel
def JO (sz n c1 : Nat) (ub u : tU) : Prop := (∀ a, ordN a < 159 → u a = ub a) ∧ FN sz 160 n u ∧ (∀ j, j < c1 → u 51 j = .ref (AD sz (60 + j)))
set_option maxHeartbeats 8000000 in
set_option maxRecDepth 100000 in
theorem ci_orders (l : Launch) (D : va_G) (dA : Nat → ClassId) (sz : Nat) (u : tU) (hu : ∀ j, j < 3 → u 50 j = defaultValue (y_X4 j)) : Met l m_X4_init [.code m_X4_init c_X4_init 2 none] ({ frames := 3, cells := 37, slots := 152, locals := 100 } : Room) (cP D dA sz 159 u [.ref (AD sz 50)]) (cQ D dA sz 196 (fun u' => (∀ a, a ≠ 50 → ordN a < 159 → u' a = u a) ∧ FN sz (ordN 50) 196 u')) 37 152 (CA sz) := by
  refine cMet (by decide) (Nat.le_of_ble_eq_true rfl) rfl ?_
  intro p e s m below meth c ls X hr hlocks hmn hw hz hO hl
  have X : CX p s m ([.ref (AD sz 50)] : List Value).toArray c c_X4_init N_X4 2 D dA := X
  have hx := X.1
  have hb := X.2.1
  have hS : va_S (CA sz) s.heap s.heap [] := va_S.rf
  have hl : lv_has ls 2 [(0, .ref (AD sz 50))] := hl
  have oT : ordN 50 = 158 := rfl
  have oA : ordN 51 = 159 := rfl
  have oC : ordN 68 = 160 := rfl
  have oE1 : ∀ i, i < 8 → ordN (60 + i) = 164 + 4 * i := by
    intro i hi
    unfold ordN
    repeat (first | rw [if_pos (by omega)] | rw [if_neg (by omega)])
    omega
  have MAIN : ∀ ub : tU, (∀ a, a ≠ 50 → ordN a < 159 → ub a = u a) → (∀ j, j < 3 → ub 50 j = tw_u (AD sz) v0 50 j) → ∀ (d i : Nat), i + d = 8 → ∀ (u3 : tU) (H : Heap) (locs : List Loc) (ls : Array Slot), JO sz (164 + 4 * i) i ub u3 → tw_W CLS D dA (KDn (164 + 4 * i)) (AD sz) u3 H → H.size = sz + (164 + 4 * i) → va_S (CA sz) s.heap H locs → lv_has ls 2 [(1, .int (nI i)), (0, .ref (AD sz 50))] → W p l e ({ frames := 3, cells := 37, slots := 152, locals := 100 } : Room) s m ([.ref (AD sz 50)] : List Value).toArray below meth c H locs (5 + 4 * i) (24 + 16 * i) (MQ below (cQ D dA sz 196 (fun u' => (∀ a, a ≠ 50 → ordN a < 159 → u' a = u a) ∧ FN sz (ordN 50) 196 u')) ([.ref (AD sz 50)] : List Value).toArray s 37 152 (CA sz)) (F0 m 31 ls []) := by
    intro ub hb1 hb2 d
    induction d with
    | zero =>
      intro i hi u3 H locs ls hJ hw hz hS hl
      have ei : i = 8 := by omega
      subst ei
      refine lv_iload_n hx hb d_X4_init_31 rfl (lv_at hl 0 rfl) ?_
      refine lv_bipush (v := 8) hx hb d_X4_init_32 (by decide) ?_
      refine lv_icmp_ge (tgt := 56) hx hb d_X4_init_34 (by decide) (fun c1 => ?_) (fun c1 => absurd (by decide) c1)
      refine c_vret X hr hlocks hw hz hS ⟨?_, ?_⟩ d_X4_init_56
      · intro a ha1 ha2
        rw [hJ.1 a ha2]
        exact hb1 a ha1 ha2
      · intro a kn ha q1 q2 j hj
        have hcase : ordN a = 158 ∨ ordN a = 159 ∨ 160 ≤ ordN a := by omega
        rcases hcase with hq | hq | hq
        · have ea : a = 50 := ord_inj ha (rfl : KD 50 = _) (by omega)
          rw [ea] at ha ⊢
          have ek : kn = (4, 0) := Option.some.inj (ha.symm.trans (rfl : KD 50 = _))
          subst ek
          rw [hJ.1 50 (by omega)]
          exact hb2 j hj
        · have ea : a = 51 := ord_inj ha (rfl : KD 51 = _) (by omega)
          rw [ea] at ha ⊢
          have ek : kn = (18, 8) := Option.some.inj (ha.symm.trans (rfl : KD 51 = _))
          subst ek
          rw [hJ.2.2 j hj]
          exact (tw_u_ref (rfl : SH 51 j = some (60 + j))).symm
        · exact hJ.2.1 a kn ha hq (by omega) j hj
    | succ d ih =>
      intro i hi u3 H locs ls hJ hw hz hS hl
      have hlt : i < 8 := by omega
      have oE := oE1 i hlt
      refine lv_iload_n hx hb d_X4_init_31 rfl (lv_at hl 0 rfl) ?_
      refine lv_bipush (v := 8) hx hb d_X4_init_32 (by decide) ?_
      refine lv_icmp_ge (tgt := 56) hx hb d_X4_init_34 (by decide) (fun c1 => absurd c1 (nI_ge (b := 8) hlt (by decide))) (fun c1 => ?_)
      refine lv_aload_n hx hb d_X4_init_37 rfl (lv_at hl 1 rfl) ?_
      refine cw_get (val := .ref (AD sz 51)) X hw FL_X4_11 (rfl : KD 50 = _) (by omega) (by rw [hJ.1 50 (by omega), hb2 0 (by decide)]; exact tw_u_ref rfl) d_X4_init_38 ?_
      refine lv_iload_n hx hb d_X4_init_41 rfl (lv_at hl 0 rfl) ?_
      refine cw_new (k := 60 + i) (n := 164 + 4 * i) X hw hz hS (ci := 3) (N := 7) rfl (by decide) uw_X3 y_X3 ty_X3 kl_X4_9 in_X3 ii_X3 (KD_order (by omega) (by omega)) oE (by show _ + 1 ≤ 37; omega) (by show _ + 7 ≤ 152; omega) d_X4_init_42 (fun H hw hz hS => ?_)
      refine lv_dup hx hb d_X4_init_45 rfl ?_
      have hnw : 164 + 4 * i + 1 = ordN (60 + i) + 1 := by omega
      rw [hnw] at hw hz
      refine c_cv (c_runIN (k := 60 + i) (rest := [.ref (AD sz (60 + i)), .int (nI i), .ref (AD sz 51)]) X hw hz hO (ci_order l D dA sz _ (60 + i) (by omega) (by omega) (fun j _ => by rw [t_row_s])) ni_X4_17 gi_X4_17 rfl (by decide +kernel) ⟨rfl, rfl, Nat.le_of_ble_eq_true rfl, Nat.le_of_ble_eq_true rfl⟩ hl.1 rfl (Nat.le_of_ble_eq_true rfl) ⟨by show _ + 1 + 3 ≤ 37; omega, by show _ + 7 + 9 ≤ 152; omega⟩ d_X4_init_46) hS (fun u5 H locs hp hw hz hS => ?_)
      obtain ⟨hp1, hp2⟩ := hp
      refine cw_aast (ka := 51) (t := 18) (t0 := 6) (k := 60 + i) (i := i) X hw hz hS (rfl : KD 51 = _) (by omega) (by decide) rfl (KD_order (by omega) (by omega)) (by omega) (by decide) rfl hlt (by decide) d_X4_init_49 (fun H locs hw hz hS => ?_)
      refine lv_iinc (v := nI (i + 1)) (lv' := [(1, .int (nI (i + 1))), (0, .ref (AD sz 50))]) hx hb d_X4_init_50 hl (k := 0) rfl (by rw [← nI_1]; rfl) (by decide) rfl (fun ls hl => ?_)
      refine lv_goto (tgt := 31) hx hb d_X4_init_53 (by decide) ?_
      have hn2 : ordN (60 + i) + 4 = 164 + 4 * (i + 1) := by omega
      rw [hn2] at hw hz hp2
      have hrow : ∀ a, ordN a < 164 + 4 * i → u5 a = u3 a := by
        intro a ha
        have hne : a ≠ 60 + i := by intro z; rw [z] at ha; omega
        rw [hp1 a hne (by omega), t_row_o hne]
      have hJ2 : JO sz (164 + 4 * (i + 1)) (i + 1) ub (t_up u5 51 i (.ref (AD sz (60 + i)))) := by
        refine ⟨?_, ?_, ?_⟩
        · intro a ha
          rw [t_up_o (by intro z; rw [z] at ha; omega), hrow a (by omega)]
          exact hJ.1 a ha
        · have f1 : FN sz 160 (164 + 4 * i) u5 := hJ.2.1.keep (fun x _ h2 => hrow x h2)
          rw [oE] at hp2
          exact (f1.app hp2).keep (fun x h1 _ => t_up_o (by intro z; rw [z] at h1; omega))
        · intro j hj
          by_cases hji : j = i
          · rw [hji, t_up_s]
          · rw [t_up_j _ _ _ hji, hrow 51 (by omega)]
            exact hJ.2.2 j (by omega)
      have := ih (i + 1) (by omega) _ H locs ls hJ2 hw hz hS hl
      rw [show 5 + 4 * (i + 1) = 5 + 4 * i + 1 + 3 by omega, show 24 + 16 * (i + 1) = 24 + 16 * i + 7 + 9 by omega] at this
      exact this
  refine lv_aload_n hx hb d_X4_init_0 rfl (lv_at hl 0 rfl) ?_
  refine c_oi X hl.1 ol_X4 (Nat.le_of_ble_eq_true rfl) (Nat.le_of_ble_eq_true rfl) (Nat.le_of_ble_eq_true rfl) d_X4_init_1 ?_
  refine lv_aload_n hx hb d_X4_init_4 rfl (lv_at hl 0 rfl) ?_
  refine lv_bipush (v := 8) hx hb d_X4_init_5 (by decide) ?_
  refine cw_newq (k := 51) (t := 18) (t0 := 6) (N := 8) X hw hz hS hO.2.2.2 kl_X4_9 (by decide) rfl (by decide) (by decide) (by decide) (rfl : KD 51 = _) rfl (Nat.le_of_ble_eq_true rfl) (Nat.le_of_ble_eq_true rfl) d_X4_init_7 (fun H hw hz hS => ?_)
  obtain ⟨u1, eu1⟩ : ∃ z, z = t_row u 51 (fun _ => .null) := ⟨_, rfl⟩
  rw [← eu1] at hw
  refine cw_putF X hmn hw hz hS FQ_X4_11 (rfl : KD 50 = _) (by omega) ⟨rfl, rfl⟩ d_X4_init_10 (fun H locs hw hz hS => ?_)
  obtain ⟨u2, eu2⟩ : ∃ z, z = t_up u1 50 0 (.ref (AD sz 51)) := ⟨_, rfl⟩
  rw [← eu2] at hw
  refine lv_aload_n hx hb d_X4_init_13 rfl (lv_at hl 0 rfl) ?_
  refine cw_new (k := 68) (n := 160) X hw hz hS (ci := 3) (N := 7) rfl (by decide) uw_X3 y_X3 ty_X3 kl_X4_9 in_X3 ii_X3 (KD_order (by omega) (by omega)) oC (Nat.le_of_ble_eq_true rfl) (Nat.le_of_ble_eq_true rfl) d_X4_init_14 (fun H hw hz hS => ?_)
  refine lv_dup hx hb d_X4_init_17 rfl ?_
  refine c_cv (c_runIN (n := 161) (k := 68) (rest := [.ref (AD sz 68), .ref (AD sz 50)]) X hw hz hO (ci_order l D dA sz _ 68 (by omega) (by omega) (fun j _ => by rw [t_row_s])) ni_X4_17 gi_X4_17 rfl (by decide +kernel) ⟨rfl, rfl, Nat.le_of_ble_eq_true rfl, Nat.le_of_ble_eq_true rfl⟩ hl.1 rfl (Nat.le_of_ble_eq_true rfl) ⟨Nat.le_of_ble_eq_true rfl, Nat.le_of_ble_eq_true rfl⟩ d_X4_init_18) hS (fun u5 H locs hp hw hz hS => ?_)
  obtain ⟨hp1, hp2⟩ := hp
  have hw : tw_W CLS D dA (KDn 164) (AD sz) u5 H := hw
  have hz : H.size = sz + 164 := hz
  refine cw_putF X hmn hw hz hS FQ_X4_18 (rfl : KD 50 = _) (by omega) ⟨rfl, rfl⟩ d_X4_init_21 (fun H locs hw hz hS => ?_)
  obtain ⟨u6, eu6⟩ : ∃ z, z = t_up u5 50 1 (.ref (AD sz 68)) := ⟨_, rfl⟩
  rw [← eu6] at hw
  refine lv_aload_n hx hb d_X4_init_24 rfl (lv_at hl 0 rfl) ?_
  refine lv_iconst (v := 0) hx hb d_X4_init_25 (by decide) ?_
  refine cw_put X hw hz hS FP_X4_22 (rfl : KD 50 = _) (by omega) ⟨rfl, rfl⟩ d_X4_init_26 (fun H locs hw hz hS => ?_)
  obtain ⟨u7, eu7⟩ : ∃ z, z = t_up u6 50 2 (.int 0) := ⟨_, rfl⟩
  rw [← eu7] at hw
  refine lv_iconst (v := 0) hx hb d_X4_init_29 (by decide) ?_
  refine lv_istore_n (lv' := [(1, .int 0), (0, .ref (AD sz 50))]) hx hb d_X4_init_30 rfl hl (by decide) rfl (fun ls hl => ?_)
  have h52 : ∀ a, ordN a < 160 → u5 a = u2 a := fun a ha => by
    have hne : a ≠ 68 := by intro z; rw [z] at ha; omega
    rw [hp1 a hne (by omega), t_row_o hne]
  refine MAIN u7 ?_ ?_ 8 0 rfl u7 H locs ls ⟨fun _ _ => rfl, ?_, fun j hj => by omega⟩ hw hz hS hl
  · intro a ha1 ha2
    rw [eu7, t_up_o ha1, eu6, t_up_o ha1, h52 a (by omega), eu2, t_up_o ha1, eu1, t_row_o (by intro q; rw [q] at ha2; omega)]
  · intro j hj
    have hj2 : j = 0 ∨ j = 1 ∨ j = 2 := by omega
    rcases hj2 with rfl | rfl | rfl
    · rw [eu7, t_up_j _ _ _ (by decide), eu6, t_up_j _ _ _ (by decide), h52 50 (by omega), eu2, t_up_s]; rfl
    · rw [eu7, t_up_j _ _ _ (by decide), eu6, t_up_s]; rfl
    · rw [eu7, t_up_s]; rfl
  · have hp3 : FN sz 160 164 u5 := hp2
    exact hp3.keep (fun x h1 _ => by rw [eu7, t_up_o (by intro z; rw [z] at h1; omega), eu6, t_up_o (by intro z; rw [z] at h1; omega)])
