theorem d_X6_init_0 : decode c_X6_init 0 = .ok (.aload_n 0, 1) := by decide +kernel
theorem d_X6_init_1 : decode c_X6_init 1 = .ok (.invokespecial 3, 3) := by decide +kernel
theorem d_X6_init_4 : decode c_X6_init 4 = .ok (.aload_n 0, 1) := by decide +kernel
theorem d_X6_init_5 : decode c_X6_init 5 = .ok (.bipush 20, 2) := by decide +kernel
theorem d_X6_init_7 : decode c_X6_init 7 = .ok (.anewarray 9, 3) := by decide +kernel
theorem d_X6_init_10 : decode c_X6_init 10 = .ok (.putfield 11, 3) := by decide +kernel
theorem d_X6_init_13 : decode c_X6_init 13 = .ok (.aload_n 0, 1) := by decide +kernel
theorem d_X6_init_14 : decode c_X6_init 14 = .ok (.bipush 10, 2) := by decide +kernel
theorem d_X6_init_16 : decode c_X6_init 16 = .ok (.anewarray 17, 3) := by decide +kernel
theorem d_X6_init_19 : decode c_X6_init 19 = .ok (.putfield 19, 3) := by decide +kernel
theorem d_X6_init_22 : decode c_X6_init 22 = .ok (.aload_n 0, 1) := by decide +kernel
theorem d_X6_init_23 : decode c_X6_init 23 = .ok (.bipush 6, 2) := by decide +kernel
theorem d_X6_init_25 : decode c_X6_init 25 = .ok (.anewarray 23, 3) := by decide +kernel
theorem d_X6_init_28 : decode c_X6_init 28 = .ok (.putfield 25, 3) := by decide +kernel
theorem d_X6_init_31 : decode c_X6_init 31 = .ok (.aload_n 0, 1) := by decide +kernel
theorem d_X6_init_32 : decode c_X6_init 32 = .ok (.iconst 0, 1) := by decide +kernel
theorem d_X6_init_33 : decode c_X6_init 33 = .ok (.putfield 29, 3) := by decide +kernel
theorem d_X6_init_36 : decode c_X6_init 36 = .ok (.aload_n 0, 1) := by decide +kernel
theorem d_X6_init_37 : decode c_X6_init 37 = .ok (.iconst 0, 1) := by decide +kernel
theorem d_X6_init_38 : decode c_X6_init 38 = .ok (.putfield 33, 3) := by decide +kernel
theorem d_X6_init_41 : decode c_X6_init 41 = .ok (.aload_n 0, 1) := by decide +kernel
theorem d_X6_init_42 : decode c_X6_init 42 = .ok (.iconst 0, 1) := by decide +kernel
theorem d_X6_init_43 : decode c_X6_init 43 = .ok (.putfield 36, 3) := by decide +kernel
theorem d_X6_init_46 : decode c_X6_init 46 = .ok (.aload_n 0, 1) := by decide +kernel
theorem d_X6_init_47 : decode c_X6_init 47 = .ok (.bipush 30, 2) := by decide +kernel
theorem d_X6_init_49 : decode c_X6_init 49 = .ok (.putfield 39, 3) := by decide +kernel
theorem d_X6_init_52 : decode c_X6_init 52 = .ok (.iconst 0, 1) := by decide +kernel
theorem d_X6_init_53 : decode c_X6_init 53 = .ok (.istore_n 1, 1) := by decide +kernel
theorem d_X6_init_54 : decode c_X6_init 54 = .ok (.iload_n 1, 1) := by decide +kernel
theorem d_X6_init_55 : decode c_X6_init 55 = .ok (.bipush 20, 2) := by decide +kernel
theorem d_X6_init_57 : decode c_X6_init 57 = .ok (.if_icmp .ge 22, 3) := by decide +kernel
theorem d_X6_init_60 : decode c_X6_init 60 = .ok (.aload_n 0, 1) := by decide +kernel
theorem d_X6_init_61 : decode c_X6_init 61 = .ok (.getfield 11, 3) := by decide +kernel
theorem d_X6_init_64 : decode c_X6_init 64 = .ok (.iload_n 1, 1) := by decide +kernel
theorem d_X6_init_65 : decode c_X6_init 65 = .ok (.new 9, 3) := by decide +kernel
theorem d_X6_init_68 : decode c_X6_init 68 = .ok (.dup, 1) := by decide +kernel
theorem d_X6_init_69 : decode c_X6_init 69 = .ok (.invokespecial 42, 3) := by decide +kernel
theorem d_X6_init_72 : decode c_X6_init 72 = .ok (.aastore, 1) := by decide +kernel
theorem d_X6_init_73 : decode c_X6_init 73 = .ok (.iinc 1 1, 3) := by decide +kernel
theorem d_X6_init_76 : decode c_X6_init 76 = .ok (.goto (-22), 3) := by decide +kernel
theorem d_X6_init_79 : decode c_X6_init 79 = .ok (.iconst 0, 1) := by decide +kernel
theorem d_X6_init_80 : decode c_X6_init 80 = .ok (.istore_n 1, 1) := by decide +kernel
theorem d_X6_init_81 : decode c_X6_init 81 = .ok (.iload_n 1, 1) := by decide +kernel
theorem d_X6_init_82 : decode c_X6_init 82 = .ok (.bipush 10, 2) := by decide +kernel
theorem d_X6_init_84 : decode c_X6_init 84 = .ok (.if_icmp .ge 22, 3) := by decide +kernel
theorem d_X6_init_87 : decode c_X6_init 87 = .ok (.aload_n 0, 1) := by decide +kernel
theorem d_X6_init_88 : decode c_X6_init 88 = .ok (.getfield 19, 3) := by decide +kernel
theorem d_X6_init_91 : decode c_X6_init 91 = .ok (.iload_n 1, 1) := by decide +kernel
theorem d_X6_init_92 : decode c_X6_init 92 = .ok (.new 17, 3) := by decide +kernel
theorem d_X6_init_95 : decode c_X6_init 95 = .ok (.dup, 1) := by decide +kernel
theorem d_X6_init_96 : decode c_X6_init 96 = .ok (.invokespecial 43, 3) := by decide +kernel
theorem d_X6_init_99 : decode c_X6_init 99 = .ok (.aastore, 1) := by decide +kernel
theorem d_X6_init_100 : decode c_X6_init 100 = .ok (.iinc 1 1, 3) := by decide +kernel
theorem d_X6_init_103 : decode c_X6_init 103 = .ok (.goto (-22), 3) := by decide +kernel
theorem d_X6_init_106 : decode c_X6_init 106 = .ok (.iconst 0, 1) := by decide +kernel
theorem d_X6_init_107 : decode c_X6_init 107 = .ok (.istore_n 1, 1) := by decide +kernel
theorem d_X6_init_108 : decode c_X6_init 108 = .ok (.iload_n 1, 1) := by decide +kernel
theorem d_X6_init_109 : decode c_X6_init 109 = .ok (.bipush 6, 2) := by decide +kernel
theorem d_X6_init_111 : decode c_X6_init 111 = .ok (.if_icmp .ge 22, 3) := by decide +kernel
theorem d_X6_init_114 : decode c_X6_init 114 = .ok (.aload_n 0, 1) := by decide +kernel
theorem d_X6_init_115 : decode c_X6_init 115 = .ok (.getfield 25, 3) := by decide +kernel
theorem d_X6_init_118 : decode c_X6_init 118 = .ok (.iload_n 1, 1) := by decide +kernel
theorem d_X6_init_119 : decode c_X6_init 119 = .ok (.new 23, 3) := by decide +kernel
theorem d_X6_init_122 : decode c_X6_init 122 = .ok (.dup, 1) := by decide +kernel
theorem d_X6_init_123 : decode c_X6_init 123 = .ok (.invokespecial 44, 3) := by decide +kernel
theorem d_X6_init_126 : decode c_X6_init 126 = .ok (.aastore, 1) := by decide +kernel
theorem d_X6_init_127 : decode c_X6_init 127 = .ok (.iinc 1 1, 3) := by decide +kernel
theorem d_X6_init_130 : decode c_X6_init 130 = .ok (.goto (-22), 3) := by decide +kernel
theorem d_X6_init_133 : decode c_X6_init 133 = .ok (.return_, 1) := by decide +kernel
def JR (sz A1 A2 A3 E1 E2 E3 n0 n c1 c2 c3 : Nat) (ub u : tU) : Prop := (∀ a, ordN a < n0 → u a = ub a) ∧ FN sz (n0 + 3) n u ∧ (∀ j, j < c1 → u A1 j = .ref (AD sz (E1 + j))) ∧ (∀ j, j < c2 → u A2 j = .ref (AD sz (E2 + j))) ∧ (∀ j, j < c3 → u A3 j = .ref (AD sz (E3 + j)))
set_option maxHeartbeats 8000000 in
set_option maxRecDepth 100000 in
theorem ci_river_0 (l : Launch) (D : va_G) (dA : Nat → ClassId) (sz : Nat) (u : tU) (hu : ∀ j, j < 7 → u 1 j = defaultValue (y_X6 j)) : Met l m_X6_init [.code m_X6_init c_X6_init 2 none] ({ frames := 3, cells := 45, slots := 396, locals := 100 } : Room) (cP D dA sz 2 u [.ref (AD sz 1)]) (cQ D dA sz 47 (fun u' => (∀ a, a ≠ 1 → ordN a < 2 → u' a = u a) ∧ FN sz (ordN 1) 47 u')) 45 396 (CA sz) := by
  refine cMet (by decide) (Nat.le_of_ble_eq_true rfl) rfl ?_
  intro p e s m below meth c ls X hr hlocks hmn hw hz hO hl
  have X : CX p s m ([.ref (AD sz 1)] : List Value).toArray c c_X6_init N_X6 2 D dA := X
  have hx := X.1
  have hb := X.2.1
  have hS : va_S (CA sz) s.heap s.heap [] := va_S.rf
  have hl : lv_has ls 2 [(0, .ref (AD sz 1))] := hl
  have oT : ordN 1 = 1 := rfl
  have oA1 : ordN 10 = 2 := rfl
  have oA2 : ordN 13 = 3 := rfl
  have oA3 : ordN 16 = 4 := rfl
  have oE1 : ∀ i, i < 20 → ordN (100 + i) = 5 + 1 * i := by
    intro i hi
    unfold ordN
    repeat (first | rw [if_pos (by omega)] | rw [if_neg (by omega)])
    omega
  have oE2 : ∀ i, i < 10 → ordN (200 + i) = 25 + 1 * i := by
    intro i hi
    unfold ordN
    repeat (first | rw [if_pos (by omega)] | rw [if_neg (by omega)])
    omega
  have oE3 : ∀ i, i < 6 → ordN (300 + i) = 35 + 2 * i := by
    intro i hi
    unfold ordN
    repeat (first | rw [if_pos (by omega)] | rw [if_neg (by omega)])
    omega
  have MAIN : ∀ ub : tU, (∀ a, a ≠ 1 → ordN a < 2 → ub a = u a) → (∀ j, j < 7 → ub 1 j = tw_u (AD sz) v0 1 j) → ∀ (u3 : tU) (H : Heap) (locs : List Loc) (ls : Array Slot), JR sz 10 13 16 100 200 300 2 5 0 0 0 ub u3 → tw_W CLS D dA (KDn 5) (AD sz) u3 H → H.size = sz + 5 → va_S (CA sz) s.heap H locs → lv_has ls 2 [(0, .ref (AD sz 1))] → W p l e ({ frames := 3, cells := 45, slots := 396, locals := 100 } : Room) s m ([.ref (AD sz 1)] : List Value).toArray below meth c H locs (3) (36) (MQ below (cQ D dA sz 47 (fun u' => (∀ a, a ≠ 1 → ordN a < 2 → u' a = u a) ∧ FN sz (ordN 1) 47 u')) ([.ref (AD sz 1)] : List Value).toArray s 45 396 (CA sz)) (F0 m 52 ls []) := by
    intro ub hb1 hb2
    have LP3 : ∀ (d i : Nat), i + d = 6 → ∀ (u3 : tU) (H : Heap) (locs : List Loc) (ls : Array Slot), JR sz 10 13 16 100 200 300 2 (35 + 2 * i) 20 10 i ub u3 → tw_W CLS D dA (KDn (35 + 2 * i)) (AD sz) u3 H → H.size = sz + (35 + 2 * i) → va_S (CA sz) s.heap H locs → lv_has ls 2 [(1, .int (nI i)), (0, .ref (AD sz 1))] → W p l e ({ frames := 3, cells := 45, slots := 396, locals := 100 } : Room) s m ([.ref (AD sz 1)] : List Value).toArray below meth c H locs (33 + 2 * i) (336 + 10 * i) (MQ below (cQ D dA sz 47 (fun u' => (∀ a, a ≠ 1 → ordN a < 2 → u' a = u a) ∧ FN sz (ordN 1) 47 u')) ([.ref (AD sz 1)] : List Value).toArray s 45 396 (CA sz)) (F0 m 108 ls []) := by
      intro d
      induction d with
      | zero =>
        intro i hi u3 H locs ls hJ hw hz hS hl
        have ei : i = 6 := by omega
        subst ei
        refine lv_iload_n hx hb d_X6_init_108 rfl (lv_at hl 0 rfl) ?_
        refine lv_bipush (v := 6) hx hb d_X6_init_109 (by decide) ?_
        refine lv_icmp_ge (tgt := 133) hx hb d_X6_init_111 (by decide) (fun c1 => ?_) (fun c1 => absurd (by decide) c1)
        refine c_vret X hr hlocks hw hz hS ⟨?_, ?_⟩ d_X6_init_133
        · intro a ha1 ha2
          rw [hJ.1 a ha2]
          exact hb1 a ha1 ha2
        · intro a kn ha q1 q2 j hj
          have hcase : ordN a = 1 ∨ ordN a = 2 ∨ ordN a = 3 ∨ ordN a = 4 ∨ 5 ≤ ordN a := by omega
          rcases hcase with hq | hq | hq | hq | hq
          · have ea : a = 1 := ord_inj ha (rfl : KD 1 = _) (by omega)
            rw [ea] at ha ⊢
            have ek : kn = (6, 0) := Option.some.inj (ha.symm.trans (rfl : KD 1 = _))
            subst ek
            rw [hJ.1 1 (by omega)]
            exact hb2 j hj
          · have ea : a = 10 := ord_inj ha (rfl : KD 10 = _) (by omega)
            rw [ea] at ha ⊢
            have ek : kn = (15, 20) := Option.some.inj (ha.symm.trans (rfl : KD 10 = _))
            subst ek
            rw [hJ.2.2.1 j hj]
            exact (tw_u_ref (rfl : SH 10 j = some (100 + j))).symm
          · have ea : a = 13 := ord_inj ha (rfl : KD 13 = _) (by omega)
            rw [ea] at ha ⊢
            have ek : kn = (16, 10) := Option.some.inj (ha.symm.trans (rfl : KD 13 = _))
            subst ek
            rw [hJ.2.2.2.1 j hj]
            exact (tw_u_ref (rfl : SH 13 j = some (200 + j))).symm
          · have ea : a = 16 := ord_inj ha (rfl : KD 16 = _) (by omega)
            rw [ea] at ha ⊢
            have ek : kn = (17, 6) := Option.some.inj (ha.symm.trans (rfl : KD 16 = _))
            subst ek
            rw [hJ.2.2.2.2 j hj]
            exact (tw_u_ref (rfl : SH 16 j = some (300 + j))).symm
          · exact hJ.2.1 a kn ha hq (by omega) j hj
      | succ d ih =>
        intro i hi u3 H locs ls hJ hw hz hS hl
        have hlt : i < 6 := by omega
        have oE := oE3 i hlt
        refine lv_iload_n hx hb d_X6_init_108 rfl (lv_at hl 0 rfl) ?_
        refine lv_bipush (v := 6) hx hb d_X6_init_109 (by decide) ?_
        refine lv_icmp_ge (tgt := 133) hx hb d_X6_init_111 (by decide) (fun c1 => absurd c1 (nI_ge (b := 6) hlt (by decide))) (fun c1 => ?_)
        refine lv_aload_n hx hb d_X6_init_114 rfl (lv_at hl 1 rfl) ?_
        refine cw_get (val := .ref (AD sz 16)) X hw FL_X6_25 (rfl : KD 1 = _) (by omega) (by rw [hJ.1 1 (by omega), hb2 2 (by decide)]; exact tw_u_ref rfl) d_X6_init_115 ?_
        refine lv_iload_n hx hb d_X6_init_118 rfl (lv_at hl 0 rfl) ?_
        refine cw_new (k := 300 + i) (n := (35 + 2 * i)) X hw hz hS (ci := 9) (N := 5) rfl (by decide) uw_X9 y_X9 ty_X9 kl_X6_23 in_X9 ii_X9 (KD_ward (by omega) (by omega)) oE (by show _ + 1 ≤ 45; omega) (by show _ + 5 ≤ 396; omega) d_X6_init_119 (fun H hw hz hS => ?_)
        refine lv_dup hx hb d_X6_init_122 rfl ?_
        have hnw : (35 + 2 * i) + 1 = ordN (300 + i) + 1 := by omega
        rw [hnw] at hw hz
        refine c_cv (c_runIN (k := 300 + i) (rest := [.ref (AD sz (300 + i)), .int (nI i), .ref (AD sz 16)]) X hw hz hO (ci_ward l D dA sz _ (300 + i) (by omega) (by omega) (fun j _ => by rw [t_row_s])) ni_X6_44 gi_X6_44 rfl (by decide +kernel) ⟨rfl, rfl, Nat.le_of_ble_eq_true rfl, Nat.le_of_ble_eq_true rfl⟩ hl.1 rfl (Nat.le_of_ble_eq_true rfl) ⟨by show _ + 1 + 1 ≤ 45; omega, by show _ + 5 + 5 ≤ 396; omega⟩ d_X6_init_123) hS (fun u5 H locs hp hw hz hS => ?_)
        obtain ⟨hp1, hp2⟩ := hp
        refine cw_aast (ka := 16) (t := 17) (t0 := 5) (k := 300 + i) (i := i) X hw hz hS (rfl : KD 16 = _) (by omega) (by decide) rfl (KD_ward (by omega) (by omega)) (by omega) (by decide) rfl hlt (by decide) d_X6_init_126 (fun H locs hw hz hS => ?_)
        refine lv_iinc (v := nI (i + 1)) (lv' := [(1, .int (nI (i + 1))), (0, .ref (AD sz 1))]) hx hb d_X6_init_127 hl (k := 0) rfl (by rw [← nI_1]; rfl) (by decide) rfl (fun ls hl => ?_)
        refine lv_goto (tgt := 108) hx hb d_X6_init_130 (by decide) ?_
        have hn2 : ordN (300 + i) + 2 = (35 + 2 * (i + 1)) := by omega
        rw [hn2] at hw hz hp2
        have hrow : ∀ a, ordN a < (35 + 2 * i) → u5 a = u3 a := by
          intro a ha
          have hne : a ≠ 300 + i := by intro z; rw [z] at ha; omega
          rw [hp1 a hne (by omega), t_row_o hne]
        have hJ2 : JR sz 10 13 16 100 200 300 2 (35 + 2 * (i + 1)) 20 10 (i + 1) ub (t_up u5 16 i (.ref (AD sz (300 + i)))) := by
          refine ⟨?_, ?_, ?_, ?_, ?_⟩
          · intro a ha
            rw [t_up_o (by intro z; rw [z] at ha; omega), hrow a (by omega)]
            exact hJ.1 a ha
          · have f1 : FN sz 5 (35 + 2 * i) u5 := hJ.2.1.keep (fun x _ h2 => hrow x h2)
            rw [oE] at hp2
            exact (f1.app hp2).keep (fun x h1 _ => t_up_o (by intro z; rw [z] at h1; omega))
          · intro j hj
            rw [t_up_o (by decide), hrow 10 (by omega)]
            exact hJ.2.2.1 j hj
          · intro j hj
            rw [t_up_o (by decide), hrow 13 (by omega)]
            exact hJ.2.2.2.1 j hj
          · intro j hj
            by_cases hji : j = i
            · rw [hji, t_up_s]
            · rw [t_up_j _ _ _ hji, hrow 16 (by omega)]
              exact hJ.2.2.2.2 j (by omega)
        have := ih (i + 1) (by omega) _ H locs ls hJ2 hw hz hS hl
        rw [show 33 + 2 * (i + 1) = 33 + 2 * i + 1 + 1 by omega, show 336 + 10 * (i + 1) = 336 + 10 * i + 5 + 5 by omega] at this
        exact this
    have LP2 : ∀ (d i : Nat), i + d = 10 → ∀ (u3 : tU) (H : Heap) (locs : List Loc) (ls : Array Slot), JR sz 10 13 16 100 200 300 2 (25 + 1 * i) 20 i 0 ub u3 → tw_W CLS D dA (KDn (25 + 1 * i)) (AD sz) u3 H → H.size = sz + (25 + 1 * i) → va_S (CA sz) s.heap H locs → lv_has ls 2 [(1, .int (nI i)), (0, .ref (AD sz 1))] → W p l e ({ frames := 3, cells := 45, slots := 396, locals := 100 } : Room) s m ([.ref (AD sz 1)] : List Value).toArray below meth c H locs (23 + 1 * i) (296 + 4 * i) (MQ below (cQ D dA sz 47 (fun u' => (∀ a, a ≠ 1 → ordN a < 2 → u' a = u a) ∧ FN sz (ordN 1) 47 u')) ([.ref (AD sz 1)] : List Value).toArray s 45 396 (CA sz)) (F0 m 81 ls []) := by
      intro d
      induction d with
      | zero =>
        intro i hi u3 H locs ls hJ hw hz hS hl
        have ei : i = 10 := by omega
        subst ei
        refine lv_iload_n hx hb d_X6_init_81 rfl (lv_at hl 0 rfl) ?_
        refine lv_bipush (v := 10) hx hb d_X6_init_82 (by decide) ?_
        refine lv_icmp_ge (tgt := 106) hx hb d_X6_init_84 (by decide) (fun c1 => ?_) (fun c1 => absurd (by decide) c1)
        refine lv_iconst (v := 0) hx hb d_X6_init_106 (by decide) ?_
        refine lv_istore_n (lv' := [(1, .int 0), (0, .ref (AD sz 1))]) hx hb d_X6_init_107 rfl hl (by decide) rfl (fun ls hl => ?_)
        exact LP3 6 0 rfl u3 H locs ls hJ hw hz hS hl
      | succ d ih =>
        intro i hi u3 H locs ls hJ hw hz hS hl
        have hlt : i < 10 := by omega
        have oE := oE2 i hlt
        refine lv_iload_n hx hb d_X6_init_81 rfl (lv_at hl 0 rfl) ?_
        refine lv_bipush (v := 10) hx hb d_X6_init_82 (by decide) ?_
        refine lv_icmp_ge (tgt := 106) hx hb d_X6_init_84 (by decide) (fun c1 => absurd c1 (nI_ge (b := 10) hlt (by decide))) (fun c1 => ?_)
        refine lv_aload_n hx hb d_X6_init_87 rfl (lv_at hl 1 rfl) ?_
        refine cw_get (val := .ref (AD sz 13)) X hw FL_X6_19 (rfl : KD 1 = _) (by omega) (by rw [hJ.1 1 (by omega), hb2 1 (by decide)]; exact tw_u_ref rfl) d_X6_init_88 ?_
        refine lv_iload_n hx hb d_X6_init_91 rfl (lv_at hl 0 rfl) ?_
        refine cw_new (k := 200 + i) (n := (25 + 1 * i)) X hw hz hS (ci := 0) (N := 4) rfl (by decide) uw_X0 y_X0 ty_X0 kl_X6_17 in_X0 ii_X0 (KD_buyer (by omega) (by omega)) oE (by show _ + 1 ≤ 45; omega) (by show _ + 4 ≤ 396; omega) d_X6_init_92 (fun H hw hz hS => ?_)
        refine lv_dup hx hb d_X6_init_95 rfl ?_
        have hnw : (25 + 1 * i) + 1 = ordN (200 + i) + 1 := by omega
        rw [hnw] at hw hz
        refine c_cv (c_runIN (k := 200 + i) (rest := [.ref (AD sz (200 + i)), .int (nI i), .ref (AD sz 13)]) X hw hz hO (ci_buyer l D dA sz _ (200 + i) (by omega) (by omega) (fun j _ => by rw [t_row_s])) ni_X6_43 gi_X6_43 rfl (by decide +kernel) ⟨rfl, rfl, Nat.le_of_ble_eq_true rfl, Nat.le_of_ble_eq_true rfl⟩ hl.1 rfl (Nat.le_of_ble_eq_true rfl) ⟨by show _ + 1 + 0 ≤ 45; omega, by show _ + 4 + 0 ≤ 396; omega⟩ d_X6_init_96) hS (fun u5 H locs hp hw hz hS => ?_)
        obtain ⟨hp1, hp2⟩ := hp
        refine cw_aast (ka := 13) (t := 16) (t0 := 4) (k := 200 + i) (i := i) X hw hz hS (rfl : KD 13 = _) (by omega) (by decide) rfl (KD_buyer (by omega) (by omega)) (by omega) (by decide) rfl hlt (by decide) d_X6_init_99 (fun H locs hw hz hS => ?_)
        refine lv_iinc (v := nI (i + 1)) (lv' := [(1, .int (nI (i + 1))), (0, .ref (AD sz 1))]) hx hb d_X6_init_100 hl (k := 0) rfl (by rw [← nI_1]; rfl) (by decide) rfl (fun ls hl => ?_)
        refine lv_goto (tgt := 81) hx hb d_X6_init_103 (by decide) ?_
        have hn2 : ordN (200 + i) + 1 = (25 + 1 * (i + 1)) := by omega
        rw [hn2] at hw hz hp2
        have hrow : ∀ a, ordN a < (25 + 1 * i) → u5 a = u3 a := by
          intro a ha
          have hne : a ≠ 200 + i := by intro z; rw [z] at ha; omega
          rw [hp1 a hne (by omega), t_row_o hne]
        have hJ2 : JR sz 10 13 16 100 200 300 2 (25 + 1 * (i + 1)) 20 (i + 1) 0 ub (t_up u5 13 i (.ref (AD sz (200 + i)))) := by
          refine ⟨?_, ?_, ?_, ?_, ?_⟩
          · intro a ha
            rw [t_up_o (by intro z; rw [z] at ha; omega), hrow a (by omega)]
            exact hJ.1 a ha
          · have f1 : FN sz 5 (25 + 1 * i) u5 := hJ.2.1.keep (fun x _ h2 => hrow x h2)
            rw [oE] at hp2
            exact (f1.app hp2).keep (fun x h1 _ => t_up_o (by intro z; rw [z] at h1; omega))
          · intro j hj
            rw [t_up_o (by decide), hrow 10 (by omega)]
            exact hJ.2.2.1 j hj
          · intro j hj
            by_cases hji : j = i
            · rw [hji, t_up_s]
            · rw [t_up_j _ _ _ hji, hrow 13 (by omega)]
              exact hJ.2.2.2.1 j (by omega)
          · intro j hj
            omega
        have := ih (i + 1) (by omega) _ H locs ls hJ2 hw hz hS hl
        rw [show 23 + 1 * (i + 1) = 23 + 1 * i + 1 + 0 by omega, show 296 + 4 * (i + 1) = 296 + 4 * i + 4 + 0 by omega] at this
        exact this
    have LP1 : ∀ (d i : Nat), i + d = 20 → ∀ (u3 : tU) (H : Heap) (locs : List Loc) (ls : Array Slot), JR sz 10 13 16 100 200 300 2 (5 + 1 * i) i 0 0 ub u3 → tw_W CLS D dA (KDn (5 + 1 * i)) (AD sz) u3 H → H.size = sz + (5 + 1 * i) → va_S (CA sz) s.heap H locs → lv_has ls 2 [(1, .int (nI i)), (0, .ref (AD sz 1))] → W p l e ({ frames := 3, cells := 45, slots := 396, locals := 100 } : Room) s m ([.ref (AD sz 1)] : List Value).toArray below meth c H locs (3 + 1 * i) (36 + 13 * i) (MQ below (cQ D dA sz 47 (fun u' => (∀ a, a ≠ 1 → ordN a < 2 → u' a = u a) ∧ FN sz (ordN 1) 47 u')) ([.ref (AD sz 1)] : List Value).toArray s 45 396 (CA sz)) (F0 m 54 ls []) := by
      intro d
      induction d with
      | zero =>
        intro i hi u3 H locs ls hJ hw hz hS hl
        have ei : i = 20 := by omega
        subst ei
        refine lv_iload_n hx hb d_X6_init_54 rfl (lv_at hl 0 rfl) ?_
        refine lv_bipush (v := 20) hx hb d_X6_init_55 (by decide) ?_
        refine lv_icmp_ge (tgt := 79) hx hb d_X6_init_57 (by decide) (fun c1 => ?_) (fun c1 => absurd (by decide) c1)
        refine lv_iconst (v := 0) hx hb d_X6_init_79 (by decide) ?_
        refine lv_istore_n (lv' := [(1, .int 0), (0, .ref (AD sz 1))]) hx hb d_X6_init_80 rfl hl (by decide) rfl (fun ls hl => ?_)
        exact LP2 10 0 rfl u3 H locs ls hJ hw hz hS hl
      | succ d ih =>
        intro i hi u3 H locs ls hJ hw hz hS hl
        have hlt : i < 20 := by omega
        have oE := oE1 i hlt
        refine lv_iload_n hx hb d_X6_init_54 rfl (lv_at hl 0 rfl) ?_
        refine lv_bipush (v := 20) hx hb d_X6_init_55 (by decide) ?_
        refine lv_icmp_ge (tgt := 79) hx hb d_X6_init_57 (by decide) (fun c1 => absurd c1 (nI_ge (b := 20) hlt (by decide))) (fun c1 => ?_)
        refine lv_aload_n hx hb d_X6_init_60 rfl (lv_at hl 1 rfl) ?_
        refine cw_get (val := .ref (AD sz 10)) X hw FL_X6_11 (rfl : KD 1 = _) (by omega) (by rw [hJ.1 1 (by omega), hb2 0 (by decide)]; exact tw_u_ref rfl) d_X6_init_61 ?_
        refine lv_iload_n hx hb d_X6_init_64 rfl (lv_at hl 0 rfl) ?_
        refine cw_new (k := 100 + i) (n := (5 + 1 * i)) X hw hz hS (ci := 7) (N := 13) rfl (by decide) uw_X7 y_X7 ty_X7 kl_X6_9 in_X7 ii_X7 (KD_ship (by omega) (by omega)) oE (by show _ + 1 ≤ 45; omega) (by show _ + 13 ≤ 396; omega) d_X6_init_65 (fun H hw hz hS => ?_)
        refine lv_dup hx hb d_X6_init_68 rfl ?_
        have hnw : (5 + 1 * i) + 1 = ordN (100 + i) + 1 := by omega
        rw [hnw] at hw hz
        refine c_cv (c_runIN (k := 100 + i) (rest := [.ref (AD sz (100 + i)), .int (nI i), .ref (AD sz 10)]) X hw hz hO (ci_ship l D dA sz _ (100 + i) (by omega) (by omega) (fun j _ => by rw [t_row_s])) ni_X6_42 gi_X6_42 rfl (by decide +kernel) ⟨rfl, rfl, Nat.le_of_ble_eq_true rfl, Nat.le_of_ble_eq_true rfl⟩ hl.1 rfl (Nat.le_of_ble_eq_true rfl) ⟨by show _ + 1 + 0 ≤ 45; omega, by show _ + 13 + 0 ≤ 396; omega⟩ d_X6_init_69) hS (fun u5 H locs hp hw hz hS => ?_)
        obtain ⟨hp1, hp2⟩ := hp
        refine cw_aast (ka := 10) (t := 15) (t0 := 3) (k := 100 + i) (i := i) X hw hz hS (rfl : KD 10 = _) (by omega) (by decide) rfl (KD_ship (by omega) (by omega)) (by omega) (by decide) rfl hlt (by decide) d_X6_init_72 (fun H locs hw hz hS => ?_)
        refine lv_iinc (v := nI (i + 1)) (lv' := [(1, .int (nI (i + 1))), (0, .ref (AD sz 1))]) hx hb d_X6_init_73 hl (k := 0) rfl (by rw [← nI_1]; rfl) (by decide) rfl (fun ls hl => ?_)
        refine lv_goto (tgt := 54) hx hb d_X6_init_76 (by decide) ?_
        have hn2 : ordN (100 + i) + 1 = (5 + 1 * (i + 1)) := by omega
        rw [hn2] at hw hz hp2
        have hrow : ∀ a, ordN a < (5 + 1 * i) → u5 a = u3 a := by
          intro a ha
          have hne : a ≠ 100 + i := by intro z; rw [z] at ha; omega
          rw [hp1 a hne (by omega), t_row_o hne]
        have hJ2 : JR sz 10 13 16 100 200 300 2 (5 + 1 * (i + 1)) (i + 1) 0 0 ub (t_up u5 10 i (.ref (AD sz (100 + i)))) := by
          refine ⟨?_, ?_, ?_, ?_, ?_⟩
          · intro a ha
            rw [t_up_o (by intro z; rw [z] at ha; omega), hrow a (by omega)]
            exact hJ.1 a ha
          · have f1 : FN sz 5 (5 + 1 * i) u5 := hJ.2.1.keep (fun x _ h2 => hrow x h2)
            rw [oE] at hp2
            exact (f1.app hp2).keep (fun x h1 _ => t_up_o (by intro z; rw [z] at h1; omega))
          · intro j hj
            by_cases hji : j = i
            · rw [hji, t_up_s]
            · rw [t_up_j _ _ _ hji, hrow 10 (by omega)]
              exact hJ.2.2.1 j (by omega)
          · intro j hj
            omega
          · intro j hj
            omega
        have := ih (i + 1) (by omega) _ H locs ls hJ2 hw hz hS hl
        rw [show 3 + 1 * (i + 1) = 3 + 1 * i + 1 + 0 by omega, show 36 + 13 * (i + 1) = 36 + 13 * i + 13 + 0 by omega] at this
        exact this
    intro u3 H locs ls hJ hw hz hS hl
    refine lv_iconst (v := 0) hx hb d_X6_init_52 (by decide) ?_
    refine lv_istore_n (lv' := [(1, .int 0), (0, .ref (AD sz 1))]) hx hb d_X6_init_53 rfl hl (by decide) rfl (fun ls hl => ?_)
    exact LP1 20 0 rfl u3 H locs ls hJ hw hz hS hl
  refine lv_aload_n hx hb d_X6_init_0 rfl (lv_at hl 0 rfl) ?_
  refine c_oi X hl.1 ol_X6 (Nat.le_of_ble_eq_true rfl) (Nat.le_of_ble_eq_true rfl) (Nat.le_of_ble_eq_true rfl) d_X6_init_1 ?_
  refine lv_aload_n hx hb d_X6_init_4 rfl (lv_at hl 0 rfl) ?_
  refine lv_bipush (v := 20) hx hb d_X6_init_5 (by decide) ?_
  refine cw_newq (k := 10) (t := 15) (t0 := 3) (N := 20) X hw hz hS hO.1 kl_X6_9 (by decide) rfl (by decide) (by decide) (by decide) (rfl : KD 10 = _) rfl (Nat.le_of_ble_eq_true rfl) (Nat.le_of_ble_eq_true rfl) d_X6_init_7 (fun H hw hz hS => ?_)
  obtain ⟨u1, eu1⟩ : ∃ z, z = t_row u 10 (fun _ => .null) := ⟨_, rfl⟩
  rw [← eu1] at hw
  refine cw_putF X hmn hw hz hS FQ_X6_11 (rfl : KD 1 = _) (by omega) ⟨rfl, rfl⟩ d_X6_init_10 (fun H locs hw hz hS => ?_)
  obtain ⟨u2, eu2⟩ : ∃ z, z = t_up u1 1 0 (.ref (AD sz 10)) := ⟨_, rfl⟩
  rw [← eu2] at hw
  refine lv_aload_n hx hb d_X6_init_13 rfl (lv_at hl 0 rfl) ?_
  refine lv_bipush (v := 10) hx hb d_X6_init_14 (by decide) ?_
  refine cw_newq (k := 13) (t := 16) (t0 := 4) (N := 10) X hw hz hS hO.2.1 kl_X6_17 (by decide) rfl (by decide) (by decide) (by decide) (rfl : KD 13 = _) rfl (Nat.le_of_ble_eq_true rfl) (Nat.le_of_ble_eq_true rfl) d_X6_init_16 (fun H hw hz hS => ?_)
  obtain ⟨u3, eu3⟩ : ∃ z, z = t_row u2 13 (fun _ => .null) := ⟨_, rfl⟩
  rw [← eu3] at hw
  refine cw_putF X hmn hw hz hS FQ_X6_19 (rfl : KD 1 = _) (by omega) ⟨rfl, rfl⟩ d_X6_init_19 (fun H locs hw hz hS => ?_)
  obtain ⟨u4, eu4⟩ : ∃ z, z = t_up u3 1 1 (.ref (AD sz 13)) := ⟨_, rfl⟩
  rw [← eu4] at hw
  refine lv_aload_n hx hb d_X6_init_22 rfl (lv_at hl 0 rfl) ?_
  refine lv_bipush (v := 6) hx hb d_X6_init_23 (by decide) ?_
  refine cw_newq (k := 16) (t := 17) (t0 := 5) (N := 6) X hw hz hS hO.2.2.1 kl_X6_23 (by decide) rfl (by decide) (by decide) (by decide) (rfl : KD 16 = _) rfl (Nat.le_of_ble_eq_true rfl) (Nat.le_of_ble_eq_true rfl) d_X6_init_25 (fun H hw hz hS => ?_)
  obtain ⟨u5, eu5⟩ : ∃ z, z = t_row u4 16 (fun _ => .null) := ⟨_, rfl⟩
  rw [← eu5] at hw
  refine cw_putF X hmn hw hz hS FQ_X6_25 (rfl : KD 1 = _) (by omega) ⟨rfl, rfl⟩ d_X6_init_28 (fun H locs hw hz hS => ?_)
  obtain ⟨u6, eu6⟩ : ∃ z, z = t_up u5 1 2 (.ref (AD sz 16)) := ⟨_, rfl⟩
  rw [← eu6] at hw
  refine lv_aload_n hx hb d_X6_init_31 rfl (lv_at hl 0 rfl) ?_
  refine lv_iconst (v := 0) hx hb d_X6_init_32 (by decide) ?_
  refine cw_put X hw hz hS FP_X6_29 (rfl : KD 1 = _) (by omega) ⟨rfl, rfl⟩ d_X6_init_33 (fun H locs hw hz hS => ?_)
  obtain ⟨u7, eu7⟩ : ∃ z, z = t_up u6 1 3 (.int 0) := ⟨_, rfl⟩
  rw [← eu7] at hw
  refine lv_aload_n hx hb d_X6_init_36 rfl (lv_at hl 0 rfl) ?_
  refine lv_iconst (v := 0) hx hb d_X6_init_37 (by decide) ?_
  refine cw_put X hw hz hS FP_X6_33 (rfl : KD 1 = _) (by omega) ⟨rfl, rfl⟩ d_X6_init_38 (fun H locs hw hz hS => ?_)
  obtain ⟨u8, eu8⟩ : ∃ z, z = t_up u7 1 4 (.int 0) := ⟨_, rfl⟩
  rw [← eu8] at hw
  refine lv_aload_n hx hb d_X6_init_41 rfl (lv_at hl 0 rfl) ?_
  refine lv_iconst (v := 0) hx hb d_X6_init_42 (by decide) ?_
  refine cw_put X hw hz hS FP_X6_36 (rfl : KD 1 = _) (by omega) ⟨rfl, rfl⟩ d_X6_init_43 (fun H locs hw hz hS => ?_)
  obtain ⟨u9, eu9⟩ : ∃ z, z = t_up u8 1 5 (.int 0) := ⟨_, rfl⟩
  rw [← eu9] at hw
  refine lv_aload_n hx hb d_X6_init_46 rfl (lv_at hl 0 rfl) ?_
  refine lv_bipush (v := 30) hx hb d_X6_init_47 (by decide) ?_
  refine cw_put X hw hz hS FP_X6_39 (rfl : KD 1 = _) (by omega) ⟨rfl, rfl⟩ d_X6_init_49 (fun H locs hw hz hS => ?_)
  obtain ⟨u10, eu10⟩ : ∃ z, z = t_up u9 1 6 (.int 30) := ⟨_, rfl⟩
  rw [← eu10] at hw
  refine MAIN u10 ?_ ?_ u10 H locs ls ⟨fun _ _ => rfl, fun a kn _ h1 h2 => by omega, fun j hj => by omega, fun j hj => by omega, fun j hj => by omega⟩ hw hz hS hl
  · intro a ha1 ha2
    rw [eu10, t_up_o ha1, eu9, t_up_o ha1, eu8, t_up_o ha1, eu7, t_up_o ha1, eu6, t_up_o ha1, eu5, t_row_o (by intro q; rw [q] at ha2; omega), eu4, t_up_o ha1, eu3, t_row_o (by intro q; rw [q] at ha2; omega), eu2, t_up_o ha1, eu1, t_row_o (by intro q; rw [q] at ha2; omega)]
  · intro j hj
    have hj2 : j = 0 ∨ j = 1 ∨ j = 2 ∨ j = 3 ∨ j = 4 ∨ j = 5 ∨ j = 6 := by omega
    rcases hj2 with rfl | rfl | rfl | rfl | rfl | rfl | rfl
    · rw [eu10, t_up_j _ _ _ (by decide), eu9, t_up_j _ _ _ (by decide), eu8, t_up_j _ _ _ (by decide), eu7, t_up_j _ _ _ (by decide), eu6, t_up_j _ _ _ (by decide), eu5, t_row_o (by decide), eu4, t_up_j _ _ _ (by decide), eu3, t_row_o (by decide), eu2, t_up_s]; rfl
    · rw [eu10, t_up_j _ _ _ (by decide), eu9, t_up_j _ _ _ (by decide), eu8, t_up_j _ _ _ (by decide), eu7, t_up_j _ _ _ (by decide), eu6, t_up_j _ _ _ (by decide), eu5, t_row_o (by decide), eu4, t_up_s]; rfl
    · rw [eu10, t_up_j _ _ _ (by decide), eu9, t_up_j _ _ _ (by decide), eu8, t_up_j _ _ _ (by decide), eu7, t_up_j _ _ _ (by decide), eu6, t_up_s]; rfl
    · rw [eu10, t_up_j _ _ _ (by decide), eu9, t_up_j _ _ _ (by decide), eu8, t_up_j _ _ _ (by decide), eu7, t_up_s]; rfl
    · rw [eu10, t_up_j _ _ _ (by decide), eu9, t_up_j _ _ _ (by decide), eu8, t_up_s]; rfl
    · rw [eu10, t_up_j _ _ _ (by decide), eu9, t_up_s]; rfl
    · rw [eu10, t_up_s]; rfl
set_option maxHeartbeats 8000000 in
set_option maxRecDepth 100000 in
theorem ci_river_1 (l : Launch) (D : va_G) (dA : Nat → ClassId) (sz : Nat) (u : tU) (hu : ∀ j, j < 7 → u 2 j = defaultValue (y_X6 j)) : Met l m_X6_init [.code m_X6_init c_X6_init 2 none] ({ frames := 3, cells := 45, slots := 396, locals := 100 } : Room) (cP D dA sz 48 u [.ref (AD sz 2)]) (cQ D dA sz 93 (fun u' => (∀ a, a ≠ 2 → ordN a < 48 → u' a = u a) ∧ FN sz (ordN 2) 93 u')) 45 396 (CA sz) := by
  refine cMet (by decide) (Nat.le_of_ble_eq_true rfl) rfl ?_
  intro p e s m below meth c ls X hr hlocks hmn hw hz hO hl
  have X : CX p s m ([.ref (AD sz 2)] : List Value).toArray c c_X6_init N_X6 2 D dA := X
  have hx := X.1
  have hb := X.2.1
  have hS : va_S (CA sz) s.heap s.heap [] := va_S.rf
  have hl : lv_has ls 2 [(0, .ref (AD sz 2))] := hl
  have oT : ordN 2 = 47 := rfl
  have oA1 : ordN 11 = 48 := rfl
  have oA2 : ordN 14 = 49 := rfl
  have oA3 : ordN 17 = 50 := rfl
  have oE1 : ∀ i, i < 20 → ordN (120 + i) = 51 + 1 * i := by
    intro i hi
    unfold ordN
    repeat (first | rw [if_pos (by omega)] | rw [if_neg (by omega)])
    omega
  have oE2 : ∀ i, i < 10 → ordN (210 + i) = 71 + 1 * i := by
    intro i hi
    unfold ordN
    repeat (first | rw [if_pos (by omega)] | rw [if_neg (by omega)])
    omega
  have oE3 : ∀ i, i < 6 → ordN (306 + i) = 81 + 2 * i := by
    intro i hi
    unfold ordN
    repeat (first | rw [if_pos (by omega)] | rw [if_neg (by omega)])
    omega
  have MAIN : ∀ ub : tU, (∀ a, a ≠ 2 → ordN a < 48 → ub a = u a) → (∀ j, j < 7 → ub 2 j = tw_u (AD sz) v0 2 j) → ∀ (u3 : tU) (H : Heap) (locs : List Loc) (ls : Array Slot), JR sz 11 14 17 120 210 306 48 51 0 0 0 ub u3 → tw_W CLS D dA (KDn 51) (AD sz) u3 H → H.size = sz + 51 → va_S (CA sz) s.heap H locs → lv_has ls 2 [(0, .ref (AD sz 2))] → W p l e ({ frames := 3, cells := 45, slots := 396, locals := 100 } : Room) s m ([.ref (AD sz 2)] : List Value).toArray below meth c H locs (3) (36) (MQ below (cQ D dA sz 93 (fun u' => (∀ a, a ≠ 2 → ordN a < 48 → u' a = u a) ∧ FN sz (ordN 2) 93 u')) ([.ref (AD sz 2)] : List Value).toArray s 45 396 (CA sz)) (F0 m 52 ls []) := by
    intro ub hb1 hb2
    have LP3 : ∀ (d i : Nat), i + d = 6 → ∀ (u3 : tU) (H : Heap) (locs : List Loc) (ls : Array Slot), JR sz 11 14 17 120 210 306 48 (81 + 2 * i) 20 10 i ub u3 → tw_W CLS D dA (KDn (81 + 2 * i)) (AD sz) u3 H → H.size = sz + (81 + 2 * i) → va_S (CA sz) s.heap H locs → lv_has ls 2 [(1, .int (nI i)), (0, .ref (AD sz 2))] → W p l e ({ frames := 3, cells := 45, slots := 396, locals := 100 } : Room) s m ([.ref (AD sz 2)] : List Value).toArray below meth c H locs (33 + 2 * i) (336 + 10 * i) (MQ below (cQ D dA sz 93 (fun u' => (∀ a, a ≠ 2 → ordN a < 48 → u' a = u a) ∧ FN sz (ordN 2) 93 u')) ([.ref (AD sz 2)] : List Value).toArray s 45 396 (CA sz)) (F0 m 108 ls []) := by
      intro d
      induction d with
      | zero =>
        intro i hi u3 H locs ls hJ hw hz hS hl
        have ei : i = 6 := by omega
        subst ei
        refine lv_iload_n hx hb d_X6_init_108 rfl (lv_at hl 0 rfl) ?_
        refine lv_bipush (v := 6) hx hb d_X6_init_109 (by decide) ?_
        refine lv_icmp_ge (tgt := 133) hx hb d_X6_init_111 (by decide) (fun c1 => ?_) (fun c1 => absurd (by decide) c1)
        refine c_vret X hr hlocks hw hz hS ⟨?_, ?_⟩ d_X6_init_133
        · intro a ha1 ha2
          rw [hJ.1 a ha2]
          exact hb1 a ha1 ha2
        · intro a kn ha q1 q2 j hj
          have hcase : ordN a = 47 ∨ ordN a = 48 ∨ ordN a = 49 ∨ ordN a = 50 ∨ 51 ≤ ordN a := by omega
          rcases hcase with hq | hq | hq | hq | hq
          · have ea : a = 2 := ord_inj ha (rfl : KD 2 = _) (by omega)
            rw [ea] at ha ⊢
            have ek : kn = (6, 0) := Option.some.inj (ha.symm.trans (rfl : KD 2 = _))
            subst ek
            rw [hJ.1 2 (by omega)]
            exact hb2 j hj
          · have ea : a = 11 := ord_inj ha (rfl : KD 11 = _) (by omega)
            rw [ea] at ha ⊢
            have ek : kn = (15, 20) := Option.some.inj (ha.symm.trans (rfl : KD 11 = _))
            subst ek
            rw [hJ.2.2.1 j hj]
            exact (tw_u_ref (rfl : SH 11 j = some (120 + j))).symm
          · have ea : a = 14 := ord_inj ha (rfl : KD 14 = _) (by omega)
            rw [ea] at ha ⊢
            have ek : kn = (16, 10) := Option.some.inj (ha.symm.trans (rfl : KD 14 = _))
            subst ek
            rw [hJ.2.2.2.1 j hj]
            exact (tw_u_ref (rfl : SH 14 j = some (210 + j))).symm
          · have ea : a = 17 := ord_inj ha (rfl : KD 17 = _) (by omega)
            rw [ea] at ha ⊢
            have ek : kn = (17, 6) := Option.some.inj (ha.symm.trans (rfl : KD 17 = _))
            subst ek
            rw [hJ.2.2.2.2 j hj]
            exact (tw_u_ref (rfl : SH 17 j = some (306 + j))).symm
          · exact hJ.2.1 a kn ha hq (by omega) j hj
      | succ d ih =>
        intro i hi u3 H locs ls hJ hw hz hS hl
        have hlt : i < 6 := by omega
        have oE := oE3 i hlt
        refine lv_iload_n hx hb d_X6_init_108 rfl (lv_at hl 0 rfl) ?_
        refine lv_bipush (v := 6) hx hb d_X6_init_109 (by decide) ?_
        refine lv_icmp_ge (tgt := 133) hx hb d_X6_init_111 (by decide) (fun c1 => absurd c1 (nI_ge (b := 6) hlt (by decide))) (fun c1 => ?_)
        refine lv_aload_n hx hb d_X6_init_114 rfl (lv_at hl 1 rfl) ?_
        refine cw_get (val := .ref (AD sz 17)) X hw FL_X6_25 (rfl : KD 2 = _) (by omega) (by rw [hJ.1 2 (by omega), hb2 2 (by decide)]; exact tw_u_ref rfl) d_X6_init_115 ?_
        refine lv_iload_n hx hb d_X6_init_118 rfl (lv_at hl 0 rfl) ?_
        refine cw_new (k := 306 + i) (n := (81 + 2 * i)) X hw hz hS (ci := 9) (N := 5) rfl (by decide) uw_X9 y_X9 ty_X9 kl_X6_23 in_X9 ii_X9 (KD_ward (by omega) (by omega)) oE (by show _ + 1 ≤ 45; omega) (by show _ + 5 ≤ 396; omega) d_X6_init_119 (fun H hw hz hS => ?_)
        refine lv_dup hx hb d_X6_init_122 rfl ?_
        have hnw : (81 + 2 * i) + 1 = ordN (306 + i) + 1 := by omega
        rw [hnw] at hw hz
        refine c_cv (c_runIN (k := 306 + i) (rest := [.ref (AD sz (306 + i)), .int (nI i), .ref (AD sz 17)]) X hw hz hO (ci_ward l D dA sz _ (306 + i) (by omega) (by omega) (fun j _ => by rw [t_row_s])) ni_X6_44 gi_X6_44 rfl (by decide +kernel) ⟨rfl, rfl, Nat.le_of_ble_eq_true rfl, Nat.le_of_ble_eq_true rfl⟩ hl.1 rfl (Nat.le_of_ble_eq_true rfl) ⟨by show _ + 1 + 1 ≤ 45; omega, by show _ + 5 + 5 ≤ 396; omega⟩ d_X6_init_123) hS (fun u5 H locs hp hw hz hS => ?_)
        obtain ⟨hp1, hp2⟩ := hp
        refine cw_aast (ka := 17) (t := 17) (t0 := 5) (k := 306 + i) (i := i) X hw hz hS (rfl : KD 17 = _) (by omega) (by decide) rfl (KD_ward (by omega) (by omega)) (by omega) (by decide) rfl hlt (by decide) d_X6_init_126 (fun H locs hw hz hS => ?_)
        refine lv_iinc (v := nI (i + 1)) (lv' := [(1, .int (nI (i + 1))), (0, .ref (AD sz 2))]) hx hb d_X6_init_127 hl (k := 0) rfl (by rw [← nI_1]; rfl) (by decide) rfl (fun ls hl => ?_)
        refine lv_goto (tgt := 108) hx hb d_X6_init_130 (by decide) ?_
        have hn2 : ordN (306 + i) + 2 = (81 + 2 * (i + 1)) := by omega
        rw [hn2] at hw hz hp2
        have hrow : ∀ a, ordN a < (81 + 2 * i) → u5 a = u3 a := by
          intro a ha
          have hne : a ≠ 306 + i := by intro z; rw [z] at ha; omega
          rw [hp1 a hne (by omega), t_row_o hne]
        have hJ2 : JR sz 11 14 17 120 210 306 48 (81 + 2 * (i + 1)) 20 10 (i + 1) ub (t_up u5 17 i (.ref (AD sz (306 + i)))) := by
          refine ⟨?_, ?_, ?_, ?_, ?_⟩
          · intro a ha
            rw [t_up_o (by intro z; rw [z] at ha; omega), hrow a (by omega)]
            exact hJ.1 a ha
          · have f1 : FN sz 51 (81 + 2 * i) u5 := hJ.2.1.keep (fun x _ h2 => hrow x h2)
            rw [oE] at hp2
            exact (f1.app hp2).keep (fun x h1 _ => t_up_o (by intro z; rw [z] at h1; omega))
          · intro j hj
            rw [t_up_o (by decide), hrow 11 (by omega)]
            exact hJ.2.2.1 j hj
          · intro j hj
            rw [t_up_o (by decide), hrow 14 (by omega)]
            exact hJ.2.2.2.1 j hj
          · intro j hj
            by_cases hji : j = i
            · rw [hji, t_up_s]
            · rw [t_up_j _ _ _ hji, hrow 17 (by omega)]
              exact hJ.2.2.2.2 j (by omega)
        have := ih (i + 1) (by omega) _ H locs ls hJ2 hw hz hS hl
        rw [show 33 + 2 * (i + 1) = 33 + 2 * i + 1 + 1 by omega, show 336 + 10 * (i + 1) = 336 + 10 * i + 5 + 5 by omega] at this
        exact this
    have LP2 : ∀ (d i : Nat), i + d = 10 → ∀ (u3 : tU) (H : Heap) (locs : List Loc) (ls : Array Slot), JR sz 11 14 17 120 210 306 48 (71 + 1 * i) 20 i 0 ub u3 → tw_W CLS D dA (KDn (71 + 1 * i)) (AD sz) u3 H → H.size = sz + (71 + 1 * i) → va_S (CA sz) s.heap H locs → lv_has ls 2 [(1, .int (nI i)), (0, .ref (AD sz 2))] → W p l e ({ frames := 3, cells := 45, slots := 396, locals := 100 } : Room) s m ([.ref (AD sz 2)] : List Value).toArray below meth c H locs (23 + 1 * i) (296 + 4 * i) (MQ below (cQ D dA sz 93 (fun u' => (∀ a, a ≠ 2 → ordN a < 48 → u' a = u a) ∧ FN sz (ordN 2) 93 u')) ([.ref (AD sz 2)] : List Value).toArray s 45 396 (CA sz)) (F0 m 81 ls []) := by
      intro d
      induction d with
      | zero =>
        intro i hi u3 H locs ls hJ hw hz hS hl
        have ei : i = 10 := by omega
        subst ei
        refine lv_iload_n hx hb d_X6_init_81 rfl (lv_at hl 0 rfl) ?_
        refine lv_bipush (v := 10) hx hb d_X6_init_82 (by decide) ?_
        refine lv_icmp_ge (tgt := 106) hx hb d_X6_init_84 (by decide) (fun c1 => ?_) (fun c1 => absurd (by decide) c1)
        refine lv_iconst (v := 0) hx hb d_X6_init_106 (by decide) ?_
        refine lv_istore_n (lv' := [(1, .int 0), (0, .ref (AD sz 2))]) hx hb d_X6_init_107 rfl hl (by decide) rfl (fun ls hl => ?_)
        exact LP3 6 0 rfl u3 H locs ls hJ hw hz hS hl
      | succ d ih =>
        intro i hi u3 H locs ls hJ hw hz hS hl
        have hlt : i < 10 := by omega
        have oE := oE2 i hlt
        refine lv_iload_n hx hb d_X6_init_81 rfl (lv_at hl 0 rfl) ?_
        refine lv_bipush (v := 10) hx hb d_X6_init_82 (by decide) ?_
        refine lv_icmp_ge (tgt := 106) hx hb d_X6_init_84 (by decide) (fun c1 => absurd c1 (nI_ge (b := 10) hlt (by decide))) (fun c1 => ?_)
        refine lv_aload_n hx hb d_X6_init_87 rfl (lv_at hl 1 rfl) ?_
        refine cw_get (val := .ref (AD sz 14)) X hw FL_X6_19 (rfl : KD 2 = _) (by omega) (by rw [hJ.1 2 (by omega), hb2 1 (by decide)]; exact tw_u_ref rfl) d_X6_init_88 ?_
        refine lv_iload_n hx hb d_X6_init_91 rfl (lv_at hl 0 rfl) ?_
        refine cw_new (k := 210 + i) (n := (71 + 1 * i)) X hw hz hS (ci := 0) (N := 4) rfl (by decide) uw_X0 y_X0 ty_X0 kl_X6_17 in_X0 ii_X0 (KD_buyer (by omega) (by omega)) oE (by show _ + 1 ≤ 45; omega) (by show _ + 4 ≤ 396; omega) d_X6_init_92 (fun H hw hz hS => ?_)
        refine lv_dup hx hb d_X6_init_95 rfl ?_
        have hnw : (71 + 1 * i) + 1 = ordN (210 + i) + 1 := by omega
        rw [hnw] at hw hz
        refine c_cv (c_runIN (k := 210 + i) (rest := [.ref (AD sz (210 + i)), .int (nI i), .ref (AD sz 14)]) X hw hz hO (ci_buyer l D dA sz _ (210 + i) (by omega) (by omega) (fun j _ => by rw [t_row_s])) ni_X6_43 gi_X6_43 rfl (by decide +kernel) ⟨rfl, rfl, Nat.le_of_ble_eq_true rfl, Nat.le_of_ble_eq_true rfl⟩ hl.1 rfl (Nat.le_of_ble_eq_true rfl) ⟨by show _ + 1 + 0 ≤ 45; omega, by show _ + 4 + 0 ≤ 396; omega⟩ d_X6_init_96) hS (fun u5 H locs hp hw hz hS => ?_)
        obtain ⟨hp1, hp2⟩ := hp
        refine cw_aast (ka := 14) (t := 16) (t0 := 4) (k := 210 + i) (i := i) X hw hz hS (rfl : KD 14 = _) (by omega) (by decide) rfl (KD_buyer (by omega) (by omega)) (by omega) (by decide) rfl hlt (by decide) d_X6_init_99 (fun H locs hw hz hS => ?_)
        refine lv_iinc (v := nI (i + 1)) (lv' := [(1, .int (nI (i + 1))), (0, .ref (AD sz 2))]) hx hb d_X6_init_100 hl (k := 0) rfl (by rw [← nI_1]; rfl) (by decide) rfl (fun ls hl => ?_)
        refine lv_goto (tgt := 81) hx hb d_X6_init_103 (by decide) ?_
        have hn2 : ordN (210 + i) + 1 = (71 + 1 * (i + 1)) := by omega
        rw [hn2] at hw hz hp2
        have hrow : ∀ a, ordN a < (71 + 1 * i) → u5 a = u3 a := by
          intro a ha
          have hne : a ≠ 210 + i := by intro z; rw [z] at ha; omega
          rw [hp1 a hne (by omega), t_row_o hne]
        have hJ2 : JR sz 11 14 17 120 210 306 48 (71 + 1 * (i + 1)) 20 (i + 1) 0 ub (t_up u5 14 i (.ref (AD sz (210 + i)))) := by
          refine ⟨?_, ?_, ?_, ?_, ?_⟩
          · intro a ha
            rw [t_up_o (by intro z; rw [z] at ha; omega), hrow a (by omega)]
            exact hJ.1 a ha
          · have f1 : FN sz 51 (71 + 1 * i) u5 := hJ.2.1.keep (fun x _ h2 => hrow x h2)
            rw [oE] at hp2
            exact (f1.app hp2).keep (fun x h1 _ => t_up_o (by intro z; rw [z] at h1; omega))
          · intro j hj
            rw [t_up_o (by decide), hrow 11 (by omega)]
            exact hJ.2.2.1 j hj
          · intro j hj
            by_cases hji : j = i
            · rw [hji, t_up_s]
            · rw [t_up_j _ _ _ hji, hrow 14 (by omega)]
              exact hJ.2.2.2.1 j (by omega)
          · intro j hj
            omega
        have := ih (i + 1) (by omega) _ H locs ls hJ2 hw hz hS hl
        rw [show 23 + 1 * (i + 1) = 23 + 1 * i + 1 + 0 by omega, show 296 + 4 * (i + 1) = 296 + 4 * i + 4 + 0 by omega] at this
        exact this
    have LP1 : ∀ (d i : Nat), i + d = 20 → ∀ (u3 : tU) (H : Heap) (locs : List Loc) (ls : Array Slot), JR sz 11 14 17 120 210 306 48 (51 + 1 * i) i 0 0 ub u3 → tw_W CLS D dA (KDn (51 + 1 * i)) (AD sz) u3 H → H.size = sz + (51 + 1 * i) → va_S (CA sz) s.heap H locs → lv_has ls 2 [(1, .int (nI i)), (0, .ref (AD sz 2))] → W p l e ({ frames := 3, cells := 45, slots := 396, locals := 100 } : Room) s m ([.ref (AD sz 2)] : List Value).toArray below meth c H locs (3 + 1 * i) (36 + 13 * i) (MQ below (cQ D dA sz 93 (fun u' => (∀ a, a ≠ 2 → ordN a < 48 → u' a = u a) ∧ FN sz (ordN 2) 93 u')) ([.ref (AD sz 2)] : List Value).toArray s 45 396 (CA sz)) (F0 m 54 ls []) := by
      intro d
      induction d with
      | zero =>
        intro i hi u3 H locs ls hJ hw hz hS hl
        have ei : i = 20 := by omega
        subst ei
        refine lv_iload_n hx hb d_X6_init_54 rfl (lv_at hl 0 rfl) ?_
        refine lv_bipush (v := 20) hx hb d_X6_init_55 (by decide) ?_
        refine lv_icmp_ge (tgt := 79) hx hb d_X6_init_57 (by decide) (fun c1 => ?_) (fun c1 => absurd (by decide) c1)
        refine lv_iconst (v := 0) hx hb d_X6_init_79 (by decide) ?_
        refine lv_istore_n (lv' := [(1, .int 0), (0, .ref (AD sz 2))]) hx hb d_X6_init_80 rfl hl (by decide) rfl (fun ls hl => ?_)
        exact LP2 10 0 rfl u3 H locs ls hJ hw hz hS hl
      | succ d ih =>
        intro i hi u3 H locs ls hJ hw hz hS hl
        have hlt : i < 20 := by omega
        have oE := oE1 i hlt
        refine lv_iload_n hx hb d_X6_init_54 rfl (lv_at hl 0 rfl) ?_
        refine lv_bipush (v := 20) hx hb d_X6_init_55 (by decide) ?_
        refine lv_icmp_ge (tgt := 79) hx hb d_X6_init_57 (by decide) (fun c1 => absurd c1 (nI_ge (b := 20) hlt (by decide))) (fun c1 => ?_)
        refine lv_aload_n hx hb d_X6_init_60 rfl (lv_at hl 1 rfl) ?_
        refine cw_get (val := .ref (AD sz 11)) X hw FL_X6_11 (rfl : KD 2 = _) (by omega) (by rw [hJ.1 2 (by omega), hb2 0 (by decide)]; exact tw_u_ref rfl) d_X6_init_61 ?_
        refine lv_iload_n hx hb d_X6_init_64 rfl (lv_at hl 0 rfl) ?_
        refine cw_new (k := 120 + i) (n := (51 + 1 * i)) X hw hz hS (ci := 7) (N := 13) rfl (by decide) uw_X7 y_X7 ty_X7 kl_X6_9 in_X7 ii_X7 (KD_ship (by omega) (by omega)) oE (by show _ + 1 ≤ 45; omega) (by show _ + 13 ≤ 396; omega) d_X6_init_65 (fun H hw hz hS => ?_)
        refine lv_dup hx hb d_X6_init_68 rfl ?_
        have hnw : (51 + 1 * i) + 1 = ordN (120 + i) + 1 := by omega
        rw [hnw] at hw hz
        refine c_cv (c_runIN (k := 120 + i) (rest := [.ref (AD sz (120 + i)), .int (nI i), .ref (AD sz 11)]) X hw hz hO (ci_ship l D dA sz _ (120 + i) (by omega) (by omega) (fun j _ => by rw [t_row_s])) ni_X6_42 gi_X6_42 rfl (by decide +kernel) ⟨rfl, rfl, Nat.le_of_ble_eq_true rfl, Nat.le_of_ble_eq_true rfl⟩ hl.1 rfl (Nat.le_of_ble_eq_true rfl) ⟨by show _ + 1 + 0 ≤ 45; omega, by show _ + 13 + 0 ≤ 396; omega⟩ d_X6_init_69) hS (fun u5 H locs hp hw hz hS => ?_)
        obtain ⟨hp1, hp2⟩ := hp
        refine cw_aast (ka := 11) (t := 15) (t0 := 3) (k := 120 + i) (i := i) X hw hz hS (rfl : KD 11 = _) (by omega) (by decide) rfl (KD_ship (by omega) (by omega)) (by omega) (by decide) rfl hlt (by decide) d_X6_init_72 (fun H locs hw hz hS => ?_)
        refine lv_iinc (v := nI (i + 1)) (lv' := [(1, .int (nI (i + 1))), (0, .ref (AD sz 2))]) hx hb d_X6_init_73 hl (k := 0) rfl (by rw [← nI_1]; rfl) (by decide) rfl (fun ls hl => ?_)
        refine lv_goto (tgt := 54) hx hb d_X6_init_76 (by decide) ?_
        have hn2 : ordN (120 + i) + 1 = (51 + 1 * (i + 1)) := by omega
        rw [hn2] at hw hz hp2
        have hrow : ∀ a, ordN a < (51 + 1 * i) → u5 a = u3 a := by
          intro a ha
          have hne : a ≠ 120 + i := by intro z; rw [z] at ha; omega
          rw [hp1 a hne (by omega), t_row_o hne]
        have hJ2 : JR sz 11 14 17 120 210 306 48 (51 + 1 * (i + 1)) (i + 1) 0 0 ub (t_up u5 11 i (.ref (AD sz (120 + i)))) := by
          refine ⟨?_, ?_, ?_, ?_, ?_⟩
          · intro a ha
            rw [t_up_o (by intro z; rw [z] at ha; omega), hrow a (by omega)]
            exact hJ.1 a ha
          · have f1 : FN sz 51 (51 + 1 * i) u5 := hJ.2.1.keep (fun x _ h2 => hrow x h2)
            rw [oE] at hp2
            exact (f1.app hp2).keep (fun x h1 _ => t_up_o (by intro z; rw [z] at h1; omega))
          · intro j hj
            by_cases hji : j = i
            · rw [hji, t_up_s]
            · rw [t_up_j _ _ _ hji, hrow 11 (by omega)]
              exact hJ.2.2.1 j (by omega)
          · intro j hj
            omega
          · intro j hj
            omega
        have := ih (i + 1) (by omega) _ H locs ls hJ2 hw hz hS hl
        rw [show 3 + 1 * (i + 1) = 3 + 1 * i + 1 + 0 by omega, show 36 + 13 * (i + 1) = 36 + 13 * i + 13 + 0 by omega] at this
        exact this
    intro u3 H locs ls hJ hw hz hS hl
    refine lv_iconst (v := 0) hx hb d_X6_init_52 (by decide) ?_
    refine lv_istore_n (lv' := [(1, .int 0), (0, .ref (AD sz 2))]) hx hb d_X6_init_53 rfl hl (by decide) rfl (fun ls hl => ?_)
    exact LP1 20 0 rfl u3 H locs ls hJ hw hz hS hl
  refine lv_aload_n hx hb d_X6_init_0 rfl (lv_at hl 0 rfl) ?_
  refine c_oi X hl.1 ol_X6 (Nat.le_of_ble_eq_true rfl) (Nat.le_of_ble_eq_true rfl) (Nat.le_of_ble_eq_true rfl) d_X6_init_1 ?_
  refine lv_aload_n hx hb d_X6_init_4 rfl (lv_at hl 0 rfl) ?_
  refine lv_bipush (v := 20) hx hb d_X6_init_5 (by decide) ?_
  refine cw_newq (k := 11) (t := 15) (t0 := 3) (N := 20) X hw hz hS hO.1 kl_X6_9 (by decide) rfl (by decide) (by decide) (by decide) (rfl : KD 11 = _) rfl (Nat.le_of_ble_eq_true rfl) (Nat.le_of_ble_eq_true rfl) d_X6_init_7 (fun H hw hz hS => ?_)
  obtain ⟨u1, eu1⟩ : ∃ z, z = t_row u 11 (fun _ => .null) := ⟨_, rfl⟩
  rw [← eu1] at hw
  refine cw_putF X hmn hw hz hS FQ_X6_11 (rfl : KD 2 = _) (by omega) ⟨rfl, rfl⟩ d_X6_init_10 (fun H locs hw hz hS => ?_)
  obtain ⟨u2, eu2⟩ : ∃ z, z = t_up u1 2 0 (.ref (AD sz 11)) := ⟨_, rfl⟩
  rw [← eu2] at hw
  refine lv_aload_n hx hb d_X6_init_13 rfl (lv_at hl 0 rfl) ?_
  refine lv_bipush (v := 10) hx hb d_X6_init_14 (by decide) ?_
  refine cw_newq (k := 14) (t := 16) (t0 := 4) (N := 10) X hw hz hS hO.2.1 kl_X6_17 (by decide) rfl (by decide) (by decide) (by decide) (rfl : KD 14 = _) rfl (Nat.le_of_ble_eq_true rfl) (Nat.le_of_ble_eq_true rfl) d_X6_init_16 (fun H hw hz hS => ?_)
  obtain ⟨u3, eu3⟩ : ∃ z, z = t_row u2 14 (fun _ => .null) := ⟨_, rfl⟩
  rw [← eu3] at hw
  refine cw_putF X hmn hw hz hS FQ_X6_19 (rfl : KD 2 = _) (by omega) ⟨rfl, rfl⟩ d_X6_init_19 (fun H locs hw hz hS => ?_)
  obtain ⟨u4, eu4⟩ : ∃ z, z = t_up u3 2 1 (.ref (AD sz 14)) := ⟨_, rfl⟩
  rw [← eu4] at hw
  refine lv_aload_n hx hb d_X6_init_22 rfl (lv_at hl 0 rfl) ?_
  refine lv_bipush (v := 6) hx hb d_X6_init_23 (by decide) ?_
  refine cw_newq (k := 17) (t := 17) (t0 := 5) (N := 6) X hw hz hS hO.2.2.1 kl_X6_23 (by decide) rfl (by decide) (by decide) (by decide) (rfl : KD 17 = _) rfl (Nat.le_of_ble_eq_true rfl) (Nat.le_of_ble_eq_true rfl) d_X6_init_25 (fun H hw hz hS => ?_)
  obtain ⟨u5, eu5⟩ : ∃ z, z = t_row u4 17 (fun _ => .null) := ⟨_, rfl⟩
  rw [← eu5] at hw
  refine cw_putF X hmn hw hz hS FQ_X6_25 (rfl : KD 2 = _) (by omega) ⟨rfl, rfl⟩ d_X6_init_28 (fun H locs hw hz hS => ?_)
  obtain ⟨u6, eu6⟩ : ∃ z, z = t_up u5 2 2 (.ref (AD sz 17)) := ⟨_, rfl⟩
  rw [← eu6] at hw
  refine lv_aload_n hx hb d_X6_init_31 rfl (lv_at hl 0 rfl) ?_
  refine lv_iconst (v := 0) hx hb d_X6_init_32 (by decide) ?_
  refine cw_put X hw hz hS FP_X6_29 (rfl : KD 2 = _) (by omega) ⟨rfl, rfl⟩ d_X6_init_33 (fun H locs hw hz hS => ?_)
  obtain ⟨u7, eu7⟩ : ∃ z, z = t_up u6 2 3 (.int 0) := ⟨_, rfl⟩
  rw [← eu7] at hw
  refine lv_aload_n hx hb d_X6_init_36 rfl (lv_at hl 0 rfl) ?_
  refine lv_iconst (v := 0) hx hb d_X6_init_37 (by decide) ?_
  refine cw_put X hw hz hS FP_X6_33 (rfl : KD 2 = _) (by omega) ⟨rfl, rfl⟩ d_X6_init_38 (fun H locs hw hz hS => ?_)
  obtain ⟨u8, eu8⟩ : ∃ z, z = t_up u7 2 4 (.int 0) := ⟨_, rfl⟩
  rw [← eu8] at hw
  refine lv_aload_n hx hb d_X6_init_41 rfl (lv_at hl 0 rfl) ?_
  refine lv_iconst (v := 0) hx hb d_X6_init_42 (by decide) ?_
  refine cw_put X hw hz hS FP_X6_36 (rfl : KD 2 = _) (by omega) ⟨rfl, rfl⟩ d_X6_init_43 (fun H locs hw hz hS => ?_)
  obtain ⟨u9, eu9⟩ : ∃ z, z = t_up u8 2 5 (.int 0) := ⟨_, rfl⟩
  rw [← eu9] at hw
  refine lv_aload_n hx hb d_X6_init_46 rfl (lv_at hl 0 rfl) ?_
  refine lv_bipush (v := 30) hx hb d_X6_init_47 (by decide) ?_
  refine cw_put X hw hz hS FP_X6_39 (rfl : KD 2 = _) (by omega) ⟨rfl, rfl⟩ d_X6_init_49 (fun H locs hw hz hS => ?_)
  obtain ⟨u10, eu10⟩ : ∃ z, z = t_up u9 2 6 (.int 30) := ⟨_, rfl⟩
  rw [← eu10] at hw
  refine MAIN u10 ?_ ?_ u10 H locs ls ⟨fun _ _ => rfl, fun a kn _ h1 h2 => by omega, fun j hj => by omega, fun j hj => by omega, fun j hj => by omega⟩ hw hz hS hl
  · intro a ha1 ha2
    rw [eu10, t_up_o ha1, eu9, t_up_o ha1, eu8, t_up_o ha1, eu7, t_up_o ha1, eu6, t_up_o ha1, eu5, t_row_o (by intro q; rw [q] at ha2; omega), eu4, t_up_o ha1, eu3, t_row_o (by intro q; rw [q] at ha2; omega), eu2, t_up_o ha1, eu1, t_row_o (by intro q; rw [q] at ha2; omega)]
  · intro j hj
    have hj2 : j = 0 ∨ j = 1 ∨ j = 2 ∨ j = 3 ∨ j = 4 ∨ j = 5 ∨ j = 6 := by omega
    rcases hj2 with rfl | rfl | rfl | rfl | rfl | rfl | rfl
    · rw [eu10, t_up_j _ _ _ (by decide), eu9, t_up_j _ _ _ (by decide), eu8, t_up_j _ _ _ (by decide), eu7, t_up_j _ _ _ (by decide), eu6, t_up_j _ _ _ (by decide), eu5, t_row_o (by decide), eu4, t_up_j _ _ _ (by decide), eu3, t_row_o (by decide), eu2, t_up_s]; rfl
    · rw [eu10, t_up_j _ _ _ (by decide), eu9, t_up_j _ _ _ (by decide), eu8, t_up_j _ _ _ (by decide), eu7, t_up_j _ _ _ (by decide), eu6, t_up_j _ _ _ (by decide), eu5, t_row_o (by decide), eu4, t_up_s]; rfl
    · rw [eu10, t_up_j _ _ _ (by decide), eu9, t_up_j _ _ _ (by decide), eu8, t_up_j _ _ _ (by decide), eu7, t_up_j _ _ _ (by decide), eu6, t_up_s]; rfl
    · rw [eu10, t_up_j _ _ _ (by decide), eu9, t_up_j _ _ _ (by decide), eu8, t_up_j _ _ _ (by decide), eu7, t_up_s]; rfl
    · rw [eu10, t_up_j _ _ _ (by decide), eu9, t_up_j _ _ _ (by decide), eu8, t_up_s]; rfl
    · rw [eu10, t_up_j _ _ _ (by decide), eu9, t_up_s]; rfl
    · rw [eu10, t_up_s]; rfl
set_option maxHeartbeats 8000000 in
set_option maxRecDepth 100000 in
theorem ci_river_2 (l : Launch) (D : va_G) (dA : Nat → ClassId) (sz : Nat) (u : tU) (hu : ∀ j, j < 7 → u 3 j = defaultValue (y_X6 j)) : Met l m_X6_init [.code m_X6_init c_X6_init 2 none] ({ frames := 3, cells := 45, slots := 396, locals := 100 } : Room) (cP D dA sz 94 u [.ref (AD sz 3)]) (cQ D dA sz 139 (fun u' => (∀ a, a ≠ 3 → ordN a < 94 → u' a = u a) ∧ FN sz (ordN 3) 139 u')) 45 396 (CA sz) := by
  refine cMet (by decide) (Nat.le_of_ble_eq_true rfl) rfl ?_
  intro p e s m below meth c ls X hr hlocks hmn hw hz hO hl
  have X : CX p s m ([.ref (AD sz 3)] : List Value).toArray c c_X6_init N_X6 2 D dA := X
  have hx := X.1
  have hb := X.2.1
  have hS : va_S (CA sz) s.heap s.heap [] := va_S.rf
  have hl : lv_has ls 2 [(0, .ref (AD sz 3))] := hl
  have oT : ordN 3 = 93 := rfl
  have oA1 : ordN 12 = 94 := rfl
  have oA2 : ordN 15 = 95 := rfl
  have oA3 : ordN 18 = 96 := rfl
  have oE1 : ∀ i, i < 20 → ordN (140 + i) = 97 + 1 * i := by
    intro i hi
    unfold ordN
    repeat (first | rw [if_pos (by omega)] | rw [if_neg (by omega)])
    omega
  have oE2 : ∀ i, i < 10 → ordN (220 + i) = 117 + 1 * i := by
    intro i hi
    unfold ordN
    repeat (first | rw [if_pos (by omega)] | rw [if_neg (by omega)])
    omega
  have oE3 : ∀ i, i < 6 → ordN (312 + i) = 127 + 2 * i := by
    intro i hi
    unfold ordN
    repeat (first | rw [if_pos (by omega)] | rw [if_neg (by omega)])
    omega
  have MAIN : ∀ ub : tU, (∀ a, a ≠ 3 → ordN a < 94 → ub a = u a) → (∀ j, j < 7 → ub 3 j = tw_u (AD sz) v0 3 j) → ∀ (u3 : tU) (H : Heap) (locs : List Loc) (ls : Array Slot), JR sz 12 15 18 140 220 312 94 97 0 0 0 ub u3 → tw_W CLS D dA (KDn 97) (AD sz) u3 H → H.size = sz + 97 → va_S (CA sz) s.heap H locs → lv_has ls 2 [(0, .ref (AD sz 3))] → W p l e ({ frames := 3, cells := 45, slots := 396, locals := 100 } : Room) s m ([.ref (AD sz 3)] : List Value).toArray below meth c H locs (3) (36) (MQ below (cQ D dA sz 139 (fun u' => (∀ a, a ≠ 3 → ordN a < 94 → u' a = u a) ∧ FN sz (ordN 3) 139 u')) ([.ref (AD sz 3)] : List Value).toArray s 45 396 (CA sz)) (F0 m 52 ls []) := by
    intro ub hb1 hb2
    have LP3 : ∀ (d i : Nat), i + d = 6 → ∀ (u3 : tU) (H : Heap) (locs : List Loc) (ls : Array Slot), JR sz 12 15 18 140 220 312 94 (127 + 2 * i) 20 10 i ub u3 → tw_W CLS D dA (KDn (127 + 2 * i)) (AD sz) u3 H → H.size = sz + (127 + 2 * i) → va_S (CA sz) s.heap H locs → lv_has ls 2 [(1, .int (nI i)), (0, .ref (AD sz 3))] → W p l e ({ frames := 3, cells := 45, slots := 396, locals := 100 } : Room) s m ([.ref (AD sz 3)] : List Value).toArray below meth c H locs (33 + 2 * i) (336 + 10 * i) (MQ below (cQ D dA sz 139 (fun u' => (∀ a, a ≠ 3 → ordN a < 94 → u' a = u a) ∧ FN sz (ordN 3) 139 u')) ([.ref (AD sz 3)] : List Value).toArray s 45 396 (CA sz)) (F0 m 108 ls []) := by
      intro d
      induction d with
      | zero =>
        intro i hi u3 H locs ls hJ hw hz hS hl
        have ei : i = 6 := by omega
        subst ei
        refine lv_iload_n hx hb d_X6_init_108 rfl (lv_at hl 0 rfl) ?_
        refine lv_bipush (v := 6) hx hb d_X6_init_109 (by decide) ?_
        refine lv_icmp_ge (tgt := 133) hx hb d_X6_init_111 (by decide) (fun c1 => ?_) (fun c1 => absurd (by decide) c1)
        refine c_vret X hr hlocks hw hz hS ⟨?_, ?_⟩ d_X6_init_133
        · intro a ha1 ha2
          rw [hJ.1 a ha2]
          exact hb1 a ha1 ha2
        · intro a kn ha q1 q2 j hj
          have hcase : ordN a = 93 ∨ ordN a = 94 ∨ ordN a = 95 ∨ ordN a = 96 ∨ 97 ≤ ordN a := by omega
          rcases hcase with hq | hq | hq | hq | hq
          · have ea : a = 3 := ord_inj ha (rfl : KD 3 = _) (by omega)
            rw [ea] at ha ⊢
            have ek : kn = (6, 0) := Option.some.inj (ha.symm.trans (rfl : KD 3 = _))
            subst ek
            rw [hJ.1 3 (by omega)]
            exact hb2 j hj
          · have ea : a = 12 := ord_inj ha (rfl : KD 12 = _) (by omega)
            rw [ea] at ha ⊢
            have ek : kn = (15, 20) := Option.some.inj (ha.symm.trans (rfl : KD 12 = _))
            subst ek
            rw [hJ.2.2.1 j hj]
            exact (tw_u_ref (rfl : SH 12 j = some (140 + j))).symm
          · have ea : a = 15 := ord_inj ha (rfl : KD 15 = _) (by omega)
            rw [ea] at ha ⊢
            have ek : kn = (16, 10) := Option.some.inj (ha.symm.trans (rfl : KD 15 = _))
            subst ek
            rw [hJ.2.2.2.1 j hj]
            exact (tw_u_ref (rfl : SH 15 j = some (220 + j))).symm
          · have ea : a = 18 := ord_inj ha (rfl : KD 18 = _) (by omega)
            rw [ea] at ha ⊢
            have ek : kn = (17, 6) := Option.some.inj (ha.symm.trans (rfl : KD 18 = _))
            subst ek
            rw [hJ.2.2.2.2 j hj]
            exact (tw_u_ref (rfl : SH 18 j = some (312 + j))).symm
          · exact hJ.2.1 a kn ha hq (by omega) j hj
      | succ d ih =>
        intro i hi u3 H locs ls hJ hw hz hS hl
        have hlt : i < 6 := by omega
        have oE := oE3 i hlt
        refine lv_iload_n hx hb d_X6_init_108 rfl (lv_at hl 0 rfl) ?_
        refine lv_bipush (v := 6) hx hb d_X6_init_109 (by decide) ?_
        refine lv_icmp_ge (tgt := 133) hx hb d_X6_init_111 (by decide) (fun c1 => absurd c1 (nI_ge (b := 6) hlt (by decide))) (fun c1 => ?_)
        refine lv_aload_n hx hb d_X6_init_114 rfl (lv_at hl 1 rfl) ?_
        refine cw_get (val := .ref (AD sz 18)) X hw FL_X6_25 (rfl : KD 3 = _) (by omega) (by rw [hJ.1 3 (by omega), hb2 2 (by decide)]; exact tw_u_ref rfl) d_X6_init_115 ?_
        refine lv_iload_n hx hb d_X6_init_118 rfl (lv_at hl 0 rfl) ?_
        refine cw_new (k := 312 + i) (n := (127 + 2 * i)) X hw hz hS (ci := 9) (N := 5) rfl (by decide) uw_X9 y_X9 ty_X9 kl_X6_23 in_X9 ii_X9 (KD_ward (by omega) (by omega)) oE (by show _ + 1 ≤ 45; omega) (by show _ + 5 ≤ 396; omega) d_X6_init_119 (fun H hw hz hS => ?_)
        refine lv_dup hx hb d_X6_init_122 rfl ?_
        have hnw : (127 + 2 * i) + 1 = ordN (312 + i) + 1 := by omega
        rw [hnw] at hw hz
        refine c_cv (c_runIN (k := 312 + i) (rest := [.ref (AD sz (312 + i)), .int (nI i), .ref (AD sz 18)]) X hw hz hO (ci_ward l D dA sz _ (312 + i) (by omega) (by omega) (fun j _ => by rw [t_row_s])) ni_X6_44 gi_X6_44 rfl (by decide +kernel) ⟨rfl, rfl, Nat.le_of_ble_eq_true rfl, Nat.le_of_ble_eq_true rfl⟩ hl.1 rfl (Nat.le_of_ble_eq_true rfl) ⟨by show _ + 1 + 1 ≤ 45; omega, by show _ + 5 + 5 ≤ 396; omega⟩ d_X6_init_123) hS (fun u5 H locs hp hw hz hS => ?_)
        obtain ⟨hp1, hp2⟩ := hp
        refine cw_aast (ka := 18) (t := 17) (t0 := 5) (k := 312 + i) (i := i) X hw hz hS (rfl : KD 18 = _) (by omega) (by decide) rfl (KD_ward (by omega) (by omega)) (by omega) (by decide) rfl hlt (by decide) d_X6_init_126 (fun H locs hw hz hS => ?_)
        refine lv_iinc (v := nI (i + 1)) (lv' := [(1, .int (nI (i + 1))), (0, .ref (AD sz 3))]) hx hb d_X6_init_127 hl (k := 0) rfl (by rw [← nI_1]; rfl) (by decide) rfl (fun ls hl => ?_)
        refine lv_goto (tgt := 108) hx hb d_X6_init_130 (by decide) ?_
        have hn2 : ordN (312 + i) + 2 = (127 + 2 * (i + 1)) := by omega
        rw [hn2] at hw hz hp2
        have hrow : ∀ a, ordN a < (127 + 2 * i) → u5 a = u3 a := by
          intro a ha
          have hne : a ≠ 312 + i := by intro z; rw [z] at ha; omega
          rw [hp1 a hne (by omega), t_row_o hne]
        have hJ2 : JR sz 12 15 18 140 220 312 94 (127 + 2 * (i + 1)) 20 10 (i + 1) ub (t_up u5 18 i (.ref (AD sz (312 + i)))) := by
          refine ⟨?_, ?_, ?_, ?_, ?_⟩
          · intro a ha
            rw [t_up_o (by intro z; rw [z] at ha; omega), hrow a (by omega)]
            exact hJ.1 a ha
          · have f1 : FN sz 97 (127 + 2 * i) u5 := hJ.2.1.keep (fun x _ h2 => hrow x h2)
            rw [oE] at hp2
            exact (f1.app hp2).keep (fun x h1 _ => t_up_o (by intro z; rw [z] at h1; omega))
          · intro j hj
            rw [t_up_o (by decide), hrow 12 (by omega)]
            exact hJ.2.2.1 j hj
          · intro j hj
            rw [t_up_o (by decide), hrow 15 (by omega)]
            exact hJ.2.2.2.1 j hj
          · intro j hj
            by_cases hji : j = i
            · rw [hji, t_up_s]
            · rw [t_up_j _ _ _ hji, hrow 18 (by omega)]
              exact hJ.2.2.2.2 j (by omega)
        have := ih (i + 1) (by omega) _ H locs ls hJ2 hw hz hS hl
        rw [show 33 + 2 * (i + 1) = 33 + 2 * i + 1 + 1 by omega, show 336 + 10 * (i + 1) = 336 + 10 * i + 5 + 5 by omega] at this
        exact this
    have LP2 : ∀ (d i : Nat), i + d = 10 → ∀ (u3 : tU) (H : Heap) (locs : List Loc) (ls : Array Slot), JR sz 12 15 18 140 220 312 94 (117 + 1 * i) 20 i 0 ub u3 → tw_W CLS D dA (KDn (117 + 1 * i)) (AD sz) u3 H → H.size = sz + (117 + 1 * i) → va_S (CA sz) s.heap H locs → lv_has ls 2 [(1, .int (nI i)), (0, .ref (AD sz 3))] → W p l e ({ frames := 3, cells := 45, slots := 396, locals := 100 } : Room) s m ([.ref (AD sz 3)] : List Value).toArray below meth c H locs (23 + 1 * i) (296 + 4 * i) (MQ below (cQ D dA sz 139 (fun u' => (∀ a, a ≠ 3 → ordN a < 94 → u' a = u a) ∧ FN sz (ordN 3) 139 u')) ([.ref (AD sz 3)] : List Value).toArray s 45 396 (CA sz)) (F0 m 81 ls []) := by
      intro d
      induction d with
      | zero =>
        intro i hi u3 H locs ls hJ hw hz hS hl
        have ei : i = 10 := by omega
        subst ei
        refine lv_iload_n hx hb d_X6_init_81 rfl (lv_at hl 0 rfl) ?_
        refine lv_bipush (v := 10) hx hb d_X6_init_82 (by decide) ?_
        refine lv_icmp_ge (tgt := 106) hx hb d_X6_init_84 (by decide) (fun c1 => ?_) (fun c1 => absurd (by decide) c1)
        refine lv_iconst (v := 0) hx hb d_X6_init_106 (by decide) ?_
        refine lv_istore_n (lv' := [(1, .int 0), (0, .ref (AD sz 3))]) hx hb d_X6_init_107 rfl hl (by decide) rfl (fun ls hl => ?_)
        exact LP3 6 0 rfl u3 H locs ls hJ hw hz hS hl
      | succ d ih =>
        intro i hi u3 H locs ls hJ hw hz hS hl
        have hlt : i < 10 := by omega
        have oE := oE2 i hlt
        refine lv_iload_n hx hb d_X6_init_81 rfl (lv_at hl 0 rfl) ?_
        refine lv_bipush (v := 10) hx hb d_X6_init_82 (by decide) ?_
        refine lv_icmp_ge (tgt := 106) hx hb d_X6_init_84 (by decide) (fun c1 => absurd c1 (nI_ge (b := 10) hlt (by decide))) (fun c1 => ?_)
        refine lv_aload_n hx hb d_X6_init_87 rfl (lv_at hl 1 rfl) ?_
        refine cw_get (val := .ref (AD sz 15)) X hw FL_X6_19 (rfl : KD 3 = _) (by omega) (by rw [hJ.1 3 (by omega), hb2 1 (by decide)]; exact tw_u_ref rfl) d_X6_init_88 ?_
        refine lv_iload_n hx hb d_X6_init_91 rfl (lv_at hl 0 rfl) ?_
        refine cw_new (k := 220 + i) (n := (117 + 1 * i)) X hw hz hS (ci := 0) (N := 4) rfl (by decide) uw_X0 y_X0 ty_X0 kl_X6_17 in_X0 ii_X0 (KD_buyer (by omega) (by omega)) oE (by show _ + 1 ≤ 45; omega) (by show _ + 4 ≤ 396; omega) d_X6_init_92 (fun H hw hz hS => ?_)
        refine lv_dup hx hb d_X6_init_95 rfl ?_
        have hnw : (117 + 1 * i) + 1 = ordN (220 + i) + 1 := by omega
        rw [hnw] at hw hz
        refine c_cv (c_runIN (k := 220 + i) (rest := [.ref (AD sz (220 + i)), .int (nI i), .ref (AD sz 15)]) X hw hz hO (ci_buyer l D dA sz _ (220 + i) (by omega) (by omega) (fun j _ => by rw [t_row_s])) ni_X6_43 gi_X6_43 rfl (by decide +kernel) ⟨rfl, rfl, Nat.le_of_ble_eq_true rfl, Nat.le_of_ble_eq_true rfl⟩ hl.1 rfl (Nat.le_of_ble_eq_true rfl) ⟨by show _ + 1 + 0 ≤ 45; omega, by show _ + 4 + 0 ≤ 396; omega⟩ d_X6_init_96) hS (fun u5 H locs hp hw hz hS => ?_)
        obtain ⟨hp1, hp2⟩ := hp
        refine cw_aast (ka := 15) (t := 16) (t0 := 4) (k := 220 + i) (i := i) X hw hz hS (rfl : KD 15 = _) (by omega) (by decide) rfl (KD_buyer (by omega) (by omega)) (by omega) (by decide) rfl hlt (by decide) d_X6_init_99 (fun H locs hw hz hS => ?_)
        refine lv_iinc (v := nI (i + 1)) (lv' := [(1, .int (nI (i + 1))), (0, .ref (AD sz 3))]) hx hb d_X6_init_100 hl (k := 0) rfl (by rw [← nI_1]; rfl) (by decide) rfl (fun ls hl => ?_)
        refine lv_goto (tgt := 81) hx hb d_X6_init_103 (by decide) ?_
        have hn2 : ordN (220 + i) + 1 = (117 + 1 * (i + 1)) := by omega
        rw [hn2] at hw hz hp2
        have hrow : ∀ a, ordN a < (117 + 1 * i) → u5 a = u3 a := by
          intro a ha
          have hne : a ≠ 220 + i := by intro z; rw [z] at ha; omega
          rw [hp1 a hne (by omega), t_row_o hne]
        have hJ2 : JR sz 12 15 18 140 220 312 94 (117 + 1 * (i + 1)) 20 (i + 1) 0 ub (t_up u5 15 i (.ref (AD sz (220 + i)))) := by
          refine ⟨?_, ?_, ?_, ?_, ?_⟩
          · intro a ha
            rw [t_up_o (by intro z; rw [z] at ha; omega), hrow a (by omega)]
            exact hJ.1 a ha
          · have f1 : FN sz 97 (117 + 1 * i) u5 := hJ.2.1.keep (fun x _ h2 => hrow x h2)
            rw [oE] at hp2
            exact (f1.app hp2).keep (fun x h1 _ => t_up_o (by intro z; rw [z] at h1; omega))
          · intro j hj
            rw [t_up_o (by decide), hrow 12 (by omega)]
            exact hJ.2.2.1 j hj
          · intro j hj
            by_cases hji : j = i
            · rw [hji, t_up_s]
            · rw [t_up_j _ _ _ hji, hrow 15 (by omega)]
              exact hJ.2.2.2.1 j (by omega)
          · intro j hj
            omega
        have := ih (i + 1) (by omega) _ H locs ls hJ2 hw hz hS hl
        rw [show 23 + 1 * (i + 1) = 23 + 1 * i + 1 + 0 by omega, show 296 + 4 * (i + 1) = 296 + 4 * i + 4 + 0 by omega] at this
        exact this
    have LP1 : ∀ (d i : Nat), i + d = 20 → ∀ (u3 : tU) (H : Heap) (locs : List Loc) (ls : Array Slot), JR sz 12 15 18 140 220 312 94 (97 + 1 * i) i 0 0 ub u3 → tw_W CLS D dA (KDn (97 + 1 * i)) (AD sz) u3 H → H.size = sz + (97 + 1 * i) → va_S (CA sz) s.heap H locs → lv_has ls 2 [(1, .int (nI i)), (0, .ref (AD sz 3))] → W p l e ({ frames := 3, cells := 45, slots := 396, locals := 100 } : Room) s m ([.ref (AD sz 3)] : List Value).toArray below meth c H locs (3 + 1 * i) (36 + 13 * i) (MQ below (cQ D dA sz 139 (fun u' => (∀ a, a ≠ 3 → ordN a < 94 → u' a = u a) ∧ FN sz (ordN 3) 139 u')) ([.ref (AD sz 3)] : List Value).toArray s 45 396 (CA sz)) (F0 m 54 ls []) := by
      intro d
      induction d with
      | zero =>
        intro i hi u3 H locs ls hJ hw hz hS hl
        have ei : i = 20 := by omega
        subst ei
        refine lv_iload_n hx hb d_X6_init_54 rfl (lv_at hl 0 rfl) ?_
        refine lv_bipush (v := 20) hx hb d_X6_init_55 (by decide) ?_
        refine lv_icmp_ge (tgt := 79) hx hb d_X6_init_57 (by decide) (fun c1 => ?_) (fun c1 => absurd (by decide) c1)
        refine lv_iconst (v := 0) hx hb d_X6_init_79 (by decide) ?_
        refine lv_istore_n (lv' := [(1, .int 0), (0, .ref (AD sz 3))]) hx hb d_X6_init_80 rfl hl (by decide) rfl (fun ls hl => ?_)
        exact LP2 10 0 rfl u3 H locs ls hJ hw hz hS hl
      | succ d ih =>
        intro i hi u3 H locs ls hJ hw hz hS hl
        have hlt : i < 20 := by omega
        have oE := oE1 i hlt
        refine lv_iload_n hx hb d_X6_init_54 rfl (lv_at hl 0 rfl) ?_
        refine lv_bipush (v := 20) hx hb d_X6_init_55 (by decide) ?_
        refine lv_icmp_ge (tgt := 79) hx hb d_X6_init_57 (by decide) (fun c1 => absurd c1 (nI_ge (b := 20) hlt (by decide))) (fun c1 => ?_)
        refine lv_aload_n hx hb d_X6_init_60 rfl (lv_at hl 1 rfl) ?_
        refine cw_get (val := .ref (AD sz 12)) X hw FL_X6_11 (rfl : KD 3 = _) (by omega) (by rw [hJ.1 3 (by omega), hb2 0 (by decide)]; exact tw_u_ref rfl) d_X6_init_61 ?_
        refine lv_iload_n hx hb d_X6_init_64 rfl (lv_at hl 0 rfl) ?_
        refine cw_new (k := 140 + i) (n := (97 + 1 * i)) X hw hz hS (ci := 7) (N := 13) rfl (by decide) uw_X7 y_X7 ty_X7 kl_X6_9 in_X7 ii_X7 (KD_ship (by omega) (by omega)) oE (by show _ + 1 ≤ 45; omega) (by show _ + 13 ≤ 396; omega) d_X6_init_65 (fun H hw hz hS => ?_)
        refine lv_dup hx hb d_X6_init_68 rfl ?_
        have hnw : (97 + 1 * i) + 1 = ordN (140 + i) + 1 := by omega
        rw [hnw] at hw hz
        refine c_cv (c_runIN (k := 140 + i) (rest := [.ref (AD sz (140 + i)), .int (nI i), .ref (AD sz 12)]) X hw hz hO (ci_ship l D dA sz _ (140 + i) (by omega) (by omega) (fun j _ => by rw [t_row_s])) ni_X6_42 gi_X6_42 rfl (by decide +kernel) ⟨rfl, rfl, Nat.le_of_ble_eq_true rfl, Nat.le_of_ble_eq_true rfl⟩ hl.1 rfl (Nat.le_of_ble_eq_true rfl) ⟨by show _ + 1 + 0 ≤ 45; omega, by show _ + 13 + 0 ≤ 396; omega⟩ d_X6_init_69) hS (fun u5 H locs hp hw hz hS => ?_)
        obtain ⟨hp1, hp2⟩ := hp
        refine cw_aast (ka := 12) (t := 15) (t0 := 3) (k := 140 + i) (i := i) X hw hz hS (rfl : KD 12 = _) (by omega) (by decide) rfl (KD_ship (by omega) (by omega)) (by omega) (by decide) rfl hlt (by decide) d_X6_init_72 (fun H locs hw hz hS => ?_)
        refine lv_iinc (v := nI (i + 1)) (lv' := [(1, .int (nI (i + 1))), (0, .ref (AD sz 3))]) hx hb d_X6_init_73 hl (k := 0) rfl (by rw [← nI_1]; rfl) (by decide) rfl (fun ls hl => ?_)
        refine lv_goto (tgt := 54) hx hb d_X6_init_76 (by decide) ?_
        have hn2 : ordN (140 + i) + 1 = (97 + 1 * (i + 1)) := by omega
        rw [hn2] at hw hz hp2
        have hrow : ∀ a, ordN a < (97 + 1 * i) → u5 a = u3 a := by
          intro a ha
          have hne : a ≠ 140 + i := by intro z; rw [z] at ha; omega
          rw [hp1 a hne (by omega), t_row_o hne]
        have hJ2 : JR sz 12 15 18 140 220 312 94 (97 + 1 * (i + 1)) (i + 1) 0 0 ub (t_up u5 12 i (.ref (AD sz (140 + i)))) := by
          refine ⟨?_, ?_, ?_, ?_, ?_⟩
          · intro a ha
            rw [t_up_o (by intro z; rw [z] at ha; omega), hrow a (by omega)]
            exact hJ.1 a ha
          · have f1 : FN sz 97 (97 + 1 * i) u5 := hJ.2.1.keep (fun x _ h2 => hrow x h2)
            rw [oE] at hp2
            exact (f1.app hp2).keep (fun x h1 _ => t_up_o (by intro z; rw [z] at h1; omega))
          · intro j hj
            by_cases hji : j = i
            · rw [hji, t_up_s]
            · rw [t_up_j _ _ _ hji, hrow 12 (by omega)]
              exact hJ.2.2.1 j (by omega)
          · intro j hj
            omega
          · intro j hj
            omega
        have := ih (i + 1) (by omega) _ H locs ls hJ2 hw hz hS hl
        rw [show 3 + 1 * (i + 1) = 3 + 1 * i + 1 + 0 by omega, show 36 + 13 * (i + 1) = 36 + 13 * i + 13 + 0 by omega] at this
        exact this
    intro u3 H locs ls hJ hw hz hS hl
    refine lv_iconst (v := 0) hx hb d_X6_init_52 (by decide) ?_
    refine lv_istore_n (lv' := [(1, .int 0), (0, .ref (AD sz 3))]) hx hb d_X6_init_53 rfl hl (by decide) rfl (fun ls hl => ?_)
    exact LP1 20 0 rfl u3 H locs ls hJ hw hz hS hl
  refine lv_aload_n hx hb d_X6_init_0 rfl (lv_at hl 0 rfl) ?_
  refine c_oi X hl.1 ol_X6 (Nat.le_of_ble_eq_true rfl) (Nat.le_of_ble_eq_true rfl) (Nat.le_of_ble_eq_true rfl) d_X6_init_1 ?_
  refine lv_aload_n hx hb d_X6_init_4 rfl (lv_at hl 0 rfl) ?_
  refine lv_bipush (v := 20) hx hb d_X6_init_5 (by decide) ?_
  refine cw_newq (k := 12) (t := 15) (t0 := 3) (N := 20) X hw hz hS hO.1 kl_X6_9 (by decide) rfl (by decide) (by decide) (by decide) (rfl : KD 12 = _) rfl (Nat.le_of_ble_eq_true rfl) (Nat.le_of_ble_eq_true rfl) d_X6_init_7 (fun H hw hz hS => ?_)
  obtain ⟨u1, eu1⟩ : ∃ z, z = t_row u 12 (fun _ => .null) := ⟨_, rfl⟩
  rw [← eu1] at hw
  refine cw_putF X hmn hw hz hS FQ_X6_11 (rfl : KD 3 = _) (by omega) ⟨rfl, rfl⟩ d_X6_init_10 (fun H locs hw hz hS => ?_)
  obtain ⟨u2, eu2⟩ : ∃ z, z = t_up u1 3 0 (.ref (AD sz 12)) := ⟨_, rfl⟩
  rw [← eu2] at hw
  refine lv_aload_n hx hb d_X6_init_13 rfl (lv_at hl 0 rfl) ?_
  refine lv_bipush (v := 10) hx hb d_X6_init_14 (by decide) ?_
  refine cw_newq (k := 15) (t := 16) (t0 := 4) (N := 10) X hw hz hS hO.2.1 kl_X6_17 (by decide) rfl (by decide) (by decide) (by decide) (rfl : KD 15 = _) rfl (Nat.le_of_ble_eq_true rfl) (Nat.le_of_ble_eq_true rfl) d_X6_init_16 (fun H hw hz hS => ?_)
  obtain ⟨u3, eu3⟩ : ∃ z, z = t_row u2 15 (fun _ => .null) := ⟨_, rfl⟩
  rw [← eu3] at hw
  refine cw_putF X hmn hw hz hS FQ_X6_19 (rfl : KD 3 = _) (by omega) ⟨rfl, rfl⟩ d_X6_init_19 (fun H locs hw hz hS => ?_)
  obtain ⟨u4, eu4⟩ : ∃ z, z = t_up u3 3 1 (.ref (AD sz 15)) := ⟨_, rfl⟩
  rw [← eu4] at hw
  refine lv_aload_n hx hb d_X6_init_22 rfl (lv_at hl 0 rfl) ?_
  refine lv_bipush (v := 6) hx hb d_X6_init_23 (by decide) ?_
  refine cw_newq (k := 18) (t := 17) (t0 := 5) (N := 6) X hw hz hS hO.2.2.1 kl_X6_23 (by decide) rfl (by decide) (by decide) (by decide) (rfl : KD 18 = _) rfl (Nat.le_of_ble_eq_true rfl) (Nat.le_of_ble_eq_true rfl) d_X6_init_25 (fun H hw hz hS => ?_)
  obtain ⟨u5, eu5⟩ : ∃ z, z = t_row u4 18 (fun _ => .null) := ⟨_, rfl⟩
  rw [← eu5] at hw
  refine cw_putF X hmn hw hz hS FQ_X6_25 (rfl : KD 3 = _) (by omega) ⟨rfl, rfl⟩ d_X6_init_28 (fun H locs hw hz hS => ?_)
  obtain ⟨u6, eu6⟩ : ∃ z, z = t_up u5 3 2 (.ref (AD sz 18)) := ⟨_, rfl⟩
  rw [← eu6] at hw
  refine lv_aload_n hx hb d_X6_init_31 rfl (lv_at hl 0 rfl) ?_
  refine lv_iconst (v := 0) hx hb d_X6_init_32 (by decide) ?_
  refine cw_put X hw hz hS FP_X6_29 (rfl : KD 3 = _) (by omega) ⟨rfl, rfl⟩ d_X6_init_33 (fun H locs hw hz hS => ?_)
  obtain ⟨u7, eu7⟩ : ∃ z, z = t_up u6 3 3 (.int 0) := ⟨_, rfl⟩
  rw [← eu7] at hw
  refine lv_aload_n hx hb d_X6_init_36 rfl (lv_at hl 0 rfl) ?_
  refine lv_iconst (v := 0) hx hb d_X6_init_37 (by decide) ?_
  refine cw_put X hw hz hS FP_X6_33 (rfl : KD 3 = _) (by omega) ⟨rfl, rfl⟩ d_X6_init_38 (fun H locs hw hz hS => ?_)
  obtain ⟨u8, eu8⟩ : ∃ z, z = t_up u7 3 4 (.int 0) := ⟨_, rfl⟩
  rw [← eu8] at hw
  refine lv_aload_n hx hb d_X6_init_41 rfl (lv_at hl 0 rfl) ?_
  refine lv_iconst (v := 0) hx hb d_X6_init_42 (by decide) ?_
  refine cw_put X hw hz hS FP_X6_36 (rfl : KD 3 = _) (by omega) ⟨rfl, rfl⟩ d_X6_init_43 (fun H locs hw hz hS => ?_)
  obtain ⟨u9, eu9⟩ : ∃ z, z = t_up u8 3 5 (.int 0) := ⟨_, rfl⟩
  rw [← eu9] at hw
  refine lv_aload_n hx hb d_X6_init_46 rfl (lv_at hl 0 rfl) ?_
  refine lv_bipush (v := 30) hx hb d_X6_init_47 (by decide) ?_
  refine cw_put X hw hz hS FP_X6_39 (rfl : KD 3 = _) (by omega) ⟨rfl, rfl⟩ d_X6_init_49 (fun H locs hw hz hS => ?_)
  obtain ⟨u10, eu10⟩ : ∃ z, z = t_up u9 3 6 (.int 30) := ⟨_, rfl⟩
  rw [← eu10] at hw
  refine MAIN u10 ?_ ?_ u10 H locs ls ⟨fun _ _ => rfl, fun a kn _ h1 h2 => by omega, fun j hj => by omega, fun j hj => by omega, fun j hj => by omega⟩ hw hz hS hl
  · intro a ha1 ha2
    rw [eu10, t_up_o ha1, eu9, t_up_o ha1, eu8, t_up_o ha1, eu7, t_up_o ha1, eu6, t_up_o ha1, eu5, t_row_o (by intro q; rw [q] at ha2; omega), eu4, t_up_o ha1, eu3, t_row_o (by intro q; rw [q] at ha2; omega), eu2, t_up_o ha1, eu1, t_row_o (by intro q; rw [q] at ha2; omega)]
  · intro j hj
    have hj2 : j = 0 ∨ j = 1 ∨ j = 2 ∨ j = 3 ∨ j = 4 ∨ j = 5 ∨ j = 6 := by omega
    rcases hj2 with rfl | rfl | rfl | rfl | rfl | rfl | rfl
    · rw [eu10, t_up_j _ _ _ (by decide), eu9, t_up_j _ _ _ (by decide), eu8, t_up_j _ _ _ (by decide), eu7, t_up_j _ _ _ (by decide), eu6, t_up_j _ _ _ (by decide), eu5, t_row_o (by decide), eu4, t_up_j _ _ _ (by decide), eu3, t_row_o (by decide), eu2, t_up_s]; rfl
    · rw [eu10, t_up_j _ _ _ (by decide), eu9, t_up_j _ _ _ (by decide), eu8, t_up_j _ _ _ (by decide), eu7, t_up_j _ _ _ (by decide), eu6, t_up_j _ _ _ (by decide), eu5, t_row_o (by decide), eu4, t_up_s]; rfl
    · rw [eu10, t_up_j _ _ _ (by decide), eu9, t_up_j _ _ _ (by decide), eu8, t_up_j _ _ _ (by decide), eu7, t_up_j _ _ _ (by decide), eu6, t_up_s]; rfl
    · rw [eu10, t_up_j _ _ _ (by decide), eu9, t_up_j _ _ _ (by decide), eu8, t_up_j _ _ _ (by decide), eu7, t_up_s]; rfl
    · rw [eu10, t_up_j _ _ _ (by decide), eu9, t_up_j _ _ _ (by decide), eu8, t_up_s]; rfl
    · rw [eu10, t_up_j _ _ _ (by decide), eu9, t_up_s]; rfl
    · rw [eu10, t_up_s]; rfl
