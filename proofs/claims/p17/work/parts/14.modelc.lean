theorem lv_seti {p : Program} {l : Launch} {e : Env} {R : Room} {s : State} {m : MethodId} {args : Array Value} {below : List Frame} {meth : Method} {c : Code} {H : Heap} {locs : List Loc} {cells slots : Nat} {Q : State → Prop} {pc : Nat} {ls : Array Slot} {rest : List Value} {x y : Int32} (h : x = y) (k : W p l e R s m args below meth c H locs cells slots Q (F0 m pc ls (.int y :: rest))) : W p l e R s m args below meth c H locs cells slots Q (F0 m pc ls (.int x :: rest)) := by
  rw [h]
  exact k
theorem d_X11_arrive_0 : decode c_X11_arrive 0 = .ok (.iconst 0, 1) := by decide +kernel
theorem d_X11_arrive_1 : decode c_X11_arrive 1 = .ok (.istore_n 2, 1) := by decide +kernel
theorem d_X11_arrive_2 : decode c_X11_arrive 2 = .ok (.iload_n 2, 1) := by decide +kernel
theorem d_X11_arrive_3 : decode c_X11_arrive 3 = .ok (.aload_n 0, 1) := by decide +kernel
theorem d_X11_arrive_4 : decode c_X11_arrive 4 = .ok (.getfield 166, 3) := by decide +kernel
theorem d_X11_arrive_7 : decode c_X11_arrive 7 = .ok (.if_icmp .ge 114, 3) := by decide +kernel
theorem d_X11_arrive_10 : decode c_X11_arrive 10 = .ok (.aload_n 0, 1) := by decide +kernel
theorem d_X11_arrive_11 : decode c_X11_arrive 11 = .ok (.getfield 31, 3) := by decide +kernel
theorem d_X11_arrive_14 : decode c_X11_arrive 14 = .ok (.iload_n 2, 1) := by decide +kernel
theorem d_X11_arrive_15 : decode c_X11_arrive 15 = .ok (.iaload, 1) := by decide +kernel
theorem d_X11_arrive_16 : decode c_X11_arrive 16 = .ok (.ifCond .eq 6, 3) := by decide +kernel
theorem d_X11_arrive_19 : decode c_X11_arrive 19 = .ok (.goto 96, 3) := by decide +kernel
theorem d_X11_arrive_22 : decode c_X11_arrive 22 = .ok (.aload_n 0, 1) := by decide +kernel
theorem d_X11_arrive_23 : decode c_X11_arrive 23 = .ok (.getfield 25, 3) := by decide +kernel
theorem d_X11_arrive_26 : decode c_X11_arrive 26 = .ok (.iload_n 2, 1) := by decide +kernel
theorem d_X11_arrive_27 : decode c_X11_arrive 27 = .ok (.dup2, 1) := by decide +kernel
theorem d_X11_arrive_28 : decode c_X11_arrive 28 = .ok (.iaload, 1) := by decide +kernel
theorem d_X11_arrive_29 : decode c_X11_arrive 29 = .ok (.aload_n 0, 1) := by decide +kernel
theorem d_X11_arrive_30 : decode c_X11_arrive 30 = .ok (.getfield 7, 3) := by decide +kernel
theorem d_X11_arrive_33 : decode c_X11_arrive 33 = .ok (.iload_n 2, 1) := by decide +kernel
theorem d_X11_arrive_34 : decode c_X11_arrive 34 = .ok (.iaload, 1) := by decide +kernel
theorem d_X11_arrive_35 : decode c_X11_arrive 35 = .ok (.iconst 1, 1) := by decide +kernel
theorem d_X11_arrive_36 : decode c_X11_arrive 36 = .ok (.if_icmp .ne 9, 3) := by decide +kernel
theorem d_X11_arrive_39 : decode c_X11_arrive 39 = .ok (.iconst 2, 1) := by decide +kernel
theorem d_X11_arrive_40 : decode c_X11_arrive 40 = .ok (.iload_n 1, 1) := by decide +kernel
theorem d_X11_arrive_41 : decode c_X11_arrive 41 = .ok (.imul, 1) := by decide +kernel
theorem d_X11_arrive_42 : decode c_X11_arrive 42 = .ok (.goto 4, 3) := by decide +kernel
theorem d_X11_arrive_45 : decode c_X11_arrive 45 = .ok (.iload_n 1, 1) := by decide +kernel
theorem d_X11_arrive_46 : decode c_X11_arrive 46 = .ok (.isub, 1) := by decide +kernel
theorem d_X11_arrive_47 : decode c_X11_arrive 47 = .ok (.iastore, 1) := by decide +kernel
theorem d_X11_arrive_48 : decode c_X11_arrive 48 = .ok (.aload_n 0, 1) := by decide +kernel
theorem d_X11_arrive_49 : decode c_X11_arrive 49 = .ok (.getfield 25, 3) := by decide +kernel
theorem d_X11_arrive_52 : decode c_X11_arrive 52 = .ok (.iload_n 2, 1) := by decide +kernel
theorem d_X11_arrive_53 : decode c_X11_arrive 53 = .ok (.iaload, 1) := by decide +kernel
theorem d_X11_arrive_54 : decode c_X11_arrive 54 = .ok (.ifCond .le 6, 3) := by decide +kernel
theorem d_X11_arrive_57 : decode c_X11_arrive 57 = .ok (.goto 58, 3) := by decide +kernel
theorem d_X11_arrive_60 : decode c_X11_arrive 60 = .ok (.aload_n 0, 1) := by decide +kernel
theorem d_X11_arrive_61 : decode c_X11_arrive 61 = .ok (.getfield 25, 3) := by decide +kernel
theorem d_X11_arrive_64 : decode c_X11_arrive 64 = .ok (.iload_n 2, 1) := by decide +kernel
theorem d_X11_arrive_65 : decode c_X11_arrive 65 = .ok (.iconst 0, 1) := by decide +kernel
theorem d_X11_arrive_66 : decode c_X11_arrive 66 = .ok (.iastore, 1) := by decide +kernel
theorem d_X11_arrive_67 : decode c_X11_arrive 67 = .ok (.aload_n 0, 1) := by decide +kernel
theorem d_X11_arrive_68 : decode c_X11_arrive 68 = .ok (.getfield 31, 3) := by decide +kernel
theorem d_X11_arrive_71 : decode c_X11_arrive 71 = .ok (.iload_n 2, 1) := by decide +kernel
theorem d_X11_arrive_72 : decode c_X11_arrive 72 = .ok (.iconst 1, 1) := by decide +kernel
theorem d_X11_arrive_73 : decode c_X11_arrive 73 = .ok (.iastore, 1) := by decide +kernel
theorem d_X11_arrive_74 : decode c_X11_arrive 74 = .ok (.aload_n 0, 1) := by decide +kernel
theorem d_X11_arrive_75 : decode c_X11_arrive 75 = .ok (.getfield 34, 3) := by decide +kernel
theorem d_X11_arrive_78 : decode c_X11_arrive 78 = .ok (.iload_n 2, 1) := by decide +kernel
theorem d_X11_arrive_79 : decode c_X11_arrive 79 = .ok (.aload_n 0, 1) := by decide +kernel
theorem d_X11_arrive_80 : decode c_X11_arrive 80 = .ok (.getfield 227, 3) := by decide +kernel
theorem d_X11_arrive_83 : decode c_X11_arrive 83 = .ok (.iastore, 1) := by decide +kernel
theorem d_X11_arrive_84 : decode c_X11_arrive 84 = .ok (.aload_n 0, 1) := by decide +kernel
theorem d_X11_arrive_85 : decode c_X11_arrive 85 = .ok (.getfield 46, 3) := by decide +kernel
theorem d_X11_arrive_88 : decode c_X11_arrive 88 = .ok (.iload_n 2, 1) := by decide +kernel
theorem d_X11_arrive_89 : decode c_X11_arrive 89 = .ok (.dup2, 1) := by decide +kernel
theorem d_X11_arrive_90 : decode c_X11_arrive 90 = .ok (.iaload, 1) := by decide +kernel
theorem d_X11_arrive_91 : decode c_X11_arrive 91 = .ok (.aload_n 0, 1) := by decide +kernel
theorem d_X11_arrive_92 : decode c_X11_arrive 92 = .ok (.getfield 7, 3) := by decide +kernel
theorem d_X11_arrive_95 : decode c_X11_arrive 95 = .ok (.iload_n 2, 1) := by decide +kernel
theorem d_X11_arrive_96 : decode c_X11_arrive 96 = .ok (.iaload, 1) := by decide +kernel
theorem d_X11_arrive_97 : decode c_X11_arrive 97 = .ok (.iconst 3, 1) := by decide +kernel
theorem d_X11_arrive_98 : decode c_X11_arrive 98 = .ok (.if_icmp .ne 14, 3) := by decide +kernel
theorem d_X11_arrive_101 : decode c_X11_arrive 101 = .ok (.iconst 3, 1) := by decide +kernel
theorem d_X11_arrive_102 : decode c_X11_arrive 102 = .ok (.aload_n 0, 1) := by decide +kernel
theorem d_X11_arrive_103 : decode c_X11_arrive 103 = .ok (.getfield 16, 3) := by decide +kernel
theorem d_X11_arrive_106 : decode c_X11_arrive 106 = .ok (.iload_n 2, 1) := by decide +kernel
theorem d_X11_arrive_107 : decode c_X11_arrive 107 = .ok (.iaload, 1) := by decide +kernel
theorem d_X11_arrive_108 : decode c_X11_arrive 108 = .ok (.imul, 1) := by decide +kernel
theorem d_X11_arrive_109 : decode c_X11_arrive 109 = .ok (.goto 4, 3) := by decide +kernel
theorem d_X11_arrive_112 : decode c_X11_arrive 112 = .ok (.iconst 0, 1) := by decide +kernel
theorem d_X11_arrive_113 : decode c_X11_arrive 113 = .ok (.iadd, 1) := by decide +kernel
theorem d_X11_arrive_114 : decode c_X11_arrive 114 = .ok (.iastore, 1) := by decide +kernel
theorem d_X11_arrive_115 : decode c_X11_arrive 115 = .ok (.iinc 2 1, 3) := by decide +kernel
theorem d_X11_arrive_118 : decode c_X11_arrive 118 = .ok (.goto (-116), 3) := by decide +kernel
theorem d_X11_arrive_121 : decode c_X11_arrive 121 = .ok (.return_, 1) := by decide +kernel
def kp_X11_arrive_400 (wi : Int32) (a j : Nat) : Prop := a ≠ 408 ∧ a ≠ 410 ∧ a ≠ 411 ∧ a ≠ 415
def b_X11_arrive_400_2 (wi : Int32) (rc2 : Int32 → tV → tV) (y2 : Int32) (v1 : tV) : tV := bnd (v1 400 27) fun g0 => bnd (v1 400 1) fun x1 => (if x1 ≤ y2 then v1 else bnd (v1 410 y2.toNatClampNeg) fun x9 => (if x9 = (0 : Int32) then bnd (v1 408 y2.toNatClampNeg) fun x13 => bnd (v1 403 y2.toNatClampNeg) fun x14 => (if x14 = (1 : Int32) then bnd ((2 : Int32) * wi) fun x76 => bnd (x13 - x76) fun x77 => bnd (up2 v1 408 (y2.toNatClampNeg) x77) fun v78 => bnd (v78 408 y2.toNatClampNeg) fun x83 => (if x83 ≤ (0 : Int32) then bnd (up2 v78 408 (y2.toNatClampNeg) 0) fun v87 => bnd (up2 v87 410 (y2.toNatClampNeg) 1) fun v92 => bnd (v92 400 25) fun x97 => bnd (up2 v92 411 (y2.toNatClampNeg) x97) fun v98 => bnd (v98 415 y2.toNatClampNeg) fun x103 => bnd (v98 403 y2.toNatClampNeg) fun x104 => (if x104 = (3 : Int32) then bnd (v98 405 y2.toNatClampNeg) fun x118 => bnd ((3 : Int32) * x118) fun x119 => bnd (x103 + x119) fun x120 => bnd (up2 v98 415 (y2.toNatClampNeg) x120) fun v121 => bnd (y2 + 1) fun x126 => rc2 x126 v121 else bnd (x103 + (0 : Int32)) fun x107 => bnd (up2 v98 415 (y2.toNatClampNeg) x107) fun v108 => bnd (y2 + 1) fun x113 => rc2 x113 v108) else bnd (y2 + 1) fun x131 => rc2 x131 v78) else bnd (x13 - wi) fun x17 => bnd (up2 v1 408 (y2.toNatClampNeg) x17) fun v18 => bnd (v18 408 y2.toNatClampNeg) fun x23 => (if x23 ≤ (0 : Int32) then bnd (up2 v18 408 (y2.toNatClampNeg) 0) fun v27 => bnd (up2 v27 410 (y2.toNatClampNeg) 1) fun v32 => bnd (v32 400 25) fun x37 => bnd (up2 v32 411 (y2.toNatClampNeg) x37) fun v38 => bnd (v38 415 y2.toNatClampNeg) fun x43 => bnd (v38 403 y2.toNatClampNeg) fun x44 => (if x44 = (3 : Int32) then bnd (v38 405 y2.toNatClampNeg) fun x58 => bnd ((3 : Int32) * x58) fun x59 => bnd (x43 + x59) fun x60 => bnd (up2 v38 415 (y2.toNatClampNeg) x60) fun v61 => bnd (y2 + 1) fun x66 => rc2 x66 v61 else bnd (x43 + (0 : Int32)) fun x47 => bnd (up2 v38 415 (y2.toNatClampNeg) x47) fun v48 => bnd (y2 + 1) fun x53 => rc2 x53 v48) else bnd (y2 + 1) fun x71 => rc2 x71 v18)) else bnd (y2 + 1) fun x135 => rc2 x135 v1))
def g_X11_arrive_400_2 (wi : Int32) : Nat → Int32 → tV → tV
  | 0, _, v1 => v1
  | n + 1, y2, v1 => b_X11_arrive_400_2 wi (g_X11_arrive_400_2 wi n) y2 v1
def f_X11_arrive_400 (v : tV) (wi : Int32) : tV := bnd (v 400 27) fun g0 => g_X11_arrive_400_2 wi 100000 0 v
set_option maxHeartbeats 4000000 in
set_option maxRecDepth 100000 in
theorem ct_X11_arrive_400 (l : Launch) (D : va_G) (dA : Nat → ClassId) (ad : Nat → Nat) (v : tV) (hI : Inv v) (wi : Int32) : Met l m_X11_arrive [.code m_X11_arrive c_X11_arrive 3 none] ({ frames := 1, cells := 0, slots := 0, locals := 40 } : Room) (tP D dA ad v [.ref (ad 400), .int wi]) (tQv D dA ad (fun v' => (Inv v' ∧ Kp (kp_X11_arrive_400 wi) v v' ∧ v' 400 27 = v 400 27) ∧ v' = f_X11_arrive_400 v wi)) 0 0 (tA ad) := by
  refine tMet (by decide) (Nat.le_of_ble_eq_true rfl) ?_
  intro p e s m below meth c ls X hr hlocks hw hl
  have X : CX p s m ([.ref (ad 400), .int wi] : List Value).toArray c c_X11_arrive N_X11 3 D dA := X
  have hx := X.1
  have hb := X.2.1
  have hS : va_S (tA ad) s.heap s.heap [] := va_S.rf
  have hl : lv_has ls 3 [(0, .ref (ad 400)), (1, .int wi)] := hl
  obtain ⟨g0, hg0⟩ : ∃ g, v 400 27 = g := ⟨_, rfl⟩
  have r_g0 : Rg g0 0 200 := by rw [← hg0]; exact hI 400 27 _ _ rfl
  obtain ⟨RR, eRR⟩ : ∃ z, f_X11_arrive_400 v wi = z := ⟨_, rfl⟩
  have LL : ∀ n : Nat, (∀ (y2 : Int32) (v1 : tV) (H : Heap) (locs : List Loc) (ls : Array Slot), (20 - y2.toInt).toNat < n → Rg y2 0 20 → Inv v1 → Kp (kp_X11_arrive_400 wi) v v1 → v1 400 27 = g0 → g_X11_arrive_400_2 wi n y2 v1 = RR → tI D dA ad v1 H → va_S (tA ad) s.heap H locs → lv_has ls 3 [(0, .ref (ad 400)), (1, .int wi), (2, .int y2)] → W p l e ({ frames := 1, cells := 0, slots := 0, locals := 40 } : Room) s m ([.ref (ad 400), .int wi] : List Value).toArray below meth c H locs 0 0 (MQ below (tQv D dA ad (fun v' => (Inv v' ∧ Kp (kp_X11_arrive_400 wi) v v' ∧ v' 400 27 = v 400 27) ∧ v' = f_X11_arrive_400 v wi)) ([.ref (ad 400), .int wi] : List Value).toArray s 0 0 (tA ad)) (F0 m 2 ls [])) := by
    intro n
    induction n with
    | zero => intros; omega
    | succ n ih =>
      have ih0 := ih
      intro y2 v1 H locs ls hmu r_y2 hI1 hK1 hfx0 hG hw hS hl
      have hG : b_X11_arrive_400_2 wi (g_X11_arrive_400_2 wi n) y2 v1 = RR := hG
      unfold b_X11_arrive_400_2 at hG
      have hG := bnd_use hfx0.symm hG
      refine lv_iload_n hx hb d_X11_arrive_2 rfl (lv_at hl 2 rfl) ?_
      refine lv_aload_n hx hb d_X11_arrive_3 rfl (lv_at hl 0 rfl) ?_
      refine r_geti X hw FL_X11_166 (rfl : KD 400 = _) rfl d_X11_arrive_4 ?_
      refine lv_topi (fun x1 ex1 => ?_)
      have hG := bnd_use ex1 hG
      have r2 : Rg x1 0 20 := by rw [ex1]; exact hI1 _ _ _ _ rfl
      have hm3 : v1 400 1 = x1 := ex1.symm
      refine lv_icmp_ge (tgt := 121) hx hb d_X11_arrive_7 (by decide) (fun c4 => ?_) (fun c4 => ?_)
      · have f5 := i_le c4
        have hG := g_pos c4 hG
        exact r_vret X hr hlocks hw hS ⟨⟨hI1, hK1, (hfx0.trans hg0.symm)⟩, hG.trans eRR.symm⟩ d_X11_arrive_121
      · have f6 := i_nle c4
        have r7 : Rg y2 0 19 := by obtain ⟨a1, a2⟩ := r_y2; obtain ⟨b1, b2⟩ := r2; have f := i_nle c4; exact ⟨by omega, by omega⟩
        have r8 : Rg x1 1 20 := by obtain ⟨a1, a2⟩ := r_y2; obtain ⟨b1, b2⟩ := r2; have f := i_nle c4; exact ⟨by omega, by omega⟩
        have hG := g_neg c4 hG
        refine lv_aload_n hx hb d_X11_arrive_10 rfl (lv_at hl 0 rfl) ?_
        refine r_getr (r := 410) X hw FL_X11_31 (rfl : KD 400 = _) rfl d_X11_arrive_11 ?_
        refine lv_iload_n hx hb d_X11_arrive_14 rfl (lv_at hl 2 rfl) ?_
        refine r_iald X hw (rfl : KD 410 = _) (Rg.vp (b := 19) r7 (by decide)) rfl d_X11_arrive_15 ?_
        refine lv_topi (fun x9 ex9 => ?_)
        have hG := bnd_use ex9 hG
        refine lv_if_eq (tgt := 22) hx hb d_X11_arrive_16 (by decide) (fun c10 => ?_) (fun c10 => ?_)
        · have f11 := i_eq c10
          have r12 : Rg x9 0 0 := by obtain ⟨a1, a2⟩ := (rg_any x9); obtain ⟨b1, b2⟩ := (⟨by decide, by decide⟩ : Rg 0 0 0); have f := i_eq c10; exact ⟨by omega, by omega⟩
          have hG := g_pos c10 hG
          refine lv_aload_n hx hb d_X11_arrive_22 rfl (lv_at hl 0 rfl) ?_
          refine r_getr (r := 408) X hw FL_X11_25 (rfl : KD 400 = _) rfl d_X11_arrive_23 ?_
          refine lv_iload_n hx hb d_X11_arrive_26 rfl (lv_at hl 2 rfl) ?_
          refine lv_dup2_11 hx hb d_X11_arrive_27 rfl rfl ?_
          refine r_iald X hw (rfl : KD 408 = _) (Rg.vp (b := 19) r7 (by decide)) rfl d_X11_arrive_28 ?_
          refine lv_topi (fun x13 ex13 => ?_)
          have hG := bnd_use ex13 hG
          refine lv_aload_n hx hb d_X11_arrive_29 rfl (lv_at hl 0 rfl) ?_
          refine r_getr (r := 403) X hw FL_X11_7 (rfl : KD 400 = _) rfl d_X11_arrive_30 ?_
          refine lv_iload_n hx hb d_X11_arrive_33 rfl (lv_at hl 2 rfl) ?_
          refine r_iald X hw (rfl : KD 403 = _) (Rg.vp (b := 19) r7 (by decide)) rfl d_X11_arrive_34 ?_
          refine lv_topi (fun x14 ex14 => ?_)
          have hG := bnd_use ex14 hG
          refine lv_iconst (v := 1) hx hb d_X11_arrive_35 (by decide) ?_
          refine lv_icmp_ne (tgt := 45) hx hb d_X11_arrive_36 (by decide) (fun c15 => ?_) (fun c15 => ?_)
          · have f16 := i_ne c15
            have hG := g_neg c15 hG
            refine lv_iload_n hx hb d_X11_arrive_45 rfl (lv_at hl 1 rfl) ?_
            refine lv_isub hx hb d_X11_arrive_46 ?_
            refine lv_topi (fun x17 ex17 => ?_)
            have hG := bnd_use ex17 hG
            refine r_iast X hw hS (rfl : KD 408 = _) (Rg.vp (b := 19) r7 (by decide)) rfl d_X11_arrive_47 (fun H locs hw hS => ?_)
            obtain ⟨v18, ev18⟩ : ∃ z, z = up2 v1 408 y2.toNatClampNeg x17 := ⟨_, rfl⟩
            rw [← ev18] at hw
            have hG := bnd_use ev18 hG
            have hI19 : Inv v18 := by rw [ev18]; exact Inv.put0 hI1 _ rfl
            have hK20 : Kp (kp_X11_arrive_400 wi) v v18 := by rw [ev18]; exact Kp.put hK1 _ (by unfold kp_X11_arrive_400; omega)
            have hm21 : v18 400 27 = g0 := by rw [ev18, up2_n _ _ (by omega)]; exact hfx0
            have hm22 : v18 400 1 = x1 := by rw [ev18, up2_n _ _ (by omega)]; exact hm3
            refine lv_aload_n hx hb d_X11_arrive_48 rfl (lv_at hl 0 rfl) ?_
            refine r_getr (r := 408) X hw FL_X11_25 (rfl : KD 400 = _) rfl d_X11_arrive_49 ?_
            refine lv_iload_n hx hb d_X11_arrive_52 rfl (lv_at hl 2 rfl) ?_
            refine r_iald X hw (rfl : KD 408 = _) (Rg.vp (b := 19) r7 (by decide)) rfl d_X11_arrive_53 ?_
            refine lv_topi (fun x23 ex23 => ?_)
            have hG := bnd_use ex23 hG
            refine lv_if_le (tgt := 60) hx hb d_X11_arrive_54 (by decide) (fun c24 => ?_) (fun c24 => ?_)
            · have f25 := i_le c24
              have r26 : Rg x23 (-2147483648) 0 := by obtain ⟨a1, a2⟩ := (rg_any x23); obtain ⟨b1, b2⟩ := (⟨by decide, by decide⟩ : Rg 0 0 0); have f := i_le c24; exact ⟨by omega, by omega⟩
              have hG := g_pos c24 hG
              refine lv_aload_n hx hb d_X11_arrive_60 rfl (lv_at hl 0 rfl) ?_
              refine r_getr (r := 408) X hw FL_X11_25 (rfl : KD 400 = _) rfl d_X11_arrive_61 ?_
              refine lv_iload_n hx hb d_X11_arrive_64 rfl (lv_at hl 2 rfl) ?_
              refine lv_iconst (v := 0) hx hb d_X11_arrive_65 (by decide) ?_
              refine r_iast X hw hS (rfl : KD 408 = _) (Rg.vp (b := 19) r7 (by decide)) rfl d_X11_arrive_66 (fun H locs hw hS => ?_)
              obtain ⟨v27, ev27⟩ : ∃ z, z = up2 v18 408 y2.toNatClampNeg 0 := ⟨_, rfl⟩
              rw [← ev27] at hw
              have hG := bnd_use ev27 hG
              have hI28 : Inv v27 := by rw [ev27]; exact Inv.put0 hI19 _ rfl
              have hK29 : Kp (kp_X11_arrive_400 wi) v v27 := by rw [ev27]; exact Kp.put hK20 _ (by unfold kp_X11_arrive_400; omega)
              have hm30 : v27 400 27 = g0 := by rw [ev27, up2_n _ _ (by omega)]; exact hm21
              have hm31 : v27 400 1 = x1 := by rw [ev27, up2_n _ _ (by omega)]; exact hm22
              refine lv_aload_n hx hb d_X11_arrive_67 rfl (lv_at hl 0 rfl) ?_
              refine r_getr (r := 410) X hw FL_X11_31 (rfl : KD 400 = _) rfl d_X11_arrive_68 ?_
              refine lv_iload_n hx hb d_X11_arrive_71 rfl (lv_at hl 2 rfl) ?_
              refine lv_iconst (v := 1) hx hb d_X11_arrive_72 (by decide) ?_
              refine r_iast X hw hS (rfl : KD 410 = _) (Rg.vp (b := 19) r7 (by decide)) rfl d_X11_arrive_73 (fun H locs hw hS => ?_)
              obtain ⟨v32, ev32⟩ : ∃ z, z = up2 v27 410 y2.toNatClampNeg 1 := ⟨_, rfl⟩
              rw [← ev32] at hw
              have hG := bnd_use ev32 hG
              have hI33 : Inv v32 := by rw [ev32]; exact Inv.put0 hI28 _ rfl
              have hK34 : Kp (kp_X11_arrive_400 wi) v v32 := by rw [ev32]; exact Kp.put hK29 _ (by unfold kp_X11_arrive_400; omega)
              have hm35 : v32 400 27 = g0 := by rw [ev32, up2_n _ _ (by omega)]; exact hm30
              have hm36 : v32 400 1 = x1 := by rw [ev32, up2_n _ _ (by omega)]; exact hm31
              refine lv_aload_n hx hb d_X11_arrive_74 rfl (lv_at hl 0 rfl) ?_
              refine r_getr (r := 411) X hw FL_X11_34 (rfl : KD 400 = _) rfl d_X11_arrive_75 ?_
              refine lv_iload_n hx hb d_X11_arrive_78 rfl (lv_at hl 2 rfl) ?_
              refine lv_aload_n hx hb d_X11_arrive_79 rfl (lv_at hl 0 rfl) ?_
              refine r_geti X hw FL_X11_227 (rfl : KD 400 = _) rfl d_X11_arrive_80 ?_
              refine lv_topi (fun x37 ex37 => ?_)
              have hG := bnd_use ex37 hG
              refine r_iast X hw hS (rfl : KD 411 = _) (Rg.vp (b := 19) r7 (by decide)) rfl d_X11_arrive_83 (fun H locs hw hS => ?_)
              obtain ⟨v38, ev38⟩ : ∃ z, z = up2 v32 411 y2.toNatClampNeg x37 := ⟨_, rfl⟩
              rw [← ev38] at hw
              have hG := bnd_use ev38 hG
              have hI39 : Inv v38 := by rw [ev38]; exact Inv.put0 hI33 _ rfl
              have hK40 : Kp (kp_X11_arrive_400 wi) v v38 := by rw [ev38]; exact Kp.put hK34 _ (by unfold kp_X11_arrive_400; omega)
              have hm41 : v38 400 27 = g0 := by rw [ev38, up2_n _ _ (by omega)]; exact hm35
              have hm42 : v38 400 1 = x1 := by rw [ev38, up2_n _ _ (by omega)]; exact hm36
              refine lv_aload_n hx hb d_X11_arrive_84 rfl (lv_at hl 0 rfl) ?_
              refine r_getr (r := 415) X hw FL_X11_46 (rfl : KD 400 = _) rfl d_X11_arrive_85 ?_
              refine lv_iload_n hx hb d_X11_arrive_88 rfl (lv_at hl 2 rfl) ?_
              refine lv_dup2_11 hx hb d_X11_arrive_89 rfl rfl ?_
              refine r_iald X hw (rfl : KD 415 = _) (Rg.vp (b := 19) r7 (by decide)) rfl d_X11_arrive_90 ?_
              refine lv_topi (fun x43 ex43 => ?_)
              have hG := bnd_use ex43 hG
              refine lv_aload_n hx hb d_X11_arrive_91 rfl (lv_at hl 0 rfl) ?_
              refine r_getr (r := 403) X hw FL_X11_7 (rfl : KD 400 = _) rfl d_X11_arrive_92 ?_
              refine lv_iload_n hx hb d_X11_arrive_95 rfl (lv_at hl 2 rfl) ?_
              refine r_iald X hw (rfl : KD 403 = _) (Rg.vp (b := 19) r7 (by decide)) rfl d_X11_arrive_96 ?_
              refine lv_topi (fun x44 ex44 => ?_)
              have hG := bnd_use ex44 hG
              refine lv_iconst (v := 3) hx hb d_X11_arrive_97 (by decide) ?_
              refine lv_icmp_ne (tgt := 112) hx hb d_X11_arrive_98 (by decide) (fun c45 => ?_) (fun c45 => ?_)
              · have f46 := i_ne c45
                have hG := g_neg c45 hG
                refine lv_iconst (v := 0) hx hb d_X11_arrive_112 (by decide) ?_
                refine lv_iadd hx hb d_X11_arrive_113 ?_
                refine lv_topi (fun x47 ex47 => ?_)
                have hG := bnd_use ex47 hG
                refine r_iast X hw hS (rfl : KD 415 = _) (Rg.vp (b := 19) r7 (by decide)) rfl d_X11_arrive_114 (fun H locs hw hS => ?_)
                obtain ⟨v48, ev48⟩ : ∃ z, z = up2 v38 415 y2.toNatClampNeg x47 := ⟨_, rfl⟩
                rw [← ev48] at hw
                have hG := bnd_use ev48 hG
                have hI49 : Inv v48 := by rw [ev48]; exact Inv.put0 hI39 _ rfl
                have hK50 : Kp (kp_X11_arrive_400 wi) v v48 := by rw [ev48]; exact Kp.put hK40 _ (by unfold kp_X11_arrive_400; omega)
                have hm51 : v48 400 27 = g0 := by rw [ev48, up2_n _ _ (by omega)]; exact hm41
                have hm52 : v48 400 1 = x1 := by rw [ev48, up2_n _ _ (by omega)]; exact hm42
                obtain ⟨x53, ex53⟩ : ∃ y : Int32, y = y2 + 1 := ⟨_, rfl⟩
                have hG := bnd_use ex53 hG
                refine lv_iinc (v := x53) (lv' := [(2, .int x53), (0, .ref (ad 400)), (1, .int wi)]) hx hb d_X11_arrive_115 hl (k := 2) rfl (by rw [ex53]; rfl) (by decide) rfl (fun ls hl => ?_)
                have r54 : Rg x53 1 20 := rg_add ex53 r7 (⟨by decide, by decide⟩ : Rg 1 1 1) (by decide) (by decide)
                have s55 : x53.toInt = y2.toInt + (1 : Int32).toInt := by rw [ex53]; exact i_add (by obtain ⟨_, _⟩ := r7; obtain ⟨_, _⟩ := (⟨by decide, by decide⟩ : Rg 1 1 1); omega) (by obtain ⟨_, _⟩ := r7; obtain ⟨_, _⟩ := (⟨by decide, by decide⟩ : Rg 1 1 1); omega)
                have s55l : (1 : Int32).toInt = 1 := rfl
                refine lv_goto (tgt := 2) hx hb d_X11_arrive_118 (by decide) ?_
                exact ih0 x53 v48 _ _ _ (by have q_ := r_g0; obtain ⟨_, _⟩ := q_; have q_ := r7; obtain ⟨_, _⟩ := q_; have q_ := r8; obtain ⟨_, _⟩ := q_; have q_ := r12; obtain ⟨_, _⟩ := q_; have q_ := r26; obtain ⟨_, _⟩ := q_; have q_ := r54; obtain ⟨_, _⟩ := q_; have q_ := rg_any wi; obtain ⟨_, _⟩ := q_; omega) (rg_w r54 (by decide) (by decide)) hI49 hK50 hm51 hG hw hS (lv_sub hl [1, 2, 0] rfl)
              · have f56 := i_eq c45
                have r57 : Rg x44 3 3 := by obtain ⟨a1, a2⟩ := (rg_any x44); obtain ⟨b1, b2⟩ := (⟨by decide, by decide⟩ : Rg 3 3 3); have f := i_eq c45; exact ⟨by omega, by omega⟩
                have hG := g_pos c45 hG
                refine lv_iconst (v := 3) hx hb d_X11_arrive_101 (by decide) ?_
                refine lv_aload_n hx hb d_X11_arrive_102 rfl (lv_at hl 0 rfl) ?_
                refine r_getr (r := 405) X hw FL_X11_16 (rfl : KD 400 = _) rfl d_X11_arrive_103 ?_
                refine lv_iload_n hx hb d_X11_arrive_106 rfl (lv_at hl 2 rfl) ?_
                refine r_iald X hw (rfl : KD 405 = _) (Rg.vp (b := 19) r7 (by decide)) rfl d_X11_arrive_107 ?_
                refine lv_topi (fun x58 ex58 => ?_)
                have hG := bnd_use ex58 hG
                refine lv_imul hx hb d_X11_arrive_108 ?_
                refine lv_topi (fun x59 ex59 => ?_)
                have hG := bnd_use ex59 hG
                refine lv_goto (tgt := 113) hx hb d_X11_arrive_109 (by decide) ?_
                refine lv_iadd hx hb d_X11_arrive_113 ?_
                refine lv_topi (fun x60 ex60 => ?_)
                have hG := bnd_use ex60 hG
                refine r_iast X hw hS (rfl : KD 415 = _) (Rg.vp (b := 19) r7 (by decide)) rfl d_X11_arrive_114 (fun H locs hw hS => ?_)
                obtain ⟨v61, ev61⟩ : ∃ z, z = up2 v38 415 y2.toNatClampNeg x60 := ⟨_, rfl⟩
                rw [← ev61] at hw
                have hG := bnd_use ev61 hG
                have hI62 : Inv v61 := by rw [ev61]; exact Inv.put0 hI39 _ rfl
                have hK63 : Kp (kp_X11_arrive_400 wi) v v61 := by rw [ev61]; exact Kp.put hK40 _ (by unfold kp_X11_arrive_400; omega)
                have hm64 : v61 400 27 = g0 := by rw [ev61, up2_n _ _ (by omega)]; exact hm41
                have hm65 : v61 400 1 = x1 := by rw [ev61, up2_n _ _ (by omega)]; exact hm42
                obtain ⟨x66, ex66⟩ : ∃ y : Int32, y = y2 + 1 := ⟨_, rfl⟩
                have hG := bnd_use ex66 hG
                refine lv_iinc (v := x66) (lv' := [(2, .int x66), (0, .ref (ad 400)), (1, .int wi)]) hx hb d_X11_arrive_115 hl (k := 2) rfl (by rw [ex66]; rfl) (by decide) rfl (fun ls hl => ?_)
                have r67 : Rg x66 1 20 := rg_add ex66 r7 (⟨by decide, by decide⟩ : Rg 1 1 1) (by decide) (by decide)
                have s68 : x66.toInt = y2.toInt + (1 : Int32).toInt := by rw [ex66]; exact i_add (by obtain ⟨_, _⟩ := r7; obtain ⟨_, _⟩ := (⟨by decide, by decide⟩ : Rg 1 1 1); omega) (by obtain ⟨_, _⟩ := r7; obtain ⟨_, _⟩ := (⟨by decide, by decide⟩ : Rg 1 1 1); omega)
                have s68l : (1 : Int32).toInt = 1 := rfl
                refine lv_goto (tgt := 2) hx hb d_X11_arrive_118 (by decide) ?_
                exact ih0 x66 v61 _ _ _ (by have q_ := r_g0; obtain ⟨_, _⟩ := q_; have q_ := r7; obtain ⟨_, _⟩ := q_; have q_ := r8; obtain ⟨_, _⟩ := q_; have q_ := r12; obtain ⟨_, _⟩ := q_; have q_ := r26; obtain ⟨_, _⟩ := q_; have q_ := r57; obtain ⟨_, _⟩ := q_; have q_ := r67; obtain ⟨_, _⟩ := q_; have q_ := rg_any wi; obtain ⟨_, _⟩ := q_; omega) (rg_w r67 (by decide) (by decide)) hI62 hK63 hm64 hG hw hS (lv_sub hl [1, 2, 0] rfl)
            · have f69 := i_nle c24
              have r70 : Rg x23 1 2147483647 := by obtain ⟨a1, a2⟩ := (rg_any x23); obtain ⟨b1, b2⟩ := (⟨by decide, by decide⟩ : Rg 0 0 0); have f := i_nle c24; exact ⟨by omega, by omega⟩
              have hG := g_neg c24 hG
              refine lv_goto (tgt := 115) hx hb d_X11_arrive_57 (by decide) ?_
              obtain ⟨x71, ex71⟩ : ∃ y : Int32, y = y2 + 1 := ⟨_, rfl⟩
              have hG := bnd_use ex71 hG
              refine lv_iinc (v := x71) (lv' := [(2, .int x71), (0, .ref (ad 400)), (1, .int wi)]) hx hb d_X11_arrive_115 hl (k := 2) rfl (by rw [ex71]; rfl) (by decide) rfl (fun ls hl => ?_)
              have r72 : Rg x71 1 20 := rg_add ex71 r7 (⟨by decide, by decide⟩ : Rg 1 1 1) (by decide) (by decide)
              have s73 : x71.toInt = y2.toInt + (1 : Int32).toInt := by rw [ex71]; exact i_add (by obtain ⟨_, _⟩ := r7; obtain ⟨_, _⟩ := (⟨by decide, by decide⟩ : Rg 1 1 1); omega) (by obtain ⟨_, _⟩ := r7; obtain ⟨_, _⟩ := (⟨by decide, by decide⟩ : Rg 1 1 1); omega)
              have s73l : (1 : Int32).toInt = 1 := rfl
              refine lv_goto (tgt := 2) hx hb d_X11_arrive_118 (by decide) ?_
              exact ih0 x71 v18 _ _ _ (by have q_ := r_g0; obtain ⟨_, _⟩ := q_; have q_ := r7; obtain ⟨_, _⟩ := q_; have q_ := r8; obtain ⟨_, _⟩ := q_; have q_ := r12; obtain ⟨_, _⟩ := q_; have q_ := r70; obtain ⟨_, _⟩ := q_; have q_ := r72; obtain ⟨_, _⟩ := q_; have q_ := rg_any wi; obtain ⟨_, _⟩ := q_; omega) (rg_w r72 (by decide) (by decide)) hI19 hK20 hm21 hG hw hS (lv_sub hl [1, 2, 0] rfl)
          · have f74 := i_eq c15
            have r75 : Rg x14 1 1 := by obtain ⟨a1, a2⟩ := (rg_any x14); obtain ⟨b1, b2⟩ := (⟨by decide, by decide⟩ : Rg 1 1 1); have f := i_eq c15; exact ⟨by omega, by omega⟩
            have hG := g_pos c15 hG
            refine lv_iconst (v := 2) hx hb d_X11_arrive_39 (by decide) ?_
            refine lv_iload_n hx hb d_X11_arrive_40 rfl (lv_at hl 1 rfl) ?_
            refine lv_imul hx hb d_X11_arrive_41 ?_
            refine lv_topi (fun x76 ex76 => ?_)
            have hG := bnd_use ex76 hG
            refine lv_goto (tgt := 46) hx hb d_X11_arrive_42 (by decide) ?_
            refine lv_isub hx hb d_X11_arrive_46 ?_
            refine lv_topi (fun x77 ex77 => ?_)
            have hG := bnd_use ex77 hG
            refine r_iast X hw hS (rfl : KD 408 = _) (Rg.vp (b := 19) r7 (by decide)) rfl d_X11_arrive_47 (fun H locs hw hS => ?_)
            obtain ⟨v78, ev78⟩ : ∃ z, z = up2 v1 408 y2.toNatClampNeg x77 := ⟨_, rfl⟩
            rw [← ev78] at hw
            have hG := bnd_use ev78 hG
            have hI79 : Inv v78 := by rw [ev78]; exact Inv.put0 hI1 _ rfl
            have hK80 : Kp (kp_X11_arrive_400 wi) v v78 := by rw [ev78]; exact Kp.put hK1 _ (by unfold kp_X11_arrive_400; omega)
            have hm81 : v78 400 27 = g0 := by rw [ev78, up2_n _ _ (by omega)]; exact hfx0
            have hm82 : v78 400 1 = x1 := by rw [ev78, up2_n _ _ (by omega)]; exact hm3
            refine lv_aload_n hx hb d_X11_arrive_48 rfl (lv_at hl 0 rfl) ?_
            refine r_getr (r := 408) X hw FL_X11_25 (rfl : KD 400 = _) rfl d_X11_arrive_49 ?_
            refine lv_iload_n hx hb d_X11_arrive_52 rfl (lv_at hl 2 rfl) ?_
            refine r_iald X hw (rfl : KD 408 = _) (Rg.vp (b := 19) r7 (by decide)) rfl d_X11_arrive_53 ?_
            refine lv_topi (fun x83 ex83 => ?_)
            have hG := bnd_use ex83 hG
            refine lv_if_le (tgt := 60) hx hb d_X11_arrive_54 (by decide) (fun c84 => ?_) (fun c84 => ?_)
            · have f85 := i_le c84
              have r86 : Rg x83 (-2147483648) 0 := by obtain ⟨a1, a2⟩ := (rg_any x83); obtain ⟨b1, b2⟩ := (⟨by decide, by decide⟩ : Rg 0 0 0); have f := i_le c84; exact ⟨by omega, by omega⟩
              have hG := g_pos c84 hG
              refine lv_aload_n hx hb d_X11_arrive_60 rfl (lv_at hl 0 rfl) ?_
              refine r_getr (r := 408) X hw FL_X11_25 (rfl : KD 400 = _) rfl d_X11_arrive_61 ?_
              refine lv_iload_n hx hb d_X11_arrive_64 rfl (lv_at hl 2 rfl) ?_
              refine lv_iconst (v := 0) hx hb d_X11_arrive_65 (by decide) ?_
              refine r_iast X hw hS (rfl : KD 408 = _) (Rg.vp (b := 19) r7 (by decide)) rfl d_X11_arrive_66 (fun H locs hw hS => ?_)
              obtain ⟨v87, ev87⟩ : ∃ z, z = up2 v78 408 y2.toNatClampNeg 0 := ⟨_, rfl⟩
              rw [← ev87] at hw
              have hG := bnd_use ev87 hG
              have hI88 : Inv v87 := by rw [ev87]; exact Inv.put0 hI79 _ rfl
              have hK89 : Kp (kp_X11_arrive_400 wi) v v87 := by rw [ev87]; exact Kp.put hK80 _ (by unfold kp_X11_arrive_400; omega)
              have hm90 : v87 400 27 = g0 := by rw [ev87, up2_n _ _ (by omega)]; exact hm81
              have hm91 : v87 400 1 = x1 := by rw [ev87, up2_n _ _ (by omega)]; exact hm82
              refine lv_aload_n hx hb d_X11_arrive_67 rfl (lv_at hl 0 rfl) ?_
              refine r_getr (r := 410) X hw FL_X11_31 (rfl : KD 400 = _) rfl d_X11_arrive_68 ?_
              refine lv_iload_n hx hb d_X11_arrive_71 rfl (lv_at hl 2 rfl) ?_
              refine lv_iconst (v := 1) hx hb d_X11_arrive_72 (by decide) ?_
              refine r_iast X hw hS (rfl : KD 410 = _) (Rg.vp (b := 19) r7 (by decide)) rfl d_X11_arrive_73 (fun H locs hw hS => ?_)
              obtain ⟨v92, ev92⟩ : ∃ z, z = up2 v87 410 y2.toNatClampNeg 1 := ⟨_, rfl⟩
              rw [← ev92] at hw
              have hG := bnd_use ev92 hG
              have hI93 : Inv v92 := by rw [ev92]; exact Inv.put0 hI88 _ rfl
              have hK94 : Kp (kp_X11_arrive_400 wi) v v92 := by rw [ev92]; exact Kp.put hK89 _ (by unfold kp_X11_arrive_400; omega)
              have hm95 : v92 400 27 = g0 := by rw [ev92, up2_n _ _ (by omega)]; exact hm90
              have hm96 : v92 400 1 = x1 := by rw [ev92, up2_n _ _ (by omega)]; exact hm91
              refine lv_aload_n hx hb d_X11_arrive_74 rfl (lv_at hl 0 rfl) ?_
              refine r_getr (r := 411) X hw FL_X11_34 (rfl : KD 400 = _) rfl d_X11_arrive_75 ?_
              refine lv_iload_n hx hb d_X11_arrive_78 rfl (lv_at hl 2 rfl) ?_
              refine lv_aload_n hx hb d_X11_arrive_79 rfl (lv_at hl 0 rfl) ?_
              refine r_geti X hw FL_X11_227 (rfl : KD 400 = _) rfl d_X11_arrive_80 ?_
              refine lv_topi (fun x97 ex97 => ?_)
              have hG := bnd_use ex97 hG
              refine r_iast X hw hS (rfl : KD 411 = _) (Rg.vp (b := 19) r7 (by decide)) rfl d_X11_arrive_83 (fun H locs hw hS => ?_)
              obtain ⟨v98, ev98⟩ : ∃ z, z = up2 v92 411 y2.toNatClampNeg x97 := ⟨_, rfl⟩
              rw [← ev98] at hw
              have hG := bnd_use ev98 hG
              have hI99 : Inv v98 := by rw [ev98]; exact Inv.put0 hI93 _ rfl
              have hK100 : Kp (kp_X11_arrive_400 wi) v v98 := by rw [ev98]; exact Kp.put hK94 _ (by unfold kp_X11_arrive_400; omega)
              have hm101 : v98 400 27 = g0 := by rw [ev98, up2_n _ _ (by omega)]; exact hm95
              have hm102 : v98 400 1 = x1 := by rw [ev98, up2_n _ _ (by omega)]; exact hm96
              refine lv_aload_n hx hb d_X11_arrive_84 rfl (lv_at hl 0 rfl) ?_
              refine r_getr (r := 415) X hw FL_X11_46 (rfl : KD 400 = _) rfl d_X11_arrive_85 ?_
              refine lv_iload_n hx hb d_X11_arrive_88 rfl (lv_at hl 2 rfl) ?_
              refine lv_dup2_11 hx hb d_X11_arrive_89 rfl rfl ?_
              refine r_iald X hw (rfl : KD 415 = _) (Rg.vp (b := 19) r7 (by decide)) rfl d_X11_arrive_90 ?_
              refine lv_topi (fun x103 ex103 => ?_)
              have hG := bnd_use ex103 hG
              refine lv_aload_n hx hb d_X11_arrive_91 rfl (lv_at hl 0 rfl) ?_
              refine r_getr (r := 403) X hw FL_X11_7 (rfl : KD 400 = _) rfl d_X11_arrive_92 ?_
              refine lv_iload_n hx hb d_X11_arrive_95 rfl (lv_at hl 2 rfl) ?_
              refine r_iald X hw (rfl : KD 403 = _) (Rg.vp (b := 19) r7 (by decide)) rfl d_X11_arrive_96 ?_
              refine lv_topi (fun x104 ex104 => ?_)
              have hG := bnd_use ex104 hG
              refine lv_iconst (v := 3) hx hb d_X11_arrive_97 (by decide) ?_
              refine lv_icmp_ne (tgt := 112) hx hb d_X11_arrive_98 (by decide) (fun c105 => ?_) (fun c105 => ?_)
              · have f106 := i_ne c105
                have hG := g_neg c105 hG
                refine lv_iconst (v := 0) hx hb d_X11_arrive_112 (by decide) ?_
                refine lv_iadd hx hb d_X11_arrive_113 ?_
                refine lv_topi (fun x107 ex107 => ?_)
                have hG := bnd_use ex107 hG
                refine r_iast X hw hS (rfl : KD 415 = _) (Rg.vp (b := 19) r7 (by decide)) rfl d_X11_arrive_114 (fun H locs hw hS => ?_)
                obtain ⟨v108, ev108⟩ : ∃ z, z = up2 v98 415 y2.toNatClampNeg x107 := ⟨_, rfl⟩
                rw [← ev108] at hw
                have hG := bnd_use ev108 hG
                have hI109 : Inv v108 := by rw [ev108]; exact Inv.put0 hI99 _ rfl
                have hK110 : Kp (kp_X11_arrive_400 wi) v v108 := by rw [ev108]; exact Kp.put hK100 _ (by unfold kp_X11_arrive_400; omega)
                have hm111 : v108 400 27 = g0 := by rw [ev108, up2_n _ _ (by omega)]; exact hm101
                have hm112 : v108 400 1 = x1 := by rw [ev108, up2_n _ _ (by omega)]; exact hm102
                obtain ⟨x113, ex113⟩ : ∃ y : Int32, y = y2 + 1 := ⟨_, rfl⟩
                have hG := bnd_use ex113 hG
                refine lv_iinc (v := x113) (lv' := [(2, .int x113), (0, .ref (ad 400)), (1, .int wi)]) hx hb d_X11_arrive_115 hl (k := 2) rfl (by rw [ex113]; rfl) (by decide) rfl (fun ls hl => ?_)
                have r114 : Rg x113 1 20 := rg_add ex113 r7 (⟨by decide, by decide⟩ : Rg 1 1 1) (by decide) (by decide)
                have s115 : x113.toInt = y2.toInt + (1 : Int32).toInt := by rw [ex113]; exact i_add (by obtain ⟨_, _⟩ := r7; obtain ⟨_, _⟩ := (⟨by decide, by decide⟩ : Rg 1 1 1); omega) (by obtain ⟨_, _⟩ := r7; obtain ⟨_, _⟩ := (⟨by decide, by decide⟩ : Rg 1 1 1); omega)
                have s115l : (1 : Int32).toInt = 1 := rfl
                refine lv_goto (tgt := 2) hx hb d_X11_arrive_118 (by decide) ?_
                exact ih0 x113 v108 _ _ _ (by have q_ := r_g0; obtain ⟨_, _⟩ := q_; have q_ := r7; obtain ⟨_, _⟩ := q_; have q_ := r8; obtain ⟨_, _⟩ := q_; have q_ := r12; obtain ⟨_, _⟩ := q_; have q_ := r75; obtain ⟨_, _⟩ := q_; have q_ := r86; obtain ⟨_, _⟩ := q_; have q_ := r114; obtain ⟨_, _⟩ := q_; have q_ := rg_any wi; obtain ⟨_, _⟩ := q_; omega) (rg_w r114 (by decide) (by decide)) hI109 hK110 hm111 hG hw hS (lv_sub hl [1, 2, 0] rfl)
              · have f116 := i_eq c105
                have r117 : Rg x104 3 3 := by obtain ⟨a1, a2⟩ := (rg_any x104); obtain ⟨b1, b2⟩ := (⟨by decide, by decide⟩ : Rg 3 3 3); have f := i_eq c105; exact ⟨by omega, by omega⟩
                have hG := g_pos c105 hG
                refine lv_iconst (v := 3) hx hb d_X11_arrive_101 (by decide) ?_
                refine lv_aload_n hx hb d_X11_arrive_102 rfl (lv_at hl 0 rfl) ?_
                refine r_getr (r := 405) X hw FL_X11_16 (rfl : KD 400 = _) rfl d_X11_arrive_103 ?_
                refine lv_iload_n hx hb d_X11_arrive_106 rfl (lv_at hl 2 rfl) ?_
                refine r_iald X hw (rfl : KD 405 = _) (Rg.vp (b := 19) r7 (by decide)) rfl d_X11_arrive_107 ?_
                refine lv_topi (fun x118 ex118 => ?_)
                have hG := bnd_use ex118 hG
                refine lv_imul hx hb d_X11_arrive_108 ?_
                refine lv_topi (fun x119 ex119 => ?_)
                have hG := bnd_use ex119 hG
                refine lv_goto (tgt := 113) hx hb d_X11_arrive_109 (by decide) ?_
                refine lv_iadd hx hb d_X11_arrive_113 ?_
                refine lv_topi (fun x120 ex120 => ?_)
                have hG := bnd_use ex120 hG
                refine r_iast X hw hS (rfl : KD 415 = _) (Rg.vp (b := 19) r7 (by decide)) rfl d_X11_arrive_114 (fun H locs hw hS => ?_)
                obtain ⟨v121, ev121⟩ : ∃ z, z = up2 v98 415 y2.toNatClampNeg x120 := ⟨_, rfl⟩
                rw [← ev121] at hw
                have hG := bnd_use ev121 hG
                have hI122 : Inv v121 := by rw [ev121]; exact Inv.put0 hI99 _ rfl
                have hK123 : Kp (kp_X11_arrive_400 wi) v v121 := by rw [ev121]; exact Kp.put hK100 _ (by unfold kp_X11_arrive_400; omega)
                have hm124 : v121 400 27 = g0 := by rw [ev121, up2_n _ _ (by omega)]; exact hm101
                have hm125 : v121 400 1 = x1 := by rw [ev121, up2_n _ _ (by omega)]; exact hm102
                obtain ⟨x126, ex126⟩ : ∃ y : Int32, y = y2 + 1 := ⟨_, rfl⟩
                have hG := bnd_use ex126 hG
                refine lv_iinc (v := x126) (lv' := [(2, .int x126), (0, .ref (ad 400)), (1, .int wi)]) hx hb d_X11_arrive_115 hl (k := 2) rfl (by rw [ex126]; rfl) (by decide) rfl (fun ls hl => ?_)
                have r127 : Rg x126 1 20 := rg_add ex126 r7 (⟨by decide, by decide⟩ : Rg 1 1 1) (by decide) (by decide)
                have s128 : x126.toInt = y2.toInt + (1 : Int32).toInt := by rw [ex126]; exact i_add (by obtain ⟨_, _⟩ := r7; obtain ⟨_, _⟩ := (⟨by decide, by decide⟩ : Rg 1 1 1); omega) (by obtain ⟨_, _⟩ := r7; obtain ⟨_, _⟩ := (⟨by decide, by decide⟩ : Rg 1 1 1); omega)
                have s128l : (1 : Int32).toInt = 1 := rfl
                refine lv_goto (tgt := 2) hx hb d_X11_arrive_118 (by decide) ?_
                exact ih0 x126 v121 _ _ _ (by have q_ := r_g0; obtain ⟨_, _⟩ := q_; have q_ := r7; obtain ⟨_, _⟩ := q_; have q_ := r8; obtain ⟨_, _⟩ := q_; have q_ := r12; obtain ⟨_, _⟩ := q_; have q_ := r75; obtain ⟨_, _⟩ := q_; have q_ := r86; obtain ⟨_, _⟩ := q_; have q_ := r117; obtain ⟨_, _⟩ := q_; have q_ := r127; obtain ⟨_, _⟩ := q_; have q_ := rg_any wi; obtain ⟨_, _⟩ := q_; omega) (rg_w r127 (by decide) (by decide)) hI122 hK123 hm124 hG hw hS (lv_sub hl [1, 2, 0] rfl)
            · have f129 := i_nle c84
              have r130 : Rg x83 1 2147483647 := by obtain ⟨a1, a2⟩ := (rg_any x83); obtain ⟨b1, b2⟩ := (⟨by decide, by decide⟩ : Rg 0 0 0); have f := i_nle c84; exact ⟨by omega, by omega⟩
              have hG := g_neg c84 hG
              refine lv_goto (tgt := 115) hx hb d_X11_arrive_57 (by decide) ?_
              obtain ⟨x131, ex131⟩ : ∃ y : Int32, y = y2 + 1 := ⟨_, rfl⟩
              have hG := bnd_use ex131 hG
              refine lv_iinc (v := x131) (lv' := [(2, .int x131), (0, .ref (ad 400)), (1, .int wi)]) hx hb d_X11_arrive_115 hl (k := 2) rfl (by rw [ex131]; rfl) (by decide) rfl (fun ls hl => ?_)
              have r132 : Rg x131 1 20 := rg_add ex131 r7 (⟨by decide, by decide⟩ : Rg 1 1 1) (by decide) (by decide)
              have s133 : x131.toInt = y2.toInt + (1 : Int32).toInt := by rw [ex131]; exact i_add (by obtain ⟨_, _⟩ := r7; obtain ⟨_, _⟩ := (⟨by decide, by decide⟩ : Rg 1 1 1); omega) (by obtain ⟨_, _⟩ := r7; obtain ⟨_, _⟩ := (⟨by decide, by decide⟩ : Rg 1 1 1); omega)
              have s133l : (1 : Int32).toInt = 1 := rfl
              refine lv_goto (tgt := 2) hx hb d_X11_arrive_118 (by decide) ?_
              exact ih0 x131 v78 _ _ _ (by have q_ := r_g0; obtain ⟨_, _⟩ := q_; have q_ := r7; obtain ⟨_, _⟩ := q_; have q_ := r8; obtain ⟨_, _⟩ := q_; have q_ := r12; obtain ⟨_, _⟩ := q_; have q_ := r75; obtain ⟨_, _⟩ := q_; have q_ := r130; obtain ⟨_, _⟩ := q_; have q_ := r132; obtain ⟨_, _⟩ := q_; have q_ := rg_any wi; obtain ⟨_, _⟩ := q_; omega) (rg_w r132 (by decide) (by decide)) hI79 hK80 hm81 hG hw hS (lv_sub hl [1, 2, 0] rfl)
        · have f134 := i_ne c10
          have hG := g_neg c10 hG
          refine lv_goto (tgt := 115) hx hb d_X11_arrive_19 (by decide) ?_
          obtain ⟨x135, ex135⟩ : ∃ y : Int32, y = y2 + 1 := ⟨_, rfl⟩
          have hG := bnd_use ex135 hG
          refine lv_iinc (v := x135) (lv' := [(2, .int x135), (0, .ref (ad 400)), (1, .int wi)]) hx hb d_X11_arrive_115 hl (k := 2) rfl (by rw [ex135]; rfl) (by decide) rfl (fun ls hl => ?_)
          have r136 : Rg x135 1 20 := rg_add ex135 r7 (⟨by decide, by decide⟩ : Rg 1 1 1) (by decide) (by decide)
          have s137 : x135.toInt = y2.toInt + (1 : Int32).toInt := by rw [ex135]; exact i_add (by obtain ⟨_, _⟩ := r7; obtain ⟨_, _⟩ := (⟨by decide, by decide⟩ : Rg 1 1 1); omega) (by obtain ⟨_, _⟩ := r7; obtain ⟨_, _⟩ := (⟨by decide, by decide⟩ : Rg 1 1 1); omega)
          have s137l : (1 : Int32).toInt = 1 := rfl
          refine lv_goto (tgt := 2) hx hb d_X11_arrive_118 (by decide) ?_
          exact ih0 x135 v1 _ _ _ (by have q_ := r_g0; obtain ⟨_, _⟩ := q_; have q_ := r7; obtain ⟨_, _⟩ := q_; have q_ := r8; obtain ⟨_, _⟩ := q_; have q_ := r136; obtain ⟨_, _⟩ := q_; have q_ := rg_any wi; obtain ⟨_, _⟩ := q_; omega) (rg_w r136 (by decide) (by decide)) hI1 hK1 hfx0 hG hw hS (lv_sub hl [1, 2, 0] rfl)
  have ih0 := LL 100000
  have hK0 : Kp (kp_X11_arrive_400 wi) v v := Kp.rf _ v
  have hG := eRR
  unfold f_X11_arrive_400 at hG
  have hG := bnd_use hg0.symm hG
  refine lv_iconst (v := 0) hx hb d_X11_arrive_0 (by decide) ?_
  refine lv_istore_n (lv' := [(2, .int 0), (0, .ref (ad 400)), (1, .int wi)]) hx hb d_X11_arrive_1 rfl hl (by decide) rfl (fun ls hl => ?_)
  exact ih0 0 v _ _ _ (by have q_ := r_g0; obtain ⟨_, _⟩ := q_; have q_ := rg_any wi; obtain ⟨_, _⟩ := q_; have q_ : (0 : Int32).toInt = 0 := rfl; omega) (rg_w (⟨by decide, by decide⟩ : Rg 0 0 0) (by decide) (by decide)) hI hK0 hg0 hG hw hS (lv_sub hl [1, 2, 0] rfl)
/-- how many of the first n are of a kind -/
def cKa (f : Nat → Int32) : Nat → Nat
  | 0 => 0
  | n + 1 => cKa f n + (if (f n).toInt ≤ 1 then 1 else 0)
def cKb (f : Nat → Int32) : Nat → Nat
  | 0 => 0
  | n + 1 => cKb f n + (if (f n).toInt = 2 then 1 else 0)
def cW (f : Nat → Int32) : Nat → Nat
  | 0 => 0
  | n + 1 => cW f n + (if 0 < (f n).toInt then 1 else 0)
theorem cKa_le (f : Nat → Int32) (n : Nat) : cKa f n ≤ n := by
  induction n with
  | zero => exact Nat.le_refl 0
  | succ n ih => unfold cKa; split <;> omega
theorem cKa_up (f : Nat → Int32) {a b : Nat} (h : a ≤ b) : cKa f a ≤ cKa f b := by
  induction b with
  | zero => rw [Nat.le_zero.mp h]; exact Nat.le_refl _
  | succ b ih =>
    by_cases q : a = b + 1
    · rw [q]; exact Nat.le_refl _
    · have := ih (by omega)
      have e : cKa f (b + 1) = cKa f b + (if (f b).toInt ≤ 1 then 1 else 0) := rfl
      rw [e]; split <;> omega
theorem cKb_up (f : Nat → Int32) {a b : Nat} (h : a ≤ b) : cKb f a ≤ cKb f b := by
  induction b with
  | zero => rw [Nat.le_zero.mp h]; exact Nat.le_refl _
  | succ b ih =>
    by_cases q : a = b + 1
    · rw [q]; exact Nat.le_refl _
    · have := ih (by omega)
      have e : cKb f (b + 1) = cKb f b + (if (f b).toInt = 2 then 1 else 0) := rfl
      rw [e]; split <;> omega
theorem cKab (f : Nat → Int32) (n : Nat) : cKa f n + cKb f n ≤ n := by
  induction n with
  | zero => exact Nat.le_refl 0
  | succ n ih => unfold cKa cKb; split <;> split <;> omega
theorem cKa_s (f : Nat → Int32) (n : Nat) (h : (f n).toInt ≤ 1) : cKa f (n + 1) = cKa f n + 1 := by
  show cKa f n + (if (f n).toInt ≤ 1 then 1 else 0) = _
  rw [if_pos h]
theorem cKb_s (f : Nat → Int32) (n : Nat) (h : (f n).toInt = 2) : cKb f (n + 1) = cKb f n + 1 := by
  show cKb f n + (if (f n).toInt = 2 then 1 else 0) = _
  rw [if_pos h]
theorem cW_le (f : Nat → Int32) (n : Nat) : cW f n ≤ n := by
  induction n with
  | zero => exact Nat.le_refl 0
  | succ n ih => unfold cW; split <;> omega
theorem cW_pos (f : Nat → Int32) {j n : Nat} (h : j < n) (hp : 0 < (f j).toInt) : 1 ≤ cW f n := by
  induction n with
  | zero => omega
  | succ n ih =>
    unfold cW
    by_cases q : j = n
    · rw [← q, if_pos hp]; omega
    · have := ih (by omega)
      omega
theorem cW_eq (f g : Nat → Int32) (n : Nat) (h : ∀ i, i < n → g i = f i) : cW g n = cW f n := by
  induction n with
  | zero => rfl
  | succ n ih =>
    unfold cW
    rw [ih (fun i hi => h i (by omega)), h n (by omega)]
theorem cW_dec (f g : Nat → Int32) {j n : Nat} (h : ∀ i, i ≠ j → g i = f i) (hj : j < n) (hp : 0 < (f j).toInt) (hg : (g j).toInt ≤ 0) : cW g n + 1 = cW f n := by
  induction n with
  | zero => omega
  | succ n ih =>
    unfold cW
    by_cases q : j = n
    · rw [← q, if_pos hp, if_neg (by omega), cW_eq f g j (fun i hi => h i (by omega))]
    · rw [h n (fun z => q z.symm)]
      have := ih (by omega)
      omega
theorem d_X11_next_0 : decode c_X11_next 0 = .ok (.iconst (-1), 1) := by decide +kernel
theorem d_X11_next_1 : decode c_X11_next 1 = .ok (.istore_n 2, 1) := by decide +kernel
theorem d_X11_next_2 : decode c_X11_next 2 = .ok (.iconst 0, 1) := by decide +kernel
theorem d_X11_next_3 : decode c_X11_next 3 = .ok (.istore_n 3, 1) := by decide +kernel
theorem d_X11_next_4 : decode c_X11_next 4 = .ok (.iload_n 3, 1) := by decide +kernel
theorem d_X11_next_5 : decode c_X11_next 5 = .ok (.aload_n 0, 1) := by decide +kernel
theorem d_X11_next_6 : decode c_X11_next 6 = .ok (.getfield 173, 3) := by decide +kernel
theorem d_X11_next_9 : decode c_X11_next 9 = .ok (.if_icmp .ge 69, 3) := by decide +kernel
theorem d_X11_next_12 : decode c_X11_next 12 = .ok (.aload_n 0, 1) := by decide +kernel
theorem d_X11_next_13 : decode c_X11_next 13 = .ok (.getfield 52, 3) := by decide +kernel
theorem d_X11_next_16 : decode c_X11_next 16 = .ok (.iload_n 3, 1) := by decide +kernel
theorem d_X11_next_17 : decode c_X11_next 17 = .ok (.iaload, 1) := by decide +kernel
theorem d_X11_next_18 : decode c_X11_next 18 = .ok (.aload_n 0, 1) := by decide +kernel
theorem d_X11_next_19 : decode c_X11_next 19 = .ok (.getfield 13, 3) := by decide +kernel
theorem d_X11_next_22 : decode c_X11_next 22 = .ok (.iload_n 1, 1) := by decide +kernel
theorem d_X11_next_23 : decode c_X11_next 23 = .ok (.iaload, 1) := by decide +kernel
theorem d_X11_next_24 : decode c_X11_next 24 = .ok (.if_icmp .ne 48, 3) := by decide +kernel
theorem d_X11_next_27 : decode c_X11_next 27 = .ok (.aload_n 0, 1) := by decide +kernel
theorem d_X11_next_28 : decode c_X11_next 28 = .ok (.getfield 55, 3) := by decide +kernel
theorem d_X11_next_31 : decode c_X11_next 31 = .ok (.iload_n 3, 1) := by decide +kernel
theorem d_X11_next_32 : decode c_X11_next 32 = .ok (.iaload, 1) := by decide +kernel
theorem d_X11_next_33 : decode c_X11_next 33 = .ok (.ifCond .le 39, 3) := by decide +kernel
theorem d_X11_next_36 : decode c_X11_next 36 = .ok (.aload_n 0, 1) := by decide +kernel
theorem d_X11_next_37 : decode c_X11_next 37 = .ok (.getfield 58, 3) := by decide +kernel
theorem d_X11_next_40 : decode c_X11_next 40 = .ok (.iload_n 3, 1) := by decide +kernel
theorem d_X11_next_41 : decode c_X11_next 41 = .ok (.iaload, 1) := by decide +kernel
theorem d_X11_next_42 : decode c_X11_next 42 = .ok (.aload_n 0, 1) := by decide +kernel
theorem d_X11_next_43 : decode c_X11_next 43 = .ok (.getfield 19, 3) := by decide +kernel
theorem d_X11_next_46 : decode c_X11_next 46 = .ok (.iload_n 1, 1) := by decide +kernel
theorem d_X11_next_47 : decode c_X11_next 47 = .ok (.iaload, 1) := by decide +kernel
theorem d_X11_next_48 : decode c_X11_next 48 = .ok (.if_icmp .lt 24, 3) := by decide +kernel
theorem d_X11_next_51 : decode c_X11_next 51 = .ok (.iload_n 2, 1) := by decide +kernel
theorem d_X11_next_52 : decode c_X11_next 52 = .ok (.ifCond .lt 18, 3) := by decide +kernel
theorem d_X11_next_55 : decode c_X11_next 55 = .ok (.aload_n 0, 1) := by decide +kernel
theorem d_X11_next_56 : decode c_X11_next 56 = .ok (.getfield 58, 3) := by decide +kernel
theorem d_X11_next_59 : decode c_X11_next 59 = .ok (.iload_n 3, 1) := by decide +kernel
theorem d_X11_next_60 : decode c_X11_next 60 = .ok (.iaload, 1) := by decide +kernel
theorem d_X11_next_61 : decode c_X11_next 61 = .ok (.aload_n 0, 1) := by decide +kernel
theorem d_X11_next_62 : decode c_X11_next 62 = .ok (.getfield 58, 3) := by decide +kernel
theorem d_X11_next_65 : decode c_X11_next 65 = .ok (.iload_n 2, 1) := by decide +kernel
theorem d_X11_next_66 : decode c_X11_next 66 = .ok (.iaload, 1) := by decide +kernel
theorem d_X11_next_67 : decode c_X11_next 67 = .ok (.if_icmp .le 5, 3) := by decide +kernel
theorem d_X11_next_70 : decode c_X11_next 70 = .ok (.iload_n 3, 1) := by decide +kernel
theorem d_X11_next_71 : decode c_X11_next 71 = .ok (.istore_n 2, 1) := by decide +kernel
theorem d_X11_next_72 : decode c_X11_next 72 = .ok (.iinc 3 1, 3) := by decide +kernel
theorem d_X11_next_75 : decode c_X11_next 75 = .ok (.goto (-71), 3) := by decide +kernel
theorem d_X11_next_78 : decode c_X11_next 78 = .ok (.iload_n 2, 1) := by decide +kernel
theorem d_X11_next_79 : decode c_X11_next 79 = .ok (.ireturn, 1) := by decide +kernel
def b_X11_next_400_4 (v : tV) (si : Int32) (rc4 : Int32 → Int32 → Int32) (y2 : Int32) (y3 : Int32) : Int32 := bnd (v 400 15) fun x1 => (if x1 ≤ y3 then y2 else bnd (v 418 y3.toNatClampNeg) fun x9 => bnd (v 404 si.toNatClampNeg) fun x10 => (if x9 = x10 then bnd (v 419 y3.toNatClampNeg) fun x17 => (if x17 ≤ (0 : Int32) then bnd (y3 + 1) fun x22 => rc4 y2 x22 else bnd (v 420 y3.toNatClampNeg) fun x27 => bnd (v 406 si.toNatClampNeg) fun x28 => (if x27 < x28 then bnd (y3 + 1) fun x31 => rc4 y2 x31 else (if y2 < (0 : Int32) then bnd (y3 + 1) fun x38 => rc4 y3 x38 else bnd (v 420 y3.toNatClampNeg) fun x43 => bnd (v 420 y2.toNatClampNeg) fun x44 => (if x43 ≤ x44 then bnd (y3 + 1) fun x47 => rc4 y2 x47 else bnd (y3 + 1) fun x51 => rc4 y3 x51)))) else bnd (y3 + 1) fun x13 => rc4 y2 x13))
def g_X11_next_400_4 (v : tV) (si : Int32) : Nat → Int32 → Int32 → Int32
  | 0, _, _ => 0
  | n + 1, y2, y3 => b_X11_next_400_4 v si (g_X11_next_400_4 v si n) y2 y3
def f_X11_next_400 (v : tV) (si : Int32) : Int32 := g_X11_next_400_4 v si 100000 (-1) 0
set_option maxHeartbeats 4000000 in
set_option maxRecDepth 100000 in
theorem ct_X11_next_400 (l : Launch) (D : va_G) (dA : Nat → ClassId) (ad : Nat → Nat) (v : tV) (hI : Inv v) (si : Int32) (r_si : Rg si 0 19) : Met l m_X11_next [.code m_X11_next c_X11_next 4 (some .int)] ({ frames := 1, cells := 0, slots := 0, locals := 40 } : Room) (tP D dA ad v [.ref (ad 400), .int si]) (tQi D dA ad (fun r v' => (v' = v ∧ Rg r (-1) 9 ∧ (0 ≤ r.toInt → 0 < (v 419 r.toNatClampNeg).toInt)) ∧ r = f_X11_next_400 v si)) 0 0 (tA ad) := by
  refine tMet (by decide) (Nat.le_of_ble_eq_true rfl) ?_
  intro p e s m below meth c ls X hr hlocks hw hl
  have X : CX p s m ([.ref (ad 400), .int si] : List Value).toArray c c_X11_next N_X11 4 D dA := X
  have hx := X.1
  have hb := X.2.1
  have hS : va_S (tA ad) s.heap s.heap [] := va_S.rf
  have hl : lv_has ls 4 [(0, .ref (ad 400)), (1, .int si)] := hl
  obtain ⟨RR, eRR⟩ : ∃ z, f_X11_next_400 v si = z := ⟨_, rfl⟩
  have LL : ∀ n : Nat, (∀ (y2 : Int32) (y3 : Int32)  (H : Heap) (locs : List Loc) (ls : Array Slot), (10 - y3.toInt).toNat < n → Rg y2 (-1) 9 → Rg y3 0 10 → (0 ≤ y2.toInt → 0 < (v 419 y2.toNatClampNeg).toInt) → g_X11_next_400_4 v si n y2 y3 = RR → tI D dA ad v H → va_S (tA ad) s.heap H locs → lv_has ls 4 [(0, .ref (ad 400)), (1, .int si), (2, .int y2), (3, .int y3)] → W p l e ({ frames := 1, cells := 0, slots := 0, locals := 40 } : Room) s m ([.ref (ad 400), .int si] : List Value).toArray below meth c H locs 0 0 (MQ below (tQi D dA ad (fun r v' => (v' = v ∧ Rg r (-1) 9 ∧ (0 ≤ r.toInt → 0 < (v 419 r.toNatClampNeg).toInt)) ∧ r = f_X11_next_400 v si)) ([.ref (ad 400), .int si] : List Value).toArray s 0 0 (tA ad)) (F0 m 4 ls [])) := by
    intro n
    induction n with
    | zero => intros; omega
    | succ n ih =>
      have ih0 := ih
      intro y2 y3 H locs ls hmu r_y2 r_y3 hex hG hw hS hl
      have hG : b_X11_next_400_4 v si (g_X11_next_400_4 v si n) y2 y3 = RR := hG
      unfold b_X11_next_400_4 at hG
      refine lv_iload_n hx hb d_X11_next_4 rfl (lv_at hl 3 rfl) ?_
      refine lv_aload_n hx hb d_X11_next_5 rfl (lv_at hl 0 rfl) ?_
      refine r_geti X hw FL_X11_173 (rfl : KD 400 = _) rfl d_X11_next_6 ?_
      refine lv_topi (fun x1 ex1 => ?_)
      have hG := bnd_use ex1 hG
      have r2 : Rg x1 0 10 := by rw [ex1]; exact hI _ _ _ _ rfl
      have hm3 : v 400 15 = x1 := ex1.symm
      refine lv_icmp_ge (tgt := 78) hx hb d_X11_next_9 (by decide) (fun c4 => ?_) (fun c4 => ?_)
      · have f5 := i_le c4
        have hG := g_pos c4 hG
        refine lv_iload_n hx hb d_X11_next_78 rfl (lv_at hl 2 rfl) ?_
        exact r_iret X hr hlocks hw hS ⟨⟨rfl, r_y2, hex⟩, hG.trans eRR.symm⟩ d_X11_next_79
      · have f6 := i_nle c4
        have r7 : Rg y3 0 9 := by obtain ⟨a1, a2⟩ := r_y3; obtain ⟨b1, b2⟩ := r2; have f := i_nle c4; exact ⟨by omega, by omega⟩
        have r8 : Rg x1 1 10 := by obtain ⟨a1, a2⟩ := r_y3; obtain ⟨b1, b2⟩ := r2; have f := i_nle c4; exact ⟨by omega, by omega⟩
        have hG := g_neg c4 hG
        refine lv_aload_n hx hb d_X11_next_12 rfl (lv_at hl 0 rfl) ?_
        refine r_getr (r := 418) X hw FL_X11_52 (rfl : KD 400 = _) rfl d_X11_next_13 ?_
        refine lv_iload_n hx hb d_X11_next_16 rfl (lv_at hl 3 rfl) ?_
        refine r_iald X hw (rfl : KD 418 = _) (Rg.vp (b := 9) r7 (by decide)) rfl d_X11_next_17 ?_
        refine lv_topi (fun x9 ex9 => ?_)
        have hG := bnd_use ex9 hG
        refine lv_aload_n hx hb d_X11_next_18 rfl (lv_at hl 0 rfl) ?_
        refine r_getr (r := 404) X hw FL_X11_13 (rfl : KD 400 = _) rfl d_X11_next_19 ?_
        refine lv_iload_n hx hb d_X11_next_22 rfl (lv_at hl 1 rfl) ?_
        refine r_iald X hw (rfl : KD 404 = _) (Rg.vp (b := 19) r_si (by decide)) rfl d_X11_next_23 ?_
        refine lv_topi (fun x10 ex10 => ?_)
        have hG := bnd_use ex10 hG
        refine lv_icmp_ne (tgt := 72) hx hb d_X11_next_24 (by decide) (fun c11 => ?_) (fun c11 => ?_)
        · have f12 := i_ne c11
          have hG := g_neg c11 hG
          obtain ⟨x13, ex13⟩ : ∃ y : Int32, y = y3 + 1 := ⟨_, rfl⟩
          have hG := bnd_use ex13 hG
          refine lv_iinc (v := x13) (lv' := [(3, .int x13), (0, .ref (ad 400)), (1, .int si), (2, .int y2)]) hx hb d_X11_next_72 hl (k := 3) rfl (by rw [ex13]; rfl) (by decide) rfl (fun ls hl => ?_)
          have r14 : Rg x13 1 10 := rg_add ex13 r7 (⟨by decide, by decide⟩ : Rg 1 1 1) (by decide) (by decide)
          have s15 : x13.toInt = y3.toInt + (1 : Int32).toInt := by rw [ex13]; exact i_add (by obtain ⟨_, _⟩ := r7; obtain ⟨_, _⟩ := (⟨by decide, by decide⟩ : Rg 1 1 1); omega) (by obtain ⟨_, _⟩ := r7; obtain ⟨_, _⟩ := (⟨by decide, by decide⟩ : Rg 1 1 1); omega)
          have s15l : (1 : Int32).toInt = 1 := rfl
          refine lv_goto (tgt := 4) hx hb d_X11_next_75 (by decide) ?_
          exact ih0 y2 x13 _ _ _ (by have q_ := r_si; obtain ⟨_, _⟩ := q_; have q_ := r_y2; obtain ⟨_, _⟩ := q_; have q_ := r7; obtain ⟨_, _⟩ := q_; have q_ := r8; obtain ⟨_, _⟩ := q_; have q_ := r14; obtain ⟨_, _⟩ := q_; omega) r_y2 (rg_w r14 (by decide) (by decide)) (by have q_ := r_si; obtain ⟨_, _⟩ := q_; have q_ := r_y2; obtain ⟨_, _⟩ := q_; have q_ := r7; obtain ⟨_, _⟩ := q_; have q_ := r8; obtain ⟨_, _⟩ := q_; have q_ := r14; obtain ⟨_, _⟩ := q_; exact hex) hG hw hS (lv_sub hl [1, 2, 3, 0] rfl)
        · have f16 := i_eq c11
          have hG := g_pos c11 hG
          refine lv_aload_n hx hb d_X11_next_27 rfl (lv_at hl 0 rfl) ?_
          refine r_getr (r := 419) X hw FL_X11_55 (rfl : KD 400 = _) rfl d_X11_next_28 ?_
          refine lv_iload_n hx hb d_X11_next_31 rfl (lv_at hl 3 rfl) ?_
          refine r_iald X hw (rfl : KD 419 = _) (Rg.vp (b := 9) r7 (by decide)) rfl d_X11_next_32 ?_
          refine lv_topi (fun x17 ex17 => ?_)
          have hG := bnd_use ex17 hG
          have hm18 : v 419 y3.toNatClampNeg = x17 := ex17.symm
          refine lv_if_le (tgt := 72) hx hb d_X11_next_33 (by decide) (fun c19 => ?_) (fun c19 => ?_)
          · have f20 := i_le c19
            have r21 : Rg x17 (-2147483648) 0 := by obtain ⟨a1, a2⟩ := (rg_any x17); obtain ⟨b1, b2⟩ := (⟨by decide, by decide⟩ : Rg 0 0 0); have f := i_le c19; exact ⟨by omega, by omega⟩
            have hG := g_pos c19 hG
            obtain ⟨x22, ex22⟩ : ∃ y : Int32, y = y3 + 1 := ⟨_, rfl⟩
            have hG := bnd_use ex22 hG
            refine lv_iinc (v := x22) (lv' := [(3, .int x22), (0, .ref (ad 400)), (1, .int si), (2, .int y2)]) hx hb d_X11_next_72 hl (k := 3) rfl (by rw [ex22]; rfl) (by decide) rfl (fun ls hl => ?_)
            have r23 : Rg x22 1 10 := rg_add ex22 r7 (⟨by decide, by decide⟩ : Rg 1 1 1) (by decide) (by decide)
            have s24 : x22.toInt = y3.toInt + (1 : Int32).toInt := by rw [ex22]; exact i_add (by obtain ⟨_, _⟩ := r7; obtain ⟨_, _⟩ := (⟨by decide, by decide⟩ : Rg 1 1 1); omega) (by obtain ⟨_, _⟩ := r7; obtain ⟨_, _⟩ := (⟨by decide, by decide⟩ : Rg 1 1 1); omega)
            have s24l : (1 : Int32).toInt = 1 := rfl
            refine lv_goto (tgt := 4) hx hb d_X11_next_75 (by decide) ?_
            exact ih0 y2 x22 _ _ _ (by have q_ := r_si; obtain ⟨_, _⟩ := q_; have q_ := r_y2; obtain ⟨_, _⟩ := q_; have q_ := r7; obtain ⟨_, _⟩ := q_; have q_ := r8; obtain ⟨_, _⟩ := q_; have q_ := r21; obtain ⟨_, _⟩ := q_; have q_ := r23; obtain ⟨_, _⟩ := q_; omega) r_y2 (rg_w r23 (by decide) (by decide)) (by have q_ := r_si; obtain ⟨_, _⟩ := q_; have q_ := r_y2; obtain ⟨_, _⟩ := q_; have q_ := r7; obtain ⟨_, _⟩ := q_; have q_ := r8; obtain ⟨_, _⟩ := q_; have q_ := r21; obtain ⟨_, _⟩ := q_; have q_ := r23; obtain ⟨_, _⟩ := q_; exact hex) hG hw hS (lv_sub hl [1, 2, 3, 0] rfl)
          · have f25 := i_nle c19
            have r26 : Rg x17 1 2147483647 := by obtain ⟨a1, a2⟩ := (rg_any x17); obtain ⟨b1, b2⟩ := (⟨by decide, by decide⟩ : Rg 0 0 0); have f := i_nle c19; exact ⟨by omega, by omega⟩
            have hG := g_neg c19 hG
            refine lv_aload_n hx hb d_X11_next_36 rfl (lv_at hl 0 rfl) ?_
            refine r_getr (r := 420) X hw FL_X11_58 (rfl : KD 400 = _) rfl d_X11_next_37 ?_
            refine lv_iload_n hx hb d_X11_next_40 rfl (lv_at hl 3 rfl) ?_
            refine r_iald X hw (rfl : KD 420 = _) (Rg.vp (b := 9) r7 (by decide)) rfl d_X11_next_41 ?_
            refine lv_topi (fun x27 ex27 => ?_)
            have hG := bnd_use ex27 hG
            refine lv_aload_n hx hb d_X11_next_42 rfl (lv_at hl 0 rfl) ?_
            refine r_getr (r := 406) X hw FL_X11_19 (rfl : KD 400 = _) rfl d_X11_next_43 ?_
            refine lv_iload_n hx hb d_X11_next_46 rfl (lv_at hl 1 rfl) ?_
            refine r_iald X hw (rfl : KD 406 = _) (Rg.vp (b := 19) r_si (by decide)) rfl d_X11_next_47 ?_
            refine lv_topi (fun x28 ex28 => ?_)
            have hG := bnd_use ex28 hG
            refine lv_icmp_lt (tgt := 72) hx hb d_X11_next_48 (by decide) (fun c29 => ?_) (fun c29 => ?_)
            · have f30 := i_lt c29
              have hG := g_pos c29 hG
              obtain ⟨x31, ex31⟩ : ∃ y : Int32, y = y3 + 1 := ⟨_, rfl⟩
              have hG := bnd_use ex31 hG
              refine lv_iinc (v := x31) (lv' := [(3, .int x31), (0, .ref (ad 400)), (1, .int si), (2, .int y2)]) hx hb d_X11_next_72 hl (k := 3) rfl (by rw [ex31]; rfl) (by decide) rfl (fun ls hl => ?_)
              have r32 : Rg x31 1 10 := rg_add ex31 r7 (⟨by decide, by decide⟩ : Rg 1 1 1) (by decide) (by decide)
              have s33 : x31.toInt = y3.toInt + (1 : Int32).toInt := by rw [ex31]; exact i_add (by obtain ⟨_, _⟩ := r7; obtain ⟨_, _⟩ := (⟨by decide, by decide⟩ : Rg 1 1 1); omega) (by obtain ⟨_, _⟩ := r7; obtain ⟨_, _⟩ := (⟨by decide, by decide⟩ : Rg 1 1 1); omega)
              have s33l : (1 : Int32).toInt = 1 := rfl
              refine lv_goto (tgt := 4) hx hb d_X11_next_75 (by decide) ?_
              exact ih0 y2 x31 _ _ _ (by have q_ := r_si; obtain ⟨_, _⟩ := q_; have q_ := r_y2; obtain ⟨_, _⟩ := q_; have q_ := r7; obtain ⟨_, _⟩ := q_; have q_ := r8; obtain ⟨_, _⟩ := q_; have q_ := r26; obtain ⟨_, _⟩ := q_; have q_ := r32; obtain ⟨_, _⟩ := q_; omega) r_y2 (rg_w r32 (by decide) (by decide)) (by have q_ := r_si; obtain ⟨_, _⟩ := q_; have q_ := r_y2; obtain ⟨_, _⟩ := q_; have q_ := r7; obtain ⟨_, _⟩ := q_; have q_ := r8; obtain ⟨_, _⟩ := q_; have q_ := r26; obtain ⟨_, _⟩ := q_; have q_ := r32; obtain ⟨_, _⟩ := q_; exact hex) hG hw hS (lv_sub hl [1, 2, 3, 0] rfl)
            · have f34 := i_nlt c29
              have hG := g_neg c29 hG
              refine lv_iload_n hx hb d_X11_next_51 rfl (lv_at hl 2 rfl) ?_
              refine lv_if_lt (tgt := 70) hx hb d_X11_next_52 (by decide) (fun c35 => ?_) (fun c35 => ?_)
              · have f36 := i_lt c35
                have r37 : Rg y2 (-1) (-1) := by obtain ⟨a1, a2⟩ := r_y2; obtain ⟨b1, b2⟩ := (⟨by decide, by decide⟩ : Rg 0 0 0); have f := i_lt c35; exact ⟨by omega, by omega⟩
                have hG := g_pos c35 hG
                refine lv_iload_n hx hb d_X11_next_70 rfl (lv_at hl 3 rfl) ?_
                refine lv_istore_n (lv' := [(2, .int y3), (0, .ref (ad 400)), (1, .int si), (3, .int y3)]) hx hb d_X11_next_71 rfl hl (by decide) rfl (fun ls hl => ?_)
                obtain ⟨x38, ex38⟩ : ∃ y : Int32, y = y3 + 1 := ⟨_, rfl⟩
                have hG := bnd_use ex38 hG
                refine lv_iinc (v := x38) (lv' := [(3, .int x38), (2, .int y3), (0, .ref (ad 400)), (1, .int si)]) hx hb d_X11_next_72 hl (k := 3) rfl (by rw [ex38]; rfl) (by decide) rfl (fun ls hl => ?_)
                have r39 : Rg x38 1 10 := rg_add ex38 r7 (⟨by decide, by decide⟩ : Rg 1 1 1) (by decide) (by decide)
                have s40 : x38.toInt = y3.toInt + (1 : Int32).toInt := by rw [ex38]; exact i_add (by obtain ⟨_, _⟩ := r7; obtain ⟨_, _⟩ := (⟨by decide, by decide⟩ : Rg 1 1 1); omega) (by obtain ⟨_, _⟩ := r7; obtain ⟨_, _⟩ := (⟨by decide, by decide⟩ : Rg 1 1 1); omega)
                have s40l : (1 : Int32).toInt = 1 := rfl
                refine lv_goto (tgt := 4) hx hb d_X11_next_75 (by decide) ?_
                exact ih0 y3 x38 _ _ _ (by have q_ := r_si; obtain ⟨_, _⟩ := q_; have q_ := r37; obtain ⟨_, _⟩ := q_; have q_ := r7; obtain ⟨_, _⟩ := q_; have q_ := r8; obtain ⟨_, _⟩ := q_; have q_ := r26; obtain ⟨_, _⟩ := q_; have q_ := r39; obtain ⟨_, _⟩ := q_; omega) (rg_w r7 (by decide) (by decide)) (rg_w r39 (by decide) (by decide)) (by have q_ := r_si; obtain ⟨_, _⟩ := q_; have q_ := r37; obtain ⟨_, _⟩ := q_; have q_ := r7; obtain ⟨_, _⟩ := q_; have q_ := r8; obtain ⟨_, _⟩ := q_; have q_ := r26; obtain ⟨_, _⟩ := q_; have q_ := r39; obtain ⟨_, _⟩ := q_; intro _; rw [hm18]; omega) hG hw hS (lv_sub hl [2, 3, 1, 0] rfl)
              · have f41 := i_nlt c35
                have r42 : Rg y2 0 9 := by obtain ⟨a1, a2⟩ := r_y2; obtain ⟨b1, b2⟩ := (⟨by decide, by decide⟩ : Rg 0 0 0); have f := i_nlt c35; exact ⟨by omega, by omega⟩
                have hG := g_neg c35 hG
                refine lv_aload_n hx hb d_X11_next_55 rfl (lv_at hl 0 rfl) ?_
                refine r_getr (r := 420) X hw FL_X11_58 (rfl : KD 400 = _) rfl d_X11_next_56 ?_
                refine lv_iload_n hx hb d_X11_next_59 rfl (lv_at hl 3 rfl) ?_
                refine r_iald X hw (rfl : KD 420 = _) (Rg.vp (b := 9) r7 (by decide)) rfl d_X11_next_60 ?_
                refine lv_topi (fun x43 ex43 => ?_)
                have hG := bnd_use ex43 hG
                refine lv_aload_n hx hb d_X11_next_61 rfl (lv_at hl 0 rfl) ?_
                refine r_getr (r := 420) X hw FL_X11_58 (rfl : KD 400 = _) rfl d_X11_next_62 ?_
                refine lv_iload_n hx hb d_X11_next_65 rfl (lv_at hl 2 rfl) ?_
                refine r_iald X hw (rfl : KD 420 = _) (Rg.vp (b := 9) r42 (by decide)) rfl d_X11_next_66 ?_
                refine lv_topi (fun x44 ex44 => ?_)
                have hG := bnd_use ex44 hG
                refine lv_icmp_le (tgt := 72) hx hb d_X11_next_67 (by decide) (fun c45 => ?_) (fun c45 => ?_)
                · have f46 := i_le c45
                  have hG := g_pos c45 hG
                  obtain ⟨x47, ex47⟩ : ∃ y : Int32, y = y3 + 1 := ⟨_, rfl⟩
                  have hG := bnd_use ex47 hG
                  refine lv_iinc (v := x47) (lv' := [(3, .int x47), (0, .ref (ad 400)), (1, .int si), (2, .int y2)]) hx hb d_X11_next_72 hl (k := 3) rfl (by rw [ex47]; rfl) (by decide) rfl (fun ls hl => ?_)
                  have r48 : Rg x47 1 10 := rg_add ex47 r7 (⟨by decide, by decide⟩ : Rg 1 1 1) (by decide) (by decide)
                  have s49 : x47.toInt = y3.toInt + (1 : Int32).toInt := by rw [ex47]; exact i_add (by obtain ⟨_, _⟩ := r7; obtain ⟨_, _⟩ := (⟨by decide, by decide⟩ : Rg 1 1 1); omega) (by obtain ⟨_, _⟩ := r7; obtain ⟨_, _⟩ := (⟨by decide, by decide⟩ : Rg 1 1 1); omega)
                  have s49l : (1 : Int32).toInt = 1 := rfl
                  refine lv_goto (tgt := 4) hx hb d_X11_next_75 (by decide) ?_
                  exact ih0 y2 x47 _ _ _ (by have q_ := r_si; obtain ⟨_, _⟩ := q_; have q_ := r42; obtain ⟨_, _⟩ := q_; have q_ := r7; obtain ⟨_, _⟩ := q_; have q_ := r8; obtain ⟨_, _⟩ := q_; have q_ := r26; obtain ⟨_, _⟩ := q_; have q_ := r48; obtain ⟨_, _⟩ := q_; omega) (rg_w r42 (by decide) (by decide)) (rg_w r48 (by decide) (by decide)) (by have q_ := r_si; obtain ⟨_, _⟩ := q_; have q_ := r42; obtain ⟨_, _⟩ := q_; have q_ := r7; obtain ⟨_, _⟩ := q_; have q_ := r8; obtain ⟨_, _⟩ := q_; have q_ := r26; obtain ⟨_, _⟩ := q_; have q_ := r48; obtain ⟨_, _⟩ := q_; exact hex) hG hw hS (lv_sub hl [1, 2, 3, 0] rfl)
                · have f50 := i_nle c45
                  have hG := g_neg c45 hG
                  refine lv_iload_n hx hb d_X11_next_70 rfl (lv_at hl 3 rfl) ?_
                  refine lv_istore_n (lv' := [(2, .int y3), (0, .ref (ad 400)), (1, .int si), (3, .int y3)]) hx hb d_X11_next_71 rfl hl (by decide) rfl (fun ls hl => ?_)
                  obtain ⟨x51, ex51⟩ : ∃ y : Int32, y = y3 + 1 := ⟨_, rfl⟩
                  have hG := bnd_use ex51 hG
                  refine lv_iinc (v := x51) (lv' := [(3, .int x51), (2, .int y3), (0, .ref (ad 400)), (1, .int si)]) hx hb d_X11_next_72 hl (k := 3) rfl (by rw [ex51]; rfl) (by decide) rfl (fun ls hl => ?_)
                  have r52 : Rg x51 1 10 := rg_add ex51 r7 (⟨by decide, by decide⟩ : Rg 1 1 1) (by decide) (by decide)
                  have s53 : x51.toInt = y3.toInt + (1 : Int32).toInt := by rw [ex51]; exact i_add (by obtain ⟨_, _⟩ := r7; obtain ⟨_, _⟩ := (⟨by decide, by decide⟩ : Rg 1 1 1); omega) (by obtain ⟨_, _⟩ := r7; obtain ⟨_, _⟩ := (⟨by decide, by decide⟩ : Rg 1 1 1); omega)
                  have s53l : (1 : Int32).toInt = 1 := rfl
                  refine lv_goto (tgt := 4) hx hb d_X11_next_75 (by decide) ?_
                  exact ih0 y3 x51 _ _ _ (by have q_ := r_si; obtain ⟨_, _⟩ := q_; have q_ := r42; obtain ⟨_, _⟩ := q_; have q_ := r7; obtain ⟨_, _⟩ := q_; have q_ := r8; obtain ⟨_, _⟩ := q_; have q_ := r26; obtain ⟨_, _⟩ := q_; have q_ := r52; obtain ⟨_, _⟩ := q_; omega) (rg_w r7 (by decide) (by decide)) (rg_w r52 (by decide) (by decide)) (by have q_ := r_si; obtain ⟨_, _⟩ := q_; have q_ := r42; obtain ⟨_, _⟩ := q_; have q_ := r7; obtain ⟨_, _⟩ := q_; have q_ := r8; obtain ⟨_, _⟩ := q_; have q_ := r26; obtain ⟨_, _⟩ := q_; have q_ := r52; obtain ⟨_, _⟩ := q_; intro _; rw [hm18]; omega) hG hw hS (lv_sub hl [2, 3, 1, 0] rfl)
  have ih0 := LL 100000
  have hG := eRR
  unfold f_X11_next_400 at hG
  refine lv_iconst (v := -1) hx hb d_X11_next_0 (by decide) ?_
  refine lv_istore_n (lv' := [(2, .int (-1)), (0, .ref (ad 400)), (1, .int si)]) hx hb d_X11_next_1 rfl hl (by decide) rfl (fun ls hl => ?_)
  refine lv_iconst (v := 0) hx hb d_X11_next_2 (by decide) ?_
  refine lv_istore_n (lv' := [(3, .int 0), (2, .int (-1)), (0, .ref (ad 400)), (1, .int si)]) hx hb d_X11_next_3 rfl hl (by decide) rfl (fun ls hl => ?_)
  exact ih0 (-1) 0 _ _ _ (by have q_ := r_si; obtain ⟨_, _⟩ := q_; have q_ : (-1 : Int32).toInt = (-1) := rfl; have q_ : (0 : Int32).toInt = 0 := rfl; omega) (rg_w (⟨by decide, by decide⟩ : Rg (-1) (-1) (-1)) (by decide) (by decide)) (rg_w (⟨by decide, by decide⟩ : Rg 0 0 0) (by decide) (by decide)) (by have q_ := r_si; obtain ⟨_, _⟩ := q_; intro q; exact absurd q (by decide)) hG hw hS (lv_sub hl [2, 3, 1, 0] rfl)
theorem d_X11_strike_0 : decode c_X11_strike 0 = .ok (.aload_n 0, 1) := by decide +kernel
theorem d_X11_strike_1 : decode c_X11_strike 1 = .ok (.getfield 28, 3) := by decide +kernel
theorem d_X11_strike_4 : decode c_X11_strike 4 = .ok (.iload_n 1, 1) := by decide +kernel
theorem d_X11_strike_5 : decode c_X11_strike 5 = .ok (.iaload, 1) := by decide +kernel
theorem d_X11_strike_6 : decode c_X11_strike 6 = .ok (.aload_n 0, 1) := by decide +kernel
theorem d_X11_strike_7 : decode c_X11_strike 7 = .ok (.getfield 55, 3) := by decide +kernel
theorem d_X11_strike_10 : decode c_X11_strike 10 = .ok (.iload_n 2, 1) := by decide +kernel
theorem d_X11_strike_11 : decode c_X11_strike 11 = .ok (.iaload, 1) := by decide +kernel
theorem d_X11_strike_12 : decode c_X11_strike 12 = .ok (.if_icmp .ge 12, 3) := by decide +kernel
theorem d_X11_strike_15 : decode c_X11_strike 15 = .ok (.aload_n 0, 1) := by decide +kernel
theorem d_X11_strike_16 : decode c_X11_strike 16 = .ok (.getfield 28, 3) := by decide +kernel
theorem d_X11_strike_19 : decode c_X11_strike 19 = .ok (.iload_n 1, 1) := by decide +kernel
theorem d_X11_strike_20 : decode c_X11_strike 20 = .ok (.iaload, 1) := by decide +kernel
theorem d_X11_strike_21 : decode c_X11_strike 21 = .ok (.goto 9, 3) := by decide +kernel
theorem d_X11_strike_24 : decode c_X11_strike 24 = .ok (.aload_n 0, 1) := by decide +kernel
theorem d_X11_strike_25 : decode c_X11_strike 25 = .ok (.getfield 55, 3) := by decide +kernel
theorem d_X11_strike_28 : decode c_X11_strike 28 = .ok (.iload_n 2, 1) := by decide +kernel
theorem d_X11_strike_29 : decode c_X11_strike 29 = .ok (.iaload, 1) := by decide +kernel
theorem d_X11_strike_30 : decode c_X11_strike 30 = .ok (.istore_n 3, 1) := by decide +kernel
theorem d_X11_strike_31 : decode c_X11_strike 31 = .ok (.aload_n 0, 1) := by decide +kernel
theorem d_X11_strike_32 : decode c_X11_strike 32 = .ok (.getfield 19, 3) := by decide +kernel
theorem d_X11_strike_35 : decode c_X11_strike 35 = .ok (.iload_n 1, 1) := by decide +kernel
theorem d_X11_strike_36 : decode c_X11_strike 36 = .ok (.iaload, 1) := by decide +kernel
theorem d_X11_strike_37 : decode c_X11_strike 37 = .ok (.aload_n 0, 1) := by decide +kernel
theorem d_X11_strike_38 : decode c_X11_strike 38 = .ok (.getfield 58, 3) := by decide +kernel
theorem d_X11_strike_41 : decode c_X11_strike 41 = .ok (.iload_n 2, 1) := by decide +kernel
theorem d_X11_strike_42 : decode c_X11_strike 42 = .ok (.iaload, 1) := by decide +kernel
theorem d_X11_strike_43 : decode c_X11_strike 43 = .ok (.iadd, 1) := by decide +kernel
theorem d_X11_strike_44 : decode c_X11_strike 44 = .ok (.iconst 2, 1) := by decide +kernel
theorem d_X11_strike_45 : decode c_X11_strike 45 = .ok (.idiv, 1) := by decide +kernel
theorem d_X11_strike_46 : decode c_X11_strike 46 = .ok (.istore 4, 2) := by decide +kernel
theorem d_X11_strike_48 : decode c_X11_strike 48 = .ok (.aload_n 0, 1) := by decide +kernel
theorem d_X11_strike_49 : decode c_X11_strike 49 = .ok (.getfield 80, 3) := by decide +kernel
theorem d_X11_strike_52 : decode c_X11_strike 52 = .ok (.aload_n 0, 1) := by decide +kernel
theorem d_X11_strike_53 : decode c_X11_strike 53 = .ok (.getfield 243, 3) := by decide +kernel
theorem d_X11_strike_56 : decode c_X11_strike 56 = .ok (.iload_n 1, 1) := by decide +kernel
theorem d_X11_strike_57 : decode c_X11_strike 57 = .ok (.iastore, 1) := by decide +kernel
theorem d_X11_strike_58 : decode c_X11_strike 58 = .ok (.aload_n 0, 1) := by decide +kernel
theorem d_X11_strike_59 : decode c_X11_strike 59 = .ok (.getfield 83, 3) := by decide +kernel
theorem d_X11_strike_62 : decode c_X11_strike 62 = .ok (.aload_n 0, 1) := by decide +kernel
theorem d_X11_strike_63 : decode c_X11_strike 63 = .ok (.getfield 243, 3) := by decide +kernel
theorem d_X11_strike_66 : decode c_X11_strike 66 = .ok (.iload_n 2, 1) := by decide +kernel
theorem d_X11_strike_67 : decode c_X11_strike 67 = .ok (.iastore, 1) := by decide +kernel
theorem d_X11_strike_68 : decode c_X11_strike 68 = .ok (.aload_n 0, 1) := by decide +kernel
theorem d_X11_strike_69 : decode c_X11_strike 69 = .ok (.getfield 86, 3) := by decide +kernel
theorem d_X11_strike_72 : decode c_X11_strike 72 = .ok (.aload_n 0, 1) := by decide +kernel
theorem d_X11_strike_73 : decode c_X11_strike 73 = .ok (.getfield 243, 3) := by decide +kernel
theorem d_X11_strike_76 : decode c_X11_strike 76 = .ok (.iload_n 3, 1) := by decide +kernel
theorem d_X11_strike_77 : decode c_X11_strike 77 = .ok (.iastore, 1) := by decide +kernel
theorem d_X11_strike_78 : decode c_X11_strike 78 = .ok (.aload_n 0, 1) := by decide +kernel
theorem d_X11_strike_79 : decode c_X11_strike 79 = .ok (.getfield 89, 3) := by decide +kernel
theorem d_X11_strike_82 : decode c_X11_strike 82 = .ok (.aload_n 0, 1) := by decide +kernel
theorem d_X11_strike_83 : decode c_X11_strike 83 = .ok (.getfield 243, 3) := by decide +kernel
theorem d_X11_strike_86 : decode c_X11_strike 86 = .ok (.iload 4, 2) := by decide +kernel
theorem d_X11_strike_88 : decode c_X11_strike 88 = .ok (.iastore, 1) := by decide +kernel
theorem d_X11_strike_89 : decode c_X11_strike 89 = .ok (.aload_n 0, 1) := by decide +kernel
theorem d_X11_strike_90 : decode c_X11_strike 90 = .ok (.dup, 1) := by decide +kernel
theorem d_X11_strike_91 : decode c_X11_strike 91 = .ok (.getfield 243, 3) := by decide +kernel
theorem d_X11_strike_94 : decode c_X11_strike 94 = .ok (.iconst 1, 1) := by decide +kernel
theorem d_X11_strike_95 : decode c_X11_strike 95 = .ok (.iadd, 1) := by decide +kernel
theorem d_X11_strike_96 : decode c_X11_strike 96 = .ok (.putfield 243, 3) := by decide +kernel
theorem d_X11_strike_99 : decode c_X11_strike 99 = .ok (.aload_n 0, 1) := by decide +kernel
theorem d_X11_strike_100 : decode c_X11_strike 100 = .ok (.getfield 28, 3) := by decide +kernel
theorem d_X11_strike_103 : decode c_X11_strike 103 = .ok (.iload_n 1, 1) := by decide +kernel
theorem d_X11_strike_104 : decode c_X11_strike 104 = .ok (.dup2, 1) := by decide +kernel
theorem d_X11_strike_105 : decode c_X11_strike 105 = .ok (.iaload, 1) := by decide +kernel
theorem d_X11_strike_106 : decode c_X11_strike 106 = .ok (.iload_n 3, 1) := by decide +kernel
theorem d_X11_strike_107 : decode c_X11_strike 107 = .ok (.isub, 1) := by decide +kernel
theorem d_X11_strike_108 : decode c_X11_strike 108 = .ok (.iastore, 1) := by decide +kernel
theorem d_X11_strike_109 : decode c_X11_strike 109 = .ok (.aload_n 0, 1) := by decide +kernel
theorem d_X11_strike_110 : decode c_X11_strike 110 = .ok (.getfield 55, 3) := by decide +kernel
theorem d_X11_strike_113 : decode c_X11_strike 113 = .ok (.iload_n 2, 1) := by decide +kernel
theorem d_X11_strike_114 : decode c_X11_strike 114 = .ok (.dup2, 1) := by decide +kernel
theorem d_X11_strike_115 : decode c_X11_strike 115 = .ok (.iaload, 1) := by decide +kernel
theorem d_X11_strike_116 : decode c_X11_strike 116 = .ok (.iload_n 3, 1) := by decide +kernel
theorem d_X11_strike_117 : decode c_X11_strike 117 = .ok (.isub, 1) := by decide +kernel
theorem d_X11_strike_118 : decode c_X11_strike 118 = .ok (.iastore, 1) := by decide +kernel
theorem d_X11_strike_119 : decode c_X11_strike 119 = .ok (.aload_n 0, 1) := by decide +kernel
theorem d_X11_strike_120 : decode c_X11_strike 120 = .ok (.getfield 61, 3) := by decide +kernel
theorem d_X11_strike_123 : decode c_X11_strike 123 = .ok (.aload_n 0, 1) := by decide +kernel
theorem d_X11_strike_124 : decode c_X11_strike 124 = .ok (.getfield 49, 3) := by decide +kernel
theorem d_X11_strike_127 : decode c_X11_strike 127 = .ok (.iload_n 2, 1) := by decide +kernel
theorem d_X11_strike_128 : decode c_X11_strike 128 = .ok (.iaload, 1) := by decide +kernel
theorem d_X11_strike_129 : decode c_X11_strike 129 = .ok (.dup2, 1) := by decide +kernel
theorem d_X11_strike_130 : decode c_X11_strike 130 = .ok (.iaload, 1) := by decide +kernel
theorem d_X11_strike_131 : decode c_X11_strike 131 = .ok (.iload_n 3, 1) := by decide +kernel
theorem d_X11_strike_132 : decode c_X11_strike 132 = .ok (.iadd, 1) := by decide +kernel
theorem d_X11_strike_133 : decode c_X11_strike 133 = .ok (.iastore, 1) := by decide +kernel
theorem d_X11_strike_134 : decode c_X11_strike 134 = .ok (.aload_n 0, 1) := by decide +kernel
theorem d_X11_strike_135 : decode c_X11_strike 135 = .ok (.getfield 70, 3) := by decide +kernel
theorem d_X11_strike_138 : decode c_X11_strike 138 = .ok (.aload_n 0, 1) := by decide +kernel
theorem d_X11_strike_139 : decode c_X11_strike 139 = .ok (.getfield 49, 3) := by decide +kernel
theorem d_X11_strike_142 : decode c_X11_strike 142 = .ok (.iload_n 2, 1) := by decide +kernel
theorem d_X11_strike_143 : decode c_X11_strike 143 = .ok (.iaload, 1) := by decide +kernel
theorem d_X11_strike_144 : decode c_X11_strike 144 = .ok (.dup2, 1) := by decide +kernel
theorem d_X11_strike_145 : decode c_X11_strike 145 = .ok (.iaload, 1) := by decide +kernel
theorem d_X11_strike_146 : decode c_X11_strike 146 = .ok (.iload_n 3, 1) := by decide +kernel
theorem d_X11_strike_147 : decode c_X11_strike 147 = .ok (.iadd, 1) := by decide +kernel
theorem d_X11_strike_148 : decode c_X11_strike 148 = .ok (.iastore, 1) := by decide +kernel
theorem d_X11_strike_149 : decode c_X11_strike 149 = .ok (.aload_n 0, 1) := by decide +kernel
theorem d_X11_strike_150 : decode c_X11_strike 150 = .ok (.getfield 40, 3) := by decide +kernel
theorem d_X11_strike_153 : decode c_X11_strike 153 = .ok (.iload_n 1, 1) := by decide +kernel
theorem d_X11_strike_154 : decode c_X11_strike 154 = .ok (.dup2, 1) := by decide +kernel
theorem d_X11_strike_155 : decode c_X11_strike 155 = .ok (.iaload, 1) := by decide +kernel
theorem d_X11_strike_156 : decode c_X11_strike 156 = .ok (.iload_n 3, 1) := by decide +kernel
theorem d_X11_strike_157 : decode c_X11_strike 157 = .ok (.iadd, 1) := by decide +kernel
theorem d_X11_strike_158 : decode c_X11_strike 158 = .ok (.iastore, 1) := by decide +kernel
theorem d_X11_strike_159 : decode c_X11_strike 159 = .ok (.aload_n 0, 1) := by decide +kernel
theorem d_X11_strike_160 : decode c_X11_strike 160 = .ok (.getfield 43, 3) := by decide +kernel
theorem d_X11_strike_163 : decode c_X11_strike 163 = .ok (.iload_n 1, 1) := by decide +kernel
theorem d_X11_strike_164 : decode c_X11_strike 164 = .ok (.dup2, 1) := by decide +kernel
theorem d_X11_strike_165 : decode c_X11_strike 165 = .ok (.iaload, 1) := by decide +kernel
theorem d_X11_strike_166 : decode c_X11_strike 166 = .ok (.iload_n 3, 1) := by decide +kernel
theorem d_X11_strike_167 : decode c_X11_strike 167 = .ok (.iload 4, 2) := by decide +kernel
theorem d_X11_strike_169 : decode c_X11_strike 169 = .ok (.imul, 1) := by decide +kernel
theorem d_X11_strike_170 : decode c_X11_strike 170 = .ok (.iadd, 1) := by decide +kernel
theorem d_X11_strike_171 : decode c_X11_strike 171 = .ok (.iastore, 1) := by decide +kernel
theorem d_X11_strike_172 : decode c_X11_strike 172 = .ok (.aload_n 0, 1) := by decide +kernel
theorem d_X11_strike_173 : decode c_X11_strike 173 = .ok (.getfield 46, 3) := by decide +kernel
theorem d_X11_strike_176 : decode c_X11_strike 176 = .ok (.iload_n 1, 1) := by decide +kernel
theorem d_X11_strike_177 : decode c_X11_strike 177 = .ok (.dup2, 1) := by decide +kernel
theorem d_X11_strike_178 : decode c_X11_strike 178 = .ok (.iaload, 1) := by decide +kernel
theorem d_X11_strike_179 : decode c_X11_strike 179 = .ok (.aload_n 0, 1) := by decide +kernel
theorem d_X11_strike_180 : decode c_X11_strike 180 = .ok (.iload_n 1, 1) := by decide +kernel
theorem d_X11_strike_181 : decode c_X11_strike 181 = .ok (.invokevirtual 180, 3) := by decide +kernel
theorem d_X11_strike_184 : decode c_X11_strike 184 = .ok (.iload_n 3, 1) := by decide +kernel
theorem d_X11_strike_185 : decode c_X11_strike 185 = .ok (.imul, 1) := by decide +kernel
theorem d_X11_strike_186 : decode c_X11_strike 186 = .ok (.iadd, 1) := by decide +kernel
theorem d_X11_strike_187 : decode c_X11_strike 187 = .ok (.iastore, 1) := by decide +kernel
theorem d_X11_strike_188 : decode c_X11_strike 188 = .ok (.aload_n 0, 1) := by decide +kernel
theorem d_X11_strike_189 : decode c_X11_strike 189 = .ok (.dup, 1) := by decide +kernel
theorem d_X11_strike_190 : decode c_X11_strike 190 = .ok (.getfield 246, 3) := by decide +kernel
theorem d_X11_strike_193 : decode c_X11_strike 193 = .ok (.iload_n 3, 1) := by decide +kernel
theorem d_X11_strike_194 : decode c_X11_strike 194 = .ok (.iadd, 1) := by decide +kernel
theorem d_X11_strike_195 : decode c_X11_strike 195 = .ok (.putfield 246, 3) := by decide +kernel
theorem d_X11_strike_198 : decode c_X11_strike 198 = .ok (.aload_n 0, 1) := by decide +kernel
theorem d_X11_strike_199 : decode c_X11_strike 199 = .ok (.dup, 1) := by decide +kernel
theorem d_X11_strike_200 : decode c_X11_strike 200 = .ok (.getfield 249, 3) := by decide +kernel
theorem d_X11_strike_203 : decode c_X11_strike 203 = .ok (.iload_n 3, 1) := by decide +kernel
theorem d_X11_strike_204 : decode c_X11_strike 204 = .ok (.iload 4, 2) := by decide +kernel
theorem d_X11_strike_206 : decode c_X11_strike 206 = .ok (.imul, 1) := by decide +kernel
theorem d_X11_strike_207 : decode c_X11_strike 207 = .ok (.iadd, 1) := by decide +kernel
theorem d_X11_strike_208 : decode c_X11_strike 208 = .ok (.putfield 249, 3) := by decide +kernel
theorem d_X11_strike_211 : decode c_X11_strike 211 = .ok (.return_, 1) := by decide +kernel
def kp_X11_strike_400 (si : Int32) (bi : Int32) (a j : Nat) : Prop := (a ≠ 400 ∨ (j ≠ 27 ∧ j ≠ 58 ∧ j ≠ 59)) ∧ a ≠ 409 ∧ a ≠ 413 ∧ a ≠ 414 ∧ a ≠ 415 ∧ a ≠ 419 ∧ a ≠ 421 ∧ a ≠ 424 ∧ (a < 429 ∨ 433 ≤ a)
def f_X11_strike_400 (v : tV) (si : Int32) (bi : Int32) : tV := bnd (v 400 27) fun x1 => bnd (v 409 si.toNatClampNeg) fun x3 => bnd (v 419 bi.toNatClampNeg) fun x5 => (if x5 ≤ x3 then bnd (v 406 si.toNatClampNeg) fun x9 => bnd (v 420 bi.toNatClampNeg) fun x10 => bnd (x9 + x10) fun x11 => bnd (x11 / (2 : Int32)) fun x12 => bnd (up2 v 429 (x1.toNatClampNeg) si) fun v13 => bnd (up2 v13 430 (x1.toNatClampNeg) bi) fun v19 => bnd (up2 v19 431 (x1.toNatClampNeg) x5) fun v25 => bnd (up2 v25 432 (x1.toNatClampNeg) x12) fun v31 => bnd (x1 + (1 : Int32)) fun x37 => bnd (up2 v31 400 27 x37) fun v40 => bnd (x3 - x5) fun x46 => bnd (up2 v40 409 (si.toNatClampNeg) x46) fun v49 => bnd (x5 - x5) fun x55 => bnd (up2 v49 419 (bi.toNatClampNeg) x55) fun v58 => bnd (v58 417 bi.toNatClampNeg) fun x64 => bnd (v58 421 x64.toNatClampNeg) fun x66 => bnd (x66 + x5) fun x67 => bnd (up2 v58 421 (x64.toNatClampNeg) x67) fun v68 => bnd (v68 417 bi.toNatClampNeg) fun x74 => bnd (v68 424 x74.toNatClampNeg) fun x76 => bnd (x76 + x5) fun x77 => bnd (up2 v68 424 (x74.toNatClampNeg) x77) fun v78 => bnd (v78 413 si.toNatClampNeg) fun x84 => bnd (x84 + x5) fun x85 => bnd (up2 v78 413 (si.toNatClampNeg) x85) fun v86 => bnd (v86 414 si.toNatClampNeg) fun x92 => bnd (x5 * x12) fun x93 => bnd (x92 + x93) fun x94 => bnd (up2 v86 414 (si.toNatClampNeg) x94) fun v95 => bnd (v95 415 si.toNatClampNeg) fun x101 => bnd (f_X11_rate_400 v95 si) fun x103 => bnd (x103 * x5) fun x106 => bnd (x101 + x106) fun x107 => bnd (up2 v95 415 (si.toNatClampNeg) x107) fun v108 => bnd (v108 400 58) fun x114 => bnd (x114 + x5) fun x115 => bnd (up2 v108 400 58 x115) fun v116 => bnd (v116 400 59) fun x122 => bnd (x5 * x12) fun x123 => bnd (x122 + x123) fun x124 => bnd (up2 v116 400 59 x124) fun v125 => v125 else bnd (v 406 si.toNatClampNeg) fun x134 => bnd (v 420 bi.toNatClampNeg) fun x135 => bnd (x134 + x135) fun x136 => bnd (x136 / (2 : Int32)) fun x137 => bnd (up2 v 429 (x1.toNatClampNeg) si) fun v138 => bnd (up2 v138 430 (x1.toNatClampNeg) bi) fun v144 => bnd (up2 v144 431 (x1.toNatClampNeg) x3) fun v150 => bnd (up2 v150 432 (x1.toNatClampNeg) x137) fun v156 => bnd (x1 + (1 : Int32)) fun x162 => bnd (up2 v156 400 27 x162) fun v165 => bnd (x3 - x3) fun x171 => bnd (up2 v165 409 (si.toNatClampNeg) x171) fun v174 => bnd (x5 - x3) fun x180 => bnd (up2 v174 419 (bi.toNatClampNeg) x180) fun v183 => bnd (v183 417 bi.toNatClampNeg) fun x189 => bnd (v183 421 x189.toNatClampNeg) fun x191 => bnd (x191 + x3) fun x192 => bnd (up2 v183 421 (x189.toNatClampNeg) x192) fun v193 => bnd (v193 417 bi.toNatClampNeg) fun x199 => bnd (v193 424 x199.toNatClampNeg) fun x201 => bnd (x201 + x3) fun x202 => bnd (up2 v193 424 (x199.toNatClampNeg) x202) fun v203 => bnd (v203 413 si.toNatClampNeg) fun x209 => bnd (x209 + x3) fun x210 => bnd (up2 v203 413 (si.toNatClampNeg) x210) fun v211 => bnd (v211 414 si.toNatClampNeg) fun x217 => bnd (x3 * x137) fun x218 => bnd (x217 + x218) fun x219 => bnd (up2 v211 414 (si.toNatClampNeg) x219) fun v220 => bnd (v220 415 si.toNatClampNeg) fun x226 => bnd (f_X11_rate_400 v220 si) fun x228 => bnd (x228 * x3) fun x231 => bnd (x226 + x231) fun x232 => bnd (up2 v220 415 (si.toNatClampNeg) x232) fun v233 => bnd (v233 400 58) fun x239 => bnd (x239 + x3) fun x240 => bnd (up2 v233 400 58 x240) fun v241 => bnd (v241 400 59) fun x247 => bnd (x3 * x137) fun x248 => bnd (x247 + x248) fun x249 => bnd (up2 v241 400 59 x249) fun v250 => v250)
set_option maxHeartbeats 4000000 in
set_option maxRecDepth 100000 in
theorem ct_X11_strike_400 (l : Launch) (D : va_G) (dA : Nat → ClassId) (ad : Nat → Nat) (v : tV) (hI : Inv v) (si : Int32) (bi : Int32) (r_si : Rg si 0 19) (r_bi : Rg bi 0 9) (hB : (v 400 27).toInt ≤ 199) (hL : 0 < (v 409 si.toNatClampNeg).toInt) (hW : 0 < (v 419 bi.toNatClampNeg).toInt) : Met l m_X11_strike [.code m_X11_strike c_X11_strike 5 none] ({ frames := 2, cells := 0, slots := 0, locals := 61 } : Room) (tP D dA ad v [.ref (ad 400), .int si, .int bi]) (tQv D dA ad (fun v' => (Inv v' ∧ Kp (kp_X11_strike_400 si bi) v v' ∧ (v' 400 27).toInt = (v 400 27).toInt + 1 ∧ (∀ j, j ≠ bi.toNatClampNeg → v' 419 j = v 419 j) ∧ (((v 409 si.toNatClampNeg).toInt < (v 419 bi.toNatClampNeg).toInt ∧ (v' 409 si.toNatClampNeg).toInt = 0) ∨ ((v 419 bi.toNatClampNeg).toInt ≤ (v 409 si.toNatClampNeg).toInt ∧ (v' 409 si.toNatClampNeg).toInt = (v 409 si.toNatClampNeg).toInt - (v 419 bi.toNatClampNeg).toInt ∧ (v' 419 bi.toNatClampNeg).toInt = 0))) ∧ v' = f_X11_strike_400 v si bi)) 0 0 (tA ad) := by
  refine tMet (by decide) (Nat.le_of_ble_eq_true rfl) ?_
  intro p e s m below meth c ls X hr hlocks hw hl
  have X : CX p s m ([.ref (ad 400), .int si, .int bi] : List Value).toArray c c_X11_strike N_X11 5 D dA := X
  have hx := X.1
  have hb := X.2.1
  have hS : va_S (tA ad) s.heap s.heap [] := va_S.rf
  have hl : lv_has ls 5 [(0, .ref (ad 400)), (1, .int si), (2, .int bi)] := hl
  obtain ⟨RR, eRR⟩ : ∃ z, f_X11_strike_400 v si bi = z := ⟨_, rfl⟩
  have hK0 : Kp (kp_X11_strike_400 si bi) v v := Kp.rf _ v
  have hG := eRR
  unfold f_X11_strike_400 at hG
  obtain ⟨x1, ex1⟩ : ∃ z, v 400 27 = z := ⟨_, rfl⟩
  have hG := bnd_use ex1.symm hG
  have hB := hB
  rw [ex1] at hB
  have r2 : Rg x1 0 199 := by have q := hI 400 27 0 200 rfl; rw [ex1] at q; exact ⟨q.1, hB⟩
  obtain ⟨x3, ex3⟩ : ∃ z, v 409 si.toNatClampNeg = z := ⟨_, rfl⟩
  have hG := bnd_use ex3.symm hG
  have hL := hL
  rw [ex3] at hL
  have r4 : Rg x3 1 2147483647 := ⟨by omega, (rg_any x3).2⟩
  obtain ⟨x5, ex5⟩ : ∃ z, v 419 bi.toNatClampNeg = z := ⟨_, rfl⟩
  have hG := bnd_use ex5.symm hG
  have hW := hW
  rw [ex5] at hW
  have r6 : Rg x5 1 2147483647 := ⟨by omega, (rg_any x5).2⟩
  have hB27 := ex1
  have h409 := ex3
  have h419 := ex5
  refine lv_aload_n hx hb d_X11_strike_0 rfl (lv_at hl 0 rfl) ?_
  refine r_getr (r := 409) X hw FL_X11_28 (rfl : KD 400 = _) rfl d_X11_strike_1 ?_
  refine lv_iload_n hx hb d_X11_strike_4 rfl (lv_at hl 1 rfl) ?_
  refine r_iald X hw (rfl : KD 409 = _) (Rg.vp (b := 19) r_si (by decide)) rfl d_X11_strike_5 ?_
  refine lv_seti ex3 ?_
  refine lv_aload_n hx hb d_X11_strike_6 rfl (lv_at hl 0 rfl) ?_
  refine r_getr (r := 419) X hw FL_X11_55 (rfl : KD 400 = _) rfl d_X11_strike_7 ?_
  refine lv_iload_n hx hb d_X11_strike_10 rfl (lv_at hl 2 rfl) ?_
  refine r_iald X hw (rfl : KD 419 = _) (Rg.vp (b := 9) r_bi (by decide)) rfl d_X11_strike_11 ?_
  refine lv_seti ex5 ?_
  refine lv_icmp_ge (tgt := 24) hx hb d_X11_strike_12 (by decide) (fun c7 => ?_) (fun c7 => ?_)
  · have f8 := i_le c7
    have hG := g_pos c7 hG
    refine lv_aload_n hx hb d_X11_strike_24 rfl (lv_at hl 0 rfl) ?_
    refine r_getr (r := 419) X hw FL_X11_55 (rfl : KD 400 = _) rfl d_X11_strike_25 ?_
    refine lv_iload_n hx hb d_X11_strike_28 rfl (lv_at hl 2 rfl) ?_
    refine r_iald X hw (rfl : KD 419 = _) (Rg.vp (b := 9) r_bi (by decide)) rfl d_X11_strike_29 ?_
    refine lv_seti ex5 ?_
    refine lv_istore_n (lv' := [(3, .int x5), (0, .ref (ad 400)), (1, .int si), (2, .int bi)]) hx hb d_X11_strike_30 rfl hl (by decide) rfl (fun ls hl => ?_)
    refine lv_aload_n hx hb d_X11_strike_31 rfl (lv_at hl 1 rfl) ?_
    refine r_getr (r := 406) X hw FL_X11_19 (rfl : KD 400 = _) rfl d_X11_strike_32 ?_
    refine lv_iload_n hx hb d_X11_strike_35 rfl (lv_at hl 2 rfl) ?_
    refine r_iald X hw (rfl : KD 406 = _) (Rg.vp (b := 19) r_si (by decide)) rfl d_X11_strike_36 ?_
    refine lv_topi (fun x9 ex9 => ?_)
    have hG := bnd_use ex9 hG
    refine lv_aload_n hx hb d_X11_strike_37 rfl (lv_at hl 1 rfl) ?_
    refine r_getr (r := 420) X hw FL_X11_58 (rfl : KD 400 = _) rfl d_X11_strike_38 ?_
    refine lv_iload_n hx hb d_X11_strike_41 rfl (lv_at hl 3 rfl) ?_
    refine r_iald X hw (rfl : KD 420 = _) (Rg.vp (b := 9) r_bi (by decide)) rfl d_X11_strike_42 ?_
    refine lv_topi (fun x10 ex10 => ?_)
    have hG := bnd_use ex10 hG
    refine lv_iadd hx hb d_X11_strike_43 ?_
    refine lv_topi (fun x11 ex11 => ?_)
    have hG := bnd_use ex11 hG
    refine lv_iconst (v := 2) hx hb d_X11_strike_44 (by decide) ?_
    refine lv_idiv hx hb d_X11_strike_45 (by decide) ?_
    refine lv_topi (fun x12 ex12 => ?_)
    have hG := bnd_use ex12 hG
    refine lv_istore (lv' := [(4, .int x12), (3, .int x5), (0, .ref (ad 400)), (1, .int si), (2, .int bi)]) hx hb d_X11_strike_46 hl (by decide) rfl (fun ls hl => ?_)
    refine lv_aload_n hx hb d_X11_strike_48 rfl (lv_at hl 2 rfl) ?_
    refine r_getr (r := 429) X hw FL_X11_80 (rfl : KD 400 = _) rfl d_X11_strike_49 ?_
    refine lv_aload_n hx hb d_X11_strike_52 rfl (lv_at hl 2 rfl) ?_
    refine r_geti X hw FL_X11_243 (rfl : KD 400 = _) rfl d_X11_strike_53 ?_
    refine lv_seti ex1 ?_
    refine lv_iload_n hx hb d_X11_strike_56 rfl (lv_at hl 3 rfl) ?_
    refine r_iast X hw hS (rfl : KD 429 = _) (Rg.vp (b := 199) r2 (by decide)) rfl d_X11_strike_57 (fun H locs hw hS => ?_)
    obtain ⟨v13, ev13⟩ : ∃ z, z = up2 v 429 x1.toNatClampNeg si := ⟨_, rfl⟩
    rw [← ev13] at hw
    have hG := bnd_use ev13 hG
    have hI14 : Inv v13 := by rw [ev13]; exact Inv.putr hI rfl r_si
    have hK15 : Kp (kp_X11_strike_400 si bi) v v13 := by rw [ev13]; exact Kp.put hK0 _ (by unfold kp_X11_strike_400; omega)
    have hm16 : v13 400 27 = x1 := by rw [ev13, up2_n _ _ (by omega)]; exact ex1
    have hm17 : v13 409 si.toNatClampNeg = x3 := by rw [ev13, up2_n _ _ (by omega)]; exact ex3
    have hm18 : v13 419 bi.toNatClampNeg = x5 := by rw [ev13, up2_n _ _ (by omega)]; exact ex5
    refine lv_aload_n hx hb d_X11_strike_58 rfl (lv_at hl 2 rfl) ?_
    refine r_getr (r := 430) X hw FL_X11_83 (rfl : KD 400 = _) rfl d_X11_strike_59 ?_
    refine lv_aload_n hx hb d_X11_strike_62 rfl (lv_at hl 2 rfl) ?_
    refine r_geti X hw FL_X11_243 (rfl : KD 400 = _) rfl d_X11_strike_63 ?_
    refine lv_seti hm16 ?_
    refine lv_iload_n hx hb d_X11_strike_66 rfl (lv_at hl 4 rfl) ?_
    refine r_iast X hw hS (rfl : KD 430 = _) (Rg.vp (b := 199) r2 (by decide)) rfl d_X11_strike_67 (fun H locs hw hS => ?_)
    obtain ⟨v19, ev19⟩ : ∃ z, z = up2 v13 430 x1.toNatClampNeg bi := ⟨_, rfl⟩
    rw [← ev19] at hw
    have hG := bnd_use ev19 hG
    have hI20 : Inv v19 := by rw [ev19]; exact Inv.put0 hI14 _ rfl
    have hK21 : Kp (kp_X11_strike_400 si bi) v v19 := by rw [ev19]; exact Kp.put hK15 _ (by unfold kp_X11_strike_400; omega)
    have hm22 : v19 400 27 = x1 := by rw [ev19, up2_n _ _ (by omega)]; exact hm16
    have hm23 : v19 409 si.toNatClampNeg = x3 := by rw [ev19, up2_n _ _ (by omega)]; exact hm17
    have hm24 : v19 419 bi.toNatClampNeg = x5 := by rw [ev19, up2_n _ _ (by omega)]; exact hm18
    refine lv_aload_n hx hb d_X11_strike_68 rfl (lv_at hl 2 rfl) ?_
    refine r_getr (r := 431) X hw FL_X11_86 (rfl : KD 400 = _) rfl d_X11_strike_69 ?_
    refine lv_aload_n hx hb d_X11_strike_72 rfl (lv_at hl 2 rfl) ?_
    refine r_geti X hw FL_X11_243 (rfl : KD 400 = _) rfl d_X11_strike_73 ?_
    refine lv_seti hm22 ?_
    refine lv_iload_n hx hb d_X11_strike_76 rfl (lv_at hl 1 rfl) ?_
    refine r_iast X hw hS (rfl : KD 431 = _) (Rg.vp (b := 199) r2 (by decide)) rfl d_X11_strike_77 (fun H locs hw hS => ?_)
    obtain ⟨v25, ev25⟩ : ∃ z, z = up2 v19 431 x1.toNatClampNeg x5 := ⟨_, rfl⟩
    rw [← ev25] at hw
    have hG := bnd_use ev25 hG
    have hI26 : Inv v25 := by rw [ev25]; exact Inv.put0 hI20 _ rfl
    have hK27 : Kp (kp_X11_strike_400 si bi) v v25 := by rw [ev25]; exact Kp.put hK21 _ (by unfold kp_X11_strike_400; omega)
    have hm28 : v25 400 27 = x1 := by rw [ev25, up2_n _ _ (by omega)]; exact hm22
    have hm29 : v25 409 si.toNatClampNeg = x3 := by rw [ev25, up2_n _ _ (by omega)]; exact hm23
    have hm30 : v25 419 bi.toNatClampNeg = x5 := by rw [ev25, up2_n _ _ (by omega)]; exact hm24
    refine lv_aload_n hx hb d_X11_strike_78 rfl (lv_at hl 2 rfl) ?_
    refine r_getr (r := 432) X hw FL_X11_89 (rfl : KD 400 = _) rfl d_X11_strike_79 ?_
    refine lv_aload_n hx hb d_X11_strike_82 rfl (lv_at hl 2 rfl) ?_
    refine r_geti X hw FL_X11_243 (rfl : KD 400 = _) rfl d_X11_strike_83 ?_
    refine lv_seti hm28 ?_
    refine lv_iload hx hb d_X11_strike_86 (lv_at hl 0 rfl) ?_
    refine r_iast X hw hS (rfl : KD 432 = _) (Rg.vp (b := 199) r2 (by decide)) rfl d_X11_strike_88 (fun H locs hw hS => ?_)
    obtain ⟨v31, ev31⟩ : ∃ z, z = up2 v25 432 x1.toNatClampNeg x12 := ⟨_, rfl⟩
    rw [← ev31] at hw
    have hG := bnd_use ev31 hG
    have hI32 : Inv v31 := by rw [ev31]; exact Inv.put0 hI26 _ rfl
    have hK33 : Kp (kp_X11_strike_400 si bi) v v31 := by rw [ev31]; exact Kp.put hK27 _ (by unfold kp_X11_strike_400; omega)
    have hm34 : v31 400 27 = x1 := by rw [ev31, up2_n _ _ (by omega)]; exact hm28
    have hm35 : v31 409 si.toNatClampNeg = x3 := by rw [ev31, up2_n _ _ (by omega)]; exact hm29
    have hm36 : v31 419 bi.toNatClampNeg = x5 := by rw [ev31, up2_n _ _ (by omega)]; exact hm30
    refine lv_aload_n hx hb d_X11_strike_89 rfl (lv_at hl 2 rfl) ?_
    refine lv_dup hx hb d_X11_strike_90 rfl ?_
    refine r_geti X hw FL_X11_243 (rfl : KD 400 = _) rfl d_X11_strike_91 ?_
    refine lv_seti hm34 ?_
    refine lv_iconst (v := 1) hx hb d_X11_strike_94 (by decide) ?_
    refine lv_iadd hx hb d_X11_strike_95 ?_
    refine lv_topi (fun x37 ex37 => ?_)
    have hG := bnd_use ex37 hG
    have r38 : Rg x37 1 200 := rg_add ex37 r2 (⟨by decide, by decide⟩ : Rg 1 1 1) (by decide) (by decide)
    have s39 : x37.toInt = x1.toInt + (1 : Int32).toInt := by rw [ex37]; exact i_add (by obtain ⟨_, _⟩ := r2; obtain ⟨_, _⟩ := (⟨by decide, by decide⟩ : Rg 1 1 1); omega) (by obtain ⟨_, _⟩ := r2; obtain ⟨_, _⟩ := (⟨by decide, by decide⟩ : Rg 1 1 1); omega)
    have s39l : (1 : Int32).toInt = 1 := rfl
    refine r_put X hw hS FP_X11_243 (rfl : KD 400 = _) rfl ⟨rfl, rfl⟩ d_X11_strike_96 (fun H locs hw hS => ?_)
    obtain ⟨v40, ev40⟩ : ∃ z, z = up2 v31 400 27 x37 := ⟨_, rfl⟩
    rw [← ev40] at hw
    have hG := bnd_use ev40 hG
    have hI41 : Inv v40 := by rw [ev40]; exact Inv.putr hI32 rfl (rg_w r38 (by decide) (by decide))
    have hK42 : Kp (kp_X11_strike_400 si bi) v v40 := by rw [ev40]; exact Kp.put hK33 _ (by unfold kp_X11_strike_400; omega)
    have hm43 : v40 409 si.toNatClampNeg = x3 := by rw [ev40, up2_n _ _ (by omega)]; exact hm35
    have hm44 : v40 419 bi.toNatClampNeg = x5 := by rw [ev40, up2_n _ _ (by omega)]; exact hm36
    have hm45 : v40 400 27 = x37 := by rw [ev40, up2_s]
    refine lv_aload_n hx hb d_X11_strike_99 rfl (lv_at hl 2 rfl) ?_
    refine r_getr (r := 409) X hw FL_X11_28 (rfl : KD 400 = _) rfl d_X11_strike_100 ?_
    refine lv_iload_n hx hb d_X11_strike_103 rfl (lv_at hl 3 rfl) ?_
    refine lv_dup2_11 hx hb d_X11_strike_104 rfl rfl ?_
    refine r_iald X hw (rfl : KD 409 = _) (Rg.vp (b := 19) r_si (by decide)) rfl d_X11_strike_105 ?_
    refine lv_seti hm43 ?_
    refine lv_iload_n hx hb d_X11_strike_106 rfl (lv_at hl 1 rfl) ?_
    refine lv_isub hx hb d_X11_strike_107 ?_
    refine lv_topi (fun x46 ex46 => ?_)
    have hG := bnd_use ex46 hG
    have r47 : Rg x46 (-2147483646) 2147483646 := rg_sub ex46 r4 r6 (by decide) (by decide)
    have s48 : x46.toInt = x3.toInt - (x5 : Int32).toInt := by rw [ex46]; exact i_sub (by obtain ⟨_, _⟩ := r4; obtain ⟨_, _⟩ := r6; omega) (by obtain ⟨_, _⟩ := r4; obtain ⟨_, _⟩ := r6; omega)
    refine r_iast X hw hS (rfl : KD 409 = _) (Rg.vp (b := 19) r_si (by decide)) rfl d_X11_strike_108 (fun H locs hw hS => ?_)
    obtain ⟨v49, ev49⟩ : ∃ z, z = up2 v40 409 si.toNatClampNeg x46 := ⟨_, rfl⟩
    rw [← ev49] at hw
    have hG := bnd_use ev49 hG
    have hI50 : Inv v49 := by rw [ev49]; exact Inv.put0 hI41 _ rfl
    have hK51 : Kp (kp_X11_strike_400 si bi) v v49 := by rw [ev49]; exact Kp.put hK42 _ (by unfold kp_X11_strike_400; omega)
    have hm52 : v49 419 bi.toNatClampNeg = x5 := by rw [ev49, up2_n _ _ (by omega)]; exact hm44
    have hm53 : v49 400 27 = x37 := by rw [ev49, up2_n _ _ (by omega)]; exact hm45
    have hm54 : v49 409 si.toNatClampNeg = x46 := by rw [ev49, up2_s]
    refine lv_aload_n hx hb d_X11_strike_109 rfl (lv_at hl 2 rfl) ?_
    refine r_getr (r := 419) X hw FL_X11_55 (rfl : KD 400 = _) rfl d_X11_strike_110 ?_
    refine lv_iload_n hx hb d_X11_strike_113 rfl (lv_at hl 4 rfl) ?_
    refine lv_dup2_11 hx hb d_X11_strike_114 rfl rfl ?_
    refine r_iald X hw (rfl : KD 419 = _) (Rg.vp (b := 9) r_bi (by decide)) rfl d_X11_strike_115 ?_
    refine lv_seti hm52 ?_
    refine lv_iload_n hx hb d_X11_strike_116 rfl (lv_at hl 1 rfl) ?_
    refine lv_isub hx hb d_X11_strike_117 ?_
    refine lv_topi (fun x55 ex55 => ?_)
    have hG := bnd_use ex55 hG
    have r56 : Rg x55 (-2147483646) 2147483646 := rg_sub ex55 r6 r6 (by decide) (by decide)
    have s57 : x55.toInt = x5.toInt - (x5 : Int32).toInt := by rw [ex55]; exact i_sub (by obtain ⟨_, _⟩ := r6; omega) (by obtain ⟨_, _⟩ := r6; omega)
    refine r_iast X hw hS (rfl : KD 419 = _) (Rg.vp (b := 9) r_bi (by decide)) rfl d_X11_strike_118 (fun H locs hw hS => ?_)
    obtain ⟨v58, ev58⟩ : ∃ z, z = up2 v49 419 bi.toNatClampNeg x55 := ⟨_, rfl⟩
    rw [← ev58] at hw
    have hG := bnd_use ev58 hG
    have hI59 : Inv v58 := by rw [ev58]; exact Inv.put0 hI50 _ rfl
    have hK60 : Kp (kp_X11_strike_400 si bi) v v58 := by rw [ev58]; exact Kp.put hK51 _ (by unfold kp_X11_strike_400; omega)
    have hm61 : v58 400 27 = x37 := by rw [ev58, up2_n _ _ (by omega)]; exact hm53
    have hm62 : v58 409 si.toNatClampNeg = x46 := by rw [ev58, up2_n _ _ (by omega)]; exact hm54
    have hm63 : v58 419 bi.toNatClampNeg = x55 := by rw [ev58, up2_s]
    refine lv_aload_n hx hb d_X11_strike_119 rfl (lv_at hl 2 rfl) ?_
    refine r_getr (r := 421) X hw FL_X11_61 (rfl : KD 400 = _) rfl d_X11_strike_120 ?_
    refine lv_aload_n hx hb d_X11_strike_123 rfl (lv_at hl 2 rfl) ?_
    refine r_getr (r := 417) X hw FL_X11_49 (rfl : KD 400 = _) rfl d_X11_strike_124 ?_
    refine lv_iload_n hx hb d_X11_strike_127 rfl (lv_at hl 4 rfl) ?_
    refine r_iald X hw (rfl : KD 417 = _) (Rg.vp (b := 9) r_bi (by decide)) rfl d_X11_strike_128 ?_
    refine lv_topi (fun x64 ex64 => ?_)
    have hG := bnd_use ex64 hG
    have r65 : Rg x64 0 5 := by rw [ex64]; exact hI59 _ _ _ _ rfl
    refine lv_dup2_11 hx hb d_X11_strike_129 rfl rfl ?_
    refine r_iald X hw (rfl : KD 421 = _) (Rg.vp (b := 5) r65 (by decide)) rfl d_X11_strike_130 ?_
    refine lv_topi (fun x66 ex66 => ?_)
    have hG := bnd_use ex66 hG
    refine lv_iload_n hx hb d_X11_strike_131 rfl (lv_at hl 1 rfl) ?_
    refine lv_iadd hx hb d_X11_strike_132 ?_
    refine lv_topi (fun x67 ex67 => ?_)
    have hG := bnd_use ex67 hG
    refine r_iast X hw hS (rfl : KD 421 = _) (Rg.vp (b := 5) r65 (by decide)) rfl d_X11_strike_133 (fun H locs hw hS => ?_)
    obtain ⟨v68, ev68⟩ : ∃ z, z = up2 v58 421 x64.toNatClampNeg x67 := ⟨_, rfl⟩
    rw [← ev68] at hw
    have hG := bnd_use ev68 hG
    have hI69 : Inv v68 := by rw [ev68]; exact Inv.put0 hI59 _ rfl
    have hK70 : Kp (kp_X11_strike_400 si bi) v v68 := by rw [ev68]; exact Kp.put hK60 _ (by unfold kp_X11_strike_400; omega)
    have hm71 : v68 400 27 = x37 := by rw [ev68, up2_n _ _ (by omega)]; exact hm61
    have hm72 : v68 409 si.toNatClampNeg = x46 := by rw [ev68, up2_n _ _ (by omega)]; exact hm62
    have hm73 : v68 419 bi.toNatClampNeg = x55 := by rw [ev68, up2_n _ _ (by omega)]; exact hm63
    refine lv_aload_n hx hb d_X11_strike_134 rfl (lv_at hl 2 rfl) ?_
    refine r_getr (r := 424) X hw FL_X11_70 (rfl : KD 400 = _) rfl d_X11_strike_135 ?_
    refine lv_aload_n hx hb d_X11_strike_138 rfl (lv_at hl 2 rfl) ?_
    refine r_getr (r := 417) X hw FL_X11_49 (rfl : KD 400 = _) rfl d_X11_strike_139 ?_
    refine lv_iload_n hx hb d_X11_strike_142 rfl (lv_at hl 4 rfl) ?_
    refine r_iald X hw (rfl : KD 417 = _) (Rg.vp (b := 9) r_bi (by decide)) rfl d_X11_strike_143 ?_
    refine lv_topi (fun x74 ex74 => ?_)
    have hG := bnd_use ex74 hG
    have r75 : Rg x74 0 5 := by rw [ex74]; exact hI69 _ _ _ _ rfl
    refine lv_dup2_11 hx hb d_X11_strike_144 rfl rfl ?_
    refine r_iald X hw (rfl : KD 424 = _) (Rg.vp (b := 5) r75 (by decide)) rfl d_X11_strike_145 ?_
    refine lv_topi (fun x76 ex76 => ?_)
    have hG := bnd_use ex76 hG
    refine lv_iload_n hx hb d_X11_strike_146 rfl (lv_at hl 1 rfl) ?_
    refine lv_iadd hx hb d_X11_strike_147 ?_
    refine lv_topi (fun x77 ex77 => ?_)
    have hG := bnd_use ex77 hG
    refine r_iast X hw hS (rfl : KD 424 = _) (Rg.vp (b := 5) r75 (by decide)) rfl d_X11_strike_148 (fun H locs hw hS => ?_)
    obtain ⟨v78, ev78⟩ : ∃ z, z = up2 v68 424 x74.toNatClampNeg x77 := ⟨_, rfl⟩
    rw [← ev78] at hw
    have hG := bnd_use ev78 hG
    have hI79 : Inv v78 := by rw [ev78]; exact Inv.put0 hI69 _ rfl
    have hK80 : Kp (kp_X11_strike_400 si bi) v v78 := by rw [ev78]; exact Kp.put hK70 _ (by unfold kp_X11_strike_400; omega)
    have hm81 : v78 400 27 = x37 := by rw [ev78, up2_n _ _ (by omega)]; exact hm71
    have hm82 : v78 409 si.toNatClampNeg = x46 := by rw [ev78, up2_n _ _ (by omega)]; exact hm72
    have hm83 : v78 419 bi.toNatClampNeg = x55 := by rw [ev78, up2_n _ _ (by omega)]; exact hm73
    refine lv_aload_n hx hb d_X11_strike_149 rfl (lv_at hl 2 rfl) ?_
    refine r_getr (r := 413) X hw FL_X11_40 (rfl : KD 400 = _) rfl d_X11_strike_150 ?_
    refine lv_iload_n hx hb d_X11_strike_153 rfl (lv_at hl 3 rfl) ?_
    refine lv_dup2_11 hx hb d_X11_strike_154 rfl rfl ?_
    refine r_iald X hw (rfl : KD 413 = _) (Rg.vp (b := 19) r_si (by decide)) rfl d_X11_strike_155 ?_
    refine lv_topi (fun x84 ex84 => ?_)
    have hG := bnd_use ex84 hG
    refine lv_iload_n hx hb d_X11_strike_156 rfl (lv_at hl 1 rfl) ?_
    refine lv_iadd hx hb d_X11_strike_157 ?_
    refine lv_topi (fun x85 ex85 => ?_)
    have hG := bnd_use ex85 hG
    refine r_iast X hw hS (rfl : KD 413 = _) (Rg.vp (b := 19) r_si (by decide)) rfl d_X11_strike_158 (fun H locs hw hS => ?_)
    obtain ⟨v86, ev86⟩ : ∃ z, z = up2 v78 413 si.toNatClampNeg x85 := ⟨_, rfl⟩
    rw [← ev86] at hw
    have hG := bnd_use ev86 hG
    have hI87 : Inv v86 := by rw [ev86]; exact Inv.put0 hI79 _ rfl
    have hK88 : Kp (kp_X11_strike_400 si bi) v v86 := by rw [ev86]; exact Kp.put hK80 _ (by unfold kp_X11_strike_400; omega)
    have hm89 : v86 400 27 = x37 := by rw [ev86, up2_n _ _ (by omega)]; exact hm81
    have hm90 : v86 409 si.toNatClampNeg = x46 := by rw [ev86, up2_n _ _ (by omega)]; exact hm82
    have hm91 : v86 419 bi.toNatClampNeg = x55 := by rw [ev86, up2_n _ _ (by omega)]; exact hm83
    refine lv_aload_n hx hb d_X11_strike_159 rfl (lv_at hl 2 rfl) ?_
    refine r_getr (r := 414) X hw FL_X11_43 (rfl : KD 400 = _) rfl d_X11_strike_160 ?_
    refine lv_iload_n hx hb d_X11_strike_163 rfl (lv_at hl 3 rfl) ?_
    refine lv_dup2_11 hx hb d_X11_strike_164 rfl rfl ?_
    refine r_iald X hw (rfl : KD 414 = _) (Rg.vp (b := 19) r_si (by decide)) rfl d_X11_strike_165 ?_
    refine lv_topi (fun x92 ex92 => ?_)
    have hG := bnd_use ex92 hG
    refine lv_iload_n hx hb d_X11_strike_166 rfl (lv_at hl 1 rfl) ?_
    refine lv_iload hx hb d_X11_strike_167 (lv_at hl 0 rfl) ?_
    refine lv_imul hx hb d_X11_strike_169 ?_
    refine lv_topi (fun x93 ex93 => ?_)
    have hG := bnd_use ex93 hG
    refine lv_iadd hx hb d_X11_strike_170 ?_
    refine lv_topi (fun x94 ex94 => ?_)
    have hG := bnd_use ex94 hG
    refine r_iast X hw hS (rfl : KD 414 = _) (Rg.vp (b := 19) r_si (by decide)) rfl d_X11_strike_171 (fun H locs hw hS => ?_)
    obtain ⟨v95, ev95⟩ : ∃ z, z = up2 v86 414 si.toNatClampNeg x94 := ⟨_, rfl⟩
    rw [← ev95] at hw
    have hG := bnd_use ev95 hG
    have hI96 : Inv v95 := by rw [ev95]; exact Inv.put0 hI87 _ rfl
    have hK97 : Kp (kp_X11_strike_400 si bi) v v95 := by rw [ev95]; exact Kp.put hK88 _ (by unfold kp_X11_strike_400; omega)
    have hm98 : v95 400 27 = x37 := by rw [ev95, up2_n _ _ (by omega)]; exact hm89
    have hm99 : v95 409 si.toNatClampNeg = x46 := by rw [ev95, up2_n _ _ (by omega)]; exact hm90
    have hm100 : v95 419 bi.toNatClampNeg = x55 := by rw [ev95, up2_n _ _ (by omega)]; exact hm91
    refine lv_aload_n hx hb d_X11_strike_172 rfl (lv_at hl 2 rfl) ?_
    refine r_getr (r := 415) X hw FL_X11_46 (rfl : KD 400 = _) rfl d_X11_strike_173 ?_
    refine lv_iload_n hx hb d_X11_strike_176 rfl (lv_at hl 3 rfl) ?_
    refine lv_dup2_11 hx hb d_X11_strike_177 rfl rfl ?_
    refine r_iald X hw (rfl : KD 415 = _) (Rg.vp (b := 19) r_si (by decide)) rfl d_X11_strike_178 ?_
    refine lv_topi (fun x101 ex101 => ?_)
    have hG := bnd_use ex101 hG
    refine lv_aload_n hx hb d_X11_strike_179 rfl (lv_at hl 2 rfl) ?_
    refine lv_iload_n hx hb d_X11_strike_180 rfl (lv_at hl 3 rfl) ?_
    refine r_ci (r_runV (n := 1) (As := [.int si]) (rest := [.int x101, .int si, .ref (ad 415)]) X hw (ct_X11_rate_400 l D dA ad v95 hI96 si r_si) gc_X11_180 (rfl : KD 400 = _) (by decide) rfl (by decide +kernel) ⟨rfl, rfl, Nat.le_of_ble_eq_true rfl, Nat.le_of_ble_eq_true rfl⟩ rfl hl.1 rfl (Nat.le_of_ble_eq_true rfl) ⟨Nat.zero_le _, Nat.zero_le _⟩ d_X11_strike_181) hS (fun x103 v104 H locs hp102 hw hS => ?_)
    obtain ⟨hp102, hE105⟩ := hp102
    rw [hp102] at hw
    have hG := bnd_use hE105 hG
    refine lv_iload_n hx hb d_X11_strike_184 rfl (lv_at hl 1 rfl) ?_
    refine lv_imul hx hb d_X11_strike_185 ?_
    refine lv_topi (fun x106 ex106 => ?_)
    have hG := bnd_use ex106 hG
    refine lv_iadd hx hb d_X11_strike_186 ?_
    refine lv_topi (fun x107 ex107 => ?_)
    have hG := bnd_use ex107 hG
    refine r_iast X hw hS (rfl : KD 415 = _) (Rg.vp (b := 19) r_si (by decide)) rfl d_X11_strike_187 (fun H locs hw hS => ?_)
    obtain ⟨v108, ev108⟩ : ∃ z, z = up2 v95 415 si.toNatClampNeg x107 := ⟨_, rfl⟩
    rw [← ev108] at hw
    have hG := bnd_use ev108 hG
    have hI109 : Inv v108 := by rw [ev108]; exact Inv.put0 hI96 _ rfl
    have hK110 : Kp (kp_X11_strike_400 si bi) v v108 := by rw [ev108]; exact Kp.put hK97 _ (by unfold kp_X11_strike_400; omega)
    have hm111 : v108 400 27 = x37 := by rw [ev108, up2_n _ _ (by omega)]; exact hm98
    have hm112 : v108 409 si.toNatClampNeg = x46 := by rw [ev108, up2_n _ _ (by omega)]; exact hm99
    have hm113 : v108 419 bi.toNatClampNeg = x55 := by rw [ev108, up2_n _ _ (by omega)]; exact hm100
    refine lv_aload_n hx hb d_X11_strike_188 rfl (lv_at hl 2 rfl) ?_
    refine lv_dup hx hb d_X11_strike_189 rfl ?_
    refine r_geti X hw FL_X11_246 (rfl : KD 400 = _) rfl d_X11_strike_190 ?_
    refine lv_topi (fun x114 ex114 => ?_)
    have hG := bnd_use ex114 hG
    refine lv_iload_n hx hb d_X11_strike_193 rfl (lv_at hl 1 rfl) ?_
    refine lv_iadd hx hb d_X11_strike_194 ?_
    refine lv_topi (fun x115 ex115 => ?_)
    have hG := bnd_use ex115 hG
    refine r_put X hw hS FP_X11_246 (rfl : KD 400 = _) rfl ⟨rfl, rfl⟩ d_X11_strike_195 (fun H locs hw hS => ?_)
    obtain ⟨v116, ev116⟩ : ∃ z, z = up2 v108 400 58 x115 := ⟨_, rfl⟩
    rw [← ev116] at hw
    have hG := bnd_use ev116 hG
    have hI117 : Inv v116 := by rw [ev116]; exact Inv.put0 hI109 _ rfl
    have hK118 : Kp (kp_X11_strike_400 si bi) v v116 := by rw [ev116]; exact Kp.put hK110 _ (by unfold kp_X11_strike_400; omega)
    have hm119 : v116 400 27 = x37 := by rw [ev116, up2_n _ _ (by omega)]; exact hm111
    have hm120 : v116 409 si.toNatClampNeg = x46 := by rw [ev116, up2_n _ _ (by omega)]; exact hm112
    have hm121 : v116 419 bi.toNatClampNeg = x55 := by rw [ev116, up2_n _ _ (by omega)]; exact hm113
    refine lv_aload_n hx hb d_X11_strike_198 rfl (lv_at hl 2 rfl) ?_
    refine lv_dup hx hb d_X11_strike_199 rfl ?_
    refine r_geti X hw FL_X11_249 (rfl : KD 400 = _) rfl d_X11_strike_200 ?_
    refine lv_topi (fun x122 ex122 => ?_)
    have hG := bnd_use ex122 hG
    refine lv_iload_n hx hb d_X11_strike_203 rfl (lv_at hl 1 rfl) ?_
    refine lv_iload hx hb d_X11_strike_204 (lv_at hl 0 rfl) ?_
    refine lv_imul hx hb d_X11_strike_206 ?_
    refine lv_topi (fun x123 ex123 => ?_)
    have hG := bnd_use ex123 hG
    refine lv_iadd hx hb d_X11_strike_207 ?_
    refine lv_topi (fun x124 ex124 => ?_)
    have hG := bnd_use ex124 hG
    refine r_put X hw hS FP_X11_249 (rfl : KD 400 = _) rfl ⟨rfl, rfl⟩ d_X11_strike_208 (fun H locs hw hS => ?_)
    obtain ⟨v125, ev125⟩ : ∃ z, z = up2 v116 400 59 x124 := ⟨_, rfl⟩
    rw [← ev125] at hw
    have hG := bnd_use ev125 hG
    have hI126 : Inv v125 := by rw [ev125]; exact Inv.put0 hI117 _ rfl
    have hK127 : Kp (kp_X11_strike_400 si bi) v v125 := by rw [ev125]; exact Kp.put hK118 _ (by unfold kp_X11_strike_400; omega)
    have hm128 : v125 400 27 = x37 := by rw [ev125, up2_n _ _ (by omega)]; exact hm119
    have hm129 : v125 409 si.toNatClampNeg = x46 := by rw [ev125, up2_n _ _ (by omega)]; exact hm120
    have hm130 : v125 419 bi.toNatClampNeg = x55 := by rw [ev125, up2_n _ _ (by omega)]; exact hm121
    exact r_vret X hr hlocks hw hS ⟨⟨hI126, hK127, by rw [hm128, hB27]; omega, (by intro j hj; rw [ev125, up2_n _ _ (by omega), ev116, up2_n _ _ (by omega), ev108, up2_n _ _ (by omega), ev95, up2_n _ _ (by omega), ev86, up2_n _ _ (by omega), ev78, up2_n _ _ (by omega), ev68, up2_n _ _ (by omega), ev58, up2_n _ _ (by omega), ev49, up2_n _ _ (by omega), ev40, up2_n _ _ (by omega), ev31, up2_n _ _ (by omega), ev25, up2_n _ _ (by omega), ev19, up2_n _ _ (by omega), ev13, up2_n _ _ (by omega)]), by rw [hm129, hm130, h409, h419]; omega⟩, hG.trans eRR.symm⟩ d_X11_strike_211
  · have f131 := i_nle c7
    have r132 : Rg x3 1 2147483646 := by obtain ⟨a1, a2⟩ := r4; obtain ⟨b1, b2⟩ := r6; have f := i_nle c7; exact ⟨by omega, by omega⟩
    have r133 : Rg x5 2 2147483647 := by obtain ⟨a1, a2⟩ := r4; obtain ⟨b1, b2⟩ := r6; have f := i_nle c7; exact ⟨by omega, by omega⟩
    have hG := g_neg c7 hG
    refine lv_aload_n hx hb d_X11_strike_15 rfl (lv_at hl 0 rfl) ?_
    refine r_getr (r := 409) X hw FL_X11_28 (rfl : KD 400 = _) rfl d_X11_strike_16 ?_
    refine lv_iload_n hx hb d_X11_strike_19 rfl (lv_at hl 1 rfl) ?_
    refine r_iald X hw (rfl : KD 409 = _) (Rg.vp (b := 19) r_si (by decide)) rfl d_X11_strike_20 ?_
    refine lv_seti ex3 ?_
    refine lv_goto (tgt := 30) hx hb d_X11_strike_21 (by decide) ?_
    refine lv_istore_n (lv' := [(3, .int x3), (0, .ref (ad 400)), (1, .int si), (2, .int bi)]) hx hb d_X11_strike_30 rfl hl (by decide) rfl (fun ls hl => ?_)
    refine lv_aload_n hx hb d_X11_strike_31 rfl (lv_at hl 1 rfl) ?_
    refine r_getr (r := 406) X hw FL_X11_19 (rfl : KD 400 = _) rfl d_X11_strike_32 ?_
    refine lv_iload_n hx hb d_X11_strike_35 rfl (lv_at hl 2 rfl) ?_
    refine r_iald X hw (rfl : KD 406 = _) (Rg.vp (b := 19) r_si (by decide)) rfl d_X11_strike_36 ?_
    refine lv_topi (fun x134 ex134 => ?_)
    have hG := bnd_use ex134 hG
    refine lv_aload_n hx hb d_X11_strike_37 rfl (lv_at hl 1 rfl) ?_
    refine r_getr (r := 420) X hw FL_X11_58 (rfl : KD 400 = _) rfl d_X11_strike_38 ?_
    refine lv_iload_n hx hb d_X11_strike_41 rfl (lv_at hl 3 rfl) ?_
    refine r_iald X hw (rfl : KD 420 = _) (Rg.vp (b := 9) r_bi (by decide)) rfl d_X11_strike_42 ?_
    refine lv_topi (fun x135 ex135 => ?_)
    have hG := bnd_use ex135 hG
    refine lv_iadd hx hb d_X11_strike_43 ?_
    refine lv_topi (fun x136 ex136 => ?_)
    have hG := bnd_use ex136 hG
    refine lv_iconst (v := 2) hx hb d_X11_strike_44 (by decide) ?_
    refine lv_idiv hx hb d_X11_strike_45 (by decide) ?_
    refine lv_topi (fun x137 ex137 => ?_)
    have hG := bnd_use ex137 hG
    refine lv_istore (lv' := [(4, .int x137), (3, .int x3), (0, .ref (ad 400)), (1, .int si), (2, .int bi)]) hx hb d_X11_strike_46 hl (by decide) rfl (fun ls hl => ?_)
    refine lv_aload_n hx hb d_X11_strike_48 rfl (lv_at hl 2 rfl) ?_
    refine r_getr (r := 429) X hw FL_X11_80 (rfl : KD 400 = _) rfl d_X11_strike_49 ?_
    refine lv_aload_n hx hb d_X11_strike_52 rfl (lv_at hl 2 rfl) ?_
    refine r_geti X hw FL_X11_243 (rfl : KD 400 = _) rfl d_X11_strike_53 ?_
    refine lv_seti ex1 ?_
    refine lv_iload_n hx hb d_X11_strike_56 rfl (lv_at hl 3 rfl) ?_
    refine r_iast X hw hS (rfl : KD 429 = _) (Rg.vp (b := 199) r2 (by decide)) rfl d_X11_strike_57 (fun H locs hw hS => ?_)
    obtain ⟨v138, ev138⟩ : ∃ z, z = up2 v 429 x1.toNatClampNeg si := ⟨_, rfl⟩
    rw [← ev138] at hw
    have hG := bnd_use ev138 hG
    have hI139 : Inv v138 := by rw [ev138]; exact Inv.putr hI rfl r_si
    have hK140 : Kp (kp_X11_strike_400 si bi) v v138 := by rw [ev138]; exact Kp.put hK0 _ (by unfold kp_X11_strike_400; omega)
    have hm141 : v138 400 27 = x1 := by rw [ev138, up2_n _ _ (by omega)]; exact ex1
    have hm142 : v138 409 si.toNatClampNeg = x3 := by rw [ev138, up2_n _ _ (by omega)]; exact ex3
    have hm143 : v138 419 bi.toNatClampNeg = x5 := by rw [ev138, up2_n _ _ (by omega)]; exact ex5
    refine lv_aload_n hx hb d_X11_strike_58 rfl (lv_at hl 2 rfl) ?_
    refine r_getr (r := 430) X hw FL_X11_83 (rfl : KD 400 = _) rfl d_X11_strike_59 ?_
    refine lv_aload_n hx hb d_X11_strike_62 rfl (lv_at hl 2 rfl) ?_
    refine r_geti X hw FL_X11_243 (rfl : KD 400 = _) rfl d_X11_strike_63 ?_
    refine lv_seti hm141 ?_
    refine lv_iload_n hx hb d_X11_strike_66 rfl (lv_at hl 4 rfl) ?_
    refine r_iast X hw hS (rfl : KD 430 = _) (Rg.vp (b := 199) r2 (by decide)) rfl d_X11_strike_67 (fun H locs hw hS => ?_)
    obtain ⟨v144, ev144⟩ : ∃ z, z = up2 v138 430 x1.toNatClampNeg bi := ⟨_, rfl⟩
    rw [← ev144] at hw
    have hG := bnd_use ev144 hG
    have hI145 : Inv v144 := by rw [ev144]; exact Inv.put0 hI139 _ rfl
    have hK146 : Kp (kp_X11_strike_400 si bi) v v144 := by rw [ev144]; exact Kp.put hK140 _ (by unfold kp_X11_strike_400; omega)
    have hm147 : v144 400 27 = x1 := by rw [ev144, up2_n _ _ (by omega)]; exact hm141
    have hm148 : v144 409 si.toNatClampNeg = x3 := by rw [ev144, up2_n _ _ (by omega)]; exact hm142
    have hm149 : v144 419 bi.toNatClampNeg = x5 := by rw [ev144, up2_n _ _ (by omega)]; exact hm143
    refine lv_aload_n hx hb d_X11_strike_68 rfl (lv_at hl 2 rfl) ?_
    refine r_getr (r := 431) X hw FL_X11_86 (rfl : KD 400 = _) rfl d_X11_strike_69 ?_
    refine lv_aload_n hx hb d_X11_strike_72 rfl (lv_at hl 2 rfl) ?_
    refine r_geti X hw FL_X11_243 (rfl : KD 400 = _) rfl d_X11_strike_73 ?_
    refine lv_seti hm147 ?_
    refine lv_iload_n hx hb d_X11_strike_76 rfl (lv_at hl 1 rfl) ?_
    refine r_iast X hw hS (rfl : KD 431 = _) (Rg.vp (b := 199) r2 (by decide)) rfl d_X11_strike_77 (fun H locs hw hS => ?_)
    obtain ⟨v150, ev150⟩ : ∃ z, z = up2 v144 431 x1.toNatClampNeg x3 := ⟨_, rfl⟩
    rw [← ev150] at hw
    have hG := bnd_use ev150 hG
    have hI151 : Inv v150 := by rw [ev150]; exact Inv.put0 hI145 _ rfl
    have hK152 : Kp (kp_X11_strike_400 si bi) v v150 := by rw [ev150]; exact Kp.put hK146 _ (by unfold kp_X11_strike_400; omega)
    have hm153 : v150 400 27 = x1 := by rw [ev150, up2_n _ _ (by omega)]; exact hm147
    have hm154 : v150 409 si.toNatClampNeg = x3 := by rw [ev150, up2_n _ _ (by omega)]; exact hm148
    have hm155 : v150 419 bi.toNatClampNeg = x5 := by rw [ev150, up2_n _ _ (by omega)]; exact hm149
    refine lv_aload_n hx hb d_X11_strike_78 rfl (lv_at hl 2 rfl) ?_
    refine r_getr (r := 432) X hw FL_X11_89 (rfl : KD 400 = _) rfl d_X11_strike_79 ?_
    refine lv_aload_n hx hb d_X11_strike_82 rfl (lv_at hl 2 rfl) ?_
    refine r_geti X hw FL_X11_243 (rfl : KD 400 = _) rfl d_X11_strike_83 ?_
    refine lv_seti hm153 ?_
    refine lv_iload hx hb d_X11_strike_86 (lv_at hl 0 rfl) ?_
    refine r_iast X hw hS (rfl : KD 432 = _) (Rg.vp (b := 199) r2 (by decide)) rfl d_X11_strike_88 (fun H locs hw hS => ?_)
    obtain ⟨v156, ev156⟩ : ∃ z, z = up2 v150 432 x1.toNatClampNeg x137 := ⟨_, rfl⟩
    rw [← ev156] at hw
    have hG := bnd_use ev156 hG
    have hI157 : Inv v156 := by rw [ev156]; exact Inv.put0 hI151 _ rfl
    have hK158 : Kp (kp_X11_strike_400 si bi) v v156 := by rw [ev156]; exact Kp.put hK152 _ (by unfold kp_X11_strike_400; omega)
    have hm159 : v156 400 27 = x1 := by rw [ev156, up2_n _ _ (by omega)]; exact hm153
    have hm160 : v156 409 si.toNatClampNeg = x3 := by rw [ev156, up2_n _ _ (by omega)]; exact hm154
    have hm161 : v156 419 bi.toNatClampNeg = x5 := by rw [ev156, up2_n _ _ (by omega)]; exact hm155
    refine lv_aload_n hx hb d_X11_strike_89 rfl (lv_at hl 2 rfl) ?_
    refine lv_dup hx hb d_X11_strike_90 rfl ?_
    refine r_geti X hw FL_X11_243 (rfl : KD 400 = _) rfl d_X11_strike_91 ?_
    refine lv_seti hm159 ?_
    refine lv_iconst (v := 1) hx hb d_X11_strike_94 (by decide) ?_
    refine lv_iadd hx hb d_X11_strike_95 ?_
    refine lv_topi (fun x162 ex162 => ?_)
    have hG := bnd_use ex162 hG
    have r163 : Rg x162 1 200 := rg_add ex162 r2 (⟨by decide, by decide⟩ : Rg 1 1 1) (by decide) (by decide)
    have s164 : x162.toInt = x1.toInt + (1 : Int32).toInt := by rw [ex162]; exact i_add (by obtain ⟨_, _⟩ := r2; obtain ⟨_, _⟩ := (⟨by decide, by decide⟩ : Rg 1 1 1); omega) (by obtain ⟨_, _⟩ := r2; obtain ⟨_, _⟩ := (⟨by decide, by decide⟩ : Rg 1 1 1); omega)
    have s164l : (1 : Int32).toInt = 1 := rfl
    refine r_put X hw hS FP_X11_243 (rfl : KD 400 = _) rfl ⟨rfl, rfl⟩ d_X11_strike_96 (fun H locs hw hS => ?_)
    obtain ⟨v165, ev165⟩ : ∃ z, z = up2 v156 400 27 x162 := ⟨_, rfl⟩
    rw [← ev165] at hw
    have hG := bnd_use ev165 hG
    have hI166 : Inv v165 := by rw [ev165]; exact Inv.putr hI157 rfl (rg_w r163 (by decide) (by decide))
    have hK167 : Kp (kp_X11_strike_400 si bi) v v165 := by rw [ev165]; exact Kp.put hK158 _ (by unfold kp_X11_strike_400; omega)
    have hm168 : v165 409 si.toNatClampNeg = x3 := by rw [ev165, up2_n _ _ (by omega)]; exact hm160
    have hm169 : v165 419 bi.toNatClampNeg = x5 := by rw [ev165, up2_n _ _ (by omega)]; exact hm161
    have hm170 : v165 400 27 = x162 := by rw [ev165, up2_s]
    refine lv_aload_n hx hb d_X11_strike_99 rfl (lv_at hl 2 rfl) ?_
    refine r_getr (r := 409) X hw FL_X11_28 (rfl : KD 400 = _) rfl d_X11_strike_100 ?_
    refine lv_iload_n hx hb d_X11_strike_103 rfl (lv_at hl 3 rfl) ?_
    refine lv_dup2_11 hx hb d_X11_strike_104 rfl rfl ?_
    refine r_iald X hw (rfl : KD 409 = _) (Rg.vp (b := 19) r_si (by decide)) rfl d_X11_strike_105 ?_
    refine lv_seti hm168 ?_
    refine lv_iload_n hx hb d_X11_strike_106 rfl (lv_at hl 1 rfl) ?_
    refine lv_isub hx hb d_X11_strike_107 ?_
    refine lv_topi (fun x171 ex171 => ?_)
    have hG := bnd_use ex171 hG
    have r172 : Rg x171 (-2147483645) 2147483645 := rg_sub ex171 r132 r132 (by decide) (by decide)
    have s173 : x171.toInt = x3.toInt - (x3 : Int32).toInt := by rw [ex171]; exact i_sub (by obtain ⟨_, _⟩ := r132; omega) (by obtain ⟨_, _⟩ := r132; omega)
    refine r_iast X hw hS (rfl : KD 409 = _) (Rg.vp (b := 19) r_si (by decide)) rfl d_X11_strike_108 (fun H locs hw hS => ?_)
    obtain ⟨v174, ev174⟩ : ∃ z, z = up2 v165 409 si.toNatClampNeg x171 := ⟨_, rfl⟩
    rw [← ev174] at hw
    have hG := bnd_use ev174 hG
    have hI175 : Inv v174 := by rw [ev174]; exact Inv.put0 hI166 _ rfl
    have hK176 : Kp (kp_X11_strike_400 si bi) v v174 := by rw [ev174]; exact Kp.put hK167 _ (by unfold kp_X11_strike_400; omega)
    have hm177 : v174 419 bi.toNatClampNeg = x5 := by rw [ev174, up2_n _ _ (by omega)]; exact hm169
    have hm178 : v174 400 27 = x162 := by rw [ev174, up2_n _ _ (by omega)]; exact hm170
    have hm179 : v174 409 si.toNatClampNeg = x171 := by rw [ev174, up2_s]
    refine lv_aload_n hx hb d_X11_strike_109 rfl (lv_at hl 2 rfl) ?_
    refine r_getr (r := 419) X hw FL_X11_55 (rfl : KD 400 = _) rfl d_X11_strike_110 ?_
    refine lv_iload_n hx hb d_X11_strike_113 rfl (lv_at hl 4 rfl) ?_
    refine lv_dup2_11 hx hb d_X11_strike_114 rfl rfl ?_
    refine r_iald X hw (rfl : KD 419 = _) (Rg.vp (b := 9) r_bi (by decide)) rfl d_X11_strike_115 ?_
    refine lv_seti hm177 ?_
    refine lv_iload_n hx hb d_X11_strike_116 rfl (lv_at hl 1 rfl) ?_
    refine lv_isub hx hb d_X11_strike_117 ?_
    refine lv_topi (fun x180 ex180 => ?_)
    have hG := bnd_use ex180 hG
    have r181 : Rg x180 (-2147483644) 2147483646 := rg_sub ex180 r133 r132 (by decide) (by decide)
    have s182 : x180.toInt = x5.toInt - (x3 : Int32).toInt := by rw [ex180]; exact i_sub (by obtain ⟨_, _⟩ := r133; obtain ⟨_, _⟩ := r132; omega) (by obtain ⟨_, _⟩ := r133; obtain ⟨_, _⟩ := r132; omega)
    refine r_iast X hw hS (rfl : KD 419 = _) (Rg.vp (b := 9) r_bi (by decide)) rfl d_X11_strike_118 (fun H locs hw hS => ?_)
    obtain ⟨v183, ev183⟩ : ∃ z, z = up2 v174 419 bi.toNatClampNeg x180 := ⟨_, rfl⟩
    rw [← ev183] at hw
    have hG := bnd_use ev183 hG
    have hI184 : Inv v183 := by rw [ev183]; exact Inv.put0 hI175 _ rfl
    have hK185 : Kp (kp_X11_strike_400 si bi) v v183 := by rw [ev183]; exact Kp.put hK176 _ (by unfold kp_X11_strike_400; omega)
    have hm186 : v183 400 27 = x162 := by rw [ev183, up2_n _ _ (by omega)]; exact hm178
    have hm187 : v183 409 si.toNatClampNeg = x171 := by rw [ev183, up2_n _ _ (by omega)]; exact hm179
    have hm188 : v183 419 bi.toNatClampNeg = x180 := by rw [ev183, up2_s]
    refine lv_aload_n hx hb d_X11_strike_119 rfl (lv_at hl 2 rfl) ?_
    refine r_getr (r := 421) X hw FL_X11_61 (rfl : KD 400 = _) rfl d_X11_strike_120 ?_
    refine lv_aload_n hx hb d_X11_strike_123 rfl (lv_at hl 2 rfl) ?_
    refine r_getr (r := 417) X hw FL_X11_49 (rfl : KD 400 = _) rfl d_X11_strike_124 ?_
    refine lv_iload_n hx hb d_X11_strike_127 rfl (lv_at hl 4 rfl) ?_
    refine r_iald X hw (rfl : KD 417 = _) (Rg.vp (b := 9) r_bi (by decide)) rfl d_X11_strike_128 ?_
    refine lv_topi (fun x189 ex189 => ?_)
    have hG := bnd_use ex189 hG
    have r190 : Rg x189 0 5 := by rw [ex189]; exact hI184 _ _ _ _ rfl
    refine lv_dup2_11 hx hb d_X11_strike_129 rfl rfl ?_
    refine r_iald X hw (rfl : KD 421 = _) (Rg.vp (b := 5) r190 (by decide)) rfl d_X11_strike_130 ?_
    refine lv_topi (fun x191 ex191 => ?_)
    have hG := bnd_use ex191 hG
    refine lv_iload_n hx hb d_X11_strike_131 rfl (lv_at hl 1 rfl) ?_
    refine lv_iadd hx hb d_X11_strike_132 ?_
    refine lv_topi (fun x192 ex192 => ?_)
    have hG := bnd_use ex192 hG
    refine r_iast X hw hS (rfl : KD 421 = _) (Rg.vp (b := 5) r190 (by decide)) rfl d_X11_strike_133 (fun H locs hw hS => ?_)
    obtain ⟨v193, ev193⟩ : ∃ z, z = up2 v183 421 x189.toNatClampNeg x192 := ⟨_, rfl⟩
    rw [← ev193] at hw
    have hG := bnd_use ev193 hG
    have hI194 : Inv v193 := by rw [ev193]; exact Inv.put0 hI184 _ rfl
    have hK195 : Kp (kp_X11_strike_400 si bi) v v193 := by rw [ev193]; exact Kp.put hK185 _ (by unfold kp_X11_strike_400; omega)
    have hm196 : v193 400 27 = x162 := by rw [ev193, up2_n _ _ (by omega)]; exact hm186
    have hm197 : v193 409 si.toNatClampNeg = x171 := by rw [ev193, up2_n _ _ (by omega)]; exact hm187
    have hm198 : v193 419 bi.toNatClampNeg = x180 := by rw [ev193, up2_n _ _ (by omega)]; exact hm188
    refine lv_aload_n hx hb d_X11_strike_134 rfl (lv_at hl 2 rfl) ?_
    refine r_getr (r := 424) X hw FL_X11_70 (rfl : KD 400 = _) rfl d_X11_strike_135 ?_
    refine lv_aload_n hx hb d_X11_strike_138 rfl (lv_at hl 2 rfl) ?_
    refine r_getr (r := 417) X hw FL_X11_49 (rfl : KD 400 = _) rfl d_X11_strike_139 ?_
    refine lv_iload_n hx hb d_X11_strike_142 rfl (lv_at hl 4 rfl) ?_
    refine r_iald X hw (rfl : KD 417 = _) (Rg.vp (b := 9) r_bi (by decide)) rfl d_X11_strike_143 ?_
    refine lv_topi (fun x199 ex199 => ?_)
    have hG := bnd_use ex199 hG
    have r200 : Rg x199 0 5 := by rw [ex199]; exact hI194 _ _ _ _ rfl
    refine lv_dup2_11 hx hb d_X11_strike_144 rfl rfl ?_
    refine r_iald X hw (rfl : KD 424 = _) (Rg.vp (b := 5) r200 (by decide)) rfl d_X11_strike_145 ?_
    refine lv_topi (fun x201 ex201 => ?_)
    have hG := bnd_use ex201 hG
    refine lv_iload_n hx hb d_X11_strike_146 rfl (lv_at hl 1 rfl) ?_
    refine lv_iadd hx hb d_X11_strike_147 ?_
    refine lv_topi (fun x202 ex202 => ?_)
    have hG := bnd_use ex202 hG
    refine r_iast X hw hS (rfl : KD 424 = _) (Rg.vp (b := 5) r200 (by decide)) rfl d_X11_strike_148 (fun H locs hw hS => ?_)
    obtain ⟨v203, ev203⟩ : ∃ z, z = up2 v193 424 x199.toNatClampNeg x202 := ⟨_, rfl⟩
    rw [← ev203] at hw
    have hG := bnd_use ev203 hG
    have hI204 : Inv v203 := by rw [ev203]; exact Inv.put0 hI194 _ rfl
    have hK205 : Kp (kp_X11_strike_400 si bi) v v203 := by rw [ev203]; exact Kp.put hK195 _ (by unfold kp_X11_strike_400; omega)
    have hm206 : v203 400 27 = x162 := by rw [ev203, up2_n _ _ (by omega)]; exact hm196
    have hm207 : v203 409 si.toNatClampNeg = x171 := by rw [ev203, up2_n _ _ (by omega)]; exact hm197
    have hm208 : v203 419 bi.toNatClampNeg = x180 := by rw [ev203, up2_n _ _ (by omega)]; exact hm198
    refine lv_aload_n hx hb d_X11_strike_149 rfl (lv_at hl 2 rfl) ?_
    refine r_getr (r := 413) X hw FL_X11_40 (rfl : KD 400 = _) rfl d_X11_strike_150 ?_
    refine lv_iload_n hx hb d_X11_strike_153 rfl (lv_at hl 3 rfl) ?_
    refine lv_dup2_11 hx hb d_X11_strike_154 rfl rfl ?_
    refine r_iald X hw (rfl : KD 413 = _) (Rg.vp (b := 19) r_si (by decide)) rfl d_X11_strike_155 ?_
    refine lv_topi (fun x209 ex209 => ?_)
    have hG := bnd_use ex209 hG
    refine lv_iload_n hx hb d_X11_strike_156 rfl (lv_at hl 1 rfl) ?_
    refine lv_iadd hx hb d_X11_strike_157 ?_
    refine lv_topi (fun x210 ex210 => ?_)
    have hG := bnd_use ex210 hG
    refine r_iast X hw hS (rfl : KD 413 = _) (Rg.vp (b := 19) r_si (by decide)) rfl d_X11_strike_158 (fun H locs hw hS => ?_)
    obtain ⟨v211, ev211⟩ : ∃ z, z = up2 v203 413 si.toNatClampNeg x210 := ⟨_, rfl⟩
    rw [← ev211] at hw
    have hG := bnd_use ev211 hG
    have hI212 : Inv v211 := by rw [ev211]; exact Inv.put0 hI204 _ rfl
    have hK213 : Kp (kp_X11_strike_400 si bi) v v211 := by rw [ev211]; exact Kp.put hK205 _ (by unfold kp_X11_strike_400; omega)
    have hm214 : v211 400 27 = x162 := by rw [ev211, up2_n _ _ (by omega)]; exact hm206
    have hm215 : v211 409 si.toNatClampNeg = x171 := by rw [ev211, up2_n _ _ (by omega)]; exact hm207
    have hm216 : v211 419 bi.toNatClampNeg = x180 := by rw [ev211, up2_n _ _ (by omega)]; exact hm208
    refine lv_aload_n hx hb d_X11_strike_159 rfl (lv_at hl 2 rfl) ?_
    refine r_getr (r := 414) X hw FL_X11_43 (rfl : KD 400 = _) rfl d_X11_strike_160 ?_
    refine lv_iload_n hx hb d_X11_strike_163 rfl (lv_at hl 3 rfl) ?_
    refine lv_dup2_11 hx hb d_X11_strike_164 rfl rfl ?_
    refine r_iald X hw (rfl : KD 414 = _) (Rg.vp (b := 19) r_si (by decide)) rfl d_X11_strike_165 ?_
    refine lv_topi (fun x217 ex217 => ?_)
    have hG := bnd_use ex217 hG
    refine lv_iload_n hx hb d_X11_strike_166 rfl (lv_at hl 1 rfl) ?_
    refine lv_iload hx hb d_X11_strike_167 (lv_at hl 0 rfl) ?_
    refine lv_imul hx hb d_X11_strike_169 ?_
    refine lv_topi (fun x218 ex218 => ?_)
    have hG := bnd_use ex218 hG
    refine lv_iadd hx hb d_X11_strike_170 ?_
    refine lv_topi (fun x219 ex219 => ?_)
    have hG := bnd_use ex219 hG
    refine r_iast X hw hS (rfl : KD 414 = _) (Rg.vp (b := 19) r_si (by decide)) rfl d_X11_strike_171 (fun H locs hw hS => ?_)
    obtain ⟨v220, ev220⟩ : ∃ z, z = up2 v211 414 si.toNatClampNeg x219 := ⟨_, rfl⟩
    rw [← ev220] at hw
    have hG := bnd_use ev220 hG
    have hI221 : Inv v220 := by rw [ev220]; exact Inv.put0 hI212 _ rfl
    have hK222 : Kp (kp_X11_strike_400 si bi) v v220 := by rw [ev220]; exact Kp.put hK213 _ (by unfold kp_X11_strike_400; omega)
    have hm223 : v220 400 27 = x162 := by rw [ev220, up2_n _ _ (by omega)]; exact hm214
    have hm224 : v220 409 si.toNatClampNeg = x171 := by rw [ev220, up2_n _ _ (by omega)]; exact hm215
    have hm225 : v220 419 bi.toNatClampNeg = x180 := by rw [ev220, up2_n _ _ (by omega)]; exact hm216
    refine lv_aload_n hx hb d_X11_strike_172 rfl (lv_at hl 2 rfl) ?_
    refine r_getr (r := 415) X hw FL_X11_46 (rfl : KD 400 = _) rfl d_X11_strike_173 ?_
    refine lv_iload_n hx hb d_X11_strike_176 rfl (lv_at hl 3 rfl) ?_
    refine lv_dup2_11 hx hb d_X11_strike_177 rfl rfl ?_
    refine r_iald X hw (rfl : KD 415 = _) (Rg.vp (b := 19) r_si (by decide)) rfl d_X11_strike_178 ?_
    refine lv_topi (fun x226 ex226 => ?_)
    have hG := bnd_use ex226 hG
    refine lv_aload_n hx hb d_X11_strike_179 rfl (lv_at hl 2 rfl) ?_
    refine lv_iload_n hx hb d_X11_strike_180 rfl (lv_at hl 3 rfl) ?_
    refine r_ci (r_runV (n := 1) (As := [.int si]) (rest := [.int x226, .int si, .ref (ad 415)]) X hw (ct_X11_rate_400 l D dA ad v220 hI221 si r_si) gc_X11_180 (rfl : KD 400 = _) (by decide) rfl (by decide +kernel) ⟨rfl, rfl, Nat.le_of_ble_eq_true rfl, Nat.le_of_ble_eq_true rfl⟩ rfl hl.1 rfl (Nat.le_of_ble_eq_true rfl) ⟨Nat.zero_le _, Nat.zero_le _⟩ d_X11_strike_181) hS (fun x228 v229 H locs hp227 hw hS => ?_)
    obtain ⟨hp227, hE230⟩ := hp227
    rw [hp227] at hw
    have hG := bnd_use hE230 hG
    refine lv_iload_n hx hb d_X11_strike_184 rfl (lv_at hl 1 rfl) ?_
    refine lv_imul hx hb d_X11_strike_185 ?_
    refine lv_topi (fun x231 ex231 => ?_)
    have hG := bnd_use ex231 hG
    refine lv_iadd hx hb d_X11_strike_186 ?_
    refine lv_topi (fun x232 ex232 => ?_)
    have hG := bnd_use ex232 hG
    refine r_iast X hw hS (rfl : KD 415 = _) (Rg.vp (b := 19) r_si (by decide)) rfl d_X11_strike_187 (fun H locs hw hS => ?_)
    obtain ⟨v233, ev233⟩ : ∃ z, z = up2 v220 415 si.toNatClampNeg x232 := ⟨_, rfl⟩
    rw [← ev233] at hw
    have hG := bnd_use ev233 hG
    have hI234 : Inv v233 := by rw [ev233]; exact Inv.put0 hI221 _ rfl
    have hK235 : Kp (kp_X11_strike_400 si bi) v v233 := by rw [ev233]; exact Kp.put hK222 _ (by unfold kp_X11_strike_400; omega)
    have hm236 : v233 400 27 = x162 := by rw [ev233, up2_n _ _ (by omega)]; exact hm223
    have hm237 : v233 409 si.toNatClampNeg = x171 := by rw [ev233, up2_n _ _ (by omega)]; exact hm224
    have hm238 : v233 419 bi.toNatClampNeg = x180 := by rw [ev233, up2_n _ _ (by omega)]; exact hm225
    refine lv_aload_n hx hb d_X11_strike_188 rfl (lv_at hl 2 rfl) ?_
    refine lv_dup hx hb d_X11_strike_189 rfl ?_
    refine r_geti X hw FL_X11_246 (rfl : KD 400 = _) rfl d_X11_strike_190 ?_
    refine lv_topi (fun x239 ex239 => ?_)
    have hG := bnd_use ex239 hG
    refine lv_iload_n hx hb d_X11_strike_193 rfl (lv_at hl 1 rfl) ?_
    refine lv_iadd hx hb d_X11_strike_194 ?_
    refine lv_topi (fun x240 ex240 => ?_)
    have hG := bnd_use ex240 hG
    refine r_put X hw hS FP_X11_246 (rfl : KD 400 = _) rfl ⟨rfl, rfl⟩ d_X11_strike_195 (fun H locs hw hS => ?_)
    obtain ⟨v241, ev241⟩ : ∃ z, z = up2 v233 400 58 x240 := ⟨_, rfl⟩
    rw [← ev241] at hw
    have hG := bnd_use ev241 hG
    have hI242 : Inv v241 := by rw [ev241]; exact Inv.put0 hI234 _ rfl
    have hK243 : Kp (kp_X11_strike_400 si bi) v v241 := by rw [ev241]; exact Kp.put hK235 _ (by unfold kp_X11_strike_400; omega)
    have hm244 : v241 400 27 = x162 := by rw [ev241, up2_n _ _ (by omega)]; exact hm236
    have hm245 : v241 409 si.toNatClampNeg = x171 := by rw [ev241, up2_n _ _ (by omega)]; exact hm237
    have hm246 : v241 419 bi.toNatClampNeg = x180 := by rw [ev241, up2_n _ _ (by omega)]; exact hm238
    refine lv_aload_n hx hb d_X11_strike_198 rfl (lv_at hl 2 rfl) ?_
    refine lv_dup hx hb d_X11_strike_199 rfl ?_
    refine r_geti X hw FL_X11_249 (rfl : KD 400 = _) rfl d_X11_strike_200 ?_
    refine lv_topi (fun x247 ex247 => ?_)
    have hG := bnd_use ex247 hG
    refine lv_iload_n hx hb d_X11_strike_203 rfl (lv_at hl 1 rfl) ?_
    refine lv_iload hx hb d_X11_strike_204 (lv_at hl 0 rfl) ?_
    refine lv_imul hx hb d_X11_strike_206 ?_
    refine lv_topi (fun x248 ex248 => ?_)
    have hG := bnd_use ex248 hG
    refine lv_iadd hx hb d_X11_strike_207 ?_
    refine lv_topi (fun x249 ex249 => ?_)
    have hG := bnd_use ex249 hG
    refine r_put X hw hS FP_X11_249 (rfl : KD 400 = _) rfl ⟨rfl, rfl⟩ d_X11_strike_208 (fun H locs hw hS => ?_)
    obtain ⟨v250, ev250⟩ : ∃ z, z = up2 v241 400 59 x249 := ⟨_, rfl⟩
    rw [← ev250] at hw
    have hG := bnd_use ev250 hG
    have hI251 : Inv v250 := by rw [ev250]; exact Inv.put0 hI242 _ rfl
    have hK252 : Kp (kp_X11_strike_400 si bi) v v250 := by rw [ev250]; exact Kp.put hK243 _ (by unfold kp_X11_strike_400; omega)
    have hm253 : v250 400 27 = x162 := by rw [ev250, up2_n _ _ (by omega)]; exact hm244
    have hm254 : v250 409 si.toNatClampNeg = x171 := by rw [ev250, up2_n _ _ (by omega)]; exact hm245
    have hm255 : v250 419 bi.toNatClampNeg = x180 := by rw [ev250, up2_n _ _ (by omega)]; exact hm246
    exact r_vret X hr hlocks hw hS ⟨⟨hI251, hK252, by rw [hm253, hB27]; omega, (by intro j hj; rw [ev250, up2_n _ _ (by omega), ev241, up2_n _ _ (by omega), ev233, up2_n _ _ (by omega), ev220, up2_n _ _ (by omega), ev211, up2_n _ _ (by omega), ev203, up2_n _ _ (by omega), ev193, up2_n _ _ (by omega), ev183, up2_n _ _ (by omega), ev174, up2_n _ _ (by omega), ev165, up2_n _ _ (by omega), ev156, up2_n _ _ (by omega), ev150, up2_n _ _ (by omega), ev144, up2_n _ _ (by omega), ev138, up2_n _ _ (by omega)]), by rw [hm254, hm255, h409, h419]; omega⟩, hG.trans eRR.symm⟩ d_X11_strike_211
theorem d_X11_sell_0 : decode c_X11_sell 0 = .ok (.aload_n 0, 1) := by decide +kernel
theorem d_X11_sell_1 : decode c_X11_sell 1 = .ok (.getfield 246, 3) := by decide +kernel
theorem d_X11_sell_4 : decode c_X11_sell 4 = .ok (.istore_n 2, 1) := by decide +kernel
theorem d_X11_sell_5 : decode c_X11_sell 5 = .ok (.aload_n 0, 1) := by decide +kernel
theorem d_X11_sell_6 : decode c_X11_sell 6 = .ok (.iload_n 1, 1) := by decide +kernel
theorem d_X11_sell_7 : decode c_X11_sell 7 = .ok (.invokevirtual 252, 3) := by decide +kernel
theorem d_X11_sell_10 : decode c_X11_sell 10 = .ok (.istore_n 3, 1) := by decide +kernel
theorem d_X11_sell_11 : decode c_X11_sell 11 = .ok (.aload_n 0, 1) := by decide +kernel
theorem d_X11_sell_12 : decode c_X11_sell 12 = .ok (.getfield 28, 3) := by decide +kernel
theorem d_X11_sell_15 : decode c_X11_sell 15 = .ok (.iload_n 1, 1) := by decide +kernel
theorem d_X11_sell_16 : decode c_X11_sell 16 = .ok (.iaload, 1) := by decide +kernel
theorem d_X11_sell_17 : decode c_X11_sell 17 = .ok (.ifCond .le 22, 3) := by decide +kernel
theorem d_X11_sell_20 : decode c_X11_sell 20 = .ok (.iload_n 3, 1) := by decide +kernel
theorem d_X11_sell_21 : decode c_X11_sell 21 = .ok (.ifCond .lt 18, 3) := by decide +kernel
theorem d_X11_sell_24 : decode c_X11_sell 24 = .ok (.aload_n 0, 1) := by decide +kernel
theorem d_X11_sell_25 : decode c_X11_sell 25 = .ok (.iload_n 1, 1) := by decide +kernel
theorem d_X11_sell_26 : decode c_X11_sell 26 = .ok (.iload_n 3, 1) := by decide +kernel
theorem d_X11_sell_27 : decode c_X11_sell 27 = .ok (.invokevirtual 255, 3) := by decide +kernel
theorem d_X11_sell_30 : decode c_X11_sell 30 = .ok (.aload_n 0, 1) := by decide +kernel
theorem d_X11_sell_31 : decode c_X11_sell 31 = .ok (.iload_n 1, 1) := by decide +kernel
theorem d_X11_sell_32 : decode c_X11_sell 32 = .ok (.invokevirtual 252, 3) := by decide +kernel
theorem d_X11_sell_35 : decode c_X11_sell 35 = .ok (.istore_n 3, 1) := by decide +kernel
theorem d_X11_sell_36 : decode c_X11_sell 36 = .ok (.goto (-25), 3) := by decide +kernel
theorem d_X11_sell_39 : decode c_X11_sell 39 = .ok (.aload_n 0, 1) := by decide +kernel
theorem d_X11_sell_40 : decode c_X11_sell 40 = .ok (.getfield 28, 3) := by decide +kernel
theorem d_X11_sell_43 : decode c_X11_sell 43 = .ok (.iload_n 1, 1) := by decide +kernel
theorem d_X11_sell_44 : decode c_X11_sell 44 = .ok (.iaload, 1) := by decide +kernel
theorem d_X11_sell_45 : decode c_X11_sell 45 = .ok (.ifCond .ne 10, 3) := by decide +kernel
theorem d_X11_sell_48 : decode c_X11_sell 48 = .ok (.aload_n 0, 1) := by decide +kernel
theorem d_X11_sell_49 : decode c_X11_sell 49 = .ok (.getfield 31, 3) := by decide +kernel
theorem d_X11_sell_52 : decode c_X11_sell 52 = .ok (.iload_n 1, 1) := by decide +kernel
theorem d_X11_sell_53 : decode c_X11_sell 53 = .ok (.iconst 3, 1) := by decide +kernel
theorem d_X11_sell_54 : decode c_X11_sell 54 = .ok (.iastore, 1) := by decide +kernel
theorem d_X11_sell_55 : decode c_X11_sell 55 = .ok (.aload_n 0, 1) := by decide +kernel
theorem d_X11_sell_56 : decode c_X11_sell 56 = .ok (.getfield 246, 3) := by decide +kernel
theorem d_X11_sell_59 : decode c_X11_sell 59 = .ok (.iload_n 2, 1) := by decide +kernel
theorem d_X11_sell_60 : decode c_X11_sell 60 = .ok (.if_icmp .le 4, 3) := by decide +kernel
theorem d_X11_sell_63 : decode c_X11_sell 63 = .ok (.return_, 1) := by decide +kernel
theorem d_X11_sell_64 : decode c_X11_sell 64 = .ok (.aload_n 0, 1) := by decide +kernel
theorem d_X11_sell_65 : decode c_X11_sell 65 = .ok (.getfield 37, 3) := by decide +kernel
theorem d_X11_sell_68 : decode c_X11_sell 68 = .ok (.iload_n 1, 1) := by decide +kernel
theorem d_X11_sell_69 : decode c_X11_sell 69 = .ok (.dup2, 1) := by decide +kernel
theorem d_X11_sell_70 : decode c_X11_sell 70 = .ok (.iaload, 1) := by decide +kernel
theorem d_X11_sell_71 : decode c_X11_sell 71 = .ok (.iconst 1, 1) := by decide +kernel
theorem d_X11_sell_72 : decode c_X11_sell 72 = .ok (.iadd, 1) := by decide +kernel
theorem d_X11_sell_73 : decode c_X11_sell 73 = .ok (.iastore, 1) := by decide +kernel
theorem d_X11_sell_74 : decode c_X11_sell 74 = .ok (.aload_n 0, 1) := by decide +kernel
theorem d_X11_sell_75 : decode c_X11_sell 75 = .ok (.getfield 7, 3) := by decide +kernel
theorem d_X11_sell_78 : decode c_X11_sell 78 = .ok (.iload_n 1, 1) := by decide +kernel
theorem d_X11_sell_79 : decode c_X11_sell 79 = .ok (.iaload, 1) := by decide +kernel
theorem d_X11_sell_80 : decode c_X11_sell 80 = .ok (.iconst 1, 1) := by decide +kernel
theorem d_X11_sell_81 : decode c_X11_sell 81 = .ok (.if_icmp .gt 20, 3) := by decide +kernel
theorem d_X11_sell_84 : decode c_X11_sell 84 = .ok (.aload_n 0, 1) := by decide +kernel
theorem d_X11_sell_85 : decode c_X11_sell 85 = .ok (.getfield 37, 3) := by decide +kernel
theorem d_X11_sell_88 : decode c_X11_sell 88 = .ok (.iload_n 1, 1) := by decide +kernel
theorem d_X11_sell_89 : decode c_X11_sell 89 = .ok (.iaload, 1) := by decide +kernel
theorem d_X11_sell_90 : decode c_X11_sell 90 = .ok (.iconst 2, 1) := by decide +kernel
theorem d_X11_sell_91 : decode c_X11_sell 91 = .ok (.if_icmp .lt 10, 3) := by decide +kernel
theorem d_X11_sell_94 : decode c_X11_sell 94 = .ok (.aload_n 0, 1) := by decide +kernel
theorem d_X11_sell_95 : decode c_X11_sell 95 = .ok (.getfield 31, 3) := by decide +kernel
theorem d_X11_sell_98 : decode c_X11_sell 98 = .ok (.iload_n 1, 1) := by decide +kernel
theorem d_X11_sell_99 : decode c_X11_sell 99 = .ok (.iconst 2, 1) := by decide +kernel
theorem d_X11_sell_100 : decode c_X11_sell 100 = .ok (.iastore, 1) := by decide +kernel
theorem d_X11_sell_101 : decode c_X11_sell 101 = .ok (.return_, 1) := by decide +kernel
def kp_X11_sell_400 (si : Int32) (a j : Nat) : Prop := (a ≠ 400 ∨ (j ≠ 27 ∧ j ≠ 58 ∧ j ≠ 59)) ∧ a ≠ 410 ∧ a ≠ 412 ∧ a ≠ 409 ∧ a ≠ 413 ∧ a ≠ 414 ∧ a ≠ 415 ∧ a ≠ 419 ∧ a ≠ 421 ∧ a ≠ 424 ∧ (a < 429 ∨ 433 ≤ a)
def b_X11_sell_400_11 (si : Int32) (rc11 : Int32 → Int32 → tV → tV) (y2 : Int32) (y3 : Int32) (v1 : tV) : tV := bnd (v1 400 27) fun m0 => bnd (v1 409 si.toNatClampNeg) fun x1 => (if x1 ≤ (0 : Int32) then (if x1 = (0 : Int32) then bnd (up2 v1 410 (si.toNatClampNeg) 3) fun v39 => bnd (v39 400 58) fun x44 => (if x44 ≤ y2 then bnd (v39 412 si.toNatClampNeg) fun x47 => bnd (x47 + (1 : Int32)) fun x48 => bnd (up2 v39 412 (si.toNatClampNeg) x48) fun v49 => bnd (v49 403 si.toNatClampNeg) fun x54 => (if (1 : Int32) < x54 then v49 else bnd (v49 412 si.toNatClampNeg) fun x60 => (if x60 < (2 : Int32) then v49 else bnd (up2 v49 410 (si.toNatClampNeg) 2) fun v66 => v66)) else v39) else bnd (v1 400 58) fun x9 => (if x9 ≤ y2 then bnd (v1 412 si.toNatClampNeg) fun x12 => bnd (x12 + (1 : Int32)) fun x13 => bnd (up2 v1 412 (si.toNatClampNeg) x13) fun v14 => bnd (v14 403 si.toNatClampNeg) fun x19 => (if (1 : Int32) < x19 then v14 else bnd (v14 412 si.toNatClampNeg) fun x25 => (if x25 < (2 : Int32) then v14 else bnd (up2 v14 410 (si.toNatClampNeg) 2) fun v31 => v31)) else v1)) else (if y3 < (0 : Int32) then bnd (v1 400 58) fun x79 => (if x79 ≤ y2 then bnd (v1 412 si.toNatClampNeg) fun x82 => bnd (x82 + (1 : Int32)) fun x83 => bnd (up2 v1 412 (si.toNatClampNeg) x83) fun v84 => bnd (v84 403 si.toNatClampNeg) fun x89 => (if (1 : Int32) < x89 then v84 else bnd (v84 412 si.toNatClampNeg) fun x95 => (if x95 < (2 : Int32) then v84 else bnd (up2 v84 410 (si.toNatClampNeg) 2) fun v101 => v101)) else v1) else bnd (f_X11_strike_400 v1 si y3) fun v110 => bnd (f_X11_next_400 v110 si) fun x119 => rc11 y2 x119 v110))
def g_X11_sell_400_11 (si : Int32) : Nat → Int32 → Int32 → tV → tV
  | 0, _, _, v1 => v1
  | n + 1, y2, y3, v1 => b_X11_sell_400_11 si (g_X11_sell_400_11 si n) y2 y3 v1
def f_X11_sell_400 (v : tV) (si : Int32) : tV := bnd (v 400 58) fun x125 => bnd (f_X11_next_400 v si) fun x127 => g_X11_sell_400_11 si 3000000000 x125 x127 v
set_option maxHeartbeats 4000000 in
set_option maxRecDepth 100000 in
theorem ct_X11_sell_400 (l : Launch) (D : va_G) (dA : Nat → ClassId) (ad : Nat → Nat) (v : tV) (hI : Inv v) (si : Int32) (r_si : Rg si 0 19) (hB : (v 400 27).toInt ≤ 190) : Met l m_X11_sell [.code m_X11_sell c_X11_sell 4 none] ({ frames := 3, cells := 0, slots := 0, locals := 85 } : Room) (tP D dA ad v [.ref (ad 400), .int si]) (tQv D dA ad (fun v' => (Inv v' ∧ Kp (kp_X11_sell_400 si) v v' ∧ (v' 400 27).toInt ≤ (v 400 27).toInt + 10) ∧ v' = f_X11_sell_400 v si)) 0 0 (tA ad) := by
  refine tMet (by decide) (Nat.le_of_ble_eq_true rfl) ?_
  intro p e s m below meth c ls X hr hlocks hw hl
  have X : CX p s m ([.ref (ad 400), .int si] : List Value).toArray c c_X11_sell N_X11 4 D dA := X
  have hx := X.1
  have hb := X.2.1
  have hS : va_S (tA ad) s.heap s.heap [] := va_S.rf
  have hl : lv_has ls 4 [(0, .ref (ad 400)), (1, .int si)] := hl
  obtain ⟨RR, eRR⟩ : ∃ z, f_X11_sell_400 v si = z := ⟨_, rfl⟩
  have LL : ∀ n : Nat, (∀ (y2 : Int32) (y3 : Int32) (m0 : Int32) (v1 : tV) (H : Heap) (locs : List Loc) (ls : Array Slot), (v1 409 si.toNatClampNeg).toInt.toNat < n → Rg y3 (-1) 9 → Rg m0 0 200 → Inv v1 → Kp (kp_X11_sell_400 si) v v1 → v1 400 27 = m0 → ((0 ≤ y3.toInt → 0 < (v1 419 y3.toNatClampNeg).toInt) ∧ m0.toInt + (if 0 < (v1 409 si.toNatClampNeg).toInt then (cW (v1 419) 10 : Int) else 0) ≤ (v 400 27).toInt + 10) → g_X11_sell_400_11 si n y2 y3 v1 = RR → tI D dA ad v1 H → va_S (tA ad) s.heap H locs → lv_has ls 4 [(0, .ref (ad 400)), (1, .int si), (2, .int y2), (3, .int y3)] → W p l e ({ frames := 3, cells := 0, slots := 0, locals := 85 } : Room) s m ([.ref (ad 400), .int si] : List Value).toArray below meth c H locs 0 0 (MQ below (tQv D dA ad (fun v' => (Inv v' ∧ Kp (kp_X11_sell_400 si) v v' ∧ (v' 400 27).toInt ≤ (v 400 27).toInt + 10) ∧ v' = f_X11_sell_400 v si)) ([.ref (ad 400), .int si] : List Value).toArray s 0 0 (tA ad)) (F0 m 11 ls [])) := by
    intro n
    induction n with
    | zero => intros; omega
    | succ n ih =>
      have ih0 := ih
      intro y2 y3 m0 v1 H locs ls hmu r_y3 r_m0 hI1 hK1 h_m0 hex hG hw hS hl
      have hG : b_X11_sell_400_11 si (g_X11_sell_400_11 si n) y2 y3 v1 = RR := hG
      unfold b_X11_sell_400_11 at hG
      have hG := bnd_use h_m0.symm hG
      refine lv_aload_n hx hb d_X11_sell_11 rfl (lv_at hl 0 rfl) ?_
      refine r_getr (r := 409) X hw FL_X11_28 (rfl : KD 400 = _) rfl d_X11_sell_12 ?_
      refine lv_iload_n hx hb d_X11_sell_15 rfl (lv_at hl 1 rfl) ?_
      refine r_iald X hw (rfl : KD 409 = _) (Rg.vp (b := 19) r_si (by decide)) rfl d_X11_sell_16 ?_
      refine lv_topi (fun x1 ex1 => ?_)
      have hG := bnd_use ex1 hG
      have hm2 : v1 409 si.toNatClampNeg = x1 := ex1.symm
      refine lv_if_le (tgt := 39) hx hb d_X11_sell_17 (by decide) (fun c3 => ?_) (fun c3 => ?_)
      · have f4 := i_le c3
        have r5 : Rg x1 (-2147483648) 0 := by obtain ⟨a1, a2⟩ := (rg_any x1); obtain ⟨b1, b2⟩ := (⟨by decide, by decide⟩ : Rg 0 0 0); have f := i_le c3; exact ⟨by omega, by omega⟩
        have hG := g_pos c3 hG
        refine lv_aload_n hx hb d_X11_sell_39 rfl (lv_at hl 0 rfl) ?_
        refine r_getr (r := 409) X hw FL_X11_28 (rfl : KD 400 = _) rfl d_X11_sell_40 ?_
        refine lv_iload_n hx hb d_X11_sell_43 rfl (lv_at hl 1 rfl) ?_
        refine r_iald X hw (rfl : KD 409 = _) (Rg.vp (b := 19) r_si (by decide)) rfl d_X11_sell_44 ?_
        refine lv_seti hm2 ?_
        refine lv_if_ne (tgt := 55) hx hb d_X11_sell_45 (by decide) (fun c6 => ?_) (fun c6 => ?_)
        · have f7 := i_ne c6
          have r8 : Rg x1 (-2147483648) (-1) := by obtain ⟨a1, a2⟩ := r5; obtain ⟨b1, b2⟩ := (⟨by decide, by decide⟩ : Rg 0 0 0); have f := i_ne c6; exact ⟨by omega, by omega⟩
          have hG := g_neg c6 hG
          refine lv_aload_n hx hb d_X11_sell_55 rfl (lv_at hl 0 rfl) ?_
          refine r_geti X hw FL_X11_246 (rfl : KD 400 = _) rfl d_X11_sell_56 ?_
          refine lv_topi (fun x9 ex9 => ?_)
          have hG := bnd_use ex9 hG
          refine lv_iload_n hx hb d_X11_sell_59 rfl (lv_at hl 2 rfl) ?_
          refine lv_icmp_le (tgt := 64) hx hb d_X11_sell_60 (by decide) (fun c10 => ?_) (fun c10 => ?_)
          · have f11 := i_le c10
            have hG := g_pos c10 hG
            refine lv_aload_n hx hb d_X11_sell_64 rfl (lv_at hl 0 rfl) ?_
            refine r_getr (r := 412) X hw FL_X11_37 (rfl : KD 400 = _) rfl d_X11_sell_65 ?_
            refine lv_iload_n hx hb d_X11_sell_68 rfl (lv_at hl 1 rfl) ?_
            refine lv_dup2_11 hx hb d_X11_sell_69 rfl rfl ?_
            refine r_iald X hw (rfl : KD 412 = _) (Rg.vp (b := 19) r_si (by decide)) rfl d_X11_sell_70 ?_
            refine lv_topi (fun x12 ex12 => ?_)
            have hG := bnd_use ex12 hG
            refine lv_iconst (v := 1) hx hb d_X11_sell_71 (by decide) ?_
            refine lv_iadd hx hb d_X11_sell_72 ?_
            refine lv_topi (fun x13 ex13 => ?_)
            have hG := bnd_use ex13 hG
            refine r_iast X hw hS (rfl : KD 412 = _) (Rg.vp (b := 19) r_si (by decide)) rfl d_X11_sell_73 (fun H locs hw hS => ?_)
            obtain ⟨v14, ev14⟩ : ∃ z, z = up2 v1 412 si.toNatClampNeg x13 := ⟨_, rfl⟩
            rw [← ev14] at hw
            have hG := bnd_use ev14 hG
            have hI15 : Inv v14 := by rw [ev14]; exact Inv.put0 hI1 _ rfl
            have hK16 : Kp (kp_X11_sell_400 si) v v14 := by rw [ev14]; exact Kp.put hK1 _ (by unfold kp_X11_sell_400; omega)
            have hm17 : v14 400 27 = m0 := by rw [ev14, up2_n _ _ (by omega)]; exact h_m0
            have hm18 : v14 409 si.toNatClampNeg = x1 := by rw [ev14, up2_n _ _ (by omega)]; exact hm2
            refine lv_aload_n hx hb d_X11_sell_74 rfl (lv_at hl 0 rfl) ?_
            refine r_getr (r := 403) X hw FL_X11_7 (rfl : KD 400 = _) rfl d_X11_sell_75 ?_
            refine lv_iload_n hx hb d_X11_sell_78 rfl (lv_at hl 1 rfl) ?_
            refine r_iald X hw (rfl : KD 403 = _) (Rg.vp (b := 19) r_si (by decide)) rfl d_X11_sell_79 ?_
            refine lv_topi (fun x19 ex19 => ?_)
            have hG := bnd_use ex19 hG
            refine lv_iconst (v := 1) hx hb d_X11_sell_80 (by decide) ?_
            refine lv_icmp_gt (tgt := 101) hx hb d_X11_sell_81 (by decide) (fun c20 => ?_) (fun c20 => ?_)
            · have f21 := i_lt c20
              have r22 : Rg x19 2 2147483647 := by obtain ⟨a1, a2⟩ := (rg_any x19); obtain ⟨b1, b2⟩ := (⟨by decide, by decide⟩ : Rg 1 1 1); have f := i_lt c20; exact ⟨by omega, by omega⟩
              have hG := g_pos c20 hG
              exact r_vret X hr hlocks hw hS ⟨⟨hI15, hK16, by rw [hm17]; have q := hex.2; split at q <;> omega⟩, hG.trans eRR.symm⟩ d_X11_sell_101
            · have f23 := i_nlt c20
              have r24 : Rg x19 (-2147483648) 1 := by obtain ⟨a1, a2⟩ := (rg_any x19); obtain ⟨b1, b2⟩ := (⟨by decide, by decide⟩ : Rg 1 1 1); have f := i_nlt c20; exact ⟨by omega, by omega⟩
              have hG := g_neg c20 hG
              refine lv_aload_n hx hb d_X11_sell_84 rfl (lv_at hl 0 rfl) ?_
              refine r_getr (r := 412) X hw FL_X11_37 (rfl : KD 400 = _) rfl d_X11_sell_85 ?_
              refine lv_iload_n hx hb d_X11_sell_88 rfl (lv_at hl 1 rfl) ?_
              refine r_iald X hw (rfl : KD 412 = _) (Rg.vp (b := 19) r_si (by decide)) rfl d_X11_sell_89 ?_
              refine lv_topi (fun x25 ex25 => ?_)
              have hG := bnd_use ex25 hG
              refine lv_iconst (v := 2) hx hb d_X11_sell_90 (by decide) ?_
              refine lv_icmp_lt (tgt := 101) hx hb d_X11_sell_91 (by decide) (fun c26 => ?_) (fun c26 => ?_)
              · have f27 := i_lt c26
                have r28 : Rg x25 (-2147483648) 1 := by obtain ⟨a1, a2⟩ := (rg_any x25); obtain ⟨b1, b2⟩ := (⟨by decide, by decide⟩ : Rg 2 2 2); have f := i_lt c26; exact ⟨by omega, by omega⟩
                have hG := g_pos c26 hG
                exact r_vret X hr hlocks hw hS ⟨⟨hI15, hK16, by rw [hm17]; have q := hex.2; split at q <;> omega⟩, hG.trans eRR.symm⟩ d_X11_sell_101
              · have f29 := i_nlt c26
                have r30 : Rg x25 2 2147483647 := by obtain ⟨a1, a2⟩ := (rg_any x25); obtain ⟨b1, b2⟩ := (⟨by decide, by decide⟩ : Rg 2 2 2); have f := i_nlt c26; exact ⟨by omega, by omega⟩
                have hG := g_neg c26 hG
                refine lv_aload_n hx hb d_X11_sell_94 rfl (lv_at hl 0 rfl) ?_
                refine r_getr (r := 410) X hw FL_X11_31 (rfl : KD 400 = _) rfl d_X11_sell_95 ?_
                refine lv_iload_n hx hb d_X11_sell_98 rfl (lv_at hl 1 rfl) ?_
                refine lv_iconst (v := 2) hx hb d_X11_sell_99 (by decide) ?_
                refine r_iast X hw hS (rfl : KD 410 = _) (Rg.vp (b := 19) r_si (by decide)) rfl d_X11_sell_100 (fun H locs hw hS => ?_)
                obtain ⟨v31, ev31⟩ : ∃ z, z = up2 v14 410 si.toNatClampNeg 2 := ⟨_, rfl⟩
                rw [← ev31] at hw
                have hG := bnd_use ev31 hG
                have hI32 : Inv v31 := by rw [ev31]; exact Inv.put0 hI15 _ rfl
                have hK33 : Kp (kp_X11_sell_400 si) v v31 := by rw [ev31]; exact Kp.put hK16 _ (by unfold kp_X11_sell_400; omega)
                have hm34 : v31 400 27 = m0 := by rw [ev31, up2_n _ _ (by omega)]; exact hm17
                have hm35 : v31 409 si.toNatClampNeg = x1 := by rw [ev31, up2_n _ _ (by omega)]; exact hm18
                exact r_vret X hr hlocks hw hS ⟨⟨hI32, hK33, by rw [hm34]; have q := hex.2; split at q <;> omega⟩, hG.trans eRR.symm⟩ d_X11_sell_101
          · have f36 := i_nle c10
            have hG := g_neg c10 hG
            exact r_vret X hr hlocks hw hS ⟨⟨hI1, hK1, by rw [h_m0]; have q := hex.2; split at q <;> omega⟩, hG.trans eRR.symm⟩ d_X11_sell_63
        · have f37 := i_eq c6
          have r38 : Rg x1 0 0 := by obtain ⟨a1, a2⟩ := r5; obtain ⟨b1, b2⟩ := (⟨by decide, by decide⟩ : Rg 0 0 0); have f := i_eq c6; exact ⟨by omega, by omega⟩
          have hG := g_pos c6 hG
          refine lv_aload_n hx hb d_X11_sell_48 rfl (lv_at hl 0 rfl) ?_
          refine r_getr (r := 410) X hw FL_X11_31 (rfl : KD 400 = _) rfl d_X11_sell_49 ?_
          refine lv_iload_n hx hb d_X11_sell_52 rfl (lv_at hl 1 rfl) ?_
          refine lv_iconst (v := 3) hx hb d_X11_sell_53 (by decide) ?_
          refine r_iast X hw hS (rfl : KD 410 = _) (Rg.vp (b := 19) r_si (by decide)) rfl d_X11_sell_54 (fun H locs hw hS => ?_)
          obtain ⟨v39, ev39⟩ : ∃ z, z = up2 v1 410 si.toNatClampNeg 3 := ⟨_, rfl⟩
          rw [← ev39] at hw
          have hG := bnd_use ev39 hG
          have hI40 : Inv v39 := by rw [ev39]; exact Inv.put0 hI1 _ rfl
          have hK41 : Kp (kp_X11_sell_400 si) v v39 := by rw [ev39]; exact Kp.put hK1 _ (by unfold kp_X11_sell_400; omega)
          have hm42 : v39 400 27 = m0 := by rw [ev39, up2_n _ _ (by omega)]; exact h_m0
          have hm43 : v39 409 si.toNatClampNeg = x1 := by rw [ev39, up2_n _ _ (by omega)]; exact hm2
          refine lv_aload_n hx hb d_X11_sell_55 rfl (lv_at hl 0 rfl) ?_
          refine r_geti X hw FL_X11_246 (rfl : KD 400 = _) rfl d_X11_sell_56 ?_
          refine lv_topi (fun x44 ex44 => ?_)
          have hG := bnd_use ex44 hG
          refine lv_iload_n hx hb d_X11_sell_59 rfl (lv_at hl 2 rfl) ?_
          refine lv_icmp_le (tgt := 64) hx hb d_X11_sell_60 (by decide) (fun c45 => ?_) (fun c45 => ?_)
          · have f46 := i_le c45
            have hG := g_pos c45 hG
            refine lv_aload_n hx hb d_X11_sell_64 rfl (lv_at hl 0 rfl) ?_
            refine r_getr (r := 412) X hw FL_X11_37 (rfl : KD 400 = _) rfl d_X11_sell_65 ?_
            refine lv_iload_n hx hb d_X11_sell_68 rfl (lv_at hl 1 rfl) ?_
            refine lv_dup2_11 hx hb d_X11_sell_69 rfl rfl ?_
            refine r_iald X hw (rfl : KD 412 = _) (Rg.vp (b := 19) r_si (by decide)) rfl d_X11_sell_70 ?_
            refine lv_topi (fun x47 ex47 => ?_)
            have hG := bnd_use ex47 hG
            refine lv_iconst (v := 1) hx hb d_X11_sell_71 (by decide) ?_
            refine lv_iadd hx hb d_X11_sell_72 ?_
            refine lv_topi (fun x48 ex48 => ?_)
            have hG := bnd_use ex48 hG
            refine r_iast X hw hS (rfl : KD 412 = _) (Rg.vp (b := 19) r_si (by decide)) rfl d_X11_sell_73 (fun H locs hw hS => ?_)
            obtain ⟨v49, ev49⟩ : ∃ z, z = up2 v39 412 si.toNatClampNeg x48 := ⟨_, rfl⟩
            rw [← ev49] at hw
            have hG := bnd_use ev49 hG
            have hI50 : Inv v49 := by rw [ev49]; exact Inv.put0 hI40 _ rfl
            have hK51 : Kp (kp_X11_sell_400 si) v v49 := by rw [ev49]; exact Kp.put hK41 _ (by unfold kp_X11_sell_400; omega)
            have hm52 : v49 400 27 = m0 := by rw [ev49, up2_n _ _ (by omega)]; exact hm42
            have hm53 : v49 409 si.toNatClampNeg = x1 := by rw [ev49, up2_n _ _ (by omega)]; exact hm43
            refine lv_aload_n hx hb d_X11_sell_74 rfl (lv_at hl 0 rfl) ?_
            refine r_getr (r := 403) X hw FL_X11_7 (rfl : KD 400 = _) rfl d_X11_sell_75 ?_
            refine lv_iload_n hx hb d_X11_sell_78 rfl (lv_at hl 1 rfl) ?_
            refine r_iald X hw (rfl : KD 403 = _) (Rg.vp (b := 19) r_si (by decide)) rfl d_X11_sell_79 ?_
            refine lv_topi (fun x54 ex54 => ?_)
            have hG := bnd_use ex54 hG
            refine lv_iconst (v := 1) hx hb d_X11_sell_80 (by decide) ?_
            refine lv_icmp_gt (tgt := 101) hx hb d_X11_sell_81 (by decide) (fun c55 => ?_) (fun c55 => ?_)
            · have f56 := i_lt c55
              have r57 : Rg x54 2 2147483647 := by obtain ⟨a1, a2⟩ := (rg_any x54); obtain ⟨b1, b2⟩ := (⟨by decide, by decide⟩ : Rg 1 1 1); have f := i_lt c55; exact ⟨by omega, by omega⟩
              have hG := g_pos c55 hG
              exact r_vret X hr hlocks hw hS ⟨⟨hI50, hK51, by rw [hm52]; have q := hex.2; split at q <;> omega⟩, hG.trans eRR.symm⟩ d_X11_sell_101
            · have f58 := i_nlt c55
              have r59 : Rg x54 (-2147483648) 1 := by obtain ⟨a1, a2⟩ := (rg_any x54); obtain ⟨b1, b2⟩ := (⟨by decide, by decide⟩ : Rg 1 1 1); have f := i_nlt c55; exact ⟨by omega, by omega⟩
              have hG := g_neg c55 hG
              refine lv_aload_n hx hb d_X11_sell_84 rfl (lv_at hl 0 rfl) ?_
              refine r_getr (r := 412) X hw FL_X11_37 (rfl : KD 400 = _) rfl d_X11_sell_85 ?_
              refine lv_iload_n hx hb d_X11_sell_88 rfl (lv_at hl 1 rfl) ?_
              refine r_iald X hw (rfl : KD 412 = _) (Rg.vp (b := 19) r_si (by decide)) rfl d_X11_sell_89 ?_
              refine lv_topi (fun x60 ex60 => ?_)
              have hG := bnd_use ex60 hG
              refine lv_iconst (v := 2) hx hb d_X11_sell_90 (by decide) ?_
              refine lv_icmp_lt (tgt := 101) hx hb d_X11_sell_91 (by decide) (fun c61 => ?_) (fun c61 => ?_)
              · have f62 := i_lt c61
                have r63 : Rg x60 (-2147483648) 1 := by obtain ⟨a1, a2⟩ := (rg_any x60); obtain ⟨b1, b2⟩ := (⟨by decide, by decide⟩ : Rg 2 2 2); have f := i_lt c61; exact ⟨by omega, by omega⟩
                have hG := g_pos c61 hG
                exact r_vret X hr hlocks hw hS ⟨⟨hI50, hK51, by rw [hm52]; have q := hex.2; split at q <;> omega⟩, hG.trans eRR.symm⟩ d_X11_sell_101
              · have f64 := i_nlt c61
                have r65 : Rg x60 2 2147483647 := by obtain ⟨a1, a2⟩ := (rg_any x60); obtain ⟨b1, b2⟩ := (⟨by decide, by decide⟩ : Rg 2 2 2); have f := i_nlt c61; exact ⟨by omega, by omega⟩
                have hG := g_neg c61 hG
                refine lv_aload_n hx hb d_X11_sell_94 rfl (lv_at hl 0 rfl) ?_
                refine r_getr (r := 410) X hw FL_X11_31 (rfl : KD 400 = _) rfl d_X11_sell_95 ?_
                refine lv_iload_n hx hb d_X11_sell_98 rfl (lv_at hl 1 rfl) ?_
                refine lv_iconst (v := 2) hx hb d_X11_sell_99 (by decide) ?_
                refine r_iast X hw hS (rfl : KD 410 = _) (Rg.vp (b := 19) r_si (by decide)) rfl d_X11_sell_100 (fun H locs hw hS => ?_)
                obtain ⟨v66, ev66⟩ : ∃ z, z = up2 v49 410 si.toNatClampNeg 2 := ⟨_, rfl⟩
                rw [← ev66] at hw
                have hG := bnd_use ev66 hG
                have hI67 : Inv v66 := by rw [ev66]; exact Inv.put0 hI50 _ rfl
                have hK68 : Kp (kp_X11_sell_400 si) v v66 := by rw [ev66]; exact Kp.put hK51 _ (by unfold kp_X11_sell_400; omega)
                have hm69 : v66 400 27 = m0 := by rw [ev66, up2_n _ _ (by omega)]; exact hm52
                have hm70 : v66 409 si.toNatClampNeg = x1 := by rw [ev66, up2_n _ _ (by omega)]; exact hm53
                exact r_vret X hr hlocks hw hS ⟨⟨hI67, hK68, by rw [hm69]; have q := hex.2; split at q <;> omega⟩, hG.trans eRR.symm⟩ d_X11_sell_101
          · have f71 := i_nle c45
            have hG := g_neg c45 hG
            exact r_vret X hr hlocks hw hS ⟨⟨hI40, hK41, by rw [hm42]; have q := hex.2; split at q <;> omega⟩, hG.trans eRR.symm⟩ d_X11_sell_63
      · have f72 := i_nle c3
        have r73 : Rg x1 1 2147483647 := by obtain ⟨a1, a2⟩ := (rg_any x1); obtain ⟨b1, b2⟩ := (⟨by decide, by decide⟩ : Rg 0 0 0); have f := i_nle c3; exact ⟨by omega, by omega⟩
        have hG := g_neg c3 hG
        refine lv_iload_n hx hb d_X11_sell_20 rfl (lv_at hl 3 rfl) ?_
        refine lv_if_lt (tgt := 39) hx hb d_X11_sell_21 (by decide) (fun c74 => ?_) (fun c74 => ?_)
        · have f75 := i_lt c74
          have r76 : Rg y3 (-1) (-1) := by obtain ⟨a1, a2⟩ := r_y3; obtain ⟨b1, b2⟩ := (⟨by decide, by decide⟩ : Rg 0 0 0); have f := i_lt c74; exact ⟨by omega, by omega⟩
          have hG := g_pos c74 hG
          refine lv_aload_n hx hb d_X11_sell_39 rfl (lv_at hl 0 rfl) ?_
          refine r_getr (r := 409) X hw FL_X11_28 (rfl : KD 400 = _) rfl d_X11_sell_40 ?_
          refine lv_iload_n hx hb d_X11_sell_43 rfl (lv_at hl 1 rfl) ?_
          refine r_iald X hw (rfl : KD 409 = _) (Rg.vp (b := 19) r_si (by decide)) rfl d_X11_sell_44 ?_
          refine lv_seti hm2 ?_
          refine lv_if_ne (tgt := 55) hx hb d_X11_sell_45 (by decide) (fun c77 => ?_) (fun c77 => ?_)
          · have f78 := i_ne c77
            refine lv_aload_n hx hb d_X11_sell_55 rfl (lv_at hl 0 rfl) ?_
            refine r_geti X hw FL_X11_246 (rfl : KD 400 = _) rfl d_X11_sell_56 ?_
            refine lv_topi (fun x79 ex79 => ?_)
            have hG := bnd_use ex79 hG
            refine lv_iload_n hx hb d_X11_sell_59 rfl (lv_at hl 2 rfl) ?_
            refine lv_icmp_le (tgt := 64) hx hb d_X11_sell_60 (by decide) (fun c80 => ?_) (fun c80 => ?_)
            · have f81 := i_le c80
              have hG := g_pos c80 hG
              refine lv_aload_n hx hb d_X11_sell_64 rfl (lv_at hl 0 rfl) ?_
              refine r_getr (r := 412) X hw FL_X11_37 (rfl : KD 400 = _) rfl d_X11_sell_65 ?_
              refine lv_iload_n hx hb d_X11_sell_68 rfl (lv_at hl 1 rfl) ?_
              refine lv_dup2_11 hx hb d_X11_sell_69 rfl rfl ?_
              refine r_iald X hw (rfl : KD 412 = _) (Rg.vp (b := 19) r_si (by decide)) rfl d_X11_sell_70 ?_
              refine lv_topi (fun x82 ex82 => ?_)
              have hG := bnd_use ex82 hG
              refine lv_iconst (v := 1) hx hb d_X11_sell_71 (by decide) ?_
              refine lv_iadd hx hb d_X11_sell_72 ?_
              refine lv_topi (fun x83 ex83 => ?_)
              have hG := bnd_use ex83 hG
              refine r_iast X hw hS (rfl : KD 412 = _) (Rg.vp (b := 19) r_si (by decide)) rfl d_X11_sell_73 (fun H locs hw hS => ?_)
              obtain ⟨v84, ev84⟩ : ∃ z, z = up2 v1 412 si.toNatClampNeg x83 := ⟨_, rfl⟩
              rw [← ev84] at hw
              have hG := bnd_use ev84 hG
              have hI85 : Inv v84 := by rw [ev84]; exact Inv.put0 hI1 _ rfl
              have hK86 : Kp (kp_X11_sell_400 si) v v84 := by rw [ev84]; exact Kp.put hK1 _ (by unfold kp_X11_sell_400; omega)
              have hm87 : v84 400 27 = m0 := by rw [ev84, up2_n _ _ (by omega)]; exact h_m0
              have hm88 : v84 409 si.toNatClampNeg = x1 := by rw [ev84, up2_n _ _ (by omega)]; exact hm2
              refine lv_aload_n hx hb d_X11_sell_74 rfl (lv_at hl 0 rfl) ?_
              refine r_getr (r := 403) X hw FL_X11_7 (rfl : KD 400 = _) rfl d_X11_sell_75 ?_
              refine lv_iload_n hx hb d_X11_sell_78 rfl (lv_at hl 1 rfl) ?_
              refine r_iald X hw (rfl : KD 403 = _) (Rg.vp (b := 19) r_si (by decide)) rfl d_X11_sell_79 ?_
              refine lv_topi (fun x89 ex89 => ?_)
              have hG := bnd_use ex89 hG
              refine lv_iconst (v := 1) hx hb d_X11_sell_80 (by decide) ?_
              refine lv_icmp_gt (tgt := 101) hx hb d_X11_sell_81 (by decide) (fun c90 => ?_) (fun c90 => ?_)
              · have f91 := i_lt c90
                have r92 : Rg x89 2 2147483647 := by obtain ⟨a1, a2⟩ := (rg_any x89); obtain ⟨b1, b2⟩ := (⟨by decide, by decide⟩ : Rg 1 1 1); have f := i_lt c90; exact ⟨by omega, by omega⟩
                have hG := g_pos c90 hG
                exact r_vret X hr hlocks hw hS ⟨⟨hI85, hK86, by rw [hm87]; have q := hex.2; split at q <;> omega⟩, hG.trans eRR.symm⟩ d_X11_sell_101
              · have f93 := i_nlt c90
                have r94 : Rg x89 (-2147483648) 1 := by obtain ⟨a1, a2⟩ := (rg_any x89); obtain ⟨b1, b2⟩ := (⟨by decide, by decide⟩ : Rg 1 1 1); have f := i_nlt c90; exact ⟨by omega, by omega⟩
                have hG := g_neg c90 hG
                refine lv_aload_n hx hb d_X11_sell_84 rfl (lv_at hl 0 rfl) ?_
                refine r_getr (r := 412) X hw FL_X11_37 (rfl : KD 400 = _) rfl d_X11_sell_85 ?_
                refine lv_iload_n hx hb d_X11_sell_88 rfl (lv_at hl 1 rfl) ?_
                refine r_iald X hw (rfl : KD 412 = _) (Rg.vp (b := 19) r_si (by decide)) rfl d_X11_sell_89 ?_
                refine lv_topi (fun x95 ex95 => ?_)
                have hG := bnd_use ex95 hG
                refine lv_iconst (v := 2) hx hb d_X11_sell_90 (by decide) ?_
                refine lv_icmp_lt (tgt := 101) hx hb d_X11_sell_91 (by decide) (fun c96 => ?_) (fun c96 => ?_)
                · have f97 := i_lt c96
                  have r98 : Rg x95 (-2147483648) 1 := by obtain ⟨a1, a2⟩ := (rg_any x95); obtain ⟨b1, b2⟩ := (⟨by decide, by decide⟩ : Rg 2 2 2); have f := i_lt c96; exact ⟨by omega, by omega⟩
                  have hG := g_pos c96 hG
                  exact r_vret X hr hlocks hw hS ⟨⟨hI85, hK86, by rw [hm87]; have q := hex.2; split at q <;> omega⟩, hG.trans eRR.symm⟩ d_X11_sell_101
                · have f99 := i_nlt c96
                  have r100 : Rg x95 2 2147483647 := by obtain ⟨a1, a2⟩ := (rg_any x95); obtain ⟨b1, b2⟩ := (⟨by decide, by decide⟩ : Rg 2 2 2); have f := i_nlt c96; exact ⟨by omega, by omega⟩
                  have hG := g_neg c96 hG
                  refine lv_aload_n hx hb d_X11_sell_94 rfl (lv_at hl 0 rfl) ?_
                  refine r_getr (r := 410) X hw FL_X11_31 (rfl : KD 400 = _) rfl d_X11_sell_95 ?_
                  refine lv_iload_n hx hb d_X11_sell_98 rfl (lv_at hl 1 rfl) ?_
                  refine lv_iconst (v := 2) hx hb d_X11_sell_99 (by decide) ?_
                  refine r_iast X hw hS (rfl : KD 410 = _) (Rg.vp (b := 19) r_si (by decide)) rfl d_X11_sell_100 (fun H locs hw hS => ?_)
                  obtain ⟨v101, ev101⟩ : ∃ z, z = up2 v84 410 si.toNatClampNeg 2 := ⟨_, rfl⟩
                  rw [← ev101] at hw
                  have hG := bnd_use ev101 hG
                  have hI102 : Inv v101 := by rw [ev101]; exact Inv.put0 hI85 _ rfl
                  have hK103 : Kp (kp_X11_sell_400 si) v v101 := by rw [ev101]; exact Kp.put hK86 _ (by unfold kp_X11_sell_400; omega)
                  have hm104 : v101 400 27 = m0 := by rw [ev101, up2_n _ _ (by omega)]; exact hm87
                  have hm105 : v101 409 si.toNatClampNeg = x1 := by rw [ev101, up2_n _ _ (by omega)]; exact hm88
                  exact r_vret X hr hlocks hw hS ⟨⟨hI102, hK103, by rw [hm104]; have q := hex.2; split at q <;> omega⟩, hG.trans eRR.symm⟩ d_X11_sell_101
            · have f106 := i_nle c80
              have hG := g_neg c80 hG
              exact r_vret X hr hlocks hw hS ⟨⟨hI1, hK1, by rw [h_m0]; have q := hex.2; split at q <;> omega⟩, hG.trans eRR.symm⟩ d_X11_sell_63
          · exfalso
            obtain ⟨a1, a2⟩ := r73; obtain ⟨b1, b2⟩ := (⟨by decide, by decide⟩ : Rg 0 0 0); have f := i_eq c77; omega
        · have f107 := i_nlt c74
          have r108 : Rg y3 0 9 := by obtain ⟨a1, a2⟩ := r_y3; obtain ⟨b1, b2⟩ := (⟨by decide, by decide⟩ : Rg 0 0 0); have f := i_nlt c74; exact ⟨by omega, by omega⟩
          have hG := g_neg c74 hG
          have hLl : 0 < (v1 409 si.toNatClampNeg).toInt := by rw [hm2]; obtain ⟨_, _⟩ := r73; omega
          refine lv_aload_n hx hb d_X11_sell_24 rfl (lv_at hl 0 rfl) ?_
          refine lv_iload_n hx hb d_X11_sell_25 rfl (lv_at hl 1 rfl) ?_
          refine lv_iload_n hx hb d_X11_sell_26 rfl (lv_at hl 3 rfl) ?_
          refine r_cv (r_runV (n := 2) (As := [.int si, .int y3]) (rest := []) X hw (ct_X11_strike_400 l D dA ad v1 hI1 si y3 r_si r108 (by have hx2 := hex.2; rw [if_pos hLl] at hx2; have hp := hex.1 (by obtain ⟨_, _⟩ := r108; omega); have hc1 := cW_pos (v1 419) (j := y3.toNatClampNeg) (n := 10) (by have := Rg.nat (b := 9) r108; omega) hp; rw [h_m0]; omega) hLl (hex.1 (by obtain ⟨_, _⟩ := r108; omega))) gc_X11_255 (rfl : KD 400 = _) (by decide) rfl (by decide +kernel) ⟨rfl, rfl, Nat.le_of_ble_eq_true rfl, Nat.le_of_ble_eq_true rfl⟩ rfl hl.1 rfl (Nat.le_of_ble_eq_true rfl) ⟨Nat.zero_le _, Nat.zero_le _⟩ d_X11_sell_27) hS (fun v110 H locs hp109 hw hS => ?_)
          obtain ⟨hp109, hE111⟩ := hp109
          obtain ⟨hI112, hK113, ha114, hb115, hc116⟩ := hp109
          have hK117 : Kp (kp_X11_sell_400 si) v v110 := Kp.tr hK1 hK113 (by have z0 : (0 : Int32).toInt = 0 := rfl; intro a j; unfold kp_X11_sell_400 kp_X11_strike_400; omega)
          have hG := bnd_use hE111 hG
          refine lv_aload_n hx hb d_X11_sell_30 rfl (lv_at hl 0 rfl) ?_
          refine lv_iload_n hx hb d_X11_sell_31 rfl (lv_at hl 1 rfl) ?_
          refine r_ci (r_runV (n := 1) (As := [.int si]) (rest := []) X hw (ct_X11_next_400 l D dA ad v110 hI112 si r_si) gc_X11_252 (rfl : KD 400 = _) (by decide) rfl (by decide +kernel) ⟨rfl, rfl, Nat.le_of_ble_eq_true rfl, Nat.le_of_ble_eq_true rfl⟩ rfl hl.1 rfl (Nat.le_of_ble_eq_true rfl) ⟨Nat.zero_le _, Nat.zero_le _⟩ d_X11_sell_32) hS (fun x119 v120 H locs hp118 hw hS => ?_)
          obtain ⟨hp118, hE121⟩ := hp118
          obtain ⟨ev120, hp118, hx122⟩ := hp118
          rw [ev120] at hw
          have hG := bnd_use hE121 hG
          refine lv_istore_n (lv' := [(3, .int x119), (0, .ref (ad 400)), (1, .int si), (2, .int y2)]) hx hb d_X11_sell_35 rfl hl (by decide) rfl (fun ls hl => ?_)
          refine lv_goto (tgt := 11) hx hb d_X11_sell_36 (by decide) ?_
          obtain ⟨x123, ex123⟩ : ∃ z, v110 400 27 = z := ⟨_, rfl⟩
          have r124 : Rg x123 0 200 := by rw [← ex123]; exact hI112 _ _ _ _ rfl
          exact ih0 y2 x119 x123 v110 _ _ _ (by have hL9 := hLl; have hp := hex.1 (by obtain ⟨_, _⟩ := r108; omega); rcases hc116 with ⟨q1, q2⟩ | ⟨q1, q2, q3⟩ <;> omega) hp118 r124 hI112 hK117 ex123 (by have q_ := r_si; obtain ⟨_, _⟩ := q_; have q_ := r108; obtain ⟨_, _⟩ := q_; have q_ := r_m0; obtain ⟨_, _⟩ := q_; have q_ := r73; obtain ⟨_, _⟩ := q_; have q_ := hp118; obtain ⟨_, _⟩ := q_; have q_ := r124; obtain ⟨_, _⟩ := q_; refine ⟨hx122, ?_⟩; have e0 := congrArg Int32.toInt ex123; have e1 := congrArg Int32.toInt h_m0; have hx2 := hex.2; have hL9 : 0 < (v1 409 si.toNatClampNeg).toInt := hLl; rw [if_pos hL9] at hx2; have hp := hex.1 (by omega); have hc1 := cW_pos (v1 419) (j := y3.toNatClampNeg) (n := 10) (by have := Rg.nat (b := 9) r108; omega) hp; rcases hc116 with ⟨q1, q2⟩ | ⟨q1, q2, q3⟩ <;> first | (rw [if_neg (by omega)]; omega) | (have hd := cW_dec (v1 419) (v110 419) (j := y3.toNatClampNeg) (n := 10) hb115 (by have := Rg.nat (b := 9) r108; omega) hp (by omega); split <;> omega)) hG hw hS (lv_sub hl [1, 2, 3, 0] rfl)
  have ih0 := LL 3000000000
  have hK0 : Kp (kp_X11_sell_400 si) v v := Kp.rf _ v
  have hG := eRR
  unfold f_X11_sell_400 at hG
  refine lv_aload_n hx hb d_X11_sell_0 rfl (lv_at hl 0 rfl) ?_
  refine r_geti X hw FL_X11_246 (rfl : KD 400 = _) rfl d_X11_sell_1 ?_
  refine lv_topi (fun x125 ex125 => ?_)
  have hG := bnd_use ex125 hG
  refine lv_istore_n (lv' := [(2, .int x125), (0, .ref (ad 400)), (1, .int si)]) hx hb d_X11_sell_4 rfl hl (by decide) rfl (fun ls hl => ?_)
  refine lv_aload_n hx hb d_X11_sell_5 rfl (lv_at hl 1 rfl) ?_
  refine lv_iload_n hx hb d_X11_sell_6 rfl (lv_at hl 2 rfl) ?_
  refine r_ci (r_runV (n := 1) (As := [.int si]) (rest := []) X hw (ct_X11_next_400 l D dA ad v hI si r_si) gc_X11_252 (rfl : KD 400 = _) (by decide) rfl (by decide +kernel) ⟨rfl, rfl, Nat.le_of_ble_eq_true rfl, Nat.le_of_ble_eq_true rfl⟩ rfl hl.1 rfl (Nat.le_of_ble_eq_true rfl) ⟨Nat.zero_le _, Nat.zero_le _⟩ d_X11_sell_7) hS (fun x127 v128 H locs hp126 hw hS => ?_)
  obtain ⟨hp126, hE129⟩ := hp126
  obtain ⟨ev128, hp126, hx130⟩ := hp126
  rw [ev128] at hw
  have hG := bnd_use hE129 hG
  refine lv_istore_n (lv' := [(3, .int x127), (2, .int x125), (0, .ref (ad 400)), (1, .int si)]) hx hb d_X11_sell_10 rfl hl (by decide) rfl (fun ls hl => ?_)
  obtain ⟨x131, ex131⟩ : ∃ z, v 400 27 = z := ⟨_, rfl⟩
  have r132 : Rg x131 0 200 := by rw [← ex131]; exact hI _ _ _ _ rfl
  exact ih0 x125 x127 x131 v _ _ _ (by have q := (rg_any (v 409 si.toNatClampNeg)).2; omega) hp126 r132 hI hK0 ex131 (by have q_ := r_si; obtain ⟨_, _⟩ := q_; have q_ := hp126; obtain ⟨_, _⟩ := q_; have q_ := r132; obtain ⟨_, _⟩ := q_; refine ⟨hx130, ?_⟩; have q := cW_le (v 419) 10; have e0 := congrArg Int32.toInt ex131; split <;> omega) hG hw hS (lv_sub hl [2, 3, 1, 0] rfl)
