theorem d_X11_feed_0 : decode c_X11_feed 0 = .ok (.iload_n 3, 1) := by decide +kernel
theorem d_X11_feed_1 : decode c_X11_feed 1 = .ok (.iconst 1, 1) := by decide +kernel
theorem d_X11_feed_2 : decode c_X11_feed 2 = .ok (.bipush 8, 2) := by decide +kernel
theorem d_X11_feed_4 : decode c_X11_feed 4 = .ok (.invokestatic 169, 3) := by decide +kernel
theorem d_X11_feed_7 : decode c_X11_feed 7 = .ok (.ifCond .ne 6, 3) := by decide +kernel
theorem d_X11_feed_10 : decode c_X11_feed 10 = .ok (.bipush (-2), 2) := by decide +kernel
theorem d_X11_feed_12 : decode c_X11_feed 12 = .ok (.ireturn, 1) := by decide +kernel
theorem d_X11_feed_13 : decode c_X11_feed 13 = .ok (.aload_n 0, 1) := by decide +kernel
theorem d_X11_feed_14 : decode c_X11_feed 14 = .ok (.getfield 190, 3) := by decide +kernel
theorem d_X11_feed_17 : decode c_X11_feed 17 = .ok (.iload_n 3, 1) := by decide +kernel
theorem d_X11_feed_18 : decode c_X11_feed 18 = .ok (.iadd, 1) := by decide +kernel
theorem d_X11_feed_19 : decode c_X11_feed 19 = .ok (.bipush 120, 2) := by decide +kernel
theorem d_X11_feed_21 : decode c_X11_feed 21 = .ok (.if_icmp .le 6, 3) := by decide +kernel
theorem d_X11_feed_24 : decode c_X11_feed 24 = .ok (.bipush (-4), 2) := by decide +kernel
theorem d_X11_feed_26 : decode c_X11_feed 26 = .ok (.ireturn, 1) := by decide +kernel
theorem d_X11_feed_27 : decode c_X11_feed 27 = .ok (.iload_n 3, 1) := by decide +kernel
theorem d_X11_feed_28 : decode c_X11_feed 28 = .ok (.iconst 1, 1) := by decide +kernel
theorem d_X11_feed_29 : decode c_X11_feed 29 = .ok (.isub, 1) := by decide +kernel
theorem d_X11_feed_30 : decode c_X11_feed 30 = .ok (.istore 4, 2) := by decide +kernel
theorem d_X11_feed_32 : decode c_X11_feed 32 = .ok (.iload 4, 2) := by decide +kernel
theorem d_X11_feed_34 : decode c_X11_feed 34 = .ok (.ifCond .lt 37, 3) := by decide +kernel
theorem d_X11_feed_37 : decode c_X11_feed 37 = .ok (.aload_n 0, 1) := by decide +kernel
theorem d_X11_feed_38 : decode c_X11_feed 38 = .ok (.getfield 92, 3) := by decide +kernel
theorem d_X11_feed_41 : decode c_X11_feed 41 = .ok (.aload_n 0, 1) := by decide +kernel
theorem d_X11_feed_42 : decode c_X11_feed 42 = .ok (.getfield 190, 3) := by decide +kernel
theorem d_X11_feed_45 : decode c_X11_feed 45 = .ok (.lload_n 1, 1) := by decide +kernel
theorem d_X11_feed_46 : decode c_X11_feed 46 = .ok (.bipush 8, 2) := by decide +kernel
theorem d_X11_feed_48 : decode c_X11_feed 48 = .ok (.iload 4, 2) := by decide +kernel
theorem d_X11_feed_50 : decode c_X11_feed 50 = .ok (.imul, 1) := by decide +kernel
theorem d_X11_feed_51 : decode c_X11_feed 51 = .ok (.lshr, 1) := by decide +kernel
theorem d_X11_feed_52 : decode c_X11_feed 52 = .ok (.l2i, 1) := by decide +kernel
theorem d_X11_feed_53 : decode c_X11_feed 53 = .ok (.i2b, 1) := by decide +kernel
theorem d_X11_feed_54 : decode c_X11_feed 54 = .ok (.bastore, 1) := by decide +kernel
theorem d_X11_feed_55 : decode c_X11_feed 55 = .ok (.aload_n 0, 1) := by decide +kernel
theorem d_X11_feed_56 : decode c_X11_feed 56 = .ok (.dup, 1) := by decide +kernel
theorem d_X11_feed_57 : decode c_X11_feed 57 = .ok (.getfield 190, 3) := by decide +kernel
theorem d_X11_feed_60 : decode c_X11_feed 60 = .ok (.iconst 1, 1) := by decide +kernel
theorem d_X11_feed_61 : decode c_X11_feed 61 = .ok (.iadd, 1) := by decide +kernel
theorem d_X11_feed_62 : decode c_X11_feed 62 = .ok (.putfield 190, 3) := by decide +kernel
theorem d_X11_feed_65 : decode c_X11_feed 65 = .ok (.iinc 4 (-1), 3) := by decide +kernel
theorem d_X11_feed_68 : decode c_X11_feed 68 = .ok (.goto (-36), 3) := by decide +kernel
theorem d_X11_feed_71 : decode c_X11_feed 71 = .ok (.aload_n 0, 1) := by decide +kernel
theorem d_X11_feed_72 : decode c_X11_feed 72 = .ok (.getfield 190, 3) := by decide +kernel
theorem d_X11_feed_75 : decode c_X11_feed 75 = .ok (.ireturn, 1) := by decide +kernel
def kp_X11_feed_400 (w : Int64) (cnt : Int32) (a j : Nat) : Prop := (a ≠ 400 ∨ (j ≠ 33)) ∧ a ≠ 433
def b_X11_feed_400_32 (w : Int64) (cnt : Int32) (rc32 : Int32 → tV → Int32 × tV) (y4 : Int32) (v1 : tV) : Int32 × tV := bnd (v1 400 33) fun m0 => (if y4 < (0 : Int32) then (m0, v1) else bnd ((8 : Int32) * y4) fun x7 => bnd (w >>> (x7.toInt64 &&& 63)) fun x10 => bnd (x10.toInt32) fun x11 => bnd (x11.toInt8.toInt32) fun x12 => bnd (up2 v1 433 (m0.toNatClampNeg) x12) fun v13 => bnd (m0 + (1 : Int32)) fun x17 => bnd (up2 v13 400 33 x17) fun v20 => bnd (y4 + -1) fun x24 => rc32 x24 v20)
def g_X11_feed_400_32 (w : Int64) (cnt : Int32) : Nat → Int32 → tV → Int32 × tV
  | 0, _, v1 => (0, v1)
  | n + 1, y4, v1 => b_X11_feed_400_32 w cnt (g_X11_feed_400_32 w cnt n) y4 v1
def f_X11_feed_400 (v : tV) (w : Int64) (cnt : Int32) : Int32 × tV := (if (1 : Int32).toInt ≤ cnt.toInt ∧ cnt.toInt ≤ (8 : Int32).toInt then bnd (v 400 33) fun x33 => bnd (x33 + cnt) fun x36 => (if x36 ≤ (120 : Int32) then bnd (cnt - (1 : Int32)) fun x42 => g_X11_feed_400_32 w cnt 100000 x42 v else ((-4 : Int32), v)) else ((-2 : Int32), v))
set_option maxHeartbeats 4000000 in
set_option maxRecDepth 100000 in
theorem ct_X11_feed_400 (l : Launch) (D : va_G) (dA : Nat → ClassId) (ad : Nat → Nat) (v : tV) (hI : Inv v) (w : Int64) (cnt : Int32) : Met l m_X11_feed [.code m_X11_feed c_X11_feed 5 (some .int)] ({ frames := 2, cells := 0, slots := 0, locals := 62 } : Room) (tP D dA ad v [.ref (ad 400), .long w, .int cnt]) (tQi D dA ad (fun r v' => (Inv v' ∧ Kp (kp_X11_feed_400 w cnt) v v') ∧ (r, v') = f_X11_feed_400 v w cnt)) 0 0 (tA ad) := by
  refine tMet (by decide) (Nat.le_of_ble_eq_true rfl) ?_
  intro p e s m below meth c ls X hr hlocks hw hl
  have X : CX p s m ([.ref (ad 400), .long w, .int cnt] : List Value).toArray c c_X11_feed N_X11 5 D dA := X
  have hx := X.1
  have hb := X.2.1
  have hS : va_S (tA ad) s.heap s.heap [] := va_S.rf
  have hl : lv_has ls 5 [(0, .ref (ad 400)), (1, .long w), (3, .int cnt)] := hl
  obtain ⟨RR, eRR⟩ : ∃ z, f_X11_feed_400 v w cnt = z := ⟨_, rfl⟩
  have LL : ∀ n : Nat, (∀ (y4 : Int32) (m0 : Int32) (v1 : tV) (H : Heap) (locs : List Loc) (ls : Array Slot), (y4.toInt + 1).toNat < n → Rg y4 (-1) 7 → Rg m0 0 120 → Inv v1 → Kp (kp_X11_feed_400 w cnt) v v1 → v1 400 33 = m0 → m0.toInt + y4.toInt + 1 ≤ 120 → g_X11_feed_400_32 w cnt n y4 v1 = RR → tI D dA ad v1 H → va_S (tA ad) s.heap H locs → lv_has ls 5 [(0, .ref (ad 400)), (1, .long w), (3, .int cnt), (4, .int y4)] → W p l e ({ frames := 2, cells := 0, slots := 0, locals := 62 } : Room) s m ([.ref (ad 400), .long w, .int cnt] : List Value).toArray below meth c H locs 0 0 (MQ below (tQi D dA ad (fun r v' => (Inv v' ∧ Kp (kp_X11_feed_400 w cnt) v v') ∧ (r, v') = f_X11_feed_400 v w cnt)) ([.ref (ad 400), .long w, .int cnt] : List Value).toArray s 0 0 (tA ad)) (F0 m 32 ls [])) := by
    intro n
    induction n with
    | zero => intros; omega
    | succ n ih =>
      have ih0 := ih
      intro y4 m0 v1 H locs ls hmu r_y4 r_m0 hI1 hK1 h_m0 hex hG hw hS hl
      have hG : b_X11_feed_400_32 w cnt (g_X11_feed_400_32 w cnt n) y4 v1 = RR := hG
      unfold b_X11_feed_400_32 at hG
      have hG := bnd_use h_m0.symm hG
      refine lv_iload hx hb d_X11_feed_32 (lv_at hl 3 rfl) ?_
      refine lv_if_lt (tgt := 71) hx hb d_X11_feed_34 (by decide) (fun c1 => ?_) (fun c1 => ?_)
      · have f2 := i_lt c1
        have r3 : Rg y4 (-1) (-1) := by obtain ⟨a1, a2⟩ := r_y4; obtain ⟨b1, b2⟩ := (⟨by decide, by decide⟩ : Rg 0 0 0); have f := i_lt c1; exact ⟨by omega, by omega⟩
        have hG := g_pos c1 hG
        refine lv_aload_n hx hb d_X11_feed_71 rfl (lv_at hl 0 rfl) ?_
        refine r_geti X hw FL_X11_190 (rfl : KD 400 = _) rfl d_X11_feed_72 ?_
        rw [h_m0]
        exact r_iret X hr hlocks hw hS ⟨⟨hI1, hK1⟩, hG.trans eRR.symm⟩ d_X11_feed_75
      · have f4 := i_nlt c1
        have r5 : Rg y4 0 7 := by obtain ⟨a1, a2⟩ := r_y4; obtain ⟨b1, b2⟩ := (⟨by decide, by decide⟩ : Rg 0 0 0); have f := i_nlt c1; exact ⟨by omega, by omega⟩
        have hG := g_neg c1 hG
        have r6 : Rg m0 0 119 := by obtain ⟨_, _⟩ := r_m0; obtain ⟨_, _⟩ := r5; exact ⟨by omega, by omega⟩
        refine lv_aload_n hx hb d_X11_feed_37 rfl (lv_at hl 0 rfl) ?_
        refine r_getr (r := 433) X hw FL_X11_92 (rfl : KD 400 = _) rfl d_X11_feed_38 ?_
        refine lv_aload_n hx hb d_X11_feed_41 rfl (lv_at hl 0 rfl) ?_
        refine r_geti X hw FL_X11_190 (rfl : KD 400 = _) rfl d_X11_feed_42 ?_
        rw [h_m0]
        refine lv_lload_n hx hb d_X11_feed_45 rfl (lv_at hl 1 rfl) ?_
        refine lv_bipush (v := 8) hx hb d_X11_feed_46 (by decide) ?_
        refine lv_iload hx hb d_X11_feed_48 (lv_at hl 3 rfl) ?_
        refine lv_imul hx hb d_X11_feed_50 ?_
        refine lv_topi (fun x7 ex7 => ?_)
        have hG := bnd_use ex7 hG
        have r8 : Rg x7 0 56 := rg_mulc ex7 (⟨by decide, by decide⟩ : Rg 8 8 8) r5 (by decide) (by decide) (by decide)
        have s9 : x7.toInt = 8 * y4.toInt := rg_mule ex7 r5 rfl (by decide) (by decide)
        refine lv_lshr hx hb d_X11_feed_51 rfl ?_
        refine lv_topl (fun x10 ex10 => ?_)
        have hG := bnd_use ex10 hG
        refine lv_l2i hx hb d_X11_feed_52 rfl ?_
        refine lv_topi (fun x11 ex11 => ?_)
        have hG := bnd_use ex11 hG
        refine lv_i2b hx hb d_X11_feed_53 rfl ?_
        refine lv_topi (fun x12 ex12 => ?_)
        have hG := bnd_use ex12 hG
        refine r_bast (y := x12)  X hw hS (rfl : KD 433 = _) (Rg.vp (b := 119) r6 (by decide)) rfl (pk_nb2 ex12) d_X11_feed_54 (fun H locs hw hS => ?_)
        obtain ⟨v13, ev13⟩ : ∃ z, z = up2 v1 433 m0.toNatClampNeg x12 := ⟨_, rfl⟩
        rw [← ev13] at hw
        have hG := bnd_use ev13 hG
        have hI14 : Inv v13 := by rw [ev13]; exact Inv.put0 hI1 _ rfl
        have hK15 : Kp (kp_X11_feed_400 w cnt) v v13 := by rw [ev13]; exact Kp.put hK1 _ (by unfold kp_X11_feed_400; omega)
        have hm16 : v13 400 33 = m0 := by rw [ev13, up2_n _ _ (by omega)]; exact h_m0
        refine lv_aload_n hx hb d_X11_feed_55 rfl (lv_at hl 0 rfl) ?_
        refine lv_dup hx hb d_X11_feed_56 rfl ?_
        refine r_geti X hw FL_X11_190 (rfl : KD 400 = _) rfl d_X11_feed_57 ?_
        rw [hm16]
        refine lv_iconst (v := 1) hx hb d_X11_feed_60 (by decide) ?_
        refine lv_iadd hx hb d_X11_feed_61 ?_
        refine lv_topi (fun x17 ex17 => ?_)
        have hG := bnd_use ex17 hG
        have r18 : Rg x17 1 120 := rg_add ex17 r6 (⟨by decide, by decide⟩ : Rg 1 1 1) (by decide) (by decide)
        have s19 : x17.toInt = m0.toInt + (1 : Int32).toInt := by rw [ex17]; exact i_add (by obtain ⟨_, _⟩ := r6; obtain ⟨_, _⟩ := (⟨by decide, by decide⟩ : Rg 1 1 1); omega) (by obtain ⟨_, _⟩ := r6; obtain ⟨_, _⟩ := (⟨by decide, by decide⟩ : Rg 1 1 1); omega)
        have s19l : (1 : Int32).toInt = 1 := rfl
        refine r_put X hw hS FP_X11_190 (rfl : KD 400 = _) rfl ⟨rfl, rfl⟩ d_X11_feed_62 (fun H locs hw hS => ?_)
        obtain ⟨v20, ev20⟩ : ∃ z, z = up2 v13 400 33 x17 := ⟨_, rfl⟩
        rw [← ev20] at hw
        have hG := bnd_use ev20 hG
        have hI21 : Inv v20 := by rw [ev20]; exact Inv.putr hI14 rfl (rg_w r18 (by decide) (by decide))
        have hK22 : Kp (kp_X11_feed_400 w cnt) v v20 := by rw [ev20]; exact Kp.put hK15 _ (by unfold kp_X11_feed_400; omega)
        have hm23 : v20 400 33 = x17 := by rw [ev20, up2_s]
        obtain ⟨x24, ex24⟩ : ∃ y : Int32, y = y4 + -1 := ⟨_, rfl⟩
        have hG := bnd_use ex24 hG
        refine lv_iinc (v := x24) (lv' := [(4, .int x24), (0, .ref (ad 400)), (1, .long w), (3, .int cnt)]) hx hb d_X11_feed_65 hl (k := 3) rfl (by rw [ex24]; rfl) (by decide) rfl (fun ls hl => ?_)
        have r25 : Rg x24 (-1) 6 := rg_add ex24 r5 (⟨by decide, by decide⟩ : Rg (-1) (-1) (-1)) (by decide) (by decide)
        have s26 : x24.toInt = y4.toInt + (-1 : Int32).toInt := by rw [ex24]; exact i_add (by obtain ⟨_, _⟩ := r5; obtain ⟨_, _⟩ := (⟨by decide, by decide⟩ : Rg (-1) (-1) (-1)); omega) (by obtain ⟨_, _⟩ := r5; obtain ⟨_, _⟩ := (⟨by decide, by decide⟩ : Rg (-1) (-1) (-1)); omega)
        have s26l : (-1 : Int32).toInt = (-1) := rfl
        refine lv_goto (tgt := 32) hx hb d_X11_feed_68 (by decide) ?_
        exact ih0 x24 x17 v20 _ _ _ (by have := s9; have := s19; have := s26; obtain ⟨_, _⟩ := r25; obtain ⟨_, _⟩ := r18; omega) (rg_w r25 (by decide) (by decide)) (rg_w r18 (by decide) (by decide)) hI21 hK22 hm23 (by obtain ⟨_, _⟩ := r5; obtain ⟨_, _⟩ := r6; obtain ⟨_, _⟩ := r8; obtain ⟨_, _⟩ := r18; obtain ⟨_, _⟩ := r25; omega) hG hw hS (lv_sub hl [1, 2, 3, 0] rfl)
  have ih0 := LL 100000
  have hK0 : Kp (kp_X11_feed_400 w cnt) v v := Kp.rf _ v
  have hG := eRR
  unfold f_X11_feed_400 at hG
  refine lv_iload_n hx hb d_X11_feed_0 rfl (lv_at hl 2 rfl) ?_
  refine lv_iconst (v := 1) hx hb d_X11_feed_1 (by decide) ?_
  refine lv_bipush (v := 8) hx hb d_X11_feed_2 (by decide) ?_
  refine r_ci (r_runS (n := 3) (As := [.int cnt, .int 1, .int 8]) (rest := []) X hw (ct_X11_in l D dA ad v hI cnt 1 8) gc_X11_169 (by decide +kernel) ⟨rfl, rfl, Nat.le_of_ble_eq_true rfl, Nat.le_of_ble_eq_true rfl⟩ rfl hl.1 rfl (Nat.le_of_ble_eq_true rfl) ⟨Nat.zero_le _, Nat.zero_le _⟩ d_X11_feed_4) hS (fun x28 v29 H locs hp27 hw hS => ?_)
  obtain ⟨ev29, hp27⟩ := hp27
  rw [ev29] at hw
  rcases hp27 with ⟨rfl, w30a, w30b⟩ | ⟨rfl, w30n⟩
  · skip
    have hG := g_pos ⟨w30a, w30b⟩ hG
    have r31 : Rg cnt 1 8 := by obtain ⟨_, _⟩ := (rg_any cnt); have : (1 : Int32).toInt = 1 := rfl; have : (8 : Int32).toInt = 8 := rfl; exact ⟨by omega, by omega⟩
    refine lv_if_ne (tgt := 13) hx hb d_X11_feed_7 (by decide) (fun c32 => ?_) (fun c32 => ?_)
    · refine lv_aload_n hx hb d_X11_feed_13 rfl (lv_at hl 0 rfl) ?_
      refine r_geti X hw FL_X11_190 (rfl : KD 400 = _) rfl d_X11_feed_14 ?_
      refine lv_topi (fun x33 ex33 => ?_)
      have hG := bnd_use ex33 hG
      have r34 : Rg x33 0 120 := by rw [ex33]; exact hI _ _ _ _ rfl
      have hm35 : v 400 33 = x33 := ex33.symm
      refine lv_iload_n hx hb d_X11_feed_17 rfl (lv_at hl 2 rfl) ?_
      refine lv_iadd hx hb d_X11_feed_18 ?_
      refine lv_topi (fun x36 ex36 => ?_)
      have hG := bnd_use ex36 hG
      have r37 : Rg x36 1 128 := rg_add ex36 r34 r31 (by decide) (by decide)
      have s38 : x36.toInt = x33.toInt + (cnt : Int32).toInt := by rw [ex36]; exact i_add (by obtain ⟨_, _⟩ := r34; obtain ⟨_, _⟩ := r31; omega) (by obtain ⟨_, _⟩ := r34; obtain ⟨_, _⟩ := r31; omega)
      refine lv_bipush (v := 120) hx hb d_X11_feed_19 (by decide) ?_
      refine lv_icmp_le (tgt := 27) hx hb d_X11_feed_21 (by decide) (fun c39 => ?_) (fun c39 => ?_)
      · have f40 := i_le c39
        have r41 : Rg x36 1 120 := by obtain ⟨a1, a2⟩ := r37; obtain ⟨b1, b2⟩ := (⟨by decide, by decide⟩ : Rg 120 120 120); have f := i_le c39; exact ⟨by omega, by omega⟩
        have hG := g_pos c39 hG
        refine lv_iload_n hx hb d_X11_feed_27 rfl (lv_at hl 2 rfl) ?_
        refine lv_iconst (v := 1) hx hb d_X11_feed_28 (by decide) ?_
        refine lv_isub hx hb d_X11_feed_29 ?_
        refine lv_topi (fun x42 ex42 => ?_)
        have hG := bnd_use ex42 hG
        have r43 : Rg x42 0 7 := rg_sub ex42 r31 (⟨by decide, by decide⟩ : Rg 1 1 1) (by decide) (by decide)
        have s44 : x42.toInt = cnt.toInt - (1 : Int32).toInt := by rw [ex42]; exact i_sub (by obtain ⟨_, _⟩ := r31; obtain ⟨_, _⟩ := (⟨by decide, by decide⟩ : Rg 1 1 1); omega) (by obtain ⟨_, _⟩ := r31; obtain ⟨_, _⟩ := (⟨by decide, by decide⟩ : Rg 1 1 1); omega)
        have s44l : (1 : Int32).toInt = 1 := rfl
        refine lv_istore (lv' := [(4, .int x42), (0, .ref (ad 400)), (1, .long w), (3, .int cnt)]) hx hb d_X11_feed_30 hl (by decide) rfl (fun ls hl => ?_)
        exact ih0 x42 x33 v _ _ _ (by have := s38; have := s44; obtain ⟨_, _⟩ := r43; obtain ⟨_, _⟩ := r34; omega) (rg_w r43 (by decide) (by decide)) r34 hI hK0 hm35 (by obtain ⟨_, _⟩ := r31; obtain ⟨_, _⟩ := r34; obtain ⟨_, _⟩ := r41; obtain ⟨_, _⟩ := r43; omega) hG hw hS (lv_sub hl [1, 2, 3, 0] rfl)
      · have f45 := i_nle c39
        have r46 : Rg x36 121 128 := by obtain ⟨a1, a2⟩ := r37; obtain ⟨b1, b2⟩ := (⟨by decide, by decide⟩ : Rg 120 120 120); have f := i_nle c39; exact ⟨by omega, by omega⟩
        have hG := g_neg c39 hG
        refine lv_bipush (v := -4) hx hb d_X11_feed_24 (by decide) ?_
        exact r_iret X hr hlocks hw hS ⟨⟨hI, hK0⟩, hG.trans eRR.symm⟩ d_X11_feed_26
    · exact absurd c32 (by decide)
  · skip
    have hG := g_neg w30n hG
    refine lv_if_ne (tgt := 13) hx hb d_X11_feed_7 (by decide) (fun c47 => ?_) (fun c47 => ?_)
    · exact absurd c47 (by decide)
    · refine lv_bipush (v := -2) hx hb d_X11_feed_10 (by decide) ?_
      exact r_iret X hr hlocks hw hS ⟨⟨hI, hK0⟩, hG.trans eRR.symm⟩ d_X11_feed_12
theorem d_X11_note_0 : decode c_X11_note 0 = .ok (.aload_n 0, 1) := by decide +kernel
theorem d_X11_note_1 : decode c_X11_note 1 = .ok (.iconst 1, 1) := by decide +kernel
theorem d_X11_note_2 : decode c_X11_note 2 = .ok (.putfield 265, 3) := by decide +kernel
theorem d_X11_note_5 : decode c_X11_note 5 = .ok (.aload_n 0, 1) := by decide +kernel
theorem d_X11_note_6 : decode c_X11_note 6 = .ok (.aload_n 0, 1) := by decide +kernel
theorem d_X11_note_7 : decode c_X11_note 7 = .ok (.getfield 166, 3) := by decide +kernel
theorem d_X11_note_10 : decode c_X11_note 10 = .ok (.putfield 269, 3) := by decide +kernel
theorem d_X11_note_13 : decode c_X11_note 13 = .ok (.aload_n 0, 1) := by decide +kernel
theorem d_X11_note_14 : decode c_X11_note 14 = .ok (.aload_n 0, 1) := by decide +kernel
theorem d_X11_note_15 : decode c_X11_note 15 = .ok (.getfield 233, 3) := by decide +kernel
theorem d_X11_note_18 : decode c_X11_note 18 = .ok (.putfield 272, 3) := by decide +kernel
theorem d_X11_note_21 : decode c_X11_note 21 = .ok (.aload_n 0, 1) := by decide +kernel
theorem d_X11_note_22 : decode c_X11_note 22 = .ok (.aload_n 0, 1) := by decide +kernel
theorem d_X11_note_23 : decode c_X11_note 23 = .ok (.getfield 173, 3) := by decide +kernel
theorem d_X11_note_26 : decode c_X11_note 26 = .ok (.putfield 275, 3) := by decide +kernel
theorem d_X11_note_29 : decode c_X11_note 29 = .ok (.aload_n 0, 1) := by decide +kernel
theorem d_X11_note_30 : decode c_X11_note 30 = .ok (.aload_n 0, 1) := by decide +kernel
theorem d_X11_note_31 : decode c_X11_note 31 = .ok (.getfield 76, 3) := by decide +kernel
theorem d_X11_note_34 : decode c_X11_note 34 = .ok (.putfield 278, 3) := by decide +kernel
theorem d_X11_note_37 : decode c_X11_note 37 = .ok (.iconst 0, 1) := by decide +kernel
theorem d_X11_note_38 : decode c_X11_note 38 = .ok (.istore_n 1, 1) := by decide +kernel
theorem d_X11_note_39 : decode c_X11_note 39 = .ok (.iload_n 1, 1) := by decide +kernel
theorem d_X11_note_40 : decode c_X11_note 40 = .ok (.aload_n 0, 1) := by decide +kernel
theorem d_X11_note_41 : decode c_X11_note 41 = .ok (.getfield 166, 3) := by decide +kernel
theorem d_X11_note_44 : decode c_X11_note 44 = .ok (.if_icmp .ge 55, 3) := by decide +kernel
theorem d_X11_note_47 : decode c_X11_note 47 = .ok (.aload_n 0, 1) := by decide +kernel
theorem d_X11_note_48 : decode c_X11_note 48 = .ok (.getfield 130, 3) := by decide +kernel
theorem d_X11_note_51 : decode c_X11_note 51 = .ok (.iconst 4, 1) := by decide +kernel
theorem d_X11_note_52 : decode c_X11_note 52 = .ok (.iload_n 1, 1) := by decide +kernel
theorem d_X11_note_53 : decode c_X11_note 53 = .ok (.imul, 1) := by decide +kernel
theorem d_X11_note_54 : decode c_X11_note 54 = .ok (.aload_n 0, 1) := by decide +kernel
theorem d_X11_note_55 : decode c_X11_note 55 = .ok (.getfield 31, 3) := by decide +kernel
theorem d_X11_note_58 : decode c_X11_note 58 = .ok (.iload_n 1, 1) := by decide +kernel
theorem d_X11_note_59 : decode c_X11_note 59 = .ok (.iaload, 1) := by decide +kernel
theorem d_X11_note_60 : decode c_X11_note 60 = .ok (.iastore, 1) := by decide +kernel
theorem d_X11_note_61 : decode c_X11_note 61 = .ok (.aload_n 0, 1) := by decide +kernel
theorem d_X11_note_62 : decode c_X11_note 62 = .ok (.getfield 130, 3) := by decide +kernel
theorem d_X11_note_65 : decode c_X11_note 65 = .ok (.iconst 4, 1) := by decide +kernel
theorem d_X11_note_66 : decode c_X11_note 66 = .ok (.iload_n 1, 1) := by decide +kernel
theorem d_X11_note_67 : decode c_X11_note 67 = .ok (.imul, 1) := by decide +kernel
theorem d_X11_note_68 : decode c_X11_note 68 = .ok (.iconst 1, 1) := by decide +kernel
theorem d_X11_note_69 : decode c_X11_note 69 = .ok (.iadd, 1) := by decide +kernel
theorem d_X11_note_70 : decode c_X11_note 70 = .ok (.aload_n 0, 1) := by decide +kernel
theorem d_X11_note_71 : decode c_X11_note 71 = .ok (.getfield 28, 3) := by decide +kernel
theorem d_X11_note_74 : decode c_X11_note 74 = .ok (.iload_n 1, 1) := by decide +kernel
theorem d_X11_note_75 : decode c_X11_note 75 = .ok (.iaload, 1) := by decide +kernel
theorem d_X11_note_76 : decode c_X11_note 76 = .ok (.iastore, 1) := by decide +kernel
theorem d_X11_note_77 : decode c_X11_note 77 = .ok (.aload_n 0, 1) := by decide +kernel
theorem d_X11_note_78 : decode c_X11_note 78 = .ok (.getfield 130, 3) := by decide +kernel
theorem d_X11_note_81 : decode c_X11_note 81 = .ok (.iconst 4, 1) := by decide +kernel
theorem d_X11_note_82 : decode c_X11_note 82 = .ok (.iload_n 1, 1) := by decide +kernel
theorem d_X11_note_83 : decode c_X11_note 83 = .ok (.imul, 1) := by decide +kernel
theorem d_X11_note_84 : decode c_X11_note 84 = .ok (.iconst 2, 1) := by decide +kernel
theorem d_X11_note_85 : decode c_X11_note 85 = .ok (.iadd, 1) := by decide +kernel
theorem d_X11_note_86 : decode c_X11_note 86 = .ok (.aload_n 0, 1) := by decide +kernel
theorem d_X11_note_87 : decode c_X11_note 87 = .ok (.getfield 19, 3) := by decide +kernel
theorem d_X11_note_90 : decode c_X11_note 90 = .ok (.iload_n 1, 1) := by decide +kernel
theorem d_X11_note_91 : decode c_X11_note 91 = .ok (.iaload, 1) := by decide +kernel
theorem d_X11_note_92 : decode c_X11_note 92 = .ok (.iastore, 1) := by decide +kernel
theorem d_X11_note_93 : decode c_X11_note 93 = .ok (.iinc 1 1, 3) := by decide +kernel
theorem d_X11_note_96 : decode c_X11_note 96 = .ok (.goto (-57), 3) := by decide +kernel
theorem d_X11_note_99 : decode c_X11_note 99 = .ok (.iconst 0, 1) := by decide +kernel
theorem d_X11_note_100 : decode c_X11_note 100 = .ok (.istore_n 1, 1) := by decide +kernel
theorem d_X11_note_101 : decode c_X11_note 101 = .ok (.iload_n 1, 1) := by decide +kernel
theorem d_X11_note_102 : decode c_X11_note 102 = .ok (.aload_n 0, 1) := by decide +kernel
theorem d_X11_note_103 : decode c_X11_note 103 = .ok (.getfield 173, 3) := by decide +kernel
theorem d_X11_note_106 : decode c_X11_note 106 = .ok (.if_icmp .ge 33, 3) := by decide +kernel
theorem d_X11_note_109 : decode c_X11_note 109 = .ok (.aload_n 0, 1) := by decide +kernel
theorem d_X11_note_110 : decode c_X11_note 110 = .ok (.getfield 133, 3) := by decide +kernel
theorem d_X11_note_113 : decode c_X11_note 113 = .ok (.iload_n 1, 1) := by decide +kernel
theorem d_X11_note_114 : decode c_X11_note 114 = .ok (.aload_n 0, 1) := by decide +kernel
theorem d_X11_note_115 : decode c_X11_note 115 = .ok (.getfield 55, 3) := by decide +kernel
theorem d_X11_note_118 : decode c_X11_note 118 = .ok (.iload_n 1, 1) := by decide +kernel
theorem d_X11_note_119 : decode c_X11_note 119 = .ok (.iaload, 1) := by decide +kernel
theorem d_X11_note_120 : decode c_X11_note 120 = .ok (.iastore, 1) := by decide +kernel
theorem d_X11_note_121 : decode c_X11_note 121 = .ok (.aload_n 0, 1) := by decide +kernel
theorem d_X11_note_122 : decode c_X11_note 122 = .ok (.getfield 136, 3) := by decide +kernel
theorem d_X11_note_125 : decode c_X11_note 125 = .ok (.iload_n 1, 1) := by decide +kernel
theorem d_X11_note_126 : decode c_X11_note 126 = .ok (.aload_n 0, 1) := by decide +kernel
theorem d_X11_note_127 : decode c_X11_note 127 = .ok (.getfield 58, 3) := by decide +kernel
theorem d_X11_note_130 : decode c_X11_note 130 = .ok (.iload_n 1, 1) := by decide +kernel
theorem d_X11_note_131 : decode c_X11_note 131 = .ok (.iaload, 1) := by decide +kernel
theorem d_X11_note_132 : decode c_X11_note 132 = .ok (.iastore, 1) := by decide +kernel
theorem d_X11_note_133 : decode c_X11_note 133 = .ok (.iinc 1 1, 3) := by decide +kernel
theorem d_X11_note_136 : decode c_X11_note 136 = .ok (.goto (-35), 3) := by decide +kernel
theorem d_X11_note_139 : decode c_X11_note 139 = .ok (.iconst 0, 1) := by decide +kernel
theorem d_X11_note_140 : decode c_X11_note 140 = .ok (.istore_n 1, 1) := by decide +kernel
theorem d_X11_note_141 : decode c_X11_note 141 = .ok (.iload_n 1, 1) := by decide +kernel
theorem d_X11_note_142 : decode c_X11_note 142 = .ok (.aload_n 0, 1) := by decide +kernel
theorem d_X11_note_143 : decode c_X11_note 143 = .ok (.getfield 233, 3) := by decide +kernel
theorem d_X11_note_146 : decode c_X11_note 146 = .ok (.if_icmp .ge 21, 3) := by decide +kernel
theorem d_X11_note_149 : decode c_X11_note 149 = .ok (.aload_n 0, 1) := by decide +kernel
theorem d_X11_note_150 : decode c_X11_note 150 = .ok (.getfield 139, 3) := by decide +kernel
theorem d_X11_note_153 : decode c_X11_note 153 = .ok (.iload_n 1, 1) := by decide +kernel
theorem d_X11_note_154 : decode c_X11_note 154 = .ok (.aload_n 0, 1) := by decide +kernel
theorem d_X11_note_155 : decode c_X11_note 155 = .ok (.getfield 118, 3) := by decide +kernel
theorem d_X11_note_158 : decode c_X11_note 158 = .ok (.iload_n 1, 1) := by decide +kernel
theorem d_X11_note_159 : decode c_X11_note 159 = .ok (.iaload, 1) := by decide +kernel
theorem d_X11_note_160 : decode c_X11_note 160 = .ok (.iastore, 1) := by decide +kernel
theorem d_X11_note_161 : decode c_X11_note 161 = .ok (.iinc 1 1, 3) := by decide +kernel
theorem d_X11_note_164 : decode c_X11_note 164 = .ok (.goto (-23), 3) := by decide +kernel
theorem d_X11_note_167 : decode c_X11_note 167 = .ok (.return_, 1) := by decide +kernel
def kp_X11_note_400  (a j : Nat) : Prop := (a ≠ 400 ∨ j < 53 ∨ 57 < j) ∧ (a < 450 ∨ 453 < a)
def b_X11_note_400_39  (rc39 : Int32 → tV → tV) (rc101 : Int32 → tV → tV) (y1 : Int32) (v1 : tV) : tV := bnd (v1 400 27) fun g0 => bnd (v1 400 1) fun x1 => (if x1 ≤ y1 then rc101 0 v1 else bnd ((4 : Int32) * y1) fun x9 => bnd (v1 410 y1.toNatClampNeg) fun x12 => bnd (up2 v1 450 (x9.toNatClampNeg) x12) fun v13 => bnd ((4 : Int32) * y1) fun x18 => bnd (x18 + (1 : Int32)) fun x21 => bnd (v13 409 y1.toNatClampNeg) fun x24 => bnd (up2 v13 450 (x21.toNatClampNeg) x24) fun v25 => bnd ((4 : Int32) * y1) fun x30 => bnd (x30 + (2 : Int32)) fun x33 => bnd (v25 406 y1.toNatClampNeg) fun x36 => bnd (up2 v25 450 (x33.toNatClampNeg) x36) fun v37 => bnd (y1 + 1) fun x42 => rc39 x42 v37)
def b_X11_note_400_101  (rc101 : Int32 → tV → tV) (rc141 : Int32 → tV → tV) (y1 : Int32) (v1 : tV) : tV := bnd (v1 400 27) fun g0 => bnd (v1 400 15) fun x45 => (if x45 ≤ y1 then rc141 0 v1 else bnd (v1 419 y1.toNatClampNeg) fun x53 => bnd (up2 v1 451 (y1.toNatClampNeg) x53) fun v54 => bnd (v54 420 y1.toNatClampNeg) fun x59 => bnd (up2 v54 452 (y1.toNatClampNeg) x59) fun v60 => bnd (y1 + 1) fun x65 => rc101 x65 v60)
def b_X11_note_400_141  (rc141 : Int32 → tV → tV) (y1 : Int32) (v1 : tV) : tV := bnd (v1 400 27) fun g0 => bnd (v1 400 44) fun x68 => (if x68 ≤ y1 then v1 else bnd (v1 446 y1.toNatClampNeg) fun x76 => bnd (up2 v1 453 (y1.toNatClampNeg) x76) fun v78 => bnd (y1 + 1) fun x83 => rc141 x83 v78)
def g_X11_note_400_141  : Nat → Int32 → tV → tV
  | 0, _, v1 => v1
  | n + 1, y1, v1 => b_X11_note_400_141  (g_X11_note_400_141  n) y1 v1
def g_X11_note_400_101  : Nat → Int32 → tV → tV
  | 0, _, v1 => v1
  | n + 1, y1, v1 => b_X11_note_400_101  (g_X11_note_400_101  n) (g_X11_note_400_141  n) y1 v1
def g_X11_note_400_39  : Nat → Int32 → tV → tV
  | 0, _, v1 => v1
  | n + 1, y1, v1 => b_X11_note_400_39  (g_X11_note_400_39  n) (g_X11_note_400_101  n) y1 v1
def f_X11_note_400 (v : tV)  : tV := bnd (v 400 27) fun g0 => bnd (up2 v 400 57 1) fun v86 => bnd (v86 400 1) fun x90 => bnd (up2 v86 400 53 x90) fun v93 => bnd (v93 400 44) fun x99 => bnd (up2 v93 400 54 x99) fun v102 => bnd (v102 400 15) fun x110 => bnd (up2 v102 400 55 x110) fun v113 => bnd (v113 400 26) fun x123 => bnd (up2 v113 400 56 x123) fun v124 => g_X11_note_400_39  100000 0 v124
set_option maxHeartbeats 4000000 in
set_option maxRecDepth 100000 in
theorem ct_X11_note_400 (l : Launch) (D : va_G) (dA : Nat → ClassId) (ad : Nat → Nat) (v : tV) (hI : Inv v)  : Met l m_X11_note [.code m_X11_note c_X11_note 2 none] ({ frames := 1, cells := 0, slots := 0, locals := 40 } : Room) (tP D dA ad v [.ref (ad 400)]) (tQv D dA ad (fun v' => (Inv v' ∧ Kp kp_X11_note_400 v v' ∧ v' 400 27 = v 400 27) ∧ v' = f_X11_note_400 v )) 0 0 (tA ad) := by
  refine tMet (by decide) (Nat.le_of_ble_eq_true rfl) ?_
  intro p e s m below meth c ls X hr hlocks hw hl
  have X : CX p s m ([.ref (ad 400)] : List Value).toArray c c_X11_note N_X11 2 D dA := X
  have hx := X.1
  have hb := X.2.1
  have hS : va_S (tA ad) s.heap s.heap [] := va_S.rf
  have hl : lv_has ls 2 [(0, .ref (ad 400))] := hl
  obtain ⟨g0, hg0⟩ : ∃ g, v 400 27 = g := ⟨_, rfl⟩
  have r_g0 : Rg g0 0 200 := by rw [← hg0]; exact hI 400 27 _ _ rfl
  obtain ⟨RR, eRR⟩ : ∃ z, f_X11_note_400 v  = z := ⟨_, rfl⟩
  have LL : ∀ n : Nat, (∀ (y1 : Int32) (v1 : tV) (H : Heap) (locs : List Loc) (ls : Array Slot), (20 - y1.toInt).toNat + 300 < n → Rg y1 0 20 → Inv v1 → Kp kp_X11_note_400 v v1 → v1 400 27 = g0 → g_X11_note_400_39  n y1 v1 = RR → tI D dA ad v1 H → va_S (tA ad) s.heap H locs → lv_has ls 2 [(0, .ref (ad 400)), (1, .int y1)] → W p l e ({ frames := 1, cells := 0, slots := 0, locals := 40 } : Room) s m ([.ref (ad 400)] : List Value).toArray below meth c H locs 0 0 (MQ below (tQv D dA ad (fun v' => (Inv v' ∧ Kp kp_X11_note_400 v v' ∧ v' 400 27 = v 400 27) ∧ v' = f_X11_note_400 v )) ([.ref (ad 400)] : List Value).toArray s 0 0 (tA ad)) (F0 m 39 ls [])) ∧ (∀ (y1 : Int32) (v1 : tV) (H : Heap) (locs : List Loc) (ls : Array Slot), (10 - y1.toInt).toNat + 200 < n → Rg y1 0 10 → Inv v1 → Kp kp_X11_note_400 v v1 → v1 400 27 = g0 → g_X11_note_400_101  n y1 v1 = RR → tI D dA ad v1 H → va_S (tA ad) s.heap H locs → lv_has ls 2 [(0, .ref (ad 400)), (1, .int y1)] → W p l e ({ frames := 1, cells := 0, slots := 0, locals := 40 } : Room) s m ([.ref (ad 400)] : List Value).toArray below meth c H locs 0 0 (MQ below (tQv D dA ad (fun v' => (Inv v' ∧ Kp kp_X11_note_400 v v' ∧ v' 400 27 = v 400 27) ∧ v' = f_X11_note_400 v )) ([.ref (ad 400)] : List Value).toArray s 0 0 (tA ad)) (F0 m 101 ls [])) ∧ (∀ (y1 : Int32) (v1 : tV) (H : Heap) (locs : List Loc) (ls : Array Slot), (20 - y1.toInt).toNat + 0 < n → Rg y1 0 20 → Inv v1 → Kp kp_X11_note_400 v v1 → v1 400 27 = g0 → g_X11_note_400_141  n y1 v1 = RR → tI D dA ad v1 H → va_S (tA ad) s.heap H locs → lv_has ls 2 [(0, .ref (ad 400)), (1, .int y1)] → W p l e ({ frames := 1, cells := 0, slots := 0, locals := 40 } : Room) s m ([.ref (ad 400)] : List Value).toArray below meth c H locs 0 0 (MQ below (tQv D dA ad (fun v' => (Inv v' ∧ Kp kp_X11_note_400 v v' ∧ v' 400 27 = v 400 27) ∧ v' = f_X11_note_400 v )) ([.ref (ad 400)] : List Value).toArray s 0 0 (tA ad)) (F0 m 141 ls [])) := by
    intro n
    induction n with
    | zero => refine ⟨?_, ?_, ?_⟩ <;> (intros; omega)
    | succ n ih =>
      obtain ⟨ih0, ih1, ih2⟩ := ih
      refine ⟨?_, ?_, ?_⟩
      · intro y1 v1 H locs ls hmu r_y1 hI1 hK1 hfx0 hG hw hS hl
        have hG : b_X11_note_400_39  (g_X11_note_400_39  n) (g_X11_note_400_101  n) y1 v1 = RR := hG
        unfold b_X11_note_400_39 at hG
        have hG := bnd_use hfx0.symm hG
        refine lv_iload_n hx hb d_X11_note_39 rfl (lv_at hl 1 rfl) ?_
        refine lv_aload_n hx hb d_X11_note_40 rfl (lv_at hl 0 rfl) ?_
        refine r_geti X hw FL_X11_166 (rfl : KD 400 = _) rfl d_X11_note_41 ?_
        refine lv_topi (fun x1 ex1 => ?_)
        have hG := bnd_use ex1 hG
        have r2 : Rg x1 0 20 := by rw [ex1]; exact hI1 _ _ _ _ rfl
        have hm3 : v1 400 1 = x1 := ex1.symm
        refine lv_icmp_ge (tgt := 99) hx hb d_X11_note_44 (by decide) (fun c4 => ?_) (fun c4 => ?_)
        · have f5 := i_le c4
          have hG := g_pos c4 hG
          refine lv_iconst (v := 0) hx hb d_X11_note_99 (by decide) ?_
          refine lv_istore_n (lv' := [(1, .int 0), (0, .ref (ad 400))]) hx hb d_X11_note_100 rfl hl (by decide) rfl (fun ls hl => ?_)
          exact ih1 0 v1 _ _ _ (by obtain ⟨_, _⟩ := (⟨by decide, by decide⟩ : Rg 0 0 0); omega) (rg_w (⟨by decide, by decide⟩ : Rg 0 0 0) (by decide) (by decide)) hI1 hK1 hfx0 hG hw hS (lv_sub hl [1, 0] rfl)
        · have f6 := i_nle c4
          have r7 : Rg y1 0 19 := by obtain ⟨a1, a2⟩ := r_y1; obtain ⟨b1, b2⟩ := r2; have f := i_nle c4; exact ⟨by omega, by omega⟩
          have r8 : Rg x1 1 20 := by obtain ⟨a1, a2⟩ := r_y1; obtain ⟨b1, b2⟩ := r2; have f := i_nle c4; exact ⟨by omega, by omega⟩
          have hG := g_neg c4 hG
          refine lv_aload_n hx hb d_X11_note_47 rfl (lv_at hl 0 rfl) ?_
          refine r_getr (r := 450) X hw FL_X11_130 (rfl : KD 400 = _) rfl d_X11_note_48 ?_
          refine lv_iconst (v := 4) hx hb d_X11_note_51 (by decide) ?_
          refine lv_iload_n hx hb d_X11_note_52 rfl (lv_at hl 1 rfl) ?_
          refine lv_imul hx hb d_X11_note_53 ?_
          refine lv_topi (fun x9 ex9 => ?_)
          have hG := bnd_use ex9 hG
          have r10 : Rg x9 0 76 := rg_mulc ex9 (⟨by decide, by decide⟩ : Rg 4 4 4) r7 (by decide) (by decide) (by decide)
          have s11 : x9.toInt = 4 * y1.toInt := rg_mule ex9 r7 rfl (by decide) (by decide)
          refine lv_aload_n hx hb d_X11_note_54 rfl (lv_at hl 0 rfl) ?_
          refine r_getr (r := 410) X hw FL_X11_31 (rfl : KD 400 = _) rfl d_X11_note_55 ?_
          refine lv_iload_n hx hb d_X11_note_58 rfl (lv_at hl 1 rfl) ?_
          refine r_iald X hw (rfl : KD 410 = _) (Rg.vp (b := 19) r7 (by decide)) rfl d_X11_note_59 ?_
          refine lv_topi (fun x12 ex12 => ?_)
          have hG := bnd_use ex12 hG
          refine r_iast X hw hS (rfl : KD 450 = _) (Rg.vp (b := 76) r10 (by decide)) rfl d_X11_note_60 (fun H locs hw hS => ?_)
          obtain ⟨v13, ev13⟩ : ∃ z, z = up2 v1 450 x9.toNatClampNeg x12 := ⟨_, rfl⟩
          rw [← ev13] at hw
          have hG := bnd_use ev13 hG
          have hI14 : Inv v13 := by rw [ev13]; exact Inv.put0 hI1 _ rfl
          have hK15 : Kp kp_X11_note_400 v v13 := by rw [ev13]; exact Kp.put hK1 _ (by unfold kp_X11_note_400; omega)
          have hm16 : v13 400 27 = g0 := by rw [ev13, up2_n _ _ (by omega)]; exact hfx0
          have hm17 : v13 400 1 = x1 := by rw [ev13, up2_n _ _ (by omega)]; exact hm3
          refine lv_aload_n hx hb d_X11_note_61 rfl (lv_at hl 0 rfl) ?_
          refine r_getr (r := 450) X hw FL_X11_130 (rfl : KD 400 = _) rfl d_X11_note_62 ?_
          refine lv_iconst (v := 4) hx hb d_X11_note_65 (by decide) ?_
          refine lv_iload_n hx hb d_X11_note_66 rfl (lv_at hl 1 rfl) ?_
          refine lv_imul hx hb d_X11_note_67 ?_
          refine lv_topi (fun x18 ex18 => ?_)
          have hG := bnd_use ex18 hG
          have r19 : Rg x18 0 76 := rg_mulc ex18 (⟨by decide, by decide⟩ : Rg 4 4 4) r7 (by decide) (by decide) (by decide)
          have s20 : x18.toInt = 4 * y1.toInt := rg_mule ex18 r7 rfl (by decide) (by decide)
          refine lv_iconst (v := 1) hx hb d_X11_note_68 (by decide) ?_
          refine lv_iadd hx hb d_X11_note_69 ?_
          refine lv_topi (fun x21 ex21 => ?_)
          have hG := bnd_use ex21 hG
          have r22 : Rg x21 1 77 := rg_add ex21 r19 (⟨by decide, by decide⟩ : Rg 1 1 1) (by decide) (by decide)
          have s23 : x21.toInt = x18.toInt + (1 : Int32).toInt := by rw [ex21]; exact i_add (by obtain ⟨_, _⟩ := r19; obtain ⟨_, _⟩ := (⟨by decide, by decide⟩ : Rg 1 1 1); omega) (by obtain ⟨_, _⟩ := r19; obtain ⟨_, _⟩ := (⟨by decide, by decide⟩ : Rg 1 1 1); omega)
          have s23l : (1 : Int32).toInt = 1 := rfl
          refine lv_aload_n hx hb d_X11_note_70 rfl (lv_at hl 0 rfl) ?_
          refine r_getr (r := 409) X hw FL_X11_28 (rfl : KD 400 = _) rfl d_X11_note_71 ?_
          refine lv_iload_n hx hb d_X11_note_74 rfl (lv_at hl 1 rfl) ?_
          refine r_iald X hw (rfl : KD 409 = _) (Rg.vp (b := 19) r7 (by decide)) rfl d_X11_note_75 ?_
          refine lv_topi (fun x24 ex24 => ?_)
          have hG := bnd_use ex24 hG
          refine r_iast X hw hS (rfl : KD 450 = _) (Rg.vp (b := 77) (rg_w r22 (by decide) (by decide)) (by decide)) rfl d_X11_note_76 (fun H locs hw hS => ?_)
          obtain ⟨v25, ev25⟩ : ∃ z, z = up2 v13 450 x21.toNatClampNeg x24 := ⟨_, rfl⟩
          rw [← ev25] at hw
          have hG := bnd_use ev25 hG
          have hI26 : Inv v25 := by rw [ev25]; exact Inv.put0 hI14 _ rfl
          have hK27 : Kp kp_X11_note_400 v v25 := by rw [ev25]; exact Kp.put hK15 _ (by unfold kp_X11_note_400; omega)
          have hm28 : v25 400 27 = g0 := by rw [ev25, up2_n _ _ (by omega)]; exact hm16
          have hm29 : v25 400 1 = x1 := by rw [ev25, up2_n _ _ (by omega)]; exact hm17
          refine lv_aload_n hx hb d_X11_note_77 rfl (lv_at hl 0 rfl) ?_
          refine r_getr (r := 450) X hw FL_X11_130 (rfl : KD 400 = _) rfl d_X11_note_78 ?_
          refine lv_iconst (v := 4) hx hb d_X11_note_81 (by decide) ?_
          refine lv_iload_n hx hb d_X11_note_82 rfl (lv_at hl 1 rfl) ?_
          refine lv_imul hx hb d_X11_note_83 ?_
          refine lv_topi (fun x30 ex30 => ?_)
          have hG := bnd_use ex30 hG
          have r31 : Rg x30 0 76 := rg_mulc ex30 (⟨by decide, by decide⟩ : Rg 4 4 4) r7 (by decide) (by decide) (by decide)
          have s32 : x30.toInt = 4 * y1.toInt := rg_mule ex30 r7 rfl (by decide) (by decide)
          refine lv_iconst (v := 2) hx hb d_X11_note_84 (by decide) ?_
          refine lv_iadd hx hb d_X11_note_85 ?_
          refine lv_topi (fun x33 ex33 => ?_)
          have hG := bnd_use ex33 hG
          have r34 : Rg x33 2 78 := rg_add ex33 r31 (⟨by decide, by decide⟩ : Rg 2 2 2) (by decide) (by decide)
          have s35 : x33.toInt = x30.toInt + (2 : Int32).toInt := by rw [ex33]; exact i_add (by obtain ⟨_, _⟩ := r31; obtain ⟨_, _⟩ := (⟨by decide, by decide⟩ : Rg 2 2 2); omega) (by obtain ⟨_, _⟩ := r31; obtain ⟨_, _⟩ := (⟨by decide, by decide⟩ : Rg 2 2 2); omega)
          have s35l : (2 : Int32).toInt = 2 := rfl
          refine lv_aload_n hx hb d_X11_note_86 rfl (lv_at hl 0 rfl) ?_
          refine r_getr (r := 406) X hw FL_X11_19 (rfl : KD 400 = _) rfl d_X11_note_87 ?_
          refine lv_iload_n hx hb d_X11_note_90 rfl (lv_at hl 1 rfl) ?_
          refine r_iald X hw (rfl : KD 406 = _) (Rg.vp (b := 19) r7 (by decide)) rfl d_X11_note_91 ?_
          refine lv_topi (fun x36 ex36 => ?_)
          have hG := bnd_use ex36 hG
          refine r_iast X hw hS (rfl : KD 450 = _) (Rg.vp (b := 78) (rg_w r34 (by decide) (by decide)) (by decide)) rfl d_X11_note_92 (fun H locs hw hS => ?_)
          obtain ⟨v37, ev37⟩ : ∃ z, z = up2 v25 450 x33.toNatClampNeg x36 := ⟨_, rfl⟩
          rw [← ev37] at hw
          have hG := bnd_use ev37 hG
          have hI38 : Inv v37 := by rw [ev37]; exact Inv.put0 hI26 _ rfl
          have hK39 : Kp kp_X11_note_400 v v37 := by rw [ev37]; exact Kp.put hK27 _ (by unfold kp_X11_note_400; omega)
          have hm40 : v37 400 27 = g0 := by rw [ev37, up2_n _ _ (by omega)]; exact hm28
          have hm41 : v37 400 1 = x1 := by rw [ev37, up2_n _ _ (by omega)]; exact hm29
          obtain ⟨x42, ex42⟩ : ∃ y : Int32, y = y1 + 1 := ⟨_, rfl⟩
          have hG := bnd_use ex42 hG
          refine lv_iinc (v := x42) (lv' := [(1, .int x42), (0, .ref (ad 400))]) hx hb d_X11_note_93 hl (k := 1) rfl (by rw [ex42]; rfl) (by decide) rfl (fun ls hl => ?_)
          have r43 : Rg x42 1 20 := rg_add ex42 r7 (⟨by decide, by decide⟩ : Rg 1 1 1) (by decide) (by decide)
          have s44 : x42.toInt = y1.toInt + (1 : Int32).toInt := by rw [ex42]; exact i_add (by obtain ⟨_, _⟩ := r7; obtain ⟨_, _⟩ := (⟨by decide, by decide⟩ : Rg 1 1 1); omega) (by obtain ⟨_, _⟩ := r7; obtain ⟨_, _⟩ := (⟨by decide, by decide⟩ : Rg 1 1 1); omega)
          have s44l : (1 : Int32).toInt = 1 := rfl
          refine lv_goto (tgt := 39) hx hb d_X11_note_96 (by decide) ?_
          exact ih0 x42 v37 _ _ _ (by have := s11; have := s20; have := s23; have := s32; have := s35; have := s44; obtain ⟨_, _⟩ := r43; omega) (rg_w r43 (by decide) (by decide)) hI38 hK39 hm40 hG hw hS (lv_sub hl [1, 0] rfl)
      · intro y1 v1 H locs ls hmu r_y1 hI1 hK1 hfx0 hG hw hS hl
        have hG : b_X11_note_400_101  (g_X11_note_400_101  n) (g_X11_note_400_141  n) y1 v1 = RR := hG
        unfold b_X11_note_400_101 at hG
        have hG := bnd_use hfx0.symm hG
        refine lv_iload_n hx hb d_X11_note_101 rfl (lv_at hl 1 rfl) ?_
        refine lv_aload_n hx hb d_X11_note_102 rfl (lv_at hl 0 rfl) ?_
        refine r_geti X hw FL_X11_173 (rfl : KD 400 = _) rfl d_X11_note_103 ?_
        refine lv_topi (fun x45 ex45 => ?_)
        have hG := bnd_use ex45 hG
        have r46 : Rg x45 0 10 := by rw [ex45]; exact hI1 _ _ _ _ rfl
        have hm47 : v1 400 15 = x45 := ex45.symm
        refine lv_icmp_ge (tgt := 139) hx hb d_X11_note_106 (by decide) (fun c48 => ?_) (fun c48 => ?_)
        · have f49 := i_le c48
          have hG := g_pos c48 hG
          refine lv_iconst (v := 0) hx hb d_X11_note_139 (by decide) ?_
          refine lv_istore_n (lv' := [(1, .int 0), (0, .ref (ad 400))]) hx hb d_X11_note_140 rfl hl (by decide) rfl (fun ls hl => ?_)
          exact ih2 0 v1 _ _ _ (by obtain ⟨_, _⟩ := (⟨by decide, by decide⟩ : Rg 0 0 0); omega) (rg_w (⟨by decide, by decide⟩ : Rg 0 0 0) (by decide) (by decide)) hI1 hK1 hfx0 hG hw hS (lv_sub hl [1, 0] rfl)
        · have f50 := i_nle c48
          have r51 : Rg y1 0 9 := by obtain ⟨a1, a2⟩ := r_y1; obtain ⟨b1, b2⟩ := r46; have f := i_nle c48; exact ⟨by omega, by omega⟩
          have r52 : Rg x45 1 10 := by obtain ⟨a1, a2⟩ := r_y1; obtain ⟨b1, b2⟩ := r46; have f := i_nle c48; exact ⟨by omega, by omega⟩
          have hG := g_neg c48 hG
          refine lv_aload_n hx hb d_X11_note_109 rfl (lv_at hl 0 rfl) ?_
          refine r_getr (r := 451) X hw FL_X11_133 (rfl : KD 400 = _) rfl d_X11_note_110 ?_
          refine lv_iload_n hx hb d_X11_note_113 rfl (lv_at hl 1 rfl) ?_
          refine lv_aload_n hx hb d_X11_note_114 rfl (lv_at hl 0 rfl) ?_
          refine r_getr (r := 419) X hw FL_X11_55 (rfl : KD 400 = _) rfl d_X11_note_115 ?_
          refine lv_iload_n hx hb d_X11_note_118 rfl (lv_at hl 1 rfl) ?_
          refine r_iald X hw (rfl : KD 419 = _) (Rg.vp (b := 9) r51 (by decide)) rfl d_X11_note_119 ?_
          refine lv_topi (fun x53 ex53 => ?_)
          have hG := bnd_use ex53 hG
          refine r_iast X hw hS (rfl : KD 451 = _) (Rg.vp (b := 9) r51 (by decide)) rfl d_X11_note_120 (fun H locs hw hS => ?_)
          obtain ⟨v54, ev54⟩ : ∃ z, z = up2 v1 451 y1.toNatClampNeg x53 := ⟨_, rfl⟩
          rw [← ev54] at hw
          have hG := bnd_use ev54 hG
          have hI55 : Inv v54 := by rw [ev54]; exact Inv.put0 hI1 _ rfl
          have hK56 : Kp kp_X11_note_400 v v54 := by rw [ev54]; exact Kp.put hK1 _ (by unfold kp_X11_note_400; omega)
          have hm57 : v54 400 27 = g0 := by rw [ev54, up2_n _ _ (by omega)]; exact hfx0
          have hm58 : v54 400 15 = x45 := by rw [ev54, up2_n _ _ (by omega)]; exact hm47
          refine lv_aload_n hx hb d_X11_note_121 rfl (lv_at hl 0 rfl) ?_
          refine r_getr (r := 452) X hw FL_X11_136 (rfl : KD 400 = _) rfl d_X11_note_122 ?_
          refine lv_iload_n hx hb d_X11_note_125 rfl (lv_at hl 1 rfl) ?_
          refine lv_aload_n hx hb d_X11_note_126 rfl (lv_at hl 0 rfl) ?_
          refine r_getr (r := 420) X hw FL_X11_58 (rfl : KD 400 = _) rfl d_X11_note_127 ?_
          refine lv_iload_n hx hb d_X11_note_130 rfl (lv_at hl 1 rfl) ?_
          refine r_iald X hw (rfl : KD 420 = _) (Rg.vp (b := 9) r51 (by decide)) rfl d_X11_note_131 ?_
          refine lv_topi (fun x59 ex59 => ?_)
          have hG := bnd_use ex59 hG
          refine r_iast X hw hS (rfl : KD 452 = _) (Rg.vp (b := 9) r51 (by decide)) rfl d_X11_note_132 (fun H locs hw hS => ?_)
          obtain ⟨v60, ev60⟩ : ∃ z, z = up2 v54 452 y1.toNatClampNeg x59 := ⟨_, rfl⟩
          rw [← ev60] at hw
          have hG := bnd_use ev60 hG
          have hI61 : Inv v60 := by rw [ev60]; exact Inv.put0 hI55 _ rfl
          have hK62 : Kp kp_X11_note_400 v v60 := by rw [ev60]; exact Kp.put hK56 _ (by unfold kp_X11_note_400; omega)
          have hm63 : v60 400 27 = g0 := by rw [ev60, up2_n _ _ (by omega)]; exact hm57
          have hm64 : v60 400 15 = x45 := by rw [ev60, up2_n _ _ (by omega)]; exact hm58
          obtain ⟨x65, ex65⟩ : ∃ y : Int32, y = y1 + 1 := ⟨_, rfl⟩
          have hG := bnd_use ex65 hG
          refine lv_iinc (v := x65) (lv' := [(1, .int x65), (0, .ref (ad 400))]) hx hb d_X11_note_133 hl (k := 1) rfl (by rw [ex65]; rfl) (by decide) rfl (fun ls hl => ?_)
          have r66 : Rg x65 1 10 := rg_add ex65 r51 (⟨by decide, by decide⟩ : Rg 1 1 1) (by decide) (by decide)
          have s67 : x65.toInt = y1.toInt + (1 : Int32).toInt := by rw [ex65]; exact i_add (by obtain ⟨_, _⟩ := r51; obtain ⟨_, _⟩ := (⟨by decide, by decide⟩ : Rg 1 1 1); omega) (by obtain ⟨_, _⟩ := r51; obtain ⟨_, _⟩ := (⟨by decide, by decide⟩ : Rg 1 1 1); omega)
          have s67l : (1 : Int32).toInt = 1 := rfl
          refine lv_goto (tgt := 101) hx hb d_X11_note_136 (by decide) ?_
          exact ih1 x65 v60 _ _ _ (by have := s67; obtain ⟨_, _⟩ := r66; omega) (rg_w r66 (by decide) (by decide)) hI61 hK62 hm63 hG hw hS (lv_sub hl [1, 0] rfl)
      · intro y1 v1 H locs ls hmu r_y1 hI1 hK1 hfx0 hG hw hS hl
        have hG : b_X11_note_400_141  (g_X11_note_400_141  n) y1 v1 = RR := hG
        unfold b_X11_note_400_141 at hG
        have hG := bnd_use hfx0.symm hG
        refine lv_iload_n hx hb d_X11_note_141 rfl (lv_at hl 1 rfl) ?_
        refine lv_aload_n hx hb d_X11_note_142 rfl (lv_at hl 0 rfl) ?_
        refine r_geti X hw FL_X11_233 (rfl : KD 400 = _) rfl d_X11_note_143 ?_
        refine lv_topi (fun x68 ex68 => ?_)
        have hG := bnd_use ex68 hG
        have r69 : Rg x68 0 20 := by rw [ex68]; exact hI1 _ _ _ _ rfl
        have hm70 : v1 400 44 = x68 := ex68.symm
        refine lv_icmp_ge (tgt := 167) hx hb d_X11_note_146 (by decide) (fun c71 => ?_) (fun c71 => ?_)
        · have f72 := i_le c71
          have hG := g_pos c71 hG
          exact r_vret X hr hlocks hw hS ⟨⟨hI1, hK1, (hfx0.trans hg0.symm)⟩, hG.trans eRR.symm⟩ d_X11_note_167
        · have f73 := i_nle c71
          have r74 : Rg y1 0 19 := by obtain ⟨a1, a2⟩ := r_y1; obtain ⟨b1, b2⟩ := r69; have f := i_nle c71; exact ⟨by omega, by omega⟩
          have r75 : Rg x68 1 20 := by obtain ⟨a1, a2⟩ := r_y1; obtain ⟨b1, b2⟩ := r69; have f := i_nle c71; exact ⟨by omega, by omega⟩
          have hG := g_neg c71 hG
          refine lv_aload_n hx hb d_X11_note_149 rfl (lv_at hl 0 rfl) ?_
          refine r_getr (r := 453) X hw FL_X11_139 (rfl : KD 400 = _) rfl d_X11_note_150 ?_
          refine lv_iload_n hx hb d_X11_note_153 rfl (lv_at hl 1 rfl) ?_
          refine lv_aload_n hx hb d_X11_note_154 rfl (lv_at hl 0 rfl) ?_
          refine r_getr (r := 446) X hw FL_X11_118 (rfl : KD 400 = _) rfl d_X11_note_155 ?_
          refine lv_iload_n hx hb d_X11_note_158 rfl (lv_at hl 1 rfl) ?_
          refine r_iald X hw (rfl : KD 446 = _) (Rg.vp (b := 19) r74 (by decide)) rfl d_X11_note_159 ?_
          refine lv_topi (fun x76 ex76 => ?_)
          have hG := bnd_use ex76 hG
          have r77 : Rg x76 0 19 := by rw [ex76]; exact hI1 _ _ _ _ rfl
          refine r_iast X hw hS (rfl : KD 453 = _) (Rg.vp (b := 19) r74 (by decide)) rfl d_X11_note_160 (fun H locs hw hS => ?_)
          obtain ⟨v78, ev78⟩ : ∃ z, z = up2 v1 453 y1.toNatClampNeg x76 := ⟨_, rfl⟩
          rw [← ev78] at hw
          have hG := bnd_use ev78 hG
          have hI79 : Inv v78 := by rw [ev78]; exact Inv.putr hI1 rfl r77
          have hK80 : Kp kp_X11_note_400 v v78 := by rw [ev78]; exact Kp.put hK1 _ (by unfold kp_X11_note_400; omega)
          have hm81 : v78 400 27 = g0 := by rw [ev78, up2_n _ _ (by omega)]; exact hfx0
          have hm82 : v78 400 44 = x68 := by rw [ev78, up2_n _ _ (by omega)]; exact hm70
          obtain ⟨x83, ex83⟩ : ∃ y : Int32, y = y1 + 1 := ⟨_, rfl⟩
          have hG := bnd_use ex83 hG
          refine lv_iinc (v := x83) (lv' := [(1, .int x83), (0, .ref (ad 400))]) hx hb d_X11_note_161 hl (k := 1) rfl (by rw [ex83]; rfl) (by decide) rfl (fun ls hl => ?_)
          have r84 : Rg x83 1 20 := rg_add ex83 r74 (⟨by decide, by decide⟩ : Rg 1 1 1) (by decide) (by decide)
          have s85 : x83.toInt = y1.toInt + (1 : Int32).toInt := by rw [ex83]; exact i_add (by obtain ⟨_, _⟩ := r74; obtain ⟨_, _⟩ := (⟨by decide, by decide⟩ : Rg 1 1 1); omega) (by obtain ⟨_, _⟩ := r74; obtain ⟨_, _⟩ := (⟨by decide, by decide⟩ : Rg 1 1 1); omega)
          have s85l : (1 : Int32).toInt = 1 := rfl
          refine lv_goto (tgt := 141) hx hb d_X11_note_164 (by decide) ?_
          exact ih2 x83 v78 _ _ _ (by have := s85; obtain ⟨_, _⟩ := r84; omega) (rg_w r84 (by decide) (by decide)) hI79 hK80 hm81 hG hw hS (lv_sub hl [1, 0] rfl)
  obtain ⟨ih0, ih1, ih2⟩ := LL 100000
  have hK0 : Kp kp_X11_note_400 v v := Kp.rf _ v
  have hG := eRR
  unfold f_X11_note_400 at hG
  have hG := bnd_use hg0.symm hG
  refine lv_aload_n hx hb d_X11_note_0 rfl (lv_at hl 0 rfl) ?_
  refine lv_iconst (v := 1) hx hb d_X11_note_1 (by decide) ?_
  refine r_put X hw hS FP_X11_265 (rfl : KD 400 = _) rfl ⟨rfl, rfl⟩ d_X11_note_2 (fun H locs hw hS => ?_)
  obtain ⟨v86, ev86⟩ : ∃ z, z = up2 v 400 57 1 := ⟨_, rfl⟩
  rw [← ev86] at hw
  have hG := bnd_use ev86 hG
  have hI87 : Inv v86 := by rw [ev86]; exact Inv.put0 hI _ rfl
  have hK88 : Kp kp_X11_note_400 v v86 := by rw [ev86]; exact Kp.put hK0 _ (by unfold kp_X11_note_400; omega)
  have hm89 : v86 400 27 = g0 := by rw [ev86, up2_n _ _ (by omega)]; exact hg0
  refine lv_aload_n hx hb d_X11_note_5 rfl (lv_at hl 0 rfl) ?_
  refine lv_aload_n hx hb d_X11_note_6 rfl (lv_at hl 0 rfl) ?_
  refine r_geti X hw FL_X11_166 (rfl : KD 400 = _) rfl d_X11_note_7 ?_
  refine lv_topi (fun x90 ex90 => ?_)
  have hG := bnd_use ex90 hG
  have r91 : Rg x90 0 20 := by rw [ex90]; exact hI87 _ _ _ _ rfl
  have hm92 : v86 400 1 = x90 := ex90.symm
  refine r_put X hw hS FP_X11_269 (rfl : KD 400 = _) rfl ⟨rfl, rfl⟩ d_X11_note_10 (fun H locs hw hS => ?_)
  obtain ⟨v93, ev93⟩ : ∃ z, z = up2 v86 400 53 x90 := ⟨_, rfl⟩
  rw [← ev93] at hw
  have hG := bnd_use ev93 hG
  have hI94 : Inv v93 := by rw [ev93]; exact Inv.putr hI87 rfl r91
  have hK95 : Kp kp_X11_note_400 v v93 := by rw [ev93]; exact Kp.put hK88 _ (by unfold kp_X11_note_400; omega)
  have hm96 : v93 400 27 = g0 := by rw [ev93, up2_n _ _ (by omega)]; exact hm89
  have hm97 : v93 400 1 = x90 := by rw [ev93, up2_n _ _ (by omega)]; exact hm92
  have hm98 : v93 400 53 = x90 := by rw [ev93, up2_s]
  refine lv_aload_n hx hb d_X11_note_13 rfl (lv_at hl 0 rfl) ?_
  refine lv_aload_n hx hb d_X11_note_14 rfl (lv_at hl 0 rfl) ?_
  refine r_geti X hw FL_X11_233 (rfl : KD 400 = _) rfl d_X11_note_15 ?_
  refine lv_topi (fun x99 ex99 => ?_)
  have hG := bnd_use ex99 hG
  have r100 : Rg x99 0 20 := by rw [ex99]; exact hI94 _ _ _ _ rfl
  have hm101 : v93 400 44 = x99 := ex99.symm
  refine r_put X hw hS FP_X11_272 (rfl : KD 400 = _) rfl ⟨rfl, rfl⟩ d_X11_note_18 (fun H locs hw hS => ?_)
  obtain ⟨v102, ev102⟩ : ∃ z, z = up2 v93 400 54 x99 := ⟨_, rfl⟩
  rw [← ev102] at hw
  have hG := bnd_use ev102 hG
  have hI103 : Inv v102 := by rw [ev102]; exact Inv.putr hI94 rfl r100
  have hK104 : Kp kp_X11_note_400 v v102 := by rw [ev102]; exact Kp.put hK95 _ (by unfold kp_X11_note_400; omega)
  have hm105 : v102 400 27 = g0 := by rw [ev102, up2_n _ _ (by omega)]; exact hm96
  have hm106 : v102 400 1 = x90 := by rw [ev102, up2_n _ _ (by omega)]; exact hm97
  have hm107 : v102 400 53 = x90 := by rw [ev102, up2_n _ _ (by omega)]; exact hm98
  have hm108 : v102 400 44 = x99 := by rw [ev102, up2_n _ _ (by omega)]; exact hm101
  have hm109 : v102 400 54 = x99 := by rw [ev102, up2_s]
  refine lv_aload_n hx hb d_X11_note_21 rfl (lv_at hl 0 rfl) ?_
  refine lv_aload_n hx hb d_X11_note_22 rfl (lv_at hl 0 rfl) ?_
  refine r_geti X hw FL_X11_173 (rfl : KD 400 = _) rfl d_X11_note_23 ?_
  refine lv_topi (fun x110 ex110 => ?_)
  have hG := bnd_use ex110 hG
  have r111 : Rg x110 0 10 := by rw [ex110]; exact hI103 _ _ _ _ rfl
  have hm112 : v102 400 15 = x110 := ex110.symm
  refine r_put X hw hS FP_X11_275 (rfl : KD 400 = _) rfl ⟨rfl, rfl⟩ d_X11_note_26 (fun H locs hw hS => ?_)
  obtain ⟨v113, ev113⟩ : ∃ z, z = up2 v102 400 55 x110 := ⟨_, rfl⟩
  rw [← ev113] at hw
  have hG := bnd_use ev113 hG
  have hI114 : Inv v113 := by rw [ev113]; exact Inv.putr hI103 rfl r111
  have hK115 : Kp kp_X11_note_400 v v113 := by rw [ev113]; exact Kp.put hK104 _ (by unfold kp_X11_note_400; omega)
  have hm116 : v113 400 27 = g0 := by rw [ev113, up2_n _ _ (by omega)]; exact hm105
  have hm117 : v113 400 1 = x90 := by rw [ev113, up2_n _ _ (by omega)]; exact hm106
  have hm118 : v113 400 53 = x90 := by rw [ev113, up2_n _ _ (by omega)]; exact hm107
  have hm119 : v113 400 44 = x99 := by rw [ev113, up2_n _ _ (by omega)]; exact hm108
  have hm120 : v113 400 54 = x99 := by rw [ev113, up2_n _ _ (by omega)]; exact hm109
  have hm121 : v113 400 15 = x110 := by rw [ev113, up2_n _ _ (by omega)]; exact hm112
  have hm122 : v113 400 55 = x110 := by rw [ev113, up2_s]
  refine lv_aload_n hx hb d_X11_note_29 rfl (lv_at hl 0 rfl) ?_
  refine lv_aload_n hx hb d_X11_note_30 rfl (lv_at hl 0 rfl) ?_
  refine r_geti X hw FL_X11_76 (rfl : KD 400 = _) rfl d_X11_note_31 ?_
  refine lv_topi (fun x123 ex123 => ?_)
  have hG := bnd_use ex123 hG
  refine r_put X hw hS FP_X11_278 (rfl : KD 400 = _) rfl ⟨rfl, rfl⟩ d_X11_note_34 (fun H locs hw hS => ?_)
  obtain ⟨v124, ev124⟩ : ∃ z, z = up2 v113 400 56 x123 := ⟨_, rfl⟩
  rw [← ev124] at hw
  have hG := bnd_use ev124 hG
  have hI125 : Inv v124 := by rw [ev124]; exact Inv.put0 hI114 _ rfl
  have hK126 : Kp kp_X11_note_400 v v124 := by rw [ev124]; exact Kp.put hK115 _ (by unfold kp_X11_note_400; omega)
  have hm127 : v124 400 27 = g0 := by rw [ev124, up2_n _ _ (by omega)]; exact hm116
  have hm128 : v124 400 1 = x90 := by rw [ev124, up2_n _ _ (by omega)]; exact hm117
  have hm129 : v124 400 53 = x90 := by rw [ev124, up2_n _ _ (by omega)]; exact hm118
  have hm130 : v124 400 44 = x99 := by rw [ev124, up2_n _ _ (by omega)]; exact hm119
  have hm131 : v124 400 54 = x99 := by rw [ev124, up2_n _ _ (by omega)]; exact hm120
  have hm132 : v124 400 15 = x110 := by rw [ev124, up2_n _ _ (by omega)]; exact hm121
  have hm133 : v124 400 55 = x110 := by rw [ev124, up2_n _ _ (by omega)]; exact hm122
  refine lv_iconst (v := 0) hx hb d_X11_note_37 (by decide) ?_
  refine lv_istore_n (lv' := [(1, .int 0), (0, .ref (ad 400))]) hx hb d_X11_note_38 rfl hl (by decide) rfl (fun ls hl => ?_)
  exact ih0 0 v124 _ _ _ (by obtain ⟨_, _⟩ := (⟨by decide, by decide⟩ : Rg 0 0 0); omega) (rg_w (⟨by decide, by decide⟩ : Rg 0 0 0) (by decide) (by decide)) hI125 hK126 hm127 hG hw hS (lv_sub hl [1, 0] rfl)
theorem d_X11_keep_0 : decode c_X11_keep 0 = .ok (.iconst 0, 1) := by decide +kernel
theorem d_X11_keep_1 : decode c_X11_keep 1 = .ok (.istore_n 1, 1) := by decide +kernel
theorem d_X11_keep_2 : decode c_X11_keep 2 = .ok (.iload_n 1, 1) := by decide +kernel
theorem d_X11_keep_3 : decode c_X11_keep 3 = .ok (.aload_n 0, 1) := by decide +kernel
theorem d_X11_keep_4 : decode c_X11_keep 4 = .ok (.getfield 166, 3) := by decide +kernel
theorem d_X11_keep_7 : decode c_X11_keep 7 = .ok (.if_icmp .ge 145, 3) := by decide +kernel
theorem d_X11_keep_10 : decode c_X11_keep 10 = .ok (.aload_n 0, 1) := by decide +kernel
theorem d_X11_keep_11 : decode c_X11_keep 11 = .ok (.getfield 121, 3) := by decide +kernel
theorem d_X11_keep_14 : decode c_X11_keep 14 = .ok (.bipush 9, 2) := by decide +kernel
theorem d_X11_keep_16 : decode c_X11_keep 16 = .ok (.iload_n 1, 1) := by decide +kernel
theorem d_X11_keep_17 : decode c_X11_keep 17 = .ok (.imul, 1) := by decide +kernel
theorem d_X11_keep_18 : decode c_X11_keep 18 = .ok (.aload_n 0, 1) := by decide +kernel
theorem d_X11_keep_19 : decode c_X11_keep 19 = .ok (.getfield 25, 3) := by decide +kernel
theorem d_X11_keep_22 : decode c_X11_keep 22 = .ok (.iload_n 1, 1) := by decide +kernel
theorem d_X11_keep_23 : decode c_X11_keep 23 = .ok (.iaload, 1) := by decide +kernel
theorem d_X11_keep_24 : decode c_X11_keep 24 = .ok (.iastore, 1) := by decide +kernel
theorem d_X11_keep_25 : decode c_X11_keep 25 = .ok (.aload_n 0, 1) := by decide +kernel
theorem d_X11_keep_26 : decode c_X11_keep 26 = .ok (.getfield 121, 3) := by decide +kernel
theorem d_X11_keep_29 : decode c_X11_keep 29 = .ok (.bipush 9, 2) := by decide +kernel
theorem d_X11_keep_31 : decode c_X11_keep 31 = .ok (.iload_n 1, 1) := by decide +kernel
theorem d_X11_keep_32 : decode c_X11_keep 32 = .ok (.imul, 1) := by decide +kernel
theorem d_X11_keep_33 : decode c_X11_keep 33 = .ok (.iconst 1, 1) := by decide +kernel
theorem d_X11_keep_34 : decode c_X11_keep 34 = .ok (.iadd, 1) := by decide +kernel
theorem d_X11_keep_35 : decode c_X11_keep 35 = .ok (.aload_n 0, 1) := by decide +kernel
theorem d_X11_keep_36 : decode c_X11_keep 36 = .ok (.getfield 28, 3) := by decide +kernel
theorem d_X11_keep_39 : decode c_X11_keep 39 = .ok (.iload_n 1, 1) := by decide +kernel
theorem d_X11_keep_40 : decode c_X11_keep 40 = .ok (.iaload, 1) := by decide +kernel
theorem d_X11_keep_41 : decode c_X11_keep 41 = .ok (.iastore, 1) := by decide +kernel
theorem d_X11_keep_42 : decode c_X11_keep 42 = .ok (.aload_n 0, 1) := by decide +kernel
theorem d_X11_keep_43 : decode c_X11_keep 43 = .ok (.getfield 121, 3) := by decide +kernel
theorem d_X11_keep_46 : decode c_X11_keep 46 = .ok (.bipush 9, 2) := by decide +kernel
theorem d_X11_keep_48 : decode c_X11_keep 48 = .ok (.iload_n 1, 1) := by decide +kernel
theorem d_X11_keep_49 : decode c_X11_keep 49 = .ok (.imul, 1) := by decide +kernel
theorem d_X11_keep_50 : decode c_X11_keep 50 = .ok (.iconst 2, 1) := by decide +kernel
theorem d_X11_keep_51 : decode c_X11_keep 51 = .ok (.iadd, 1) := by decide +kernel
theorem d_X11_keep_52 : decode c_X11_keep 52 = .ok (.aload_n 0, 1) := by decide +kernel
theorem d_X11_keep_53 : decode c_X11_keep 53 = .ok (.getfield 31, 3) := by decide +kernel
theorem d_X11_keep_56 : decode c_X11_keep 56 = .ok (.iload_n 1, 1) := by decide +kernel
theorem d_X11_keep_57 : decode c_X11_keep 57 = .ok (.iaload, 1) := by decide +kernel
theorem d_X11_keep_58 : decode c_X11_keep 58 = .ok (.iastore, 1) := by decide +kernel
theorem d_X11_keep_59 : decode c_X11_keep 59 = .ok (.aload_n 0, 1) := by decide +kernel
theorem d_X11_keep_60 : decode c_X11_keep 60 = .ok (.getfield 121, 3) := by decide +kernel
theorem d_X11_keep_63 : decode c_X11_keep 63 = .ok (.bipush 9, 2) := by decide +kernel
theorem d_X11_keep_65 : decode c_X11_keep 65 = .ok (.iload_n 1, 1) := by decide +kernel
theorem d_X11_keep_66 : decode c_X11_keep 66 = .ok (.imul, 1) := by decide +kernel
theorem d_X11_keep_67 : decode c_X11_keep 67 = .ok (.iconst 3, 1) := by decide +kernel
theorem d_X11_keep_68 : decode c_X11_keep 68 = .ok (.iadd, 1) := by decide +kernel
theorem d_X11_keep_69 : decode c_X11_keep 69 = .ok (.aload_n 0, 1) := by decide +kernel
theorem d_X11_keep_70 : decode c_X11_keep 70 = .ok (.getfield 34, 3) := by decide +kernel
theorem d_X11_keep_73 : decode c_X11_keep 73 = .ok (.iload_n 1, 1) := by decide +kernel
theorem d_X11_keep_74 : decode c_X11_keep 74 = .ok (.iaload, 1) := by decide +kernel
theorem d_X11_keep_75 : decode c_X11_keep 75 = .ok (.iastore, 1) := by decide +kernel
theorem d_X11_keep_76 : decode c_X11_keep 76 = .ok (.aload_n 0, 1) := by decide +kernel
theorem d_X11_keep_77 : decode c_X11_keep 77 = .ok (.getfield 121, 3) := by decide +kernel
theorem d_X11_keep_80 : decode c_X11_keep 80 = .ok (.bipush 9, 2) := by decide +kernel
theorem d_X11_keep_82 : decode c_X11_keep 82 = .ok (.iload_n 1, 1) := by decide +kernel
theorem d_X11_keep_83 : decode c_X11_keep 83 = .ok (.imul, 1) := by decide +kernel
theorem d_X11_keep_84 : decode c_X11_keep 84 = .ok (.iconst 4, 1) := by decide +kernel
theorem d_X11_keep_85 : decode c_X11_keep 85 = .ok (.iadd, 1) := by decide +kernel
theorem d_X11_keep_86 : decode c_X11_keep 86 = .ok (.aload_n 0, 1) := by decide +kernel
theorem d_X11_keep_87 : decode c_X11_keep 87 = .ok (.getfield 37, 3) := by decide +kernel
theorem d_X11_keep_90 : decode c_X11_keep 90 = .ok (.iload_n 1, 1) := by decide +kernel
theorem d_X11_keep_91 : decode c_X11_keep 91 = .ok (.iaload, 1) := by decide +kernel
theorem d_X11_keep_92 : decode c_X11_keep 92 = .ok (.iastore, 1) := by decide +kernel
theorem d_X11_keep_93 : decode c_X11_keep 93 = .ok (.aload_n 0, 1) := by decide +kernel
theorem d_X11_keep_94 : decode c_X11_keep 94 = .ok (.getfield 121, 3) := by decide +kernel
theorem d_X11_keep_97 : decode c_X11_keep 97 = .ok (.bipush 9, 2) := by decide +kernel
theorem d_X11_keep_99 : decode c_X11_keep 99 = .ok (.iload_n 1, 1) := by decide +kernel
theorem d_X11_keep_100 : decode c_X11_keep 100 = .ok (.imul, 1) := by decide +kernel
theorem d_X11_keep_101 : decode c_X11_keep 101 = .ok (.iconst 5, 1) := by decide +kernel
theorem d_X11_keep_102 : decode c_X11_keep 102 = .ok (.iadd, 1) := by decide +kernel
theorem d_X11_keep_103 : decode c_X11_keep 103 = .ok (.aload_n 0, 1) := by decide +kernel
theorem d_X11_keep_104 : decode c_X11_keep 104 = .ok (.getfield 40, 3) := by decide +kernel
theorem d_X11_keep_107 : decode c_X11_keep 107 = .ok (.iload_n 1, 1) := by decide +kernel
theorem d_X11_keep_108 : decode c_X11_keep 108 = .ok (.iaload, 1) := by decide +kernel
theorem d_X11_keep_109 : decode c_X11_keep 109 = .ok (.iastore, 1) := by decide +kernel
theorem d_X11_keep_110 : decode c_X11_keep 110 = .ok (.aload_n 0, 1) := by decide +kernel
theorem d_X11_keep_111 : decode c_X11_keep 111 = .ok (.getfield 121, 3) := by decide +kernel
theorem d_X11_keep_114 : decode c_X11_keep 114 = .ok (.bipush 9, 2) := by decide +kernel
theorem d_X11_keep_116 : decode c_X11_keep 116 = .ok (.iload_n 1, 1) := by decide +kernel
theorem d_X11_keep_117 : decode c_X11_keep 117 = .ok (.imul, 1) := by decide +kernel
theorem d_X11_keep_118 : decode c_X11_keep 118 = .ok (.bipush 6, 2) := by decide +kernel
theorem d_X11_keep_120 : decode c_X11_keep 120 = .ok (.iadd, 1) := by decide +kernel
theorem d_X11_keep_121 : decode c_X11_keep 121 = .ok (.aload_n 0, 1) := by decide +kernel
theorem d_X11_keep_122 : decode c_X11_keep 122 = .ok (.getfield 43, 3) := by decide +kernel
theorem d_X11_keep_125 : decode c_X11_keep 125 = .ok (.iload_n 1, 1) := by decide +kernel
theorem d_X11_keep_126 : decode c_X11_keep 126 = .ok (.iaload, 1) := by decide +kernel
theorem d_X11_keep_127 : decode c_X11_keep 127 = .ok (.iastore, 1) := by decide +kernel
theorem d_X11_keep_128 : decode c_X11_keep 128 = .ok (.aload_n 0, 1) := by decide +kernel
theorem d_X11_keep_129 : decode c_X11_keep 129 = .ok (.getfield 121, 3) := by decide +kernel
theorem d_X11_keep_132 : decode c_X11_keep 132 = .ok (.bipush 9, 2) := by decide +kernel
theorem d_X11_keep_134 : decode c_X11_keep 134 = .ok (.iload_n 1, 1) := by decide +kernel
theorem d_X11_keep_135 : decode c_X11_keep 135 = .ok (.imul, 1) := by decide +kernel
theorem d_X11_keep_136 : decode c_X11_keep 136 = .ok (.bipush 7, 2) := by decide +kernel
theorem d_X11_keep_138 : decode c_X11_keep 138 = .ok (.iadd, 1) := by decide +kernel
theorem d_X11_keep_139 : decode c_X11_keep 139 = .ok (.aload_n 0, 1) := by decide +kernel
theorem d_X11_keep_140 : decode c_X11_keep 140 = .ok (.getfield 46, 3) := by decide +kernel
theorem d_X11_keep_143 : decode c_X11_keep 143 = .ok (.iload_n 1, 1) := by decide +kernel
theorem d_X11_keep_144 : decode c_X11_keep 144 = .ok (.iaload, 1) := by decide +kernel
theorem d_X11_keep_145 : decode c_X11_keep 145 = .ok (.iastore, 1) := by decide +kernel
theorem d_X11_keep_146 : decode c_X11_keep 146 = .ok (.iinc 1 1, 3) := by decide +kernel
theorem d_X11_keep_149 : decode c_X11_keep 149 = .ok (.goto (-147), 3) := by decide +kernel
theorem d_X11_keep_152 : decode c_X11_keep 152 = .ok (.iconst 0, 1) := by decide +kernel
theorem d_X11_keep_153 : decode c_X11_keep 153 = .ok (.istore_n 1, 1) := by decide +kernel
theorem d_X11_keep_154 : decode c_X11_keep 154 = .ok (.iload_n 1, 1) := by decide +kernel
theorem d_X11_keep_155 : decode c_X11_keep 155 = .ok (.bipush 6, 2) := by decide +kernel
theorem d_X11_keep_157 : decode c_X11_keep 157 = .ok (.if_icmp .ge 66, 3) := by decide +kernel
theorem d_X11_keep_160 : decode c_X11_keep 160 = .ok (.aload_n 0, 1) := by decide +kernel
theorem d_X11_keep_161 : decode c_X11_keep 161 = .ok (.getfield 124, 3) := by decide +kernel
theorem d_X11_keep_164 : decode c_X11_keep 164 = .ok (.iload_n 1, 1) := by decide +kernel
theorem d_X11_keep_165 : decode c_X11_keep 165 = .ok (.aload_n 0, 1) := by decide +kernel
theorem d_X11_keep_166 : decode c_X11_keep 166 = .ok (.getfield 61, 3) := by decide +kernel
theorem d_X11_keep_169 : decode c_X11_keep 169 = .ok (.iload_n 1, 1) := by decide +kernel
theorem d_X11_keep_170 : decode c_X11_keep 170 = .ok (.iaload, 1) := by decide +kernel
theorem d_X11_keep_171 : decode c_X11_keep 171 = .ok (.iastore, 1) := by decide +kernel
theorem d_X11_keep_172 : decode c_X11_keep 172 = .ok (.aload_n 0, 1) := by decide +kernel
theorem d_X11_keep_173 : decode c_X11_keep 173 = .ok (.getfield 124, 3) := by decide +kernel
theorem d_X11_keep_176 : decode c_X11_keep 176 = .ok (.bipush 6, 2) := by decide +kernel
theorem d_X11_keep_178 : decode c_X11_keep 178 = .ok (.iload_n 1, 1) := by decide +kernel
theorem d_X11_keep_179 : decode c_X11_keep 179 = .ok (.iadd, 1) := by decide +kernel
theorem d_X11_keep_180 : decode c_X11_keep 180 = .ok (.aload_n 0, 1) := by decide +kernel
theorem d_X11_keep_181 : decode c_X11_keep 181 = .ok (.getfield 64, 3) := by decide +kernel
theorem d_X11_keep_184 : decode c_X11_keep 184 = .ok (.iload_n 1, 1) := by decide +kernel
theorem d_X11_keep_185 : decode c_X11_keep 185 = .ok (.iaload, 1) := by decide +kernel
theorem d_X11_keep_186 : decode c_X11_keep 186 = .ok (.iastore, 1) := by decide +kernel
theorem d_X11_keep_187 : decode c_X11_keep 187 = .ok (.aload_n 0, 1) := by decide +kernel
theorem d_X11_keep_188 : decode c_X11_keep 188 = .ok (.getfield 124, 3) := by decide +kernel
theorem d_X11_keep_191 : decode c_X11_keep 191 = .ok (.bipush 12, 2) := by decide +kernel
theorem d_X11_keep_193 : decode c_X11_keep 193 = .ok (.iload_n 1, 1) := by decide +kernel
theorem d_X11_keep_194 : decode c_X11_keep 194 = .ok (.iadd, 1) := by decide +kernel
theorem d_X11_keep_195 : decode c_X11_keep 195 = .ok (.aload_n 0, 1) := by decide +kernel
theorem d_X11_keep_196 : decode c_X11_keep 196 = .ok (.getfield 67, 3) := by decide +kernel
theorem d_X11_keep_199 : decode c_X11_keep 199 = .ok (.iload_n 1, 1) := by decide +kernel
theorem d_X11_keep_200 : decode c_X11_keep 200 = .ok (.iaload, 1) := by decide +kernel
theorem d_X11_keep_201 : decode c_X11_keep 201 = .ok (.iastore, 1) := by decide +kernel
theorem d_X11_keep_202 : decode c_X11_keep 202 = .ok (.aload_n 0, 1) := by decide +kernel
theorem d_X11_keep_203 : decode c_X11_keep 203 = .ok (.getfield 124, 3) := by decide +kernel
theorem d_X11_keep_206 : decode c_X11_keep 206 = .ok (.bipush 18, 2) := by decide +kernel
theorem d_X11_keep_208 : decode c_X11_keep 208 = .ok (.iload_n 1, 1) := by decide +kernel
theorem d_X11_keep_209 : decode c_X11_keep 209 = .ok (.iadd, 1) := by decide +kernel
theorem d_X11_keep_210 : decode c_X11_keep 210 = .ok (.aload_n 0, 1) := by decide +kernel
theorem d_X11_keep_211 : decode c_X11_keep 211 = .ok (.getfield 70, 3) := by decide +kernel
theorem d_X11_keep_214 : decode c_X11_keep 214 = .ok (.iload_n 1, 1) := by decide +kernel
theorem d_X11_keep_215 : decode c_X11_keep 215 = .ok (.iaload, 1) := by decide +kernel
theorem d_X11_keep_216 : decode c_X11_keep 216 = .ok (.iastore, 1) := by decide +kernel
theorem d_X11_keep_217 : decode c_X11_keep 217 = .ok (.iinc 1 1, 3) := by decide +kernel
theorem d_X11_keep_220 : decode c_X11_keep 220 = .ok (.goto (-66), 3) := by decide +kernel
theorem d_X11_keep_223 : decode c_X11_keep 223 = .ok (.iconst 0, 1) := by decide +kernel
theorem d_X11_keep_224 : decode c_X11_keep 224 = .ok (.istore_n 1, 1) := by decide +kernel
theorem d_X11_keep_225 : decode c_X11_keep 225 = .ok (.iload_n 1, 1) := by decide +kernel
theorem d_X11_keep_226 : decode c_X11_keep 226 = .ok (.aload_n 0, 1) := by decide +kernel
theorem d_X11_keep_227 : decode c_X11_keep 227 = .ok (.getfield 173, 3) := by decide +kernel
theorem d_X11_keep_230 : decode c_X11_keep 230 = .ok (.if_icmp .ge 24, 3) := by decide +kernel
theorem d_X11_keep_233 : decode c_X11_keep 233 = .ok (.aload_n 0, 1) := by decide +kernel
theorem d_X11_keep_234 : decode c_X11_keep 234 = .ok (.getfield 124, 3) := by decide +kernel
theorem d_X11_keep_237 : decode c_X11_keep 237 = .ok (.bipush 24, 2) := by decide +kernel
theorem d_X11_keep_239 : decode c_X11_keep 239 = .ok (.iload_n 1, 1) := by decide +kernel
theorem d_X11_keep_240 : decode c_X11_keep 240 = .ok (.iadd, 1) := by decide +kernel
theorem d_X11_keep_241 : decode c_X11_keep 241 = .ok (.aload_n 0, 1) := by decide +kernel
theorem d_X11_keep_242 : decode c_X11_keep 242 = .ok (.getfield 55, 3) := by decide +kernel
theorem d_X11_keep_245 : decode c_X11_keep 245 = .ok (.iload_n 1, 1) := by decide +kernel
theorem d_X11_keep_246 : decode c_X11_keep 246 = .ok (.iaload, 1) := by decide +kernel
theorem d_X11_keep_247 : decode c_X11_keep 247 = .ok (.iastore, 1) := by decide +kernel
theorem d_X11_keep_248 : decode c_X11_keep 248 = .ok (.iinc 1 1, 3) := by decide +kernel
theorem d_X11_keep_251 : decode c_X11_keep 251 = .ok (.goto (-26), 3) := by decide +kernel
theorem d_X11_keep_254 : decode c_X11_keep 254 = .ok (.aload_n 0, 1) := by decide +kernel
theorem d_X11_keep_255 : decode c_X11_keep 255 = .ok (.getfield 124, 3) := by decide +kernel
theorem d_X11_keep_258 : decode c_X11_keep 258 = .ok (.bipush 34, 2) := by decide +kernel
theorem d_X11_keep_260 : decode c_X11_keep 260 = .ok (.aload_n 0, 1) := by decide +kernel
theorem d_X11_keep_261 : decode c_X11_keep 261 = .ok (.getfield 227, 3) := by decide +kernel
theorem d_X11_keep_264 : decode c_X11_keep 264 = .ok (.iastore, 1) := by decide +kernel
theorem d_X11_keep_265 : decode c_X11_keep 265 = .ok (.aload_n 0, 1) := by decide +kernel
theorem d_X11_keep_266 : decode c_X11_keep 266 = .ok (.getfield 124, 3) := by decide +kernel
theorem d_X11_keep_269 : decode c_X11_keep 269 = .ok (.bipush 35, 2) := by decide +kernel
theorem d_X11_keep_271 : decode c_X11_keep 271 = .ok (.aload_n 0, 1) := by decide +kernel
theorem d_X11_keep_272 : decode c_X11_keep 272 = .ok (.getfield 76, 3) := by decide +kernel
theorem d_X11_keep_275 : decode c_X11_keep 275 = .ok (.iastore, 1) := by decide +kernel
theorem d_X11_keep_276 : decode c_X11_keep 276 = .ok (.aload_n 0, 1) := by decide +kernel
theorem d_X11_keep_277 : decode c_X11_keep 277 = .ok (.getfield 124, 3) := by decide +kernel
theorem d_X11_keep_280 : decode c_X11_keep 280 = .ok (.bipush 36, 2) := by decide +kernel
theorem d_X11_keep_282 : decode c_X11_keep 282 = .ok (.aload_n 0, 1) := by decide +kernel
theorem d_X11_keep_283 : decode c_X11_keep 283 = .ok (.getfield 243, 3) := by decide +kernel
theorem d_X11_keep_286 : decode c_X11_keep 286 = .ok (.iastore, 1) := by decide +kernel
theorem d_X11_keep_287 : decode c_X11_keep 287 = .ok (.aload_n 0, 1) := by decide +kernel
theorem d_X11_keep_288 : decode c_X11_keep 288 = .ok (.getfield 124, 3) := by decide +kernel
theorem d_X11_keep_291 : decode c_X11_keep 291 = .ok (.bipush 37, 2) := by decide +kernel
theorem d_X11_keep_293 : decode c_X11_keep 293 = .ok (.aload_n 0, 1) := by decide +kernel
theorem d_X11_keep_294 : decode c_X11_keep 294 = .ok (.getfield 246, 3) := by decide +kernel
theorem d_X11_keep_297 : decode c_X11_keep 297 = .ok (.iastore, 1) := by decide +kernel
theorem d_X11_keep_298 : decode c_X11_keep 298 = .ok (.aload_n 0, 1) := by decide +kernel
theorem d_X11_keep_299 : decode c_X11_keep 299 = .ok (.getfield 124, 3) := by decide +kernel
theorem d_X11_keep_302 : decode c_X11_keep 302 = .ok (.bipush 38, 2) := by decide +kernel
theorem d_X11_keep_304 : decode c_X11_keep 304 = .ok (.aload_n 0, 1) := by decide +kernel
theorem d_X11_keep_305 : decode c_X11_keep 305 = .ok (.getfield 249, 3) := by decide +kernel
theorem d_X11_keep_308 : decode c_X11_keep 308 = .ok (.iastore, 1) := by decide +kernel
theorem d_X11_keep_309 : decode c_X11_keep 309 = .ok (.iconst 0, 1) := by decide +kernel
theorem d_X11_keep_310 : decode c_X11_keep 310 = .ok (.istore_n 1, 1) := by decide +kernel
theorem d_X11_keep_311 : decode c_X11_keep 311 = .ok (.iload_n 1, 1) := by decide +kernel
theorem d_X11_keep_312 : decode c_X11_keep 312 = .ok (.aload_n 0, 1) := by decide +kernel
theorem d_X11_keep_313 : decode c_X11_keep 313 = .ok (.getfield 243, 3) := by decide +kernel
theorem d_X11_keep_316 : decode c_X11_keep 316 = .ok (.if_icmp .ge 71, 3) := by decide +kernel
theorem d_X11_keep_319 : decode c_X11_keep 319 = .ok (.aload_n 0, 1) := by decide +kernel
theorem d_X11_keep_320 : decode c_X11_keep 320 = .ok (.getfield 127, 3) := by decide +kernel
theorem d_X11_keep_323 : decode c_X11_keep 323 = .ok (.iconst 4, 1) := by decide +kernel
theorem d_X11_keep_324 : decode c_X11_keep 324 = .ok (.iload_n 1, 1) := by decide +kernel
theorem d_X11_keep_325 : decode c_X11_keep 325 = .ok (.imul, 1) := by decide +kernel
theorem d_X11_keep_326 : decode c_X11_keep 326 = .ok (.aload_n 0, 1) := by decide +kernel
theorem d_X11_keep_327 : decode c_X11_keep 327 = .ok (.getfield 80, 3) := by decide +kernel
theorem d_X11_keep_330 : decode c_X11_keep 330 = .ok (.iload_n 1, 1) := by decide +kernel
theorem d_X11_keep_331 : decode c_X11_keep 331 = .ok (.iaload, 1) := by decide +kernel
theorem d_X11_keep_332 : decode c_X11_keep 332 = .ok (.iastore, 1) := by decide +kernel
theorem d_X11_keep_333 : decode c_X11_keep 333 = .ok (.aload_n 0, 1) := by decide +kernel
theorem d_X11_keep_334 : decode c_X11_keep 334 = .ok (.getfield 127, 3) := by decide +kernel
theorem d_X11_keep_337 : decode c_X11_keep 337 = .ok (.iconst 4, 1) := by decide +kernel
theorem d_X11_keep_338 : decode c_X11_keep 338 = .ok (.iload_n 1, 1) := by decide +kernel
theorem d_X11_keep_339 : decode c_X11_keep 339 = .ok (.imul, 1) := by decide +kernel
theorem d_X11_keep_340 : decode c_X11_keep 340 = .ok (.iconst 1, 1) := by decide +kernel
theorem d_X11_keep_341 : decode c_X11_keep 341 = .ok (.iadd, 1) := by decide +kernel
theorem d_X11_keep_342 : decode c_X11_keep 342 = .ok (.aload_n 0, 1) := by decide +kernel
theorem d_X11_keep_343 : decode c_X11_keep 343 = .ok (.getfield 83, 3) := by decide +kernel
theorem d_X11_keep_346 : decode c_X11_keep 346 = .ok (.iload_n 1, 1) := by decide +kernel
theorem d_X11_keep_347 : decode c_X11_keep 347 = .ok (.iaload, 1) := by decide +kernel
theorem d_X11_keep_348 : decode c_X11_keep 348 = .ok (.iastore, 1) := by decide +kernel
theorem d_X11_keep_349 : decode c_X11_keep 349 = .ok (.aload_n 0, 1) := by decide +kernel
theorem d_X11_keep_350 : decode c_X11_keep 350 = .ok (.getfield 127, 3) := by decide +kernel
theorem d_X11_keep_353 : decode c_X11_keep 353 = .ok (.iconst 4, 1) := by decide +kernel
theorem d_X11_keep_354 : decode c_X11_keep 354 = .ok (.iload_n 1, 1) := by decide +kernel
theorem d_X11_keep_355 : decode c_X11_keep 355 = .ok (.imul, 1) := by decide +kernel
theorem d_X11_keep_356 : decode c_X11_keep 356 = .ok (.iconst 2, 1) := by decide +kernel
theorem d_X11_keep_357 : decode c_X11_keep 357 = .ok (.iadd, 1) := by decide +kernel
theorem d_X11_keep_358 : decode c_X11_keep 358 = .ok (.aload_n 0, 1) := by decide +kernel
theorem d_X11_keep_359 : decode c_X11_keep 359 = .ok (.getfield 86, 3) := by decide +kernel
theorem d_X11_keep_362 : decode c_X11_keep 362 = .ok (.iload_n 1, 1) := by decide +kernel
theorem d_X11_keep_363 : decode c_X11_keep 363 = .ok (.iaload, 1) := by decide +kernel
theorem d_X11_keep_364 : decode c_X11_keep 364 = .ok (.iastore, 1) := by decide +kernel
theorem d_X11_keep_365 : decode c_X11_keep 365 = .ok (.aload_n 0, 1) := by decide +kernel
theorem d_X11_keep_366 : decode c_X11_keep 366 = .ok (.getfield 127, 3) := by decide +kernel
theorem d_X11_keep_369 : decode c_X11_keep 369 = .ok (.iconst 4, 1) := by decide +kernel
theorem d_X11_keep_370 : decode c_X11_keep 370 = .ok (.iload_n 1, 1) := by decide +kernel
theorem d_X11_keep_371 : decode c_X11_keep 371 = .ok (.imul, 1) := by decide +kernel
theorem d_X11_keep_372 : decode c_X11_keep 372 = .ok (.iconst 3, 1) := by decide +kernel
theorem d_X11_keep_373 : decode c_X11_keep 373 = .ok (.iadd, 1) := by decide +kernel
theorem d_X11_keep_374 : decode c_X11_keep 374 = .ok (.aload_n 0, 1) := by decide +kernel
theorem d_X11_keep_375 : decode c_X11_keep 375 = .ok (.getfield 89, 3) := by decide +kernel
theorem d_X11_keep_378 : decode c_X11_keep 378 = .ok (.iload_n 1, 1) := by decide +kernel
theorem d_X11_keep_379 : decode c_X11_keep 379 = .ok (.iaload, 1) := by decide +kernel
theorem d_X11_keep_380 : decode c_X11_keep 380 = .ok (.iastore, 1) := by decide +kernel
theorem d_X11_keep_381 : decode c_X11_keep 381 = .ok (.iinc 1 1, 3) := by decide +kernel
theorem d_X11_keep_384 : decode c_X11_keep 384 = .ok (.goto (-73), 3) := by decide +kernel
theorem d_X11_keep_387 : decode c_X11_keep 387 = .ok (.return_, 1) := by decide +kernel
def kp_X11_keep_400  (a j : Nat) : Prop := (a < 447 ∨ 450 ≤ a)
def b_X11_keep_400_2  (rc2 : Int32 → tV → tV) (rc154 : Int32 → tV → tV) (y1 : Int32) (v1 : tV) : tV := bnd (v1 400 1) fun x1 => (if x1 ≤ y1 then rc154 0 v1 else bnd ((9 : Int32) * y1) fun x9 => bnd (v1 408 y1.toNatClampNeg) fun x12 => bnd (up2 v1 447 (x9.toNatClampNeg) x12) fun v13 => bnd ((9 : Int32) * y1) fun x17 => bnd (x17 + (1 : Int32)) fun x20 => bnd (v13 409 y1.toNatClampNeg) fun x23 => bnd (up2 v13 447 (x20.toNatClampNeg) x23) fun v24 => bnd ((9 : Int32) * y1) fun x28 => bnd (x28 + (2 : Int32)) fun x31 => bnd (v24 410 y1.toNatClampNeg) fun x34 => bnd (up2 v24 447 (x31.toNatClampNeg) x34) fun v35 => bnd ((9 : Int32) * y1) fun x39 => bnd (x39 + (3 : Int32)) fun x42 => bnd (v35 411 y1.toNatClampNeg) fun x45 => bnd (up2 v35 447 (x42.toNatClampNeg) x45) fun v46 => bnd ((9 : Int32) * y1) fun x50 => bnd (x50 + (4 : Int32)) fun x53 => bnd (v46 412 y1.toNatClampNeg) fun x56 => bnd (up2 v46 447 (x53.toNatClampNeg) x56) fun v57 => bnd ((9 : Int32) * y1) fun x61 => bnd (x61 + (5 : Int32)) fun x64 => bnd (v57 413 y1.toNatClampNeg) fun x67 => bnd (up2 v57 447 (x64.toNatClampNeg) x67) fun v68 => bnd ((9 : Int32) * y1) fun x72 => bnd (x72 + (6 : Int32)) fun x75 => bnd (v68 414 y1.toNatClampNeg) fun x78 => bnd (up2 v68 447 (x75.toNatClampNeg) x78) fun v79 => bnd ((9 : Int32) * y1) fun x83 => bnd (x83 + (7 : Int32)) fun x86 => bnd (v79 415 y1.toNatClampNeg) fun x89 => bnd (up2 v79 447 (x86.toNatClampNeg) x89) fun v90 => bnd (y1 + 1) fun x94 => rc2 x94 v90)
def b_X11_keep_400_154  (rc154 : Int32 → tV → tV) (rc225 : Int32 → tV → tV) (y1 : Int32) (v1 : tV) : tV := (if (6 : Int32) ≤ y1 then rc225 0 v1 else bnd (v1 421 y1.toNatClampNeg) fun x102 => bnd (up2 v1 448 (y1.toNatClampNeg) x102) fun v103 => bnd ((6 : Int32) + y1) fun x106 => bnd (v103 422 y1.toNatClampNeg) fun x109 => bnd (up2 v103 448 (x106.toNatClampNeg) x109) fun v110 => bnd ((12 : Int32) + y1) fun x113 => bnd (v110 423 y1.toNatClampNeg) fun x116 => bnd (up2 v110 448 (x113.toNatClampNeg) x116) fun v117 => bnd ((18 : Int32) + y1) fun x120 => bnd (v117 424 y1.toNatClampNeg) fun x123 => bnd (up2 v117 448 (x120.toNatClampNeg) x123) fun v124 => bnd (y1 + 1) fun x127 => rc154 x127 v124)
def b_X11_keep_400_225  (rc225 : Int32 → tV → tV) (rc311 : Int32 → tV → tV) (y1 : Int32) (v1 : tV) : tV := bnd (v1 400 15) fun x130 => (if x130 ≤ y1 then bnd (v1 400 25) fun x135 => bnd (up2 v1 448 ((34 : Int32).toNatClampNeg) x135) fun v136 => bnd (v136 400 26) fun x140 => bnd (up2 v136 448 ((35 : Int32).toNatClampNeg) x140) fun v141 => bnd (v141 400 27) fun x145 => bnd (up2 v141 448 ((36 : Int32).toNatClampNeg) x145) fun v148 => bnd (v148 400 58) fun x153 => bnd (up2 v148 448 ((37 : Int32).toNatClampNeg) x153) fun v154 => bnd (v154 400 59) fun x159 => bnd (up2 v154 448 ((38 : Int32).toNatClampNeg) x159) fun v160 => rc311 0 v160 else bnd ((24 : Int32) + y1) fun x168 => bnd (v1 419 y1.toNatClampNeg) fun x171 => bnd (up2 v1 448 (x168.toNatClampNeg) x171) fun v172 => bnd (y1 + 1) fun x176 => rc225 x176 v172)
def b_X11_keep_400_311  (rc311 : Int32 → tV → tV) (y1 : Int32) (v1 : tV) : tV := bnd (v1 400 27) fun x179 => (if x179 ≤ y1 then v1 else bnd ((4 : Int32) * y1) fun x187 => bnd (v1 429 y1.toNatClampNeg) fun x190 => bnd (up2 v1 449 (x187.toNatClampNeg) x190) fun v192 => bnd ((4 : Int32) * y1) fun x196 => bnd (x196 + (1 : Int32)) fun x199 => bnd (v192 430 y1.toNatClampNeg) fun x202 => bnd (up2 v192 449 (x199.toNatClampNeg) x202) fun v203 => bnd ((4 : Int32) * y1) fun x207 => bnd (x207 + (2 : Int32)) fun x210 => bnd (v203 431 y1.toNatClampNeg) fun x213 => bnd (up2 v203 449 (x210.toNatClampNeg) x213) fun v214 => bnd ((4 : Int32) * y1) fun x218 => bnd (x218 + (3 : Int32)) fun x221 => bnd (v214 432 y1.toNatClampNeg) fun x224 => bnd (up2 v214 449 (x221.toNatClampNeg) x224) fun v225 => bnd (y1 + 1) fun x229 => rc311 x229 v225)
def g_X11_keep_400_311  : Nat → Int32 → tV → tV
  | 0, _, v1 => v1
  | n + 1, y1, v1 => b_X11_keep_400_311  (g_X11_keep_400_311  n) y1 v1
def g_X11_keep_400_225  : Nat → Int32 → tV → tV
  | 0, _, v1 => v1
  | n + 1, y1, v1 => b_X11_keep_400_225  (g_X11_keep_400_225  n) (g_X11_keep_400_311  n) y1 v1
def g_X11_keep_400_154  : Nat → Int32 → tV → tV
  | 0, _, v1 => v1
  | n + 1, y1, v1 => b_X11_keep_400_154  (g_X11_keep_400_154  n) (g_X11_keep_400_225  n) y1 v1
def g_X11_keep_400_2  : Nat → Int32 → tV → tV
  | 0, _, v1 => v1
  | n + 1, y1, v1 => b_X11_keep_400_2  (g_X11_keep_400_2  n) (g_X11_keep_400_154  n) y1 v1
def f_X11_keep_400 (v : tV)  : tV := g_X11_keep_400_2  100000 0 v
set_option maxHeartbeats 4000000 in
set_option maxRecDepth 100000 in
theorem ct_X11_keep_400 (l : Launch) (D : va_G) (dA : Nat → ClassId) (ad : Nat → Nat) (v : tV) (hI : Inv v)  : Met l m_X11_keep [.code m_X11_keep c_X11_keep 2 none] ({ frames := 1, cells := 0, slots := 0, locals := 40 } : Room) (tP D dA ad v [.ref (ad 400)]) (tQv D dA ad (fun v' => (Inv v' ∧ Kp kp_X11_keep_400 v v') ∧ v' = f_X11_keep_400 v )) 0 0 (tA ad) := by
  refine tMet (by decide) (Nat.le_of_ble_eq_true rfl) ?_
  intro p e s m below meth c ls X hr hlocks hw hl
  have X : CX p s m ([.ref (ad 400)] : List Value).toArray c c_X11_keep N_X11 2 D dA := X
  have hx := X.1
  have hb := X.2.1
  have hS : va_S (tA ad) s.heap s.heap [] := va_S.rf
  have hl : lv_has ls 2 [(0, .ref (ad 400))] := hl
  obtain ⟨RR, eRR⟩ : ∃ z, f_X11_keep_400 v  = z := ⟨_, rfl⟩
  have LL : ∀ n : Nat, (∀ (y1 : Int32) (v1 : tV) (H : Heap) (locs : List Loc) (ls : Array Slot), (20 - y1.toInt).toNat + 900 < n → Rg y1 0 20 → Inv v1 → Kp kp_X11_keep_400 v v1 → g_X11_keep_400_2  n y1 v1 = RR → tI D dA ad v1 H → va_S (tA ad) s.heap H locs → lv_has ls 2 [(0, .ref (ad 400)), (1, .int y1)] → W p l e ({ frames := 1, cells := 0, slots := 0, locals := 40 } : Room) s m ([.ref (ad 400)] : List Value).toArray below meth c H locs 0 0 (MQ below (tQv D dA ad (fun v' => (Inv v' ∧ Kp kp_X11_keep_400 v v') ∧ v' = f_X11_keep_400 v )) ([.ref (ad 400)] : List Value).toArray s 0 0 (tA ad)) (F0 m 2 ls [])) ∧ (∀ (y1 : Int32) (v1 : tV) (H : Heap) (locs : List Loc) (ls : Array Slot), (6 - y1.toInt).toNat + 800 < n → Rg y1 0 6 → Inv v1 → Kp kp_X11_keep_400 v v1 → g_X11_keep_400_154  n y1 v1 = RR → tI D dA ad v1 H → va_S (tA ad) s.heap H locs → lv_has ls 2 [(0, .ref (ad 400)), (1, .int y1)] → W p l e ({ frames := 1, cells := 0, slots := 0, locals := 40 } : Room) s m ([.ref (ad 400)] : List Value).toArray below meth c H locs 0 0 (MQ below (tQv D dA ad (fun v' => (Inv v' ∧ Kp kp_X11_keep_400 v v') ∧ v' = f_X11_keep_400 v )) ([.ref (ad 400)] : List Value).toArray s 0 0 (tA ad)) (F0 m 154 ls [])) ∧ (∀ (y1 : Int32) (v1 : tV) (H : Heap) (locs : List Loc) (ls : Array Slot), (10 - y1.toInt).toNat + 700 < n → Rg y1 0 10 → Inv v1 → Kp kp_X11_keep_400 v v1 → g_X11_keep_400_225  n y1 v1 = RR → tI D dA ad v1 H → va_S (tA ad) s.heap H locs → lv_has ls 2 [(0, .ref (ad 400)), (1, .int y1)] → W p l e ({ frames := 1, cells := 0, slots := 0, locals := 40 } : Room) s m ([.ref (ad 400)] : List Value).toArray below meth c H locs 0 0 (MQ below (tQv D dA ad (fun v' => (Inv v' ∧ Kp kp_X11_keep_400 v v') ∧ v' = f_X11_keep_400 v )) ([.ref (ad 400)] : List Value).toArray s 0 0 (tA ad)) (F0 m 225 ls [])) ∧ (∀ (y1 : Int32) (v1 : tV) (H : Heap) (locs : List Loc) (ls : Array Slot), (200 - y1.toInt).toNat + 0 < n → Rg y1 0 200 → Inv v1 → Kp kp_X11_keep_400 v v1 → g_X11_keep_400_311  n y1 v1 = RR → tI D dA ad v1 H → va_S (tA ad) s.heap H locs → lv_has ls 2 [(0, .ref (ad 400)), (1, .int y1)] → W p l e ({ frames := 1, cells := 0, slots := 0, locals := 40 } : Room) s m ([.ref (ad 400)] : List Value).toArray below meth c H locs 0 0 (MQ below (tQv D dA ad (fun v' => (Inv v' ∧ Kp kp_X11_keep_400 v v') ∧ v' = f_X11_keep_400 v )) ([.ref (ad 400)] : List Value).toArray s 0 0 (tA ad)) (F0 m 311 ls [])) := by
    intro n
    induction n with
    | zero => refine ⟨?_, ?_, ?_, ?_⟩ <;> (intros; omega)
    | succ n ih =>
      obtain ⟨ih0, ih1, ih2, ih3⟩ := ih
      refine ⟨?_, ?_, ?_, ?_⟩
      · intro y1 v1 H locs ls hmu r_y1 hI1 hK1 hG hw hS hl
        have hG : b_X11_keep_400_2  (g_X11_keep_400_2  n) (g_X11_keep_400_154  n) y1 v1 = RR := hG
        unfold b_X11_keep_400_2 at hG
        refine lv_iload_n hx hb d_X11_keep_2 rfl (lv_at hl 1 rfl) ?_
        refine lv_aload_n hx hb d_X11_keep_3 rfl (lv_at hl 0 rfl) ?_
        refine r_geti X hw FL_X11_166 (rfl : KD 400 = _) rfl d_X11_keep_4 ?_
        refine lv_topi (fun x1 ex1 => ?_)
        have hG := bnd_use ex1 hG
        have r2 : Rg x1 0 20 := by rw [ex1]; exact hI1 _ _ _ _ rfl
        have hm3 : v1 400 1 = x1 := ex1.symm
        refine lv_icmp_ge (tgt := 152) hx hb d_X11_keep_7 (by decide) (fun c4 => ?_) (fun c4 => ?_)
        · have f5 := i_le c4
          have hG := g_pos c4 hG
          refine lv_iconst (v := 0) hx hb d_X11_keep_152 (by decide) ?_
          refine lv_istore_n (lv' := [(1, .int 0), (0, .ref (ad 400))]) hx hb d_X11_keep_153 rfl hl (by decide) rfl (fun ls hl => ?_)
          exact ih1 0 v1 _ _ _ (by obtain ⟨_, _⟩ := (⟨by decide, by decide⟩ : Rg 0 0 0); omega) (rg_w (⟨by decide, by decide⟩ : Rg 0 0 0) (by decide) (by decide)) hI1 hK1 hG hw hS (lv_sub hl [1, 0] rfl)
        · have f6 := i_nle c4
          have r7 : Rg y1 0 19 := by obtain ⟨a1, a2⟩ := r_y1; obtain ⟨b1, b2⟩ := r2; have f := i_nle c4; exact ⟨by omega, by omega⟩
          have r8 : Rg x1 1 20 := by obtain ⟨a1, a2⟩ := r_y1; obtain ⟨b1, b2⟩ := r2; have f := i_nle c4; exact ⟨by omega, by omega⟩
          have hG := g_neg c4 hG
          refine lv_aload_n hx hb d_X11_keep_10 rfl (lv_at hl 0 rfl) ?_
          refine r_getr (r := 447) X hw FL_X11_121 (rfl : KD 400 = _) rfl d_X11_keep_11 ?_
          refine lv_bipush (v := 9) hx hb d_X11_keep_14 (by decide) ?_
          refine lv_iload_n hx hb d_X11_keep_16 rfl (lv_at hl 1 rfl) ?_
          refine lv_imul hx hb d_X11_keep_17 ?_
          refine lv_topi (fun x9 ex9 => ?_)
          have hG := bnd_use ex9 hG
          have r10 : Rg x9 0 171 := rg_mulc ex9 (⟨by decide, by decide⟩ : Rg 9 9 9) r7 (by decide) (by decide) (by decide)
          have s11 : x9.toInt = 9 * y1.toInt := rg_mule ex9 r7 rfl (by decide) (by decide)
          refine lv_aload_n hx hb d_X11_keep_18 rfl (lv_at hl 0 rfl) ?_
          refine r_getr (r := 408) X hw FL_X11_25 (rfl : KD 400 = _) rfl d_X11_keep_19 ?_
          refine lv_iload_n hx hb d_X11_keep_22 rfl (lv_at hl 1 rfl) ?_
          refine r_iald X hw (rfl : KD 408 = _) (Rg.vp (b := 19) r7 (by decide)) rfl d_X11_keep_23 ?_
          refine lv_topi (fun x12 ex12 => ?_)
          have hG := bnd_use ex12 hG
          refine r_iast X hw hS (rfl : KD 447 = _) (Rg.vp (b := 171) r10 (by decide)) rfl d_X11_keep_24 (fun H locs hw hS => ?_)
          obtain ⟨v13, ev13⟩ : ∃ z, z = up2 v1 447 x9.toNatClampNeg x12 := ⟨_, rfl⟩
          rw [← ev13] at hw
          have hG := bnd_use ev13 hG
          have hI14 : Inv v13 := by rw [ev13]; exact Inv.put0 hI1 _ rfl
          have hK15 : Kp kp_X11_keep_400 v v13 := by rw [ev13]; exact Kp.put hK1 _ (by unfold kp_X11_keep_400; omega)
          have hm16 : v13 400 1 = x1 := by rw [ev13, up2_n _ _ (by omega)]; exact hm3
          refine lv_aload_n hx hb d_X11_keep_25 rfl (lv_at hl 0 rfl) ?_
          refine r_getr (r := 447) X hw FL_X11_121 (rfl : KD 400 = _) rfl d_X11_keep_26 ?_
          refine lv_bipush (v := 9) hx hb d_X11_keep_29 (by decide) ?_
          refine lv_iload_n hx hb d_X11_keep_31 rfl (lv_at hl 1 rfl) ?_
          refine lv_imul hx hb d_X11_keep_32 ?_
          refine lv_topi (fun x17 ex17 => ?_)
          have hG := bnd_use ex17 hG
          have r18 : Rg x17 0 171 := rg_mulc ex17 (⟨by decide, by decide⟩ : Rg 9 9 9) r7 (by decide) (by decide) (by decide)
          have s19 : x17.toInt = 9 * y1.toInt := rg_mule ex17 r7 rfl (by decide) (by decide)
          refine lv_iconst (v := 1) hx hb d_X11_keep_33 (by decide) ?_
          refine lv_iadd hx hb d_X11_keep_34 ?_
          refine lv_topi (fun x20 ex20 => ?_)
          have hG := bnd_use ex20 hG
          have r21 : Rg x20 1 172 := rg_add ex20 r18 (⟨by decide, by decide⟩ : Rg 1 1 1) (by decide) (by decide)
          have s22 : x20.toInt = x17.toInt + (1 : Int32).toInt := by rw [ex20]; exact i_add (by obtain ⟨_, _⟩ := r18; obtain ⟨_, _⟩ := (⟨by decide, by decide⟩ : Rg 1 1 1); omega) (by obtain ⟨_, _⟩ := r18; obtain ⟨_, _⟩ := (⟨by decide, by decide⟩ : Rg 1 1 1); omega)
          have s22l : (1 : Int32).toInt = 1 := rfl
          refine lv_aload_n hx hb d_X11_keep_35 rfl (lv_at hl 0 rfl) ?_
          refine r_getr (r := 409) X hw FL_X11_28 (rfl : KD 400 = _) rfl d_X11_keep_36 ?_
          refine lv_iload_n hx hb d_X11_keep_39 rfl (lv_at hl 1 rfl) ?_
          refine r_iald X hw (rfl : KD 409 = _) (Rg.vp (b := 19) r7 (by decide)) rfl d_X11_keep_40 ?_
          refine lv_topi (fun x23 ex23 => ?_)
          have hG := bnd_use ex23 hG
          refine r_iast X hw hS (rfl : KD 447 = _) (Rg.vp (b := 172) (rg_w r21 (by decide) (by decide)) (by decide)) rfl d_X11_keep_41 (fun H locs hw hS => ?_)
          obtain ⟨v24, ev24⟩ : ∃ z, z = up2 v13 447 x20.toNatClampNeg x23 := ⟨_, rfl⟩
          rw [← ev24] at hw
          have hG := bnd_use ev24 hG
          have hI25 : Inv v24 := by rw [ev24]; exact Inv.put0 hI14 _ rfl
          have hK26 : Kp kp_X11_keep_400 v v24 := by rw [ev24]; exact Kp.put hK15 _ (by unfold kp_X11_keep_400; omega)
          have hm27 : v24 400 1 = x1 := by rw [ev24, up2_n _ _ (by omega)]; exact hm16
          refine lv_aload_n hx hb d_X11_keep_42 rfl (lv_at hl 0 rfl) ?_
          refine r_getr (r := 447) X hw FL_X11_121 (rfl : KD 400 = _) rfl d_X11_keep_43 ?_
          refine lv_bipush (v := 9) hx hb d_X11_keep_46 (by decide) ?_
          refine lv_iload_n hx hb d_X11_keep_48 rfl (lv_at hl 1 rfl) ?_
          refine lv_imul hx hb d_X11_keep_49 ?_
          refine lv_topi (fun x28 ex28 => ?_)
          have hG := bnd_use ex28 hG
          have r29 : Rg x28 0 171 := rg_mulc ex28 (⟨by decide, by decide⟩ : Rg 9 9 9) r7 (by decide) (by decide) (by decide)
          have s30 : x28.toInt = 9 * y1.toInt := rg_mule ex28 r7 rfl (by decide) (by decide)
          refine lv_iconst (v := 2) hx hb d_X11_keep_50 (by decide) ?_
          refine lv_iadd hx hb d_X11_keep_51 ?_
          refine lv_topi (fun x31 ex31 => ?_)
          have hG := bnd_use ex31 hG
          have r32 : Rg x31 2 173 := rg_add ex31 r29 (⟨by decide, by decide⟩ : Rg 2 2 2) (by decide) (by decide)
          have s33 : x31.toInt = x28.toInt + (2 : Int32).toInt := by rw [ex31]; exact i_add (by obtain ⟨_, _⟩ := r29; obtain ⟨_, _⟩ := (⟨by decide, by decide⟩ : Rg 2 2 2); omega) (by obtain ⟨_, _⟩ := r29; obtain ⟨_, _⟩ := (⟨by decide, by decide⟩ : Rg 2 2 2); omega)
          have s33l : (2 : Int32).toInt = 2 := rfl
          refine lv_aload_n hx hb d_X11_keep_52 rfl (lv_at hl 0 rfl) ?_
          refine r_getr (r := 410) X hw FL_X11_31 (rfl : KD 400 = _) rfl d_X11_keep_53 ?_
          refine lv_iload_n hx hb d_X11_keep_56 rfl (lv_at hl 1 rfl) ?_
          refine r_iald X hw (rfl : KD 410 = _) (Rg.vp (b := 19) r7 (by decide)) rfl d_X11_keep_57 ?_
          refine lv_topi (fun x34 ex34 => ?_)
          have hG := bnd_use ex34 hG
          refine r_iast X hw hS (rfl : KD 447 = _) (Rg.vp (b := 173) (rg_w r32 (by decide) (by decide)) (by decide)) rfl d_X11_keep_58 (fun H locs hw hS => ?_)
          obtain ⟨v35, ev35⟩ : ∃ z, z = up2 v24 447 x31.toNatClampNeg x34 := ⟨_, rfl⟩
          rw [← ev35] at hw
          have hG := bnd_use ev35 hG
          have hI36 : Inv v35 := by rw [ev35]; exact Inv.put0 hI25 _ rfl
          have hK37 : Kp kp_X11_keep_400 v v35 := by rw [ev35]; exact Kp.put hK26 _ (by unfold kp_X11_keep_400; omega)
          have hm38 : v35 400 1 = x1 := by rw [ev35, up2_n _ _ (by omega)]; exact hm27
          refine lv_aload_n hx hb d_X11_keep_59 rfl (lv_at hl 0 rfl) ?_
          refine r_getr (r := 447) X hw FL_X11_121 (rfl : KD 400 = _) rfl d_X11_keep_60 ?_
          refine lv_bipush (v := 9) hx hb d_X11_keep_63 (by decide) ?_
          refine lv_iload_n hx hb d_X11_keep_65 rfl (lv_at hl 1 rfl) ?_
          refine lv_imul hx hb d_X11_keep_66 ?_
          refine lv_topi (fun x39 ex39 => ?_)
          have hG := bnd_use ex39 hG
          have r40 : Rg x39 0 171 := rg_mulc ex39 (⟨by decide, by decide⟩ : Rg 9 9 9) r7 (by decide) (by decide) (by decide)
          have s41 : x39.toInt = 9 * y1.toInt := rg_mule ex39 r7 rfl (by decide) (by decide)
          refine lv_iconst (v := 3) hx hb d_X11_keep_67 (by decide) ?_
          refine lv_iadd hx hb d_X11_keep_68 ?_
          refine lv_topi (fun x42 ex42 => ?_)
          have hG := bnd_use ex42 hG
          have r43 : Rg x42 3 174 := rg_add ex42 r40 (⟨by decide, by decide⟩ : Rg 3 3 3) (by decide) (by decide)
          have s44 : x42.toInt = x39.toInt + (3 : Int32).toInt := by rw [ex42]; exact i_add (by obtain ⟨_, _⟩ := r40; obtain ⟨_, _⟩ := (⟨by decide, by decide⟩ : Rg 3 3 3); omega) (by obtain ⟨_, _⟩ := r40; obtain ⟨_, _⟩ := (⟨by decide, by decide⟩ : Rg 3 3 3); omega)
          have s44l : (3 : Int32).toInt = 3 := rfl
          refine lv_aload_n hx hb d_X11_keep_69 rfl (lv_at hl 0 rfl) ?_
          refine r_getr (r := 411) X hw FL_X11_34 (rfl : KD 400 = _) rfl d_X11_keep_70 ?_
          refine lv_iload_n hx hb d_X11_keep_73 rfl (lv_at hl 1 rfl) ?_
          refine r_iald X hw (rfl : KD 411 = _) (Rg.vp (b := 19) r7 (by decide)) rfl d_X11_keep_74 ?_
          refine lv_topi (fun x45 ex45 => ?_)
          have hG := bnd_use ex45 hG
          refine r_iast X hw hS (rfl : KD 447 = _) (Rg.vp (b := 174) (rg_w r43 (by decide) (by decide)) (by decide)) rfl d_X11_keep_75 (fun H locs hw hS => ?_)
          obtain ⟨v46, ev46⟩ : ∃ z, z = up2 v35 447 x42.toNatClampNeg x45 := ⟨_, rfl⟩
          rw [← ev46] at hw
          have hG := bnd_use ev46 hG
          have hI47 : Inv v46 := by rw [ev46]; exact Inv.put0 hI36 _ rfl
          have hK48 : Kp kp_X11_keep_400 v v46 := by rw [ev46]; exact Kp.put hK37 _ (by unfold kp_X11_keep_400; omega)
          have hm49 : v46 400 1 = x1 := by rw [ev46, up2_n _ _ (by omega)]; exact hm38
          refine lv_aload_n hx hb d_X11_keep_76 rfl (lv_at hl 0 rfl) ?_
          refine r_getr (r := 447) X hw FL_X11_121 (rfl : KD 400 = _) rfl d_X11_keep_77 ?_
          refine lv_bipush (v := 9) hx hb d_X11_keep_80 (by decide) ?_
          refine lv_iload_n hx hb d_X11_keep_82 rfl (lv_at hl 1 rfl) ?_
          refine lv_imul hx hb d_X11_keep_83 ?_
          refine lv_topi (fun x50 ex50 => ?_)
          have hG := bnd_use ex50 hG
          have r51 : Rg x50 0 171 := rg_mulc ex50 (⟨by decide, by decide⟩ : Rg 9 9 9) r7 (by decide) (by decide) (by decide)
          have s52 : x50.toInt = 9 * y1.toInt := rg_mule ex50 r7 rfl (by decide) (by decide)
          refine lv_iconst (v := 4) hx hb d_X11_keep_84 (by decide) ?_
          refine lv_iadd hx hb d_X11_keep_85 ?_
          refine lv_topi (fun x53 ex53 => ?_)
          have hG := bnd_use ex53 hG
          have r54 : Rg x53 4 175 := rg_add ex53 r51 (⟨by decide, by decide⟩ : Rg 4 4 4) (by decide) (by decide)
          have s55 : x53.toInt = x50.toInt + (4 : Int32).toInt := by rw [ex53]; exact i_add (by obtain ⟨_, _⟩ := r51; obtain ⟨_, _⟩ := (⟨by decide, by decide⟩ : Rg 4 4 4); omega) (by obtain ⟨_, _⟩ := r51; obtain ⟨_, _⟩ := (⟨by decide, by decide⟩ : Rg 4 4 4); omega)
          have s55l : (4 : Int32).toInt = 4 := rfl
          refine lv_aload_n hx hb d_X11_keep_86 rfl (lv_at hl 0 rfl) ?_
          refine r_getr (r := 412) X hw FL_X11_37 (rfl : KD 400 = _) rfl d_X11_keep_87 ?_
          refine lv_iload_n hx hb d_X11_keep_90 rfl (lv_at hl 1 rfl) ?_
          refine r_iald X hw (rfl : KD 412 = _) (Rg.vp (b := 19) r7 (by decide)) rfl d_X11_keep_91 ?_
          refine lv_topi (fun x56 ex56 => ?_)
          have hG := bnd_use ex56 hG
          refine r_iast X hw hS (rfl : KD 447 = _) (Rg.vp (b := 175) (rg_w r54 (by decide) (by decide)) (by decide)) rfl d_X11_keep_92 (fun H locs hw hS => ?_)
          obtain ⟨v57, ev57⟩ : ∃ z, z = up2 v46 447 x53.toNatClampNeg x56 := ⟨_, rfl⟩
          rw [← ev57] at hw
          have hG := bnd_use ev57 hG
          have hI58 : Inv v57 := by rw [ev57]; exact Inv.put0 hI47 _ rfl
          have hK59 : Kp kp_X11_keep_400 v v57 := by rw [ev57]; exact Kp.put hK48 _ (by unfold kp_X11_keep_400; omega)
          have hm60 : v57 400 1 = x1 := by rw [ev57, up2_n _ _ (by omega)]; exact hm49
          refine lv_aload_n hx hb d_X11_keep_93 rfl (lv_at hl 0 rfl) ?_
          refine r_getr (r := 447) X hw FL_X11_121 (rfl : KD 400 = _) rfl d_X11_keep_94 ?_
          refine lv_bipush (v := 9) hx hb d_X11_keep_97 (by decide) ?_
          refine lv_iload_n hx hb d_X11_keep_99 rfl (lv_at hl 1 rfl) ?_
          refine lv_imul hx hb d_X11_keep_100 ?_
          refine lv_topi (fun x61 ex61 => ?_)
          have hG := bnd_use ex61 hG
          have r62 : Rg x61 0 171 := rg_mulc ex61 (⟨by decide, by decide⟩ : Rg 9 9 9) r7 (by decide) (by decide) (by decide)
          have s63 : x61.toInt = 9 * y1.toInt := rg_mule ex61 r7 rfl (by decide) (by decide)
          refine lv_iconst (v := 5) hx hb d_X11_keep_101 (by decide) ?_
          refine lv_iadd hx hb d_X11_keep_102 ?_
          refine lv_topi (fun x64 ex64 => ?_)
          have hG := bnd_use ex64 hG
          have r65 : Rg x64 5 176 := rg_add ex64 r62 (⟨by decide, by decide⟩ : Rg 5 5 5) (by decide) (by decide)
          have s66 : x64.toInt = x61.toInt + (5 : Int32).toInt := by rw [ex64]; exact i_add (by obtain ⟨_, _⟩ := r62; obtain ⟨_, _⟩ := (⟨by decide, by decide⟩ : Rg 5 5 5); omega) (by obtain ⟨_, _⟩ := r62; obtain ⟨_, _⟩ := (⟨by decide, by decide⟩ : Rg 5 5 5); omega)
          have s66l : (5 : Int32).toInt = 5 := rfl
          refine lv_aload_n hx hb d_X11_keep_103 rfl (lv_at hl 0 rfl) ?_
          refine r_getr (r := 413) X hw FL_X11_40 (rfl : KD 400 = _) rfl d_X11_keep_104 ?_
          refine lv_iload_n hx hb d_X11_keep_107 rfl (lv_at hl 1 rfl) ?_
          refine r_iald X hw (rfl : KD 413 = _) (Rg.vp (b := 19) r7 (by decide)) rfl d_X11_keep_108 ?_
          refine lv_topi (fun x67 ex67 => ?_)
          have hG := bnd_use ex67 hG
          refine r_iast X hw hS (rfl : KD 447 = _) (Rg.vp (b := 176) (rg_w r65 (by decide) (by decide)) (by decide)) rfl d_X11_keep_109 (fun H locs hw hS => ?_)
          obtain ⟨v68, ev68⟩ : ∃ z, z = up2 v57 447 x64.toNatClampNeg x67 := ⟨_, rfl⟩
          rw [← ev68] at hw
          have hG := bnd_use ev68 hG
          have hI69 : Inv v68 := by rw [ev68]; exact Inv.put0 hI58 _ rfl
          have hK70 : Kp kp_X11_keep_400 v v68 := by rw [ev68]; exact Kp.put hK59 _ (by unfold kp_X11_keep_400; omega)
          have hm71 : v68 400 1 = x1 := by rw [ev68, up2_n _ _ (by omega)]; exact hm60
          refine lv_aload_n hx hb d_X11_keep_110 rfl (lv_at hl 0 rfl) ?_
          refine r_getr (r := 447) X hw FL_X11_121 (rfl : KD 400 = _) rfl d_X11_keep_111 ?_
          refine lv_bipush (v := 9) hx hb d_X11_keep_114 (by decide) ?_
          refine lv_iload_n hx hb d_X11_keep_116 rfl (lv_at hl 1 rfl) ?_
          refine lv_imul hx hb d_X11_keep_117 ?_
          refine lv_topi (fun x72 ex72 => ?_)
          have hG := bnd_use ex72 hG
          have r73 : Rg x72 0 171 := rg_mulc ex72 (⟨by decide, by decide⟩ : Rg 9 9 9) r7 (by decide) (by decide) (by decide)
          have s74 : x72.toInt = 9 * y1.toInt := rg_mule ex72 r7 rfl (by decide) (by decide)
          refine lv_bipush (v := 6) hx hb d_X11_keep_118 (by decide) ?_
          refine lv_iadd hx hb d_X11_keep_120 ?_
          refine lv_topi (fun x75 ex75 => ?_)
          have hG := bnd_use ex75 hG
          have r76 : Rg x75 6 177 := rg_add ex75 r73 (⟨by decide, by decide⟩ : Rg 6 6 6) (by decide) (by decide)
          have s77 : x75.toInt = x72.toInt + (6 : Int32).toInt := by rw [ex75]; exact i_add (by obtain ⟨_, _⟩ := r73; obtain ⟨_, _⟩ := (⟨by decide, by decide⟩ : Rg 6 6 6); omega) (by obtain ⟨_, _⟩ := r73; obtain ⟨_, _⟩ := (⟨by decide, by decide⟩ : Rg 6 6 6); omega)
          have s77l : (6 : Int32).toInt = 6 := rfl
          refine lv_aload_n hx hb d_X11_keep_121 rfl (lv_at hl 0 rfl) ?_
          refine r_getr (r := 414) X hw FL_X11_43 (rfl : KD 400 = _) rfl d_X11_keep_122 ?_
          refine lv_iload_n hx hb d_X11_keep_125 rfl (lv_at hl 1 rfl) ?_
          refine r_iald X hw (rfl : KD 414 = _) (Rg.vp (b := 19) r7 (by decide)) rfl d_X11_keep_126 ?_
          refine lv_topi (fun x78 ex78 => ?_)
          have hG := bnd_use ex78 hG
          refine r_iast X hw hS (rfl : KD 447 = _) (Rg.vp (b := 177) (rg_w r76 (by decide) (by decide)) (by decide)) rfl d_X11_keep_127 (fun H locs hw hS => ?_)
          obtain ⟨v79, ev79⟩ : ∃ z, z = up2 v68 447 x75.toNatClampNeg x78 := ⟨_, rfl⟩
          rw [← ev79] at hw
          have hG := bnd_use ev79 hG
          have hI80 : Inv v79 := by rw [ev79]; exact Inv.put0 hI69 _ rfl
          have hK81 : Kp kp_X11_keep_400 v v79 := by rw [ev79]; exact Kp.put hK70 _ (by unfold kp_X11_keep_400; omega)
          have hm82 : v79 400 1 = x1 := by rw [ev79, up2_n _ _ (by omega)]; exact hm71
          refine lv_aload_n hx hb d_X11_keep_128 rfl (lv_at hl 0 rfl) ?_
          refine r_getr (r := 447) X hw FL_X11_121 (rfl : KD 400 = _) rfl d_X11_keep_129 ?_
          refine lv_bipush (v := 9) hx hb d_X11_keep_132 (by decide) ?_
          refine lv_iload_n hx hb d_X11_keep_134 rfl (lv_at hl 1 rfl) ?_
          refine lv_imul hx hb d_X11_keep_135 ?_
          refine lv_topi (fun x83 ex83 => ?_)
          have hG := bnd_use ex83 hG
          have r84 : Rg x83 0 171 := rg_mulc ex83 (⟨by decide, by decide⟩ : Rg 9 9 9) r7 (by decide) (by decide) (by decide)
          have s85 : x83.toInt = 9 * y1.toInt := rg_mule ex83 r7 rfl (by decide) (by decide)
          refine lv_bipush (v := 7) hx hb d_X11_keep_136 (by decide) ?_
          refine lv_iadd hx hb d_X11_keep_138 ?_
          refine lv_topi (fun x86 ex86 => ?_)
          have hG := bnd_use ex86 hG
          have r87 : Rg x86 7 178 := rg_add ex86 r84 (⟨by decide, by decide⟩ : Rg 7 7 7) (by decide) (by decide)
          have s88 : x86.toInt = x83.toInt + (7 : Int32).toInt := by rw [ex86]; exact i_add (by obtain ⟨_, _⟩ := r84; obtain ⟨_, _⟩ := (⟨by decide, by decide⟩ : Rg 7 7 7); omega) (by obtain ⟨_, _⟩ := r84; obtain ⟨_, _⟩ := (⟨by decide, by decide⟩ : Rg 7 7 7); omega)
          have s88l : (7 : Int32).toInt = 7 := rfl
          refine lv_aload_n hx hb d_X11_keep_139 rfl (lv_at hl 0 rfl) ?_
          refine r_getr (r := 415) X hw FL_X11_46 (rfl : KD 400 = _) rfl d_X11_keep_140 ?_
          refine lv_iload_n hx hb d_X11_keep_143 rfl (lv_at hl 1 rfl) ?_
          refine r_iald X hw (rfl : KD 415 = _) (Rg.vp (b := 19) r7 (by decide)) rfl d_X11_keep_144 ?_
          refine lv_topi (fun x89 ex89 => ?_)
          have hG := bnd_use ex89 hG
          refine r_iast X hw hS (rfl : KD 447 = _) (Rg.vp (b := 178) (rg_w r87 (by decide) (by decide)) (by decide)) rfl d_X11_keep_145 (fun H locs hw hS => ?_)
          obtain ⟨v90, ev90⟩ : ∃ z, z = up2 v79 447 x86.toNatClampNeg x89 := ⟨_, rfl⟩
          rw [← ev90] at hw
          have hG := bnd_use ev90 hG
          have hI91 : Inv v90 := by rw [ev90]; exact Inv.put0 hI80 _ rfl
          have hK92 : Kp kp_X11_keep_400 v v90 := by rw [ev90]; exact Kp.put hK81 _ (by unfold kp_X11_keep_400; omega)
          have hm93 : v90 400 1 = x1 := by rw [ev90, up2_n _ _ (by omega)]; exact hm82
          obtain ⟨x94, ex94⟩ : ∃ y : Int32, y = y1 + 1 := ⟨_, rfl⟩
          have hG := bnd_use ex94 hG
          refine lv_iinc (v := x94) (lv' := [(1, .int x94), (0, .ref (ad 400))]) hx hb d_X11_keep_146 hl (k := 1) rfl (by rw [ex94]; rfl) (by decide) rfl (fun ls hl => ?_)
          have r95 : Rg x94 1 20 := rg_add ex94 r7 (⟨by decide, by decide⟩ : Rg 1 1 1) (by decide) (by decide)
          have s96 : x94.toInt = y1.toInt + (1 : Int32).toInt := by rw [ex94]; exact i_add (by obtain ⟨_, _⟩ := r7; obtain ⟨_, _⟩ := (⟨by decide, by decide⟩ : Rg 1 1 1); omega) (by obtain ⟨_, _⟩ := r7; obtain ⟨_, _⟩ := (⟨by decide, by decide⟩ : Rg 1 1 1); omega)
          have s96l : (1 : Int32).toInt = 1 := rfl
          refine lv_goto (tgt := 2) hx hb d_X11_keep_149 (by decide) ?_
          exact ih0 x94 v90 _ _ _ (by have := s11; have := s19; have := s22; have := s30; have := s33; have := s41; have := s44; have := s52; have := s55; have := s63; have := s66; have := s74; have := s77; have := s85; have := s88; have := s96; obtain ⟨_, _⟩ := r95; omega) (rg_w r95 (by decide) (by decide)) hI91 hK92 hG hw hS (lv_sub hl [1, 0] rfl)
      · intro y1 v1 H locs ls hmu r_y1 hI1 hK1 hG hw hS hl
        have hG : b_X11_keep_400_154  (g_X11_keep_400_154  n) (g_X11_keep_400_225  n) y1 v1 = RR := hG
        unfold b_X11_keep_400_154 at hG
        refine lv_iload_n hx hb d_X11_keep_154 rfl (lv_at hl 1 rfl) ?_
        refine lv_bipush (v := 6) hx hb d_X11_keep_155 (by decide) ?_
        refine lv_icmp_ge (tgt := 223) hx hb d_X11_keep_157 (by decide) (fun c97 => ?_) (fun c97 => ?_)
        · have f98 := i_le c97
          have r99 : Rg y1 6 6 := by obtain ⟨a1, a2⟩ := r_y1; obtain ⟨b1, b2⟩ := (⟨by decide, by decide⟩ : Rg 6 6 6); have f := i_le c97; exact ⟨by omega, by omega⟩
          have hG := g_pos c97 hG
          refine lv_iconst (v := 0) hx hb d_X11_keep_223 (by decide) ?_
          refine lv_istore_n (lv' := [(1, .int 0), (0, .ref (ad 400))]) hx hb d_X11_keep_224 rfl hl (by decide) rfl (fun ls hl => ?_)
          exact ih2 0 v1 _ _ _ (by obtain ⟨_, _⟩ := (⟨by decide, by decide⟩ : Rg 0 0 0); omega) (rg_w (⟨by decide, by decide⟩ : Rg 0 0 0) (by decide) (by decide)) hI1 hK1 hG hw hS (lv_sub hl [1, 0] rfl)
        · have f100 := i_nle c97
          have r101 : Rg y1 0 5 := by obtain ⟨a1, a2⟩ := r_y1; obtain ⟨b1, b2⟩ := (⟨by decide, by decide⟩ : Rg 6 6 6); have f := i_nle c97; exact ⟨by omega, by omega⟩
          have hG := g_neg c97 hG
          refine lv_aload_n hx hb d_X11_keep_160 rfl (lv_at hl 0 rfl) ?_
          refine r_getr (r := 448) X hw FL_X11_124 (rfl : KD 400 = _) rfl d_X11_keep_161 ?_
          refine lv_iload_n hx hb d_X11_keep_164 rfl (lv_at hl 1 rfl) ?_
          refine lv_aload_n hx hb d_X11_keep_165 rfl (lv_at hl 0 rfl) ?_
          refine r_getr (r := 421) X hw FL_X11_61 (rfl : KD 400 = _) rfl d_X11_keep_166 ?_
          refine lv_iload_n hx hb d_X11_keep_169 rfl (lv_at hl 1 rfl) ?_
          refine r_iald X hw (rfl : KD 421 = _) (Rg.vp (b := 5) r101 (by decide)) rfl d_X11_keep_170 ?_
          refine lv_topi (fun x102 ex102 => ?_)
          have hG := bnd_use ex102 hG
          refine r_iast X hw hS (rfl : KD 448 = _) (Rg.vp (b := 5) r101 (by decide)) rfl d_X11_keep_171 (fun H locs hw hS => ?_)
          obtain ⟨v103, ev103⟩ : ∃ z, z = up2 v1 448 y1.toNatClampNeg x102 := ⟨_, rfl⟩
          rw [← ev103] at hw
          have hG := bnd_use ev103 hG
          have hI104 : Inv v103 := by rw [ev103]; exact Inv.put0 hI1 _ (RG_kr (by have := Rg.nat (b := 5) r101; omega))
          have hK105 : Kp kp_X11_keep_400 v v103 := by rw [ev103]; exact Kp.put hK1 _ (by unfold kp_X11_keep_400; omega)
          refine lv_aload_n hx hb d_X11_keep_172 rfl (lv_at hl 0 rfl) ?_
          refine r_getr (r := 448) X hw FL_X11_124 (rfl : KD 400 = _) rfl d_X11_keep_173 ?_
          refine lv_bipush (v := 6) hx hb d_X11_keep_176 (by decide) ?_
          refine lv_iload_n hx hb d_X11_keep_178 rfl (lv_at hl 1 rfl) ?_
          refine lv_iadd hx hb d_X11_keep_179 ?_
          refine lv_topi (fun x106 ex106 => ?_)
          have hG := bnd_use ex106 hG
          have r107 : Rg x106 6 11 := rg_add ex106 (⟨by decide, by decide⟩ : Rg 6 6 6) r101 (by decide) (by decide)
          have s108 : x106.toInt = (6 : Int32).toInt + (y1 : Int32).toInt := by rw [ex106]; exact i_add (by obtain ⟨_, _⟩ := (⟨by decide, by decide⟩ : Rg 6 6 6); obtain ⟨_, _⟩ := r101; omega) (by obtain ⟨_, _⟩ := (⟨by decide, by decide⟩ : Rg 6 6 6); obtain ⟨_, _⟩ := r101; omega)
          have s108a : (6 : Int32).toInt = 6 := rfl
          refine lv_aload_n hx hb d_X11_keep_180 rfl (lv_at hl 0 rfl) ?_
          refine r_getr (r := 422) X hw FL_X11_64 (rfl : KD 400 = _) rfl d_X11_keep_181 ?_
          refine lv_iload_n hx hb d_X11_keep_184 rfl (lv_at hl 1 rfl) ?_
          refine r_iald X hw (rfl : KD 422 = _) (Rg.vp (b := 5) r101 (by decide)) rfl d_X11_keep_185 ?_
          refine lv_topi (fun x109 ex109 => ?_)
          have hG := bnd_use ex109 hG
          refine r_iast X hw hS (rfl : KD 448 = _) (Rg.vp (b := 11) (rg_w r107 (by decide) (by decide)) (by decide)) rfl d_X11_keep_186 (fun H locs hw hS => ?_)
          obtain ⟨v110, ev110⟩ : ∃ z, z = up2 v103 448 x106.toNatClampNeg x109 := ⟨_, rfl⟩
          rw [← ev110] at hw
          have hG := bnd_use ev110 hG
          have hI111 : Inv v110 := by rw [ev110]; exact Inv.put0 hI104 _ (RG_kr (by have := Rg.nat (b := 11) (rg_w r107 (by decide) (by decide)); omega))
          have hK112 : Kp kp_X11_keep_400 v v110 := by rw [ev110]; exact Kp.put hK105 _ (by unfold kp_X11_keep_400; omega)
          refine lv_aload_n hx hb d_X11_keep_187 rfl (lv_at hl 0 rfl) ?_
          refine r_getr (r := 448) X hw FL_X11_124 (rfl : KD 400 = _) rfl d_X11_keep_188 ?_
          refine lv_bipush (v := 12) hx hb d_X11_keep_191 (by decide) ?_
          refine lv_iload_n hx hb d_X11_keep_193 rfl (lv_at hl 1 rfl) ?_
          refine lv_iadd hx hb d_X11_keep_194 ?_
          refine lv_topi (fun x113 ex113 => ?_)
          have hG := bnd_use ex113 hG
          have r114 : Rg x113 12 17 := rg_add ex113 (⟨by decide, by decide⟩ : Rg 12 12 12) r101 (by decide) (by decide)
          have s115 : x113.toInt = (12 : Int32).toInt + (y1 : Int32).toInt := by rw [ex113]; exact i_add (by obtain ⟨_, _⟩ := (⟨by decide, by decide⟩ : Rg 12 12 12); obtain ⟨_, _⟩ := r101; omega) (by obtain ⟨_, _⟩ := (⟨by decide, by decide⟩ : Rg 12 12 12); obtain ⟨_, _⟩ := r101; omega)
          have s115a : (12 : Int32).toInt = 12 := rfl
          refine lv_aload_n hx hb d_X11_keep_195 rfl (lv_at hl 0 rfl) ?_
          refine r_getr (r := 423) X hw FL_X11_67 (rfl : KD 400 = _) rfl d_X11_keep_196 ?_
          refine lv_iload_n hx hb d_X11_keep_199 rfl (lv_at hl 1 rfl) ?_
          refine r_iald X hw (rfl : KD 423 = _) (Rg.vp (b := 5) r101 (by decide)) rfl d_X11_keep_200 ?_
          refine lv_topi (fun x116 ex116 => ?_)
          have hG := bnd_use ex116 hG
          refine r_iast X hw hS (rfl : KD 448 = _) (Rg.vp (b := 17) (rg_w r114 (by decide) (by decide)) (by decide)) rfl d_X11_keep_201 (fun H locs hw hS => ?_)
          obtain ⟨v117, ev117⟩ : ∃ z, z = up2 v110 448 x113.toNatClampNeg x116 := ⟨_, rfl⟩
          rw [← ev117] at hw
          have hG := bnd_use ev117 hG
          have hI118 : Inv v117 := by rw [ev117]; exact Inv.put0 hI111 _ (RG_kr (by have := Rg.nat (b := 17) (rg_w r114 (by decide) (by decide)); omega))
          have hK119 : Kp kp_X11_keep_400 v v117 := by rw [ev117]; exact Kp.put hK112 _ (by unfold kp_X11_keep_400; omega)
          refine lv_aload_n hx hb d_X11_keep_202 rfl (lv_at hl 0 rfl) ?_
          refine r_getr (r := 448) X hw FL_X11_124 (rfl : KD 400 = _) rfl d_X11_keep_203 ?_
          refine lv_bipush (v := 18) hx hb d_X11_keep_206 (by decide) ?_
          refine lv_iload_n hx hb d_X11_keep_208 rfl (lv_at hl 1 rfl) ?_
          refine lv_iadd hx hb d_X11_keep_209 ?_
          refine lv_topi (fun x120 ex120 => ?_)
          have hG := bnd_use ex120 hG
          have r121 : Rg x120 18 23 := rg_add ex120 (⟨by decide, by decide⟩ : Rg 18 18 18) r101 (by decide) (by decide)
          have s122 : x120.toInt = (18 : Int32).toInt + (y1 : Int32).toInt := by rw [ex120]; exact i_add (by obtain ⟨_, _⟩ := (⟨by decide, by decide⟩ : Rg 18 18 18); obtain ⟨_, _⟩ := r101; omega) (by obtain ⟨_, _⟩ := (⟨by decide, by decide⟩ : Rg 18 18 18); obtain ⟨_, _⟩ := r101; omega)
          have s122a : (18 : Int32).toInt = 18 := rfl
          refine lv_aload_n hx hb d_X11_keep_210 rfl (lv_at hl 0 rfl) ?_
          refine r_getr (r := 424) X hw FL_X11_70 (rfl : KD 400 = _) rfl d_X11_keep_211 ?_
          refine lv_iload_n hx hb d_X11_keep_214 rfl (lv_at hl 1 rfl) ?_
          refine r_iald X hw (rfl : KD 424 = _) (Rg.vp (b := 5) r101 (by decide)) rfl d_X11_keep_215 ?_
          refine lv_topi (fun x123 ex123 => ?_)
          have hG := bnd_use ex123 hG
          refine r_iast X hw hS (rfl : KD 448 = _) (Rg.vp (b := 23) (rg_w r121 (by decide) (by decide)) (by decide)) rfl d_X11_keep_216 (fun H locs hw hS => ?_)
          obtain ⟨v124, ev124⟩ : ∃ z, z = up2 v117 448 x120.toNatClampNeg x123 := ⟨_, rfl⟩
          rw [← ev124] at hw
          have hG := bnd_use ev124 hG
          have hI125 : Inv v124 := by rw [ev124]; exact Inv.put0 hI118 _ (RG_kr (by have := Rg.nat (b := 23) (rg_w r121 (by decide) (by decide)); omega))
          have hK126 : Kp kp_X11_keep_400 v v124 := by rw [ev124]; exact Kp.put hK119 _ (by unfold kp_X11_keep_400; omega)
          obtain ⟨x127, ex127⟩ : ∃ y : Int32, y = y1 + 1 := ⟨_, rfl⟩
          have hG := bnd_use ex127 hG
          refine lv_iinc (v := x127) (lv' := [(1, .int x127), (0, .ref (ad 400))]) hx hb d_X11_keep_217 hl (k := 1) rfl (by rw [ex127]; rfl) (by decide) rfl (fun ls hl => ?_)
          have r128 : Rg x127 1 6 := rg_add ex127 r101 (⟨by decide, by decide⟩ : Rg 1 1 1) (by decide) (by decide)
          have s129 : x127.toInt = y1.toInt + (1 : Int32).toInt := by rw [ex127]; exact i_add (by obtain ⟨_, _⟩ := r101; obtain ⟨_, _⟩ := (⟨by decide, by decide⟩ : Rg 1 1 1); omega) (by obtain ⟨_, _⟩ := r101; obtain ⟨_, _⟩ := (⟨by decide, by decide⟩ : Rg 1 1 1); omega)
          have s129l : (1 : Int32).toInt = 1 := rfl
          refine lv_goto (tgt := 154) hx hb d_X11_keep_220 (by decide) ?_
          exact ih1 x127 v124 _ _ _ (by have := s108; have := s115; have := s122; have := s129; obtain ⟨_, _⟩ := r128; omega) (rg_w r128 (by decide) (by decide)) hI125 hK126 hG hw hS (lv_sub hl [1, 0] rfl)
      · intro y1 v1 H locs ls hmu r_y1 hI1 hK1 hG hw hS hl
        have hG : b_X11_keep_400_225  (g_X11_keep_400_225  n) (g_X11_keep_400_311  n) y1 v1 = RR := hG
        unfold b_X11_keep_400_225 at hG
        refine lv_iload_n hx hb d_X11_keep_225 rfl (lv_at hl 1 rfl) ?_
        refine lv_aload_n hx hb d_X11_keep_226 rfl (lv_at hl 0 rfl) ?_
        refine r_geti X hw FL_X11_173 (rfl : KD 400 = _) rfl d_X11_keep_227 ?_
        refine lv_topi (fun x130 ex130 => ?_)
        have hG := bnd_use ex130 hG
        have r131 : Rg x130 0 10 := by rw [ex130]; exact hI1 _ _ _ _ rfl
        have hm132 : v1 400 15 = x130 := ex130.symm
        refine lv_icmp_ge (tgt := 254) hx hb d_X11_keep_230 (by decide) (fun c133 => ?_) (fun c133 => ?_)
        · have f134 := i_le c133
          have hG := g_pos c133 hG
          refine lv_aload_n hx hb d_X11_keep_254 rfl (lv_at hl 0 rfl) ?_
          refine r_getr (r := 448) X hw FL_X11_124 (rfl : KD 400 = _) rfl d_X11_keep_255 ?_
          refine lv_bipush (v := 34) hx hb d_X11_keep_258 (by decide) ?_
          refine lv_aload_n hx hb d_X11_keep_260 rfl (lv_at hl 0 rfl) ?_
          refine r_geti X hw FL_X11_227 (rfl : KD 400 = _) rfl d_X11_keep_261 ?_
          refine lv_topi (fun x135 ex135 => ?_)
          have hG := bnd_use ex135 hG
          refine r_iast X hw hS (rfl : KD 448 = _) (Rg.vp (b := 34) (rg_w (⟨by decide, by decide⟩ : Rg 34 34 34) (by decide) (by decide)) (by decide)) rfl d_X11_keep_264 (fun H locs hw hS => ?_)
          obtain ⟨v136, ev136⟩ : ∃ z, z = up2 v1 448 (34 : Int32).toNatClampNeg x135 := ⟨_, rfl⟩
          rw [← ev136] at hw
          have hG := bnd_use ev136 hG
          have hI137 : Inv v136 := by rw [ev136]; exact Inv.put0 hI1 _ rfl
          have hK138 : Kp kp_X11_keep_400 v v136 := by rw [ev136]; exact Kp.put hK1 _ (by unfold kp_X11_keep_400; omega)
          have hm139 : v136 400 15 = x130 := by rw [ev136, up2_n _ _ (by omega)]; exact hm132
          refine lv_aload_n hx hb d_X11_keep_265 rfl (lv_at hl 0 rfl) ?_
          refine r_getr (r := 448) X hw FL_X11_124 (rfl : KD 400 = _) rfl d_X11_keep_266 ?_
          refine lv_bipush (v := 35) hx hb d_X11_keep_269 (by decide) ?_
          refine lv_aload_n hx hb d_X11_keep_271 rfl (lv_at hl 0 rfl) ?_
          refine r_geti X hw FL_X11_76 (rfl : KD 400 = _) rfl d_X11_keep_272 ?_
          refine lv_topi (fun x140 ex140 => ?_)
          have hG := bnd_use ex140 hG
          refine r_iast X hw hS (rfl : KD 448 = _) (Rg.vp (b := 35) (rg_w (⟨by decide, by decide⟩ : Rg 35 35 35) (by decide) (by decide)) (by decide)) rfl d_X11_keep_275 (fun H locs hw hS => ?_)
          obtain ⟨v141, ev141⟩ : ∃ z, z = up2 v136 448 (35 : Int32).toNatClampNeg x140 := ⟨_, rfl⟩
          rw [← ev141] at hw
          have hG := bnd_use ev141 hG
          have hI142 : Inv v141 := by rw [ev141]; exact Inv.put0 hI137 _ rfl
          have hK143 : Kp kp_X11_keep_400 v v141 := by rw [ev141]; exact Kp.put hK138 _ (by unfold kp_X11_keep_400; omega)
          have hm144 : v141 400 15 = x130 := by rw [ev141, up2_n _ _ (by omega)]; exact hm139
          refine lv_aload_n hx hb d_X11_keep_276 rfl (lv_at hl 0 rfl) ?_
          refine r_getr (r := 448) X hw FL_X11_124 (rfl : KD 400 = _) rfl d_X11_keep_277 ?_
          refine lv_bipush (v := 36) hx hb d_X11_keep_280 (by decide) ?_
          refine lv_aload_n hx hb d_X11_keep_282 rfl (lv_at hl 0 rfl) ?_
          refine r_geti X hw FL_X11_243 (rfl : KD 400 = _) rfl d_X11_keep_283 ?_
          refine lv_topi (fun x145 ex145 => ?_)
          have hG := bnd_use ex145 hG
          have r146 : Rg x145 0 200 := by rw [ex145]; exact hI142 _ _ _ _ rfl
          have hm147 : v141 400 27 = x145 := ex145.symm
          refine r_iast X hw hS (rfl : KD 448 = _) (Rg.vp (b := 36) (rg_w (⟨by decide, by decide⟩ : Rg 36 36 36) (by decide) (by decide)) (by decide)) rfl d_X11_keep_286 (fun H locs hw hS => ?_)
          obtain ⟨v148, ev148⟩ : ∃ z, z = up2 v141 448 (36 : Int32).toNatClampNeg x145 := ⟨_, rfl⟩
          rw [← ev148] at hw
          have hG := bnd_use ev148 hG
          have hI149 : Inv v148 := by rw [ev148]; exact Inv.putr hI142 rfl r146
          have hK150 : Kp kp_X11_keep_400 v v148 := by rw [ev148]; exact Kp.put hK143 _ (by unfold kp_X11_keep_400; omega)
          have hm151 : v148 400 15 = x130 := by rw [ev148, up2_n _ _ (by omega)]; exact hm144
          have hm152 : v148 400 27 = x145 := by rw [ev148, up2_n _ _ (by omega)]; exact hm147
          refine lv_aload_n hx hb d_X11_keep_287 rfl (lv_at hl 0 rfl) ?_
          refine r_getr (r := 448) X hw FL_X11_124 (rfl : KD 400 = _) rfl d_X11_keep_288 ?_
          refine lv_bipush (v := 37) hx hb d_X11_keep_291 (by decide) ?_
          refine lv_aload_n hx hb d_X11_keep_293 rfl (lv_at hl 0 rfl) ?_
          refine r_geti X hw FL_X11_246 (rfl : KD 400 = _) rfl d_X11_keep_294 ?_
          refine lv_topi (fun x153 ex153 => ?_)
          have hG := bnd_use ex153 hG
          refine r_iast X hw hS (rfl : KD 448 = _) (Rg.vp (b := 37) (rg_w (⟨by decide, by decide⟩ : Rg 37 37 37) (by decide) (by decide)) (by decide)) rfl d_X11_keep_297 (fun H locs hw hS => ?_)
          obtain ⟨v154, ev154⟩ : ∃ z, z = up2 v148 448 (37 : Int32).toNatClampNeg x153 := ⟨_, rfl⟩
          rw [← ev154] at hw
          have hG := bnd_use ev154 hG
          have hI155 : Inv v154 := by rw [ev154]; exact Inv.put0 hI149 _ rfl
          have hK156 : Kp kp_X11_keep_400 v v154 := by rw [ev154]; exact Kp.put hK150 _ (by unfold kp_X11_keep_400; omega)
          have hm157 : v154 400 15 = x130 := by rw [ev154, up2_n _ _ (by omega)]; exact hm151
          have hm158 : v154 400 27 = x145 := by rw [ev154, up2_n _ _ (by omega)]; exact hm152
          refine lv_aload_n hx hb d_X11_keep_298 rfl (lv_at hl 0 rfl) ?_
          refine r_getr (r := 448) X hw FL_X11_124 (rfl : KD 400 = _) rfl d_X11_keep_299 ?_
          refine lv_bipush (v := 38) hx hb d_X11_keep_302 (by decide) ?_
          refine lv_aload_n hx hb d_X11_keep_304 rfl (lv_at hl 0 rfl) ?_
          refine r_geti X hw FL_X11_249 (rfl : KD 400 = _) rfl d_X11_keep_305 ?_
          refine lv_topi (fun x159 ex159 => ?_)
          have hG := bnd_use ex159 hG
          refine r_iast X hw hS (rfl : KD 448 = _) (Rg.vp (b := 38) (rg_w (⟨by decide, by decide⟩ : Rg 38 38 38) (by decide) (by decide)) (by decide)) rfl d_X11_keep_308 (fun H locs hw hS => ?_)
          obtain ⟨v160, ev160⟩ : ∃ z, z = up2 v154 448 (38 : Int32).toNatClampNeg x159 := ⟨_, rfl⟩
          rw [← ev160] at hw
          have hG := bnd_use ev160 hG
          have hI161 : Inv v160 := by rw [ev160]; exact Inv.put0 hI155 _ rfl
          have hK162 : Kp kp_X11_keep_400 v v160 := by rw [ev160]; exact Kp.put hK156 _ (by unfold kp_X11_keep_400; omega)
          have hm163 : v160 400 15 = x130 := by rw [ev160, up2_n _ _ (by omega)]; exact hm157
          have hm164 : v160 400 27 = x145 := by rw [ev160, up2_n _ _ (by omega)]; exact hm158
          refine lv_iconst (v := 0) hx hb d_X11_keep_309 (by decide) ?_
          refine lv_istore_n (lv' := [(1, .int 0), (0, .ref (ad 400))]) hx hb d_X11_keep_310 rfl hl (by decide) rfl (fun ls hl => ?_)
          exact ih3 0 v160 _ _ _ (by obtain ⟨_, _⟩ := (⟨by decide, by decide⟩ : Rg 0 0 0); omega) (rg_w (⟨by decide, by decide⟩ : Rg 0 0 0) (by decide) (by decide)) hI161 hK162 hG hw hS (lv_sub hl [1, 0] rfl)
        · have f165 := i_nle c133
          have r166 : Rg y1 0 9 := by obtain ⟨a1, a2⟩ := r_y1; obtain ⟨b1, b2⟩ := r131; have f := i_nle c133; exact ⟨by omega, by omega⟩
          have r167 : Rg x130 1 10 := by obtain ⟨a1, a2⟩ := r_y1; obtain ⟨b1, b2⟩ := r131; have f := i_nle c133; exact ⟨by omega, by omega⟩
          have hG := g_neg c133 hG
          refine lv_aload_n hx hb d_X11_keep_233 rfl (lv_at hl 0 rfl) ?_
          refine r_getr (r := 448) X hw FL_X11_124 (rfl : KD 400 = _) rfl d_X11_keep_234 ?_
          refine lv_bipush (v := 24) hx hb d_X11_keep_237 (by decide) ?_
          refine lv_iload_n hx hb d_X11_keep_239 rfl (lv_at hl 1 rfl) ?_
          refine lv_iadd hx hb d_X11_keep_240 ?_
          refine lv_topi (fun x168 ex168 => ?_)
          have hG := bnd_use ex168 hG
          have r169 : Rg x168 24 33 := rg_add ex168 (⟨by decide, by decide⟩ : Rg 24 24 24) r166 (by decide) (by decide)
          have s170 : x168.toInt = (24 : Int32).toInt + (y1 : Int32).toInt := by rw [ex168]; exact i_add (by obtain ⟨_, _⟩ := (⟨by decide, by decide⟩ : Rg 24 24 24); obtain ⟨_, _⟩ := r166; omega) (by obtain ⟨_, _⟩ := (⟨by decide, by decide⟩ : Rg 24 24 24); obtain ⟨_, _⟩ := r166; omega)
          have s170a : (24 : Int32).toInt = 24 := rfl
          refine lv_aload_n hx hb d_X11_keep_241 rfl (lv_at hl 0 rfl) ?_
          refine r_getr (r := 419) X hw FL_X11_55 (rfl : KD 400 = _) rfl d_X11_keep_242 ?_
          refine lv_iload_n hx hb d_X11_keep_245 rfl (lv_at hl 1 rfl) ?_
          refine r_iald X hw (rfl : KD 419 = _) (Rg.vp (b := 9) r166 (by decide)) rfl d_X11_keep_246 ?_
          refine lv_topi (fun x171 ex171 => ?_)
          have hG := bnd_use ex171 hG
          refine r_iast X hw hS (rfl : KD 448 = _) (Rg.vp (b := 33) (rg_w r169 (by decide) (by decide)) (by decide)) rfl d_X11_keep_247 (fun H locs hw hS => ?_)
          obtain ⟨v172, ev172⟩ : ∃ z, z = up2 v1 448 x168.toNatClampNeg x171 := ⟨_, rfl⟩
          rw [← ev172] at hw
          have hG := bnd_use ev172 hG
          have hI173 : Inv v172 := by rw [ev172]; exact Inv.put0 hI1 _ (RG_kr (by have := Rg.nat (b := 33) (rg_w r169 (by decide) (by decide)); omega))
          have hK174 : Kp kp_X11_keep_400 v v172 := by rw [ev172]; exact Kp.put hK1 _ (by unfold kp_X11_keep_400; omega)
          have hm175 : v172 400 15 = x130 := by rw [ev172, up2_n _ _ (by omega)]; exact hm132
          obtain ⟨x176, ex176⟩ : ∃ y : Int32, y = y1 + 1 := ⟨_, rfl⟩
          have hG := bnd_use ex176 hG
          refine lv_iinc (v := x176) (lv' := [(1, .int x176), (0, .ref (ad 400))]) hx hb d_X11_keep_248 hl (k := 1) rfl (by rw [ex176]; rfl) (by decide) rfl (fun ls hl => ?_)
          have r177 : Rg x176 1 10 := rg_add ex176 r166 (⟨by decide, by decide⟩ : Rg 1 1 1) (by decide) (by decide)
          have s178 : x176.toInt = y1.toInt + (1 : Int32).toInt := by rw [ex176]; exact i_add (by obtain ⟨_, _⟩ := r166; obtain ⟨_, _⟩ := (⟨by decide, by decide⟩ : Rg 1 1 1); omega) (by obtain ⟨_, _⟩ := r166; obtain ⟨_, _⟩ := (⟨by decide, by decide⟩ : Rg 1 1 1); omega)
          have s178l : (1 : Int32).toInt = 1 := rfl
          refine lv_goto (tgt := 225) hx hb d_X11_keep_251 (by decide) ?_
          exact ih2 x176 v172 _ _ _ (by have := s170; have := s178; obtain ⟨_, _⟩ := r177; omega) (rg_w r177 (by decide) (by decide)) hI173 hK174 hG hw hS (lv_sub hl [1, 0] rfl)
      · intro y1 v1 H locs ls hmu r_y1 hI1 hK1 hG hw hS hl
        have hG : b_X11_keep_400_311  (g_X11_keep_400_311  n) y1 v1 = RR := hG
        unfold b_X11_keep_400_311 at hG
        refine lv_iload_n hx hb d_X11_keep_311 rfl (lv_at hl 1 rfl) ?_
        refine lv_aload_n hx hb d_X11_keep_312 rfl (lv_at hl 0 rfl) ?_
        refine r_geti X hw FL_X11_243 (rfl : KD 400 = _) rfl d_X11_keep_313 ?_
        refine lv_topi (fun x179 ex179 => ?_)
        have hG := bnd_use ex179 hG
        have r180 : Rg x179 0 200 := by rw [ex179]; exact hI1 _ _ _ _ rfl
        have hm181 : v1 400 27 = x179 := ex179.symm
        refine lv_icmp_ge (tgt := 387) hx hb d_X11_keep_316 (by decide) (fun c182 => ?_) (fun c182 => ?_)
        · have f183 := i_le c182
          have hG := g_pos c182 hG
          exact r_vret X hr hlocks hw hS ⟨⟨hI1, hK1⟩, hG.trans eRR.symm⟩ d_X11_keep_387
        · have f184 := i_nle c182
          have r185 : Rg y1 0 199 := by obtain ⟨a1, a2⟩ := r_y1; obtain ⟨b1, b2⟩ := r180; have f := i_nle c182; exact ⟨by omega, by omega⟩
          have r186 : Rg x179 1 200 := by obtain ⟨a1, a2⟩ := r_y1; obtain ⟨b1, b2⟩ := r180; have f := i_nle c182; exact ⟨by omega, by omega⟩
          have hG := g_neg c182 hG
          refine lv_aload_n hx hb d_X11_keep_319 rfl (lv_at hl 0 rfl) ?_
          refine r_getr (r := 449) X hw FL_X11_127 (rfl : KD 400 = _) rfl d_X11_keep_320 ?_
          refine lv_iconst (v := 4) hx hb d_X11_keep_323 (by decide) ?_
          refine lv_iload_n hx hb d_X11_keep_324 rfl (lv_at hl 1 rfl) ?_
          refine lv_imul hx hb d_X11_keep_325 ?_
          refine lv_topi (fun x187 ex187 => ?_)
          have hG := bnd_use ex187 hG
          have r188 : Rg x187 0 796 := rg_mulc ex187 (⟨by decide, by decide⟩ : Rg 4 4 4) r185 (by decide) (by decide) (by decide)
          have s189 : x187.toInt = 4 * y1.toInt := rg_mule ex187 r185 rfl (by decide) (by decide)
          refine lv_aload_n hx hb d_X11_keep_326 rfl (lv_at hl 0 rfl) ?_
          refine r_getr (r := 429) X hw FL_X11_80 (rfl : KD 400 = _) rfl d_X11_keep_327 ?_
          refine lv_iload_n hx hb d_X11_keep_330 rfl (lv_at hl 1 rfl) ?_
          refine r_iald X hw (rfl : KD 429 = _) (Rg.vp (b := 199) r185 (by decide)) rfl d_X11_keep_331 ?_
          refine lv_topi (fun x190 ex190 => ?_)
          have hG := bnd_use ex190 hG
          have r191 : Rg x190 0 19 := by rw [ex190]; exact hI1 _ _ _ _ rfl
          refine r_iast X hw hS (rfl : KD 449 = _) (Rg.vp (b := 796) r188 (by decide)) rfl d_X11_keep_332 (fun H locs hw hS => ?_)
          obtain ⟨v192, ev192⟩ : ∃ z, z = up2 v1 449 x187.toNatClampNeg x190 := ⟨_, rfl⟩
          rw [← ev192] at hw
          have hG := bnd_use ev192 hG
          have hI193 : Inv v192 := by rw [ev192]; exact Inv.putr hI1 (RG_kb0 (by have := Rg.clamp (b := 796) r188; omega)) r191
          have hK194 : Kp kp_X11_keep_400 v v192 := by rw [ev192]; exact Kp.put hK1 _ (by unfold kp_X11_keep_400; omega)
          have hm195 : v192 400 27 = x179 := by rw [ev192, up2_n _ _ (by omega)]; exact hm181
          refine lv_aload_n hx hb d_X11_keep_333 rfl (lv_at hl 0 rfl) ?_
          refine r_getr (r := 449) X hw FL_X11_127 (rfl : KD 400 = _) rfl d_X11_keep_334 ?_
          refine lv_iconst (v := 4) hx hb d_X11_keep_337 (by decide) ?_
          refine lv_iload_n hx hb d_X11_keep_338 rfl (lv_at hl 1 rfl) ?_
          refine lv_imul hx hb d_X11_keep_339 ?_
          refine lv_topi (fun x196 ex196 => ?_)
          have hG := bnd_use ex196 hG
          have r197 : Rg x196 0 796 := rg_mulc ex196 (⟨by decide, by decide⟩ : Rg 4 4 4) r185 (by decide) (by decide) (by decide)
          have s198 : x196.toInt = 4 * y1.toInt := rg_mule ex196 r185 rfl (by decide) (by decide)
          refine lv_iconst (v := 1) hx hb d_X11_keep_340 (by decide) ?_
          refine lv_iadd hx hb d_X11_keep_341 ?_
          refine lv_topi (fun x199 ex199 => ?_)
          have hG := bnd_use ex199 hG
          have r200 : Rg x199 1 797 := rg_add ex199 r197 (⟨by decide, by decide⟩ : Rg 1 1 1) (by decide) (by decide)
          have s201 : x199.toInt = x196.toInt + (1 : Int32).toInt := by rw [ex199]; exact i_add (by obtain ⟨_, _⟩ := r197; obtain ⟨_, _⟩ := (⟨by decide, by decide⟩ : Rg 1 1 1); omega) (by obtain ⟨_, _⟩ := r197; obtain ⟨_, _⟩ := (⟨by decide, by decide⟩ : Rg 1 1 1); omega)
          have s201l : (1 : Int32).toInt = 1 := rfl
          refine lv_aload_n hx hb d_X11_keep_342 rfl (lv_at hl 0 rfl) ?_
          refine r_getr (r := 430) X hw FL_X11_83 (rfl : KD 400 = _) rfl d_X11_keep_343 ?_
          refine lv_iload_n hx hb d_X11_keep_346 rfl (lv_at hl 1 rfl) ?_
          refine r_iald X hw (rfl : KD 430 = _) (Rg.vp (b := 199) r185 (by decide)) rfl d_X11_keep_347 ?_
          refine lv_topi (fun x202 ex202 => ?_)
          have hG := bnd_use ex202 hG
          refine r_iast X hw hS (rfl : KD 449 = _) (Rg.vp (b := 797) (rg_w r200 (by decide) (by decide)) (by decide)) rfl d_X11_keep_348 (fun H locs hw hS => ?_)
          obtain ⟨v203, ev203⟩ : ∃ z, z = up2 v192 449 x199.toNatClampNeg x202 := ⟨_, rfl⟩
          rw [← ev203] at hw
          have hG := bnd_use ev203 hG
          have hI204 : Inv v203 := by rw [ev203]; exact Inv.put0 hI193 _ (RG_kbn (by have := Rg.clamp (b := 797) (rg_w r200 (by decide) (by decide)); omega))
          have hK205 : Kp kp_X11_keep_400 v v203 := by rw [ev203]; exact Kp.put hK194 _ (by unfold kp_X11_keep_400; omega)
          have hm206 : v203 400 27 = x179 := by rw [ev203, up2_n _ _ (by omega)]; exact hm195
          refine lv_aload_n hx hb d_X11_keep_349 rfl (lv_at hl 0 rfl) ?_
          refine r_getr (r := 449) X hw FL_X11_127 (rfl : KD 400 = _) rfl d_X11_keep_350 ?_
          refine lv_iconst (v := 4) hx hb d_X11_keep_353 (by decide) ?_
          refine lv_iload_n hx hb d_X11_keep_354 rfl (lv_at hl 1 rfl) ?_
          refine lv_imul hx hb d_X11_keep_355 ?_
          refine lv_topi (fun x207 ex207 => ?_)
          have hG := bnd_use ex207 hG
          have r208 : Rg x207 0 796 := rg_mulc ex207 (⟨by decide, by decide⟩ : Rg 4 4 4) r185 (by decide) (by decide) (by decide)
          have s209 : x207.toInt = 4 * y1.toInt := rg_mule ex207 r185 rfl (by decide) (by decide)
          refine lv_iconst (v := 2) hx hb d_X11_keep_356 (by decide) ?_
          refine lv_iadd hx hb d_X11_keep_357 ?_
          refine lv_topi (fun x210 ex210 => ?_)
          have hG := bnd_use ex210 hG
          have r211 : Rg x210 2 798 := rg_add ex210 r208 (⟨by decide, by decide⟩ : Rg 2 2 2) (by decide) (by decide)
          have s212 : x210.toInt = x207.toInt + (2 : Int32).toInt := by rw [ex210]; exact i_add (by obtain ⟨_, _⟩ := r208; obtain ⟨_, _⟩ := (⟨by decide, by decide⟩ : Rg 2 2 2); omega) (by obtain ⟨_, _⟩ := r208; obtain ⟨_, _⟩ := (⟨by decide, by decide⟩ : Rg 2 2 2); omega)
          have s212l : (2 : Int32).toInt = 2 := rfl
          refine lv_aload_n hx hb d_X11_keep_358 rfl (lv_at hl 0 rfl) ?_
          refine r_getr (r := 431) X hw FL_X11_86 (rfl : KD 400 = _) rfl d_X11_keep_359 ?_
          refine lv_iload_n hx hb d_X11_keep_362 rfl (lv_at hl 1 rfl) ?_
          refine r_iald X hw (rfl : KD 431 = _) (Rg.vp (b := 199) r185 (by decide)) rfl d_X11_keep_363 ?_
          refine lv_topi (fun x213 ex213 => ?_)
          have hG := bnd_use ex213 hG
          refine r_iast X hw hS (rfl : KD 449 = _) (Rg.vp (b := 798) (rg_w r211 (by decide) (by decide)) (by decide)) rfl d_X11_keep_364 (fun H locs hw hS => ?_)
          obtain ⟨v214, ev214⟩ : ∃ z, z = up2 v203 449 x210.toNatClampNeg x213 := ⟨_, rfl⟩
          rw [← ev214] at hw
          have hG := bnd_use ev214 hG
          have hI215 : Inv v214 := by rw [ev214]; exact Inv.put0 hI204 _ (RG_kbn (by have := Rg.clamp (b := 798) (rg_w r211 (by decide) (by decide)); omega))
          have hK216 : Kp kp_X11_keep_400 v v214 := by rw [ev214]; exact Kp.put hK205 _ (by unfold kp_X11_keep_400; omega)
          have hm217 : v214 400 27 = x179 := by rw [ev214, up2_n _ _ (by omega)]; exact hm206
          refine lv_aload_n hx hb d_X11_keep_365 rfl (lv_at hl 0 rfl) ?_
          refine r_getr (r := 449) X hw FL_X11_127 (rfl : KD 400 = _) rfl d_X11_keep_366 ?_
          refine lv_iconst (v := 4) hx hb d_X11_keep_369 (by decide) ?_
          refine lv_iload_n hx hb d_X11_keep_370 rfl (lv_at hl 1 rfl) ?_
          refine lv_imul hx hb d_X11_keep_371 ?_
          refine lv_topi (fun x218 ex218 => ?_)
          have hG := bnd_use ex218 hG
          have r219 : Rg x218 0 796 := rg_mulc ex218 (⟨by decide, by decide⟩ : Rg 4 4 4) r185 (by decide) (by decide) (by decide)
          have s220 : x218.toInt = 4 * y1.toInt := rg_mule ex218 r185 rfl (by decide) (by decide)
          refine lv_iconst (v := 3) hx hb d_X11_keep_372 (by decide) ?_
          refine lv_iadd hx hb d_X11_keep_373 ?_
          refine lv_topi (fun x221 ex221 => ?_)
          have hG := bnd_use ex221 hG
          have r222 : Rg x221 3 799 := rg_add ex221 r219 (⟨by decide, by decide⟩ : Rg 3 3 3) (by decide) (by decide)
          have s223 : x221.toInt = x218.toInt + (3 : Int32).toInt := by rw [ex221]; exact i_add (by obtain ⟨_, _⟩ := r219; obtain ⟨_, _⟩ := (⟨by decide, by decide⟩ : Rg 3 3 3); omega) (by obtain ⟨_, _⟩ := r219; obtain ⟨_, _⟩ := (⟨by decide, by decide⟩ : Rg 3 3 3); omega)
          have s223l : (3 : Int32).toInt = 3 := rfl
          refine lv_aload_n hx hb d_X11_keep_374 rfl (lv_at hl 0 rfl) ?_
          refine r_getr (r := 432) X hw FL_X11_89 (rfl : KD 400 = _) rfl d_X11_keep_375 ?_
          refine lv_iload_n hx hb d_X11_keep_378 rfl (lv_at hl 1 rfl) ?_
          refine r_iald X hw (rfl : KD 432 = _) (Rg.vp (b := 199) r185 (by decide)) rfl d_X11_keep_379 ?_
          refine lv_topi (fun x224 ex224 => ?_)
          have hG := bnd_use ex224 hG
          refine r_iast X hw hS (rfl : KD 449 = _) (Rg.vp (b := 799) (rg_w r222 (by decide) (by decide)) (by decide)) rfl d_X11_keep_380 (fun H locs hw hS => ?_)
          obtain ⟨v225, ev225⟩ : ∃ z, z = up2 v214 449 x221.toNatClampNeg x224 := ⟨_, rfl⟩
          rw [← ev225] at hw
          have hG := bnd_use ev225 hG
          have hI226 : Inv v225 := by rw [ev225]; exact Inv.put0 hI215 _ (RG_kbn (by have := Rg.clamp (b := 799) (rg_w r222 (by decide) (by decide)); omega))
          have hK227 : Kp kp_X11_keep_400 v v225 := by rw [ev225]; exact Kp.put hK216 _ (by unfold kp_X11_keep_400; omega)
          have hm228 : v225 400 27 = x179 := by rw [ev225, up2_n _ _ (by omega)]; exact hm217
          obtain ⟨x229, ex229⟩ : ∃ y : Int32, y = y1 + 1 := ⟨_, rfl⟩
          have hG := bnd_use ex229 hG
          refine lv_iinc (v := x229) (lv' := [(1, .int x229), (0, .ref (ad 400))]) hx hb d_X11_keep_381 hl (k := 1) rfl (by rw [ex229]; rfl) (by decide) rfl (fun ls hl => ?_)
          have r230 : Rg x229 1 200 := rg_add ex229 r185 (⟨by decide, by decide⟩ : Rg 1 1 1) (by decide) (by decide)
          have s231 : x229.toInt = y1.toInt + (1 : Int32).toInt := by rw [ex229]; exact i_add (by obtain ⟨_, _⟩ := r185; obtain ⟨_, _⟩ := (⟨by decide, by decide⟩ : Rg 1 1 1); omega) (by obtain ⟨_, _⟩ := r185; obtain ⟨_, _⟩ := (⟨by decide, by decide⟩ : Rg 1 1 1); omega)
          have s231l : (1 : Int32).toInt = 1 := rfl
          refine lv_goto (tgt := 311) hx hb d_X11_keep_384 (by decide) ?_
          exact ih3 x229 v225 _ _ _ (by have := s189; have := s198; have := s201; have := s209; have := s212; have := s220; have := s223; have := s231; obtain ⟨_, _⟩ := r230; omega) (rg_w r230 (by decide) (by decide)) hI226 hK227 hG hw hS (lv_sub hl [1, 0] rfl)
  obtain ⟨ih0, ih1, ih2, ih3⟩ := LL 100000
  have hK0 : Kp kp_X11_keep_400 v v := Kp.rf _ v
  have hG := eRR
  unfold f_X11_keep_400 at hG
  refine lv_iconst (v := 0) hx hb d_X11_keep_0 (by decide) ?_
  refine lv_istore_n (lv' := [(1, .int 0), (0, .ref (ad 400))]) hx hb d_X11_keep_1 rfl hl (by decide) rfl (fun ls hl => ?_)
  exact ih0 0 v _ _ _ (by obtain ⟨_, _⟩ := (⟨by decide, by decide⟩ : Rg 0 0 0); omega) (rg_w (⟨by decide, by decide⟩ : Rg 0 0 0) (by decide) (by decide)) hI hK0 hG hw hS (lv_sub hl [1, 0] rfl)
theorem d_X11_putBack_0 : decode c_X11_putBack 0 = .ok (.iconst 0, 1) := by decide +kernel
theorem d_X11_putBack_1 : decode c_X11_putBack 1 = .ok (.istore_n 1, 1) := by decide +kernel
theorem d_X11_putBack_2 : decode c_X11_putBack 2 = .ok (.iload_n 1, 1) := by decide +kernel
theorem d_X11_putBack_3 : decode c_X11_putBack 3 = .ok (.aload_n 0, 1) := by decide +kernel
theorem d_X11_putBack_4 : decode c_X11_putBack 4 = .ok (.getfield 166, 3) := by decide +kernel
theorem d_X11_putBack_7 : decode c_X11_putBack 7 = .ok (.if_icmp .ge 145, 3) := by decide +kernel
theorem d_X11_putBack_10 : decode c_X11_putBack 10 = .ok (.aload_n 0, 1) := by decide +kernel
theorem d_X11_putBack_11 : decode c_X11_putBack 11 = .ok (.getfield 25, 3) := by decide +kernel
theorem d_X11_putBack_14 : decode c_X11_putBack 14 = .ok (.iload_n 1, 1) := by decide +kernel
theorem d_X11_putBack_15 : decode c_X11_putBack 15 = .ok (.aload_n 0, 1) := by decide +kernel
theorem d_X11_putBack_16 : decode c_X11_putBack 16 = .ok (.getfield 121, 3) := by decide +kernel
theorem d_X11_putBack_19 : decode c_X11_putBack 19 = .ok (.bipush 9, 2) := by decide +kernel
theorem d_X11_putBack_21 : decode c_X11_putBack 21 = .ok (.iload_n 1, 1) := by decide +kernel
theorem d_X11_putBack_22 : decode c_X11_putBack 22 = .ok (.imul, 1) := by decide +kernel
theorem d_X11_putBack_23 : decode c_X11_putBack 23 = .ok (.iaload, 1) := by decide +kernel
theorem d_X11_putBack_24 : decode c_X11_putBack 24 = .ok (.iastore, 1) := by decide +kernel
theorem d_X11_putBack_25 : decode c_X11_putBack 25 = .ok (.aload_n 0, 1) := by decide +kernel
theorem d_X11_putBack_26 : decode c_X11_putBack 26 = .ok (.getfield 28, 3) := by decide +kernel
theorem d_X11_putBack_29 : decode c_X11_putBack 29 = .ok (.iload_n 1, 1) := by decide +kernel
theorem d_X11_putBack_30 : decode c_X11_putBack 30 = .ok (.aload_n 0, 1) := by decide +kernel
theorem d_X11_putBack_31 : decode c_X11_putBack 31 = .ok (.getfield 121, 3) := by decide +kernel
theorem d_X11_putBack_34 : decode c_X11_putBack 34 = .ok (.bipush 9, 2) := by decide +kernel
theorem d_X11_putBack_36 : decode c_X11_putBack 36 = .ok (.iload_n 1, 1) := by decide +kernel
theorem d_X11_putBack_37 : decode c_X11_putBack 37 = .ok (.imul, 1) := by decide +kernel
theorem d_X11_putBack_38 : decode c_X11_putBack 38 = .ok (.iconst 1, 1) := by decide +kernel
theorem d_X11_putBack_39 : decode c_X11_putBack 39 = .ok (.iadd, 1) := by decide +kernel
theorem d_X11_putBack_40 : decode c_X11_putBack 40 = .ok (.iaload, 1) := by decide +kernel
theorem d_X11_putBack_41 : decode c_X11_putBack 41 = .ok (.iastore, 1) := by decide +kernel
theorem d_X11_putBack_42 : decode c_X11_putBack 42 = .ok (.aload_n 0, 1) := by decide +kernel
theorem d_X11_putBack_43 : decode c_X11_putBack 43 = .ok (.getfield 31, 3) := by decide +kernel
theorem d_X11_putBack_46 : decode c_X11_putBack 46 = .ok (.iload_n 1, 1) := by decide +kernel
theorem d_X11_putBack_47 : decode c_X11_putBack 47 = .ok (.aload_n 0, 1) := by decide +kernel
theorem d_X11_putBack_48 : decode c_X11_putBack 48 = .ok (.getfield 121, 3) := by decide +kernel
theorem d_X11_putBack_51 : decode c_X11_putBack 51 = .ok (.bipush 9, 2) := by decide +kernel
theorem d_X11_putBack_53 : decode c_X11_putBack 53 = .ok (.iload_n 1, 1) := by decide +kernel
theorem d_X11_putBack_54 : decode c_X11_putBack 54 = .ok (.imul, 1) := by decide +kernel
theorem d_X11_putBack_55 : decode c_X11_putBack 55 = .ok (.iconst 2, 1) := by decide +kernel
theorem d_X11_putBack_56 : decode c_X11_putBack 56 = .ok (.iadd, 1) := by decide +kernel
theorem d_X11_putBack_57 : decode c_X11_putBack 57 = .ok (.iaload, 1) := by decide +kernel
theorem d_X11_putBack_58 : decode c_X11_putBack 58 = .ok (.iastore, 1) := by decide +kernel
theorem d_X11_putBack_59 : decode c_X11_putBack 59 = .ok (.aload_n 0, 1) := by decide +kernel
theorem d_X11_putBack_60 : decode c_X11_putBack 60 = .ok (.getfield 34, 3) := by decide +kernel
theorem d_X11_putBack_63 : decode c_X11_putBack 63 = .ok (.iload_n 1, 1) := by decide +kernel
theorem d_X11_putBack_64 : decode c_X11_putBack 64 = .ok (.aload_n 0, 1) := by decide +kernel
theorem d_X11_putBack_65 : decode c_X11_putBack 65 = .ok (.getfield 121, 3) := by decide +kernel
theorem d_X11_putBack_68 : decode c_X11_putBack 68 = .ok (.bipush 9, 2) := by decide +kernel
theorem d_X11_putBack_70 : decode c_X11_putBack 70 = .ok (.iload_n 1, 1) := by decide +kernel
theorem d_X11_putBack_71 : decode c_X11_putBack 71 = .ok (.imul, 1) := by decide +kernel
theorem d_X11_putBack_72 : decode c_X11_putBack 72 = .ok (.iconst 3, 1) := by decide +kernel
theorem d_X11_putBack_73 : decode c_X11_putBack 73 = .ok (.iadd, 1) := by decide +kernel
theorem d_X11_putBack_74 : decode c_X11_putBack 74 = .ok (.iaload, 1) := by decide +kernel
theorem d_X11_putBack_75 : decode c_X11_putBack 75 = .ok (.iastore, 1) := by decide +kernel
theorem d_X11_putBack_76 : decode c_X11_putBack 76 = .ok (.aload_n 0, 1) := by decide +kernel
theorem d_X11_putBack_77 : decode c_X11_putBack 77 = .ok (.getfield 37, 3) := by decide +kernel
theorem d_X11_putBack_80 : decode c_X11_putBack 80 = .ok (.iload_n 1, 1) := by decide +kernel
theorem d_X11_putBack_81 : decode c_X11_putBack 81 = .ok (.aload_n 0, 1) := by decide +kernel
theorem d_X11_putBack_82 : decode c_X11_putBack 82 = .ok (.getfield 121, 3) := by decide +kernel
theorem d_X11_putBack_85 : decode c_X11_putBack 85 = .ok (.bipush 9, 2) := by decide +kernel
theorem d_X11_putBack_87 : decode c_X11_putBack 87 = .ok (.iload_n 1, 1) := by decide +kernel
theorem d_X11_putBack_88 : decode c_X11_putBack 88 = .ok (.imul, 1) := by decide +kernel
theorem d_X11_putBack_89 : decode c_X11_putBack 89 = .ok (.iconst 4, 1) := by decide +kernel
theorem d_X11_putBack_90 : decode c_X11_putBack 90 = .ok (.iadd, 1) := by decide +kernel
theorem d_X11_putBack_91 : decode c_X11_putBack 91 = .ok (.iaload, 1) := by decide +kernel
theorem d_X11_putBack_92 : decode c_X11_putBack 92 = .ok (.iastore, 1) := by decide +kernel
theorem d_X11_putBack_93 : decode c_X11_putBack 93 = .ok (.aload_n 0, 1) := by decide +kernel
theorem d_X11_putBack_94 : decode c_X11_putBack 94 = .ok (.getfield 40, 3) := by decide +kernel
theorem d_X11_putBack_97 : decode c_X11_putBack 97 = .ok (.iload_n 1, 1) := by decide +kernel
theorem d_X11_putBack_98 : decode c_X11_putBack 98 = .ok (.aload_n 0, 1) := by decide +kernel
theorem d_X11_putBack_99 : decode c_X11_putBack 99 = .ok (.getfield 121, 3) := by decide +kernel
theorem d_X11_putBack_102 : decode c_X11_putBack 102 = .ok (.bipush 9, 2) := by decide +kernel
theorem d_X11_putBack_104 : decode c_X11_putBack 104 = .ok (.iload_n 1, 1) := by decide +kernel
theorem d_X11_putBack_105 : decode c_X11_putBack 105 = .ok (.imul, 1) := by decide +kernel
theorem d_X11_putBack_106 : decode c_X11_putBack 106 = .ok (.iconst 5, 1) := by decide +kernel
theorem d_X11_putBack_107 : decode c_X11_putBack 107 = .ok (.iadd, 1) := by decide +kernel
theorem d_X11_putBack_108 : decode c_X11_putBack 108 = .ok (.iaload, 1) := by decide +kernel
theorem d_X11_putBack_109 : decode c_X11_putBack 109 = .ok (.iastore, 1) := by decide +kernel
theorem d_X11_putBack_110 : decode c_X11_putBack 110 = .ok (.aload_n 0, 1) := by decide +kernel
theorem d_X11_putBack_111 : decode c_X11_putBack 111 = .ok (.getfield 43, 3) := by decide +kernel
theorem d_X11_putBack_114 : decode c_X11_putBack 114 = .ok (.iload_n 1, 1) := by decide +kernel
theorem d_X11_putBack_115 : decode c_X11_putBack 115 = .ok (.aload_n 0, 1) := by decide +kernel
theorem d_X11_putBack_116 : decode c_X11_putBack 116 = .ok (.getfield 121, 3) := by decide +kernel
theorem d_X11_putBack_119 : decode c_X11_putBack 119 = .ok (.bipush 9, 2) := by decide +kernel
theorem d_X11_putBack_121 : decode c_X11_putBack 121 = .ok (.iload_n 1, 1) := by decide +kernel
theorem d_X11_putBack_122 : decode c_X11_putBack 122 = .ok (.imul, 1) := by decide +kernel
theorem d_X11_putBack_123 : decode c_X11_putBack 123 = .ok (.bipush 6, 2) := by decide +kernel
theorem d_X11_putBack_125 : decode c_X11_putBack 125 = .ok (.iadd, 1) := by decide +kernel
theorem d_X11_putBack_126 : decode c_X11_putBack 126 = .ok (.iaload, 1) := by decide +kernel
theorem d_X11_putBack_127 : decode c_X11_putBack 127 = .ok (.iastore, 1) := by decide +kernel
theorem d_X11_putBack_128 : decode c_X11_putBack 128 = .ok (.aload_n 0, 1) := by decide +kernel
theorem d_X11_putBack_129 : decode c_X11_putBack 129 = .ok (.getfield 46, 3) := by decide +kernel
theorem d_X11_putBack_132 : decode c_X11_putBack 132 = .ok (.iload_n 1, 1) := by decide +kernel
theorem d_X11_putBack_133 : decode c_X11_putBack 133 = .ok (.aload_n 0, 1) := by decide +kernel
theorem d_X11_putBack_134 : decode c_X11_putBack 134 = .ok (.getfield 121, 3) := by decide +kernel
theorem d_X11_putBack_137 : decode c_X11_putBack 137 = .ok (.bipush 9, 2) := by decide +kernel
theorem d_X11_putBack_139 : decode c_X11_putBack 139 = .ok (.iload_n 1, 1) := by decide +kernel
theorem d_X11_putBack_140 : decode c_X11_putBack 140 = .ok (.imul, 1) := by decide +kernel
theorem d_X11_putBack_141 : decode c_X11_putBack 141 = .ok (.bipush 7, 2) := by decide +kernel
theorem d_X11_putBack_143 : decode c_X11_putBack 143 = .ok (.iadd, 1) := by decide +kernel
theorem d_X11_putBack_144 : decode c_X11_putBack 144 = .ok (.iaload, 1) := by decide +kernel
theorem d_X11_putBack_145 : decode c_X11_putBack 145 = .ok (.iastore, 1) := by decide +kernel
theorem d_X11_putBack_146 : decode c_X11_putBack 146 = .ok (.iinc 1 1, 3) := by decide +kernel
theorem d_X11_putBack_149 : decode c_X11_putBack 149 = .ok (.goto (-147), 3) := by decide +kernel
theorem d_X11_putBack_152 : decode c_X11_putBack 152 = .ok (.iconst 0, 1) := by decide +kernel
theorem d_X11_putBack_153 : decode c_X11_putBack 153 = .ok (.istore_n 1, 1) := by decide +kernel
theorem d_X11_putBack_154 : decode c_X11_putBack 154 = .ok (.iload_n 1, 1) := by decide +kernel
theorem d_X11_putBack_155 : decode c_X11_putBack 155 = .ok (.bipush 6, 2) := by decide +kernel
theorem d_X11_putBack_157 : decode c_X11_putBack 157 = .ok (.if_icmp .ge 66, 3) := by decide +kernel
theorem d_X11_putBack_160 : decode c_X11_putBack 160 = .ok (.aload_n 0, 1) := by decide +kernel
theorem d_X11_putBack_161 : decode c_X11_putBack 161 = .ok (.getfield 61, 3) := by decide +kernel
theorem d_X11_putBack_164 : decode c_X11_putBack 164 = .ok (.iload_n 1, 1) := by decide +kernel
theorem d_X11_putBack_165 : decode c_X11_putBack 165 = .ok (.aload_n 0, 1) := by decide +kernel
theorem d_X11_putBack_166 : decode c_X11_putBack 166 = .ok (.getfield 124, 3) := by decide +kernel
theorem d_X11_putBack_169 : decode c_X11_putBack 169 = .ok (.iload_n 1, 1) := by decide +kernel
theorem d_X11_putBack_170 : decode c_X11_putBack 170 = .ok (.iaload, 1) := by decide +kernel
theorem d_X11_putBack_171 : decode c_X11_putBack 171 = .ok (.iastore, 1) := by decide +kernel
theorem d_X11_putBack_172 : decode c_X11_putBack 172 = .ok (.aload_n 0, 1) := by decide +kernel
theorem d_X11_putBack_173 : decode c_X11_putBack 173 = .ok (.getfield 64, 3) := by decide +kernel
theorem d_X11_putBack_176 : decode c_X11_putBack 176 = .ok (.iload_n 1, 1) := by decide +kernel
theorem d_X11_putBack_177 : decode c_X11_putBack 177 = .ok (.aload_n 0, 1) := by decide +kernel
theorem d_X11_putBack_178 : decode c_X11_putBack 178 = .ok (.getfield 124, 3) := by decide +kernel
theorem d_X11_putBack_181 : decode c_X11_putBack 181 = .ok (.bipush 6, 2) := by decide +kernel
theorem d_X11_putBack_183 : decode c_X11_putBack 183 = .ok (.iload_n 1, 1) := by decide +kernel
theorem d_X11_putBack_184 : decode c_X11_putBack 184 = .ok (.iadd, 1) := by decide +kernel
theorem d_X11_putBack_185 : decode c_X11_putBack 185 = .ok (.iaload, 1) := by decide +kernel
theorem d_X11_putBack_186 : decode c_X11_putBack 186 = .ok (.iastore, 1) := by decide +kernel
theorem d_X11_putBack_187 : decode c_X11_putBack 187 = .ok (.aload_n 0, 1) := by decide +kernel
theorem d_X11_putBack_188 : decode c_X11_putBack 188 = .ok (.getfield 67, 3) := by decide +kernel
theorem d_X11_putBack_191 : decode c_X11_putBack 191 = .ok (.iload_n 1, 1) := by decide +kernel
theorem d_X11_putBack_192 : decode c_X11_putBack 192 = .ok (.aload_n 0, 1) := by decide +kernel
theorem d_X11_putBack_193 : decode c_X11_putBack 193 = .ok (.getfield 124, 3) := by decide +kernel
theorem d_X11_putBack_196 : decode c_X11_putBack 196 = .ok (.bipush 12, 2) := by decide +kernel
theorem d_X11_putBack_198 : decode c_X11_putBack 198 = .ok (.iload_n 1, 1) := by decide +kernel
theorem d_X11_putBack_199 : decode c_X11_putBack 199 = .ok (.iadd, 1) := by decide +kernel
theorem d_X11_putBack_200 : decode c_X11_putBack 200 = .ok (.iaload, 1) := by decide +kernel
theorem d_X11_putBack_201 : decode c_X11_putBack 201 = .ok (.iastore, 1) := by decide +kernel
theorem d_X11_putBack_202 : decode c_X11_putBack 202 = .ok (.aload_n 0, 1) := by decide +kernel
theorem d_X11_putBack_203 : decode c_X11_putBack 203 = .ok (.getfield 70, 3) := by decide +kernel
theorem d_X11_putBack_206 : decode c_X11_putBack 206 = .ok (.iload_n 1, 1) := by decide +kernel
theorem d_X11_putBack_207 : decode c_X11_putBack 207 = .ok (.aload_n 0, 1) := by decide +kernel
theorem d_X11_putBack_208 : decode c_X11_putBack 208 = .ok (.getfield 124, 3) := by decide +kernel
theorem d_X11_putBack_211 : decode c_X11_putBack 211 = .ok (.bipush 18, 2) := by decide +kernel
theorem d_X11_putBack_213 : decode c_X11_putBack 213 = .ok (.iload_n 1, 1) := by decide +kernel
theorem d_X11_putBack_214 : decode c_X11_putBack 214 = .ok (.iadd, 1) := by decide +kernel
theorem d_X11_putBack_215 : decode c_X11_putBack 215 = .ok (.iaload, 1) := by decide +kernel
theorem d_X11_putBack_216 : decode c_X11_putBack 216 = .ok (.iastore, 1) := by decide +kernel
theorem d_X11_putBack_217 : decode c_X11_putBack 217 = .ok (.iinc 1 1, 3) := by decide +kernel
theorem d_X11_putBack_220 : decode c_X11_putBack 220 = .ok (.goto (-66), 3) := by decide +kernel
theorem d_X11_putBack_223 : decode c_X11_putBack 223 = .ok (.iconst 0, 1) := by decide +kernel
theorem d_X11_putBack_224 : decode c_X11_putBack 224 = .ok (.istore_n 1, 1) := by decide +kernel
theorem d_X11_putBack_225 : decode c_X11_putBack 225 = .ok (.iload_n 1, 1) := by decide +kernel
theorem d_X11_putBack_226 : decode c_X11_putBack 226 = .ok (.aload_n 0, 1) := by decide +kernel
theorem d_X11_putBack_227 : decode c_X11_putBack 227 = .ok (.getfield 173, 3) := by decide +kernel
theorem d_X11_putBack_230 : decode c_X11_putBack 230 = .ok (.if_icmp .ge 24, 3) := by decide +kernel
theorem d_X11_putBack_233 : decode c_X11_putBack 233 = .ok (.aload_n 0, 1) := by decide +kernel
theorem d_X11_putBack_234 : decode c_X11_putBack 234 = .ok (.getfield 55, 3) := by decide +kernel
theorem d_X11_putBack_237 : decode c_X11_putBack 237 = .ok (.iload_n 1, 1) := by decide +kernel
theorem d_X11_putBack_238 : decode c_X11_putBack 238 = .ok (.aload_n 0, 1) := by decide +kernel
theorem d_X11_putBack_239 : decode c_X11_putBack 239 = .ok (.getfield 124, 3) := by decide +kernel
theorem d_X11_putBack_242 : decode c_X11_putBack 242 = .ok (.bipush 24, 2) := by decide +kernel
theorem d_X11_putBack_244 : decode c_X11_putBack 244 = .ok (.iload_n 1, 1) := by decide +kernel
theorem d_X11_putBack_245 : decode c_X11_putBack 245 = .ok (.iadd, 1) := by decide +kernel
theorem d_X11_putBack_246 : decode c_X11_putBack 246 = .ok (.iaload, 1) := by decide +kernel
theorem d_X11_putBack_247 : decode c_X11_putBack 247 = .ok (.iastore, 1) := by decide +kernel
theorem d_X11_putBack_248 : decode c_X11_putBack 248 = .ok (.iinc 1 1, 3) := by decide +kernel
theorem d_X11_putBack_251 : decode c_X11_putBack 251 = .ok (.goto (-26), 3) := by decide +kernel
theorem d_X11_putBack_254 : decode c_X11_putBack 254 = .ok (.aload_n 0, 1) := by decide +kernel
theorem d_X11_putBack_255 : decode c_X11_putBack 255 = .ok (.aload_n 0, 1) := by decide +kernel
theorem d_X11_putBack_256 : decode c_X11_putBack 256 = .ok (.getfield 124, 3) := by decide +kernel
theorem d_X11_putBack_259 : decode c_X11_putBack 259 = .ok (.bipush 34, 2) := by decide +kernel
theorem d_X11_putBack_261 : decode c_X11_putBack 261 = .ok (.iaload, 1) := by decide +kernel
theorem d_X11_putBack_262 : decode c_X11_putBack 262 = .ok (.putfield 227, 3) := by decide +kernel
theorem d_X11_putBack_265 : decode c_X11_putBack 265 = .ok (.aload_n 0, 1) := by decide +kernel
theorem d_X11_putBack_266 : decode c_X11_putBack 266 = .ok (.aload_n 0, 1) := by decide +kernel
theorem d_X11_putBack_267 : decode c_X11_putBack 267 = .ok (.getfield 124, 3) := by decide +kernel
theorem d_X11_putBack_270 : decode c_X11_putBack 270 = .ok (.bipush 35, 2) := by decide +kernel
theorem d_X11_putBack_272 : decode c_X11_putBack 272 = .ok (.iaload, 1) := by decide +kernel
theorem d_X11_putBack_273 : decode c_X11_putBack 273 = .ok (.putfield 76, 3) := by decide +kernel
theorem d_X11_putBack_276 : decode c_X11_putBack 276 = .ok (.aload_n 0, 1) := by decide +kernel
theorem d_X11_putBack_277 : decode c_X11_putBack 277 = .ok (.aload_n 0, 1) := by decide +kernel
theorem d_X11_putBack_278 : decode c_X11_putBack 278 = .ok (.getfield 124, 3) := by decide +kernel
theorem d_X11_putBack_281 : decode c_X11_putBack 281 = .ok (.bipush 36, 2) := by decide +kernel
theorem d_X11_putBack_283 : decode c_X11_putBack 283 = .ok (.iaload, 1) := by decide +kernel
theorem d_X11_putBack_284 : decode c_X11_putBack 284 = .ok (.putfield 243, 3) := by decide +kernel
theorem d_X11_putBack_287 : decode c_X11_putBack 287 = .ok (.aload_n 0, 1) := by decide +kernel
theorem d_X11_putBack_288 : decode c_X11_putBack 288 = .ok (.aload_n 0, 1) := by decide +kernel
theorem d_X11_putBack_289 : decode c_X11_putBack 289 = .ok (.getfield 124, 3) := by decide +kernel
theorem d_X11_putBack_292 : decode c_X11_putBack 292 = .ok (.bipush 37, 2) := by decide +kernel
theorem d_X11_putBack_294 : decode c_X11_putBack 294 = .ok (.iaload, 1) := by decide +kernel
theorem d_X11_putBack_295 : decode c_X11_putBack 295 = .ok (.putfield 246, 3) := by decide +kernel
theorem d_X11_putBack_298 : decode c_X11_putBack 298 = .ok (.aload_n 0, 1) := by decide +kernel
theorem d_X11_putBack_299 : decode c_X11_putBack 299 = .ok (.aload_n 0, 1) := by decide +kernel
theorem d_X11_putBack_300 : decode c_X11_putBack 300 = .ok (.getfield 124, 3) := by decide +kernel
theorem d_X11_putBack_303 : decode c_X11_putBack 303 = .ok (.bipush 38, 2) := by decide +kernel
theorem d_X11_putBack_305 : decode c_X11_putBack 305 = .ok (.iaload, 1) := by decide +kernel
theorem d_X11_putBack_306 : decode c_X11_putBack 306 = .ok (.putfield 249, 3) := by decide +kernel
theorem d_X11_putBack_309 : decode c_X11_putBack 309 = .ok (.iconst 0, 1) := by decide +kernel
theorem d_X11_putBack_310 : decode c_X11_putBack 310 = .ok (.istore_n 1, 1) := by decide +kernel
theorem d_X11_putBack_311 : decode c_X11_putBack 311 = .ok (.iload_n 1, 1) := by decide +kernel
theorem d_X11_putBack_312 : decode c_X11_putBack 312 = .ok (.aload_n 0, 1) := by decide +kernel
theorem d_X11_putBack_313 : decode c_X11_putBack 313 = .ok (.getfield 243, 3) := by decide +kernel
theorem d_X11_putBack_316 : decode c_X11_putBack 316 = .ok (.if_icmp .ge 71, 3) := by decide +kernel
theorem d_X11_putBack_319 : decode c_X11_putBack 319 = .ok (.aload_n 0, 1) := by decide +kernel
theorem d_X11_putBack_320 : decode c_X11_putBack 320 = .ok (.getfield 80, 3) := by decide +kernel
theorem d_X11_putBack_323 : decode c_X11_putBack 323 = .ok (.iload_n 1, 1) := by decide +kernel
theorem d_X11_putBack_324 : decode c_X11_putBack 324 = .ok (.aload_n 0, 1) := by decide +kernel
theorem d_X11_putBack_325 : decode c_X11_putBack 325 = .ok (.getfield 127, 3) := by decide +kernel
theorem d_X11_putBack_328 : decode c_X11_putBack 328 = .ok (.iconst 4, 1) := by decide +kernel
theorem d_X11_putBack_329 : decode c_X11_putBack 329 = .ok (.iload_n 1, 1) := by decide +kernel
theorem d_X11_putBack_330 : decode c_X11_putBack 330 = .ok (.imul, 1) := by decide +kernel
theorem d_X11_putBack_331 : decode c_X11_putBack 331 = .ok (.iaload, 1) := by decide +kernel
theorem d_X11_putBack_332 : decode c_X11_putBack 332 = .ok (.iastore, 1) := by decide +kernel
theorem d_X11_putBack_333 : decode c_X11_putBack 333 = .ok (.aload_n 0, 1) := by decide +kernel
theorem d_X11_putBack_334 : decode c_X11_putBack 334 = .ok (.getfield 83, 3) := by decide +kernel
theorem d_X11_putBack_337 : decode c_X11_putBack 337 = .ok (.iload_n 1, 1) := by decide +kernel
theorem d_X11_putBack_338 : decode c_X11_putBack 338 = .ok (.aload_n 0, 1) := by decide +kernel
theorem d_X11_putBack_339 : decode c_X11_putBack 339 = .ok (.getfield 127, 3) := by decide +kernel
theorem d_X11_putBack_342 : decode c_X11_putBack 342 = .ok (.iconst 4, 1) := by decide +kernel
theorem d_X11_putBack_343 : decode c_X11_putBack 343 = .ok (.iload_n 1, 1) := by decide +kernel
theorem d_X11_putBack_344 : decode c_X11_putBack 344 = .ok (.imul, 1) := by decide +kernel
theorem d_X11_putBack_345 : decode c_X11_putBack 345 = .ok (.iconst 1, 1) := by decide +kernel
theorem d_X11_putBack_346 : decode c_X11_putBack 346 = .ok (.iadd, 1) := by decide +kernel
theorem d_X11_putBack_347 : decode c_X11_putBack 347 = .ok (.iaload, 1) := by decide +kernel
theorem d_X11_putBack_348 : decode c_X11_putBack 348 = .ok (.iastore, 1) := by decide +kernel
theorem d_X11_putBack_349 : decode c_X11_putBack 349 = .ok (.aload_n 0, 1) := by decide +kernel
theorem d_X11_putBack_350 : decode c_X11_putBack 350 = .ok (.getfield 86, 3) := by decide +kernel
theorem d_X11_putBack_353 : decode c_X11_putBack 353 = .ok (.iload_n 1, 1) := by decide +kernel
theorem d_X11_putBack_354 : decode c_X11_putBack 354 = .ok (.aload_n 0, 1) := by decide +kernel
theorem d_X11_putBack_355 : decode c_X11_putBack 355 = .ok (.getfield 127, 3) := by decide +kernel
theorem d_X11_putBack_358 : decode c_X11_putBack 358 = .ok (.iconst 4, 1) := by decide +kernel
theorem d_X11_putBack_359 : decode c_X11_putBack 359 = .ok (.iload_n 1, 1) := by decide +kernel
theorem d_X11_putBack_360 : decode c_X11_putBack 360 = .ok (.imul, 1) := by decide +kernel
theorem d_X11_putBack_361 : decode c_X11_putBack 361 = .ok (.iconst 2, 1) := by decide +kernel
theorem d_X11_putBack_362 : decode c_X11_putBack 362 = .ok (.iadd, 1) := by decide +kernel
theorem d_X11_putBack_363 : decode c_X11_putBack 363 = .ok (.iaload, 1) := by decide +kernel
theorem d_X11_putBack_364 : decode c_X11_putBack 364 = .ok (.iastore, 1) := by decide +kernel
theorem d_X11_putBack_365 : decode c_X11_putBack 365 = .ok (.aload_n 0, 1) := by decide +kernel
theorem d_X11_putBack_366 : decode c_X11_putBack 366 = .ok (.getfield 89, 3) := by decide +kernel
theorem d_X11_putBack_369 : decode c_X11_putBack 369 = .ok (.iload_n 1, 1) := by decide +kernel
theorem d_X11_putBack_370 : decode c_X11_putBack 370 = .ok (.aload_n 0, 1) := by decide +kernel
theorem d_X11_putBack_371 : decode c_X11_putBack 371 = .ok (.getfield 127, 3) := by decide +kernel
theorem d_X11_putBack_374 : decode c_X11_putBack 374 = .ok (.iconst 4, 1) := by decide +kernel
theorem d_X11_putBack_375 : decode c_X11_putBack 375 = .ok (.iload_n 1, 1) := by decide +kernel
theorem d_X11_putBack_376 : decode c_X11_putBack 376 = .ok (.imul, 1) := by decide +kernel
theorem d_X11_putBack_377 : decode c_X11_putBack 377 = .ok (.iconst 3, 1) := by decide +kernel
theorem d_X11_putBack_378 : decode c_X11_putBack 378 = .ok (.iadd, 1) := by decide +kernel
theorem d_X11_putBack_379 : decode c_X11_putBack 379 = .ok (.iaload, 1) := by decide +kernel
theorem d_X11_putBack_380 : decode c_X11_putBack 380 = .ok (.iastore, 1) := by decide +kernel
theorem d_X11_putBack_381 : decode c_X11_putBack 381 = .ok (.iinc 1 1, 3) := by decide +kernel
theorem d_X11_putBack_384 : decode c_X11_putBack 384 = .ok (.goto (-73), 3) := by decide +kernel
theorem d_X11_putBack_387 : decode c_X11_putBack 387 = .ok (.return_, 1) := by decide +kernel
def kp_X11_putBack_400  (a j : Nat) : Prop := (a ≠ 400 ∨ (j ≠ 25 ∧ j ≠ 26 ∧ j ≠ 27 ∧ j ≠ 58 ∧ j ≠ 59)) ∧ (a < 408 ∨ 416 ≤ a) ∧ a ≠ 419 ∧ (a < 421 ∨ 425 ≤ a) ∧ (a < 429 ∨ 433 ≤ a)
def b_X11_putBack_400_2  (rc2 : Int32 → tV → tV) (rc154 : Int32 → tV → tV) (y1 : Int32) (v1 : tV) : tV := bnd (v1 400 1) fun x1 => (if x1 ≤ y1 then rc154 0 v1 else bnd ((9 : Int32) * y1) fun x9 => bnd (v1 447 x9.toNatClampNeg) fun x12 => bnd (up2 v1 408 (y1.toNatClampNeg) x12) fun v13 => bnd ((9 : Int32) * y1) fun x17 => bnd (x17 + (1 : Int32)) fun x20 => bnd (v13 447 x20.toNatClampNeg) fun x23 => bnd (up2 v13 409 (y1.toNatClampNeg) x23) fun v24 => bnd ((9 : Int32) * y1) fun x28 => bnd (x28 + (2 : Int32)) fun x31 => bnd (v24 447 x31.toNatClampNeg) fun x34 => bnd (up2 v24 410 (y1.toNatClampNeg) x34) fun v35 => bnd ((9 : Int32) * y1) fun x39 => bnd (x39 + (3 : Int32)) fun x42 => bnd (v35 447 x42.toNatClampNeg) fun x45 => bnd (up2 v35 411 (y1.toNatClampNeg) x45) fun v46 => bnd ((9 : Int32) * y1) fun x50 => bnd (x50 + (4 : Int32)) fun x53 => bnd (v46 447 x53.toNatClampNeg) fun x56 => bnd (up2 v46 412 (y1.toNatClampNeg) x56) fun v57 => bnd ((9 : Int32) * y1) fun x61 => bnd (x61 + (5 : Int32)) fun x64 => bnd (v57 447 x64.toNatClampNeg) fun x67 => bnd (up2 v57 413 (y1.toNatClampNeg) x67) fun v68 => bnd ((9 : Int32) * y1) fun x72 => bnd (x72 + (6 : Int32)) fun x75 => bnd (v68 447 x75.toNatClampNeg) fun x78 => bnd (up2 v68 414 (y1.toNatClampNeg) x78) fun v79 => bnd ((9 : Int32) * y1) fun x83 => bnd (x83 + (7 : Int32)) fun x86 => bnd (v79 447 x86.toNatClampNeg) fun x89 => bnd (up2 v79 415 (y1.toNatClampNeg) x89) fun v90 => bnd (y1 + 1) fun x94 => rc2 x94 v90)
def b_X11_putBack_400_154  (rc154 : Int32 → tV → tV) (rc225 : Int32 → tV → tV) (y1 : Int32) (v1 : tV) : tV := (if (6 : Int32) ≤ y1 then rc225 0 v1 else bnd (v1 448 y1.toNatClampNeg) fun x102 => bnd (up2 v1 421 (y1.toNatClampNeg) x102) fun v103 => bnd ((6 : Int32) + y1) fun x106 => bnd (v103 448 x106.toNatClampNeg) fun x109 => bnd (up2 v103 422 (y1.toNatClampNeg) x109) fun v110 => bnd ((12 : Int32) + y1) fun x113 => bnd (v110 448 x113.toNatClampNeg) fun x116 => bnd (up2 v110 423 (y1.toNatClampNeg) x116) fun v117 => bnd ((18 : Int32) + y1) fun x120 => bnd (v117 448 x120.toNatClampNeg) fun x123 => bnd (up2 v117 424 (y1.toNatClampNeg) x123) fun v124 => bnd (y1 + 1) fun x127 => rc154 x127 v124)
def b_X11_putBack_400_225  (rc225 : Int32 → tV → tV) (rc311 : Int32 → tV → tV) (y1 : Int32) (v1 : tV) : tV := bnd (v1 400 15) fun x130 => (if x130 ≤ y1 then bnd (v1 448 (34 : Int32).toNatClampNeg) fun x135 => bnd (up2 v1 400 25 x135) fun v136 => bnd (v136 448 (35 : Int32).toNatClampNeg) fun x140 => bnd (up2 v136 400 26 x140) fun v141 => bnd (v141 448 (36 : Int32).toNatClampNeg) fun x145 => bnd (up2 v141 400 27 x145) fun v147 => bnd (v147 448 (37 : Int32).toNatClampNeg) fun x152 => bnd (up2 v147 400 58 x152) fun v153 => bnd (v153 448 (38 : Int32).toNatClampNeg) fun x158 => bnd (up2 v153 400 59 x158) fun v159 => rc311 0 v159 else bnd ((24 : Int32) + y1) fun x167 => bnd (v1 448 x167.toNatClampNeg) fun x170 => bnd (up2 v1 419 (y1.toNatClampNeg) x170) fun v171 => bnd (y1 + 1) fun x175 => rc225 x175 v171)
def b_X11_putBack_400_311  (rc311 : Int32 → tV → tV) (y1 : Int32) (v1 : tV) : tV := bnd (v1 400 27) fun x178 => (if x178 ≤ y1 then v1 else bnd ((4 : Int32) * y1) fun x186 => bnd (v1 449 x186.toNatClampNeg) fun x189 => bnd (up2 v1 429 (y1.toNatClampNeg) x189) fun v191 => bnd ((4 : Int32) * y1) fun x195 => bnd (x195 + (1 : Int32)) fun x198 => bnd (v191 449 x198.toNatClampNeg) fun x201 => bnd (up2 v191 430 (y1.toNatClampNeg) x201) fun v202 => bnd ((4 : Int32) * y1) fun x206 => bnd (x206 + (2 : Int32)) fun x209 => bnd (v202 449 x209.toNatClampNeg) fun x212 => bnd (up2 v202 431 (y1.toNatClampNeg) x212) fun v213 => bnd ((4 : Int32) * y1) fun x217 => bnd (x217 + (3 : Int32)) fun x220 => bnd (v213 449 x220.toNatClampNeg) fun x223 => bnd (up2 v213 432 (y1.toNatClampNeg) x223) fun v224 => bnd (y1 + 1) fun x228 => rc311 x228 v224)
def g_X11_putBack_400_311  : Nat → Int32 → tV → tV
  | 0, _, v1 => v1
  | n + 1, y1, v1 => b_X11_putBack_400_311  (g_X11_putBack_400_311  n) y1 v1
def g_X11_putBack_400_225  : Nat → Int32 → tV → tV
  | 0, _, v1 => v1
  | n + 1, y1, v1 => b_X11_putBack_400_225  (g_X11_putBack_400_225  n) (g_X11_putBack_400_311  n) y1 v1
def g_X11_putBack_400_154  : Nat → Int32 → tV → tV
  | 0, _, v1 => v1
  | n + 1, y1, v1 => b_X11_putBack_400_154  (g_X11_putBack_400_154  n) (g_X11_putBack_400_225  n) y1 v1
def g_X11_putBack_400_2  : Nat → Int32 → tV → tV
  | 0, _, v1 => v1
  | n + 1, y1, v1 => b_X11_putBack_400_2  (g_X11_putBack_400_2  n) (g_X11_putBack_400_154  n) y1 v1
def f_X11_putBack_400 (v : tV)  : tV := g_X11_putBack_400_2  100000 0 v
set_option maxHeartbeats 4000000 in
set_option maxRecDepth 100000 in
theorem ct_X11_putBack_400 (l : Launch) (D : va_G) (dA : Nat → ClassId) (ad : Nat → Nat) (v : tV) (hI : Inv v)  : Met l m_X11_putBack [.code m_X11_putBack c_X11_putBack 2 none] ({ frames := 1, cells := 0, slots := 0, locals := 40 } : Room) (tP D dA ad v [.ref (ad 400)]) (tQv D dA ad (fun v' => (Inv v' ∧ Kp kp_X11_putBack_400 v v') ∧ v' = f_X11_putBack_400 v )) 0 0 (tA ad) := by
  refine tMet (by decide) (Nat.le_of_ble_eq_true rfl) ?_
  intro p e s m below meth c ls X hr hlocks hw hl
  have X : CX p s m ([.ref (ad 400)] : List Value).toArray c c_X11_putBack N_X11 2 D dA := X
  have hx := X.1
  have hb := X.2.1
  have hS : va_S (tA ad) s.heap s.heap [] := va_S.rf
  have hl : lv_has ls 2 [(0, .ref (ad 400))] := hl
  obtain ⟨RR, eRR⟩ : ∃ z, f_X11_putBack_400 v  = z := ⟨_, rfl⟩
  have LL : ∀ n : Nat, (∀ (y1 : Int32) (v1 : tV) (H : Heap) (locs : List Loc) (ls : Array Slot), (20 - y1.toInt).toNat + 900 < n → Rg y1 0 20 → Inv v1 → Kp kp_X11_putBack_400 v v1 → g_X11_putBack_400_2  n y1 v1 = RR → tI D dA ad v1 H → va_S (tA ad) s.heap H locs → lv_has ls 2 [(0, .ref (ad 400)), (1, .int y1)] → W p l e ({ frames := 1, cells := 0, slots := 0, locals := 40 } : Room) s m ([.ref (ad 400)] : List Value).toArray below meth c H locs 0 0 (MQ below (tQv D dA ad (fun v' => (Inv v' ∧ Kp kp_X11_putBack_400 v v') ∧ v' = f_X11_putBack_400 v )) ([.ref (ad 400)] : List Value).toArray s 0 0 (tA ad)) (F0 m 2 ls [])) ∧ (∀ (y1 : Int32) (v1 : tV) (H : Heap) (locs : List Loc) (ls : Array Slot), (6 - y1.toInt).toNat + 800 < n → Rg y1 0 6 → Inv v1 → Kp kp_X11_putBack_400 v v1 → g_X11_putBack_400_154  n y1 v1 = RR → tI D dA ad v1 H → va_S (tA ad) s.heap H locs → lv_has ls 2 [(0, .ref (ad 400)), (1, .int y1)] → W p l e ({ frames := 1, cells := 0, slots := 0, locals := 40 } : Room) s m ([.ref (ad 400)] : List Value).toArray below meth c H locs 0 0 (MQ below (tQv D dA ad (fun v' => (Inv v' ∧ Kp kp_X11_putBack_400 v v') ∧ v' = f_X11_putBack_400 v )) ([.ref (ad 400)] : List Value).toArray s 0 0 (tA ad)) (F0 m 154 ls [])) ∧ (∀ (y1 : Int32) (v1 : tV) (H : Heap) (locs : List Loc) (ls : Array Slot), (10 - y1.toInt).toNat + 700 < n → Rg y1 0 10 → Inv v1 → Kp kp_X11_putBack_400 v v1 → g_X11_putBack_400_225  n y1 v1 = RR → tI D dA ad v1 H → va_S (tA ad) s.heap H locs → lv_has ls 2 [(0, .ref (ad 400)), (1, .int y1)] → W p l e ({ frames := 1, cells := 0, slots := 0, locals := 40 } : Room) s m ([.ref (ad 400)] : List Value).toArray below meth c H locs 0 0 (MQ below (tQv D dA ad (fun v' => (Inv v' ∧ Kp kp_X11_putBack_400 v v') ∧ v' = f_X11_putBack_400 v )) ([.ref (ad 400)] : List Value).toArray s 0 0 (tA ad)) (F0 m 225 ls [])) ∧ (∀ (y1 : Int32) (v1 : tV) (H : Heap) (locs : List Loc) (ls : Array Slot), (200 - y1.toInt).toNat + 0 < n → Rg y1 0 200 → Inv v1 → Kp kp_X11_putBack_400 v v1 → g_X11_putBack_400_311  n y1 v1 = RR → tI D dA ad v1 H → va_S (tA ad) s.heap H locs → lv_has ls 2 [(0, .ref (ad 400)), (1, .int y1)] → W p l e ({ frames := 1, cells := 0, slots := 0, locals := 40 } : Room) s m ([.ref (ad 400)] : List Value).toArray below meth c H locs 0 0 (MQ below (tQv D dA ad (fun v' => (Inv v' ∧ Kp kp_X11_putBack_400 v v') ∧ v' = f_X11_putBack_400 v )) ([.ref (ad 400)] : List Value).toArray s 0 0 (tA ad)) (F0 m 311 ls [])) := by
    intro n
    induction n with
    | zero => refine ⟨?_, ?_, ?_, ?_⟩ <;> (intros; omega)
    | succ n ih =>
      obtain ⟨ih0, ih1, ih2, ih3⟩ := ih
      refine ⟨?_, ?_, ?_, ?_⟩
      · intro y1 v1 H locs ls hmu r_y1 hI1 hK1 hG hw hS hl
        have hG : b_X11_putBack_400_2  (g_X11_putBack_400_2  n) (g_X11_putBack_400_154  n) y1 v1 = RR := hG
        unfold b_X11_putBack_400_2 at hG
        refine lv_iload_n hx hb d_X11_putBack_2 rfl (lv_at hl 1 rfl) ?_
        refine lv_aload_n hx hb d_X11_putBack_3 rfl (lv_at hl 0 rfl) ?_
        refine r_geti X hw FL_X11_166 (rfl : KD 400 = _) rfl d_X11_putBack_4 ?_
        refine lv_topi (fun x1 ex1 => ?_)
        have hG := bnd_use ex1 hG
        have r2 : Rg x1 0 20 := by rw [ex1]; exact hI1 _ _ _ _ rfl
        have hm3 : v1 400 1 = x1 := ex1.symm
        refine lv_icmp_ge (tgt := 152) hx hb d_X11_putBack_7 (by decide) (fun c4 => ?_) (fun c4 => ?_)
        · have f5 := i_le c4
          have hG := g_pos c4 hG
          refine lv_iconst (v := 0) hx hb d_X11_putBack_152 (by decide) ?_
          refine lv_istore_n (lv' := [(1, .int 0), (0, .ref (ad 400))]) hx hb d_X11_putBack_153 rfl hl (by decide) rfl (fun ls hl => ?_)
          exact ih1 0 v1 _ _ _ (by obtain ⟨_, _⟩ := (⟨by decide, by decide⟩ : Rg 0 0 0); omega) (rg_w (⟨by decide, by decide⟩ : Rg 0 0 0) (by decide) (by decide)) hI1 hK1 hG hw hS (lv_sub hl [1, 0] rfl)
        · have f6 := i_nle c4
          have r7 : Rg y1 0 19 := by obtain ⟨a1, a2⟩ := r_y1; obtain ⟨b1, b2⟩ := r2; have f := i_nle c4; exact ⟨by omega, by omega⟩
          have r8 : Rg x1 1 20 := by obtain ⟨a1, a2⟩ := r_y1; obtain ⟨b1, b2⟩ := r2; have f := i_nle c4; exact ⟨by omega, by omega⟩
          have hG := g_neg c4 hG
          refine lv_aload_n hx hb d_X11_putBack_10 rfl (lv_at hl 0 rfl) ?_
          refine r_getr (r := 408) X hw FL_X11_25 (rfl : KD 400 = _) rfl d_X11_putBack_11 ?_
          refine lv_iload_n hx hb d_X11_putBack_14 rfl (lv_at hl 1 rfl) ?_
          refine lv_aload_n hx hb d_X11_putBack_15 rfl (lv_at hl 0 rfl) ?_
          refine r_getr (r := 447) X hw FL_X11_121 (rfl : KD 400 = _) rfl d_X11_putBack_16 ?_
          refine lv_bipush (v := 9) hx hb d_X11_putBack_19 (by decide) ?_
          refine lv_iload_n hx hb d_X11_putBack_21 rfl (lv_at hl 1 rfl) ?_
          refine lv_imul hx hb d_X11_putBack_22 ?_
          refine lv_topi (fun x9 ex9 => ?_)
          have hG := bnd_use ex9 hG
          have r10 : Rg x9 0 171 := rg_mulc ex9 (⟨by decide, by decide⟩ : Rg 9 9 9) r7 (by decide) (by decide) (by decide)
          have s11 : x9.toInt = 9 * y1.toInt := rg_mule ex9 r7 rfl (by decide) (by decide)
          refine r_iald X hw (rfl : KD 447 = _) (Rg.vp (b := 171) r10 (by decide)) rfl d_X11_putBack_23 ?_
          refine lv_topi (fun x12 ex12 => ?_)
          have hG := bnd_use ex12 hG
          refine r_iast X hw hS (rfl : KD 408 = _) (Rg.vp (b := 19) r7 (by decide)) rfl d_X11_putBack_24 (fun H locs hw hS => ?_)
          obtain ⟨v13, ev13⟩ : ∃ z, z = up2 v1 408 y1.toNatClampNeg x12 := ⟨_, rfl⟩
          rw [← ev13] at hw
          have hG := bnd_use ev13 hG
          have hI14 : Inv v13 := by rw [ev13]; exact Inv.put0 hI1 _ rfl
          have hK15 : Kp kp_X11_putBack_400 v v13 := by rw [ev13]; exact Kp.put hK1 _ (by unfold kp_X11_putBack_400; omega)
          have hm16 : v13 400 1 = x1 := by rw [ev13, up2_n _ _ (by omega)]; exact hm3
          refine lv_aload_n hx hb d_X11_putBack_25 rfl (lv_at hl 0 rfl) ?_
          refine r_getr (r := 409) X hw FL_X11_28 (rfl : KD 400 = _) rfl d_X11_putBack_26 ?_
          refine lv_iload_n hx hb d_X11_putBack_29 rfl (lv_at hl 1 rfl) ?_
          refine lv_aload_n hx hb d_X11_putBack_30 rfl (lv_at hl 0 rfl) ?_
          refine r_getr (r := 447) X hw FL_X11_121 (rfl : KD 400 = _) rfl d_X11_putBack_31 ?_
          refine lv_bipush (v := 9) hx hb d_X11_putBack_34 (by decide) ?_
          refine lv_iload_n hx hb d_X11_putBack_36 rfl (lv_at hl 1 rfl) ?_
          refine lv_imul hx hb d_X11_putBack_37 ?_
          refine lv_topi (fun x17 ex17 => ?_)
          have hG := bnd_use ex17 hG
          have r18 : Rg x17 0 171 := rg_mulc ex17 (⟨by decide, by decide⟩ : Rg 9 9 9) r7 (by decide) (by decide) (by decide)
          have s19 : x17.toInt = 9 * y1.toInt := rg_mule ex17 r7 rfl (by decide) (by decide)
          refine lv_iconst (v := 1) hx hb d_X11_putBack_38 (by decide) ?_
          refine lv_iadd hx hb d_X11_putBack_39 ?_
          refine lv_topi (fun x20 ex20 => ?_)
          have hG := bnd_use ex20 hG
          have r21 : Rg x20 1 172 := rg_add ex20 r18 (⟨by decide, by decide⟩ : Rg 1 1 1) (by decide) (by decide)
          have s22 : x20.toInt = x17.toInt + (1 : Int32).toInt := by rw [ex20]; exact i_add (by obtain ⟨_, _⟩ := r18; obtain ⟨_, _⟩ := (⟨by decide, by decide⟩ : Rg 1 1 1); omega) (by obtain ⟨_, _⟩ := r18; obtain ⟨_, _⟩ := (⟨by decide, by decide⟩ : Rg 1 1 1); omega)
          have s22l : (1 : Int32).toInt = 1 := rfl
          refine r_iald X hw (rfl : KD 447 = _) (Rg.vp (b := 172) (rg_w r21 (by decide) (by decide)) (by decide)) rfl d_X11_putBack_40 ?_
          refine lv_topi (fun x23 ex23 => ?_)
          have hG := bnd_use ex23 hG
          refine r_iast X hw hS (rfl : KD 409 = _) (Rg.vp (b := 19) r7 (by decide)) rfl d_X11_putBack_41 (fun H locs hw hS => ?_)
          obtain ⟨v24, ev24⟩ : ∃ z, z = up2 v13 409 y1.toNatClampNeg x23 := ⟨_, rfl⟩
          rw [← ev24] at hw
          have hG := bnd_use ev24 hG
          have hI25 : Inv v24 := by rw [ev24]; exact Inv.put0 hI14 _ rfl
          have hK26 : Kp kp_X11_putBack_400 v v24 := by rw [ev24]; exact Kp.put hK15 _ (by unfold kp_X11_putBack_400; omega)
          have hm27 : v24 400 1 = x1 := by rw [ev24, up2_n _ _ (by omega)]; exact hm16
          refine lv_aload_n hx hb d_X11_putBack_42 rfl (lv_at hl 0 rfl) ?_
          refine r_getr (r := 410) X hw FL_X11_31 (rfl : KD 400 = _) rfl d_X11_putBack_43 ?_
          refine lv_iload_n hx hb d_X11_putBack_46 rfl (lv_at hl 1 rfl) ?_
          refine lv_aload_n hx hb d_X11_putBack_47 rfl (lv_at hl 0 rfl) ?_
          refine r_getr (r := 447) X hw FL_X11_121 (rfl : KD 400 = _) rfl d_X11_putBack_48 ?_
          refine lv_bipush (v := 9) hx hb d_X11_putBack_51 (by decide) ?_
          refine lv_iload_n hx hb d_X11_putBack_53 rfl (lv_at hl 1 rfl) ?_
          refine lv_imul hx hb d_X11_putBack_54 ?_
          refine lv_topi (fun x28 ex28 => ?_)
          have hG := bnd_use ex28 hG
          have r29 : Rg x28 0 171 := rg_mulc ex28 (⟨by decide, by decide⟩ : Rg 9 9 9) r7 (by decide) (by decide) (by decide)
          have s30 : x28.toInt = 9 * y1.toInt := rg_mule ex28 r7 rfl (by decide) (by decide)
          refine lv_iconst (v := 2) hx hb d_X11_putBack_55 (by decide) ?_
          refine lv_iadd hx hb d_X11_putBack_56 ?_
          refine lv_topi (fun x31 ex31 => ?_)
          have hG := bnd_use ex31 hG
          have r32 : Rg x31 2 173 := rg_add ex31 r29 (⟨by decide, by decide⟩ : Rg 2 2 2) (by decide) (by decide)
          have s33 : x31.toInt = x28.toInt + (2 : Int32).toInt := by rw [ex31]; exact i_add (by obtain ⟨_, _⟩ := r29; obtain ⟨_, _⟩ := (⟨by decide, by decide⟩ : Rg 2 2 2); omega) (by obtain ⟨_, _⟩ := r29; obtain ⟨_, _⟩ := (⟨by decide, by decide⟩ : Rg 2 2 2); omega)
          have s33l : (2 : Int32).toInt = 2 := rfl
          refine r_iald X hw (rfl : KD 447 = _) (Rg.vp (b := 173) (rg_w r32 (by decide) (by decide)) (by decide)) rfl d_X11_putBack_57 ?_
          refine lv_topi (fun x34 ex34 => ?_)
          have hG := bnd_use ex34 hG
          refine r_iast X hw hS (rfl : KD 410 = _) (Rg.vp (b := 19) r7 (by decide)) rfl d_X11_putBack_58 (fun H locs hw hS => ?_)
          obtain ⟨v35, ev35⟩ : ∃ z, z = up2 v24 410 y1.toNatClampNeg x34 := ⟨_, rfl⟩
          rw [← ev35] at hw
          have hG := bnd_use ev35 hG
          have hI36 : Inv v35 := by rw [ev35]; exact Inv.put0 hI25 _ rfl
          have hK37 : Kp kp_X11_putBack_400 v v35 := by rw [ev35]; exact Kp.put hK26 _ (by unfold kp_X11_putBack_400; omega)
          have hm38 : v35 400 1 = x1 := by rw [ev35, up2_n _ _ (by omega)]; exact hm27
          refine lv_aload_n hx hb d_X11_putBack_59 rfl (lv_at hl 0 rfl) ?_
          refine r_getr (r := 411) X hw FL_X11_34 (rfl : KD 400 = _) rfl d_X11_putBack_60 ?_
          refine lv_iload_n hx hb d_X11_putBack_63 rfl (lv_at hl 1 rfl) ?_
          refine lv_aload_n hx hb d_X11_putBack_64 rfl (lv_at hl 0 rfl) ?_
          refine r_getr (r := 447) X hw FL_X11_121 (rfl : KD 400 = _) rfl d_X11_putBack_65 ?_
          refine lv_bipush (v := 9) hx hb d_X11_putBack_68 (by decide) ?_
          refine lv_iload_n hx hb d_X11_putBack_70 rfl (lv_at hl 1 rfl) ?_
          refine lv_imul hx hb d_X11_putBack_71 ?_
          refine lv_topi (fun x39 ex39 => ?_)
          have hG := bnd_use ex39 hG
          have r40 : Rg x39 0 171 := rg_mulc ex39 (⟨by decide, by decide⟩ : Rg 9 9 9) r7 (by decide) (by decide) (by decide)
          have s41 : x39.toInt = 9 * y1.toInt := rg_mule ex39 r7 rfl (by decide) (by decide)
          refine lv_iconst (v := 3) hx hb d_X11_putBack_72 (by decide) ?_
          refine lv_iadd hx hb d_X11_putBack_73 ?_
          refine lv_topi (fun x42 ex42 => ?_)
          have hG := bnd_use ex42 hG
          have r43 : Rg x42 3 174 := rg_add ex42 r40 (⟨by decide, by decide⟩ : Rg 3 3 3) (by decide) (by decide)
          have s44 : x42.toInt = x39.toInt + (3 : Int32).toInt := by rw [ex42]; exact i_add (by obtain ⟨_, _⟩ := r40; obtain ⟨_, _⟩ := (⟨by decide, by decide⟩ : Rg 3 3 3); omega) (by obtain ⟨_, _⟩ := r40; obtain ⟨_, _⟩ := (⟨by decide, by decide⟩ : Rg 3 3 3); omega)
          have s44l : (3 : Int32).toInt = 3 := rfl
          refine r_iald X hw (rfl : KD 447 = _) (Rg.vp (b := 174) (rg_w r43 (by decide) (by decide)) (by decide)) rfl d_X11_putBack_74 ?_
          refine lv_topi (fun x45 ex45 => ?_)
          have hG := bnd_use ex45 hG
          refine r_iast X hw hS (rfl : KD 411 = _) (Rg.vp (b := 19) r7 (by decide)) rfl d_X11_putBack_75 (fun H locs hw hS => ?_)
          obtain ⟨v46, ev46⟩ : ∃ z, z = up2 v35 411 y1.toNatClampNeg x45 := ⟨_, rfl⟩
          rw [← ev46] at hw
          have hG := bnd_use ev46 hG
          have hI47 : Inv v46 := by rw [ev46]; exact Inv.put0 hI36 _ rfl
          have hK48 : Kp kp_X11_putBack_400 v v46 := by rw [ev46]; exact Kp.put hK37 _ (by unfold kp_X11_putBack_400; omega)
          have hm49 : v46 400 1 = x1 := by rw [ev46, up2_n _ _ (by omega)]; exact hm38
          refine lv_aload_n hx hb d_X11_putBack_76 rfl (lv_at hl 0 rfl) ?_
          refine r_getr (r := 412) X hw FL_X11_37 (rfl : KD 400 = _) rfl d_X11_putBack_77 ?_
          refine lv_iload_n hx hb d_X11_putBack_80 rfl (lv_at hl 1 rfl) ?_
          refine lv_aload_n hx hb d_X11_putBack_81 rfl (lv_at hl 0 rfl) ?_
          refine r_getr (r := 447) X hw FL_X11_121 (rfl : KD 400 = _) rfl d_X11_putBack_82 ?_
          refine lv_bipush (v := 9) hx hb d_X11_putBack_85 (by decide) ?_
          refine lv_iload_n hx hb d_X11_putBack_87 rfl (lv_at hl 1 rfl) ?_
          refine lv_imul hx hb d_X11_putBack_88 ?_
          refine lv_topi (fun x50 ex50 => ?_)
          have hG := bnd_use ex50 hG
          have r51 : Rg x50 0 171 := rg_mulc ex50 (⟨by decide, by decide⟩ : Rg 9 9 9) r7 (by decide) (by decide) (by decide)
          have s52 : x50.toInt = 9 * y1.toInt := rg_mule ex50 r7 rfl (by decide) (by decide)
          refine lv_iconst (v := 4) hx hb d_X11_putBack_89 (by decide) ?_
          refine lv_iadd hx hb d_X11_putBack_90 ?_
          refine lv_topi (fun x53 ex53 => ?_)
          have hG := bnd_use ex53 hG
          have r54 : Rg x53 4 175 := rg_add ex53 r51 (⟨by decide, by decide⟩ : Rg 4 4 4) (by decide) (by decide)
          have s55 : x53.toInt = x50.toInt + (4 : Int32).toInt := by rw [ex53]; exact i_add (by obtain ⟨_, _⟩ := r51; obtain ⟨_, _⟩ := (⟨by decide, by decide⟩ : Rg 4 4 4); omega) (by obtain ⟨_, _⟩ := r51; obtain ⟨_, _⟩ := (⟨by decide, by decide⟩ : Rg 4 4 4); omega)
          have s55l : (4 : Int32).toInt = 4 := rfl
          refine r_iald X hw (rfl : KD 447 = _) (Rg.vp (b := 175) (rg_w r54 (by decide) (by decide)) (by decide)) rfl d_X11_putBack_91 ?_
          refine lv_topi (fun x56 ex56 => ?_)
          have hG := bnd_use ex56 hG
          refine r_iast X hw hS (rfl : KD 412 = _) (Rg.vp (b := 19) r7 (by decide)) rfl d_X11_putBack_92 (fun H locs hw hS => ?_)
          obtain ⟨v57, ev57⟩ : ∃ z, z = up2 v46 412 y1.toNatClampNeg x56 := ⟨_, rfl⟩
          rw [← ev57] at hw
          have hG := bnd_use ev57 hG
          have hI58 : Inv v57 := by rw [ev57]; exact Inv.put0 hI47 _ rfl
          have hK59 : Kp kp_X11_putBack_400 v v57 := by rw [ev57]; exact Kp.put hK48 _ (by unfold kp_X11_putBack_400; omega)
          have hm60 : v57 400 1 = x1 := by rw [ev57, up2_n _ _ (by omega)]; exact hm49
          refine lv_aload_n hx hb d_X11_putBack_93 rfl (lv_at hl 0 rfl) ?_
          refine r_getr (r := 413) X hw FL_X11_40 (rfl : KD 400 = _) rfl d_X11_putBack_94 ?_
          refine lv_iload_n hx hb d_X11_putBack_97 rfl (lv_at hl 1 rfl) ?_
          refine lv_aload_n hx hb d_X11_putBack_98 rfl (lv_at hl 0 rfl) ?_
          refine r_getr (r := 447) X hw FL_X11_121 (rfl : KD 400 = _) rfl d_X11_putBack_99 ?_
          refine lv_bipush (v := 9) hx hb d_X11_putBack_102 (by decide) ?_
          refine lv_iload_n hx hb d_X11_putBack_104 rfl (lv_at hl 1 rfl) ?_
          refine lv_imul hx hb d_X11_putBack_105 ?_
          refine lv_topi (fun x61 ex61 => ?_)
          have hG := bnd_use ex61 hG
          have r62 : Rg x61 0 171 := rg_mulc ex61 (⟨by decide, by decide⟩ : Rg 9 9 9) r7 (by decide) (by decide) (by decide)
          have s63 : x61.toInt = 9 * y1.toInt := rg_mule ex61 r7 rfl (by decide) (by decide)
          refine lv_iconst (v := 5) hx hb d_X11_putBack_106 (by decide) ?_
          refine lv_iadd hx hb d_X11_putBack_107 ?_
          refine lv_topi (fun x64 ex64 => ?_)
          have hG := bnd_use ex64 hG
          have r65 : Rg x64 5 176 := rg_add ex64 r62 (⟨by decide, by decide⟩ : Rg 5 5 5) (by decide) (by decide)
          have s66 : x64.toInt = x61.toInt + (5 : Int32).toInt := by rw [ex64]; exact i_add (by obtain ⟨_, _⟩ := r62; obtain ⟨_, _⟩ := (⟨by decide, by decide⟩ : Rg 5 5 5); omega) (by obtain ⟨_, _⟩ := r62; obtain ⟨_, _⟩ := (⟨by decide, by decide⟩ : Rg 5 5 5); omega)
          have s66l : (5 : Int32).toInt = 5 := rfl
          refine r_iald X hw (rfl : KD 447 = _) (Rg.vp (b := 176) (rg_w r65 (by decide) (by decide)) (by decide)) rfl d_X11_putBack_108 ?_
          refine lv_topi (fun x67 ex67 => ?_)
          have hG := bnd_use ex67 hG
          refine r_iast X hw hS (rfl : KD 413 = _) (Rg.vp (b := 19) r7 (by decide)) rfl d_X11_putBack_109 (fun H locs hw hS => ?_)
          obtain ⟨v68, ev68⟩ : ∃ z, z = up2 v57 413 y1.toNatClampNeg x67 := ⟨_, rfl⟩
          rw [← ev68] at hw
          have hG := bnd_use ev68 hG
          have hI69 : Inv v68 := by rw [ev68]; exact Inv.put0 hI58 _ rfl
          have hK70 : Kp kp_X11_putBack_400 v v68 := by rw [ev68]; exact Kp.put hK59 _ (by unfold kp_X11_putBack_400; omega)
          have hm71 : v68 400 1 = x1 := by rw [ev68, up2_n _ _ (by omega)]; exact hm60
          refine lv_aload_n hx hb d_X11_putBack_110 rfl (lv_at hl 0 rfl) ?_
          refine r_getr (r := 414) X hw FL_X11_43 (rfl : KD 400 = _) rfl d_X11_putBack_111 ?_
          refine lv_iload_n hx hb d_X11_putBack_114 rfl (lv_at hl 1 rfl) ?_
          refine lv_aload_n hx hb d_X11_putBack_115 rfl (lv_at hl 0 rfl) ?_
          refine r_getr (r := 447) X hw FL_X11_121 (rfl : KD 400 = _) rfl d_X11_putBack_116 ?_
          refine lv_bipush (v := 9) hx hb d_X11_putBack_119 (by decide) ?_
          refine lv_iload_n hx hb d_X11_putBack_121 rfl (lv_at hl 1 rfl) ?_
          refine lv_imul hx hb d_X11_putBack_122 ?_
          refine lv_topi (fun x72 ex72 => ?_)
          have hG := bnd_use ex72 hG
          have r73 : Rg x72 0 171 := rg_mulc ex72 (⟨by decide, by decide⟩ : Rg 9 9 9) r7 (by decide) (by decide) (by decide)
          have s74 : x72.toInt = 9 * y1.toInt := rg_mule ex72 r7 rfl (by decide) (by decide)
          refine lv_bipush (v := 6) hx hb d_X11_putBack_123 (by decide) ?_
          refine lv_iadd hx hb d_X11_putBack_125 ?_
          refine lv_topi (fun x75 ex75 => ?_)
          have hG := bnd_use ex75 hG
          have r76 : Rg x75 6 177 := rg_add ex75 r73 (⟨by decide, by decide⟩ : Rg 6 6 6) (by decide) (by decide)
          have s77 : x75.toInt = x72.toInt + (6 : Int32).toInt := by rw [ex75]; exact i_add (by obtain ⟨_, _⟩ := r73; obtain ⟨_, _⟩ := (⟨by decide, by decide⟩ : Rg 6 6 6); omega) (by obtain ⟨_, _⟩ := r73; obtain ⟨_, _⟩ := (⟨by decide, by decide⟩ : Rg 6 6 6); omega)
          have s77l : (6 : Int32).toInt = 6 := rfl
          refine r_iald X hw (rfl : KD 447 = _) (Rg.vp (b := 177) (rg_w r76 (by decide) (by decide)) (by decide)) rfl d_X11_putBack_126 ?_
          refine lv_topi (fun x78 ex78 => ?_)
          have hG := bnd_use ex78 hG
          refine r_iast X hw hS (rfl : KD 414 = _) (Rg.vp (b := 19) r7 (by decide)) rfl d_X11_putBack_127 (fun H locs hw hS => ?_)
          obtain ⟨v79, ev79⟩ : ∃ z, z = up2 v68 414 y1.toNatClampNeg x78 := ⟨_, rfl⟩
          rw [← ev79] at hw
          have hG := bnd_use ev79 hG
          have hI80 : Inv v79 := by rw [ev79]; exact Inv.put0 hI69 _ rfl
          have hK81 : Kp kp_X11_putBack_400 v v79 := by rw [ev79]; exact Kp.put hK70 _ (by unfold kp_X11_putBack_400; omega)
          have hm82 : v79 400 1 = x1 := by rw [ev79, up2_n _ _ (by omega)]; exact hm71
          refine lv_aload_n hx hb d_X11_putBack_128 rfl (lv_at hl 0 rfl) ?_
          refine r_getr (r := 415) X hw FL_X11_46 (rfl : KD 400 = _) rfl d_X11_putBack_129 ?_
          refine lv_iload_n hx hb d_X11_putBack_132 rfl (lv_at hl 1 rfl) ?_
          refine lv_aload_n hx hb d_X11_putBack_133 rfl (lv_at hl 0 rfl) ?_
          refine r_getr (r := 447) X hw FL_X11_121 (rfl : KD 400 = _) rfl d_X11_putBack_134 ?_
          refine lv_bipush (v := 9) hx hb d_X11_putBack_137 (by decide) ?_
          refine lv_iload_n hx hb d_X11_putBack_139 rfl (lv_at hl 1 rfl) ?_
          refine lv_imul hx hb d_X11_putBack_140 ?_
          refine lv_topi (fun x83 ex83 => ?_)
          have hG := bnd_use ex83 hG
          have r84 : Rg x83 0 171 := rg_mulc ex83 (⟨by decide, by decide⟩ : Rg 9 9 9) r7 (by decide) (by decide) (by decide)
          have s85 : x83.toInt = 9 * y1.toInt := rg_mule ex83 r7 rfl (by decide) (by decide)
          refine lv_bipush (v := 7) hx hb d_X11_putBack_141 (by decide) ?_
          refine lv_iadd hx hb d_X11_putBack_143 ?_
          refine lv_topi (fun x86 ex86 => ?_)
          have hG := bnd_use ex86 hG
          have r87 : Rg x86 7 178 := rg_add ex86 r84 (⟨by decide, by decide⟩ : Rg 7 7 7) (by decide) (by decide)
          have s88 : x86.toInt = x83.toInt + (7 : Int32).toInt := by rw [ex86]; exact i_add (by obtain ⟨_, _⟩ := r84; obtain ⟨_, _⟩ := (⟨by decide, by decide⟩ : Rg 7 7 7); omega) (by obtain ⟨_, _⟩ := r84; obtain ⟨_, _⟩ := (⟨by decide, by decide⟩ : Rg 7 7 7); omega)
          have s88l : (7 : Int32).toInt = 7 := rfl
          refine r_iald X hw (rfl : KD 447 = _) (Rg.vp (b := 178) (rg_w r87 (by decide) (by decide)) (by decide)) rfl d_X11_putBack_144 ?_
          refine lv_topi (fun x89 ex89 => ?_)
          have hG := bnd_use ex89 hG
          refine r_iast X hw hS (rfl : KD 415 = _) (Rg.vp (b := 19) r7 (by decide)) rfl d_X11_putBack_145 (fun H locs hw hS => ?_)
          obtain ⟨v90, ev90⟩ : ∃ z, z = up2 v79 415 y1.toNatClampNeg x89 := ⟨_, rfl⟩
          rw [← ev90] at hw
          have hG := bnd_use ev90 hG
          have hI91 : Inv v90 := by rw [ev90]; exact Inv.put0 hI80 _ rfl
          have hK92 : Kp kp_X11_putBack_400 v v90 := by rw [ev90]; exact Kp.put hK81 _ (by unfold kp_X11_putBack_400; omega)
          have hm93 : v90 400 1 = x1 := by rw [ev90, up2_n _ _ (by omega)]; exact hm82
          obtain ⟨x94, ex94⟩ : ∃ y : Int32, y = y1 + 1 := ⟨_, rfl⟩
          have hG := bnd_use ex94 hG
          refine lv_iinc (v := x94) (lv' := [(1, .int x94), (0, .ref (ad 400))]) hx hb d_X11_putBack_146 hl (k := 1) rfl (by rw [ex94]; rfl) (by decide) rfl (fun ls hl => ?_)
          have r95 : Rg x94 1 20 := rg_add ex94 r7 (⟨by decide, by decide⟩ : Rg 1 1 1) (by decide) (by decide)
          have s96 : x94.toInt = y1.toInt + (1 : Int32).toInt := by rw [ex94]; exact i_add (by obtain ⟨_, _⟩ := r7; obtain ⟨_, _⟩ := (⟨by decide, by decide⟩ : Rg 1 1 1); omega) (by obtain ⟨_, _⟩ := r7; obtain ⟨_, _⟩ := (⟨by decide, by decide⟩ : Rg 1 1 1); omega)
          have s96l : (1 : Int32).toInt = 1 := rfl
          refine lv_goto (tgt := 2) hx hb d_X11_putBack_149 (by decide) ?_
          exact ih0 x94 v90 _ _ _ (by have := s11; have := s19; have := s22; have := s30; have := s33; have := s41; have := s44; have := s52; have := s55; have := s63; have := s66; have := s74; have := s77; have := s85; have := s88; have := s96; obtain ⟨_, _⟩ := r95; omega) (rg_w r95 (by decide) (by decide)) hI91 hK92 hG hw hS (lv_sub hl [1, 0] rfl)
      · intro y1 v1 H locs ls hmu r_y1 hI1 hK1 hG hw hS hl
        have hG : b_X11_putBack_400_154  (g_X11_putBack_400_154  n) (g_X11_putBack_400_225  n) y1 v1 = RR := hG
        unfold b_X11_putBack_400_154 at hG
        refine lv_iload_n hx hb d_X11_putBack_154 rfl (lv_at hl 1 rfl) ?_
        refine lv_bipush (v := 6) hx hb d_X11_putBack_155 (by decide) ?_
        refine lv_icmp_ge (tgt := 223) hx hb d_X11_putBack_157 (by decide) (fun c97 => ?_) (fun c97 => ?_)
        · have f98 := i_le c97
          have r99 : Rg y1 6 6 := by obtain ⟨a1, a2⟩ := r_y1; obtain ⟨b1, b2⟩ := (⟨by decide, by decide⟩ : Rg 6 6 6); have f := i_le c97; exact ⟨by omega, by omega⟩
          have hG := g_pos c97 hG
          refine lv_iconst (v := 0) hx hb d_X11_putBack_223 (by decide) ?_
          refine lv_istore_n (lv' := [(1, .int 0), (0, .ref (ad 400))]) hx hb d_X11_putBack_224 rfl hl (by decide) rfl (fun ls hl => ?_)
          exact ih2 0 v1 _ _ _ (by obtain ⟨_, _⟩ := (⟨by decide, by decide⟩ : Rg 0 0 0); omega) (rg_w (⟨by decide, by decide⟩ : Rg 0 0 0) (by decide) (by decide)) hI1 hK1 hG hw hS (lv_sub hl [1, 0] rfl)
        · have f100 := i_nle c97
          have r101 : Rg y1 0 5 := by obtain ⟨a1, a2⟩ := r_y1; obtain ⟨b1, b2⟩ := (⟨by decide, by decide⟩ : Rg 6 6 6); have f := i_nle c97; exact ⟨by omega, by omega⟩
          have hG := g_neg c97 hG
          refine lv_aload_n hx hb d_X11_putBack_160 rfl (lv_at hl 0 rfl) ?_
          refine r_getr (r := 421) X hw FL_X11_61 (rfl : KD 400 = _) rfl d_X11_putBack_161 ?_
          refine lv_iload_n hx hb d_X11_putBack_164 rfl (lv_at hl 1 rfl) ?_
          refine lv_aload_n hx hb d_X11_putBack_165 rfl (lv_at hl 0 rfl) ?_
          refine r_getr (r := 448) X hw FL_X11_124 (rfl : KD 400 = _) rfl d_X11_putBack_166 ?_
          refine lv_iload_n hx hb d_X11_putBack_169 rfl (lv_at hl 1 rfl) ?_
          refine r_iald X hw (rfl : KD 448 = _) (Rg.vp (b := 5) r101 (by decide)) rfl d_X11_putBack_170 ?_
          refine lv_topi (fun x102 ex102 => ?_)
          have hG := bnd_use ex102 hG
          refine r_iast X hw hS (rfl : KD 421 = _) (Rg.vp (b := 5) r101 (by decide)) rfl d_X11_putBack_171 (fun H locs hw hS => ?_)
          obtain ⟨v103, ev103⟩ : ∃ z, z = up2 v1 421 y1.toNatClampNeg x102 := ⟨_, rfl⟩
          rw [← ev103] at hw
          have hG := bnd_use ev103 hG
          have hI104 : Inv v103 := by rw [ev103]; exact Inv.put0 hI1 _ rfl
          have hK105 : Kp kp_X11_putBack_400 v v103 := by rw [ev103]; exact Kp.put hK1 _ (by unfold kp_X11_putBack_400; omega)
          refine lv_aload_n hx hb d_X11_putBack_172 rfl (lv_at hl 0 rfl) ?_
          refine r_getr (r := 422) X hw FL_X11_64 (rfl : KD 400 = _) rfl d_X11_putBack_173 ?_
          refine lv_iload_n hx hb d_X11_putBack_176 rfl (lv_at hl 1 rfl) ?_
          refine lv_aload_n hx hb d_X11_putBack_177 rfl (lv_at hl 0 rfl) ?_
          refine r_getr (r := 448) X hw FL_X11_124 (rfl : KD 400 = _) rfl d_X11_putBack_178 ?_
          refine lv_bipush (v := 6) hx hb d_X11_putBack_181 (by decide) ?_
          refine lv_iload_n hx hb d_X11_putBack_183 rfl (lv_at hl 1 rfl) ?_
          refine lv_iadd hx hb d_X11_putBack_184 ?_
          refine lv_topi (fun x106 ex106 => ?_)
          have hG := bnd_use ex106 hG
          have r107 : Rg x106 6 11 := rg_add ex106 (⟨by decide, by decide⟩ : Rg 6 6 6) r101 (by decide) (by decide)
          have s108 : x106.toInt = (6 : Int32).toInt + (y1 : Int32).toInt := by rw [ex106]; exact i_add (by obtain ⟨_, _⟩ := (⟨by decide, by decide⟩ : Rg 6 6 6); obtain ⟨_, _⟩ := r101; omega) (by obtain ⟨_, _⟩ := (⟨by decide, by decide⟩ : Rg 6 6 6); obtain ⟨_, _⟩ := r101; omega)
          have s108a : (6 : Int32).toInt = 6 := rfl
          refine r_iald X hw (rfl : KD 448 = _) (Rg.vp (b := 11) (rg_w r107 (by decide) (by decide)) (by decide)) rfl d_X11_putBack_185 ?_
          refine lv_topi (fun x109 ex109 => ?_)
          have hG := bnd_use ex109 hG
          refine r_iast X hw hS (rfl : KD 422 = _) (Rg.vp (b := 5) r101 (by decide)) rfl d_X11_putBack_186 (fun H locs hw hS => ?_)
          obtain ⟨v110, ev110⟩ : ∃ z, z = up2 v103 422 y1.toNatClampNeg x109 := ⟨_, rfl⟩
          rw [← ev110] at hw
          have hG := bnd_use ev110 hG
          have hI111 : Inv v110 := by rw [ev110]; exact Inv.put0 hI104 _ rfl
          have hK112 : Kp kp_X11_putBack_400 v v110 := by rw [ev110]; exact Kp.put hK105 _ (by unfold kp_X11_putBack_400; omega)
          refine lv_aload_n hx hb d_X11_putBack_187 rfl (lv_at hl 0 rfl) ?_
          refine r_getr (r := 423) X hw FL_X11_67 (rfl : KD 400 = _) rfl d_X11_putBack_188 ?_
          refine lv_iload_n hx hb d_X11_putBack_191 rfl (lv_at hl 1 rfl) ?_
          refine lv_aload_n hx hb d_X11_putBack_192 rfl (lv_at hl 0 rfl) ?_
          refine r_getr (r := 448) X hw FL_X11_124 (rfl : KD 400 = _) rfl d_X11_putBack_193 ?_
          refine lv_bipush (v := 12) hx hb d_X11_putBack_196 (by decide) ?_
          refine lv_iload_n hx hb d_X11_putBack_198 rfl (lv_at hl 1 rfl) ?_
          refine lv_iadd hx hb d_X11_putBack_199 ?_
          refine lv_topi (fun x113 ex113 => ?_)
          have hG := bnd_use ex113 hG
          have r114 : Rg x113 12 17 := rg_add ex113 (⟨by decide, by decide⟩ : Rg 12 12 12) r101 (by decide) (by decide)
          have s115 : x113.toInt = (12 : Int32).toInt + (y1 : Int32).toInt := by rw [ex113]; exact i_add (by obtain ⟨_, _⟩ := (⟨by decide, by decide⟩ : Rg 12 12 12); obtain ⟨_, _⟩ := r101; omega) (by obtain ⟨_, _⟩ := (⟨by decide, by decide⟩ : Rg 12 12 12); obtain ⟨_, _⟩ := r101; omega)
          have s115a : (12 : Int32).toInt = 12 := rfl
          refine r_iald X hw (rfl : KD 448 = _) (Rg.vp (b := 17) (rg_w r114 (by decide) (by decide)) (by decide)) rfl d_X11_putBack_200 ?_
          refine lv_topi (fun x116 ex116 => ?_)
          have hG := bnd_use ex116 hG
          refine r_iast X hw hS (rfl : KD 423 = _) (Rg.vp (b := 5) r101 (by decide)) rfl d_X11_putBack_201 (fun H locs hw hS => ?_)
          obtain ⟨v117, ev117⟩ : ∃ z, z = up2 v110 423 y1.toNatClampNeg x116 := ⟨_, rfl⟩
          rw [← ev117] at hw
          have hG := bnd_use ev117 hG
          have hI118 : Inv v117 := by rw [ev117]; exact Inv.put0 hI111 _ rfl
          have hK119 : Kp kp_X11_putBack_400 v v117 := by rw [ev117]; exact Kp.put hK112 _ (by unfold kp_X11_putBack_400; omega)
          refine lv_aload_n hx hb d_X11_putBack_202 rfl (lv_at hl 0 rfl) ?_
          refine r_getr (r := 424) X hw FL_X11_70 (rfl : KD 400 = _) rfl d_X11_putBack_203 ?_
          refine lv_iload_n hx hb d_X11_putBack_206 rfl (lv_at hl 1 rfl) ?_
          refine lv_aload_n hx hb d_X11_putBack_207 rfl (lv_at hl 0 rfl) ?_
          refine r_getr (r := 448) X hw FL_X11_124 (rfl : KD 400 = _) rfl d_X11_putBack_208 ?_
          refine lv_bipush (v := 18) hx hb d_X11_putBack_211 (by decide) ?_
          refine lv_iload_n hx hb d_X11_putBack_213 rfl (lv_at hl 1 rfl) ?_
          refine lv_iadd hx hb d_X11_putBack_214 ?_
          refine lv_topi (fun x120 ex120 => ?_)
          have hG := bnd_use ex120 hG
          have r121 : Rg x120 18 23 := rg_add ex120 (⟨by decide, by decide⟩ : Rg 18 18 18) r101 (by decide) (by decide)
          have s122 : x120.toInt = (18 : Int32).toInt + (y1 : Int32).toInt := by rw [ex120]; exact i_add (by obtain ⟨_, _⟩ := (⟨by decide, by decide⟩ : Rg 18 18 18); obtain ⟨_, _⟩ := r101; omega) (by obtain ⟨_, _⟩ := (⟨by decide, by decide⟩ : Rg 18 18 18); obtain ⟨_, _⟩ := r101; omega)
          have s122a : (18 : Int32).toInt = 18 := rfl
          refine r_iald X hw (rfl : KD 448 = _) (Rg.vp (b := 23) (rg_w r121 (by decide) (by decide)) (by decide)) rfl d_X11_putBack_215 ?_
          refine lv_topi (fun x123 ex123 => ?_)
          have hG := bnd_use ex123 hG
          refine r_iast X hw hS (rfl : KD 424 = _) (Rg.vp (b := 5) r101 (by decide)) rfl d_X11_putBack_216 (fun H locs hw hS => ?_)
          obtain ⟨v124, ev124⟩ : ∃ z, z = up2 v117 424 y1.toNatClampNeg x123 := ⟨_, rfl⟩
          rw [← ev124] at hw
          have hG := bnd_use ev124 hG
          have hI125 : Inv v124 := by rw [ev124]; exact Inv.put0 hI118 _ rfl
          have hK126 : Kp kp_X11_putBack_400 v v124 := by rw [ev124]; exact Kp.put hK119 _ (by unfold kp_X11_putBack_400; omega)
          obtain ⟨x127, ex127⟩ : ∃ y : Int32, y = y1 + 1 := ⟨_, rfl⟩
          have hG := bnd_use ex127 hG
          refine lv_iinc (v := x127) (lv' := [(1, .int x127), (0, .ref (ad 400))]) hx hb d_X11_putBack_217 hl (k := 1) rfl (by rw [ex127]; rfl) (by decide) rfl (fun ls hl => ?_)
          have r128 : Rg x127 1 6 := rg_add ex127 r101 (⟨by decide, by decide⟩ : Rg 1 1 1) (by decide) (by decide)
          have s129 : x127.toInt = y1.toInt + (1 : Int32).toInt := by rw [ex127]; exact i_add (by obtain ⟨_, _⟩ := r101; obtain ⟨_, _⟩ := (⟨by decide, by decide⟩ : Rg 1 1 1); omega) (by obtain ⟨_, _⟩ := r101; obtain ⟨_, _⟩ := (⟨by decide, by decide⟩ : Rg 1 1 1); omega)
          have s129l : (1 : Int32).toInt = 1 := rfl
          refine lv_goto (tgt := 154) hx hb d_X11_putBack_220 (by decide) ?_
          exact ih1 x127 v124 _ _ _ (by have := s108; have := s115; have := s122; have := s129; obtain ⟨_, _⟩ := r128; omega) (rg_w r128 (by decide) (by decide)) hI125 hK126 hG hw hS (lv_sub hl [1, 0] rfl)
      · intro y1 v1 H locs ls hmu r_y1 hI1 hK1 hG hw hS hl
        have hG : b_X11_putBack_400_225  (g_X11_putBack_400_225  n) (g_X11_putBack_400_311  n) y1 v1 = RR := hG
        unfold b_X11_putBack_400_225 at hG
        refine lv_iload_n hx hb d_X11_putBack_225 rfl (lv_at hl 1 rfl) ?_
        refine lv_aload_n hx hb d_X11_putBack_226 rfl (lv_at hl 0 rfl) ?_
        refine r_geti X hw FL_X11_173 (rfl : KD 400 = _) rfl d_X11_putBack_227 ?_
        refine lv_topi (fun x130 ex130 => ?_)
        have hG := bnd_use ex130 hG
        have r131 : Rg x130 0 10 := by rw [ex130]; exact hI1 _ _ _ _ rfl
        have hm132 : v1 400 15 = x130 := ex130.symm
        refine lv_icmp_ge (tgt := 254) hx hb d_X11_putBack_230 (by decide) (fun c133 => ?_) (fun c133 => ?_)
        · have f134 := i_le c133
          have hG := g_pos c133 hG
          refine lv_aload_n hx hb d_X11_putBack_254 rfl (lv_at hl 0 rfl) ?_
          refine lv_aload_n hx hb d_X11_putBack_255 rfl (lv_at hl 0 rfl) ?_
          refine r_getr (r := 448) X hw FL_X11_124 (rfl : KD 400 = _) rfl d_X11_putBack_256 ?_
          refine lv_bipush (v := 34) hx hb d_X11_putBack_259 (by decide) ?_
          refine r_iald X hw (rfl : KD 448 = _) (Rg.vp (b := 34) (rg_w (⟨by decide, by decide⟩ : Rg 34 34 34) (by decide) (by decide)) (by decide)) rfl d_X11_putBack_261 ?_
          refine lv_topi (fun x135 ex135 => ?_)
          have hG := bnd_use ex135 hG
          refine r_put X hw hS FP_X11_227 (rfl : KD 400 = _) rfl ⟨rfl, rfl⟩ d_X11_putBack_262 (fun H locs hw hS => ?_)
          obtain ⟨v136, ev136⟩ : ∃ z, z = up2 v1 400 25 x135 := ⟨_, rfl⟩
          rw [← ev136] at hw
          have hG := bnd_use ev136 hG
          have hI137 : Inv v136 := by rw [ev136]; exact Inv.put0 hI1 _ rfl
          have hK138 : Kp kp_X11_putBack_400 v v136 := by rw [ev136]; exact Kp.put hK1 _ (by unfold kp_X11_putBack_400; omega)
          have hm139 : v136 400 15 = x130 := by rw [ev136, up2_n _ _ (by omega)]; exact hm132
          refine lv_aload_n hx hb d_X11_putBack_265 rfl (lv_at hl 0 rfl) ?_
          refine lv_aload_n hx hb d_X11_putBack_266 rfl (lv_at hl 0 rfl) ?_
          refine r_getr (r := 448) X hw FL_X11_124 (rfl : KD 400 = _) rfl d_X11_putBack_267 ?_
          refine lv_bipush (v := 35) hx hb d_X11_putBack_270 (by decide) ?_
          refine r_iald X hw (rfl : KD 448 = _) (Rg.vp (b := 35) (rg_w (⟨by decide, by decide⟩ : Rg 35 35 35) (by decide) (by decide)) (by decide)) rfl d_X11_putBack_272 ?_
          refine lv_topi (fun x140 ex140 => ?_)
          have hG := bnd_use ex140 hG
          refine r_put X hw hS FP_X11_76 (rfl : KD 400 = _) rfl ⟨rfl, rfl⟩ d_X11_putBack_273 (fun H locs hw hS => ?_)
          obtain ⟨v141, ev141⟩ : ∃ z, z = up2 v136 400 26 x140 := ⟨_, rfl⟩
          rw [← ev141] at hw
          have hG := bnd_use ev141 hG
          have hI142 : Inv v141 := by rw [ev141]; exact Inv.put0 hI137 _ rfl
          have hK143 : Kp kp_X11_putBack_400 v v141 := by rw [ev141]; exact Kp.put hK138 _ (by unfold kp_X11_putBack_400; omega)
          have hm144 : v141 400 15 = x130 := by rw [ev141, up2_n _ _ (by omega)]; exact hm139
          refine lv_aload_n hx hb d_X11_putBack_276 rfl (lv_at hl 0 rfl) ?_
          refine lv_aload_n hx hb d_X11_putBack_277 rfl (lv_at hl 0 rfl) ?_
          refine r_getr (r := 448) X hw FL_X11_124 (rfl : KD 400 = _) rfl d_X11_putBack_278 ?_
          refine lv_bipush (v := 36) hx hb d_X11_putBack_281 (by decide) ?_
          refine r_iald X hw (rfl : KD 448 = _) (Rg.vp (b := 36) (rg_w (⟨by decide, by decide⟩ : Rg 36 36 36) (by decide) (by decide)) (by decide)) rfl d_X11_putBack_283 ?_
          refine lv_topi (fun x145 ex145 => ?_)
          have hG := bnd_use ex145 hG
          have r146 : Rg x145 0 200 := by rw [ex145]; exact hI142 _ _ _ _ rfl
          refine r_put X hw hS FP_X11_243 (rfl : KD 400 = _) rfl ⟨rfl, rfl⟩ d_X11_putBack_284 (fun H locs hw hS => ?_)
          obtain ⟨v147, ev147⟩ : ∃ z, z = up2 v141 400 27 x145 := ⟨_, rfl⟩
          rw [← ev147] at hw
          have hG := bnd_use ev147 hG
          have hI148 : Inv v147 := by rw [ev147]; exact Inv.putr hI142 rfl r146
          have hK149 : Kp kp_X11_putBack_400 v v147 := by rw [ev147]; exact Kp.put hK143 _ (by unfold kp_X11_putBack_400; omega)
          have hm150 : v147 400 15 = x130 := by rw [ev147, up2_n _ _ (by omega)]; exact hm144
          have hm151 : v147 400 27 = x145 := by rw [ev147, up2_s]
          refine lv_aload_n hx hb d_X11_putBack_287 rfl (lv_at hl 0 rfl) ?_
          refine lv_aload_n hx hb d_X11_putBack_288 rfl (lv_at hl 0 rfl) ?_
          refine r_getr (r := 448) X hw FL_X11_124 (rfl : KD 400 = _) rfl d_X11_putBack_289 ?_
          refine lv_bipush (v := 37) hx hb d_X11_putBack_292 (by decide) ?_
          refine r_iald X hw (rfl : KD 448 = _) (Rg.vp (b := 37) (rg_w (⟨by decide, by decide⟩ : Rg 37 37 37) (by decide) (by decide)) (by decide)) rfl d_X11_putBack_294 ?_
          refine lv_topi (fun x152 ex152 => ?_)
          have hG := bnd_use ex152 hG
          refine r_put X hw hS FP_X11_246 (rfl : KD 400 = _) rfl ⟨rfl, rfl⟩ d_X11_putBack_295 (fun H locs hw hS => ?_)
          obtain ⟨v153, ev153⟩ : ∃ z, z = up2 v147 400 58 x152 := ⟨_, rfl⟩
          rw [← ev153] at hw
          have hG := bnd_use ev153 hG
          have hI154 : Inv v153 := by rw [ev153]; exact Inv.put0 hI148 _ rfl
          have hK155 : Kp kp_X11_putBack_400 v v153 := by rw [ev153]; exact Kp.put hK149 _ (by unfold kp_X11_putBack_400; omega)
          have hm156 : v153 400 15 = x130 := by rw [ev153, up2_n _ _ (by omega)]; exact hm150
          have hm157 : v153 400 27 = x145 := by rw [ev153, up2_n _ _ (by omega)]; exact hm151
          refine lv_aload_n hx hb d_X11_putBack_298 rfl (lv_at hl 0 rfl) ?_
          refine lv_aload_n hx hb d_X11_putBack_299 rfl (lv_at hl 0 rfl) ?_
          refine r_getr (r := 448) X hw FL_X11_124 (rfl : KD 400 = _) rfl d_X11_putBack_300 ?_
          refine lv_bipush (v := 38) hx hb d_X11_putBack_303 (by decide) ?_
          refine r_iald X hw (rfl : KD 448 = _) (Rg.vp (b := 38) (rg_w (⟨by decide, by decide⟩ : Rg 38 38 38) (by decide) (by decide)) (by decide)) rfl d_X11_putBack_305 ?_
          refine lv_topi (fun x158 ex158 => ?_)
          have hG := bnd_use ex158 hG
          refine r_put X hw hS FP_X11_249 (rfl : KD 400 = _) rfl ⟨rfl, rfl⟩ d_X11_putBack_306 (fun H locs hw hS => ?_)
          obtain ⟨v159, ev159⟩ : ∃ z, z = up2 v153 400 59 x158 := ⟨_, rfl⟩
          rw [← ev159] at hw
          have hG := bnd_use ev159 hG
          have hI160 : Inv v159 := by rw [ev159]; exact Inv.put0 hI154 _ rfl
          have hK161 : Kp kp_X11_putBack_400 v v159 := by rw [ev159]; exact Kp.put hK155 _ (by unfold kp_X11_putBack_400; omega)
          have hm162 : v159 400 15 = x130 := by rw [ev159, up2_n _ _ (by omega)]; exact hm156
          have hm163 : v159 400 27 = x145 := by rw [ev159, up2_n _ _ (by omega)]; exact hm157
          refine lv_iconst (v := 0) hx hb d_X11_putBack_309 (by decide) ?_
          refine lv_istore_n (lv' := [(1, .int 0), (0, .ref (ad 400))]) hx hb d_X11_putBack_310 rfl hl (by decide) rfl (fun ls hl => ?_)
          exact ih3 0 v159 _ _ _ (by obtain ⟨_, _⟩ := (⟨by decide, by decide⟩ : Rg 0 0 0); omega) (rg_w (⟨by decide, by decide⟩ : Rg 0 0 0) (by decide) (by decide)) hI160 hK161 hG hw hS (lv_sub hl [1, 0] rfl)
        · have f164 := i_nle c133
          have r165 : Rg y1 0 9 := by obtain ⟨a1, a2⟩ := r_y1; obtain ⟨b1, b2⟩ := r131; have f := i_nle c133; exact ⟨by omega, by omega⟩
          have r166 : Rg x130 1 10 := by obtain ⟨a1, a2⟩ := r_y1; obtain ⟨b1, b2⟩ := r131; have f := i_nle c133; exact ⟨by omega, by omega⟩
          have hG := g_neg c133 hG
          refine lv_aload_n hx hb d_X11_putBack_233 rfl (lv_at hl 0 rfl) ?_
          refine r_getr (r := 419) X hw FL_X11_55 (rfl : KD 400 = _) rfl d_X11_putBack_234 ?_
          refine lv_iload_n hx hb d_X11_putBack_237 rfl (lv_at hl 1 rfl) ?_
          refine lv_aload_n hx hb d_X11_putBack_238 rfl (lv_at hl 0 rfl) ?_
          refine r_getr (r := 448) X hw FL_X11_124 (rfl : KD 400 = _) rfl d_X11_putBack_239 ?_
          refine lv_bipush (v := 24) hx hb d_X11_putBack_242 (by decide) ?_
          refine lv_iload_n hx hb d_X11_putBack_244 rfl (lv_at hl 1 rfl) ?_
          refine lv_iadd hx hb d_X11_putBack_245 ?_
          refine lv_topi (fun x167 ex167 => ?_)
          have hG := bnd_use ex167 hG
          have r168 : Rg x167 24 33 := rg_add ex167 (⟨by decide, by decide⟩ : Rg 24 24 24) r165 (by decide) (by decide)
          have s169 : x167.toInt = (24 : Int32).toInt + (y1 : Int32).toInt := by rw [ex167]; exact i_add (by obtain ⟨_, _⟩ := (⟨by decide, by decide⟩ : Rg 24 24 24); obtain ⟨_, _⟩ := r165; omega) (by obtain ⟨_, _⟩ := (⟨by decide, by decide⟩ : Rg 24 24 24); obtain ⟨_, _⟩ := r165; omega)
          have s169a : (24 : Int32).toInt = 24 := rfl
          refine r_iald X hw (rfl : KD 448 = _) (Rg.vp (b := 33) (rg_w r168 (by decide) (by decide)) (by decide)) rfl d_X11_putBack_246 ?_
          refine lv_topi (fun x170 ex170 => ?_)
          have hG := bnd_use ex170 hG
          refine r_iast X hw hS (rfl : KD 419 = _) (Rg.vp (b := 9) r165 (by decide)) rfl d_X11_putBack_247 (fun H locs hw hS => ?_)
          obtain ⟨v171, ev171⟩ : ∃ z, z = up2 v1 419 y1.toNatClampNeg x170 := ⟨_, rfl⟩
          rw [← ev171] at hw
          have hG := bnd_use ev171 hG
          have hI172 : Inv v171 := by rw [ev171]; exact Inv.put0 hI1 _ rfl
          have hK173 : Kp kp_X11_putBack_400 v v171 := by rw [ev171]; exact Kp.put hK1 _ (by unfold kp_X11_putBack_400; omega)
          have hm174 : v171 400 15 = x130 := by rw [ev171, up2_n _ _ (by omega)]; exact hm132
          obtain ⟨x175, ex175⟩ : ∃ y : Int32, y = y1 + 1 := ⟨_, rfl⟩
          have hG := bnd_use ex175 hG
          refine lv_iinc (v := x175) (lv' := [(1, .int x175), (0, .ref (ad 400))]) hx hb d_X11_putBack_248 hl (k := 1) rfl (by rw [ex175]; rfl) (by decide) rfl (fun ls hl => ?_)
          have r176 : Rg x175 1 10 := rg_add ex175 r165 (⟨by decide, by decide⟩ : Rg 1 1 1) (by decide) (by decide)
          have s177 : x175.toInt = y1.toInt + (1 : Int32).toInt := by rw [ex175]; exact i_add (by obtain ⟨_, _⟩ := r165; obtain ⟨_, _⟩ := (⟨by decide, by decide⟩ : Rg 1 1 1); omega) (by obtain ⟨_, _⟩ := r165; obtain ⟨_, _⟩ := (⟨by decide, by decide⟩ : Rg 1 1 1); omega)
          have s177l : (1 : Int32).toInt = 1 := rfl
          refine lv_goto (tgt := 225) hx hb d_X11_putBack_251 (by decide) ?_
          exact ih2 x175 v171 _ _ _ (by have := s169; have := s177; obtain ⟨_, _⟩ := r176; omega) (rg_w r176 (by decide) (by decide)) hI172 hK173 hG hw hS (lv_sub hl [1, 0] rfl)
      · intro y1 v1 H locs ls hmu r_y1 hI1 hK1 hG hw hS hl
        have hG : b_X11_putBack_400_311  (g_X11_putBack_400_311  n) y1 v1 = RR := hG
        unfold b_X11_putBack_400_311 at hG
        refine lv_iload_n hx hb d_X11_putBack_311 rfl (lv_at hl 1 rfl) ?_
        refine lv_aload_n hx hb d_X11_putBack_312 rfl (lv_at hl 0 rfl) ?_
        refine r_geti X hw FL_X11_243 (rfl : KD 400 = _) rfl d_X11_putBack_313 ?_
        refine lv_topi (fun x178 ex178 => ?_)
        have hG := bnd_use ex178 hG
        have r179 : Rg x178 0 200 := by rw [ex178]; exact hI1 _ _ _ _ rfl
        have hm180 : v1 400 27 = x178 := ex178.symm
        refine lv_icmp_ge (tgt := 387) hx hb d_X11_putBack_316 (by decide) (fun c181 => ?_) (fun c181 => ?_)
        · have f182 := i_le c181
          have hG := g_pos c181 hG
          exact r_vret X hr hlocks hw hS ⟨⟨hI1, hK1⟩, hG.trans eRR.symm⟩ d_X11_putBack_387
        · have f183 := i_nle c181
          have r184 : Rg y1 0 199 := by obtain ⟨a1, a2⟩ := r_y1; obtain ⟨b1, b2⟩ := r179; have f := i_nle c181; exact ⟨by omega, by omega⟩
          have r185 : Rg x178 1 200 := by obtain ⟨a1, a2⟩ := r_y1; obtain ⟨b1, b2⟩ := r179; have f := i_nle c181; exact ⟨by omega, by omega⟩
          have hG := g_neg c181 hG
          refine lv_aload_n hx hb d_X11_putBack_319 rfl (lv_at hl 0 rfl) ?_
          refine r_getr (r := 429) X hw FL_X11_80 (rfl : KD 400 = _) rfl d_X11_putBack_320 ?_
          refine lv_iload_n hx hb d_X11_putBack_323 rfl (lv_at hl 1 rfl) ?_
          refine lv_aload_n hx hb d_X11_putBack_324 rfl (lv_at hl 0 rfl) ?_
          refine r_getr (r := 449) X hw FL_X11_127 (rfl : KD 400 = _) rfl d_X11_putBack_325 ?_
          refine lv_iconst (v := 4) hx hb d_X11_putBack_328 (by decide) ?_
          refine lv_iload_n hx hb d_X11_putBack_329 rfl (lv_at hl 1 rfl) ?_
          refine lv_imul hx hb d_X11_putBack_330 ?_
          refine lv_topi (fun x186 ex186 => ?_)
          have hG := bnd_use ex186 hG
          have r187 : Rg x186 0 796 := rg_mulc ex186 (⟨by decide, by decide⟩ : Rg 4 4 4) r184 (by decide) (by decide) (by decide)
          have s188 : x186.toInt = 4 * y1.toInt := rg_mule ex186 r184 rfl (by decide) (by decide)
          refine r_iald X hw (rfl : KD 449 = _) (Rg.vp (b := 796) r187 (by decide)) rfl d_X11_putBack_331 ?_
          refine lv_topi (fun x189 ex189 => ?_)
          have hG := bnd_use ex189 hG
          have r190 : Rg x189 0 19 := by rw [ex189]; exact hI1 _ _ _ _ (RG_kb0 (by have := Rg.clamp (b := 796) r187; omega))
          refine r_iast X hw hS (rfl : KD 429 = _) (Rg.vp (b := 199) r184 (by decide)) rfl d_X11_putBack_332 (fun H locs hw hS => ?_)
          obtain ⟨v191, ev191⟩ : ∃ z, z = up2 v1 429 y1.toNatClampNeg x189 := ⟨_, rfl⟩
          rw [← ev191] at hw
          have hG := bnd_use ev191 hG
          have hI192 : Inv v191 := by rw [ev191]; exact Inv.putr hI1 rfl r190
          have hK193 : Kp kp_X11_putBack_400 v v191 := by rw [ev191]; exact Kp.put hK1 _ (by unfold kp_X11_putBack_400; omega)
          have hm194 : v191 400 27 = x178 := by rw [ev191, up2_n _ _ (by omega)]; exact hm180
          refine lv_aload_n hx hb d_X11_putBack_333 rfl (lv_at hl 0 rfl) ?_
          refine r_getr (r := 430) X hw FL_X11_83 (rfl : KD 400 = _) rfl d_X11_putBack_334 ?_
          refine lv_iload_n hx hb d_X11_putBack_337 rfl (lv_at hl 1 rfl) ?_
          refine lv_aload_n hx hb d_X11_putBack_338 rfl (lv_at hl 0 rfl) ?_
          refine r_getr (r := 449) X hw FL_X11_127 (rfl : KD 400 = _) rfl d_X11_putBack_339 ?_
          refine lv_iconst (v := 4) hx hb d_X11_putBack_342 (by decide) ?_
          refine lv_iload_n hx hb d_X11_putBack_343 rfl (lv_at hl 1 rfl) ?_
          refine lv_imul hx hb d_X11_putBack_344 ?_
          refine lv_topi (fun x195 ex195 => ?_)
          have hG := bnd_use ex195 hG
          have r196 : Rg x195 0 796 := rg_mulc ex195 (⟨by decide, by decide⟩ : Rg 4 4 4) r184 (by decide) (by decide) (by decide)
          have s197 : x195.toInt = 4 * y1.toInt := rg_mule ex195 r184 rfl (by decide) (by decide)
          refine lv_iconst (v := 1) hx hb d_X11_putBack_345 (by decide) ?_
          refine lv_iadd hx hb d_X11_putBack_346 ?_
          refine lv_topi (fun x198 ex198 => ?_)
          have hG := bnd_use ex198 hG
          have r199 : Rg x198 1 797 := rg_add ex198 r196 (⟨by decide, by decide⟩ : Rg 1 1 1) (by decide) (by decide)
          have s200 : x198.toInt = x195.toInt + (1 : Int32).toInt := by rw [ex198]; exact i_add (by obtain ⟨_, _⟩ := r196; obtain ⟨_, _⟩ := (⟨by decide, by decide⟩ : Rg 1 1 1); omega) (by obtain ⟨_, _⟩ := r196; obtain ⟨_, _⟩ := (⟨by decide, by decide⟩ : Rg 1 1 1); omega)
          have s200l : (1 : Int32).toInt = 1 := rfl
          refine r_iald X hw (rfl : KD 449 = _) (Rg.vp (b := 797) (rg_w r199 (by decide) (by decide)) (by decide)) rfl d_X11_putBack_347 ?_
          refine lv_topi (fun x201 ex201 => ?_)
          have hG := bnd_use ex201 hG
          refine r_iast X hw hS (rfl : KD 430 = _) (Rg.vp (b := 199) r184 (by decide)) rfl d_X11_putBack_348 (fun H locs hw hS => ?_)
          obtain ⟨v202, ev202⟩ : ∃ z, z = up2 v191 430 y1.toNatClampNeg x201 := ⟨_, rfl⟩
          rw [← ev202] at hw
          have hG := bnd_use ev202 hG
          have hI203 : Inv v202 := by rw [ev202]; exact Inv.put0 hI192 _ rfl
          have hK204 : Kp kp_X11_putBack_400 v v202 := by rw [ev202]; exact Kp.put hK193 _ (by unfold kp_X11_putBack_400; omega)
          have hm205 : v202 400 27 = x178 := by rw [ev202, up2_n _ _ (by omega)]; exact hm194
          refine lv_aload_n hx hb d_X11_putBack_349 rfl (lv_at hl 0 rfl) ?_
          refine r_getr (r := 431) X hw FL_X11_86 (rfl : KD 400 = _) rfl d_X11_putBack_350 ?_
          refine lv_iload_n hx hb d_X11_putBack_353 rfl (lv_at hl 1 rfl) ?_
          refine lv_aload_n hx hb d_X11_putBack_354 rfl (lv_at hl 0 rfl) ?_
          refine r_getr (r := 449) X hw FL_X11_127 (rfl : KD 400 = _) rfl d_X11_putBack_355 ?_
          refine lv_iconst (v := 4) hx hb d_X11_putBack_358 (by decide) ?_
          refine lv_iload_n hx hb d_X11_putBack_359 rfl (lv_at hl 1 rfl) ?_
          refine lv_imul hx hb d_X11_putBack_360 ?_
          refine lv_topi (fun x206 ex206 => ?_)
          have hG := bnd_use ex206 hG
          have r207 : Rg x206 0 796 := rg_mulc ex206 (⟨by decide, by decide⟩ : Rg 4 4 4) r184 (by decide) (by decide) (by decide)
          have s208 : x206.toInt = 4 * y1.toInt := rg_mule ex206 r184 rfl (by decide) (by decide)
          refine lv_iconst (v := 2) hx hb d_X11_putBack_361 (by decide) ?_
          refine lv_iadd hx hb d_X11_putBack_362 ?_
          refine lv_topi (fun x209 ex209 => ?_)
          have hG := bnd_use ex209 hG
          have r210 : Rg x209 2 798 := rg_add ex209 r207 (⟨by decide, by decide⟩ : Rg 2 2 2) (by decide) (by decide)
          have s211 : x209.toInt = x206.toInt + (2 : Int32).toInt := by rw [ex209]; exact i_add (by obtain ⟨_, _⟩ := r207; obtain ⟨_, _⟩ := (⟨by decide, by decide⟩ : Rg 2 2 2); omega) (by obtain ⟨_, _⟩ := r207; obtain ⟨_, _⟩ := (⟨by decide, by decide⟩ : Rg 2 2 2); omega)
          have s211l : (2 : Int32).toInt = 2 := rfl
          refine r_iald X hw (rfl : KD 449 = _) (Rg.vp (b := 798) (rg_w r210 (by decide) (by decide)) (by decide)) rfl d_X11_putBack_363 ?_
          refine lv_topi (fun x212 ex212 => ?_)
          have hG := bnd_use ex212 hG
          refine r_iast X hw hS (rfl : KD 431 = _) (Rg.vp (b := 199) r184 (by decide)) rfl d_X11_putBack_364 (fun H locs hw hS => ?_)
          obtain ⟨v213, ev213⟩ : ∃ z, z = up2 v202 431 y1.toNatClampNeg x212 := ⟨_, rfl⟩
          rw [← ev213] at hw
          have hG := bnd_use ev213 hG
          have hI214 : Inv v213 := by rw [ev213]; exact Inv.put0 hI203 _ rfl
          have hK215 : Kp kp_X11_putBack_400 v v213 := by rw [ev213]; exact Kp.put hK204 _ (by unfold kp_X11_putBack_400; omega)
          have hm216 : v213 400 27 = x178 := by rw [ev213, up2_n _ _ (by omega)]; exact hm205
          refine lv_aload_n hx hb d_X11_putBack_365 rfl (lv_at hl 0 rfl) ?_
          refine r_getr (r := 432) X hw FL_X11_89 (rfl : KD 400 = _) rfl d_X11_putBack_366 ?_
          refine lv_iload_n hx hb d_X11_putBack_369 rfl (lv_at hl 1 rfl) ?_
          refine lv_aload_n hx hb d_X11_putBack_370 rfl (lv_at hl 0 rfl) ?_
          refine r_getr (r := 449) X hw FL_X11_127 (rfl : KD 400 = _) rfl d_X11_putBack_371 ?_
          refine lv_iconst (v := 4) hx hb d_X11_putBack_374 (by decide) ?_
          refine lv_iload_n hx hb d_X11_putBack_375 rfl (lv_at hl 1 rfl) ?_
          refine lv_imul hx hb d_X11_putBack_376 ?_
          refine lv_topi (fun x217 ex217 => ?_)
          have hG := bnd_use ex217 hG
          have r218 : Rg x217 0 796 := rg_mulc ex217 (⟨by decide, by decide⟩ : Rg 4 4 4) r184 (by decide) (by decide) (by decide)
          have s219 : x217.toInt = 4 * y1.toInt := rg_mule ex217 r184 rfl (by decide) (by decide)
          refine lv_iconst (v := 3) hx hb d_X11_putBack_377 (by decide) ?_
          refine lv_iadd hx hb d_X11_putBack_378 ?_
          refine lv_topi (fun x220 ex220 => ?_)
          have hG := bnd_use ex220 hG
          have r221 : Rg x220 3 799 := rg_add ex220 r218 (⟨by decide, by decide⟩ : Rg 3 3 3) (by decide) (by decide)
          have s222 : x220.toInt = x217.toInt + (3 : Int32).toInt := by rw [ex220]; exact i_add (by obtain ⟨_, _⟩ := r218; obtain ⟨_, _⟩ := (⟨by decide, by decide⟩ : Rg 3 3 3); omega) (by obtain ⟨_, _⟩ := r218; obtain ⟨_, _⟩ := (⟨by decide, by decide⟩ : Rg 3 3 3); omega)
          have s222l : (3 : Int32).toInt = 3 := rfl
          refine r_iald X hw (rfl : KD 449 = _) (Rg.vp (b := 799) (rg_w r221 (by decide) (by decide)) (by decide)) rfl d_X11_putBack_379 ?_
          refine lv_topi (fun x223 ex223 => ?_)
          have hG := bnd_use ex223 hG
          refine r_iast X hw hS (rfl : KD 432 = _) (Rg.vp (b := 199) r184 (by decide)) rfl d_X11_putBack_380 (fun H locs hw hS => ?_)
          obtain ⟨v224, ev224⟩ : ∃ z, z = up2 v213 432 y1.toNatClampNeg x223 := ⟨_, rfl⟩
          rw [← ev224] at hw
          have hG := bnd_use ev224 hG
          have hI225 : Inv v224 := by rw [ev224]; exact Inv.put0 hI214 _ rfl
          have hK226 : Kp kp_X11_putBack_400 v v224 := by rw [ev224]; exact Kp.put hK215 _ (by unfold kp_X11_putBack_400; omega)
          have hm227 : v224 400 27 = x178 := by rw [ev224, up2_n _ _ (by omega)]; exact hm216
          obtain ⟨x228, ex228⟩ : ∃ y : Int32, y = y1 + 1 := ⟨_, rfl⟩
          have hG := bnd_use ex228 hG
          refine lv_iinc (v := x228) (lv' := [(1, .int x228), (0, .ref (ad 400))]) hx hb d_X11_putBack_381 hl (k := 1) rfl (by rw [ex228]; rfl) (by decide) rfl (fun ls hl => ?_)
          have r229 : Rg x228 1 200 := rg_add ex228 r184 (⟨by decide, by decide⟩ : Rg 1 1 1) (by decide) (by decide)
          have s230 : x228.toInt = y1.toInt + (1 : Int32).toInt := by rw [ex228]; exact i_add (by obtain ⟨_, _⟩ := r184; obtain ⟨_, _⟩ := (⟨by decide, by decide⟩ : Rg 1 1 1); omega) (by obtain ⟨_, _⟩ := r184; obtain ⟨_, _⟩ := (⟨by decide, by decide⟩ : Rg 1 1 1); omega)
          have s230l : (1 : Int32).toInt = 1 := rfl
          refine lv_goto (tgt := 311) hx hb d_X11_putBack_384 (by decide) ?_
          exact ih3 x228 v224 _ _ _ (by have := s188; have := s197; have := s200; have := s208; have := s211; have := s219; have := s222; have := s230; obtain ⟨_, _⟩ := r229; omega) (rg_w r229 (by decide) (by decide)) hI225 hK226 hG hw hS (lv_sub hl [1, 0] rfl)
  obtain ⟨ih0, ih1, ih2, ih3⟩ := LL 100000
  have hK0 : Kp kp_X11_putBack_400 v v := Kp.rf _ v
  have hG := eRR
  unfold f_X11_putBack_400 at hG
  refine lv_iconst (v := 0) hx hb d_X11_putBack_0 (by decide) ?_
  refine lv_istore_n (lv' := [(1, .int 0), (0, .ref (ad 400))]) hx hb d_X11_putBack_1 rfl hl (by decide) rfl (fun ls hl => ?_)
  exact ih0 0 v _ _ _ (by obtain ⟨_, _⟩ := (⟨by decide, by decide⟩ : Rg 0 0 0); omega) (rg_w (⟨by decide, by decide⟩ : Rg 0 0 0) (by decide) (by decide)) hI hK0 hG hw hS (lv_sub hl [1, 0] rfl)
