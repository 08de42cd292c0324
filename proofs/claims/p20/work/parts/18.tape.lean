def STAB : List (Nat × String × Nat) := [(27, "turn ", 5), (41, "a", 1), (45, "sk", 2), (47, "e", 1), (49, "ntry", 4), (51, "lo", 2), (53, "t", 1), (55, "ad", 2), (37, ";sell ", 6), (68, " at ", 4), (70, "<", 1), (72, ">", 1), (78, ",", 1)]
theorem st_le : ∀ x : Nat × String × Nat, x ∈ STAB → x.2.2 ≤ 6 := by decide +kernel
def SC (sa : Nat → Nat) (A : Nat → Prop) (U : State) (H : Heap) : Prop := SZ A U H ∧ ∀ x : Nat × String × Nat, x ∈ STAB → vk_R N_X8 x.1 x.2.1 (sa x.1) U ∧ SO A (sa x.1) x.2.2 U H
theorem SC.warm {sa : Nat → Nat} {A : Nat → Prop} {s U : State} {H : Heap} (hW : s.WarmedH U.vm) (h : SC sa A s H) : SC sa A U H := ⟨h.1.moved hW.alike, fun x hx => ⟨vk_R.warm hW (h.2 x hx).1, (h.2 x hx).2.moved hW.alike⟩⟩
theorem SC.kept {sa : Nat → Nat} {A : Nat → Prop} {U : State} {H H1 : Heap} (h : SC sa A U H) (hq : ∀ a : Nat, a < H.size → ¬ A a → H1[a]? = H[a]?) : SC sa A U H1 := ⟨h.1.kept hq, fun x hx => ⟨(h.2 x hx).1, (h.2 x hx).2.kept hq⟩⟩
theorem tI.same {D : va_G} {dA : Nat → ClassId} {ad : Nat → Nat} {v : tV} {H H1 : Heap} (hk : ∀ q : Nat, q < H.size → H1[q]? = H[q]?) (hw : tI D dA ad v H) : tI D dA ad v H1 := by
  refine ⟨fun k kn h => ?_, hw.2⟩
  have h1 := hw.1 k kn h
  have hlt : ad k < H.size := by
    rcases h1 with ⟨_, r, _, cell, q1, _⟩ | ⟨_, q1⟩
    · exact (Array.getElem?_eq_some_iff.mp q1).1
    · exact (Array.getElem?_eq_some_iff.mp q1).1
  exact h1.kept (hk _ hlt)
theorem rg_ofNat {r : Int32} {L : Nat} (h : r = Int32.ofNat L) (hL : L ≤ 6) : Rg r 0 6 := by
  rw [h]
  have e : (Int32.ofNat L).toInt = (L : Int) := nI_toInt (n := L) (by omega)
  exact ⟨by rw [e]; omega, by rw [e]; omega⟩
theorem vp_lt {i r : Int32} {L : Nat} (h0 : 0 ≤ i.toInt) (h : i.toInt < r.toInt) (hr : r = Int32.ofNat L) (hL : L ≤ 6) : vp_in i L := by
  rw [hr] at h
  have e : (Int32.ofNat L).toInt = (L : Int) := nI_toInt (n := L) (by omega)
  rw [e] at h
  exact vp_in_iff.mpr ⟨h0, h⟩
def tPs (D : va_G) (dA : Nat → ClassId) (ad sa : Nat → Nat) (v : tV) (av : List Value) : Array Value → State → Prop := va_Pc av (fun U => tI D dA ad v U.heap ∧ tK D dA U ∧ SC sa (tA ad) U U.heap)
theorem tPs.blind {D : va_G} {dA : Nat → ClassId} {ad sa : Nat → Nat} {v : tV} {av : List Value} : FrameBlind (tPs D dA ad sa v av) := by
  intro a U g mk h
  obtain ⟨h1, h2, h3, h4⟩ := h
  exact ⟨h1, h2, ⟨va_K.moved (u := U) (U := U.calling g mk a) (Vm.Alike.refl U.vm) h3.1, tb_vm (u := U) (U := U.calling g mk a) rfl h3.2⟩, SC.warm (s := U) (U := U.calling g mk a) (State.WarmedH.refl U) h4⟩
theorem tMets {l : Launch} {y : MethodName} {cc : ByteArray} {maxL : Nat} {ret : Option FieldType} {rm : Room} {D : va_G} {dA : Nat → ClassId} {ad sa : Nat → Nat} {v : tV} {av : List Value} {Qc : Array Value → State → Outcome → State → Prop} (hy : plainName y.cls = true) (hlen : (lg_sl av).length ≤ maxL)
    (body : ∀ (p : Program) (e : Env) (s : State) (m : MethodId) (below : List Frame) (meth : Method) (c : Code) (ls : Array Slot), CX p s m av.toArray c cc y.cls maxL D dA → meth.sig.returnType = ret → meth.locks = false → tI D dA ad v s.heap → SC sa (tA ad) s s.heap → lv_has ls maxL (lv_args 0 av) →
      W p l e rm s m av.toArray below meth c s.heap [] 0 0 (MQ below Qc av.toArray s 0 0 (tA ad)) (F0 m 0 ls [])) : Met l y [.code y cc maxL ret] rm (tPs D dA ad sa v av) Qc 0 0 (tA ad) := by
  refine Met.ofW (cc := cc) (maxL := maxL) (ret := ret) hy rfl ?_
  intro p e s m args below meth c s₁ B hml hv
  obtain ⟨rfl, hw, hK, hC⟩ := hv
  have hl := lv_entry av (n := maxL) hlen
  rw [lg_entry_eq]
  exact body p e s m below meth c _ ⟨B.exec, B.bytes, hml, findClass_of_methodNamed B.named, tb_args hK.2, hK⟩ B.returns B.notSynchronized hw hC hl
theorem r_runVs {p : Program} {l : Launch} {e : Env} {R : Room} {s : State} {m : MethodId} {args : Array Value} {below : List Frame} {meth : Method} {c : Code} {H : Heap} {locs : List Loc} {cells slots : Nat} {cc : ByteArray} {pc : Nat} {ls : Array Slot} {rest st0 : List Value} {D : va_G} {dA : Nat → ClassId} {ad sa : Nat → Nat} {v : tV} {own : String} {nL : Nat}
    (X : CX p s m args c cc own nL D dA) (hw : tI D dA ad v H) (hSC : SC sa (tA ad) s s.heap) (hS : va_S (tA ad) s.heap H locs) {y : MethodName} {bytes : ByteArray} {maxL index k ci n0 n N : Nat} {ret : Option FieldType} {rm : Room} {C : String} {T : u_T} {As : List Value} {Qc : Array Value → State → Outcome → State → Prop}
    (hM : Met l y [.code y bytes maxL ret] rm (tPs D dA ad sa v (.ref (ad k) :: As)) Qc 0 0 (tA ad)) (hG : CV own index C y bytes maxL ret) (hk : KD k = some (ci, n0)) (h12 : ci < 12) (hc : CLS[ci]? = some (C, T, N))
    (hy : y.cls = C ∧ y.cls ≠ "java/lang/invoke/MethodHandle" ∧ y.cls ≠ "java/lang/invoke/VarHandle" ∧ (parseMethodDescriptor y.desc).map (fun d => d.parameters.length) = some n) (hrm : RmOk R rm maxL) (hn : As.length = n) (hsz : ls.size = nL) (hst : st0 = As.reverse ++ .ref (ad k) :: rest) (hroom : (rest.map fun v => v.category).sum ≤ 8) (hcap : cells ≤ R.cells ∧ slots ≤ R.slots) (hd : decode cc pc = .ok (.invokevirtual index, 3)) :
    va_Run p l e R s m args below meth c H locs cells slots 0 0 (F0 m pc ls st0) rest (Qc (Value.ref (ad k) :: As).toArray) (tA ad) := by
  have hrc := r_recv X hw hk h12 hc
  obtain ⟨hx, hb, hml, hown, hts, hK⟩ := X
  exact va_runV (As := As) (rest := rest) ⟨hx, hb, hml, hown, hts⟩ hM (cwV n hts hG rfl hrm.1 hrm.2.1 hy ⟨hrm.2.2.1, hrm.2.2.2⟩) ⟨tPs.blind, hrc, fun U hU hW => ⟨rfl, by rw [hU]; exact hw, hK.warm hW, by rw [hU]; exact SC.warm hW (hSC.kept hS.2.1)⟩⟩ rfl hn hsz hst (lv_room hroom) hd hcap
set_option maxHeartbeats 4000000 in
set_option maxRecDepth 100000 in
theorem ct_X3_addPart_k (l : Launch) (D : va_G) (dA : Nat → ClassId) (ad : Nat → Nat) (v : tV) (hI : Inv v) (k : Nat) (sel : Int32) (bel : Int32) (price : Int32) (ka : 60 ≤ k) (kb : k < 69) (r_sel : Rg sel 0 99) (r_bel : Rg bel 0 1) : Met l m_X3_addPart [.code m_X3_addPart c_X3_addPart 4 none] ({ frames := 1, cells := 0, slots := 0, locals := 40 } : Room) (tP D dA ad v [.ref (ad k), .int sel, .int bel, .int price]) (tQv D dA ad (fun v' => Inv v' ∧ Kp v v' ∧ v' 50 2 = v 50 2)) 0 0 (tA ad) := by
  refine tMet (by decide) (Nat.le_of_ble_eq_true rfl) ?_
  intro p e s m below meth c ls X hr hlocks hw hl
  have X : CX p s m ([.ref (ad k), .int sel, .int bel, .int price] : List Value).toArray c c_X3_addPart N_X3 4 D dA := X
  have hx := X.1
  have hb := X.2.1
  have hS : va_S (tA ad) s.heap s.heap [] := va_S.rf
  have hl : lv_has ls 4 [(0, .ref (ad k)), (1, .int sel), (2, .int bel), (3, .int price)] := hl
  obtain ⟨g0, hg0⟩ : ∃ g, v 50 2 = g := ⟨_, rfl⟩
  have r_g0 : Rg g0 0 8 := by rw [← hg0]; exact hI 50 2 _ _ rfl
  have hK0 : Kp v v := Kp.rf v
  refine lv_aload_n hx hb d_X3_addPart_0 rfl (lv_at hl 0 rfl) ?_
  refine r_geti X hw FL_X3_22 (KD_order (by omega) (by omega)) (SH_order (by omega) (by omega) (by decide)) d_X3_addPart_1 ?_
  refine lv_topi (fun x1 ex1 => ?_)
  have r2 : Rg x1 0 3 := by rw [ex1]; exact hI _ _ _ _ (RG_order3 (by omega) (by omega))
  have hm3 : v k 3 = x1 := ex1.symm
  refine lv_iconst (v := 3) hx hb d_X3_addPart_4 (by decide) ?_
  refine lv_icmp_lt (tgt := 9) hx hb d_X3_addPart_5 (by decide) (fun c4 => ?_) (fun c4 => ?_)
  · have f5 := i_lt c4
    have r6 : Rg x1 0 2 := by obtain ⟨a1, a2⟩ := r2; obtain ⟨b1, b2⟩ := (⟨by decide, by decide⟩ : Rg 3 3 3); have f := i_lt c4; exact ⟨by omega, by omega⟩
    refine lv_aload_n hx hb d_X3_addPart_9 rfl (lv_at hl 0 rfl) ?_
    refine r_getr (r := k + 10) X hw FL_X3_9 (KD_order (by omega) (by omega)) (SH_order0 (by omega) (by omega)) d_X3_addPart_10 ?_
    refine r_nm (fun kc7 ekc7 => ?_)
    refine lv_aload_n hx hb d_X3_addPart_13 rfl (lv_at hl 0 rfl) ?_
    refine r_geti X hw FL_X3_22 (KD_order (by omega) (by omega)) (SH_order (by omega) (by omega) (by decide)) d_X3_addPart_14 ?_
    refine lv_seti hm3 ?_
    refine lv_iload_n hx hb d_X3_addPart_17 rfl (lv_at hl 1 rfl) ?_
    refine r_iast X hw hS (KD_opart (by omega)) (Rg.vp (b := 2) r6 (by decide)) (SH_opart (by omega) (by omega)) d_X3_addPart_18 (fun H locs hw hS => ?_)
    obtain ⟨v8, ev8⟩ : ∃ z, z = up2 v kc7 x1.toNatClampNeg sel := ⟨_, rfl⟩
    rw [← ev8] at hw
    have hI9 : Inv v8 := by rw [ev8]; exact Inv.putr hI (RG_osell (by omega) (by omega)) r_sel
    have hK10 : Kp v v8 := by rw [ev8]; exact Kp.put hK0 _ (PS_order (by omega) (by omega))
    have hm11 : v8 50 2 = g0 := by rw [ev8, up2_n _ _ (by omega)]; exact hg0
    have hm12 : v8 k 3 = x1 := by rw [ev8, up2_n _ _ (by omega)]; exact hm3
    refine lv_aload_n hx hb d_X3_addPart_19 rfl (lv_at hl 0 rfl) ?_
    refine r_getr (r := k + 30) X hw FL_X3_18 (KD_order (by omega) (by omega)) (SH_order2 (by omega) (by omega)) d_X3_addPart_20 ?_
    refine r_nm (fun kc13 ekc13 => ?_)
    refine lv_aload_n hx hb d_X3_addPart_23 rfl (lv_at hl 0 rfl) ?_
    refine r_geti X hw FL_X3_22 (KD_order (by omega) (by omega)) (SH_order (by omega) (by omega) (by decide)) d_X3_addPart_24 ?_
    refine lv_seti hm12 ?_
    refine lv_iload_n hx hb d_X3_addPart_27 rfl (lv_at hl 2 rfl) ?_
    refine r_zast (y := bel)  X hw hS (KD_obelow (by omega) (by omega)) (Rg.vp (b := 2) r6 (by decide)) (SH_opart (by omega) (by omega)) (narz r_bel) d_X3_addPart_28 (fun H locs hw hS => ?_)
    obtain ⟨v14, ev14⟩ : ∃ z, z = up2 v8 kc13 x1.toNatClampNeg bel := ⟨_, rfl⟩
    rw [← ev14] at hw
    have hI15 : Inv v14 := by rw [ev14]; exact Inv.put0 hI9 _ (RG_oprice (by omega) (by omega))
    have hK16 : Kp v v14 := by rw [ev14]; exact Kp.put hK10 _ (PS_order (by omega) (by omega))
    have hm17 : v14 50 2 = g0 := by rw [ev14, up2_n _ _ (by omega)]; exact hm11
    have hm18 : v14 k 3 = x1 := by rw [ev14, up2_n _ _ (by omega)]; exact hm12
    refine lv_aload_n hx hb d_X3_addPart_29 rfl (lv_at hl 0 rfl) ?_
    refine r_getr (r := k + 20) X hw FL_X3_15 (KD_order (by omega) (by omega)) (SH_order1 (by omega) (by omega)) d_X3_addPart_30 ?_
    refine r_nm (fun kc19 ekc19 => ?_)
    refine lv_aload_n hx hb d_X3_addPart_33 rfl (lv_at hl 0 rfl) ?_
    refine r_geti X hw FL_X3_22 (KD_order (by omega) (by omega)) (SH_order (by omega) (by omega) (by decide)) d_X3_addPart_34 ?_
    refine lv_seti hm18 ?_
    refine lv_iload_n hx hb d_X3_addPart_37 rfl (lv_at hl 3 rfl) ?_
    refine r_iast X hw hS (KD_opart (by omega)) (Rg.vp (b := 2) r6 (by decide)) (SH_opart (by omega) (by omega)) d_X3_addPart_38 (fun H locs hw hS => ?_)
    obtain ⟨v20, ev20⟩ : ∃ z, z = up2 v14 kc19 x1.toNatClampNeg price := ⟨_, rfl⟩
    rw [← ev20] at hw
    have hI21 : Inv v20 := by rw [ev20]; exact Inv.put0 hI15 _ (RG_oprice (by omega) (by omega))
    have hK22 : Kp v v20 := by rw [ev20]; exact Kp.put hK16 _ (PS_order (by omega) (by omega))
    have hm23 : v20 50 2 = g0 := by rw [ev20, up2_n _ _ (by omega)]; exact hm17
    have hm24 : v20 k 3 = x1 := by rw [ev20, up2_n _ _ (by omega)]; exact hm18
    refine lv_aload_n hx hb d_X3_addPart_39 rfl (lv_at hl 0 rfl) ?_
    refine lv_dup hx hb d_X3_addPart_40 rfl ?_
    refine r_geti X hw FL_X3_22 (KD_order (by omega) (by omega)) (SH_order (by omega) (by omega) (by decide)) d_X3_addPart_41 ?_
    refine lv_seti hm24 ?_
    refine lv_iconst (v := 1) hx hb d_X3_addPart_44 (by decide) ?_
    refine lv_iadd hx hb d_X3_addPart_45 ?_
    refine lv_topi (fun x25 ex25 => ?_)
    have r26 : Rg x25 1 3 := rg_add ex25 r6 (⟨by decide, by decide⟩ : Rg 1 1 1) (by decide) (by decide)
    have s27 : x25.toInt = x1.toInt + (1 : Int32).toInt := by rw [ex25]; exact i_add (by obtain ⟨_, _⟩ := r6; obtain ⟨_, _⟩ := (⟨by decide, by decide⟩ : Rg 1 1 1); omega) (by obtain ⟨_, _⟩ := r6; obtain ⟨_, _⟩ := (⟨by decide, by decide⟩ : Rg 1 1 1); omega)
    have s27l : (1 : Int32).toInt = 1 := rfl
    refine r_put X hw hS FP_X3_22 (KD_order (by omega) (by omega)) (SH_order (by omega) (by omega) (by decide)) ⟨rfl, rfl⟩ d_X3_addPart_46 (fun H locs hw hS => ?_)
    obtain ⟨v28, ev28⟩ : ∃ z, z = up2 v20 k 3 x25 := ⟨_, rfl⟩
    rw [← ev28] at hw
    have hI29 : Inv v28 := by rw [ev28]; exact Inv.putr hI21 (RG_order3 (by omega) (by omega)) (rg_w r26 (by decide) (by decide))
    have hK30 : Kp v v28 := by rw [ev28]; exact Kp.put hK22 _ (PS_order (by omega) (by omega))
    have hm31 : v28 50 2 = g0 := by rw [ev28, up2_n _ _ (by omega)]; exact hm23
    have hm32 : v28 k 3 = x25 := by rw [ev28, up2_s]
    exact r_vret X hr hlocks hw hS ⟨hI29, hK30, (hm31.trans hg0.symm)⟩ d_X3_addPart_49
  · have f33 := i_nlt c4
    have r34 : Rg x1 3 3 := by obtain ⟨a1, a2⟩ := r2; obtain ⟨b1, b2⟩ := (⟨by decide, by decide⟩ : Rg 3 3 3); have f := i_nlt c4; exact ⟨by omega, by omega⟩
    exact r_vret X hr hlocks hw hS ⟨hI, hK0, (hg0.trans hg0.symm)⟩ d_X3_addPart_8
theorem d_X8_number_0 : decode c_X8_number 0 = .ok (.iconst (-1), 1) := by decide +kernel
theorem d_X8_number_1 : decode c_X8_number 1 = .ok (.istore_n 2, 1) := by decide +kernel
theorem d_X8_number_2 : decode c_X8_number 2 = .ok (.iconst 0, 1) := by decide +kernel
theorem d_X8_number_3 : decode c_X8_number 3 = .ok (.istore_n 3, 1) := by decide +kernel
theorem d_X8_number_4 : decode c_X8_number 4 = .ok (.iload_n 3, 1) := by decide +kernel
theorem d_X8_number_5 : decode c_X8_number 5 = .ok (.iload_n 1, 1) := by decide +kernel
theorem d_X8_number_6 : decode c_X8_number 6 = .ok (.if_icmp .ge 71, 3) := by decide +kernel
theorem d_X8_number_9 : decode c_X8_number 9 = .ok (.aload_n 0, 1) := by decide +kernel
theorem d_X8_number_10 : decode c_X8_number 10 = .ok (.getfield 19, 3) := by decide +kernel
theorem d_X8_number_13 : decode c_X8_number 13 = .ok (.aload_n 0, 1) := by decide +kernel
theorem d_X8_number_14 : decode c_X8_number 14 = .ok (.getfield 15, 3) := by decide +kernel
theorem d_X8_number_17 : decode c_X8_number 17 = .ok (.if_icmp .ge 60, 3) := by decide +kernel
theorem d_X8_number_20 : decode c_X8_number 20 = .ok (.aload_n 0, 1) := by decide +kernel
theorem d_X8_number_21 : decode c_X8_number 21 = .ok (.getfield 9, 3) := by decide +kernel
theorem d_X8_number_24 : decode c_X8_number 24 = .ok (.aload_n 0, 1) := by decide +kernel
theorem d_X8_number_25 : decode c_X8_number 25 = .ok (.getfield 19, 3) := by decide +kernel
theorem d_X8_number_28 : decode c_X8_number 28 = .ok (.iaload, 1) := by decide +kernel
theorem d_X8_number_29 : decode c_X8_number 29 = .ok (.bipush 48, 2) := by decide +kernel
theorem d_X8_number_31 : decode c_X8_number 31 = .ok (.bipush 57, 2) := by decide +kernel
theorem d_X8_number_33 : decode c_X8_number 33 = .ok (.invokestatic 90, 3) := by decide +kernel
theorem d_X8_number_36 : decode c_X8_number 36 = .ok (.ifCond .eq 41, 3) := by decide +kernel
theorem d_X8_number_39 : decode c_X8_number 39 = .ok (.iload_n 2, 1) := by decide +kernel
theorem d_X8_number_40 : decode c_X8_number 40 = .ok (.iconst 0, 1) := by decide +kernel
theorem d_X8_number_41 : decode c_X8_number 41 = .ok (.invokestatic 94, 3) := by decide +kernel
theorem d_X8_number_44 : decode c_X8_number 44 = .ok (.bipush 10, 2) := by decide +kernel
theorem d_X8_number_46 : decode c_X8_number 46 = .ok (.imul, 1) := by decide +kernel
theorem d_X8_number_47 : decode c_X8_number 47 = .ok (.aload_n 0, 1) := by decide +kernel
theorem d_X8_number_48 : decode c_X8_number 48 = .ok (.getfield 9, 3) := by decide +kernel
theorem d_X8_number_51 : decode c_X8_number 51 = .ok (.aload_n 0, 1) := by decide +kernel
theorem d_X8_number_52 : decode c_X8_number 52 = .ok (.getfield 19, 3) := by decide +kernel
theorem d_X8_number_55 : decode c_X8_number 55 = .ok (.iaload, 1) := by decide +kernel
theorem d_X8_number_56 : decode c_X8_number 56 = .ok (.iadd, 1) := by decide +kernel
theorem d_X8_number_57 : decode c_X8_number 57 = .ok (.bipush 48, 2) := by decide +kernel
theorem d_X8_number_59 : decode c_X8_number 59 = .ok (.isub, 1) := by decide +kernel
theorem d_X8_number_60 : decode c_X8_number 60 = .ok (.istore_n 2, 1) := by decide +kernel
theorem d_X8_number_61 : decode c_X8_number 61 = .ok (.aload_n 0, 1) := by decide +kernel
theorem d_X8_number_62 : decode c_X8_number 62 = .ok (.dup, 1) := by decide +kernel
theorem d_X8_number_63 : decode c_X8_number 63 = .ok (.getfield 19, 3) := by decide +kernel
theorem d_X8_number_66 : decode c_X8_number 66 = .ok (.iconst 1, 1) := by decide +kernel
theorem d_X8_number_67 : decode c_X8_number 67 = .ok (.iadd, 1) := by decide +kernel
theorem d_X8_number_68 : decode c_X8_number 68 = .ok (.putfield 19, 3) := by decide +kernel
theorem d_X8_number_71 : decode c_X8_number 71 = .ok (.iinc 3 1, 3) := by decide +kernel
theorem d_X8_number_74 : decode c_X8_number 74 = .ok (.goto (-70), 3) := by decide +kernel
theorem d_X8_number_77 : decode c_X8_number 77 = .ok (.iload_n 2, 1) := by decide +kernel
theorem d_X8_number_78 : decode c_X8_number 78 = .ok (.ireturn, 1) := by decide +kernel
set_option maxHeartbeats 4000000 in
set_option maxRecDepth 100000 in
theorem ct_X8_number_2 (l : Launch) (D : va_G) (dA : Nat → ClassId) (ad : Nat → Nat) (v : tV) (hI : Inv v) (dg : Int32) (r_dg : Rg dg 2 2) : Met l m_X8_number [.code m_X8_number c_X8_number 4 (some .int)] ({ frames := 2, cells := 0, slots := 0, locals := 62 } : Room) (tP D dA ad v [.ref (ad 55), .int dg]) (tQi D dA ad (fun r v' => Inv v' ∧ Kp v v' ∧ Rg r (-1) 99 ∧ v' 50 2 = v 50 2)) 0 0 (tA ad) := by
  refine tMet (by decide) (Nat.le_of_ble_eq_true rfl) ?_
  intro p e s m below meth c ls X hr hlocks hw hl
  have X : CX p s m ([.ref (ad 55), .int dg] : List Value).toArray c c_X8_number N_X8 4 D dA := X
  have hx := X.1
  have hb := X.2.1
  have hS : va_S (tA ad) s.heap s.heap [] := va_S.rf
  have hl : lv_has ls 4 [(0, .ref (ad 55)), (1, .int dg)] := hl
  obtain ⟨g0, hg0⟩ : ∃ g, v 50 2 = g := ⟨_, rfl⟩
  have r_g0 : Rg g0 0 8 := by rw [← hg0]; exact hI 50 2 _ _ rfl
  have LL : ∀ n : Nat, (∀ (y2 : Int32) (y3 : Int32) (v1 : tV) (H : Heap) (locs : List Loc) (ls : Array Slot), (2 - y3.toInt).toNat < n → Rg y2 (-1) 99 → Rg y3 0 2 → Inv v1 → Kp v v1 → v1 50 2 = g0 → (y3.toInt = 0 → y2.toInt ≤ 0) ∧ (y3.toInt = 1 → y2.toInt ≤ 9) → tI D dA ad v1 H → va_S (tA ad) s.heap H locs → lv_has ls 4 [(0, .ref (ad 55)), (1, .int dg), (2, .int y2), (3, .int y3)] → W p l e ({ frames := 2, cells := 0, slots := 0, locals := 62 } : Room) s m ([.ref (ad 55), .int dg] : List Value).toArray below meth c H locs 0 0 (MQ below (tQi D dA ad (fun r v' => Inv v' ∧ Kp v v' ∧ Rg r (-1) 99 ∧ v' 50 2 = v 50 2)) ([.ref (ad 55), .int dg] : List Value).toArray s 0 0 (tA ad)) (F0 m 4 ls [])) := by
    intro n
    induction n with
    | zero => intros; omega
    | succ n ih =>
      have ih0 := ih
      intro y2 y3 v1 H locs ls hmu r_y2 r_y3 hI1 hK1 hfx0 hex hw hS hl
      refine lv_iload_n hx hb d_X8_number_4 rfl (lv_at hl 3 rfl) ?_
      refine lv_iload_n hx hb d_X8_number_5 rfl (lv_at hl 1 rfl) ?_
      refine lv_icmp_ge (tgt := 77) hx hb d_X8_number_6 (by decide) (fun c1 => ?_) (fun c1 => ?_)
      · have f2 := i_le c1
        have r3 : Rg y3 2 2 := by obtain ⟨a1, a2⟩ := r_y3; obtain ⟨b1, b2⟩ := r_dg; have f := i_le c1; exact ⟨by omega, by omega⟩
        refine lv_iload_n hx hb d_X8_number_77 rfl (lv_at hl 2 rfl) ?_
        exact r_iret X hr hlocks hw hS ⟨hI1, hK1, r_y2, (hfx0.trans hg0.symm)⟩ d_X8_number_78
      · have f4 := i_nle c1
        have r5 : Rg y3 0 1 := by obtain ⟨a1, a2⟩ := r_y3; obtain ⟨b1, b2⟩ := r_dg; have f := i_nle c1; exact ⟨by omega, by omega⟩
        refine lv_aload_n hx hb d_X8_number_9 rfl (lv_at hl 0 rfl) ?_
        refine r_geti X hw FL_X8_19 (rfl : KD 55 = _) rfl d_X8_number_10 ?_
        refine lv_topi (fun x6 ex6 => ?_)
        have r7 : Rg x6 0 120 := by rw [ex6]; exact hI1 _ _ _ _ rfl
        have hm8 : v1 55 2 = x6 := ex6.symm
        refine lv_aload_n hx hb d_X8_number_13 rfl (lv_at hl 0 rfl) ?_
        refine r_geti X hw FL_X8_15 (rfl : KD 55 = _) rfl d_X8_number_14 ?_
        refine lv_topi (fun x9 ex9 => ?_)
        have r10 : Rg x9 0 120 := by rw [ex9]; exact hI1 _ _ _ _ rfl
        have hm11 : v1 55 1 = x9 := ex9.symm
        refine lv_icmp_ge (tgt := 77) hx hb d_X8_number_17 (by decide) (fun c12 => ?_) (fun c12 => ?_)
        · have f13 := i_le c12
          refine lv_iload_n hx hb d_X8_number_77 rfl (lv_at hl 2 rfl) ?_
          exact r_iret X hr hlocks hw hS ⟨hI1, hK1, r_y2, (hfx0.trans hg0.symm)⟩ d_X8_number_78
        · have f14 := i_nle c12
          have r15 : Rg x6 0 119 := by obtain ⟨a1, a2⟩ := r7; obtain ⟨b1, b2⟩ := r10; have f := i_nle c12; exact ⟨by omega, by omega⟩
          have r16 : Rg x9 1 120 := by obtain ⟨a1, a2⟩ := r7; obtain ⟨b1, b2⟩ := r10; have f := i_nle c12; exact ⟨by omega, by omega⟩
          refine lv_aload_n hx hb d_X8_number_20 rfl (lv_at hl 0 rfl) ?_
          refine r_getr (r := 56) X hw FL_X8_9 (rfl : KD 55 = _) rfl d_X8_number_21 ?_
          refine lv_aload_n hx hb d_X8_number_24 rfl (lv_at hl 0 rfl) ?_
          refine r_geti X hw FL_X8_19 (rfl : KD 55 = _) rfl d_X8_number_25 ?_
          refine lv_seti hm8 ?_
          refine r_iald X hw (rfl : KD 56 = _) (Rg.vp (b := 119) r15 (by decide)) rfl d_X8_number_28 ?_
          refine lv_topi (fun x17 ex17 => ?_)
          have hm18 : v1 56 x6.toNatClampNeg = x17 := ex17.symm
          refine lv_bipush (v := 48) hx hb d_X8_number_29 (by decide) ?_
          refine lv_bipush (v := 57) hx hb d_X8_number_31 (by decide) ?_
          refine r_ci (r_runSN (n := 3) (As := [.int x17, .int 48, .int 57]) (rest := []) X hw (ct_X10_within l D dA ad v1 hI1 x17 48 57) gn_X8_90 gc_X8_90 (by decide +kernel) ⟨rfl, rfl, Nat.le_of_ble_eq_true rfl, Nat.le_of_ble_eq_true rfl⟩ rfl hl.1 rfl (Nat.le_of_ble_eq_true rfl) ⟨Nat.zero_le _, Nat.zero_le _⟩ d_X8_number_33) hS (fun x20 v21 H locs hp19 hw hS => ?_)
          obtain ⟨ev21, hp19⟩ := hp19
          rw [ev21] at hw
          rcases hp19 with ⟨rfl, w22a, w22b⟩ | ⟨rfl, w22n⟩
          · skip
            have r23 : Rg x17 48 57 := by obtain ⟨_, _⟩ := (rg_any x17); have : (48 : Int32).toInt = 48 := rfl; have : (57 : Int32).toInt = 57 := rfl; exact ⟨by omega, by omega⟩
            refine lv_if_eq (tgt := 77) hx hb d_X8_number_36 (by decide) (fun c24 => ?_) (fun c24 => ?_)
            · exact absurd c24 (by decide)
            · have r25 : Rg y2 (-1) 9 := by obtain ⟨_, _⟩ := r_y2; obtain ⟨_, _⟩ := r5; exact ⟨by omega, by omega⟩
              refine lv_iload_n hx hb d_X8_number_39 rfl (lv_at hl 2 rfl) ?_
              refine lv_iconst (v := 0) hx hb d_X8_number_40 (by decide) ?_
              refine va_mmax hx hb (X.2.2.1.trans hl.1.symm) X.2.2.2.1 (X.2.2.2.2.1 _ ml_X8_94) (X.2.2.2.2.1 _ ml_maxs) (X.2.2.2.2.1 _ ml_mi) (X.2.2.2.2.1 _ ml_maxc) (Nat.le_of_ble_eq_true rfl) (Nat.le_of_ble_eq_true rfl) (Nat.zero_le _) (Nat.zero_le _) d_X8_number_41 ?_
              refine lv_topi (fun x26 ex26 => ?_)
              have hmx : x26.toInt = y2.toInt ∨ (x26.toInt = (0 : Int32).toInt ∧ y2.toInt < (0 : Int32).toInt) := by rw [ex26]; split <;> first | exact Or.inr ⟨rfl, i_lt (by assumption)⟩ | exact Or.inl rfl
              have r27 : Rg x26 0 9 := by obtain ⟨a1, a2⟩ := r25; obtain ⟨b1, b2⟩ := (⟨by decide, by decide⟩ : Rg 0 0 0); rw [ex26]; split <;> rename_i q <;> first | (have := i_lt q; exact ⟨by omega, by omega⟩) | (have := i_nlt q; exact ⟨by omega, by omega⟩)
              refine lv_bipush (v := 10) hx hb d_X8_number_44 (by decide) ?_
              refine lv_imul hx hb d_X8_number_46 ?_
              refine lv_topi (fun x28 ex28 => ?_)
              have r29 : Rg x28 0 90 := rg_mulc (ex28.trans (Int32.mul_comm _ _)) (⟨by decide, by decide⟩ : Rg 10 10 10) r27 (by decide) (by decide) (by decide)
              have s30 : x28.toInt = 10 * x26.toInt := rg_mule (ex28.trans (Int32.mul_comm _ _)) r27 rfl (by decide) (by decide)
              refine lv_aload_n hx hb d_X8_number_47 rfl (lv_at hl 0 rfl) ?_
              refine r_getr (r := 56) X hw FL_X8_9 (rfl : KD 55 = _) rfl d_X8_number_48 ?_
              refine lv_aload_n hx hb d_X8_number_51 rfl (lv_at hl 0 rfl) ?_
              refine r_geti X hw FL_X8_19 (rfl : KD 55 = _) rfl d_X8_number_52 ?_
              refine lv_seti hm8 ?_
              refine r_iald X hw (rfl : KD 56 = _) (Rg.vp (b := 119) r15 (by decide)) rfl d_X8_number_55 ?_
              refine lv_seti hm18 ?_
              refine lv_iadd hx hb d_X8_number_56 ?_
              refine lv_topi (fun x31 ex31 => ?_)
              have r32 : Rg x31 48 147 := rg_add ex31 r29 r23 (by decide) (by decide)
              have s33 : x31.toInt = x28.toInt + (x17 : Int32).toInt := by rw [ex31]; exact i_add (by obtain ⟨_, _⟩ := r29; obtain ⟨_, _⟩ := r23; omega) (by obtain ⟨_, _⟩ := r29; obtain ⟨_, _⟩ := r23; omega)
              refine lv_bipush (v := 48) hx hb d_X8_number_57 (by decide) ?_
              refine lv_isub hx hb d_X8_number_59 ?_
              refine lv_topi (fun x34 ex34 => ?_)
              have r35 : Rg x34 0 99 := rg_sub ex34 r32 (⟨by decide, by decide⟩ : Rg 48 48 48) (by decide) (by decide)
              have s36 : x34.toInt = x31.toInt - (48 : Int32).toInt := by rw [ex34]; exact i_sub (by obtain ⟨_, _⟩ := r32; obtain ⟨_, _⟩ := (⟨by decide, by decide⟩ : Rg 48 48 48); omega) (by obtain ⟨_, _⟩ := r32; obtain ⟨_, _⟩ := (⟨by decide, by decide⟩ : Rg 48 48 48); omega)
              have s36l : (48 : Int32).toInt = 48 := rfl
              refine lv_istore_n (lv' := [(2, .int x34), (0, .ref (ad 55)), (1, .int dg), (3, .int y3)]) hx hb d_X8_number_60 rfl hl (by decide) rfl (fun ls hl => ?_)
              refine lv_aload_n hx hb d_X8_number_61 rfl (lv_at hl 1 rfl) ?_
              refine lv_dup hx hb d_X8_number_62 rfl ?_
              refine r_geti X hw FL_X8_19 (rfl : KD 55 = _) rfl d_X8_number_63 ?_
              refine lv_seti hm8 ?_
              refine lv_iconst (v := 1) hx hb d_X8_number_66 (by decide) ?_
              refine lv_iadd hx hb d_X8_number_67 ?_
              refine lv_topi (fun x37 ex37 => ?_)
              have r38 : Rg x37 1 120 := rg_add ex37 r15 (⟨by decide, by decide⟩ : Rg 1 1 1) (by decide) (by decide)
              have s39 : x37.toInt = x6.toInt + (1 : Int32).toInt := by rw [ex37]; exact i_add (by obtain ⟨_, _⟩ := r15; obtain ⟨_, _⟩ := (⟨by decide, by decide⟩ : Rg 1 1 1); omega) (by obtain ⟨_, _⟩ := r15; obtain ⟨_, _⟩ := (⟨by decide, by decide⟩ : Rg 1 1 1); omega)
              have s39l : (1 : Int32).toInt = 1 := rfl
              refine r_put X hw hS FP_X8_19 (rfl : KD 55 = _) rfl ⟨rfl, rfl⟩ d_X8_number_68 (fun H locs hw hS => ?_)
              obtain ⟨v40, ev40⟩ : ∃ z, z = up2 v1 55 2 x37 := ⟨_, rfl⟩
              rw [← ev40] at hw
              have hI41 : Inv v40 := by rw [ev40]; exact Inv.putr hI1 rfl (rg_w r38 (by decide) (by decide))
              have hK42 : Kp v v40 := by rw [ev40]; exact Kp.put hK1 _ rfl
              have hm43 : v40 50 2 = g0 := by rw [ev40, up2_n _ _ (by omega)]; exact hfx0
              have hm44 : v40 55 1 = x9 := by rw [ev40, up2_n _ _ (by omega)]; exact hm11
              have hm45 : v40 56 x6.toNatClampNeg = x17 := by rw [ev40, up2_n _ _ (by omega)]; exact hm18
              have hm46 : v40 55 2 = x37 := by rw [ev40, up2_s]
              obtain ⟨x47, ex47⟩ : ∃ y : Int32, y = y3 + 1 := ⟨_, rfl⟩
              refine lv_iinc (v := x47) (lv' := [(3, .int x47), (2, .int x34), (0, .ref (ad 55)), (1, .int dg)]) hx hb d_X8_number_71 hl (k := 3) rfl (by rw [ex47]; rfl) (by decide) rfl (fun ls hl => ?_)
              have r48 : Rg x47 1 2 := rg_add ex47 r5 (⟨by decide, by decide⟩ : Rg 1 1 1) (by decide) (by decide)
              have s49 : x47.toInt = y3.toInt + (1 : Int32).toInt := by rw [ex47]; exact i_add (by obtain ⟨_, _⟩ := r5; obtain ⟨_, _⟩ := (⟨by decide, by decide⟩ : Rg 1 1 1); omega) (by obtain ⟨_, _⟩ := r5; obtain ⟨_, _⟩ := (⟨by decide, by decide⟩ : Rg 1 1 1); omega)
              have s49l : (1 : Int32).toInt = 1 := rfl
              refine lv_goto (tgt := 4) hx hb d_X8_number_74 (by decide) ?_
              exact ih0 x34 x47 v40 _ _ _ (by have q_ := r_dg; obtain ⟨_, _⟩ := q_; have q_ := r_g0; obtain ⟨_, _⟩ := q_; have q_ := r25; obtain ⟨_, _⟩ := q_; have q_ := r5; obtain ⟨_, _⟩ := q_; have q_ := r15; obtain ⟨_, _⟩ := q_; have q_ := r16; obtain ⟨_, _⟩ := q_; have q_ := r23; obtain ⟨_, _⟩ := q_; have q_ := r27; obtain ⟨_, _⟩ := q_; have q_ := r29; obtain ⟨_, _⟩ := q_; have q_ := r32; obtain ⟨_, _⟩ := q_; have q_ := r35; obtain ⟨_, _⟩ := q_; have q_ := r38; obtain ⟨_, _⟩ := q_; have q_ := r48; obtain ⟨_, _⟩ := q_; omega) (rg_w r35 (by decide) (by decide)) (rg_w r48 (by decide) (by decide)) hI41 hK42 hm43 (by have q_ := r_dg; obtain ⟨_, _⟩ := q_; have q_ := r_g0; obtain ⟨_, _⟩ := q_; have q_ := r25; obtain ⟨_, _⟩ := q_; have q_ := r5; obtain ⟨_, _⟩ := q_; have q_ := r15; obtain ⟨_, _⟩ := q_; have q_ := r16; obtain ⟨_, _⟩ := q_; have q_ := r23; obtain ⟨_, _⟩ := q_; have q_ := r27; obtain ⟨_, _⟩ := q_; have q_ := r29; obtain ⟨_, _⟩ := q_; have q_ := r32; obtain ⟨_, _⟩ := q_; have q_ := r35; obtain ⟨_, _⟩ := q_; have q_ := r38; obtain ⟨_, _⟩ := q_; have q_ := r48; obtain ⟨_, _⟩ := q_; have z0 : (0 : Int32).toInt = 0 := rfl; have z1 : (-1 : Int32).toInt = -1 := rfl; refine ⟨fun _ => ?_, fun _ => ?_⟩ <;> omega) hw hS (lv_sub hl [2, 3, 1, 0] rfl)
          · skip
            refine lv_if_eq (tgt := 77) hx hb d_X8_number_36 (by decide) (fun c50 => ?_) (fun c50 => ?_)
            · refine lv_iload_n hx hb d_X8_number_77 rfl (lv_at hl 2 rfl) ?_
              exact r_iret X hr hlocks hw hS ⟨hI1, hK1, r_y2, (hfx0.trans hg0.symm)⟩ d_X8_number_78
            · exact absurd c50 (by decide)
  have ih0 := LL 100000
  have hK0 : Kp v v := Kp.rf v
  refine lv_iconst (v := -1) hx hb d_X8_number_0 (by decide) ?_
  refine lv_istore_n (lv' := [(2, .int (-1)), (0, .ref (ad 55)), (1, .int dg)]) hx hb d_X8_number_1 rfl hl (by decide) rfl (fun ls hl => ?_)
  refine lv_iconst (v := 0) hx hb d_X8_number_2 (by decide) ?_
  refine lv_istore_n (lv' := [(3, .int 0), (2, .int (-1)), (0, .ref (ad 55)), (1, .int dg)]) hx hb d_X8_number_3 rfl hl (by decide) rfl (fun ls hl => ?_)
  exact ih0 (-1) 0 v _ _ _ (by have q_ := r_dg; obtain ⟨_, _⟩ := q_; have q_ := r_g0; obtain ⟨_, _⟩ := q_; have q_ : (-1 : Int32).toInt = (-1) := rfl; have q_ : (0 : Int32).toInt = 0 := rfl; omega) (rg_w (⟨by decide, by decide⟩ : Rg (-1) (-1) (-1)) (by decide) (by decide)) (rg_w (⟨by decide, by decide⟩ : Rg 0 0 0) (by decide) (by decide)) hI hK0 hg0 (by have q_ := r_dg; obtain ⟨_, _⟩ := q_; have q_ := r_g0; obtain ⟨_, _⟩ := q_; have z0 : (0 : Int32).toInt = 0 := rfl; have z1 : (-1 : Int32).toInt = -1 := rfl; refine ⟨fun _ => ?_, fun _ => ?_⟩ <;> omega) hw hS (lv_sub hl [2, 3, 1, 0] rfl)
set_option maxHeartbeats 4000000 in
set_option maxRecDepth 100000 in
theorem ct_X8_number_3 (l : Launch) (D : va_G) (dA : Nat → ClassId) (ad : Nat → Nat) (v : tV) (hI : Inv v) (dg : Int32) (r_dg : Rg dg 3 3) : Met l m_X8_number [.code m_X8_number c_X8_number 4 (some .int)] ({ frames := 2, cells := 0, slots := 0, locals := 62 } : Room) (tP D dA ad v [.ref (ad 55), .int dg]) (tQi D dA ad (fun r v' => Inv v' ∧ Kp v v' ∧ Rg r (-1) 999 ∧ v' 50 2 = v 50 2)) 0 0 (tA ad) := by
  refine tMet (by decide) (Nat.le_of_ble_eq_true rfl) ?_
  intro p e s m below meth c ls X hr hlocks hw hl
  have X : CX p s m ([.ref (ad 55), .int dg] : List Value).toArray c c_X8_number N_X8 4 D dA := X
  have hx := X.1
  have hb := X.2.1
  have hS : va_S (tA ad) s.heap s.heap [] := va_S.rf
  have hl : lv_has ls 4 [(0, .ref (ad 55)), (1, .int dg)] := hl
  obtain ⟨g0, hg0⟩ : ∃ g, v 50 2 = g := ⟨_, rfl⟩
  have r_g0 : Rg g0 0 8 := by rw [← hg0]; exact hI 50 2 _ _ rfl
  have LL : ∀ n : Nat, (∀ (y2 : Int32) (y3 : Int32) (v1 : tV) (H : Heap) (locs : List Loc) (ls : Array Slot), (3 - y3.toInt).toNat < n → Rg y2 (-1) 999 → Rg y3 0 3 → Inv v1 → Kp v v1 → v1 50 2 = g0 → (y3.toInt = 0 → y2.toInt ≤ 0) ∧ (y3.toInt = 1 → y2.toInt ≤ 9) ∧ (y3.toInt = 2 → y2.toInt ≤ 99) → tI D dA ad v1 H → va_S (tA ad) s.heap H locs → lv_has ls 4 [(0, .ref (ad 55)), (1, .int dg), (2, .int y2), (3, .int y3)] → W p l e ({ frames := 2, cells := 0, slots := 0, locals := 62 } : Room) s m ([.ref (ad 55), .int dg] : List Value).toArray below meth c H locs 0 0 (MQ below (tQi D dA ad (fun r v' => Inv v' ∧ Kp v v' ∧ Rg r (-1) 999 ∧ v' 50 2 = v 50 2)) ([.ref (ad 55), .int dg] : List Value).toArray s 0 0 (tA ad)) (F0 m 4 ls [])) := by
    intro n
    induction n with
    | zero => intros; omega
    | succ n ih =>
      have ih0 := ih
      intro y2 y3 v1 H locs ls hmu r_y2 r_y3 hI1 hK1 hfx0 hex hw hS hl
      refine lv_iload_n hx hb d_X8_number_4 rfl (lv_at hl 3 rfl) ?_
      refine lv_iload_n hx hb d_X8_number_5 rfl (lv_at hl 1 rfl) ?_
      refine lv_icmp_ge (tgt := 77) hx hb d_X8_number_6 (by decide) (fun c1 => ?_) (fun c1 => ?_)
      · have f2 := i_le c1
        have r3 : Rg y3 3 3 := by obtain ⟨a1, a2⟩ := r_y3; obtain ⟨b1, b2⟩ := r_dg; have f := i_le c1; exact ⟨by omega, by omega⟩
        refine lv_iload_n hx hb d_X8_number_77 rfl (lv_at hl 2 rfl) ?_
        exact r_iret X hr hlocks hw hS ⟨hI1, hK1, r_y2, (hfx0.trans hg0.symm)⟩ d_X8_number_78
      · have f4 := i_nle c1
        have r5 : Rg y3 0 2 := by obtain ⟨a1, a2⟩ := r_y3; obtain ⟨b1, b2⟩ := r_dg; have f := i_nle c1; exact ⟨by omega, by omega⟩
        refine lv_aload_n hx hb d_X8_number_9 rfl (lv_at hl 0 rfl) ?_
        refine r_geti X hw FL_X8_19 (rfl : KD 55 = _) rfl d_X8_number_10 ?_
        refine lv_topi (fun x6 ex6 => ?_)
        have r7 : Rg x6 0 120 := by rw [ex6]; exact hI1 _ _ _ _ rfl
        have hm8 : v1 55 2 = x6 := ex6.symm
        refine lv_aload_n hx hb d_X8_number_13 rfl (lv_at hl 0 rfl) ?_
        refine r_geti X hw FL_X8_15 (rfl : KD 55 = _) rfl d_X8_number_14 ?_
        refine lv_topi (fun x9 ex9 => ?_)
        have r10 : Rg x9 0 120 := by rw [ex9]; exact hI1 _ _ _ _ rfl
        have hm11 : v1 55 1 = x9 := ex9.symm
        refine lv_icmp_ge (tgt := 77) hx hb d_X8_number_17 (by decide) (fun c12 => ?_) (fun c12 => ?_)
        · have f13 := i_le c12
          refine lv_iload_n hx hb d_X8_number_77 rfl (lv_at hl 2 rfl) ?_
          exact r_iret X hr hlocks hw hS ⟨hI1, hK1, r_y2, (hfx0.trans hg0.symm)⟩ d_X8_number_78
        · have f14 := i_nle c12
          have r15 : Rg x6 0 119 := by obtain ⟨a1, a2⟩ := r7; obtain ⟨b1, b2⟩ := r10; have f := i_nle c12; exact ⟨by omega, by omega⟩
          have r16 : Rg x9 1 120 := by obtain ⟨a1, a2⟩ := r7; obtain ⟨b1, b2⟩ := r10; have f := i_nle c12; exact ⟨by omega, by omega⟩
          refine lv_aload_n hx hb d_X8_number_20 rfl (lv_at hl 0 rfl) ?_
          refine r_getr (r := 56) X hw FL_X8_9 (rfl : KD 55 = _) rfl d_X8_number_21 ?_
          refine lv_aload_n hx hb d_X8_number_24 rfl (lv_at hl 0 rfl) ?_
          refine r_geti X hw FL_X8_19 (rfl : KD 55 = _) rfl d_X8_number_25 ?_
          refine lv_seti hm8 ?_
          refine r_iald X hw (rfl : KD 56 = _) (Rg.vp (b := 119) r15 (by decide)) rfl d_X8_number_28 ?_
          refine lv_topi (fun x17 ex17 => ?_)
          have hm18 : v1 56 x6.toNatClampNeg = x17 := ex17.symm
          refine lv_bipush (v := 48) hx hb d_X8_number_29 (by decide) ?_
          refine lv_bipush (v := 57) hx hb d_X8_number_31 (by decide) ?_
          refine r_ci (r_runSN (n := 3) (As := [.int x17, .int 48, .int 57]) (rest := []) X hw (ct_X10_within l D dA ad v1 hI1 x17 48 57) gn_X8_90 gc_X8_90 (by decide +kernel) ⟨rfl, rfl, Nat.le_of_ble_eq_true rfl, Nat.le_of_ble_eq_true rfl⟩ rfl hl.1 rfl (Nat.le_of_ble_eq_true rfl) ⟨Nat.zero_le _, Nat.zero_le _⟩ d_X8_number_33) hS (fun x20 v21 H locs hp19 hw hS => ?_)
          obtain ⟨ev21, hp19⟩ := hp19
          rw [ev21] at hw
          rcases hp19 with ⟨rfl, w22a, w22b⟩ | ⟨rfl, w22n⟩
          · skip
            have r23 : Rg x17 48 57 := by obtain ⟨_, _⟩ := (rg_any x17); have : (48 : Int32).toInt = 48 := rfl; have : (57 : Int32).toInt = 57 := rfl; exact ⟨by omega, by omega⟩
            refine lv_if_eq (tgt := 77) hx hb d_X8_number_36 (by decide) (fun c24 => ?_) (fun c24 => ?_)
            · exact absurd c24 (by decide)
            · have r25 : Rg y2 (-1) 99 := by obtain ⟨_, _⟩ := r_y2; obtain ⟨_, _⟩ := r5; exact ⟨by omega, by omega⟩
              refine lv_iload_n hx hb d_X8_number_39 rfl (lv_at hl 2 rfl) ?_
              refine lv_iconst (v := 0) hx hb d_X8_number_40 (by decide) ?_
              refine va_mmax hx hb (X.2.2.1.trans hl.1.symm) X.2.2.2.1 (X.2.2.2.2.1 _ ml_X8_94) (X.2.2.2.2.1 _ ml_maxs) (X.2.2.2.2.1 _ ml_mi) (X.2.2.2.2.1 _ ml_maxc) (Nat.le_of_ble_eq_true rfl) (Nat.le_of_ble_eq_true rfl) (Nat.zero_le _) (Nat.zero_le _) d_X8_number_41 ?_
              refine lv_topi (fun x26 ex26 => ?_)
              have hmx : x26.toInt = y2.toInt ∨ (x26.toInt = (0 : Int32).toInt ∧ y2.toInt < (0 : Int32).toInt) := by rw [ex26]; split <;> first | exact Or.inr ⟨rfl, i_lt (by assumption)⟩ | exact Or.inl rfl
              have r27 : Rg x26 0 99 := by obtain ⟨a1, a2⟩ := r25; obtain ⟨b1, b2⟩ := (⟨by decide, by decide⟩ : Rg 0 0 0); rw [ex26]; split <;> rename_i q <;> first | (have := i_lt q; exact ⟨by omega, by omega⟩) | (have := i_nlt q; exact ⟨by omega, by omega⟩)
              refine lv_bipush (v := 10) hx hb d_X8_number_44 (by decide) ?_
              refine lv_imul hx hb d_X8_number_46 ?_
              refine lv_topi (fun x28 ex28 => ?_)
              have r29 : Rg x28 0 990 := rg_mulc (ex28.trans (Int32.mul_comm _ _)) (⟨by decide, by decide⟩ : Rg 10 10 10) r27 (by decide) (by decide) (by decide)
              have s30 : x28.toInt = 10 * x26.toInt := rg_mule (ex28.trans (Int32.mul_comm _ _)) r27 rfl (by decide) (by decide)
              refine lv_aload_n hx hb d_X8_number_47 rfl (lv_at hl 0 rfl) ?_
              refine r_getr (r := 56) X hw FL_X8_9 (rfl : KD 55 = _) rfl d_X8_number_48 ?_
              refine lv_aload_n hx hb d_X8_number_51 rfl (lv_at hl 0 rfl) ?_
              refine r_geti X hw FL_X8_19 (rfl : KD 55 = _) rfl d_X8_number_52 ?_
              refine lv_seti hm8 ?_
              refine r_iald X hw (rfl : KD 56 = _) (Rg.vp (b := 119) r15 (by decide)) rfl d_X8_number_55 ?_
              refine lv_seti hm18 ?_
              refine lv_iadd hx hb d_X8_number_56 ?_
              refine lv_topi (fun x31 ex31 => ?_)
              have r32 : Rg x31 48 1047 := rg_add ex31 r29 r23 (by decide) (by decide)
              have s33 : x31.toInt = x28.toInt + (x17 : Int32).toInt := by rw [ex31]; exact i_add (by obtain ⟨_, _⟩ := r29; obtain ⟨_, _⟩ := r23; omega) (by obtain ⟨_, _⟩ := r29; obtain ⟨_, _⟩ := r23; omega)
              refine lv_bipush (v := 48) hx hb d_X8_number_57 (by decide) ?_
              refine lv_isub hx hb d_X8_number_59 ?_
              refine lv_topi (fun x34 ex34 => ?_)
              have r35 : Rg x34 0 999 := rg_sub ex34 r32 (⟨by decide, by decide⟩ : Rg 48 48 48) (by decide) (by decide)
              have s36 : x34.toInt = x31.toInt - (48 : Int32).toInt := by rw [ex34]; exact i_sub (by obtain ⟨_, _⟩ := r32; obtain ⟨_, _⟩ := (⟨by decide, by decide⟩ : Rg 48 48 48); omega) (by obtain ⟨_, _⟩ := r32; obtain ⟨_, _⟩ := (⟨by decide, by decide⟩ : Rg 48 48 48); omega)
              have s36l : (48 : Int32).toInt = 48 := rfl
              refine lv_istore_n (lv' := [(2, .int x34), (0, .ref (ad 55)), (1, .int dg), (3, .int y3)]) hx hb d_X8_number_60 rfl hl (by decide) rfl (fun ls hl => ?_)
              refine lv_aload_n hx hb d_X8_number_61 rfl (lv_at hl 1 rfl) ?_
              refine lv_dup hx hb d_X8_number_62 rfl ?_
              refine r_geti X hw FL_X8_19 (rfl : KD 55 = _) rfl d_X8_number_63 ?_
              refine lv_seti hm8 ?_
              refine lv_iconst (v := 1) hx hb d_X8_number_66 (by decide) ?_
              refine lv_iadd hx hb d_X8_number_67 ?_
              refine lv_topi (fun x37 ex37 => ?_)
              have r38 : Rg x37 1 120 := rg_add ex37 r15 (⟨by decide, by decide⟩ : Rg 1 1 1) (by decide) (by decide)
              have s39 : x37.toInt = x6.toInt + (1 : Int32).toInt := by rw [ex37]; exact i_add (by obtain ⟨_, _⟩ := r15; obtain ⟨_, _⟩ := (⟨by decide, by decide⟩ : Rg 1 1 1); omega) (by obtain ⟨_, _⟩ := r15; obtain ⟨_, _⟩ := (⟨by decide, by decide⟩ : Rg 1 1 1); omega)
              have s39l : (1 : Int32).toInt = 1 := rfl
              refine r_put X hw hS FP_X8_19 (rfl : KD 55 = _) rfl ⟨rfl, rfl⟩ d_X8_number_68 (fun H locs hw hS => ?_)
              obtain ⟨v40, ev40⟩ : ∃ z, z = up2 v1 55 2 x37 := ⟨_, rfl⟩
              rw [← ev40] at hw
              have hI41 : Inv v40 := by rw [ev40]; exact Inv.putr hI1 rfl (rg_w r38 (by decide) (by decide))
              have hK42 : Kp v v40 := by rw [ev40]; exact Kp.put hK1 _ rfl
              have hm43 : v40 50 2 = g0 := by rw [ev40, up2_n _ _ (by omega)]; exact hfx0
              have hm44 : v40 55 1 = x9 := by rw [ev40, up2_n _ _ (by omega)]; exact hm11
              have hm45 : v40 56 x6.toNatClampNeg = x17 := by rw [ev40, up2_n _ _ (by omega)]; exact hm18
              have hm46 : v40 55 2 = x37 := by rw [ev40, up2_s]
              obtain ⟨x47, ex47⟩ : ∃ y : Int32, y = y3 + 1 := ⟨_, rfl⟩
              refine lv_iinc (v := x47) (lv' := [(3, .int x47), (2, .int x34), (0, .ref (ad 55)), (1, .int dg)]) hx hb d_X8_number_71 hl (k := 3) rfl (by rw [ex47]; rfl) (by decide) rfl (fun ls hl => ?_)
              have r48 : Rg x47 1 3 := rg_add ex47 r5 (⟨by decide, by decide⟩ : Rg 1 1 1) (by decide) (by decide)
              have s49 : x47.toInt = y3.toInt + (1 : Int32).toInt := by rw [ex47]; exact i_add (by obtain ⟨_, _⟩ := r5; obtain ⟨_, _⟩ := (⟨by decide, by decide⟩ : Rg 1 1 1); omega) (by obtain ⟨_, _⟩ := r5; obtain ⟨_, _⟩ := (⟨by decide, by decide⟩ : Rg 1 1 1); omega)
              have s49l : (1 : Int32).toInt = 1 := rfl
              refine lv_goto (tgt := 4) hx hb d_X8_number_74 (by decide) ?_
              exact ih0 x34 x47 v40 _ _ _ (by have q_ := r_dg; obtain ⟨_, _⟩ := q_; have q_ := r_g0; obtain ⟨_, _⟩ := q_; have q_ := r25; obtain ⟨_, _⟩ := q_; have q_ := r5; obtain ⟨_, _⟩ := q_; have q_ := r15; obtain ⟨_, _⟩ := q_; have q_ := r16; obtain ⟨_, _⟩ := q_; have q_ := r23; obtain ⟨_, _⟩ := q_; have q_ := r27; obtain ⟨_, _⟩ := q_; have q_ := r29; obtain ⟨_, _⟩ := q_; have q_ := r32; obtain ⟨_, _⟩ := q_; have q_ := r35; obtain ⟨_, _⟩ := q_; have q_ := r38; obtain ⟨_, _⟩ := q_; have q_ := r48; obtain ⟨_, _⟩ := q_; omega) (rg_w r35 (by decide) (by decide)) (rg_w r48 (by decide) (by decide)) hI41 hK42 hm43 (by have q_ := r_dg; obtain ⟨_, _⟩ := q_; have q_ := r_g0; obtain ⟨_, _⟩ := q_; have q_ := r25; obtain ⟨_, _⟩ := q_; have q_ := r5; obtain ⟨_, _⟩ := q_; have q_ := r15; obtain ⟨_, _⟩ := q_; have q_ := r16; obtain ⟨_, _⟩ := q_; have q_ := r23; obtain ⟨_, _⟩ := q_; have q_ := r27; obtain ⟨_, _⟩ := q_; have q_ := r29; obtain ⟨_, _⟩ := q_; have q_ := r32; obtain ⟨_, _⟩ := q_; have q_ := r35; obtain ⟨_, _⟩ := q_; have q_ := r38; obtain ⟨_, _⟩ := q_; have q_ := r48; obtain ⟨_, _⟩ := q_; have z0 : (0 : Int32).toInt = 0 := rfl; have z1 : (-1 : Int32).toInt = -1 := rfl; refine ⟨fun _ => ?_, fun _ => ?_, fun _ => ?_⟩ <;> omega) hw hS (lv_sub hl [2, 3, 1, 0] rfl)
          · skip
            refine lv_if_eq (tgt := 77) hx hb d_X8_number_36 (by decide) (fun c50 => ?_) (fun c50 => ?_)
            · refine lv_iload_n hx hb d_X8_number_77 rfl (lv_at hl 2 rfl) ?_
              exact r_iret X hr hlocks hw hS ⟨hI1, hK1, r_y2, (hfx0.trans hg0.symm)⟩ d_X8_number_78
            · exact absurd c50 (by decide)
  have ih0 := LL 100000
  have hK0 : Kp v v := Kp.rf v
  refine lv_iconst (v := -1) hx hb d_X8_number_0 (by decide) ?_
  refine lv_istore_n (lv' := [(2, .int (-1)), (0, .ref (ad 55)), (1, .int dg)]) hx hb d_X8_number_1 rfl hl (by decide) rfl (fun ls hl => ?_)
  refine lv_iconst (v := 0) hx hb d_X8_number_2 (by decide) ?_
  refine lv_istore_n (lv' := [(3, .int 0), (2, .int (-1)), (0, .ref (ad 55)), (1, .int dg)]) hx hb d_X8_number_3 rfl hl (by decide) rfl (fun ls hl => ?_)
  exact ih0 (-1) 0 v _ _ _ (by have q_ := r_dg; obtain ⟨_, _⟩ := q_; have q_ := r_g0; obtain ⟨_, _⟩ := q_; have q_ : (-1 : Int32).toInt = (-1) := rfl; have q_ : (0 : Int32).toInt = 0 := rfl; omega) (rg_w (⟨by decide, by decide⟩ : Rg (-1) (-1) (-1)) (by decide) (by decide)) (rg_w (⟨by decide, by decide⟩ : Rg 0 0 0) (by decide) (by decide)) hI hK0 hg0 (by have q_ := r_dg; obtain ⟨_, _⟩ := q_; have q_ := r_g0; obtain ⟨_, _⟩ := q_; have z0 : (0 : Int32).toInt = 0 := rfl; have z1 : (-1 : Int32).toInt = -1 := rfl; refine ⟨fun _ => ?_, fun _ => ?_, fun _ => ?_⟩ <;> omega) hw hS (lv_sub hl [2, 3, 1, 0] rfl)
theorem d_X8_word_0 : decode c_X8_word 0 = .ok (.iconst 0, 1) := by decide +kernel
theorem d_X8_word_1 : decode c_X8_word 1 = .ok (.istore_n 2, 1) := by decide +kernel
theorem d_X8_word_2 : decode c_X8_word 2 = .ok (.iload_n 2, 1) := by decide +kernel
theorem d_X8_word_3 : decode c_X8_word 3 = .ok (.aload_n 1, 1) := by decide +kernel
theorem d_X8_word_4 : decode c_X8_word 4 = .ok (.invokevirtual 80, 3) := by decide +kernel
theorem d_X8_word_7 : decode c_X8_word 7 = .ok (.if_icmp .ge 49, 3) := by decide +kernel
theorem d_X8_word_10 : decode c_X8_word 10 = .ok (.aload_n 0, 1) := by decide +kernel
theorem d_X8_word_11 : decode c_X8_word 11 = .ok (.getfield 19, 3) := by decide +kernel
theorem d_X8_word_14 : decode c_X8_word 14 = .ok (.aload_n 0, 1) := by decide +kernel
theorem d_X8_word_15 : decode c_X8_word 15 = .ok (.getfield 15, 3) := by decide +kernel
theorem d_X8_word_18 : decode c_X8_word 18 = .ok (.if_icmp .ge 20, 3) := by decide +kernel
theorem d_X8_word_21 : decode c_X8_word 21 = .ok (.aload_n 0, 1) := by decide +kernel
theorem d_X8_word_22 : decode c_X8_word 22 = .ok (.getfield 9, 3) := by decide +kernel
theorem d_X8_word_25 : decode c_X8_word 25 = .ok (.aload_n 0, 1) := by decide +kernel
theorem d_X8_word_26 : decode c_X8_word 26 = .ok (.getfield 19, 3) := by decide +kernel
theorem d_X8_word_29 : decode c_X8_word 29 = .ok (.iaload, 1) := by decide +kernel
theorem d_X8_word_30 : decode c_X8_word 30 = .ok (.aload_n 1, 1) := by decide +kernel
theorem d_X8_word_31 : decode c_X8_word 31 = .ok (.iload_n 2, 1) := by decide +kernel
theorem d_X8_word_32 : decode c_X8_word 32 = .ok (.invokevirtual 86, 3) := by decide +kernel
theorem d_X8_word_35 : decode c_X8_word 35 = .ok (.if_icmp .eq 5, 3) := by decide +kernel
theorem d_X8_word_38 : decode c_X8_word 38 = .ok (.iconst 0, 1) := by decide +kernel
theorem d_X8_word_39 : decode c_X8_word 39 = .ok (.ireturn, 1) := by decide +kernel
theorem d_X8_word_40 : decode c_X8_word 40 = .ok (.aload_n 0, 1) := by decide +kernel
theorem d_X8_word_41 : decode c_X8_word 41 = .ok (.dup, 1) := by decide +kernel
theorem d_X8_word_42 : decode c_X8_word 42 = .ok (.getfield 19, 3) := by decide +kernel
theorem d_X8_word_45 : decode c_X8_word 45 = .ok (.iconst 1, 1) := by decide +kernel
theorem d_X8_word_46 : decode c_X8_word 46 = .ok (.iadd, 1) := by decide +kernel
theorem d_X8_word_47 : decode c_X8_word 47 = .ok (.putfield 19, 3) := by decide +kernel
theorem d_X8_word_50 : decode c_X8_word 50 = .ok (.iinc 2 1, 3) := by decide +kernel
theorem d_X8_word_53 : decode c_X8_word 53 = .ok (.goto (-51), 3) := by decide +kernel
theorem d_X8_word_56 : decode c_X8_word 56 = .ok (.iconst 1, 1) := by decide +kernel
theorem d_X8_word_57 : decode c_X8_word 57 = .ok (.ireturn, 1) := by decide +kernel
set_option maxHeartbeats 4000000 in
set_option maxRecDepth 100000 in
theorem ct_X8_word_55 (l : Launch) (D : va_G) (dA : Nat → ClassId) (ad : Nat → Nat) (sa : Nat → Nat) (v : tV) (hI : Inv v) (xx : Nat × String × Nat) (hxx : xx ∈ STAB) : Met l m_X8_word [.code m_X8_word c_X8_word 3 (some .boolean)] ({ frames := 5, cells := 0, slots := 0, locals := 131 } : Room) (tPs D dA ad sa v [.ref (ad 55), .ref (sa xx.1)]) (tQi D dA ad (fun r v' => Inv v' ∧ Kp v v' ∧ Rg r 0 1 ∧ v' 50 2 = v 50 2)) 0 0 (tA ad) := by
  refine tMets (by decide) (Nat.le_of_ble_eq_true rfl) ?_
  intro p e s m below meth c ls X hr hlocks hw hSC hl
  have X : CX p s m ([.ref (ad 55), .ref (sa xx.1)] : List Value).toArray c c_X8_word N_X8 3 D dA := X
  have hx := X.1
  have hb := X.2.1
  have hS : va_S (tA ad) s.heap s.heap [] := va_S.rf
  have hl : lv_has ls 3 [(0, .ref (ad 55)), (1, .ref (sa xx.1))] := hl
  obtain ⟨g0, hg0⟩ : ∃ g, v 50 2 = g := ⟨_, rfl⟩
  have r_g0 : Rg g0 0 8 := by rw [← hg0]; exact hI 50 2 _ _ rfl
  have hSO := (hSC.2 xx hxx).2
  have LL : ∀ n : Nat, (∀ (y2 : Int32) (v1 : tV) (H : Heap) (locs : List Loc) (ls : Array Slot), (6 - y2.toInt).toNat < n → Rg y2 0 6 → Inv v1 → Kp v v1 → v1 50 2 = g0 → tI D dA ad v1 H → va_S (tA ad) s.heap H locs → lv_has ls 3 [(0, .ref (ad 55)), (1, .ref (sa xx.1)), (2, .int y2)] → W p l e ({ frames := 5, cells := 0, slots := 0, locals := 131 } : Room) s m ([.ref (ad 55), .ref (sa xx.1)] : List Value).toArray below meth c H locs 0 0 (MQ below (tQi D dA ad (fun r v' => Inv v' ∧ Kp v v' ∧ Rg r 0 1 ∧ v' 50 2 = v 50 2)) ([.ref (ad 55), .ref (sa xx.1)] : List Value).toArray s 0 0 (tA ad)) (F0 m 2 ls [])) := by
    intro n
    induction n with
    | zero => intros; omega
    | succ n ih =>
      have ih0 := ih
      intro y2 v1 H locs ls hmu r_y2 hI1 hK1 hfx0 hw hS hl
      refine lv_iload_n hx hb d_X8_word_2 rfl (lv_at hl 2 rfl) ?_
      refine lv_aload_n hx hb d_X8_word_3 rfl (lv_at hl 1 rfl) ?_
      refine j_ci (j_runV (n := 0) (As := []) (rest := [.int y2]) hx hb X.2.2.1 X.2.2.2.1 X.2.2.2.2.1 X.2.2.2.2.2.2 ((hSC.1.kept hS.2.1).ff) (ctj_J0_length l (sa xx.1) xx.2.2) (JB_so _ _) ((hSO.kept hS.2.1).ff) ((hSO.kept hS.2.1).ff).1 gj_J0_length_80 (by decide +kernel) ⟨rfl, rfl, Nat.le_of_ble_eq_true rfl, Nat.le_of_ble_eq_true rfl⟩ rfl hl.1 rfl (Nat.le_of_ble_eq_true rfl) ⟨Nat.zero_le _, Nat.zero_le _⟩ d_X8_word_4) hS (fun x1 H locs hp2 hk hS => ?_)
      have hw := tI.same hk hw
      have hlen := hp2
      have r3 : Rg x1 0 6 := rg_ofNat hp2 (st_le xx hxx)
      refine lv_icmp_ge (tgt := 56) hx hb d_X8_word_7 (by decide) (fun c4 => ?_) (fun c4 => ?_)
      · have f5 := i_le c4
        refine lv_iconst (v := 1) hx hb d_X8_word_56 (by decide) ?_
        exact r_zret X hr hlocks hw hS rfl ⟨hI1, hK1, (rg_w (⟨by decide, by decide⟩ : Rg 1 1 1) (by decide) (by decide)), (hfx0.trans hg0.symm)⟩ d_X8_word_57
      · have f6 := i_nle c4
        have r7 : Rg y2 0 5 := by obtain ⟨a1, a2⟩ := r_y2; obtain ⟨b1, b2⟩ := r3; have f := i_nle c4; exact ⟨by omega, by omega⟩
        have r8 : Rg x1 1 6 := by obtain ⟨a1, a2⟩ := r_y2; obtain ⟨b1, b2⟩ := r3; have f := i_nle c4; exact ⟨by omega, by omega⟩
        refine lv_aload_n hx hb d_X8_word_10 rfl (lv_at hl 0 rfl) ?_
        refine r_geti X hw FL_X8_19 (rfl : KD 55 = _) rfl d_X8_word_11 ?_
        refine lv_topi (fun x9 ex9 => ?_)
        have r10 : Rg x9 0 120 := by rw [ex9]; exact hI1 _ _ _ _ rfl
        have hm11 : v1 55 2 = x9 := ex9.symm
        refine lv_aload_n hx hb d_X8_word_14 rfl (lv_at hl 0 rfl) ?_
        refine r_geti X hw FL_X8_15 (rfl : KD 55 = _) rfl d_X8_word_15 ?_
        refine lv_topi (fun x12 ex12 => ?_)
        have r13 : Rg x12 0 120 := by rw [ex12]; exact hI1 _ _ _ _ rfl
        have hm14 : v1 55 1 = x12 := ex12.symm
        refine lv_icmp_ge (tgt := 38) hx hb d_X8_word_18 (by decide) (fun c15 => ?_) (fun c15 => ?_)
        · have f16 := i_le c15
          refine lv_iconst (v := 0) hx hb d_X8_word_38 (by decide) ?_
          exact r_zret X hr hlocks hw hS rfl ⟨hI1, hK1, (rg_w (⟨by decide, by decide⟩ : Rg 0 0 0) (by decide) (by decide)), (hfx0.trans hg0.symm)⟩ d_X8_word_39
        · have f17 := i_nle c15
          have r18 : Rg x9 0 119 := by obtain ⟨a1, a2⟩ := r10; obtain ⟨b1, b2⟩ := r13; have f := i_nle c15; exact ⟨by omega, by omega⟩
          have r19 : Rg x12 1 120 := by obtain ⟨a1, a2⟩ := r10; obtain ⟨b1, b2⟩ := r13; have f := i_nle c15; exact ⟨by omega, by omega⟩
          refine lv_aload_n hx hb d_X8_word_21 rfl (lv_at hl 0 rfl) ?_
          refine r_getr (r := 56) X hw FL_X8_9 (rfl : KD 55 = _) rfl d_X8_word_22 ?_
          refine lv_aload_n hx hb d_X8_word_25 rfl (lv_at hl 0 rfl) ?_
          refine r_geti X hw FL_X8_19 (rfl : KD 55 = _) rfl d_X8_word_26 ?_
          refine lv_seti hm11 ?_
          refine r_iald X hw (rfl : KD 56 = _) (Rg.vp (b := 119) r18 (by decide)) rfl d_X8_word_29 ?_
          refine lv_topi (fun x20 ex20 => ?_)
          refine lv_aload_n hx hb d_X8_word_30 rfl (lv_at hl 1 rfl) ?_
          refine lv_iload_n hx hb d_X8_word_31 rfl (lv_at hl 2 rfl) ?_
          refine j_ci (j_runV (n := 1) (As := [.int y2]) (rest := [.int x20]) hx hb X.2.2.1 X.2.2.2.1 X.2.2.2.2.1 X.2.2.2.2.2.2 ((hSC.1.kept hS.2.1).ff) (ctj_J0_charAt l (sa xx.1) xx.2.2 y2 (vp_lt (by obtain ⟨_, _⟩ := r7; omega) (by omega) hlen (st_le xx hxx)) (Nat.lt_of_le_of_lt (st_le xx hxx) (by decide))) (JB_so _ _) ((hSO.kept hS.2.1).ff) ((hSO.kept hS.2.1).ff).1 gj_J0_charAt_86 (by decide +kernel) ⟨rfl, rfl, Nat.le_of_ble_eq_true rfl, Nat.le_of_ble_eq_true rfl⟩ rfl hl.1 rfl (Nat.le_of_ble_eq_true rfl) ⟨Nat.zero_le _, Nat.zero_le _⟩ d_X8_word_32) hS (fun x21 H locs hp22 hk hS => ?_)
          have hw := tI.same hk hw
          refine lv_icmp_eq (tgt := 40) hx hb d_X8_word_35 (by decide) (fun c23 => ?_) (fun c23 => ?_)
          · have f24 := i_eq c23
            refine lv_aload_n hx hb d_X8_word_40 rfl (lv_at hl 0 rfl) ?_
            refine lv_dup hx hb d_X8_word_41 rfl ?_
            refine r_geti X hw FL_X8_19 (rfl : KD 55 = _) rfl d_X8_word_42 ?_
            refine lv_seti hm11 ?_
            refine lv_iconst (v := 1) hx hb d_X8_word_45 (by decide) ?_
            refine lv_iadd hx hb d_X8_word_46 ?_
            refine lv_topi (fun x25 ex25 => ?_)
            have r26 : Rg x25 1 120 := rg_add ex25 r18 (⟨by decide, by decide⟩ : Rg 1 1 1) (by decide) (by decide)
            have s27 : x25.toInt = x9.toInt + (1 : Int32).toInt := by rw [ex25]; exact i_add (by obtain ⟨_, _⟩ := r18; obtain ⟨_, _⟩ := (⟨by decide, by decide⟩ : Rg 1 1 1); omega) (by obtain ⟨_, _⟩ := r18; obtain ⟨_, _⟩ := (⟨by decide, by decide⟩ : Rg 1 1 1); omega)
            have s27l : (1 : Int32).toInt = 1 := rfl
            refine r_put X hw hS FP_X8_19 (rfl : KD 55 = _) rfl ⟨rfl, rfl⟩ d_X8_word_47 (fun H locs hw hS => ?_)
            obtain ⟨v28, ev28⟩ : ∃ z, z = up2 v1 55 2 x25 := ⟨_, rfl⟩
            rw [← ev28] at hw
            have hI29 : Inv v28 := by rw [ev28]; exact Inv.putr hI1 rfl (rg_w r26 (by decide) (by decide))
            have hK30 : Kp v v28 := by rw [ev28]; exact Kp.put hK1 _ rfl
            have hm31 : v28 50 2 = g0 := by rw [ev28, up2_n _ _ (by omega)]; exact hfx0
            have hm32 : v28 55 1 = x12 := by rw [ev28, up2_n _ _ (by omega)]; exact hm14
            have hm33 : v28 55 2 = x25 := by rw [ev28, up2_s]
            obtain ⟨x34, ex34⟩ : ∃ y : Int32, y = y2 + 1 := ⟨_, rfl⟩
            refine lv_iinc (v := x34) (lv' := [(2, .int x34), (0, .ref (ad 55)), (1, .ref (sa xx.1))]) hx hb d_X8_word_50 hl (k := 2) rfl (by rw [ex34]; rfl) (by decide) rfl (fun ls hl => ?_)
            have r35 : Rg x34 1 6 := rg_add ex34 r7 (⟨by decide, by decide⟩ : Rg 1 1 1) (by decide) (by decide)
            have s36 : x34.toInt = y2.toInt + (1 : Int32).toInt := by rw [ex34]; exact i_add (by obtain ⟨_, _⟩ := r7; obtain ⟨_, _⟩ := (⟨by decide, by decide⟩ : Rg 1 1 1); omega) (by obtain ⟨_, _⟩ := r7; obtain ⟨_, _⟩ := (⟨by decide, by decide⟩ : Rg 1 1 1); omega)
            have s36l : (1 : Int32).toInt = 1 := rfl
            refine lv_goto (tgt := 2) hx hb d_X8_word_53 (by decide) ?_
            exact ih0 x34 v28 _ _ _ (by have q_ := r_g0; obtain ⟨_, _⟩ := q_; have q_ := r7; obtain ⟨_, _⟩ := q_; have q_ := r8; obtain ⟨_, _⟩ := q_; have q_ := r18; obtain ⟨_, _⟩ := q_; have q_ := r19; obtain ⟨_, _⟩ := q_; have q_ := r26; obtain ⟨_, _⟩ := q_; have q_ := r35; obtain ⟨_, _⟩ := q_; omega) (rg_w r35 (by decide) (by decide)) hI29 hK30 hm31 hw hS (lv_sub hl [1, 2, 0] rfl)
          · have f37 := i_ne c23
            refine lv_iconst (v := 0) hx hb d_X8_word_38 (by decide) ?_
            exact r_zret X hr hlocks hw hS rfl ⟨hI1, hK1, (rg_w (⟨by decide, by decide⟩ : Rg 0 0 0) (by decide) (by decide)), (hfx0.trans hg0.symm)⟩ d_X8_word_39
  have ih0 := LL 100000
  have hK0 : Kp v v := Kp.rf v
  refine lv_iconst (v := 0) hx hb d_X8_word_0 (by decide) ?_
  refine lv_istore_n (lv' := [(2, .int 0), (0, .ref (ad 55)), (1, .ref (sa xx.1))]) hx hb d_X8_word_1 rfl hl (by decide) rfl (fun ls hl => ?_)
  exact ih0 0 v _ _ _ (by have q_ := r_g0; obtain ⟨_, _⟩ := q_; have q_ : (0 : Int32).toInt = 0 := rfl; omega) (rg_w (⟨by decide, by decide⟩ : Rg 0 0 0) (by decide) (by decide)) hI hK0 hg0 hw hS (lv_sub hl [1, 2, 0] rfl)
theorem d_X8_key_0 : decode c_X8_key 0 = .ok (.aload_n 0, 1) := by decide +kernel
theorem d_X8_key_1 : decode c_X8_key 1 = .ok (.ldc 41, 2) := by decide +kernel
theorem d_X8_key_3 : decode c_X8_key 3 = .ok (.invokevirtual 29, 3) := by decide +kernel
theorem d_X8_key_6 : decode c_X8_key 6 = .ok (.ifCond .eq 15, 3) := by decide +kernel
theorem d_X8_key_9 : decode c_X8_key 9 = .ok (.aload_n 1, 1) := by decide +kernel
theorem d_X8_key_10 : decode c_X8_key 10 = .ok (.iconst 1, 1) := by decide +kernel
theorem d_X8_key_11 : decode c_X8_key 11 = .ok (.putfield 43, 3) := by decide +kernel
theorem d_X8_key_14 : decode c_X8_key 14 = .ok (.aload_n 0, 1) := by decide +kernel
theorem d_X8_key_15 : decode c_X8_key 15 = .ok (.ldc 45, 2) := by decide +kernel
theorem d_X8_key_17 : decode c_X8_key 17 = .ok (.invokevirtual 29, 3) := by decide +kernel
theorem d_X8_key_20 : decode c_X8_key 20 = .ok (.ireturn, 1) := by decide +kernel
theorem d_X8_key_21 : decode c_X8_key 21 = .ok (.aload_n 0, 1) := by decide +kernel
theorem d_X8_key_22 : decode c_X8_key 22 = .ok (.ldc 47, 2) := by decide +kernel
theorem d_X8_key_24 : decode c_X8_key 24 = .ok (.invokevirtual 29, 3) := by decide +kernel
theorem d_X8_key_27 : decode c_X8_key 27 = .ok (.ifCond .eq 15, 3) := by decide +kernel
theorem d_X8_key_30 : decode c_X8_key 30 = .ok (.aload_n 1, 1) := by decide +kernel
theorem d_X8_key_31 : decode c_X8_key 31 = .ok (.iconst 0, 1) := by decide +kernel
theorem d_X8_key_32 : decode c_X8_key 32 = .ok (.putfield 43, 3) := by decide +kernel
theorem d_X8_key_35 : decode c_X8_key 35 = .ok (.aload_n 0, 1) := by decide +kernel
theorem d_X8_key_36 : decode c_X8_key 36 = .ok (.ldc 49, 2) := by decide +kernel
theorem d_X8_key_38 : decode c_X8_key 38 = .ok (.invokevirtual 29, 3) := by decide +kernel
theorem d_X8_key_41 : decode c_X8_key 41 = .ok (.ireturn, 1) := by decide +kernel
theorem d_X8_key_42 : decode c_X8_key 42 = .ok (.aload_n 0, 1) := by decide +kernel
theorem d_X8_key_43 : decode c_X8_key 43 = .ok (.ldc 51, 2) := by decide +kernel
theorem d_X8_key_45 : decode c_X8_key 45 = .ok (.invokevirtual 29, 3) := by decide +kernel
theorem d_X8_key_48 : decode c_X8_key 48 = .ok (.ifCond .ne 5, 3) := by decide +kernel
theorem d_X8_key_51 : decode c_X8_key 51 = .ok (.iconst 0, 1) := by decide +kernel
theorem d_X8_key_52 : decode c_X8_key 52 = .ok (.ireturn, 1) := by decide +kernel
theorem d_X8_key_53 : decode c_X8_key 53 = .ok (.aload_n 0, 1) := by decide +kernel
theorem d_X8_key_54 : decode c_X8_key 54 = .ok (.ldc 53, 2) := by decide +kernel
theorem d_X8_key_56 : decode c_X8_key 56 = .ok (.invokevirtual 29, 3) := by decide +kernel
theorem d_X8_key_59 : decode c_X8_key 59 = .ok (.ifCond .eq 10, 3) := by decide +kernel
theorem d_X8_key_62 : decode c_X8_key 62 = .ok (.aload_n 1, 1) := by decide +kernel
theorem d_X8_key_63 : decode c_X8_key 63 = .ok (.iconst 3, 1) := by decide +kernel
theorem d_X8_key_64 : decode c_X8_key 64 = .ok (.putfield 43, 3) := by decide +kernel
theorem d_X8_key_67 : decode c_X8_key 67 = .ok (.iconst 1, 1) := by decide +kernel
theorem d_X8_key_68 : decode c_X8_key 68 = .ok (.ireturn, 1) := by decide +kernel
theorem d_X8_key_69 : decode c_X8_key 69 = .ok (.aload_n 1, 1) := by decide +kernel
theorem d_X8_key_70 : decode c_X8_key 70 = .ok (.iconst 2, 1) := by decide +kernel
theorem d_X8_key_71 : decode c_X8_key 71 = .ok (.putfield 43, 3) := by decide +kernel
theorem d_X8_key_74 : decode c_X8_key 74 = .ok (.aload_n 0, 1) := by decide +kernel
theorem d_X8_key_75 : decode c_X8_key 75 = .ok (.ldc 55, 2) := by decide +kernel
theorem d_X8_key_77 : decode c_X8_key 77 = .ok (.invokevirtual 29, 3) := by decide +kernel
theorem d_X8_key_80 : decode c_X8_key 80 = .ok (.ireturn, 1) := by decide +kernel
set_option maxHeartbeats 4000000 in
set_option maxRecDepth 100000 in
theorem ct_X8_key_55 (l : Launch) (D : va_G) (dA : Nat → ClassId) (ad : Nat → Nat) (sa : Nat → Nat) (v : tV) (hI : Inv v) (k : Nat) (ka : 60 ≤ k) (kb : k < 69) : Met l m_X8_key [.code m_X8_key c_X8_key 2 (some .boolean)] ({ frames := 6, cells := 0, slots := 0, locals := 153 } : Room) (tPs D dA ad sa v [.ref (ad 55), .ref (ad k)]) (tQi D dA ad (fun r v' => Inv v' ∧ Kp v v' ∧ Rg r 0 1 ∧ v' 50 2 = v 50 2)) 0 0 (tA ad) := by
  refine tMets (by decide) (Nat.le_of_ble_eq_true rfl) ?_
  intro p e s m below meth c ls X hr hlocks hw hSC hl
  have X : CX p s m ([.ref (ad 55), .ref (ad k)] : List Value).toArray c c_X8_key N_X8 2 D dA := X
  have hx := X.1
  have hb := X.2.1
  have hS : va_S (tA ad) s.heap s.heap [] := va_S.rf
  have hl : lv_has ls 2 [(0, .ref (ad 55)), (1, .ref (ad k))] := hl
  obtain ⟨g0, hg0⟩ : ∃ g, v 50 2 = g := ⟨_, rfl⟩
  have r_g0 : Rg g0 0 8 := by rw [← hg0]; exact hI 50 2 _ _ rfl
  have hK0 : Kp v v := Kp.rf v
  refine lv_aload_n hx hb d_X8_key_0 rfl (lv_at hl 0 rfl) ?_
  refine va_ldcS hx hb X.2.2.2.1 (hSC.2 (41, "a", 1) (by decide)).1 d_X8_key_1 ?_
  refine r_ci (r_runVs (n := 1) (As := [.ref (sa 41)]) (rest := []) X hw hSC hS (ct_X8_word_55 l D dA ad sa v hI (41, "a", 1) (by decide)) gc_X8_29 (rfl : KD 55 = _) (by decide) rfl (by decide +kernel) ⟨rfl, rfl, Nat.le_of_ble_eq_true rfl, Nat.le_of_ble_eq_true rfl⟩ rfl hl.1 rfl (Nat.le_of_ble_eq_true rfl) ⟨Nat.zero_le _, Nat.zero_le _⟩ d_X8_key_3) hS (fun x2 v3 H locs hp1 hw hS => ?_)
  obtain ⟨hI4, hK5, hp1, hk6⟩ := hp1
  have hK7 : Kp v v3 := Kp.tr hK0 hK5
  have hm8 : v3 50 (2) = g0 := hk6.trans hg0
  refine lv_if_eq (tgt := 21) hx hb d_X8_key_6 (by decide) (fun c9 => ?_) (fun c9 => ?_)
  · have f10 := i_eq c9
    have r11 : Rg x2 0 0 := by obtain ⟨a1, a2⟩ := hp1; obtain ⟨b1, b2⟩ := (⟨by decide, by decide⟩ : Rg 0 0 0); have f := i_eq c9; exact ⟨by omega, by omega⟩
    refine lv_aload_n hx hb d_X8_key_21 rfl (lv_at hl 0 rfl) ?_
    refine va_ldcS hx hb X.2.2.2.1 (hSC.2 (47, "e", 1) (by decide)).1 d_X8_key_22 ?_
    refine r_ci (r_runVs (n := 1) (As := [.ref (sa 47)]) (rest := []) X hw hSC hS (ct_X8_word_55 l D dA ad sa v3 hI4 (47, "e", 1) (by decide)) gc_X8_29 (rfl : KD 55 = _) (by decide) rfl (by decide +kernel) ⟨rfl, rfl, Nat.le_of_ble_eq_true rfl, Nat.le_of_ble_eq_true rfl⟩ rfl hl.1 rfl (Nat.le_of_ble_eq_true rfl) ⟨Nat.zero_le _, Nat.zero_le _⟩ d_X8_key_24) hS (fun x13 v14 H locs hp12 hw hS => ?_)
    obtain ⟨hI15, hK16, hp12, hk17⟩ := hp12
    have hK18 : Kp v v14 := Kp.tr hK7 hK16
    have hm19 : v14 50 (2) = g0 := hk17.trans hm8
    refine lv_if_eq (tgt := 42) hx hb d_X8_key_27 (by decide) (fun c20 => ?_) (fun c20 => ?_)
    · have f21 := i_eq c20
      have r22 : Rg x13 0 0 := by obtain ⟨a1, a2⟩ := hp12; obtain ⟨b1, b2⟩ := (⟨by decide, by decide⟩ : Rg 0 0 0); have f := i_eq c20; exact ⟨by omega, by omega⟩
      refine lv_aload_n hx hb d_X8_key_42 rfl (lv_at hl 0 rfl) ?_
      refine va_ldcS hx hb X.2.2.2.1 (hSC.2 (51, "lo", 2) (by decide)).1 d_X8_key_43 ?_
      refine r_ci (r_runVs (n := 1) (As := [.ref (sa 51)]) (rest := []) X hw hSC hS (ct_X8_word_55 l D dA ad sa v14 hI15 (51, "lo", 2) (by decide)) gc_X8_29 (rfl : KD 55 = _) (by decide) rfl (by decide +kernel) ⟨rfl, rfl, Nat.le_of_ble_eq_true rfl, Nat.le_of_ble_eq_true rfl⟩ rfl hl.1 rfl (Nat.le_of_ble_eq_true rfl) ⟨Nat.zero_le _, Nat.zero_le _⟩ d_X8_key_45) hS (fun x24 v25 H locs hp23 hw hS => ?_)
      obtain ⟨hI26, hK27, hp23, hk28⟩ := hp23
      have hK29 : Kp v v25 := Kp.tr hK18 hK27
      have hm30 : v25 50 (2) = g0 := hk28.trans hm19
      refine lv_if_ne (tgt := 53) hx hb d_X8_key_48 (by decide) (fun c31 => ?_) (fun c31 => ?_)
      · have f32 := i_ne c31
        have r33 : Rg x24 1 1 := by obtain ⟨a1, a2⟩ := hp23; obtain ⟨b1, b2⟩ := (⟨by decide, by decide⟩ : Rg 0 0 0); have f := i_ne c31; exact ⟨by omega, by omega⟩
        refine lv_aload_n hx hb d_X8_key_53 rfl (lv_at hl 0 rfl) ?_
        refine va_ldcS hx hb X.2.2.2.1 (hSC.2 (53, "t", 1) (by decide)).1 d_X8_key_54 ?_
        refine r_ci (r_runVs (n := 1) (As := [.ref (sa 53)]) (rest := []) X hw hSC hS (ct_X8_word_55 l D dA ad sa v25 hI26 (53, "t", 1) (by decide)) gc_X8_29 (rfl : KD 55 = _) (by decide) rfl (by decide +kernel) ⟨rfl, rfl, Nat.le_of_ble_eq_true rfl, Nat.le_of_ble_eq_true rfl⟩ rfl hl.1 rfl (Nat.le_of_ble_eq_true rfl) ⟨Nat.zero_le _, Nat.zero_le _⟩ d_X8_key_56) hS (fun x35 v36 H locs hp34 hw hS => ?_)
        obtain ⟨hI37, hK38, hp34, hk39⟩ := hp34
        have hK40 : Kp v v36 := Kp.tr hK29 hK38
        have hm41 : v36 50 (2) = g0 := hk39.trans hm30
        refine lv_if_eq (tgt := 69) hx hb d_X8_key_59 (by decide) (fun c42 => ?_) (fun c42 => ?_)
        · have f43 := i_eq c42
          have r44 : Rg x35 0 0 := by obtain ⟨a1, a2⟩ := hp34; obtain ⟨b1, b2⟩ := (⟨by decide, by decide⟩ : Rg 0 0 0); have f := i_eq c42; exact ⟨by omega, by omega⟩
          refine lv_aload_n hx hb d_X8_key_69 rfl (lv_at hl 1 rfl) ?_
          refine lv_iconst (v := 2) hx hb d_X8_key_70 (by decide) ?_
          refine r_put X hw hS FP_X8_43 (KD_order (by omega) (by omega)) (SH_order (by omega) (by omega) (by decide)) ⟨rfl, rfl⟩ d_X8_key_71 (fun H locs hw hS => ?_)
          obtain ⟨v45, ev45⟩ : ∃ z, z = up2 v36 k 5 2 := ⟨_, rfl⟩
          rw [← ev45] at hw
          have hI46 : Inv v45 := by rw [ev45]; exact Inv.put0 hI37 _ (RG_order (by omega) (by omega) (by decide))
          have hK47 : Kp v v45 := by rw [ev45]; exact Kp.put hK40 _ (PS_order (by omega) (by omega))
          have hm48 : v45 50 2 = g0 := by rw [ev45, up2_n _ _ (by omega)]; exact hm41
          refine lv_aload_n hx hb d_X8_key_74 rfl (lv_at hl 0 rfl) ?_
          refine va_ldcS hx hb X.2.2.2.1 (hSC.2 (55, "ad", 2) (by decide)).1 d_X8_key_75 ?_
          refine r_ci (r_runVs (n := 1) (As := [.ref (sa 55)]) (rest := []) X hw hSC hS (ct_X8_word_55 l D dA ad sa v45 hI46 (55, "ad", 2) (by decide)) gc_X8_29 (rfl : KD 55 = _) (by decide) rfl (by decide +kernel) ⟨rfl, rfl, Nat.le_of_ble_eq_true rfl, Nat.le_of_ble_eq_true rfl⟩ rfl hl.1 rfl (Nat.le_of_ble_eq_true rfl) ⟨Nat.zero_le _, Nat.zero_le _⟩ d_X8_key_77) hS (fun x50 v51 H locs hp49 hw hS => ?_)
          obtain ⟨hI52, hK53, hp49, hk54⟩ := hp49
          have hK55 : Kp v v51 := Kp.tr hK47 hK53
          have hm56 : v51 50 (2) = g0 := hk54.trans hm48
          exact r_zret X hr hlocks hw hS (narz hp49) ⟨hI52, hK55, hp49, (hm56.trans hg0.symm)⟩ d_X8_key_80
        · have f57 := i_ne c42
          have r58 : Rg x35 1 1 := by obtain ⟨a1, a2⟩ := hp34; obtain ⟨b1, b2⟩ := (⟨by decide, by decide⟩ : Rg 0 0 0); have f := i_ne c42; exact ⟨by omega, by omega⟩
          refine lv_aload_n hx hb d_X8_key_62 rfl (lv_at hl 1 rfl) ?_
          refine lv_iconst (v := 3) hx hb d_X8_key_63 (by decide) ?_
          refine r_put X hw hS FP_X8_43 (KD_order (by omega) (by omega)) (SH_order (by omega) (by omega) (by decide)) ⟨rfl, rfl⟩ d_X8_key_64 (fun H locs hw hS => ?_)
          obtain ⟨v59, ev59⟩ : ∃ z, z = up2 v36 k 5 3 := ⟨_, rfl⟩
          rw [← ev59] at hw
          have hI60 : Inv v59 := by rw [ev59]; exact Inv.put0 hI37 _ (RG_order (by omega) (by omega) (by decide))
          have hK61 : Kp v v59 := by rw [ev59]; exact Kp.put hK40 _ (PS_order (by omega) (by omega))
          have hm62 : v59 50 2 = g0 := by rw [ev59, up2_n _ _ (by omega)]; exact hm41
          refine lv_iconst (v := 1) hx hb d_X8_key_67 (by decide) ?_
          exact r_zret X hr hlocks hw hS rfl ⟨hI60, hK61, (rg_w (⟨by decide, by decide⟩ : Rg 1 1 1) (by decide) (by decide)), (hm62.trans hg0.symm)⟩ d_X8_key_68
      · have f63 := i_eq c31
        have r64 : Rg x24 0 0 := by obtain ⟨a1, a2⟩ := hp23; obtain ⟨b1, b2⟩ := (⟨by decide, by decide⟩ : Rg 0 0 0); have f := i_eq c31; exact ⟨by omega, by omega⟩
        refine lv_iconst (v := 0) hx hb d_X8_key_51 (by decide) ?_
        exact r_zret X hr hlocks hw hS rfl ⟨hI26, hK29, (rg_w (⟨by decide, by decide⟩ : Rg 0 0 0) (by decide) (by decide)), (hm30.trans hg0.symm)⟩ d_X8_key_52
    · have f65 := i_ne c20
      have r66 : Rg x13 1 1 := by obtain ⟨a1, a2⟩ := hp12; obtain ⟨b1, b2⟩ := (⟨by decide, by decide⟩ : Rg 0 0 0); have f := i_ne c20; exact ⟨by omega, by omega⟩
      refine lv_aload_n hx hb d_X8_key_30 rfl (lv_at hl 1 rfl) ?_
      refine lv_iconst (v := 0) hx hb d_X8_key_31 (by decide) ?_
      refine r_put X hw hS FP_X8_43 (KD_order (by omega) (by omega)) (SH_order (by omega) (by omega) (by decide)) ⟨rfl, rfl⟩ d_X8_key_32 (fun H locs hw hS => ?_)
      obtain ⟨v67, ev67⟩ : ∃ z, z = up2 v14 k 5 0 := ⟨_, rfl⟩
      rw [← ev67] at hw
      have hI68 : Inv v67 := by rw [ev67]; exact Inv.put0 hI15 _ (RG_order (by omega) (by omega) (by decide))
      have hK69 : Kp v v67 := by rw [ev67]; exact Kp.put hK18 _ (PS_order (by omega) (by omega))
      have hm70 : v67 50 2 = g0 := by rw [ev67, up2_n _ _ (by omega)]; exact hm19
      refine lv_aload_n hx hb d_X8_key_35 rfl (lv_at hl 0 rfl) ?_
      refine va_ldcS hx hb X.2.2.2.1 (hSC.2 (49, "ntry", 4) (by decide)).1 d_X8_key_36 ?_
      refine r_ci (r_runVs (n := 1) (As := [.ref (sa 49)]) (rest := []) X hw hSC hS (ct_X8_word_55 l D dA ad sa v67 hI68 (49, "ntry", 4) (by decide)) gc_X8_29 (rfl : KD 55 = _) (by decide) rfl (by decide +kernel) ⟨rfl, rfl, Nat.le_of_ble_eq_true rfl, Nat.le_of_ble_eq_true rfl⟩ rfl hl.1 rfl (Nat.le_of_ble_eq_true rfl) ⟨Nat.zero_le _, Nat.zero_le _⟩ d_X8_key_38) hS (fun x72 v73 H locs hp71 hw hS => ?_)
      obtain ⟨hI74, hK75, hp71, hk76⟩ := hp71
      have hK77 : Kp v v73 := Kp.tr hK69 hK75
      have hm78 : v73 50 (2) = g0 := hk76.trans hm70
      exact r_zret X hr hlocks hw hS (narz hp71) ⟨hI74, hK77, hp71, (hm78.trans hg0.symm)⟩ d_X8_key_41
  · have f79 := i_ne c9
    have r80 : Rg x2 1 1 := by obtain ⟨a1, a2⟩ := hp1; obtain ⟨b1, b2⟩ := (⟨by decide, by decide⟩ : Rg 0 0 0); have f := i_ne c9; exact ⟨by omega, by omega⟩
    refine lv_aload_n hx hb d_X8_key_9 rfl (lv_at hl 1 rfl) ?_
    refine lv_iconst (v := 1) hx hb d_X8_key_10 (by decide) ?_
    refine r_put X hw hS FP_X8_43 (KD_order (by omega) (by omega)) (SH_order (by omega) (by omega) (by decide)) ⟨rfl, rfl⟩ d_X8_key_11 (fun H locs hw hS => ?_)
    obtain ⟨v81, ev81⟩ : ∃ z, z = up2 v3 k 5 1 := ⟨_, rfl⟩
    rw [← ev81] at hw
    have hI82 : Inv v81 := by rw [ev81]; exact Inv.put0 hI4 _ (RG_order (by omega) (by omega) (by decide))
    have hK83 : Kp v v81 := by rw [ev81]; exact Kp.put hK7 _ (PS_order (by omega) (by omega))
    have hm84 : v81 50 2 = g0 := by rw [ev81, up2_n _ _ (by omega)]; exact hm8
    refine lv_aload_n hx hb d_X8_key_14 rfl (lv_at hl 0 rfl) ?_
    refine va_ldcS hx hb X.2.2.2.1 (hSC.2 (45, "sk", 2) (by decide)).1 d_X8_key_15 ?_
    refine r_ci (r_runVs (n := 1) (As := [.ref (sa 45)]) (rest := []) X hw hSC hS (ct_X8_word_55 l D dA ad sa v81 hI82 (45, "sk", 2) (by decide)) gc_X8_29 (rfl : KD 55 = _) (by decide) rfl (by decide +kernel) ⟨rfl, rfl, Nat.le_of_ble_eq_true rfl, Nat.le_of_ble_eq_true rfl⟩ rfl hl.1 rfl (Nat.le_of_ble_eq_true rfl) ⟨Nat.zero_le _, Nat.zero_le _⟩ d_X8_key_17) hS (fun x86 v87 H locs hp85 hw hS => ?_)
    obtain ⟨hI88, hK89, hp85, hk90⟩ := hp85
    have hK91 : Kp v v87 := Kp.tr hK83 hK89
    have hm92 : v87 50 (2) = g0 := hk90.trans hm84
    exact r_zret X hr hlocks hw hS (narz hp85) ⟨hI88, hK91, hp85, (hm92.trans hg0.symm)⟩ d_X8_key_20
theorem d_X8_part_0 : decode c_X8_part 0 = .ok (.aload_n 0, 1) := by decide +kernel
theorem d_X8_part_1 : decode c_X8_part 1 = .ok (.ldc 68, 2) := by decide +kernel
theorem d_X8_part_3 : decode c_X8_part 3 = .ok (.invokevirtual 29, 3) := by decide +kernel
theorem d_X8_part_6 : decode c_X8_part 6 = .ok (.ifCond .ne 5, 3) := by decide +kernel
theorem d_X8_part_9 : decode c_X8_part 9 = .ok (.iconst 0, 1) := by decide +kernel
theorem d_X8_part_10 : decode c_X8_part 10 = .ok (.ireturn, 1) := by decide +kernel
theorem d_X8_part_11 : decode c_X8_part 11 = .ok (.aload_n 0, 1) := by decide +kernel
theorem d_X8_part_12 : decode c_X8_part 12 = .ok (.ldc 70, 2) := by decide +kernel
theorem d_X8_part_14 : decode c_X8_part 14 = .ok (.invokevirtual 29, 3) := by decide +kernel
theorem d_X8_part_17 : decode c_X8_part 17 = .ok (.istore_n 3, 1) := by decide +kernel
theorem d_X8_part_18 : decode c_X8_part 18 = .ok (.iload_n 3, 1) := by decide +kernel
theorem d_X8_part_19 : decode c_X8_part 19 = .ok (.ifCond .ne 14, 3) := by decide +kernel
theorem d_X8_part_22 : decode c_X8_part 22 = .ok (.aload_n 0, 1) := by decide +kernel
theorem d_X8_part_23 : decode c_X8_part 23 = .ok (.ldc 72, 2) := by decide +kernel
theorem d_X8_part_25 : decode c_X8_part 25 = .ok (.invokevirtual 29, 3) := by decide +kernel
theorem d_X8_part_28 : decode c_X8_part 28 = .ok (.ifCond .ne 5, 3) := by decide +kernel
theorem d_X8_part_31 : decode c_X8_part 31 = .ok (.iconst 0, 1) := by decide +kernel
theorem d_X8_part_32 : decode c_X8_part 32 = .ok (.ireturn, 1) := by decide +kernel
theorem d_X8_part_33 : decode c_X8_part 33 = .ok (.aload_n 0, 1) := by decide +kernel
theorem d_X8_part_34 : decode c_X8_part 34 = .ok (.iconst 3, 1) := by decide +kernel
theorem d_X8_part_35 : decode c_X8_part 35 = .ok (.invokevirtual 57, 3) := by decide +kernel
theorem d_X8_part_38 : decode c_X8_part 38 = .ok (.istore 4, 2) := by decide +kernel
theorem d_X8_part_40 : decode c_X8_part 40 = .ok (.iload 4, 2) := by decide +kernel
theorem d_X8_part_42 : decode c_X8_part 42 = .ok (.iconst (-1), 1) := by decide +kernel
theorem d_X8_part_43 : decode c_X8_part 43 = .ok (.if_icmp .ne 5, 3) := by decide +kernel
theorem d_X8_part_46 : decode c_X8_part 46 = .ok (.iconst 0, 1) := by decide +kernel
theorem d_X8_part_47 : decode c_X8_part 47 = .ok (.ireturn, 1) := by decide +kernel
theorem d_X8_part_48 : decode c_X8_part 48 = .ok (.aload_n 1, 1) := by decide +kernel
theorem d_X8_part_49 : decode c_X8_part 49 = .ok (.iload_n 2, 1) := by decide +kernel
theorem d_X8_part_50 : decode c_X8_part 50 = .ok (.iload_n 3, 1) := by decide +kernel
theorem d_X8_part_51 : decode c_X8_part 51 = .ok (.iload 4, 2) := by decide +kernel
theorem d_X8_part_53 : decode c_X8_part 53 = .ok (.invokevirtual 74, 3) := by decide +kernel
theorem d_X8_part_56 : decode c_X8_part 56 = .ok (.aload_n 0, 1) := by decide +kernel
theorem d_X8_part_57 : decode c_X8_part 57 = .ok (.ldc 78, 2) := by decide +kernel
theorem d_X8_part_59 : decode c_X8_part 59 = .ok (.invokevirtual 29, 3) := by decide +kernel
theorem d_X8_part_62 : decode c_X8_part 62 = .ok (.ireturn, 1) := by decide +kernel
set_option maxHeartbeats 4000000 in
set_option maxRecDepth 100000 in
theorem ct_X8_part_55 (l : Launch) (D : va_G) (dA : Nat → ClassId) (ad : Nat → Nat) (sa : Nat → Nat) (v : tV) (hI : Inv v) (k : Nat) (se : Int32) (ka : 60 ≤ k) (kb : k < 69) (r_se : Rg se 0 99) : Met l m_X8_part [.code m_X8_part c_X8_part 5 (some .boolean)] ({ frames := 6, cells := 0, slots := 0, locals := 153 } : Room) (tPs D dA ad sa v [.ref (ad 55), .ref (ad k), .int se]) (tQi D dA ad (fun r v' => Inv v' ∧ Kp v v' ∧ Rg r 0 1 ∧ v' 50 2 = v 50 2)) 0 0 (tA ad) := by
  refine tMets (by decide) (Nat.le_of_ble_eq_true rfl) ?_
  intro p e s m below meth c ls X hr hlocks hw hSC hl
  have X : CX p s m ([.ref (ad 55), .ref (ad k), .int se] : List Value).toArray c c_X8_part N_X8 5 D dA := X
  have hx := X.1
  have hb := X.2.1
  have hS : va_S (tA ad) s.heap s.heap [] := va_S.rf
  have hl : lv_has ls 5 [(0, .ref (ad 55)), (1, .ref (ad k)), (2, .int se)] := hl
  obtain ⟨g0, hg0⟩ : ∃ g, v 50 2 = g := ⟨_, rfl⟩
  have r_g0 : Rg g0 0 8 := by rw [← hg0]; exact hI 50 2 _ _ rfl
  have hK0 : Kp v v := Kp.rf v
  refine lv_aload_n hx hb d_X8_part_0 rfl (lv_at hl 0 rfl) ?_
  refine va_ldcS hx hb X.2.2.2.1 (hSC.2 (68, " at ", 4) (by decide)).1 d_X8_part_1 ?_
  refine r_ci (r_runVs (n := 1) (As := [.ref (sa 68)]) (rest := []) X hw hSC hS (ct_X8_word_55 l D dA ad sa v hI (68, " at ", 4) (by decide)) gc_X8_29 (rfl : KD 55 = _) (by decide) rfl (by decide +kernel) ⟨rfl, rfl, Nat.le_of_ble_eq_true rfl, Nat.le_of_ble_eq_true rfl⟩ rfl hl.1 rfl (Nat.le_of_ble_eq_true rfl) ⟨Nat.zero_le _, Nat.zero_le _⟩ d_X8_part_3) hS (fun x2 v3 H locs hp1 hw hS => ?_)
  obtain ⟨hI4, hK5, hp1, hk6⟩ := hp1
  have hK7 : Kp v v3 := Kp.tr hK0 hK5
  have hm8 : v3 50 (2) = g0 := hk6.trans hg0
  refine lv_if_ne (tgt := 11) hx hb d_X8_part_6 (by decide) (fun c9 => ?_) (fun c9 => ?_)
  · have f10 := i_ne c9
    have r11 : Rg x2 1 1 := by obtain ⟨a1, a2⟩ := hp1; obtain ⟨b1, b2⟩ := (⟨by decide, by decide⟩ : Rg 0 0 0); have f := i_ne c9; exact ⟨by omega, by omega⟩
    refine lv_aload_n hx hb d_X8_part_11 rfl (lv_at hl 0 rfl) ?_
    refine va_ldcS hx hb X.2.2.2.1 (hSC.2 (70, "<", 1) (by decide)).1 d_X8_part_12 ?_
    refine r_ci (r_runVs (n := 1) (As := [.ref (sa 70)]) (rest := []) X hw hSC hS (ct_X8_word_55 l D dA ad sa v3 hI4 (70, "<", 1) (by decide)) gc_X8_29 (rfl : KD 55 = _) (by decide) rfl (by decide +kernel) ⟨rfl, rfl, Nat.le_of_ble_eq_true rfl, Nat.le_of_ble_eq_true rfl⟩ rfl hl.1 rfl (Nat.le_of_ble_eq_true rfl) ⟨Nat.zero_le _, Nat.zero_le _⟩ d_X8_part_14) hS (fun x13 v14 H locs hp12 hw hS => ?_)
    obtain ⟨hI15, hK16, hp12, hk17⟩ := hp12
    have hK18 : Kp v v14 := Kp.tr hK7 hK16
    have hm19 : v14 50 (2) = g0 := hk17.trans hm8
    refine lv_istore_n (lv' := [(3, .int x13), (0, .ref (ad 55)), (1, .ref (ad k)), (2, .int se)]) hx hb d_X8_part_17 rfl hl (by decide) rfl (fun ls hl => ?_)
    refine lv_iload_n hx hb d_X8_part_18 rfl (lv_at hl 0 rfl) ?_
    refine lv_if_ne (tgt := 33) hx hb d_X8_part_19 (by decide) (fun c20 => ?_) (fun c20 => ?_)
    · have f21 := i_ne c20
      have r22 : Rg x13 1 1 := by obtain ⟨a1, a2⟩ := hp12; obtain ⟨b1, b2⟩ := (⟨by decide, by decide⟩ : Rg 0 0 0); have f := i_ne c20; exact ⟨by omega, by omega⟩
      refine lv_aload_n hx hb d_X8_part_33 rfl (lv_at hl 1 rfl) ?_
      refine lv_iconst (v := 3) hx hb d_X8_part_34 (by decide) ?_
      refine r_ci (r_runV (n := 1) (As := [.int 3]) (rest := []) X hw (ct_X8_number_3 l D dA ad v14 hI15 3 (⟨by decide, by decide⟩ : Rg 3 3 3)) gc_X8_57 (rfl : KD 55 = _) (by decide) rfl (by decide +kernel) ⟨rfl, rfl, Nat.le_of_ble_eq_true rfl, Nat.le_of_ble_eq_true rfl⟩ rfl hl.1 rfl (Nat.le_of_ble_eq_true rfl) ⟨Nat.zero_le _, Nat.zero_le _⟩ d_X8_part_35) hS (fun x24 v25 H locs hp23 hw hS => ?_)
      obtain ⟨hI26, hK27, hp23, hk28⟩ := hp23
      have hK29 : Kp v v25 := Kp.tr hK18 hK27
      have hm30 : v25 50 (2) = g0 := hk28.trans hm19
      refine lv_istore (lv' := [(4, .int x24), (3, .int x13), (0, .ref (ad 55)), (1, .ref (ad k)), (2, .int se)]) hx hb d_X8_part_38 hl (by decide) rfl (fun ls hl => ?_)
      refine lv_iload hx hb d_X8_part_40 (lv_at hl 0 rfl) ?_
      refine lv_iconst (v := -1) hx hb d_X8_part_42 (by decide) ?_
      refine lv_icmp_ne (tgt := 48) hx hb d_X8_part_43 (by decide) (fun c31 => ?_) (fun c31 => ?_)
      · have f32 := i_ne c31
        have r33 : Rg x24 0 999 := by obtain ⟨a1, a2⟩ := hp23; obtain ⟨b1, b2⟩ := (⟨by decide, by decide⟩ : Rg (-1) (-1) (-1)); have f := i_ne c31; exact ⟨by omega, by omega⟩
        refine lv_aload_n hx hb d_X8_part_48 rfl (lv_at hl 3 rfl) ?_
        refine lv_iload_n hx hb d_X8_part_49 rfl (lv_at hl 4 rfl) ?_
        refine lv_iload_n hx hb d_X8_part_50 rfl (lv_at hl 1 rfl) ?_
        refine lv_iload hx hb d_X8_part_51 (lv_at hl 0 rfl) ?_
        refine r_cv (r_runV (n := 3) (As := [.int se, .int x13, .int x24]) (rest := []) X hw (ct_X3_addPart_k l D dA ad v25 hI26 k se x13 x24 (by omega) (by omega) r_se (rg_w r22 (by decide) (by decide))) gc_X8_74 (KD_order (by omega) (by omega)) (by decide) rfl (by decide +kernel) ⟨rfl, rfl, Nat.le_of_ble_eq_true rfl, Nat.le_of_ble_eq_true rfl⟩ rfl hl.1 rfl (Nat.le_of_ble_eq_true rfl) ⟨Nat.zero_le _, Nat.zero_le _⟩ d_X8_part_53) hS (fun v35 H locs hp34 hw hS => ?_)
        obtain ⟨hI36, hK37, hk38⟩ := hp34
        have hK39 : Kp v v35 := Kp.tr hK29 hK37
        have hm40 : v35 50 (2) = g0 := hk38.trans hm30
        refine lv_aload_n hx hb d_X8_part_56 rfl (lv_at hl 2 rfl) ?_
        refine va_ldcS hx hb X.2.2.2.1 (hSC.2 (78, ",", 1) (by decide)).1 d_X8_part_57 ?_
        refine r_ci (r_runVs (n := 1) (As := [.ref (sa 78)]) (rest := []) X hw hSC hS (ct_X8_word_55 l D dA ad sa v35 hI36 (78, ",", 1) (by decide)) gc_X8_29 (rfl : KD 55 = _) (by decide) rfl (by decide +kernel) ⟨rfl, rfl, Nat.le_of_ble_eq_true rfl, Nat.le_of_ble_eq_true rfl⟩ rfl hl.1 rfl (Nat.le_of_ble_eq_true rfl) ⟨Nat.zero_le _, Nat.zero_le _⟩ d_X8_part_59) hS (fun x42 v43 H locs hp41 hw hS => ?_)
        obtain ⟨hI44, hK45, hp41, hk46⟩ := hp41
        have hK47 : Kp v v43 := Kp.tr hK39 hK45
        have hm48 : v43 50 (2) = g0 := hk46.trans hm40
        exact r_zret X hr hlocks hw hS (narz hp41) ⟨hI44, hK47, hp41, (hm48.trans hg0.symm)⟩ d_X8_part_62
      · have f49 := i_eq c31
        have r50 : Rg x24 (-1) (-1) := by obtain ⟨a1, a2⟩ := hp23; obtain ⟨b1, b2⟩ := (⟨by decide, by decide⟩ : Rg (-1) (-1) (-1)); have f := i_eq c31; exact ⟨by omega, by omega⟩
        refine lv_iconst (v := 0) hx hb d_X8_part_46 (by decide) ?_
        exact r_zret X hr hlocks hw hS rfl ⟨hI26, hK29, (rg_w (⟨by decide, by decide⟩ : Rg 0 0 0) (by decide) (by decide)), (hm30.trans hg0.symm)⟩ d_X8_part_47
    · have f51 := i_eq c20
      have r52 : Rg x13 0 0 := by obtain ⟨a1, a2⟩ := hp12; obtain ⟨b1, b2⟩ := (⟨by decide, by decide⟩ : Rg 0 0 0); have f := i_eq c20; exact ⟨by omega, by omega⟩
      refine lv_aload_n hx hb d_X8_part_22 rfl (lv_at hl 1 rfl) ?_
      refine va_ldcS hx hb X.2.2.2.1 (hSC.2 (72, ">", 1) (by decide)).1 d_X8_part_23 ?_
      refine r_ci (r_runVs (n := 1) (As := [.ref (sa 72)]) (rest := []) X hw hSC hS (ct_X8_word_55 l D dA ad sa v14 hI15 (72, ">", 1) (by decide)) gc_X8_29 (rfl : KD 55 = _) (by decide) rfl (by decide +kernel) ⟨rfl, rfl, Nat.le_of_ble_eq_true rfl, Nat.le_of_ble_eq_true rfl⟩ rfl hl.1 rfl (Nat.le_of_ble_eq_true rfl) ⟨Nat.zero_le _, Nat.zero_le _⟩ d_X8_part_25) hS (fun x54 v55 H locs hp53 hw hS => ?_)
      obtain ⟨hI56, hK57, hp53, hk58⟩ := hp53
      have hK59 : Kp v v55 := Kp.tr hK18 hK57
      have hm60 : v55 50 (2) = g0 := hk58.trans hm19
      refine lv_if_ne (tgt := 33) hx hb d_X8_part_28 (by decide) (fun c61 => ?_) (fun c61 => ?_)
      · have f62 := i_ne c61
        have r63 : Rg x54 1 1 := by obtain ⟨a1, a2⟩ := hp53; obtain ⟨b1, b2⟩ := (⟨by decide, by decide⟩ : Rg 0 0 0); have f := i_ne c61; exact ⟨by omega, by omega⟩
        refine lv_aload_n hx hb d_X8_part_33 rfl (lv_at hl 1 rfl) ?_
        refine lv_iconst (v := 3) hx hb d_X8_part_34 (by decide) ?_
        refine r_ci (r_runV (n := 1) (As := [.int 3]) (rest := []) X hw (ct_X8_number_3 l D dA ad v55 hI56 3 (⟨by decide, by decide⟩ : Rg 3 3 3)) gc_X8_57 (rfl : KD 55 = _) (by decide) rfl (by decide +kernel) ⟨rfl, rfl, Nat.le_of_ble_eq_true rfl, Nat.le_of_ble_eq_true rfl⟩ rfl hl.1 rfl (Nat.le_of_ble_eq_true rfl) ⟨Nat.zero_le _, Nat.zero_le _⟩ d_X8_part_35) hS (fun x65 v66 H locs hp64 hw hS => ?_)
        obtain ⟨hI67, hK68, hp64, hk69⟩ := hp64
        have hK70 : Kp v v66 := Kp.tr hK59 hK68
        have hm71 : v66 50 (2) = g0 := hk69.trans hm60
        refine lv_istore (lv' := [(4, .int x65), (3, .int x13), (0, .ref (ad 55)), (1, .ref (ad k)), (2, .int se)]) hx hb d_X8_part_38 hl (by decide) rfl (fun ls hl => ?_)
        refine lv_iload hx hb d_X8_part_40 (lv_at hl 0 rfl) ?_
        refine lv_iconst (v := -1) hx hb d_X8_part_42 (by decide) ?_
        refine lv_icmp_ne (tgt := 48) hx hb d_X8_part_43 (by decide) (fun c72 => ?_) (fun c72 => ?_)
        · have f73 := i_ne c72
          have r74 : Rg x65 0 999 := by obtain ⟨a1, a2⟩ := hp64; obtain ⟨b1, b2⟩ := (⟨by decide, by decide⟩ : Rg (-1) (-1) (-1)); have f := i_ne c72; exact ⟨by omega, by omega⟩
          refine lv_aload_n hx hb d_X8_part_48 rfl (lv_at hl 3 rfl) ?_
          refine lv_iload_n hx hb d_X8_part_49 rfl (lv_at hl 4 rfl) ?_
          refine lv_iload_n hx hb d_X8_part_50 rfl (lv_at hl 1 rfl) ?_
          refine lv_iload hx hb d_X8_part_51 (lv_at hl 0 rfl) ?_
          refine r_cv (r_runV (n := 3) (As := [.int se, .int x13, .int x65]) (rest := []) X hw (ct_X3_addPart_k l D dA ad v66 hI67 k se x13 x65 (by omega) (by omega) r_se (rg_w r52 (by decide) (by decide))) gc_X8_74 (KD_order (by omega) (by omega)) (by decide) rfl (by decide +kernel) ⟨rfl, rfl, Nat.le_of_ble_eq_true rfl, Nat.le_of_ble_eq_true rfl⟩ rfl hl.1 rfl (Nat.le_of_ble_eq_true rfl) ⟨Nat.zero_le _, Nat.zero_le _⟩ d_X8_part_53) hS (fun v76 H locs hp75 hw hS => ?_)
          obtain ⟨hI77, hK78, hk79⟩ := hp75
          have hK80 : Kp v v76 := Kp.tr hK70 hK78
          have hm81 : v76 50 (2) = g0 := hk79.trans hm71
          refine lv_aload_n hx hb d_X8_part_56 rfl (lv_at hl 2 rfl) ?_
          refine va_ldcS hx hb X.2.2.2.1 (hSC.2 (78, ",", 1) (by decide)).1 d_X8_part_57 ?_
          refine r_ci (r_runVs (n := 1) (As := [.ref (sa 78)]) (rest := []) X hw hSC hS (ct_X8_word_55 l D dA ad sa v76 hI77 (78, ",", 1) (by decide)) gc_X8_29 (rfl : KD 55 = _) (by decide) rfl (by decide +kernel) ⟨rfl, rfl, Nat.le_of_ble_eq_true rfl, Nat.le_of_ble_eq_true rfl⟩ rfl hl.1 rfl (Nat.le_of_ble_eq_true rfl) ⟨Nat.zero_le _, Nat.zero_le _⟩ d_X8_part_59) hS (fun x83 v84 H locs hp82 hw hS => ?_)
          obtain ⟨hI85, hK86, hp82, hk87⟩ := hp82
          have hK88 : Kp v v84 := Kp.tr hK80 hK86
          have hm89 : v84 50 (2) = g0 := hk87.trans hm81
          exact r_zret X hr hlocks hw hS (narz hp82) ⟨hI85, hK88, hp82, (hm89.trans hg0.symm)⟩ d_X8_part_62
        · have f90 := i_eq c72
          have r91 : Rg x65 (-1) (-1) := by obtain ⟨a1, a2⟩ := hp64; obtain ⟨b1, b2⟩ := (⟨by decide, by decide⟩ : Rg (-1) (-1) (-1)); have f := i_eq c72; exact ⟨by omega, by omega⟩
          refine lv_iconst (v := 0) hx hb d_X8_part_46 (by decide) ?_
          exact r_zret X hr hlocks hw hS rfl ⟨hI67, hK70, (rg_w (⟨by decide, by decide⟩ : Rg 0 0 0) (by decide) (by decide)), (hm71.trans hg0.symm)⟩ d_X8_part_47
      · have f92 := i_eq c61
        have r93 : Rg x54 0 0 := by obtain ⟨a1, a2⟩ := hp53; obtain ⟨b1, b2⟩ := (⟨by decide, by decide⟩ : Rg 0 0 0); have f := i_eq c61; exact ⟨by omega, by omega⟩
        refine lv_iconst (v := 0) hx hb d_X8_part_31 (by decide) ?_
        exact r_zret X hr hlocks hw hS rfl ⟨hI56, hK59, (rg_w (⟨by decide, by decide⟩ : Rg 0 0 0) (by decide) (by decide)), (hm60.trans hg0.symm)⟩ d_X8_part_32
  · have f94 := i_eq c9
    have r95 : Rg x2 0 0 := by obtain ⟨a1, a2⟩ := hp1; obtain ⟨b1, b2⟩ := (⟨by decide, by decide⟩ : Rg 0 0 0); have f := i_eq c9; exact ⟨by omega, by omega⟩
    refine lv_iconst (v := 0) hx hb d_X8_part_9 (by decide) ?_
    exact r_zret X hr hlocks hw hS rfl ⟨hI4, hK7, (rg_w (⟨by decide, by decide⟩ : Rg 0 0 0) (by decide) (by decide)), (hm8.trans hg0.symm)⟩ d_X8_part_10
theorem d_X8_parts_0 : decode c_X8_parts 0 = .ok (.iconst 0, 1) := by decide +kernel
theorem d_X8_parts_1 : decode c_X8_parts 1 = .ok (.istore_n 2, 1) := by decide +kernel
theorem d_X8_parts_2 : decode c_X8_parts 2 = .ok (.iload_n 2, 1) := by decide +kernel
theorem d_X8_parts_3 : decode c_X8_parts 3 = .ok (.iconst 3, 1) := by decide +kernel
theorem d_X8_parts_4 : decode c_X8_parts 4 = .ok (.if_icmp .gt 56, 3) := by decide +kernel
theorem d_X8_parts_7 : decode c_X8_parts 7 = .ok (.aload_n 0, 1) := by decide +kernel
theorem d_X8_parts_8 : decode c_X8_parts 8 = .ok (.iconst 2, 1) := by decide +kernel
theorem d_X8_parts_9 : decode c_X8_parts 9 = .ok (.invokevirtual 57, 3) := by decide +kernel
theorem d_X8_parts_12 : decode c_X8_parts 12 = .ok (.istore_n 3, 1) := by decide +kernel
theorem d_X8_parts_13 : decode c_X8_parts 13 = .ok (.iload_n 3, 1) := by decide +kernel
theorem d_X8_parts_14 : decode c_X8_parts 14 = .ok (.iconst (-1), 1) := by decide +kernel
theorem d_X8_parts_15 : decode c_X8_parts 15 = .ok (.if_icmp .ne 5, 3) := by decide +kernel
theorem d_X8_parts_18 : decode c_X8_parts 18 = .ok (.iconst 0, 1) := by decide +kernel
theorem d_X8_parts_19 : decode c_X8_parts 19 = .ok (.ireturn, 1) := by decide +kernel
theorem d_X8_parts_20 : decode c_X8_parts 20 = .ok (.aload_n 0, 1) := by decide +kernel
theorem d_X8_parts_21 : decode c_X8_parts 21 = .ok (.getfield 19, 3) := by decide +kernel
theorem d_X8_parts_24 : decode c_X8_parts 24 = .ok (.aload_n 0, 1) := by decide +kernel
theorem d_X8_parts_25 : decode c_X8_parts 25 = .ok (.getfield 15, 3) := by decide +kernel
theorem d_X8_parts_28 : decode c_X8_parts 28 = .ok (.if_icmp .lt 10, 3) := by decide +kernel
theorem d_X8_parts_31 : decode c_X8_parts 31 = .ok (.aload_n 1, 1) := by decide +kernel
theorem d_X8_parts_32 : decode c_X8_parts 32 = .ok (.iload_n 3, 1) := by decide +kernel
theorem d_X8_parts_33 : decode c_X8_parts 33 = .ok (.putfield 61, 3) := by decide +kernel
theorem d_X8_parts_36 : decode c_X8_parts 36 = .ok (.iconst 1, 1) := by decide +kernel
theorem d_X8_parts_37 : decode c_X8_parts 37 = .ok (.ireturn, 1) := by decide +kernel
theorem d_X8_parts_38 : decode c_X8_parts 38 = .ok (.iload_n 2, 1) := by decide +kernel
theorem d_X8_parts_39 : decode c_X8_parts 39 = .ok (.iconst 3, 1) := by decide +kernel
theorem d_X8_parts_40 : decode c_X8_parts 40 = .ok (.if_icmp .eq 12, 3) := by decide +kernel
theorem d_X8_parts_43 : decode c_X8_parts 43 = .ok (.aload_n 0, 1) := by decide +kernel
theorem d_X8_parts_44 : decode c_X8_parts 44 = .ok (.aload_n 1, 1) := by decide +kernel
theorem d_X8_parts_45 : decode c_X8_parts 45 = .ok (.iload_n 3, 1) := by decide +kernel
theorem d_X8_parts_46 : decode c_X8_parts 46 = .ok (.invokevirtual 64, 3) := by decide +kernel
theorem d_X8_parts_49 : decode c_X8_parts 49 = .ok (.ifCond .ne 5, 3) := by decide +kernel
theorem d_X8_parts_52 : decode c_X8_parts 52 = .ok (.iconst 0, 1) := by decide +kernel
theorem d_X8_parts_53 : decode c_X8_parts 53 = .ok (.ireturn, 1) := by decide +kernel
theorem d_X8_parts_54 : decode c_X8_parts 54 = .ok (.iinc 2 1, 3) := by decide +kernel
theorem d_X8_parts_57 : decode c_X8_parts 57 = .ok (.goto (-55), 3) := by decide +kernel
theorem d_X8_parts_60 : decode c_X8_parts 60 = .ok (.iconst 0, 1) := by decide +kernel
theorem d_X8_parts_61 : decode c_X8_parts 61 = .ok (.ireturn, 1) := by decide +kernel
set_option maxHeartbeats 4000000 in
set_option maxRecDepth 100000 in
theorem ct_X8_parts_55 (l : Launch) (D : va_G) (dA : Nat → ClassId) (ad : Nat → Nat) (sa : Nat → Nat) (v : tV) (hI : Inv v) (k : Nat) (ka : 60 ≤ k) (kb : k < 69) : Met l m_X8_parts [.code m_X8_parts c_X8_parts 4 (some .boolean)] ({ frames := 7, cells := 0, slots := 0, locals := 177 } : Room) (tPs D dA ad sa v [.ref (ad 55), .ref (ad k)]) (tQi D dA ad (fun r v' => Inv v' ∧ Kp v v' ∧ Rg r 0 1 ∧ v' 50 2 = v 50 2)) 0 0 (tA ad) := by
  refine tMets (by decide) (Nat.le_of_ble_eq_true rfl) ?_
  intro p e s m below meth c ls X hr hlocks hw hSC hl
  have X : CX p s m ([.ref (ad 55), .ref (ad k)] : List Value).toArray c c_X8_parts N_X8 4 D dA := X
  have hx := X.1
  have hb := X.2.1
  have hS : va_S (tA ad) s.heap s.heap [] := va_S.rf
  have hl : lv_has ls 4 [(0, .ref (ad 55)), (1, .ref (ad k))] := hl
  obtain ⟨g0, hg0⟩ : ∃ g, v 50 2 = g := ⟨_, rfl⟩
  have r_g0 : Rg g0 0 8 := by rw [← hg0]; exact hI 50 2 _ _ rfl
  have LL : ∀ n : Nat, (∀ (y2 : Int32) (v1 : tV) (H : Heap) (locs : List Loc) (ls : Array Slot), (4 - y2.toInt).toNat < n → Rg y2 0 4 → Inv v1 → Kp v v1 → v1 50 2 = g0 → tI D dA ad v1 H → va_S (tA ad) s.heap H locs → lv_has ls 4 [(0, .ref (ad 55)), (1, .ref (ad k)), (2, .int y2)] → W p l e ({ frames := 7, cells := 0, slots := 0, locals := 177 } : Room) s m ([.ref (ad 55), .ref (ad k)] : List Value).toArray below meth c H locs 0 0 (MQ below (tQi D dA ad (fun r v' => Inv v' ∧ Kp v v' ∧ Rg r 0 1 ∧ v' 50 2 = v 50 2)) ([.ref (ad 55), .ref (ad k)] : List Value).toArray s 0 0 (tA ad)) (F0 m 2 ls [])) := by
    intro n
    induction n with
    | zero => intros; omega
    | succ n ih =>
      have ih0 := ih
      intro y2 v1 H locs ls hmu r_y2 hI1 hK1 hfx0 hw hS hl
      refine lv_iload_n hx hb d_X8_parts_2 rfl (lv_at hl 2 rfl) ?_
      refine lv_iconst (v := 3) hx hb d_X8_parts_3 (by decide) ?_
      refine lv_icmp_gt (tgt := 60) hx hb d_X8_parts_4 (by decide) (fun c1 => ?_) (fun c1 => ?_)
      · have f2 := i_lt c1
        have r3 : Rg y2 4 4 := by obtain ⟨a1, a2⟩ := r_y2; obtain ⟨b1, b2⟩ := (⟨by decide, by decide⟩ : Rg 3 3 3); have f := i_lt c1; exact ⟨by omega, by omega⟩
        refine lv_iconst (v := 0) hx hb d_X8_parts_60 (by decide) ?_
        exact r_zret X hr hlocks hw hS rfl ⟨hI1, hK1, (rg_w (⟨by decide, by decide⟩ : Rg 0 0 0) (by decide) (by decide)), (hfx0.trans hg0.symm)⟩ d_X8_parts_61
      · have f4 := i_nlt c1
        have r5 : Rg y2 0 3 := by obtain ⟨a1, a2⟩ := r_y2; obtain ⟨b1, b2⟩ := (⟨by decide, by decide⟩ : Rg 3 3 3); have f := i_nlt c1; exact ⟨by omega, by omega⟩
        refine lv_aload_n hx hb d_X8_parts_7 rfl (lv_at hl 0 rfl) ?_
        refine lv_iconst (v := 2) hx hb d_X8_parts_8 (by decide) ?_
        refine r_ci (r_runV (n := 1) (As := [.int 2]) (rest := []) X hw (ct_X8_number_2 l D dA ad v1 hI1 2 (⟨by decide, by decide⟩ : Rg 2 2 2)) gc_X8_57 (rfl : KD 55 = _) (by decide) rfl (by decide +kernel) ⟨rfl, rfl, Nat.le_of_ble_eq_true rfl, Nat.le_of_ble_eq_true rfl⟩ rfl hl.1 rfl (Nat.le_of_ble_eq_true rfl) ⟨Nat.zero_le _, Nat.zero_le _⟩ d_X8_parts_9) hS (fun x7 v8 H locs hp6 hw hS => ?_)
        obtain ⟨hI9, hK10, hp6, hk11⟩ := hp6
        have hK12 : Kp v v8 := Kp.tr hK1 hK10
        have hm13 : v8 50 (2) = g0 := hk11.trans hfx0
        refine lv_istore_n (lv' := [(3, .int x7), (0, .ref (ad 55)), (1, .ref (ad k)), (2, .int y2)]) hx hb d_X8_parts_12 rfl hl (by decide) rfl (fun ls hl => ?_)
        refine lv_iload_n hx hb d_X8_parts_13 rfl (lv_at hl 0 rfl) ?_
        refine lv_iconst (v := -1) hx hb d_X8_parts_14 (by decide) ?_
        refine lv_icmp_ne (tgt := 20) hx hb d_X8_parts_15 (by decide) (fun c14 => ?_) (fun c14 => ?_)
        · have f15 := i_ne c14
          have r16 : Rg x7 0 99 := by obtain ⟨a1, a2⟩ := hp6; obtain ⟨b1, b2⟩ := (⟨by decide, by decide⟩ : Rg (-1) (-1) (-1)); have f := i_ne c14; exact ⟨by omega, by omega⟩
          refine lv_aload_n hx hb d_X8_parts_20 rfl (lv_at hl 1 rfl) ?_
          refine r_geti X hw FL_X8_19 (rfl : KD 55 = _) rfl d_X8_parts_21 ?_
          refine lv_topi (fun x17 ex17 => ?_)
          have r18 : Rg x17 0 120 := by rw [ex17]; exact hI9 _ _ _ _ rfl
          have hm19 : v8 55 2 = x17 := ex17.symm
          refine lv_aload_n hx hb d_X8_parts_24 rfl (lv_at hl 1 rfl) ?_
          refine r_geti X hw FL_X8_15 (rfl : KD 55 = _) rfl d_X8_parts_25 ?_
          refine lv_topi (fun x20 ex20 => ?_)
          have r21 : Rg x20 0 120 := by rw [ex20]; exact hI9 _ _ _ _ rfl
          have hm22 : v8 55 1 = x20 := ex20.symm
          refine lv_icmp_lt (tgt := 38) hx hb d_X8_parts_28 (by decide) (fun c23 => ?_) (fun c23 => ?_)
          · have f24 := i_lt c23
            have r25 : Rg x17 0 119 := by obtain ⟨a1, a2⟩ := r18; obtain ⟨b1, b2⟩ := r21; have f := i_lt c23; exact ⟨by omega, by omega⟩
            have r26 : Rg x20 1 120 := by obtain ⟨a1, a2⟩ := r18; obtain ⟨b1, b2⟩ := r21; have f := i_lt c23; exact ⟨by omega, by omega⟩
            refine lv_iload_n hx hb d_X8_parts_38 rfl (lv_at hl 3 rfl) ?_
            refine lv_iconst (v := 3) hx hb d_X8_parts_39 (by decide) ?_
            refine lv_icmp_eq (tgt := 52) hx hb d_X8_parts_40 (by decide) (fun c27 => ?_) (fun c27 => ?_)
            · have f28 := i_eq c27
              have r29 : Rg y2 3 3 := by obtain ⟨a1, a2⟩ := r5; obtain ⟨b1, b2⟩ := (⟨by decide, by decide⟩ : Rg 3 3 3); have f := i_eq c27; exact ⟨by omega, by omega⟩
              refine lv_iconst (v := 0) hx hb d_X8_parts_52 (by decide) ?_
              exact r_zret X hr hlocks hw hS rfl ⟨hI9, hK12, (rg_w (⟨by decide, by decide⟩ : Rg 0 0 0) (by decide) (by decide)), (hm13.trans hg0.symm)⟩ d_X8_parts_53
            · have f30 := i_ne c27
              have r31 : Rg y2 0 2 := by obtain ⟨a1, a2⟩ := r5; obtain ⟨b1, b2⟩ := (⟨by decide, by decide⟩ : Rg 3 3 3); have f := i_ne c27; exact ⟨by omega, by omega⟩
              refine lv_aload_n hx hb d_X8_parts_43 rfl (lv_at hl 1 rfl) ?_
              refine lv_aload_n hx hb d_X8_parts_44 rfl (lv_at hl 2 rfl) ?_
              refine lv_iload_n hx hb d_X8_parts_45 rfl (lv_at hl 0 rfl) ?_
              refine r_ci (r_runVs (n := 2) (As := [.ref (ad k), .int x7]) (rest := []) X hw hSC hS (ct_X8_part_55 l D dA ad sa v8 hI9 k x7 (by omega) (by omega) r16) gc_X8_64 (rfl : KD 55 = _) (by decide) rfl (by decide +kernel) ⟨rfl, rfl, Nat.le_of_ble_eq_true rfl, Nat.le_of_ble_eq_true rfl⟩ rfl hl.1 rfl (Nat.le_of_ble_eq_true rfl) ⟨Nat.zero_le _, Nat.zero_le _⟩ d_X8_parts_46) hS (fun x33 v34 H locs hp32 hw hS => ?_)
              obtain ⟨hI35, hK36, hp32, hk37⟩ := hp32
              have hK38 : Kp v v34 := Kp.tr hK12 hK36
              have hm39 : v34 50 (2) = g0 := hk37.trans hm13
              refine lv_if_ne (tgt := 54) hx hb d_X8_parts_49 (by decide) (fun c40 => ?_) (fun c40 => ?_)
              · have f41 := i_ne c40
                have r42 : Rg x33 1 1 := by obtain ⟨a1, a2⟩ := hp32; obtain ⟨b1, b2⟩ := (⟨by decide, by decide⟩ : Rg 0 0 0); have f := i_ne c40; exact ⟨by omega, by omega⟩
                obtain ⟨x43, ex43⟩ : ∃ y : Int32, y = y2 + 1 := ⟨_, rfl⟩
                refine lv_iinc (v := x43) (lv' := [(2, .int x43), (3, .int x7), (0, .ref (ad 55)), (1, .ref (ad k))]) hx hb d_X8_parts_54 hl (k := 3) rfl (by rw [ex43]; rfl) (by decide) rfl (fun ls hl => ?_)
                have r44 : Rg x43 1 3 := rg_add ex43 r31 (⟨by decide, by decide⟩ : Rg 1 1 1) (by decide) (by decide)
                have s45 : x43.toInt = y2.toInt + (1 : Int32).toInt := by rw [ex43]; exact i_add (by obtain ⟨_, _⟩ := r31; obtain ⟨_, _⟩ := (⟨by decide, by decide⟩ : Rg 1 1 1); omega) (by obtain ⟨_, _⟩ := r31; obtain ⟨_, _⟩ := (⟨by decide, by decide⟩ : Rg 1 1 1); omega)
                have s45l : (1 : Int32).toInt = 1 := rfl
                refine lv_goto (tgt := 2) hx hb d_X8_parts_57 (by decide) ?_
                exact ih0 x43 v34 _ _ _ (by have q_ := r_g0; obtain ⟨_, _⟩ := q_; have q_ := r31; obtain ⟨_, _⟩ := q_; have q_ := r16; obtain ⟨_, _⟩ := q_; have q_ := r25; obtain ⟨_, _⟩ := q_; have q_ := r26; obtain ⟨_, _⟩ := q_; have q_ := r42; obtain ⟨_, _⟩ := q_; have q_ := r44; obtain ⟨_, _⟩ := q_; omega) (rg_w r44 (by decide) (by decide)) hI35 hK38 hm39 hw hS (lv_sub hl [2, 3, 0] rfl)
              · have f46 := i_eq c40
                have r47 : Rg x33 0 0 := by obtain ⟨a1, a2⟩ := hp32; obtain ⟨b1, b2⟩ := (⟨by decide, by decide⟩ : Rg 0 0 0); have f := i_eq c40; exact ⟨by omega, by omega⟩
                refine lv_iconst (v := 0) hx hb d_X8_parts_52 (by decide) ?_
                exact r_zret X hr hlocks hw hS rfl ⟨hI35, hK38, (rg_w (⟨by decide, by decide⟩ : Rg 0 0 0) (by decide) (by decide)), (hm39.trans hg0.symm)⟩ d_X8_parts_53
          · have f48 := i_nlt c23
            refine lv_aload_n hx hb d_X8_parts_31 rfl (lv_at hl 2 rfl) ?_
            refine lv_iload_n hx hb d_X8_parts_32 rfl (lv_at hl 0 rfl) ?_
            refine r_put X hw hS FP_X8_61 (KD_order (by omega) (by omega)) (SH_order (by omega) (by omega) (by decide)) ⟨rfl, rfl⟩ d_X8_parts_33 (fun H locs hw hS => ?_)
            obtain ⟨v49, ev49⟩ : ∃ z, z = up2 v8 k 4 x7 := ⟨_, rfl⟩
            rw [← ev49] at hw
            have hI50 : Inv v49 := by rw [ev49]; exact Inv.putr hI9 (RG_order4 (by omega) (by omega)) r16
            have hK51 : Kp v v49 := by rw [ev49]; exact Kp.put hK12 _ (PS_order (by omega) (by omega))
            have hm52 : v49 50 2 = g0 := by rw [ev49, up2_n _ _ (by omega)]; exact hm13
            have hm53 : v49 55 2 = x17 := by rw [ev49, up2_n _ _ (by omega)]; exact hm19
            have hm54 : v49 55 1 = x20 := by rw [ev49, up2_n _ _ (by omega)]; exact hm22
            have hm55 : v49 k 4 = x7 := by rw [ev49, up2_s]
            refine lv_iconst (v := 1) hx hb d_X8_parts_36 (by decide) ?_
            exact r_zret X hr hlocks hw hS rfl ⟨hI50, hK51, (rg_w (⟨by decide, by decide⟩ : Rg 1 1 1) (by decide) (by decide)), (hm52.trans hg0.symm)⟩ d_X8_parts_37
        · have f56 := i_eq c14
          have r57 : Rg x7 (-1) (-1) := by obtain ⟨a1, a2⟩ := hp6; obtain ⟨b1, b2⟩ := (⟨by decide, by decide⟩ : Rg (-1) (-1) (-1)); have f := i_eq c14; exact ⟨by omega, by omega⟩
          refine lv_iconst (v := 0) hx hb d_X8_parts_18 (by decide) ?_
          exact r_zret X hr hlocks hw hS rfl ⟨hI9, hK12, (rg_w (⟨by decide, by decide⟩ : Rg 0 0 0) (by decide) (by decide)), (hm13.trans hg0.symm)⟩ d_X8_parts_19
  have ih0 := LL 100000
  have hK0 : Kp v v := Kp.rf v
  refine lv_iconst (v := 0) hx hb d_X8_parts_0 (by decide) ?_
  refine lv_istore_n (lv' := [(2, .int 0), (0, .ref (ad 55)), (1, .ref (ad k))]) hx hb d_X8_parts_1 rfl hl (by decide) rfl (fun ls hl => ?_)
  exact ih0 0 v _ _ _ (by have q_ := r_g0; obtain ⟨_, _⟩ := q_; have q_ : (0 : Int32).toInt = 0 := rfl; omega) (rg_w (⟨by decide, by decide⟩ : Rg 0 0 0) (by decide) (by decide)) hI hK0 hg0 hw hS (lv_sub hl [1, 2, 0] rfl)
theorem d_X8_read_0 : decode c_X8_read 0 = .ok (.aload_n 0, 1) := by decide +kernel
theorem d_X8_read_1 : decode c_X8_read 1 = .ok (.iconst 0, 1) := by decide +kernel
theorem d_X8_read_2 : decode c_X8_read 2 = .ok (.putfield 19, 3) := by decide +kernel
theorem d_X8_read_5 : decode c_X8_read 5 = .ok (.aload_n 1, 1) := by decide +kernel
theorem d_X8_read_6 : decode c_X8_read 6 = .ok (.iconst 0, 1) := by decide +kernel
theorem d_X8_read_7 : decode c_X8_read 7 = .ok (.putfield 22, 3) := by decide +kernel
theorem d_X8_read_10 : decode c_X8_read 10 = .ok (.aload_n 0, 1) := by decide +kernel
theorem d_X8_read_11 : decode c_X8_read 11 = .ok (.ldc 27, 2) := by decide +kernel
theorem d_X8_read_13 : decode c_X8_read 13 = .ok (.invokevirtual 29, 3) := by decide +kernel
theorem d_X8_read_16 : decode c_X8_read 16 = .ok (.ifCond .eq 32, 3) := by decide +kernel
theorem d_X8_read_19 : decode c_X8_read 19 = .ok (.aload_n 0, 1) := by decide +kernel
theorem d_X8_read_20 : decode c_X8_read 20 = .ok (.aload_n 1, 1) := by decide +kernel
theorem d_X8_read_21 : decode c_X8_read 21 = .ok (.invokevirtual 33, 3) := by decide +kernel
theorem d_X8_read_24 : decode c_X8_read 24 = .ok (.ifCond .eq 24, 3) := by decide +kernel
theorem d_X8_read_27 : decode c_X8_read 27 = .ok (.aload_n 0, 1) := by decide +kernel
theorem d_X8_read_28 : decode c_X8_read 28 = .ok (.ldc 37, 2) := by decide +kernel
theorem d_X8_read_30 : decode c_X8_read 30 = .ok (.invokevirtual 29, 3) := by decide +kernel
theorem d_X8_read_33 : decode c_X8_read 33 = .ok (.ifCond .eq 15, 3) := by decide +kernel
theorem d_X8_read_36 : decode c_X8_read 36 = .ok (.aload_n 0, 1) := by decide +kernel
theorem d_X8_read_37 : decode c_X8_read 37 = .ok (.aload_n 1, 1) := by decide +kernel
theorem d_X8_read_38 : decode c_X8_read 38 = .ok (.invokevirtual 39, 3) := by decide +kernel
theorem d_X8_read_41 : decode c_X8_read 41 = .ok (.ifCond .eq 7, 3) := by decide +kernel
theorem d_X8_read_44 : decode c_X8_read 44 = .ok (.iconst 1, 1) := by decide +kernel
theorem d_X8_read_45 : decode c_X8_read 45 = .ok (.goto 4, 3) := by decide +kernel
theorem d_X8_read_48 : decode c_X8_read 48 = .ok (.iconst 0, 1) := by decide +kernel
theorem d_X8_read_49 : decode c_X8_read 49 = .ok (.istore_n 2, 1) := by decide +kernel
theorem d_X8_read_50 : decode c_X8_read 50 = .ok (.iload_n 2, 1) := by decide +kernel
theorem d_X8_read_51 : decode c_X8_read 51 = .ok (.ifCond .eq 7, 3) := by decide +kernel
theorem d_X8_read_54 : decode c_X8_read 54 = .ok (.iconst (-1), 1) := by decide +kernel
theorem d_X8_read_55 : decode c_X8_read 55 = .ok (.goto 7, 3) := by decide +kernel
theorem d_X8_read_58 : decode c_X8_read 58 = .ok (.aload_n 0, 1) := by decide +kernel
theorem d_X8_read_59 : decode c_X8_read 59 = .ok (.getfield 19, 3) := by decide +kernel
theorem d_X8_read_62 : decode c_X8_read 62 = .ok (.ireturn, 1) := by decide +kernel
set_option maxHeartbeats 4000000 in
set_option maxRecDepth 100000 in
theorem ct_X8_read_55 (l : Launch) (D : va_G) (dA : Nat → ClassId) (ad : Nat → Nat) (sa : Nat → Nat) (v : tV) (hI : Inv v) (k : Nat) (ka : 60 ≤ k) (kb : k < 69) : Met l m_X8_read [.code m_X8_read c_X8_read 3 (some .int)] ({ frames := 8, cells := 0, slots := 0, locals := 200 } : Room) (tPs D dA ad sa v [.ref (ad 55), .ref (ad k)]) (tQi D dA ad (fun r v' => Inv v' ∧ Kp v v' ∧ v' 50 2 = v 50 2)) 0 0 (tA ad) := by
  refine tMets (by decide) (Nat.le_of_ble_eq_true rfl) ?_
  intro p e s m below meth c ls X hr hlocks hw hSC hl
  have X : CX p s m ([.ref (ad 55), .ref (ad k)] : List Value).toArray c c_X8_read N_X8 3 D dA := X
  have hx := X.1
  have hb := X.2.1
  have hS : va_S (tA ad) s.heap s.heap [] := va_S.rf
  have hl : lv_has ls 3 [(0, .ref (ad 55)), (1, .ref (ad k))] := hl
  obtain ⟨g0, hg0⟩ : ∃ g, v 50 2 = g := ⟨_, rfl⟩
  have r_g0 : Rg g0 0 8 := by rw [← hg0]; exact hI 50 2 _ _ rfl
  have hK0 : Kp v v := Kp.rf v
  refine lv_aload_n hx hb d_X8_read_0 rfl (lv_at hl 0 rfl) ?_
  refine lv_iconst (v := 0) hx hb d_X8_read_1 (by decide) ?_
  refine r_put X hw hS FP_X8_19 (rfl : KD 55 = _) rfl ⟨rfl, rfl⟩ d_X8_read_2 (fun H locs hw hS => ?_)
  obtain ⟨v1, ev1⟩ : ∃ z, z = up2 v 55 2 0 := ⟨_, rfl⟩
  rw [← ev1] at hw
  have hI2 : Inv v1 := by rw [ev1]; exact Inv.putr hI rfl (rg_w (⟨by decide, by decide⟩ : Rg 0 0 0) (by decide) (by decide))
  have hK3 : Kp v v1 := by rw [ev1]; exact Kp.put hK0 _ rfl
  have hm4 : v1 50 2 = g0 := by rw [ev1, up2_n _ _ (by omega)]; exact hg0
  have hm5 : v1 55 2 = 0 := by rw [ev1, up2_s]
  refine lv_aload_n hx hb d_X8_read_5 rfl (lv_at hl 1 rfl) ?_
  refine lv_iconst (v := 0) hx hb d_X8_read_6 (by decide) ?_
  refine r_put X hw hS FP_X8_22 (KD_order (by omega) (by omega)) (SH_order (by omega) (by omega) (by decide)) ⟨rfl, rfl⟩ d_X8_read_7 (fun H locs hw hS => ?_)
  obtain ⟨v6, ev6⟩ : ∃ z, z = up2 v1 k 3 0 := ⟨_, rfl⟩
  rw [← ev6] at hw
  have hI7 : Inv v6 := by rw [ev6]; exact Inv.putr hI2 (RG_order3 (by omega) (by omega)) (rg_w (⟨by decide, by decide⟩ : Rg 0 0 0) (by decide) (by decide))
  have hK8 : Kp v v6 := by rw [ev6]; exact Kp.put hK3 _ (PS_order (by omega) (by omega))
  have hm9 : v6 50 2 = g0 := by rw [ev6, up2_n _ _ (by omega)]; exact hm4
  have hm10 : v6 55 2 = 0 := by rw [ev6, up2_n _ _ (by omega)]; exact hm5
  have hm11 : v6 k 3 = 0 := by rw [ev6, up2_s]
  refine lv_aload_n hx hb d_X8_read_10 rfl (lv_at hl 0 rfl) ?_
  refine va_ldcS hx hb X.2.2.2.1 (hSC.2 (27, "turn ", 5) (by decide)).1 d_X8_read_11 ?_
  refine r_ci (r_runVs (n := 1) (As := [.ref (sa 27)]) (rest := []) X hw hSC hS (ct_X8_word_55 l D dA ad sa v6 hI7 (27, "turn ", 5) (by decide)) gc_X8_29 (rfl : KD 55 = _) (by decide) rfl (by decide +kernel) ⟨rfl, rfl, Nat.le_of_ble_eq_true rfl, Nat.le_of_ble_eq_true rfl⟩ rfl hl.1 rfl (Nat.le_of_ble_eq_true rfl) ⟨Nat.zero_le _, Nat.zero_le _⟩ d_X8_read_13) hS (fun x13 v14 H locs hp12 hw hS => ?_)
  obtain ⟨hI15, hK16, hp12, hk17⟩ := hp12
  have hK18 : Kp v v14 := Kp.tr hK8 hK16
  have hm19 : v14 50 (2) = g0 := hk17.trans hm9
  refine lv_if_eq (tgt := 48) hx hb d_X8_read_16 (by decide) (fun c20 => ?_) (fun c20 => ?_)
  · have f21 := i_eq c20
    have r22 : Rg x13 0 0 := by obtain ⟨a1, a2⟩ := hp12; obtain ⟨b1, b2⟩ := (⟨by decide, by decide⟩ : Rg 0 0 0); have f := i_eq c20; exact ⟨by omega, by omega⟩
    refine lv_iconst (v := 0) hx hb d_X8_read_48 (by decide) ?_
    refine lv_istore_n (lv' := [(2, .int 0), (0, .ref (ad 55)), (1, .ref (ad k))]) hx hb d_X8_read_49 rfl hl (by decide) rfl (fun ls hl => ?_)
    refine lv_iload_n hx hb d_X8_read_50 rfl (lv_at hl 0 rfl) ?_
    refine lv_if_eq (tgt := 58) hx hb d_X8_read_51 (by decide) (fun c23 => ?_) (fun c23 => ?_)
    · refine lv_aload_n hx hb d_X8_read_58 rfl (lv_at hl 1 rfl) ?_
      refine r_geti X hw FL_X8_19 (rfl : KD 55 = _) rfl d_X8_read_59 ?_
      refine lv_topi (fun x24 ex24 => ?_)
      have r25 : Rg x24 0 120 := by rw [ex24]; exact hI15 _ _ _ _ rfl
      have hm26 : v14 55 2 = x24 := ex24.symm
      exact r_iret X hr hlocks hw hS ⟨hI15, hK18, (hm19.trans hg0.symm)⟩ d_X8_read_62
    · exact absurd c23 (by decide)
  · have f27 := i_ne c20
    have r28 : Rg x13 1 1 := by obtain ⟨a1, a2⟩ := hp12; obtain ⟨b1, b2⟩ := (⟨by decide, by decide⟩ : Rg 0 0 0); have f := i_ne c20; exact ⟨by omega, by omega⟩
    refine lv_aload_n hx hb d_X8_read_19 rfl (lv_at hl 0 rfl) ?_
    refine lv_aload_n hx hb d_X8_read_20 rfl (lv_at hl 1 rfl) ?_
    refine r_ci (r_runVs (n := 1) (As := [.ref (ad k)]) (rest := []) X hw hSC hS (ct_X8_key_55 l D dA ad sa v14 hI15 k (by omega) (by omega)) gc_X8_33 (rfl : KD 55 = _) (by decide) rfl (by decide +kernel) ⟨rfl, rfl, Nat.le_of_ble_eq_true rfl, Nat.le_of_ble_eq_true rfl⟩ rfl hl.1 rfl (Nat.le_of_ble_eq_true rfl) ⟨Nat.zero_le _, Nat.zero_le _⟩ d_X8_read_21) hS (fun x30 v31 H locs hp29 hw hS => ?_)
    obtain ⟨hI32, hK33, hp29, hk34⟩ := hp29
    have hK35 : Kp v v31 := Kp.tr hK18 hK33
    have hm36 : v31 50 (2) = g0 := hk34.trans hm19
    refine lv_if_eq (tgt := 48) hx hb d_X8_read_24 (by decide) (fun c37 => ?_) (fun c37 => ?_)
    · have f38 := i_eq c37
      have r39 : Rg x30 0 0 := by obtain ⟨a1, a2⟩ := hp29; obtain ⟨b1, b2⟩ := (⟨by decide, by decide⟩ : Rg 0 0 0); have f := i_eq c37; exact ⟨by omega, by omega⟩
      refine lv_iconst (v := 0) hx hb d_X8_read_48 (by decide) ?_
      refine lv_istore_n (lv' := [(2, .int 0), (0, .ref (ad 55)), (1, .ref (ad k))]) hx hb d_X8_read_49 rfl hl (by decide) rfl (fun ls hl => ?_)
      refine lv_iload_n hx hb d_X8_read_50 rfl (lv_at hl 0 rfl) ?_
      refine lv_if_eq (tgt := 58) hx hb d_X8_read_51 (by decide) (fun c40 => ?_) (fun c40 => ?_)
      · refine lv_aload_n hx hb d_X8_read_58 rfl (lv_at hl 1 rfl) ?_
        refine r_geti X hw FL_X8_19 (rfl : KD 55 = _) rfl d_X8_read_59 ?_
        refine lv_topi (fun x41 ex41 => ?_)
        have r42 : Rg x41 0 120 := by rw [ex41]; exact hI32 _ _ _ _ rfl
        have hm43 : v31 55 2 = x41 := ex41.symm
        exact r_iret X hr hlocks hw hS ⟨hI32, hK35, (hm36.trans hg0.symm)⟩ d_X8_read_62
      · exact absurd c40 (by decide)
    · have f44 := i_ne c37
      have r45 : Rg x30 1 1 := by obtain ⟨a1, a2⟩ := hp29; obtain ⟨b1, b2⟩ := (⟨by decide, by decide⟩ : Rg 0 0 0); have f := i_ne c37; exact ⟨by omega, by omega⟩
      refine lv_aload_n hx hb d_X8_read_27 rfl (lv_at hl 0 rfl) ?_
      refine va_ldcS hx hb X.2.2.2.1 (hSC.2 (37, ";sell ", 6) (by decide)).1 d_X8_read_28 ?_
      refine r_ci (r_runVs (n := 1) (As := [.ref (sa 37)]) (rest := []) X hw hSC hS (ct_X8_word_55 l D dA ad sa v31 hI32 (37, ";sell ", 6) (by decide)) gc_X8_29 (rfl : KD 55 = _) (by decide) rfl (by decide +kernel) ⟨rfl, rfl, Nat.le_of_ble_eq_true rfl, Nat.le_of_ble_eq_true rfl⟩ rfl hl.1 rfl (Nat.le_of_ble_eq_true rfl) ⟨Nat.zero_le _, Nat.zero_le _⟩ d_X8_read_30) hS (fun x47 v48 H locs hp46 hw hS => ?_)
      obtain ⟨hI49, hK50, hp46, hk51⟩ := hp46
      have hK52 : Kp v v48 := Kp.tr hK35 hK50
      have hm53 : v48 50 (2) = g0 := hk51.trans hm36
      refine lv_if_eq (tgt := 48) hx hb d_X8_read_33 (by decide) (fun c54 => ?_) (fun c54 => ?_)
      · have f55 := i_eq c54
        have r56 : Rg x47 0 0 := by obtain ⟨a1, a2⟩ := hp46; obtain ⟨b1, b2⟩ := (⟨by decide, by decide⟩ : Rg 0 0 0); have f := i_eq c54; exact ⟨by omega, by omega⟩
        refine lv_iconst (v := 0) hx hb d_X8_read_48 (by decide) ?_
        refine lv_istore_n (lv' := [(2, .int 0), (0, .ref (ad 55)), (1, .ref (ad k))]) hx hb d_X8_read_49 rfl hl (by decide) rfl (fun ls hl => ?_)
        refine lv_iload_n hx hb d_X8_read_50 rfl (lv_at hl 0 rfl) ?_
        refine lv_if_eq (tgt := 58) hx hb d_X8_read_51 (by decide) (fun c57 => ?_) (fun c57 => ?_)
        · refine lv_aload_n hx hb d_X8_read_58 rfl (lv_at hl 1 rfl) ?_
          refine r_geti X hw FL_X8_19 (rfl : KD 55 = _) rfl d_X8_read_59 ?_
          refine lv_topi (fun x58 ex58 => ?_)
          have r59 : Rg x58 0 120 := by rw [ex58]; exact hI49 _ _ _ _ rfl
          have hm60 : v48 55 2 = x58 := ex58.symm
          exact r_iret X hr hlocks hw hS ⟨hI49, hK52, (hm53.trans hg0.symm)⟩ d_X8_read_62
        · exact absurd c57 (by decide)
      · have f61 := i_ne c54
        have r62 : Rg x47 1 1 := by obtain ⟨a1, a2⟩ := hp46; obtain ⟨b1, b2⟩ := (⟨by decide, by decide⟩ : Rg 0 0 0); have f := i_ne c54; exact ⟨by omega, by omega⟩
        refine lv_aload_n hx hb d_X8_read_36 rfl (lv_at hl 0 rfl) ?_
        refine lv_aload_n hx hb d_X8_read_37 rfl (lv_at hl 1 rfl) ?_
        refine r_ci (r_runVs (n := 1) (As := [.ref (ad k)]) (rest := []) X hw hSC hS (ct_X8_parts_55 l D dA ad sa v48 hI49 k (by omega) (by omega)) gc_X8_39 (rfl : KD 55 = _) (by decide) rfl (by decide +kernel) ⟨rfl, rfl, Nat.le_of_ble_eq_true rfl, Nat.le_of_ble_eq_true rfl⟩ rfl hl.1 rfl (Nat.le_of_ble_eq_true rfl) ⟨Nat.zero_le _, Nat.zero_le _⟩ d_X8_read_38) hS (fun x64 v65 H locs hp63 hw hS => ?_)
        obtain ⟨hI66, hK67, hp63, hk68⟩ := hp63
        have hK69 : Kp v v65 := Kp.tr hK52 hK67
        have hm70 : v65 50 (2) = g0 := hk68.trans hm53
        refine lv_if_eq (tgt := 48) hx hb d_X8_read_41 (by decide) (fun c71 => ?_) (fun c71 => ?_)
        · have f72 := i_eq c71
          have r73 : Rg x64 0 0 := by obtain ⟨a1, a2⟩ := hp63; obtain ⟨b1, b2⟩ := (⟨by decide, by decide⟩ : Rg 0 0 0); have f := i_eq c71; exact ⟨by omega, by omega⟩
          refine lv_iconst (v := 0) hx hb d_X8_read_48 (by decide) ?_
          refine lv_istore_n (lv' := [(2, .int 0), (0, .ref (ad 55)), (1, .ref (ad k))]) hx hb d_X8_read_49 rfl hl (by decide) rfl (fun ls hl => ?_)
          refine lv_iload_n hx hb d_X8_read_50 rfl (lv_at hl 0 rfl) ?_
          refine lv_if_eq (tgt := 58) hx hb d_X8_read_51 (by decide) (fun c74 => ?_) (fun c74 => ?_)
          · refine lv_aload_n hx hb d_X8_read_58 rfl (lv_at hl 1 rfl) ?_
            refine r_geti X hw FL_X8_19 (rfl : KD 55 = _) rfl d_X8_read_59 ?_
            refine lv_topi (fun x75 ex75 => ?_)
            have r76 : Rg x75 0 120 := by rw [ex75]; exact hI66 _ _ _ _ rfl
            have hm77 : v65 55 2 = x75 := ex75.symm
            exact r_iret X hr hlocks hw hS ⟨hI66, hK69, (hm70.trans hg0.symm)⟩ d_X8_read_62
          · exact absurd c74 (by decide)
        · have f78 := i_ne c71
          have r79 : Rg x64 1 1 := by obtain ⟨a1, a2⟩ := hp63; obtain ⟨b1, b2⟩ := (⟨by decide, by decide⟩ : Rg 0 0 0); have f := i_ne c71; exact ⟨by omega, by omega⟩
          refine lv_iconst (v := 1) hx hb d_X8_read_44 (by decide) ?_
          refine lv_goto (tgt := 49) hx hb d_X8_read_45 (by decide) ?_
          refine lv_istore_n (lv' := [(2, .int 1), (0, .ref (ad 55)), (1, .ref (ad k))]) hx hb d_X8_read_49 rfl hl (by decide) rfl (fun ls hl => ?_)
          refine lv_iload_n hx hb d_X8_read_50 rfl (lv_at hl 0 rfl) ?_
          refine lv_if_eq (tgt := 58) hx hb d_X8_read_51 (by decide) (fun c80 => ?_) (fun c80 => ?_)
          · exact absurd c80 (by decide)
          · refine lv_iconst (v := -1) hx hb d_X8_read_54 (by decide) ?_
            refine lv_goto (tgt := 62) hx hb d_X8_read_55 (by decide) ?_
            exact r_iret X hr hlocks hw hS ⟨hI66, hK69, (hm70.trans hg0.symm)⟩ d_X8_read_62
theorem d_X10_order_0 : decode c_X10_order 0 = .ok (.iload_n 1, 1) := by decide +kernel
theorem d_X10_order_1 : decode c_X10_order 1 = .ok (.iconst 0, 1) := by decide +kernel
theorem d_X10_order_2 : decode c_X10_order 2 = .ok (.sipush 999, 3) := by decide +kernel
theorem d_X10_order_5 : decode c_X10_order 5 = .ok (.invokestatic 74, 3) := by decide +kernel
theorem d_X10_order_8 : decode c_X10_order 8 = .ok (.ifCond .ne 6, 3) := by decide +kernel
theorem d_X10_order_11 : decode c_X10_order 11 = .ok (.bipush (-2), 2) := by decide +kernel
theorem d_X10_order_13 : decode c_X10_order 13 = .ok (.ireturn, 1) := by decide +kernel
theorem d_X10_order_14 : decode c_X10_order 14 = .ok (.aload_n 0, 1) := by decide +kernel
theorem d_X10_order_15 : decode c_X10_order 15 = .ok (.getfield 52, 3) := by decide +kernel
theorem d_X10_order_18 : decode c_X10_order 18 = .ok (.getfield 168, 3) := by decide +kernel
theorem d_X10_order_21 : decode c_X10_order 21 = .ok (.bipush 8, 2) := by decide +kernel
theorem d_X10_order_23 : decode c_X10_order 23 = .ok (.if_icmp .lt 6, 3) := by decide +kernel
theorem d_X10_order_26 : decode c_X10_order 26 = .ok (.bipush (-4), 2) := by decide +kernel
theorem d_X10_order_28 : decode c_X10_order 28 = .ok (.ireturn, 1) := by decide +kernel
theorem d_X10_order_29 : decode c_X10_order 29 = .ok (.aload_n 0, 1) := by decide +kernel
theorem d_X10_order_30 : decode c_X10_order 30 = .ok (.getfield 52, 3) := by decide +kernel
theorem d_X10_order_33 : decode c_X10_order 33 = .ok (.getfield 169, 3) := by decide +kernel
theorem d_X10_order_36 : decode c_X10_order 36 = .ok (.aload_n 0, 1) := by decide +kernel
theorem d_X10_order_37 : decode c_X10_order 37 = .ok (.getfield 52, 3) := by decide +kernel
theorem d_X10_order_40 : decode c_X10_order 40 = .ok (.getfield 168, 3) := by decide +kernel
theorem d_X10_order_43 : decode c_X10_order 43 = .ok (.aaload, 1) := by decide +kernel
theorem d_X10_order_44 : decode c_X10_order 44 = .ok (.astore_n 2, 1) := by decide +kernel
theorem d_X10_order_45 : decode c_X10_order 45 = .ok (.aload_n 0, 1) := by decide +kernel
theorem d_X10_order_46 : decode c_X10_order 46 = .ok (.getfield 59, 3) := by decide +kernel
theorem d_X10_order_49 : decode c_X10_order 49 = .ok (.aload_n 2, 1) := by decide +kernel
theorem d_X10_order_50 : decode c_X10_order 50 = .ok (.invokevirtual 173, 3) := by decide +kernel
theorem d_X10_order_53 : decode c_X10_order 53 = .ok (.istore_n 3, 1) := by decide +kernel
theorem d_X10_order_54 : decode c_X10_order 54 = .ok (.aload_n 0, 1) := by decide +kernel
theorem d_X10_order_55 : decode c_X10_order 55 = .ok (.getfield 59, 3) := by decide +kernel
theorem d_X10_order_58 : decode c_X10_order 58 = .ok (.iconst 0, 1) := by decide +kernel
theorem d_X10_order_59 : decode c_X10_order 59 = .ok (.putfield 161, 3) := by decide +kernel
theorem d_X10_order_62 : decode c_X10_order 62 = .ok (.iload_n 3, 1) := by decide +kernel
theorem d_X10_order_63 : decode c_X10_order 63 = .ok (.iconst (-1), 1) := by decide +kernel
theorem d_X10_order_64 : decode c_X10_order 64 = .ok (.if_icmp .eq 8, 3) := by decide +kernel
theorem d_X10_order_67 : decode c_X10_order 67 = .ok (.bipush (-10), 2) := by decide +kernel
theorem d_X10_order_69 : decode c_X10_order 69 = .ok (.iload_n 3, 1) := by decide +kernel
theorem d_X10_order_70 : decode c_X10_order 70 = .ok (.isub, 1) := by decide +kernel
theorem d_X10_order_71 : decode c_X10_order 71 = .ok (.ireturn, 1) := by decide +kernel
theorem d_X10_order_72 : decode c_X10_order 72 = .ok (.aload_n 2, 1) := by decide +kernel
theorem d_X10_order_73 : decode c_X10_order 73 = .ok (.iload_n 1, 1) := by decide +kernel
theorem d_X10_order_74 : decode c_X10_order 74 = .ok (.putfield 177, 3) := by decide +kernel
theorem d_X10_order_77 : decode c_X10_order 77 = .ok (.aload_n 0, 1) := by decide +kernel
theorem d_X10_order_78 : decode c_X10_order 78 = .ok (.getfield 52, 3) := by decide +kernel
theorem d_X10_order_81 : decode c_X10_order 81 = .ok (.dup, 1) := by decide +kernel
theorem d_X10_order_82 : decode c_X10_order 82 = .ok (.getfield 168, 3) := by decide +kernel
theorem d_X10_order_85 : decode c_X10_order 85 = .ok (.dup_x1, 1) := by decide +kernel
theorem d_X10_order_86 : decode c_X10_order 86 = .ok (.iconst 1, 1) := by decide +kernel
theorem d_X10_order_87 : decode c_X10_order 87 = .ok (.iadd, 1) := by decide +kernel
theorem d_X10_order_88 : decode c_X10_order 88 = .ok (.putfield 168, 3) := by decide +kernel
theorem d_X10_order_91 : decode c_X10_order 91 = .ok (.ireturn, 1) := by decide +kernel
set_option maxHeartbeats 4000000 in
set_option maxRecDepth 100000 in
theorem ct_X10_order_0 (l : Launch) (D : va_G) (dA : Nat → ClassId) (ad : Nat → Nat) (sa : Nat → Nat) (v : tV) (hI : Inv v) (dy : Int32) : Met l m_X10_order [.code m_X10_order c_X10_order 4 (some .int)] ({ frames := 9, cells := 0, slots := 0, locals := 222 } : Room) (tPs D dA ad sa v [.ref (ad 0), .int dy]) (tQi D dA ad (fun r v' => Inv v')) 0 0 (tA ad) := by
  refine tMets (by decide) (Nat.le_of_ble_eq_true rfl) ?_
  intro p e s m below meth c ls X hr hlocks hw hSC hl
  have X : CX p s m ([.ref (ad 0), .int dy] : List Value).toArray c c_X10_order N_X10 4 D dA := X
  have hx := X.1
  have hb := X.2.1
  have hS : va_S (tA ad) s.heap s.heap [] := va_S.rf
  have hl : lv_has ls 4 [(0, .ref (ad 0)), (1, .int dy)] := hl
  refine lv_iload_n hx hb d_X10_order_0 rfl (lv_at hl 1 rfl) ?_
  refine lv_iconst (v := 0) hx hb d_X10_order_1 (by decide) ?_
  refine lv_sipush (v := 999) hx hb d_X10_order_2 (by decide) ?_
  refine r_ci (r_runS (n := 3) (As := [.int dy, .int 0, .int 999]) (rest := []) X hw (ct_X10_within l D dA ad v hI dy 0 999) gc_X10_74 (by decide +kernel) ⟨rfl, rfl, Nat.le_of_ble_eq_true rfl, Nat.le_of_ble_eq_true rfl⟩ rfl hl.1 rfl (Nat.le_of_ble_eq_true rfl) ⟨Nat.zero_le _, Nat.zero_le _⟩ d_X10_order_5) hS (fun x2 v3 H locs hp1 hw hS => ?_)
  obtain ⟨ev3, hp1⟩ := hp1
  rw [ev3] at hw
  rcases hp1 with ⟨rfl, w4a, w4b⟩ | ⟨rfl, w4n⟩
  · skip
    have r5 : Rg dy 0 999 := by obtain ⟨_, _⟩ := (rg_any dy); have : (0 : Int32).toInt = 0 := rfl; have : (999 : Int32).toInt = 999 := rfl; exact ⟨by omega, by omega⟩
    refine lv_if_ne (tgt := 14) hx hb d_X10_order_8 (by decide) (fun c6 => ?_) (fun c6 => ?_)
    · refine lv_aload_n hx hb d_X10_order_14 rfl (lv_at hl 0 rfl) ?_
      refine r_getr (r := 50) X hw FL_X10_52 (rfl : KD 0 = _) rfl d_X10_order_15 ?_
      refine r_geti X hw FL_X10_168 (rfl : KD 50 = _) rfl d_X10_order_18 ?_
      refine lv_topi (fun x7 ex7 => ?_)
      have r8 : Rg x7 0 8 := by rw [ex7]; exact hI _ _ _ _ rfl
      have hm9 : v 50 2 = x7 := ex7.symm
      refine lv_bipush (v := 8) hx hb d_X10_order_21 (by decide) ?_
      refine lv_icmp_lt (tgt := 29) hx hb d_X10_order_23 (by decide) (fun c10 => ?_) (fun c10 => ?_)
      · have f11 := i_lt c10
        have r12 : Rg x7 0 7 := by obtain ⟨a1, a2⟩ := r8; obtain ⟨b1, b2⟩ := (⟨by decide, by decide⟩ : Rg 8 8 8); have f := i_lt c10; exact ⟨by omega, by omega⟩
        refine lv_aload_n hx hb d_X10_order_29 rfl (lv_at hl 0 rfl) ?_
        refine r_getr (r := 50) X hw FL_X10_52 (rfl : KD 0 = _) rfl d_X10_order_30 ?_
        refine r_getr (r := 51) X hw FL_X10_169 (rfl : KD 50 = _) rfl d_X10_order_33 ?_
        refine lv_aload_n hx hb d_X10_order_36 rfl (lv_at hl 0 rfl) ?_
        refine r_getr (r := 50) X hw FL_X10_52 (rfl : KD 0 = _) rfl d_X10_order_37 ?_
        refine r_geti X hw FL_X10_168 (rfl : KD 50 = _) rfl d_X10_order_40 ?_
        refine lv_seti hm9 ?_
        refine r_aald X hw (rfl : KD 51 = _) (Or.inr (Or.inr (Or.inr rfl))) (Rg.vp (b := 7) r12 (by decide)) rfl d_X10_order_43 ?_
        refine r_nm (fun kc13 ekc13 => ?_)
        have kc13a : 60 ≤ kc13 := by omega
        have kc13b : kc13 ≤ 67 := by have := Rg.nat r12; omega
        refine lv_astore_n (lv' := [(2, .ref (ad kc13)), (0, .ref (ad 0)), (1, .int dy)]) hx hb d_X10_order_44 rfl hl (by decide) rfl (fun ls hl => ?_)
        refine lv_aload_n hx hb d_X10_order_45 rfl (lv_at hl 1 rfl) ?_
        refine r_getr (r := 55) X hw FL_X10_59 (rfl : KD 0 = _) rfl d_X10_order_46 ?_
        refine lv_aload_n hx hb d_X10_order_49 rfl (lv_at hl 0 rfl) ?_
        refine r_ci (r_runVs (n := 1) (As := [.ref (ad kc13)]) (rest := []) X hw hSC hS (ct_X8_read_55 l D dA ad sa v hI kc13 (by omega) (by omega)) gc_X10_173 (rfl : KD 55 = _) (by decide) rfl (by decide +kernel) ⟨rfl, rfl, Nat.le_of_ble_eq_true rfl, Nat.le_of_ble_eq_true rfl⟩ rfl hl.1 rfl (Nat.le_of_ble_eq_true rfl) ⟨Nat.zero_le _, Nat.zero_le _⟩ d_X10_order_50) hS (fun x15 v16 H locs hp14 hw hS => ?_)
        obtain ⟨hI17, hK18, hk19⟩ := hp14
        have hm20 : v16 50 (2) = x7 := hk19.trans hm9
        refine lv_istore_n (lv' := [(3, .int x15), (2, .ref (ad kc13)), (0, .ref (ad 0)), (1, .int dy)]) hx hb d_X10_order_53 rfl hl (by decide) rfl (fun ls hl => ?_)
        refine lv_aload_n hx hb d_X10_order_54 rfl (lv_at hl 2 rfl) ?_
        refine r_getr (r := 55) X hw FL_X10_59 (rfl : KD 0 = _) rfl d_X10_order_55 ?_
        refine lv_iconst (v := 0) hx hb d_X10_order_58 (by decide) ?_
        refine r_put X hw hS FP_X10_161 (rfl : KD 55 = _) rfl ⟨rfl, rfl⟩ d_X10_order_59 (fun H locs hw hS => ?_)
        obtain ⟨v21, ev21⟩ : ∃ z, z = up2 v16 55 1 0 := ⟨_, rfl⟩
        rw [← ev21] at hw
        have hI22 : Inv v21 := by rw [ev21]; exact Inv.putr hI17 rfl (rg_w (⟨by decide, by decide⟩ : Rg 0 0 0) (by decide) (by decide))
        have hm23 : v21 50 2 = x7 := by rw [ev21, up2_n _ _ (by omega)]; exact hm20
        have hm24 : v21 55 1 = 0 := by rw [ev21, up2_s]
        refine lv_iload_n hx hb d_X10_order_62 rfl (lv_at hl 0 rfl) ?_
        refine lv_iconst (v := -1) hx hb d_X10_order_63 (by decide) ?_
        refine lv_icmp_eq (tgt := 72) hx hb d_X10_order_64 (by decide) (fun c25 => ?_) (fun c25 => ?_)
        · have f26 := i_eq c25
          have r27 : Rg x15 (-1) (-1) := by obtain ⟨a1, a2⟩ := (rg_any x15); obtain ⟨b1, b2⟩ := (⟨by decide, by decide⟩ : Rg (-1) (-1) (-1)); have f := i_eq c25; exact ⟨by omega, by omega⟩
          refine lv_aload_n hx hb d_X10_order_72 rfl (lv_at hl 1 rfl) ?_
          refine lv_iload_n hx hb d_X10_order_73 rfl (lv_at hl 3 rfl) ?_
          refine r_put X hw hS FP_X10_177 (KD_order (by omega) (by omega)) (SH_order (by omega) (by omega) (by decide)) ⟨rfl, rfl⟩ d_X10_order_74 (fun H locs hw hS => ?_)
          obtain ⟨v28, ev28⟩ : ∃ z, z = up2 v21 kc13 6 dy := ⟨_, rfl⟩
          rw [← ev28] at hw
          have hI29 : Inv v28 := by rw [ev28]; exact Inv.put0 hI22 _ (RG_order (by omega) (by omega) (by decide))
          have hm30 : v28 50 2 = x7 := by rw [ev28, up2_n _ _ (by omega)]; exact hm23
          have hm31 : v28 55 1 = 0 := by rw [ev28, up2_n _ _ (by omega)]; exact hm24
          refine lv_aload_n hx hb d_X10_order_77 rfl (lv_at hl 2 rfl) ?_
          refine r_getr (r := 50) X hw FL_X10_52 (rfl : KD 0 = _) rfl d_X10_order_78 ?_
          refine lv_dup hx hb d_X10_order_81 rfl ?_
          refine r_geti X hw FL_X10_168 (rfl : KD 50 = _) rfl d_X10_order_82 ?_
          refine lv_seti hm30 ?_
          refine lv_dup_x1 hx hb d_X10_order_85 rfl rfl ?_
          refine lv_iconst (v := 1) hx hb d_X10_order_86 (by decide) ?_
          refine lv_iadd hx hb d_X10_order_87 ?_
          refine lv_topi (fun x32 ex32 => ?_)
          have r33 : Rg x32 1 8 := rg_add ex32 r12 (⟨by decide, by decide⟩ : Rg 1 1 1) (by decide) (by decide)
          have s34 : x32.toInt = x7.toInt + (1 : Int32).toInt := by rw [ex32]; exact i_add (by obtain ⟨_, _⟩ := r12; obtain ⟨_, _⟩ := (⟨by decide, by decide⟩ : Rg 1 1 1); omega) (by obtain ⟨_, _⟩ := r12; obtain ⟨_, _⟩ := (⟨by decide, by decide⟩ : Rg 1 1 1); omega)
          have s34l : (1 : Int32).toInt = 1 := rfl
          refine r_put X hw hS FP_X10_168 (rfl : KD 50 = _) rfl ⟨rfl, rfl⟩ d_X10_order_88 (fun H locs hw hS => ?_)
          obtain ⟨v35, ev35⟩ : ∃ z, z = up2 v28 50 2 x32 := ⟨_, rfl⟩
          rw [← ev35] at hw
          have hI36 : Inv v35 := by rw [ev35]; exact Inv.putr hI29 rfl (rg_w r33 (by decide) (by decide))
          have hm37 : v35 55 1 = 0 := by rw [ev35, up2_n _ _ (by omega)]; exact hm31
          have hm38 : v35 50 2 = x32 := by rw [ev35, up2_s]
          exact r_iret X hr hlocks hw hS hI36 d_X10_order_91
        · have f39 := i_ne c25
          refine lv_bipush (v := -10) hx hb d_X10_order_67 (by decide) ?_
          refine lv_iload_n hx hb d_X10_order_69 rfl (lv_at hl 0 rfl) ?_
          refine lv_isub hx hb d_X10_order_70 ?_
          refine lv_topi (fun x40 ex40 => ?_)
          exact r_iret X hr hlocks hw hS hI22 d_X10_order_71
      · have f41 := i_nlt c10
        have r42 : Rg x7 8 8 := by obtain ⟨a1, a2⟩ := r8; obtain ⟨b1, b2⟩ := (⟨by decide, by decide⟩ : Rg 8 8 8); have f := i_nlt c10; exact ⟨by omega, by omega⟩
        refine lv_bipush (v := -4) hx hb d_X10_order_26 (by decide) ?_
        exact r_iret X hr hlocks hw hS hI d_X10_order_28
    · exact absurd c6 (by decide)
  · skip
    refine lv_if_ne (tgt := 14) hx hb d_X10_order_8 (by decide) (fun c43 => ?_) (fun c43 => ?_)
    · exact absurd c43 (by decide)
    · refine lv_bipush (v := -2) hx hb d_X10_order_11 (by decide) ?_
      exact r_iret X hr hlocks hw hS hI d_X10_order_13
