def STAB : List (Nat × String × Nat) := [(27, "turn ", 5), (41, "a", 1), (45, "sk", 2), (47, "e", 1), (49, "ntry", 4), (51, "lo", 2), (53, "t", 1), (55, "ad", 2), (37, ";sell ", 6), (68, " at ", 4), (70, "<", 1), (72, ">", 1), (78, ",", 1)]
def CHL (k : Nat) : List Int32 := match k with
  | 27 => [116, 117, 114, 110, 32]
  | 41 => [97]
  | 45 => [115, 107]
  | 47 => [101]
  | 49 => [110, 116, 114, 121]
  | 51 => [108, 111]
  | 53 => [116]
  | 55 => [97, 100]
  | 37 => [59, 115, 101, 108, 108, 32]
  | 68 => [32, 97, 116, 32]
  | 70 => [60]
  | 72 => [62]
  | 78 => [44]
  | _ => []
def CH (k j : Nat) : Int32 := (CHL k).getD j 0
theorem ch_ok : ∀ x : Nat × String × Nat, x ∈ STAB → ∀ j, j < x.2.2 → ((CH x.1 j &&& 255).toUInt32 % 65536).toInt32 = CH x.1 j := by decide +kernel
theorem st_le : ∀ x : Nat × String × Nat, x ∈ STAB → x.2.2 ≤ 6 := by decide +kernel
def SC (sa : Nat → Nat) (A : Nat → Prop) (U : State) (H : Heap) : Prop := SZ A U H ∧ ∀ x : Nat × String × Nat, x ∈ STAB → vk_R N_X8 x.1 x.2.1 (sa x.1) U ∧ SO A (sa x.1) x.2.2 (CH x.1) U H
theorem SC.warm {sa : Nat → Nat} {A : Nat → Prop} {s U : State} {H : Heap} (hW : s.WarmedH U.vm) (h : SC sa A s H) : SC sa A U H := ⟨h.1.moved hW.alike, fun x hx => ⟨vk_R.warm hW (h.2 x hx).1, (h.2 x hx).2.moved hW.alike⟩⟩
theorem SC.kept {sa : Nat → Nat} {A : Nat → Prop} {U : State} {H H1 : Heap} (h : SC sa A U H) (hq : ∀ a : Nat, a < H.size → ¬ A a → H1[a]? = H[a]?) : SC sa A U H1 := ⟨h.1.kept hq, fun x hx => ⟨(h.2 x hx).1, (h.2 x hx).2.kept hq⟩⟩
theorem tI.same {D : va_G} {dA : Nat → ClassId} {ad : Nat → Nat} {v : tV} {H H1 : Heap} (hk : ∀ q : Nat, q < H.size → H1[q]? = H[q]?) (hw : tI D dA ad v H) : tI D dA ad v H1 := by
  refine ⟨fun k kn h => ?_, hw.2⟩
  have h1 := hw.1 k kn h
  have hlt : ad k < H.size := by
    rcases h1 with ⟨_, r, _, cell, q1, _⟩ | ⟨_, q1⟩
    · exact (Array.getElem?_eq_some_iff.mp q1).1
    · exact (Array.getElem?_eq_some_iff.mp q1).1
  exact h1.kept (hk _ hlt)
theorem rg_ofNat {r : Int32} {L : Nat} (h : r = Int32.ofNat L) (hL : L ≤ 6) : Rg r 0 6 := by
  rw [h]
  have e : (Int32.ofNat L).toInt = (L : Int) := nI_toInt (n := L) (by omega)
  exact ⟨by rw [e]; omega, by rw [e]; omega⟩
theorem vp_lt {i r : Int32} {L : Nat} (h0 : 0 ≤ i.toInt) (h : i.toInt < r.toInt) (hr : r = Int32.ofNat L) (hL : L ≤ 6) : vp_in i L := by
  rw [hr] at h
  have e : (Int32.ofNat L).toInt = (L : Int) := nI_toInt (n := L) (by omega)
  rw [e] at h
  exact vp_in_iff.mpr ⟨h0, h⟩
theorem ch_lt {i r : Int32} {L : Nat} (h0 : 0 ≤ i.toInt) (h : i.toInt < r.toInt) (hr : r = Int32.ofNat L) (hL : L ≤ 6) : i.toNatClampNeg < L := by
  rw [hr] at h
  have e : (Int32.ofNat L).toInt = (L : Int) := nI_toInt (n := L) (by omega)
  rw [e] at h
  show i.toInt.toNat < L
  omega
def tPs (D : va_G) (dA : Nat → ClassId) (ad sa : Nat → Nat) (v : tV) (av : List Value) : Array Value → State → Prop := va_Pc av (fun U => tI D dA ad v U.heap ∧ tK D dA U ∧ SC sa (tA ad) U U.heap)
theorem tPs.blind {D : va_G} {dA : Nat → ClassId} {ad sa : Nat → Nat} {v : tV} {av : List Value} : FrameBlind (tPs D dA ad sa v av) := by
  intro a U g mk h
  obtain ⟨h1, h2, h3, h4⟩ := h
  exact ⟨h1, h2, ⟨va_K.moved (u := U) (U := U.calling g mk a) (Vm.Alike.refl U.vm) h3.1, tb_vm (u := U) (U := U.calling g mk a) rfl h3.2⟩, SC.warm (s := U) (U := U.calling g mk a) (State.WarmedH.refl U) h4⟩
theorem tMets {l : Launch} {y : MethodName} {cc : ByteArray} {maxL : Nat} {ret : Option FieldType} {rm : Room} {D : va_G} {dA : Nat → ClassId} {ad sa : Nat → Nat} {v : tV} {av : List Value} {Qc : Array Value → State → Outcome → State → Prop} (hy : plainName y.cls = true) (hlen : (lg_sl av).length ≤ maxL)
    (body : ∀ (p : Program) (e : Env) (s : State) (m : MethodId) (below : List Frame) (meth : Method) (c : Code) (ls : Array Slot), CX p s m av.toArray c cc y.cls maxL D dA → meth.sig.returnType = ret → meth.locks = false → tI D dA ad v s.heap → SC sa (tA ad) s s.heap → lv_has ls maxL (lv_args 0 av) →
      W p l e rm s m av.toArray below meth c s.heap [] 0 0 (MQ below Qc av.toArray s 0 0 (tA ad)) (F0 m 0 ls [])) : Met l y [.code y cc maxL ret] rm (tPs D dA ad sa v av) Qc 0 0 (tA ad) := by
  refine Met.ofW (cc := cc) (maxL := maxL) (ret := ret) hy rfl ?_
  intro p e s m args below meth c s₁ B hml hv
  obtain ⟨rfl, hw, hK, hC⟩ := hv
  have hl := lv_entry av (n := maxL) hlen
  rw [lg_entry_eq]
  exact body p e s m below meth c _ ⟨B.exec, B.bytes, hml, findClass_of_methodNamed B.named, tb_args hK.2, hK⟩ B.returns B.notSynchronized hw hC hl
theorem r_runVs {p : Program} {l : Launch} {e : Env} {R : Room} {s : State} {m : MethodId} {args : Array Value} {below : List Frame} {meth : Method} {c : Code} {H : Heap} {locs : List Loc} {cells slots : Nat} {cc : ByteArray} {pc : Nat} {ls : Array Slot} {rest st0 : List Value} {D : va_G} {dA : Nat → ClassId} {ad sa : Nat → Nat} {v : tV} {own : String} {nL : Nat}
    (X : CX p s m args c cc own nL D dA) (hw : tI D dA ad v H) (hSC : SC sa (tA ad) s s.heap) (hS : va_S (tA ad) s.heap H locs) {y : MethodName} {bytes : ByteArray} {maxL index k ci n0 n N : Nat} {ret : Option FieldType} {rm : Room} {C : String} {T : u_T} {As : List Value} {Qc : Array Value → State → Outcome → State → Prop}
    (hM : Met l y [.code y bytes maxL ret] rm (tPs D dA ad sa v (.ref (ad k) :: As)) Qc 0 0 (tA ad)) (hG : CV own index C y bytes maxL ret) (hk : KD k = some (ci, n0)) (h12 : ci < 12) (hc : CLS[ci]? = some (C, T, N))
    (hy : y.cls = C ∧ y.cls ≠ "java/lang/invoke/MethodHandle" ∧ y.cls ≠ "java/lang/invoke/VarHandle" ∧ (parseMethodDescriptor y.desc).map (fun d => d.parameters.length) = some n) (hrm : RmOk R rm maxL) (hn : As.length = n) (hsz : ls.size = nL) (hst : st0 = As.reverse ++ .ref (ad k) :: rest) (hroom : (rest.map fun v => v.category).sum ≤ 8) (hcap : cells ≤ R.cells ∧ slots ≤ R.slots) (hd : decode cc pc = .ok (.invokevirtual index, 3)) :
    va_Run p l e R s m args below meth c H locs cells slots 0 0 (F0 m pc ls st0) rest (Qc (Value.ref (ad k) :: As).toArray) (tA ad) := by
  have hrc := r_recv X hw hk h12 hc
  obtain ⟨hx, hb, hml, hown, hts, hK⟩ := X
  exact va_runV (As := As) (rest := rest) ⟨hx, hb, hml, hown, hts⟩ hM (cwV n hts hG rfl hrm.1 hrm.2.1 hy ⟨hrm.2.2.1, hrm.2.2.2⟩) ⟨tPs.blind, hrc, fun U hU hW => ⟨rfl, by rw [hU]; exact hw, hK.warm hW, by rw [hU]; exact SC.warm hW (hSC.kept hS.2.1)⟩⟩ rfl hn hsz hst (lv_room hroom) hd hcap
def kp_X3_addPart_k (k : Nat) (sel : Int32) (bel : Int32) (price : Int32) (a j : Nat) : Prop := a ≠ k ∧ a ≠ k + 10 ∧ a ≠ k + 20 ∧ a ≠ k + 30
def f_X3_addPart_k (v : tV) (k : Nat) (sel : Int32) (bel : Int32) (price : Int32) : tV := bnd (v 50 2) fun g0 => bnd (v k 3) fun x1 => (if x1 < (3 : Int32) then bnd (k + 10) fun kc7 => bnd (up2 v kc7 (x1.toNatClampNeg) sel) fun v8 => bnd (k + 30) fun kc13 => bnd (up2 v8 kc13 (x1.toNatClampNeg) bel) fun v14 => bnd (k + 20) fun kc19 => bnd (up2 v14 kc19 (x1.toNatClampNeg) price) fun v20 => bnd (x1 + (1 : Int32)) fun x25 => bnd (up2 v20 k 3 x25) fun v28 => v28 else v)
set_option maxHeartbeats 4000000 in
set_option maxRecDepth 100000 in
theorem ct_X3_addPart_k (l : Launch) (D : va_G) (dA : Nat → ClassId) (ad : Nat → Nat) (v : tV) (hI : Inv v) (k : Nat) (sel : Int32) (bel : Int32) (price : Int32) (ka : 60 ≤ k) (kb : k < 69) (r_sel : Rg sel 0 99) (r_bel : Rg bel 0 1) : Met l m_X3_addPart [.code m_X3_addPart c_X3_addPart 4 none] ({ frames := 1, cells := 0, slots := 0, locals := 40 } : Room) (tP D dA ad v [.ref (ad k), .int sel, .int bel, .int price]) (tQv D dA ad (fun v' => (Inv v' ∧ Kp (kp_X3_addPart_k k sel bel price) v v' ∧ v' 50 2 = v 50 2) ∧ v' = f_X3_addPart_k v k sel bel price)) 0 0 (tA ad) := by
  refine tMet (by decide) (Nat.le_of_ble_eq_true rfl) ?_
  intro p e s m below meth c ls X hr hlocks hw hl
  have X : CX p s m ([.ref (ad k), .int sel, .int bel, .int price] : List Value).toArray c c_X3_addPart N_X3 4 D dA := X
  have hx := X.1
  have hb := X.2.1
  have hS : va_S (tA ad) s.heap s.heap [] := va_S.rf
  have hl : lv_has ls 4 [(0, .ref (ad k)), (1, .int sel), (2, .int bel), (3, .int price)] := hl
  obtain ⟨g0, hg0⟩ : ∃ g, v 50 2 = g := ⟨_, rfl⟩
  have r_g0 : Rg g0 0 8 := by rw [← hg0]; exact hI 50 2 _ _ rfl
  obtain ⟨RR, eRR⟩ : ∃ z, f_X3_addPart_k v k sel bel price = z := ⟨_, rfl⟩
  have hK0 : Kp (kp_X3_addPart_k k sel bel price) v v := Kp.rf _ v
  have hG := eRR
  unfold f_X3_addPart_k at hG
  have hG := bnd_use hg0.symm hG
  refine lv_aload_n hx hb d_X3_addPart_0 rfl (lv_at hl 0 rfl) ?_
  refine r_geti X hw FL_X3_22 (KD_order (by omega) (by omega)) (SH_order (by omega) (by omega) (by decide)) d_X3_addPart_1 ?_
  refine lv_topi (fun x1 ex1 => ?_)
  have hG := bnd_use ex1 hG
  have r2 : Rg x1 0 3 := by rw [ex1]; exact hI _ _ _ _ (RG_order3 (by omega) (by omega))
  have hm3 : v k 3 = x1 := ex1.symm
  refine lv_iconst (v := 3) hx hb d_X3_addPart_4 (by decide) ?_
  refine lv_icmp_lt (tgt := 9) hx hb d_X3_addPart_5 (by decide) (fun c4 => ?_) (fun c4 => ?_)
  · have f5 := i_lt c4
    have r6 : Rg x1 0 2 := by obtain ⟨a1, a2⟩ := r2; obtain ⟨b1, b2⟩ := (⟨by decide, by decide⟩ : Rg 3 3 3); have f := i_lt c4; exact ⟨by omega, by omega⟩
    have hG := g_pos c4 hG
    refine lv_aload_n hx hb d_X3_addPart_9 rfl (lv_at hl 0 rfl) ?_
    refine r_getr (r := k + 10) X hw FL_X3_9 (KD_order (by omega) (by omega)) (SH_order0 (by omega) (by omega)) d_X3_addPart_10 ?_
    refine r_nm (fun kc7 ekc7 => ?_)
    have hG := bnd_use ekc7 hG
    refine lv_aload_n hx hb d_X3_addPart_13 rfl (lv_at hl 0 rfl) ?_
    refine r_geti X hw FL_X3_22 (KD_order (by omega) (by omega)) (SH_order (by omega) (by omega) (by decide)) d_X3_addPart_14 ?_
    refine lv_seti hm3 ?_
    refine lv_iload_n hx hb d_X3_addPart_17 rfl (lv_at hl 1 rfl) ?_
    refine r_iast X hw hS (KD_opart (by omega)) (Rg.vp (b := 2) r6 (by decide)) (SH_opart (by omega) (by omega)) d_X3_addPart_18 (fun H locs hw hS => ?_)
    obtain ⟨v8, ev8⟩ : ∃ z, z = up2 v kc7 x1.toNatClampNeg sel := ⟨_, rfl⟩
    rw [← ev8] at hw
    have hG := bnd_use ev8 hG
    have hI9 : Inv v8 := by rw [ev8]; exact Inv.putr hI (RG_osell (by omega) (by omega)) r_sel
    have hK10 : Kp (kp_X3_addPart_k k sel bel price) v v8 := by rw [ev8]; exact Kp.put hK0 _ (by unfold kp_X3_addPart_k; omega)
    have hm11 : v8 50 2 = g0 := by rw [ev8, up2_n _ _ (by omega)]; exact hg0
    have hm12 : v8 k 3 = x1 := by rw [ev8, up2_n _ _ (by omega)]; exact hm3
    refine lv_aload_n hx hb d_X3_addPart_19 rfl (lv_at hl 0 rfl) ?_
    refine r_getr (r := k + 30) X hw FL_X3_18 (KD_order (by omega) (by omega)) (SH_order2 (by omega) (by omega)) d_X3_addPart_20 ?_
    refine r_nm (fun kc13 ekc13 => ?_)
    have hG := bnd_use ekc13 hG
    refine lv_aload_n hx hb d_X3_addPart_23 rfl (lv_at hl 0 rfl) ?_
    refine r_geti X hw FL_X3_22 (KD_order (by omega) (by omega)) (SH_order (by omega) (by omega) (by decide)) d_X3_addPart_24 ?_
    refine lv_seti hm12 ?_
    refine lv_iload_n hx hb d_X3_addPart_27 rfl (lv_at hl 2 rfl) ?_
    refine r_zast (y := bel)  X hw hS (KD_obelow (by omega) (by omega)) (Rg.vp (b := 2) r6 (by decide)) (SH_opart (by omega) (by omega)) (narz r_bel) d_X3_addPart_28 (fun H locs hw hS => ?_)
    obtain ⟨v14, ev14⟩ : ∃ z, z = up2 v8 kc13 x1.toNatClampNeg bel := ⟨_, rfl⟩
    rw [← ev14] at hw
    have hG := bnd_use ev14 hG
    have hI15 : Inv v14 := by rw [ev14]; exact Inv.put0 hI9 _ (RG_oprice (by omega) (by omega))
    have hK16 : Kp (kp_X3_addPart_k k sel bel price) v v14 := by rw [ev14]; exact Kp.put hK10 _ (by unfold kp_X3_addPart_k; omega)
    have hm17 : v14 50 2 = g0 := by rw [ev14, up2_n _ _ (by omega)]; exact hm11
    have hm18 : v14 k 3 = x1 := by rw [ev14, up2_n _ _ (by omega)]; exact hm12
    refine lv_aload_n hx hb d_X3_addPart_29 rfl (lv_at hl 0 rfl) ?_
    refine r_getr (r := k + 20) X hw FL_X3_15 (KD_order (by omega) (by omega)) (SH_order1 (by omega) (by omega)) d_X3_addPart_30 ?_
    refine r_nm (fun kc19 ekc19 => ?_)
    have hG := bnd_use ekc19 hG
    refine lv_aload_n hx hb d_X3_addPart_33 rfl (lv_at hl 0 rfl) ?_
    refine r_geti X hw FL_X3_22 (KD_order (by omega) (by omega)) (SH_order (by omega) (by omega) (by decide)) d_X3_addPart_34 ?_
    refine lv_seti hm18 ?_
    refine lv_iload_n hx hb d_X3_addPart_37 rfl (lv_at hl 3 rfl) ?_
    refine r_iast X hw hS (KD_opart (by omega)) (Rg.vp (b := 2) r6 (by decide)) (SH_opart (by omega) (by omega)) d_X3_addPart_38 (fun H locs hw hS => ?_)
    obtain ⟨v20, ev20⟩ : ∃ z, z = up2 v14 kc19 x1.toNatClampNeg price := ⟨_, rfl⟩
    rw [← ev20] at hw
    have hG := bnd_use ev20 hG
    have hI21 : Inv v20 := by rw [ev20]; exact Inv.put0 hI15 _ (RG_oprice (by omega) (by omega))
    have hK22 : Kp (kp_X3_addPart_k k sel bel price) v v20 := by rw [ev20]; exact Kp.put hK16 _ (by unfold kp_X3_addPart_k; omega)
    have hm23 : v20 50 2 = g0 := by rw [ev20, up2_n _ _ (by omega)]; exact hm17
    have hm24 : v20 k 3 = x1 := by rw [ev20, up2_n _ _ (by omega)]; exact hm18
    refine lv_aload_n hx hb d_X3_addPart_39 rfl (lv_at hl 0 rfl) ?_
    refine lv_dup hx hb d_X3_addPart_40 rfl ?_
    refine r_geti X hw FL_X3_22 (KD_order (by omega) (by omega)) (SH_order (by omega) (by omega) (by decide)) d_X3_addPart_41 ?_
    refine lv_seti hm24 ?_
    refine lv_iconst (v := 1) hx hb d_X3_addPart_44 (by decide) ?_
    refine lv_iadd hx hb d_X3_addPart_45 ?_
    refine lv_topi (fun x25 ex25 => ?_)
    have hG := bnd_use ex25 hG
    have r26 : Rg x25 1 3 := rg_add ex25 r6 (⟨by decide, by decide⟩ : Rg 1 1 1) (by decide) (by decide)
    have s27 : x25.toInt = x1.toInt + (1 : Int32).toInt := by rw [ex25]; exact i_add (by obtain ⟨_, _⟩ := r6; obtain ⟨_, _⟩ := (⟨by decide, by decide⟩ : Rg 1 1 1); omega) (by obtain ⟨_, _⟩ := r6; obtain ⟨_, _⟩ := (⟨by decide, by decide⟩ : Rg 1 1 1); omega)
    have s27l : (1 : Int32).toInt = 1 := rfl
    refine r_put X hw hS FP_X3_22 (KD_order (by omega) (by omega)) (SH_order (by omega) (by omega) (by decide)) ⟨rfl, rfl⟩ d_X3_addPart_46 (fun H locs hw hS => ?_)
    obtain ⟨v28, ev28⟩ : ∃ z, z = up2 v20 k 3 x25 := ⟨_, rfl⟩
    rw [← ev28] at hw
    have hG := bnd_use ev28 hG
    have hI29 : Inv v28 := by rw [ev28]; exact Inv.putr hI21 (RG_order3 (by omega) (by omega)) (rg_w r26 (by decide) (by decide))
    have hK30 : Kp (kp_X3_addPart_k k sel bel price) v v28 := by rw [ev28]; exact Kp.put hK22 _ (by unfold kp_X3_addPart_k; omega)
    have hm31 : v28 50 2 = g0 := by rw [ev28, up2_n _ _ (by omega)]; exact hm23
    have hm32 : v28 k 3 = x25 := by rw [ev28, up2_s]
    exact r_vret X hr hlocks hw hS ⟨⟨hI29, hK30, (hm31.trans hg0.symm)⟩, hG.trans eRR.symm⟩ d_X3_addPart_49
  · have f33 := i_nlt c4
    have r34 : Rg x1 3 3 := by obtain ⟨a1, a2⟩ := r2; obtain ⟨b1, b2⟩ := (⟨by decide, by decide⟩ : Rg 3 3 3); have f := i_nlt c4; exact ⟨by omega, by omega⟩
    have hG := g_neg c4 hG
    exact r_vret X hr hlocks hw hS ⟨⟨hI, hK0, (hg0.trans hg0.symm)⟩, hG.trans eRR.symm⟩ d_X3_addPart_8
theorem d_X8_number_0 : decode c_X8_number 0 = .ok (.iconst (-1), 1) := by decide +kernel
theorem d_X8_number_1 : decode c_X8_number 1 = .ok (.istore_n 2, 1) := by decide +kernel
theorem d_X8_number_2 : decode c_X8_number 2 = .ok (.iconst 0, 1) := by decide +kernel
theorem d_X8_number_3 : decode c_X8_number 3 = .ok (.istore_n 3, 1) := by decide +kernel
theorem d_X8_number_4 : decode c_X8_number 4 = .ok (.iload_n 3, 1) := by decide +kernel
theorem d_X8_number_5 : decode c_X8_number 5 = .ok (.iload_n 1, 1) := by decide +kernel
theorem d_X8_number_6 : decode c_X8_number 6 = .ok (.if_icmp .ge 71, 3) := by decide +kernel
theorem d_X8_number_9 : decode c_X8_number 9 = .ok (.aload_n 0, 1) := by decide +kernel
theorem d_X8_number_10 : decode c_X8_number 10 = .ok (.getfield 19, 3) := by decide +kernel
theorem d_X8_number_13 : decode c_X8_number 13 = .ok (.aload_n 0, 1) := by decide +kernel
theorem d_X8_number_14 : decode c_X8_number 14 = .ok (.getfield 15, 3) := by decide +kernel
theorem d_X8_number_17 : decode c_X8_number 17 = .ok (.if_icmp .ge 60, 3) := by decide +kernel
theorem d_X8_number_20 : decode c_X8_number 20 = .ok (.aload_n 0, 1) := by decide +kernel
theorem d_X8_number_21 : decode c_X8_number 21 = .ok (.getfield 9, 3) := by decide +kernel
theorem d_X8_number_24 : decode c_X8_number 24 = .ok (.aload_n 0, 1) := by decide +kernel
theorem d_X8_number_25 : decode c_X8_number 25 = .ok (.getfield 19, 3) := by decide +kernel
theorem d_X8_number_28 : decode c_X8_number 28 = .ok (.iaload, 1) := by decide +kernel
theorem d_X8_number_29 : decode c_X8_number 29 = .ok (.bipush 48, 2) := by decide +kernel
theorem d_X8_number_31 : decode c_X8_number 31 = .ok (.bipush 57, 2) := by decide +kernel
theorem d_X8_number_33 : decode c_X8_number 33 = .ok (.invokestatic 90, 3) := by decide +kernel
theorem d_X8_number_36 : decode c_X8_number 36 = .ok (.ifCond .eq 41, 3) := by decide +kernel
theorem d_X8_number_39 : decode c_X8_number 39 = .ok (.iload_n 2, 1) := by decide +kernel
theorem d_X8_number_40 : decode c_X8_number 40 = .ok (.iconst 0, 1) := by decide +kernel
theorem d_X8_number_41 : decode c_X8_number 41 = .ok (.invokestatic 94, 3) := by decide +kernel
theorem d_X8_number_44 : decode c_X8_number 44 = .ok (.bipush 10, 2) := by decide +kernel
theorem d_X8_number_46 : decode c_X8_number 46 = .ok (.imul, 1) := by decide +kernel
theorem d_X8_number_47 : decode c_X8_number 47 = .ok (.aload_n 0, 1) := by decide +kernel
theorem d_X8_number_48 : decode c_X8_number 48 = .ok (.getfield 9, 3) := by decide +kernel
theorem d_X8_number_51 : decode c_X8_number 51 = .ok (.aload_n 0, 1) := by decide +kernel
theorem d_X8_number_52 : decode c_X8_number 52 = .ok (.getfield 19, 3) := by decide +kernel
theorem d_X8_number_55 : decode c_X8_number 55 = .ok (.iaload, 1) := by decide +kernel
theorem d_X8_number_56 : decode c_X8_number 56 = .ok (.iadd, 1) := by decide +kernel
theorem d_X8_number_57 : decode c_X8_number 57 = .ok (.bipush 48, 2) := by decide +kernel
theorem d_X8_number_59 : decode c_X8_number 59 = .ok (.isub, 1) := by decide +kernel
theorem d_X8_number_60 : decode c_X8_number 60 = .ok (.istore_n 2, 1) := by decide +kernel
theorem d_X8_number_61 : decode c_X8_number 61 = .ok (.aload_n 0, 1) := by decide +kernel
theorem d_X8_number_62 : decode c_X8_number 62 = .ok (.dup, 1) := by decide +kernel
theorem d_X8_number_63 : decode c_X8_number 63 = .ok (.getfield 19, 3) := by decide +kernel
theorem d_X8_number_66 : decode c_X8_number 66 = .ok (.iconst 1, 1) := by decide +kernel
theorem d_X8_number_67 : decode c_X8_number 67 = .ok (.iadd, 1) := by decide +kernel
theorem d_X8_number_68 : decode c_X8_number 68 = .ok (.putfield 19, 3) := by decide +kernel
theorem d_X8_number_71 : decode c_X8_number 71 = .ok (.iinc 3 1, 3) := by decide +kernel
theorem d_X8_number_74 : decode c_X8_number 74 = .ok (.goto (-70), 3) := by decide +kernel
theorem d_X8_number_77 : decode c_X8_number 77 = .ok (.iload_n 2, 1) := by decide +kernel
theorem d_X8_number_78 : decode c_X8_number 78 = .ok (.ireturn, 1) := by decide +kernel
def kp_X8_number_2 (dg : Int32) (a j : Nat) : Prop := a ≠ 55
def b_X8_number_2_4 (dg : Int32) (rc4 : Int32 → Int32 → tV → Int32 × tV) (y2 : Int32) (y3 : Int32) (v1 : tV) : Int32 × tV := bnd (v1 50 2) fun g0 => (if dg ≤ y3 then (y2, v1) else bnd (v1 55 2) fun x6 => bnd (v1 55 1) fun x9 => (if x9 ≤ x6 then (y2, v1) else bnd (v1 56 x6.toNatClampNeg) fun x17 => (if (48 : Int32).toInt ≤ x17.toInt ∧ x17.toInt ≤ (57 : Int32).toInt then bnd (if y2 < (0 : Int32) then (0 : Int32) else y2) fun x26 => bnd (x26 * (10 : Int32)) fun x28 => bnd (x28 + x17) fun x31 => bnd (x31 - (48 : Int32)) fun x34 => bnd (x6 + (1 : Int32)) fun x37 => bnd (up2 v1 55 2 x37) fun v40 => bnd (y3 + 1) fun x47 => rc4 x34 x47 v40 else (y2, v1))))
def g_X8_number_2_4 (dg : Int32) : Nat → Int32 → Int32 → tV → Int32 × tV
  | 0, _, _, v1 => (0, v1)
  | n + 1, y2, y3, v1 => b_X8_number_2_4 dg (g_X8_number_2_4 dg n) y2 y3 v1
def f_X8_number_2 (v : tV) (dg : Int32) : Int32 × tV := bnd (v 50 2) fun g0 => g_X8_number_2_4 dg 100000 (-1) 0 v
set_option maxHeartbeats 4000000 in
set_option maxRecDepth 100000 in
theorem ct_X8_number_2 (l : Launch) (D : va_G) (dA : Nat → ClassId) (ad : Nat → Nat) (v : tV) (hI : Inv v) (dg : Int32) (r_dg : Rg dg 2 2) : Met l m_X8_number [.code m_X8_number c_X8_number 4 (some .int)] ({ frames := 2, cells := 0, slots := 0, locals := 62 } : Room) (tP D dA ad v [.ref (ad 55), .int dg]) (tQi D dA ad (fun r v' => (Inv v' ∧ Kp (kp_X8_number_2 dg) v v' ∧ Rg r (-1) 99 ∧ v' 50 2 = v 50 2) ∧ (r, v') = f_X8_number_2 v dg)) 0 0 (tA ad) := by
  refine tMet (by decide) (Nat.le_of_ble_eq_true rfl) ?_
  intro p e s m below meth c ls X hr hlocks hw hl
  have X : CX p s m ([.ref (ad 55), .int dg] : List Value).toArray c c_X8_number N_X8 4 D dA := X
  have hx := X.1
  have hb := X.2.1
  have hS : va_S (tA ad) s.heap s.heap [] := va_S.rf
  have hl : lv_has ls 4 [(0, .ref (ad 55)), (1, .int dg)] := hl
  obtain ⟨g0, hg0⟩ : ∃ g, v 50 2 = g := ⟨_, rfl⟩
  have r_g0 : Rg g0 0 8 := by rw [← hg0]; exact hI 50 2 _ _ rfl
  obtain ⟨RR, eRR⟩ : ∃ z, f_X8_number_2 v dg = z := ⟨_, rfl⟩
  have LL : ∀ n : Nat, (∀ (y2 : Int32) (y3 : Int32) (v1 : tV) (H : Heap) (locs : List Loc) (ls : Array Slot), (2 - y3.toInt).toNat < n → Rg y2 (-1) 99 → Rg y3 0 2 → Inv v1 → Kp (kp_X8_number_2 dg) v v1 → v1 50 2 = g0 → (y3.toInt = 0 → y2.toInt ≤ 0) ∧ (y3.toInt = 1 → y2.toInt ≤ 9) → g_X8_number_2_4 dg n y2 y3 v1 = RR → tI D dA ad v1 H → va_S (tA ad) s.heap H locs → lv_has ls 4 [(0, .ref (ad 55)), (1, .int dg), (2, .int y2), (3, .int y3)] → W p l e ({ frames := 2, cells := 0, slots := 0, locals := 62 } : Room) s m ([.ref (ad 55), .int dg] : List Value).toArray below meth c H locs 0 0 (MQ below (tQi D dA ad (fun r v' => (Inv v' ∧ Kp (kp_X8_number_2 dg) v v' ∧ Rg r (-1) 99 ∧ v' 50 2 = v 50 2) ∧ (r, v') = f_X8_number_2 v dg)) ([.ref (ad 55), .int dg] : List Value).toArray s 0 0 (tA ad)) (F0 m 4 ls [])) := by
    intro n
    induction n with
    | zero => intros; omega
    | succ n ih =>
      have ih0 := ih
      intro y2 y3 v1 H locs ls hmu r_y2 r_y3 hI1 hK1 hfx0 hex hG hw hS hl
      have hG : b_X8_number_2_4 dg (g_X8_number_2_4 dg n) y2 y3 v1 = RR := hG
      unfold b_X8_number_2_4 at hG
      have hG := bnd_use hfx0.symm hG
      refine lv_iload_n hx hb d_X8_number_4 rfl (lv_at hl 3 rfl) ?_
      refine lv_iload_n hx hb d_X8_number_5 rfl (lv_at hl 1 rfl) ?_
      refine lv_icmp_ge (tgt := 77) hx hb d_X8_number_6 (by decide) (fun c1 => ?_) (fun c1 => ?_)
      · have f2 := i_le c1
        have r3 : Rg y3 2 2 := by obtain ⟨a1, a2⟩ := r_y3; obtain ⟨b1, b2⟩ := r_dg; have f := i_le c1; exact ⟨by omega, by omega⟩
        have hG := g_pos c1 hG
        refine lv_iload_n hx hb d_X8_number_77 rfl (lv_at hl 2 rfl) ?_
        exact r_iret X hr hlocks hw hS ⟨⟨hI1, hK1, r_y2, (hfx0.trans hg0.symm)⟩, hG.trans eRR.symm⟩ d_X8_number_78
      · have f4 := i_nle c1
        have r5 : Rg y3 0 1 := by obtain ⟨a1, a2⟩ := r_y3; obtain ⟨b1, b2⟩ := r_dg; have f := i_nle c1; exact ⟨by omega, by omega⟩
        have hG := g_neg c1 hG
        refine lv_aload_n hx hb d_X8_number_9 rfl (lv_at hl 0 rfl) ?_
        refine r_geti X hw FL_X8_19 (rfl : KD 55 = _) rfl d_X8_number_10 ?_
        refine lv_topi (fun x6 ex6 => ?_)
        have hG := bnd_use ex6 hG
        have r7 : Rg x6 0 120 := by rw [ex6]; exact hI1 _ _ _ _ rfl
        have hm8 : v1 55 2 = x6 := ex6.symm
        refine lv_aload_n hx hb d_X8_number_13 rfl (lv_at hl 0 rfl) ?_
        refine r_geti X hw FL_X8_15 (rfl : KD 55 = _) rfl d_X8_number_14 ?_
        refine lv_topi (fun x9 ex9 => ?_)
        have hG := bnd_use ex9 hG
        have r10 : Rg x9 0 120 := by rw [ex9]; exact hI1 _ _ _ _ rfl
        have hm11 : v1 55 1 = x9 := ex9.symm
        refine lv_icmp_ge (tgt := 77) hx hb d_X8_number_17 (by decide) (fun c12 => ?_) (fun c12 => ?_)
        · have f13 := i_le c12
          have hG := g_pos c12 hG
          refine lv_iload_n hx hb d_X8_number_77 rfl (lv_at hl 2 rfl) ?_
          exact r_iret X hr hlocks hw hS ⟨⟨hI1, hK1, r_y2, (hfx0.trans hg0.symm)⟩, hG.trans eRR.symm⟩ d_X8_number_78
        · have f14 := i_nle c12
          have r15 : Rg x6 0 119 := by obtain ⟨a1, a2⟩ := r7; obtain ⟨b1, b2⟩ := r10; have f := i_nle c12; exact ⟨by omega, by omega⟩
          have r16 : Rg x9 1 120 := by obtain ⟨a1, a2⟩ := r7; obtain ⟨b1, b2⟩ := r10; have f := i_nle c12; exact ⟨by omega, by omega⟩
          have hG := g_neg c12 hG
          refine lv_aload_n hx hb d_X8_number_20 rfl (lv_at hl 0 rfl) ?_
          refine r_getr (r := 56) X hw FL_X8_9 (rfl : KD 55 = _) rfl d_X8_number_21 ?_
          refine lv_aload_n hx hb d_X8_number_24 rfl (lv_at hl 0 rfl) ?_
          refine r_geti X hw FL_X8_19 (rfl : KD 55 = _) rfl d_X8_number_25 ?_
          refine lv_seti hm8 ?_
          refine r_iald X hw (rfl : KD 56 = _) (Rg.vp (b := 119) r15 (by decide)) rfl d_X8_number_28 ?_
          refine lv_topi (fun x17 ex17 => ?_)
          have hG := bnd_use ex17 hG
          have hm18 : v1 56 x6.toNatClampNeg = x17 := ex17.symm
          refine lv_bipush (v := 48) hx hb d_X8_number_29 (by decide) ?_
          refine lv_bipush (v := 57) hx hb d_X8_number_31 (by decide) ?_
          refine r_ci (r_runSN (n := 3) (As := [.int x17, .int 48, .int 57]) (rest := []) X hw (ct_X10_within l D dA ad v1 hI1 x17 48 57) gn_X8_90 gc_X8_90 (by decide +kernel) ⟨rfl, rfl, Nat.le_of_ble_eq_true rfl, Nat.le_of_ble_eq_true rfl⟩ rfl hl.1 rfl (Nat.le_of_ble_eq_true rfl) ⟨Nat.zero_le _, Nat.zero_le _⟩ d_X8_number_33) hS (fun x20 v21 H locs hp19 hw hS => ?_)
          obtain ⟨ev21, hp19⟩ := hp19
          rw [ev21] at hw
          rcases hp19 with ⟨rfl, w22a, w22b⟩ | ⟨rfl, w22n⟩
          · skip
            have hG := g_pos ⟨w22a, w22b⟩ hG
            have r23 : Rg x17 48 57 := by obtain ⟨_, _⟩ := (rg_any x17); have : (48 : Int32).toInt = 48 := rfl; have : (57 : Int32).toInt = 57 := rfl; exact ⟨by omega, by omega⟩
            refine lv_if_eq (tgt := 77) hx hb d_X8_number_36 (by decide) (fun c24 => ?_) (fun c24 => ?_)
            · exact absurd c24 (by decide)
            · have r25 : Rg y2 (-1) 9 := by obtain ⟨_, _⟩ := r_y2; obtain ⟨_, _⟩ := r5; exact ⟨by omega, by omega⟩
              refine lv_iload_n hx hb d_X8_number_39 rfl (lv_at hl 2 rfl) ?_
              refine lv_iconst (v := 0) hx hb d_X8_number_40 (by decide) ?_
              refine va_mmax hx hb (X.2.2.1.trans hl.1.symm) X.2.2.2.1 (X.2.2.2.2.1 _ ml_X8_94) (X.2.2.2.2.1 _ ml_maxs) (X.2.2.2.2.1 _ ml_mi) (X.2.2.2.2.1 _ ml_maxc) (Nat.le_of_ble_eq_true rfl) (Nat.le_of_ble_eq_true rfl) (Nat.zero_le _) (Nat.zero_le _) d_X8_number_41 ?_
              refine lv_topi (fun x26 ex26 => ?_)
              have hG := bnd_use ex26 hG
              have hmx : x26.toInt = y2.toInt ∨ (x26.toInt = (0 : Int32).toInt ∧ y2.toInt < (0 : Int32).toInt) := by rw [ex26]; split <;> first | exact Or.inr ⟨rfl, i_lt (by assumption)⟩ | exact Or.inl rfl
              have r27 : Rg x26 0 9 := by obtain ⟨a1, a2⟩ := r25; obtain ⟨b1, b2⟩ := (⟨by decide, by decide⟩ : Rg 0 0 0); rw [ex26]; split <;> rename_i q <;> first | (have := i_lt q; exact ⟨by omega, by omega⟩) | (have := i_nlt q; exact ⟨by omega, by omega⟩)
              refine lv_bipush (v := 10) hx hb d_X8_number_44 (by decide) ?_
              refine lv_imul hx hb d_X8_number_46 ?_
              refine lv_topi (fun x28 ex28 => ?_)
              have hG := bnd_use ex28 hG
              have r29 : Rg x28 0 90 := rg_mulc (ex28.trans (Int32.mul_comm _ _)) (⟨by decide, by decide⟩ : Rg 10 10 10) r27 (by decide) (by decide) (by decide)
              have s30 : x28.toInt = 10 * x26.toInt := rg_mule (ex28.trans (Int32.mul_comm _ _)) r27 rfl (by decide) (by decide)
              refine lv_aload_n hx hb d_X8_number_47 rfl (lv_at hl 0 rfl) ?_
              refine r_getr (r := 56) X hw FL_X8_9 (rfl : KD 55 = _) rfl d_X8_number_48 ?_
              refine lv_aload_n hx hb d_X8_number_51 rfl (lv_at hl 0 rfl) ?_
              refine r_geti X hw FL_X8_19 (rfl : KD 55 = _) rfl d_X8_number_52 ?_
              refine lv_seti hm8 ?_
              refine r_iald X hw (rfl : KD 56 = _) (Rg.vp (b := 119) r15 (by decide)) rfl d_X8_number_55 ?_
              refine lv_seti hm18 ?_
              refine lv_iadd hx hb d_X8_number_56 ?_
              refine lv_topi (fun x31 ex31 => ?_)
              have hG := bnd_use ex31 hG
              have r32 : Rg x31 48 147 := rg_add ex31 r29 r23 (by decide) (by decide)
              have s33 : x31.toInt = x28.toInt + (x17 : Int32).toInt := by rw [ex31]; exact i_add (by obtain ⟨_, _⟩ := r29; obtain ⟨_, _⟩ := r23; omega) (by obtain ⟨_, _⟩ := r29; obtain ⟨_, _⟩ := r23; omega)
              refine lv_bipush (v := 48) hx hb d_X8_number_57 (by decide) ?_
              refine lv_isub hx hb d_X8_number_59 ?_
              refine lv_topi (fun x34 ex34 => ?_)
              have hG := bnd_use ex34 hG
              have r35 : Rg x34 0 99 := rg_sub ex34 r32 (⟨by decide, by decide⟩ : Rg 48 48 48) (by decide) (by decide)
              have s36 : x34.toInt = x31.toInt - (48 : Int32).toInt := by rw [ex34]; exact i_sub (by obtain ⟨_, _⟩ := r32; obtain ⟨_, _⟩ := (⟨by decide, by decide⟩ : Rg 48 48 48); omega) (by obtain ⟨_, _⟩ := r32; obtain ⟨_, _⟩ := (⟨by decide, by decide⟩ : Rg 48 48 48); omega)
              have s36l : (48 : Int32).toInt = 48 := rfl
              refine lv_istore_n (lv' := [(2, .int x34), (0, .ref (ad 55)), (1, .int dg), (3, .int y3)]) hx hb d_X8_number_60 rfl hl (by decide) rfl (fun ls hl => ?_)
              refine lv_aload_n hx hb d_X8_number_61 rfl (lv_at hl 1 rfl) ?_
              refine lv_dup hx hb d_X8_number_62 rfl ?_
              refine r_geti X hw FL_X8_19 (rfl : KD 55 = _) rfl d_X8_number_63 ?_
              refine lv_seti hm8 ?_
              refine lv_iconst (v := 1) hx hb d_X8_number_66 (by decide) ?_
              refine lv_iadd hx hb d_X8_number_67 ?_
              refine lv_topi (fun x37 ex37 => ?_)
              have hG := bnd_use ex37 hG
              have r38 : Rg x37 1 120 := rg_add ex37 r15 (⟨by decide, by decide⟩ : Rg 1 1 1) (by decide) (by decide)
              have s39 : x37.toInt = x6.toInt + (1 : Int32).toInt := by rw [ex37]; exact i_add (by obtain ⟨_, _⟩ := r15; obtain ⟨_, _⟩ := (⟨by decide, by decide⟩ : Rg 1 1 1); omega) (by obtain ⟨_, _⟩ := r15; obtain ⟨_, _⟩ := (⟨by decide, by decide⟩ : Rg 1 1 1); omega)
              have s39l : (1 : Int32).toInt = 1 := rfl
              refine r_put X hw hS FP_X8_19 (rfl : KD 55 = _) rfl ⟨rfl, rfl⟩ d_X8_number_68 (fun H locs hw hS => ?_)
              obtain ⟨v40, ev40⟩ : ∃ z, z = up2 v1 55 2 x37 := ⟨_, rfl⟩
              rw [← ev40] at hw
              have hG := bnd_use ev40 hG
              have hI41 : Inv v40 := by rw [ev40]; exact Inv.putr hI1 rfl (rg_w r38 (by decide) (by decide))
              have hK42 : Kp (kp_X8_number_2 dg) v v40 := by rw [ev40]; exact Kp.put hK1 _ (by unfold kp_X8_number_2; omega)
              have hm43 : v40 50 2 = g0 := by rw [ev40, up2_n _ _ (by omega)]; exact hfx0
              have hm44 : v40 55 1 = x9 := by rw [ev40, up2_n _ _ (by omega)]; exact hm11
              have hm45 : v40 56 x6.toNatClampNeg = x17 := by rw [ev40, up2_n _ _ (by omega)]; exact hm18
              have hm46 : v40 55 2 = x37 := by rw [ev40, up2_s]
              obtain ⟨x47, ex47⟩ : ∃ y : Int32, y = y3 + 1 := ⟨_, rfl⟩
              have hG := bnd_use ex47 hG
              refine lv_iinc (v := x47) (lv' := [(3, .int x47), (2, .int x34), (0, .ref (ad 55)), (1, .int dg)]) hx hb d_X8_number_71 hl (k := 3) rfl (by rw [ex47]; rfl) (by decide) rfl (fun ls hl => ?_)
              have r48 : Rg x47 1 2 := rg_add ex47 r5 (⟨by decide, by decide⟩ : Rg 1 1 1) (by decide) (by decide)
              have s49 : x47.toInt = y3.toInt + (1 : Int32).toInt := by rw [ex47]; exact i_add (by obtain ⟨_, _⟩ := r5; obtain ⟨_, _⟩ := (⟨by decide, by decide⟩ : Rg 1 1 1); omega) (by obtain ⟨_, _⟩ := r5; obtain ⟨_, _⟩ := (⟨by decide, by decide⟩ : Rg 1 1 1); omega)
              have s49l : (1 : Int32).toInt = 1 := rfl
              refine lv_goto (tgt := 4) hx hb d_X8_number_74 (by decide) ?_
              exact ih0 x34 x47 v40 _ _ _ (by have q_ := r_dg; obtain ⟨_, _⟩ := q_; have q_ := r_g0; obtain ⟨_, _⟩ := q_; have q_ := r25; obtain ⟨_, _⟩ := q_; have q_ := r5; obtain ⟨_, _⟩ := q_; have q_ := r15; obtain ⟨_, _⟩ := q_; have q_ := r16; obtain ⟨_, _⟩ := q_; have q_ := r23; obtain ⟨_, _⟩ := q_; have q_ := r27; obtain ⟨_, _⟩ := q_; have q_ := r29; obtain ⟨_, _⟩ := q_; have q_ := r32; obtain ⟨_, _⟩ := q_; have q_ := r35; obtain ⟨_, _⟩ := q_; have q_ := r38; obtain ⟨_, _⟩ := q_; have q_ := r48; obtain ⟨_, _⟩ := q_; omega) (rg_w r35 (by decide) (by decide)) (rg_w r48 (by decide) (by decide)) hI41 hK42 hm43 (by have q_ := r_dg; obtain ⟨_, _⟩ := q_; have q_ := r_g0; obtain ⟨_, _⟩ := q_; have q_ := r25; obtain ⟨_, _⟩ := q_; have q_ := r5; obtain ⟨_, _⟩ := q_; have q_ := r15; obtain ⟨_, _⟩ := q_; have q_ := r16; obtain ⟨_, _⟩ := q_; have q_ := r23; obtain ⟨_, _⟩ := q_; have q_ := r27; obtain ⟨_, _⟩ := q_; have q_ := r29; obtain ⟨_, _⟩ := q_; have q_ := r32; obtain ⟨_, _⟩ := q_; have q_ := r35; obtain ⟨_, _⟩ := q_; have q_ := r38; obtain ⟨_, _⟩ := q_; have q_ := r48; obtain ⟨_, _⟩ := q_; have z0 : (0 : Int32).toInt = 0 := rfl; have z1 : (-1 : Int32).toInt = -1 := rfl; refine ⟨fun _ => ?_, fun _ => ?_⟩ <;> omega) hG hw hS (lv_sub hl [2, 3, 1, 0] rfl)
          · skip
            have hG := g_neg w22n hG
            refine lv_if_eq (tgt := 77) hx hb d_X8_number_36 (by decide) (fun c50 => ?_) (fun c50 => ?_)
            · refine lv_iload_n hx hb d_X8_number_77 rfl (lv_at hl 2 rfl) ?_
              exact r_iret X hr hlocks hw hS ⟨⟨hI1, hK1, r_y2, (hfx0.trans hg0.symm)⟩, hG.trans eRR.symm⟩ d_X8_number_78
            · exact absurd c50 (by decide)
  have ih0 := LL 100000
  have hK0 : Kp (kp_X8_number_2 dg) v v := Kp.rf _ v
  have hG := eRR
  unfold f_X8_number_2 at hG
  have hG := bnd_use hg0.symm hG
  refine lv_iconst (v := -1) hx hb d_X8_number_0 (by decide) ?_
  refine lv_istore_n (lv' := [(2, .int (-1)), (0, .ref (ad 55)), (1, .int dg)]) hx hb d_X8_number_1 rfl hl (by decide) rfl (fun ls hl => ?_)
  refine lv_iconst (v := 0) hx hb d_X8_number_2 (by decide) ?_
  refine lv_istore_n (lv' := [(3, .int 0), (2, .int (-1)), (0, .ref (ad 55)), (1, .int dg)]) hx hb d_X8_number_3 rfl hl (by decide) rfl (fun ls hl => ?_)
  exact ih0 (-1) 0 v _ _ _ (by have q_ := r_dg; obtain ⟨_, _⟩ := q_; have q_ := r_g0; obtain ⟨_, _⟩ := q_; have q_ : (-1 : Int32).toInt = (-1) := rfl; have q_ : (0 : Int32).toInt = 0 := rfl; omega) (rg_w (⟨by decide, by decide⟩ : Rg (-1) (-1) (-1)) (by decide) (by decide)) (rg_w (⟨by decide, by decide⟩ : Rg 0 0 0) (by decide) (by decide)) hI hK0 hg0 (by have q_ := r_dg; obtain ⟨_, _⟩ := q_; have q_ := r_g0; obtain ⟨_, _⟩ := q_; have z0 : (0 : Int32).toInt = 0 := rfl; have z1 : (-1 : Int32).toInt = -1 := rfl; refine ⟨fun _ => ?_, fun _ => ?_⟩ <;> omega) hG hw hS (lv_sub hl [2, 3, 1, 0] rfl)
def kp_X8_number_3 (dg : Int32) (a j : Nat) : Prop := a ≠ 55
def b_X8_number_3_4 (dg : Int32) (rc4 : Int32 → Int32 → tV → Int32 × tV) (y2 : Int32) (y3 : Int32) (v1 : tV) : Int32 × tV := bnd (v1 50 2) fun g0 => (if dg ≤ y3 then (y2, v1) else bnd (v1 55 2) fun x6 => bnd (v1 55 1) fun x9 => (if x9 ≤ x6 then (y2, v1) else bnd (v1 56 x6.toNatClampNeg) fun x17 => (if (48 : Int32).toInt ≤ x17.toInt ∧ x17.toInt ≤ (57 : Int32).toInt then bnd (if y2 < (0 : Int32) then (0 : Int32) else y2) fun x26 => bnd (x26 * (10 : Int32)) fun x28 => bnd (x28 + x17) fun x31 => bnd (x31 - (48 : Int32)) fun x34 => bnd (x6 + (1 : Int32)) fun x37 => bnd (up2 v1 55 2 x37) fun v40 => bnd (y3 + 1) fun x47 => rc4 x34 x47 v40 else (y2, v1))))
def g_X8_number_3_4 (dg : Int32) : Nat → Int32 → Int32 → tV → Int32 × tV
  | 0, _, _, v1 => (0, v1)
  | n + 1, y2, y3, v1 => b_X8_number_3_4 dg (g_X8_number_3_4 dg n) y2 y3 v1
def f_X8_number_3 (v : tV) (dg : Int32) : Int32 × tV := bnd (v 50 2) fun g0 => g_X8_number_3_4 dg 100000 (-1) 0 v
set_option maxHeartbeats 4000000 in
set_option maxRecDepth 100000 in
theorem ct_X8_number_3 (l : Launch) (D : va_G) (dA : Nat → ClassId) (ad : Nat → Nat) (v : tV) (hI : Inv v) (dg : Int32) (r_dg : Rg dg 3 3) : Met l m_X8_number [.code m_X8_number c_X8_number 4 (some .int)] ({ frames := 2, cells := 0, slots := 0, locals := 62 } : Room) (tP D dA ad v [.ref (ad 55), .int dg]) (tQi D dA ad (fun r v' => (Inv v' ∧ Kp (kp_X8_number_3 dg) v v' ∧ Rg r (-1) 999 ∧ v' 50 2 = v 50 2) ∧ (r, v') = f_X8_number_3 v dg)) 0 0 (tA ad) := by
  refine tMet (by decide) (Nat.le_of_ble_eq_true rfl) ?_
  intro p e s m below meth c ls X hr hlocks hw hl
  have X : CX p s m ([.ref (ad 55), .int dg] : List Value).toArray c c_X8_number N_X8 4 D dA := X
  have hx := X.1
  have hb := X.2.1
  have hS : va_S (tA ad) s.heap s.heap [] := va_S.rf
  have hl : lv_has ls 4 [(0, .ref (ad 55)), (1, .int dg)] := hl
  obtain ⟨g0, hg0⟩ : ∃ g, v 50 2 = g := ⟨_, rfl⟩
  have r_g0 : Rg g0 0 8 := by rw [← hg0]; exact hI 50 2 _ _ rfl
  obtain ⟨RR, eRR⟩ : ∃ z, f_X8_number_3 v dg = z := ⟨_, rfl⟩
  have LL : ∀ n : Nat, (∀ (y2 : Int32) (y3 : Int32) (v1 : tV) (H : Heap) (locs : List Loc) (ls : Array Slot), (3 - y3.toInt).toNat < n → Rg y2 (-1) 999 → Rg y3 0 3 → Inv v1 → Kp (kp_X8_number_3 dg) v v1 → v1 50 2 = g0 → (y3.toInt = 0 → y2.toInt ≤ 0) ∧ (y3.toInt = 1 → y2.toInt ≤ 9) ∧ (y3.toInt = 2 → y2.toInt ≤ 99) → g_X8_number_3_4 dg n y2 y3 v1 = RR → tI D dA ad v1 H → va_S (tA ad) s.heap H locs → lv_has ls 4 [(0, .ref (ad 55)), (1, .int dg), (2, .int y2), (3, .int y3)] → W p l e ({ frames := 2, cells := 0, slots := 0, locals := 62 } : Room) s m ([.ref (ad 55), .int dg] : List Value).toArray below meth c H locs 0 0 (MQ below (tQi D dA ad (fun r v' => (Inv v' ∧ Kp (kp_X8_number_3 dg) v v' ∧ Rg r (-1) 999 ∧ v' 50 2 = v 50 2) ∧ (r, v') = f_X8_number_3 v dg)) ([.ref (ad 55), .int dg] : List Value).toArray s 0 0 (tA ad)) (F0 m 4 ls [])) := by
    intro n
    induction n with
    | zero => intros; omega
    | succ n ih =>
      have ih0 := ih
      intro y2 y3 v1 H locs ls hmu r_y2 r_y3 hI1 hK1 hfx0 hex hG hw hS hl
      have hG : b_X8_number_3_4 dg (g_X8_number_3_4 dg n) y2 y3 v1 = RR := hG
      unfold b_X8_number_3_4 at hG
      have hG := bnd_use hfx0.symm hG
      refine lv_iload_n hx hb d_X8_number_4 rfl (lv_at hl 3 rfl) ?_
      refine lv_iload_n hx hb d_X8_number_5 rfl (lv_at hl 1 rfl) ?_
      refine lv_icmp_ge (tgt := 77) hx hb d_X8_number_6 (by decide) (fun c1 => ?_) (fun c1 => ?_)
      · have f2 := i_le c1
        have r3 : Rg y3 3 3 := by obtain ⟨a1, a2⟩ := r_y3; obtain ⟨b1, b2⟩ := r_dg; have f := i_le c1; exact ⟨by omega, by omega⟩
        have hG := g_pos c1 hG
        refine lv_iload_n hx hb d_X8_number_77 rfl (lv_at hl 2 rfl) ?_
        exact r_iret X hr hlocks hw hS ⟨⟨hI1, hK1, r_y2, (hfx0.trans hg0.symm)⟩, hG.trans eRR.symm⟩ d_X8_number_78
      · have f4 := i_nle c1
        have r5 : Rg y3 0 2 := by obtain ⟨a1, a2⟩ := r_y3; obtain ⟨b1, b2⟩ := r_dg; have f := i_nle c1; exact ⟨by omega, by omega⟩
        have hG := g_neg c1 hG
        refine lv_aload_n hx hb d_X8_number_9 rfl (lv_at hl 0 rfl) ?_
        refine r_geti X hw FL_X8_19 (rfl : KD 55 = _) rfl d_X8_number_10 ?_
        refine lv_topi (fun x6 ex6 => ?_)
        have hG := bnd_use ex6 hG
        have r7 : Rg x6 0 120 := by rw [ex6]; exact hI1 _ _ _ _ rfl
        have hm8 : v1 55 2 = x6 := ex6.symm
        refine lv_aload_n hx hb d_X8_number_13 rfl (lv_at hl 0 rfl) ?_
        refine r_geti X hw FL_X8_15 (rfl : KD 55 = _) rfl d_X8_number_14 ?_
        refine lv_topi (fun x9 ex9 => ?_)
        have hG := bnd_use ex9 hG
        have r10 : Rg x9 0 120 := by rw [ex9]; exact hI1 _ _ _ _ rfl
        have hm11 : v1 55 1 = x9 := ex9.symm
        refine lv_icmp_ge (tgt := 77) hx hb d_X8_number_17 (by decide) (fun c12 => ?_) (fun c12 => ?_)
        · have f13 := i_le c12
          have hG := g_pos c12 hG
          refine lv_iload_n hx hb d_X8_number_77 rfl (lv_at hl 2 rfl) ?_
          exact r_iret X hr hlocks hw hS ⟨⟨hI1, hK1, r_y2, (hfx0.trans hg0.symm)⟩, hG.trans eRR.symm⟩ d_X8_number_78
        · have f14 := i_nle c12
          have r15 : Rg x6 0 119 := by obtain ⟨a1, a2⟩ := r7; obtain ⟨b1, b2⟩ := r10; have f := i_nle c12; exact ⟨by omega, by omega⟩
          have r16 : Rg x9 1 120 := by obtain ⟨a1, a2⟩ := r7; obtain ⟨b1, b2⟩ := r10; have f := i_nle c12; exact ⟨by omega, by omega⟩
          have hG := g_neg c12 hG
          refine lv_aload_n hx hb d_X8_number_20 rfl (lv_at hl 0 rfl) ?_
          refine r_getr (r := 56) X hw FL_X8_9 (rfl : KD 55 = _) rfl d_X8_number_21 ?_
          refine lv_aload_n hx hb d_X8_number_24 rfl (lv_at hl 0 rfl) ?_
          refine r_geti X hw FL_X8_19 (rfl : KD 55 = _) rfl d_X8_number_25 ?_
          refine lv_seti hm8 ?_
          refine r_iald X hw (rfl : KD 56 = _) (Rg.vp (b := 119) r15 (by decide)) rfl d_X8_number_28 ?_
          refine lv_topi (fun x17 ex17 => ?_)
          have hG := bnd_use ex17 hG
          have hm18 : v1 56 x6.toNatClampNeg = x17 := ex17.symm
          refine lv_bipush (v := 48) hx hb d_X8_number_29 (by decide) ?_
          refine lv_bipush (v := 57) hx hb d_X8_number_31 (by decide) ?_
          refine r_ci (r_runSN (n := 3) (As := [.int x17, .int 48, .int 57]) (rest := []) X hw (ct_X10_within l D dA ad v1 hI1 x17 48 57) gn_X8_90 gc_X8_90 (by decide +kernel) ⟨rfl, rfl, Nat.le_of_ble_eq_true rfl, Nat.le_of_ble_eq_true rfl⟩ rfl hl.1 rfl (Nat.le_of_ble_eq_true rfl) ⟨Nat.zero_le _, Nat.zero_le _⟩ d_X8_number_33) hS (fun x20 v21 H locs hp19 hw hS => ?_)
          obtain ⟨ev21, hp19⟩ := hp19
          rw [ev21] at hw
          rcases hp19 with ⟨rfl, w22a, w22b⟩ | ⟨rfl, w22n⟩
          · skip
            have hG := g_pos ⟨w22a, w22b⟩ hG
            have r23 : Rg x17 48 57 := by obtain ⟨_, _⟩ := (rg_any x17); have : (48 : Int32).toInt = 48 := rfl; have : (57 : Int32).toInt = 57 := rfl; exact ⟨by omega, by omega⟩
            refine lv_if_eq (tgt := 77) hx hb d_X8_number_36 (by decide) (fun c24 => ?_) (fun c24 => ?_)
            · exact absurd c24 (by decide)
            · have r25 : Rg y2 (-1) 99 := by obtain ⟨_, _⟩ := r_y2; obtain ⟨_, _⟩ := r5; exact ⟨by omega, by omega⟩
              refine lv_iload_n hx hb d_X8_number_39 rfl (lv_at hl 2 rfl) ?_
              refine lv_iconst (v := 0) hx hb d_X8_number_40 (by decide) ?_
              refine va_mmax hx hb (X.2.2.1.trans hl.1.symm) X.2.2.2.1 (X.2.2.2.2.1 _ ml_X8_94) (X.2.2.2.2.1 _ ml_maxs) (X.2.2.2.2.1 _ ml_mi) (X.2.2.2.2.1 _ ml_maxc) (Nat.le_of_ble_eq_true rfl) (Nat.le_of_ble_eq_true rfl) (Nat.zero_le _) (Nat.zero_le _) d_X8_number_41 ?_
              refine lv_topi (fun x26 ex26 => ?_)
              have hG := bnd_use ex26 hG
              have hmx : x26.toInt = y2.toInt ∨ (x26.toInt = (0 : Int32).toInt ∧ y2.toInt < (0 : Int32).toInt) := by rw [ex26]; split <;> first | exact Or.inr ⟨rfl, i_lt (by assumption)⟩ | exact Or.inl rfl
              have r27 : Rg x26 0 99 := by obtain ⟨a1, a2⟩ := r25; obtain ⟨b1, b2⟩ := (⟨by decide, by decide⟩ : Rg 0 0 0); rw [ex26]; split <;> rename_i q <;> first | (have := i_lt q; exact ⟨by omega, by omega⟩) | (have := i_nlt q; exact ⟨by omega, by omega⟩)
              refine lv_bipush (v := 10) hx hb d_X8_number_44 (by decide) ?_
              refine lv_imul hx hb d_X8_number_46 ?_
              refine lv_topi (fun x28 ex28 => ?_)
              have hG := bnd_use ex28 hG
              have r29 : Rg x28 0 990 := rg_mulc (ex28.trans (Int32.mul_comm _ _)) (⟨by decide, by decide⟩ : Rg 10 10 10) r27 (by decide) (by decide) (by decide)
              have s30 : x28.toInt = 10 * x26.toInt := rg_mule (ex28.trans (Int32.mul_comm _ _)) r27 rfl (by decide) (by decide)
              refine lv_aload_n hx hb d_X8_number_47 rfl (lv_at hl 0 rfl) ?_
              refine r_getr (r := 56) X hw FL_X8_9 (rfl : KD 55 = _) rfl d_X8_number_48 ?_
              refine lv_aload_n hx hb d_X8_number_51 rfl (lv_at hl 0 rfl) ?_
              refine r_geti X hw FL_X8_19 (rfl : KD 55 = _) rfl d_X8_number_52 ?_
              refine lv_seti hm8 ?_
              refine r_iald X hw (rfl : KD 56 = _) (Rg.vp (b := 119) r15 (by decide)) rfl d_X8_number_55 ?_
              refine lv_seti hm18 ?_
              refine lv_iadd hx hb d_X8_number_56 ?_
              refine lv_topi (fun x31 ex31 => ?_)
              have hG := bnd_use ex31 hG
              have r32 : Rg x31 48 1047 := rg_add ex31 r29 r23 (by decide) (by decide)
              have s33 : x31.toInt = x28.toInt + (x17 : Int32).toInt := by rw [ex31]; exact i_add (by obtain ⟨_, _⟩ := r29; obtain ⟨_, _⟩ := r23; omega) (by obtain ⟨_, _⟩ := r29; obtain ⟨_, _⟩ := r23; omega)
              refine lv_bipush (v := 48) hx hb d_X8_number_57 (by decide) ?_
              refine lv_isub hx hb d_X8_number_59 ?_
              refine lv_topi (fun x34 ex34 => ?_)
              have hG := bnd_use ex34 hG
              have r35 : Rg x34 0 999 := rg_sub ex34 r32 (⟨by decide, by decide⟩ : Rg 48 48 48) (by decide) (by decide)
              have s36 : x34.toInt = x31.toInt - (48 : Int32).toInt := by rw [ex34]; exact i_sub (by obtain ⟨_, _⟩ := r32; obtain ⟨_, _⟩ := (⟨by decide, by decide⟩ : Rg 48 48 48); omega) (by obtain ⟨_, _⟩ := r32; obtain ⟨_, _⟩ := (⟨by decide, by decide⟩ : Rg 48 48 48); omega)
              have s36l : (48 : Int32).toInt = 48 := rfl
              refine lv_istore_n (lv' := [(2, .int x34), (0, .ref (ad 55)), (1, .int dg), (3, .int y3)]) hx hb d_X8_number_60 rfl hl (by decide) rfl (fun ls hl => ?_)
              refine lv_aload_n hx hb d_X8_number_61 rfl (lv_at hl 1 rfl) ?_
              refine lv_dup hx hb d_X8_number_62 rfl ?_
              refine r_geti X hw FL_X8_19 (rfl : KD 55 = _) rfl d_X8_number_63 ?_
              refine lv_seti hm8 ?_
              refine lv_iconst (v := 1) hx hb d_X8_number_66 (by decide) ?_
              refine lv_iadd hx hb d_X8_number_67 ?_
              refine lv_topi (fun x37 ex37 => ?_)
              have hG := bnd_use ex37 hG
              have r38 : Rg x37 1 120 := rg_add ex37 r15 (⟨by decide, by decide⟩ : Rg 1 1 1) (by decide) (by decide)
              have s39 : x37.toInt = x6.toInt + (1 : Int32).toInt := by rw [ex37]; exact i_add (by obtain ⟨_, _⟩ := r15; obtain ⟨_, _⟩ := (⟨by decide, by decide⟩ : Rg 1 1 1); omega) (by obtain ⟨_, _⟩ := r15; obtain ⟨_, _⟩ := (⟨by decide, by decide⟩ : Rg 1 1 1); omega)
              have s39l : (1 : Int32).toInt = 1 := rfl
              refine r_put X hw hS FP_X8_19 (rfl : KD 55 = _) rfl ⟨rfl, rfl⟩ d_X8_number_68 (fun H locs hw hS => ?_)
              obtain ⟨v40, ev40⟩ : ∃ z, z = up2 v1 55 2 x37 := ⟨_, rfl⟩
              rw [← ev40] at hw
              have hG := bnd_use ev40 hG
              have hI41 : Inv v40 := by rw [ev40]; exact Inv.putr hI1 rfl (rg_w r38 (by decide) (by decide))
              have hK42 : Kp (kp_X8_number_3 dg) v v40 := by rw [ev40]; exact Kp.put hK1 _ (by unfold kp_X8_number_3; omega)
              have hm43 : v40 50 2 = g0 := by rw [ev40, up2_n _ _ (by omega)]; exact hfx0
              have hm44 : v40 55 1 = x9 := by rw [ev40, up2_n _ _ (by omega)]; exact hm11
              have hm45 : v40 56 x6.toNatClampNeg = x17 := by rw [ev40, up2_n _ _ (by omega)]; exact hm18
              have hm46 : v40 55 2 = x37 := by rw [ev40, up2_s]
              obtain ⟨x47, ex47⟩ : ∃ y : Int32, y = y3 + 1 := ⟨_, rfl⟩
              have hG := bnd_use ex47 hG
              refine lv_iinc (v := x47) (lv' := [(3, .int x47), (2, .int x34), (0, .ref (ad 55)), (1, .int dg)]) hx hb d_X8_number_71 hl (k := 3) rfl (by rw [ex47]; rfl) (by decide) rfl (fun ls hl => ?_)
              have r48 : Rg x47 1 3 := rg_add ex47 r5 (⟨by decide, by decide⟩ : Rg 1 1 1) (by decide) (by decide)
              have s49 : x47.toInt = y3.toInt + (1 : Int32).toInt := by rw [ex47]; exact i_add (by obtain ⟨_, _⟩ := r5; obtain ⟨_, _⟩ := (⟨by decide, by decide⟩ : Rg 1 1 1); omega) (by obtain ⟨_, _⟩ := r5; obtain ⟨_, _⟩ := (⟨by decide, by decide⟩ : Rg 1 1 1); omega)
              have s49l : (1 : Int32).toInt = 1 := rfl
              refine lv_goto (tgt := 4) hx hb d_X8_number_74 (by decide) ?_
              exact ih0 x34 x47 v40 _ _ _ (by have q_ := r_dg; obtain ⟨_, _⟩ := q_; have q_ := r_g0; obtain ⟨_, _⟩ := q_; have q_ := r25; obtain ⟨_, _⟩ := q_; have q_ := r5; obtain ⟨_, _⟩ := q_; have q_ := r15; obtain ⟨_, _⟩ := q_; have q_ := r16; obtain ⟨_, _⟩ := q_; have q_ := r23; obtain ⟨_, _⟩ := q_; have q_ := r27; obtain ⟨_, _⟩ := q_; have q_ := r29; obtain ⟨_, _⟩ := q_; have q_ := r32; obtain ⟨_, _⟩ := q_; have q_ := r35; obtain ⟨_, _⟩ := q_; have q_ := r38; obtain ⟨_, _⟩ := q_; have q_ := r48; obtain ⟨_, _⟩ := q_; omega) (rg_w r35 (by decide) (by decide)) (rg_w r48 (by decide) (by decide)) hI41 hK42 hm43 (by have q_ := r_dg; obtain ⟨_, _⟩ := q_; have q_ := r_g0; obtain ⟨_, _⟩ := q_; have q_ := r25; obtain ⟨_, _⟩ := q_; have q_ := r5; obtain ⟨_, _⟩ := q_; have q_ := r15; obtain ⟨_, _⟩ := q_; have q_ := r16; obtain ⟨_, _⟩ := q_; have q_ := r23; obtain ⟨_, _⟩ := q_; have q_ := r27; obtain ⟨_, _⟩ := q_; have q_ := r29; obtain ⟨_, _⟩ := q_; have q_ := r32; obtain ⟨_, _⟩ := q_; have q_ := r35; obtain ⟨_, _⟩ := q_; have q_ := r38; obtain ⟨_, _⟩ := q_; have q_ := r48; obtain ⟨_, _⟩ := q_; have z0 : (0 : Int32).toInt = 0 := rfl; have z1 : (-1 : Int32).toInt = -1 := rfl; refine ⟨fun _ => ?_, fun _ => ?_, fun _ => ?_⟩ <;> omega) hG hw hS (lv_sub hl [2, 3, 1, 0] rfl)
          · skip
            have hG := g_neg w22n hG
            refine lv_if_eq (tgt := 77) hx hb d_X8_number_36 (by decide) (fun c50 => ?_) (fun c50 => ?_)
            · refine lv_iload_n hx hb d_X8_number_77 rfl (lv_at hl 2 rfl) ?_
              exact r_iret X hr hlocks hw hS ⟨⟨hI1, hK1, r_y2, (hfx0.trans hg0.symm)⟩, hG.trans eRR.symm⟩ d_X8_number_78
            · exact absurd c50 (by decide)
  have ih0 := LL 100000
  have hK0 : Kp (kp_X8_number_3 dg) v v := Kp.rf _ v
  have hG := eRR
  unfold f_X8_number_3 at hG
  have hG := bnd_use hg0.symm hG
  refine lv_iconst (v := -1) hx hb d_X8_number_0 (by decide) ?_
  refine lv_istore_n (lv' := [(2, .int (-1)), (0, .ref (ad 55)), (1, .int dg)]) hx hb d_X8_number_1 rfl hl (by decide) rfl (fun ls hl => ?_)
  refine lv_iconst (v := 0) hx hb d_X8_number_2 (by decide) ?_
  refine lv_istore_n (lv' := [(3, .int 0), (2, .int (-1)), (0, .ref (ad 55)), (1, .int dg)]) hx hb d_X8_number_3 rfl hl (by decide) rfl (fun ls hl => ?_)
  exact ih0 (-1) 0 v _ _ _ (by have q_ := r_dg; obtain ⟨_, _⟩ := q_; have q_ := r_g0; obtain ⟨_, _⟩ := q_; have q_ : (-1 : Int32).toInt = (-1) := rfl; have q_ : (0 : Int32).toInt = 0 := rfl; omega) (rg_w (⟨by decide, by decide⟩ : Rg (-1) (-1) (-1)) (by decide) (by decide)) (rg_w (⟨by decide, by decide⟩ : Rg 0 0 0) (by decide) (by decide)) hI hK0 hg0 (by have q_ := r_dg; obtain ⟨_, _⟩ := q_; have q_ := r_g0; obtain ⟨_, _⟩ := q_; have z0 : (0 : Int32).toInt = 0 := rfl; have z1 : (-1 : Int32).toInt = -1 := rfl; refine ⟨fun _ => ?_, fun _ => ?_, fun _ => ?_⟩ <;> omega) hG hw hS (lv_sub hl [2, 3, 1, 0] rfl)
theorem d_X8_word_0 : decode c_X8_word 0 = .ok (.iconst 0, 1) := by decide +kernel
theorem d_X8_word_1 : decode c_X8_word 1 = .ok (.istore_n 2, 1) := by decide +kernel
theorem d_X8_word_2 : decode c_X8_word 2 = .ok (.iload_n 2, 1) := by decide +kernel
theorem d_X8_word_3 : decode c_X8_word 3 = .ok (.aload_n 1, 1) := by decide +kernel
theorem d_X8_word_4 : decode c_X8_word 4 = .ok (.invokevirtual 80, 3) := by decide +kernel
theorem d_X8_word_7 : decode c_X8_word 7 = .ok (.if_icmp .ge 49, 3) := by decide +kernel
theorem d_X8_word_10 : decode c_X8_word 10 = .ok (.aload_n 0, 1) := by decide +kernel
theorem d_X8_word_11 : decode c_X8_word 11 = .ok (.getfield 19, 3) := by decide +kernel
theorem d_X8_word_14 : decode c_X8_word 14 = .ok (.aload_n 0, 1) := by decide +kernel
theorem d_X8_word_15 : decode c_X8_word 15 = .ok (.getfield 15, 3) := by decide +kernel
theorem d_X8_word_18 : decode c_X8_word 18 = .ok (.if_icmp .ge 20, 3) := by decide +kernel
theorem d_X8_word_21 : decode c_X8_word 21 = .ok (.aload_n 0, 1) := by decide +kernel
theorem d_X8_word_22 : decode c_X8_word 22 = .ok (.getfield 9, 3) := by decide +kernel
theorem d_X8_word_25 : decode c_X8_word 25 = .ok (.aload_n 0, 1) := by decide +kernel
theorem d_X8_word_26 : decode c_X8_word 26 = .ok (.getfield 19, 3) := by decide +kernel
theorem d_X8_word_29 : decode c_X8_word 29 = .ok (.iaload, 1) := by decide +kernel
theorem d_X8_word_30 : decode c_X8_word 30 = .ok (.aload_n 1, 1) := by decide +kernel
theorem d_X8_word_31 : decode c_X8_word 31 = .ok (.iload_n 2, 1) := by decide +kernel
theorem d_X8_word_32 : decode c_X8_word 32 = .ok (.invokevirtual 86, 3) := by decide +kernel
theorem d_X8_word_35 : decode c_X8_word 35 = .ok (.if_icmp .eq 5, 3) := by decide +kernel
theorem d_X8_word_38 : decode c_X8_word 38 = .ok (.iconst 0, 1) := by decide +kernel
theorem d_X8_word_39 : decode c_X8_word 39 = .ok (.ireturn, 1) := by decide +kernel
theorem d_X8_word_40 : decode c_X8_word 40 = .ok (.aload_n 0, 1) := by decide +kernel
theorem d_X8_word_41 : decode c_X8_word 41 = .ok (.dup, 1) := by decide +kernel
theorem d_X8_word_42 : decode c_X8_word 42 = .ok (.getfield 19, 3) := by decide +kernel
theorem d_X8_word_45 : decode c_X8_word 45 = .ok (.iconst 1, 1) := by decide +kernel
theorem d_X8_word_46 : decode c_X8_word 46 = .ok (.iadd, 1) := by decide +kernel
theorem d_X8_word_47 : decode c_X8_word 47 = .ok (.putfield 19, 3) := by decide +kernel
theorem d_X8_word_50 : decode c_X8_word 50 = .ok (.iinc 2 1, 3) := by decide +kernel
theorem d_X8_word_53 : decode c_X8_word 53 = .ok (.goto (-51), 3) := by decide +kernel
theorem d_X8_word_56 : decode c_X8_word 56 = .ok (.iconst 1, 1) := by decide +kernel
theorem d_X8_word_57 : decode c_X8_word 57 = .ok (.ireturn, 1) := by decide +kernel
def kp_X8_word_55 (xx : Nat × String × Nat) (a j : Nat) : Prop := a ≠ 55
def b_X8_word_55_2 (xx : Nat × String × Nat) (rc2 : Int32 → tV → Int32 × tV) (y2 : Int32) (v1 : tV) : Int32 × tV := bnd (v1 50 2) fun g0 => bnd (Int32.ofNat xx.2.2) fun x1 => (if x1 ≤ y2 then ((1 : Int32), v1) else bnd (v1 55 2) fun x9 => bnd (v1 55 1) fun x12 => (if x12 ≤ x9 then ((0 : Int32), v1) else bnd (v1 56 x9.toNatClampNeg) fun x20 => bnd (CH xx.1 y2.toNatClampNeg) fun x21 => (if x20 = x21 then bnd (x9 + (1 : Int32)) fun x25 => bnd (up2 v1 55 2 x25) fun v28 => bnd (y2 + 1) fun x34 => rc2 x34 v28 else ((0 : Int32), v1))))
def g_X8_word_55_2 (xx : Nat × String × Nat) : Nat → Int32 → tV → Int32 × tV
  | 0, _, v1 => (0, v1)
  | n + 1, y2, v1 => b_X8_word_55_2 xx (g_X8_word_55_2 xx n) y2 v1
def f_X8_word_55 (v : tV) (xx : Nat × String × Nat) : Int32 × tV := bnd (v 50 2) fun g0 => g_X8_word_55_2 xx 100000 0 v
set_option maxHeartbeats 4000000 in
set_option maxRecDepth 100000 in
theorem ct_X8_word_55 (l : Launch) (D : va_G) (dA : Nat → ClassId) (ad : Nat → Nat) (sa : Nat → Nat) (v : tV) (hI : Inv v) (xx : Nat × String × Nat) (hxx : xx ∈ STAB) : Met l m_X8_word [.code m_X8_word c_X8_word 3 (some .boolean)] ({ frames := 5, cells := 0, slots := 0, locals := 131 } : Room) (tPs D dA ad sa v [.ref (ad 55), .ref (sa xx.1)]) (tQi D dA ad (fun r v' => (Inv v' ∧ Kp (kp_X8_word_55 xx) v v' ∧ Rg r 0 1 ∧ v' 50 2 = v 50 2) ∧ (r, v') = f_X8_word_55 v xx)) 0 0 (tA ad) := by
  refine tMets (by decide) (Nat.le_of_ble_eq_true rfl) ?_
  intro p e s m below meth c ls X hr hlocks hw hSC hl
  have X : CX p s m ([.ref (ad 55), .ref (sa xx.1)] : List Value).toArray c c_X8_word N_X8 3 D dA := X
  have hx := X.1
  have hb := X.2.1
  have hS : va_S (tA ad) s.heap s.heap [] := va_S.rf
  have hl : lv_has ls 3 [(0, .ref (ad 55)), (1, .ref (sa xx.1))] := hl
  obtain ⟨g0, hg0⟩ : ∃ g, v 50 2 = g := ⟨_, rfl⟩
  have r_g0 : Rg g0 0 8 := by rw [← hg0]; exact hI 50 2 _ _ rfl
  have hSO := (hSC.2 xx hxx).2
  obtain ⟨RR, eRR⟩ : ∃ z, f_X8_word_55 v xx = z := ⟨_, rfl⟩
  have LL : ∀ n : Nat, (∀ (y2 : Int32) (v1 : tV) (H : Heap) (locs : List Loc) (ls : Array Slot), (6 - y2.toInt).toNat < n → Rg y2 0 6 → Inv v1 → Kp (kp_X8_word_55 xx) v v1 → v1 50 2 = g0 → g_X8_word_55_2 xx n y2 v1 = RR → tI D dA ad v1 H → va_S (tA ad) s.heap H locs → lv_has ls 3 [(0, .ref (ad 55)), (1, .ref (sa xx.1)), (2, .int y2)] → W p l e ({ frames := 5, cells := 0, slots := 0, locals := 131 } : Room) s m ([.ref (ad 55), .ref (sa xx.1)] : List Value).toArray below meth c H locs 0 0 (MQ below (tQi D dA ad (fun r v' => (Inv v' ∧ Kp (kp_X8_word_55 xx) v v' ∧ Rg r 0 1 ∧ v' 50 2 = v 50 2) ∧ (r, v') = f_X8_word_55 v xx)) ([.ref (ad 55), .ref (sa xx.1)] : List Value).toArray s 0 0 (tA ad)) (F0 m 2 ls [])) := by
    intro n
    induction n with
    | zero => intros; omega
    | succ n ih =>
      have ih0 := ih
      intro y2 v1 H locs ls hmu r_y2 hI1 hK1 hfx0 hG hw hS hl
      have hG : b_X8_word_55_2 xx (g_X8_word_55_2 xx n) y2 v1 = RR := hG
      unfold b_X8_word_55_2 at hG
      have hG := bnd_use hfx0.symm hG
      refine lv_iload_n hx hb d_X8_word_2 rfl (lv_at hl 2 rfl) ?_
      refine lv_aload_n hx hb d_X8_word_3 rfl (lv_at hl 1 rfl) ?_
      refine j_ci (j_runV (n := 0) (As := []) (rest := [.int y2]) hx hb X.2.2.1 X.2.2.2.1 X.2.2.2.2.1 X.2.2.2.2.2.2 ((hSC.1.kept hS.2.1).ff) (ctj_J0_length l (sa xx.1) xx.2.2 (CH xx.1)) (JB_so _ _ _) ((hSO.kept hS.2.1).ff) ((hSO.kept hS.2.1).ff).1 gj_J0_length_80 (by decide +kernel) ⟨rfl, rfl, Nat.le_of_ble_eq_true rfl, Nat.le_of_ble_eq_true rfl⟩ rfl hl.1 rfl (Nat.le_of_ble_eq_true rfl) ⟨Nat.zero_le _, Nat.zero_le _⟩ d_X8_word_4) hS (fun x1 H locs hp2 hk hS => ?_)
      have hw := tI.same hk hw
      have hlen := hp2
      have hG := bnd_use hp2 hG
      have r3 : Rg x1 0 6 := rg_ofNat hp2 (st_le xx hxx)
      refine lv_icmp_ge (tgt := 56) hx hb d_X8_word_7 (by decide) (fun c4 => ?_) (fun c4 => ?_)
      · have f5 := i_le c4
        have hG := g_pos c4 hG
        refine lv_iconst (v := 1) hx hb d_X8_word_56 (by decide) ?_
        exact r_zret X hr hlocks hw hS rfl ⟨⟨hI1, hK1, (rg_w (⟨by decide, by decide⟩ : Rg 1 1 1) (by decide) (by decide)), (hfx0.trans hg0.symm)⟩, hG.trans eRR.symm⟩ d_X8_word_57
      · have f6 := i_nle c4
        have r7 : Rg y2 0 5 := by obtain ⟨a1, a2⟩ := r_y2; obtain ⟨b1, b2⟩ := r3; have f := i_nle c4; exact ⟨by omega, by omega⟩
        have r8 : Rg x1 1 6 := by obtain ⟨a1, a2⟩ := r_y2; obtain ⟨b1, b2⟩ := r3; have f := i_nle c4; exact ⟨by omega, by omega⟩
        have hG := g_neg c4 hG
        refine lv_aload_n hx hb d_X8_word_10 rfl (lv_at hl 0 rfl) ?_
        refine r_geti X hw FL_X8_19 (rfl : KD 55 = _) rfl d_X8_word_11 ?_
        refine lv_topi (fun x9 ex9 => ?_)
        have hG := bnd_use ex9 hG
        have r10 : Rg x9 0 120 := by rw [ex9]; exact hI1 _ _ _ _ rfl
        have hm11 : v1 55 2 = x9 := ex9.symm
        refine lv_aload_n hx hb d_X8_word_14 rfl (lv_at hl 0 rfl) ?_
        refine r_geti X hw FL_X8_15 (rfl : KD 55 = _) rfl d_X8_word_15 ?_
        refine lv_topi (fun x12 ex12 => ?_)
        have hG := bnd_use ex12 hG
        have r13 : Rg x12 0 120 := by rw [ex12]; exact hI1 _ _ _ _ rfl
        have hm14 : v1 55 1 = x12 := ex12.symm
        refine lv_icmp_ge (tgt := 38) hx hb d_X8_word_18 (by decide) (fun c15 => ?_) (fun c15 => ?_)
        · have f16 := i_le c15
          have hG := g_pos c15 hG
          refine lv_iconst (v := 0) hx hb d_X8_word_38 (by decide) ?_
          exact r_zret X hr hlocks hw hS rfl ⟨⟨hI1, hK1, (rg_w (⟨by decide, by decide⟩ : Rg 0 0 0) (by decide) (by decide)), (hfx0.trans hg0.symm)⟩, hG.trans eRR.symm⟩ d_X8_word_39
        · have f17 := i_nle c15
          have r18 : Rg x9 0 119 := by obtain ⟨a1, a2⟩ := r10; obtain ⟨b1, b2⟩ := r13; have f := i_nle c15; exact ⟨by omega, by omega⟩
          have r19 : Rg x12 1 120 := by obtain ⟨a1, a2⟩ := r10; obtain ⟨b1, b2⟩ := r13; have f := i_nle c15; exact ⟨by omega, by omega⟩
          have hG := g_neg c15 hG
          refine lv_aload_n hx hb d_X8_word_21 rfl (lv_at hl 0 rfl) ?_
          refine r_getr (r := 56) X hw FL_X8_9 (rfl : KD 55 = _) rfl d_X8_word_22 ?_
          refine lv_aload_n hx hb d_X8_word_25 rfl (lv_at hl 0 rfl) ?_
          refine r_geti X hw FL_X8_19 (rfl : KD 55 = _) rfl d_X8_word_26 ?_
          refine lv_seti hm11 ?_
          refine r_iald X hw (rfl : KD 56 = _) (Rg.vp (b := 119) r18 (by decide)) rfl d_X8_word_29 ?_
          refine lv_topi (fun x20 ex20 => ?_)
          have hG := bnd_use ex20 hG
          refine lv_aload_n hx hb d_X8_word_30 rfl (lv_at hl 1 rfl) ?_
          refine lv_iload_n hx hb d_X8_word_31 rfl (lv_at hl 2 rfl) ?_
          refine j_ci (j_runV (n := 1) (As := [.int y2]) (rest := [.int x20]) hx hb X.2.2.1 X.2.2.2.1 X.2.2.2.2.1 X.2.2.2.2.2.2 ((hSC.1.kept hS.2.1).ff) (ctj_J0_charAt l (sa xx.1) xx.2.2 (CH xx.1) y2 (vp_lt (by obtain ⟨_, _⟩ := r7; omega) (by omega) hlen (st_le xx hxx)) (Nat.lt_of_le_of_lt (st_le xx hxx) (by decide))) (JB_so _ _ _) ((hSO.kept hS.2.1).ff) ((hSO.kept hS.2.1).ff).1 gj_J0_charAt_86 (by decide +kernel) ⟨rfl, rfl, Nat.le_of_ble_eq_true rfl, Nat.le_of_ble_eq_true rfl⟩ rfl hl.1 rfl (Nat.le_of_ble_eq_true rfl) ⟨Nat.zero_le _, Nat.zero_le _⟩ d_X8_word_32) hS (fun x21 H locs hp22 hk hS => ?_)
          have hw := tI.same hk hw
          have hp22 := hp22.2.trans (ch_ok xx hxx _ (ch_lt (by obtain ⟨_, _⟩ := r7; omega) (by omega) hlen (st_le xx hxx)))
          have hG := bnd_use hp22 hG
          refine lv_icmp_eq (tgt := 40) hx hb d_X8_word_35 (by decide) (fun c23 => ?_) (fun c23 => ?_)
          · have f24 := i_eq c23
            have hG := g_pos c23 hG
            refine lv_aload_n hx hb d_X8_word_40 rfl (lv_at hl 0 rfl) ?_
            refine lv_dup hx hb d_X8_word_41 rfl ?_
            refine r_geti X hw FL_X8_19 (rfl : KD 55 = _) rfl d_X8_word_42 ?_
            refine lv_seti hm11 ?_
            refine lv_iconst (v := 1) hx hb d_X8_word_45 (by decide) ?_
            refine lv_iadd hx hb d_X8_word_46 ?_
            refine lv_topi (fun x25 ex25 => ?_)
            have hG := bnd_use ex25 hG
            have r26 : Rg x25 1 120 := rg_add ex25 r18 (⟨by decide, by decide⟩ : Rg 1 1 1) (by decide) (by decide)
            have s27 : x25.toInt = x9.toInt + (1 : Int32).toInt := by rw [ex25]; exact i_add (by obtain ⟨_, _⟩ := r18; obtain ⟨_, _⟩ := (⟨by decide, by decide⟩ : Rg 1 1 1); omega) (by obtain ⟨_, _⟩ := r18; obtain ⟨_, _⟩ := (⟨by decide, by decide⟩ : Rg 1 1 1); omega)
            have s27l : (1 : Int32).toInt = 1 := rfl
            refine r_put X hw hS FP_X8_19 (rfl : KD 55 = _) rfl ⟨rfl, rfl⟩ d_X8_word_47 (fun H locs hw hS => ?_)
            obtain ⟨v28, ev28⟩ : ∃ z, z = up2 v1 55 2 x25 := ⟨_, rfl⟩
            rw [← ev28] at hw
            have hG := bnd_use ev28 hG
            have hI29 : Inv v28 := by rw [ev28]; exact Inv.putr hI1 rfl (rg_w r26 (by decide) (by decide))
            have hK30 : Kp (kp_X8_word_55 xx) v v28 := by rw [ev28]; exact Kp.put hK1 _ (by unfold kp_X8_word_55; omega)
            have hm31 : v28 50 2 = g0 := by rw [ev28, up2_n _ _ (by omega)]; exact hfx0
            have hm32 : v28 55 1 = x12 := by rw [ev28, up2_n _ _ (by omega)]; exact hm14
            have hm33 : v28 55 2 = x25 := by rw [ev28, up2_s]
            obtain ⟨x34, ex34⟩ : ∃ y : Int32, y = y2 + 1 := ⟨_, rfl⟩
            have hG := bnd_use ex34 hG
            refine lv_iinc (v := x34) (lv' := [(2, .int x34), (0, .ref (ad 55)), (1, .ref (sa xx.1))]) hx hb d_X8_word_50 hl (k := 2) rfl (by rw [ex34]; rfl) (by decide) rfl (fun ls hl => ?_)
            have r35 : Rg x34 1 6 := rg_add ex34 r7 (⟨by decide, by decide⟩ : Rg 1 1 1) (by decide) (by decide)
            have s36 : x34.toInt = y2.toInt + (1 : Int32).toInt := by rw [ex34]; exact i_add (by obtain ⟨_, _⟩ := r7; obtain ⟨_, _⟩ := (⟨by decide, by decide⟩ : Rg 1 1 1); omega) (by obtain ⟨_, _⟩ := r7; obtain ⟨_, _⟩ := (⟨by decide, by decide⟩ : Rg 1 1 1); omega)
            have s36l : (1 : Int32).toInt = 1 := rfl
            refine lv_goto (tgt := 2) hx hb d_X8_word_53 (by decide) ?_
            exact ih0 x34 v28 _ _ _ (by have q_ := r_g0; obtain ⟨_, _⟩ := q_; have q_ := r7; obtain ⟨_, _⟩ := q_; have q_ := r8; obtain ⟨_, _⟩ := q_; have q_ := r18; obtain ⟨_, _⟩ := q_; have q_ := r19; obtain ⟨_, _⟩ := q_; have q_ := r26; obtain ⟨_, _⟩ := q_; have q_ := r35; obtain ⟨_, _⟩ := q_; omega) (rg_w r35 (by decide) (by decide)) hI29 hK30 hm31 hG hw hS (lv_sub hl [1, 2, 0] rfl)
          · have f37 := i_ne c23
            have hG := g_neg c23 hG
            refine lv_iconst (v := 0) hx hb d_X8_word_38 (by decide) ?_
            exact r_zret X hr hlocks hw hS rfl ⟨⟨hI1, hK1, (rg_w (⟨by decide, by decide⟩ : Rg 0 0 0) (by decide) (by decide)), (hfx0.trans hg0.symm)⟩, hG.trans eRR.symm⟩ d_X8_word_39
  have ih0 := LL 100000
  have hK0 : Kp (kp_X8_word_55 xx) v v := Kp.rf _ v
  have hG := eRR
  unfold f_X8_word_55 at hG
  have hG := bnd_use hg0.symm hG
  refine lv_iconst (v := 0) hx hb d_X8_word_0 (by decide) ?_
  refine lv_istore_n (lv' := [(2, .int 0), (0, .ref (ad 55)), (1, .ref (sa xx.1))]) hx hb d_X8_word_1 rfl hl (by decide) rfl (fun ls hl => ?_)
  exact ih0 0 v _ _ _ (by have q_ := r_g0; obtain ⟨_, _⟩ := q_; have q_ : (0 : Int32).toInt = 0 := rfl; omega) (rg_w (⟨by decide, by decide⟩ : Rg 0 0 0) (by decide) (by decide)) hI hK0 hg0 hG hw hS (lv_sub hl [1, 2, 0] rfl)
theorem d_X8_key_0 : decode c_X8_key 0 = .ok (.aload_n 0, 1) := by decide +kernel
theorem d_X8_key_1 : decode c_X8_key 1 = .ok (.ldc 41, 2) := by decide +kernel
theorem d_X8_key_3 : decode c_X8_key 3 = .ok (.invokevirtual 29, 3) := by decide +kernel
theorem d_X8_key_6 : decode c_X8_key 6 = .ok (.ifCond .eq 15, 3) := by decide +kernel
theorem d_X8_key_9 : decode c_X8_key 9 = .ok (.aload_n 1, 1) := by decide +kernel
theorem d_X8_key_10 : decode c_X8_key 10 = .ok (.iconst 1, 1) := by decide +kernel
theorem d_X8_key_11 : decode c_X8_key 11 = .ok (.putfield 43, 3) := by decide +kernel
theorem d_X8_key_14 : decode c_X8_key 14 = .ok (.aload_n 0, 1) := by decide +kernel
theorem d_X8_key_15 : decode c_X8_key 15 = .ok (.ldc 45, 2) := by decide +kernel
theorem d_X8_key_17 : decode c_X8_key 17 = .ok (.invokevirtual 29, 3) := by decide +kernel
theorem d_X8_key_20 : decode c_X8_key 20 = .ok (.ireturn, 1) := by decide +kernel
theorem d_X8_key_21 : decode c_X8_key 21 = .ok (.aload_n 0, 1) := by decide +kernel
theorem d_X8_key_22 : decode c_X8_key 22 = .ok (.ldc 47, 2) := by decide +kernel
theorem d_X8_key_24 : decode c_X8_key 24 = .ok (.invokevirtual 29, 3) := by decide +kernel
theorem d_X8_key_27 : decode c_X8_key 27 = .ok (.ifCond .eq 15, 3) := by decide +kernel
theorem d_X8_key_30 : decode c_X8_key 30 = .ok (.aload_n 1, 1) := by decide +kernel
theorem d_X8_key_31 : decode c_X8_key 31 = .ok (.iconst 0, 1) := by decide +kernel
theorem d_X8_key_32 : decode c_X8_key 32 = .ok (.putfield 43, 3) := by decide +kernel
theorem d_X8_key_35 : decode c_X8_key 35 = .ok (.aload_n 0, 1) := by decide +kernel
theorem d_X8_key_36 : decode c_X8_key 36 = .ok (.ldc 49, 2) := by decide +kernel
theorem d_X8_key_38 : decode c_X8_key 38 = .ok (.invokevirtual 29, 3) := by decide +kernel
theorem d_X8_key_41 : decode c_X8_key 41 = .ok (.ireturn, 1) := by decide +kernel
theorem d_X8_key_42 : decode c_X8_key 42 = .ok (.aload_n 0, 1) := by decide +kernel
theorem d_X8_key_43 : decode c_X8_key 43 = .ok (.ldc 51, 2) := by decide +kernel
theorem d_X8_key_45 : decode c_X8_key 45 = .ok (.invokevirtual 29, 3) := by decide +kernel
theorem d_X8_key_48 : decode c_X8_key 48 = .ok (.ifCond .ne 5, 3) := by decide +kernel
theorem d_X8_key_51 : decode c_X8_key 51 = .ok (.iconst 0, 1) := by decide +kernel
theorem d_X8_key_52 : decode c_X8_key 52 = .ok (.ireturn, 1) := by decide +kernel
theorem d_X8_key_53 : decode c_X8_key 53 = .ok (.aload_n 0, 1) := by decide +kernel
theorem d_X8_key_54 : decode c_X8_key 54 = .ok (.ldc 53, 2) := by decide +kernel
theorem d_X8_key_56 : decode c_X8_key 56 = .ok (.invokevirtual 29, 3) := by decide +kernel
theorem d_X8_key_59 : decode c_X8_key 59 = .ok (.ifCond .eq 10, 3) := by decide +kernel
theorem d_X8_key_62 : decode c_X8_key 62 = .ok (.aload_n 1, 1) := by decide +kernel
theorem d_X8_key_63 : decode c_X8_key 63 = .ok (.iconst 3, 1) := by decide +kernel
theorem d_X8_key_64 : decode c_X8_key 64 = .ok (.putfield 43, 3) := by decide +kernel
theorem d_X8_key_67 : decode c_X8_key 67 = .ok (.iconst 1, 1) := by decide +kernel
theorem d_X8_key_68 : decode c_X8_key 68 = .ok (.ireturn, 1) := by decide +kernel
theorem d_X8_key_69 : decode c_X8_key 69 = .ok (.aload_n 1, 1) := by decide +kernel
theorem d_X8_key_70 : decode c_X8_key 70 = .ok (.iconst 2, 1) := by decide +kernel
theorem d_X8_key_71 : decode c_X8_key 71 = .ok (.putfield 43, 3) := by decide +kernel
theorem d_X8_key_74 : decode c_X8_key 74 = .ok (.aload_n 0, 1) := by decide +kernel
theorem d_X8_key_75 : decode c_X8_key 75 = .ok (.ldc 55, 2) := by decide +kernel
theorem d_X8_key_77 : decode c_X8_key 77 = .ok (.invokevirtual 29, 3) := by decide +kernel
theorem d_X8_key_80 : decode c_X8_key 80 = .ok (.ireturn, 1) := by decide +kernel
def kp_X8_key_55 (k : Nat) (a j : Nat) : Prop := a ≠ 55 ∧ a ≠ k ∧ a ≠ k + 10 ∧ a ≠ k + 20 ∧ a ≠ k + 30
def f_X8_key_55 (v : tV) (k : Nat) : Int32 × tV := bnd (v 50 2) fun g0 => bnd2 (f_X8_word_55 v (41, "a", 1)) fun x2 v3 => (if x2 = (0 : Int32) then bnd2 (f_X8_word_55 v3 (47, "e", 1)) fun x14 v15 => (if x14 = (0 : Int32) then bnd2 (f_X8_word_55 v15 (51, "lo", 2)) fun x26 v27 => (if x26 = (0 : Int32) then ((0 : Int32), v27) else bnd2 (f_X8_word_55 v27 (53, "t", 1)) fun x38 v39 => (if x38 = (0 : Int32) then bnd (up2 v39 k 5 2) fun v49 => bnd2 (f_X8_word_55 v49 (55, "ad", 2)) fun x54 v55 => (x54, v55) else bnd (up2 v39 k 5 3) fun v64 => ((1 : Int32), v64))) else bnd (up2 v15 k 5 0) fun v72 => bnd2 (f_X8_word_55 v72 (49, "ntry", 4)) fun x77 v78 => (x77, v78)) else bnd (up2 v3 k 5 1) fun v87 => bnd2 (f_X8_word_55 v87 (45, "sk", 2)) fun x92 v93 => (x92, v93))
set_option maxHeartbeats 4000000 in
set_option maxRecDepth 100000 in
theorem ct_X8_key_55 (l : Launch) (D : va_G) (dA : Nat → ClassId) (ad : Nat → Nat) (sa : Nat → Nat) (v : tV) (hI : Inv v) (k : Nat) (ka : 60 ≤ k) (kb : k < 69) : Met l m_X8_key [.code m_X8_key c_X8_key 2 (some .boolean)] ({ frames := 6, cells := 0, slots := 0, locals := 153 } : Room) (tPs D dA ad sa v [.ref (ad 55), .ref (ad k)]) (tQi D dA ad (fun r v' => (Inv v' ∧ Kp (kp_X8_key_55 k) v v' ∧ Rg r 0 1 ∧ v' 50 2 = v 50 2) ∧ (r, v') = f_X8_key_55 v k)) 0 0 (tA ad) := by
  refine tMets (by decide) (Nat.le_of_ble_eq_true rfl) ?_
  intro p e s m below meth c ls X hr hlocks hw hSC hl
  have X : CX p s m ([.ref (ad 55), .ref (ad k)] : List Value).toArray c c_X8_key N_X8 2 D dA := X
  have hx := X.1
  have hb := X.2.1
  have hS : va_S (tA ad) s.heap s.heap [] := va_S.rf
  have hl : lv_has ls 2 [(0, .ref (ad 55)), (1, .ref (ad k))] := hl
  obtain ⟨g0, hg0⟩ : ∃ g, v 50 2 = g := ⟨_, rfl⟩
  have r_g0 : Rg g0 0 8 := by rw [← hg0]; exact hI 50 2 _ _ rfl
  obtain ⟨RR, eRR⟩ : ∃ z, f_X8_key_55 v k = z := ⟨_, rfl⟩
  have hK0 : Kp (kp_X8_key_55 k) v v := Kp.rf _ v
  have hG := eRR
  unfold f_X8_key_55 at hG
  have hG := bnd_use hg0.symm hG
  refine lv_aload_n hx hb d_X8_key_0 rfl (lv_at hl 0 rfl) ?_
  refine va_ldcS hx hb X.2.2.2.1 (hSC.2 (41, "a", 1) (by decide)).1 d_X8_key_1 ?_
  refine r_ci (r_runVs (n := 1) (As := [.ref (sa 41)]) (rest := []) X hw hSC hS (ct_X8_word_55 l D dA ad sa v hI (41, "a", 1) (by decide)) gc_X8_29 (rfl : KD 55 = _) (by decide) rfl (by decide +kernel) ⟨rfl, rfl, Nat.le_of_ble_eq_true rfl, Nat.le_of_ble_eq_true rfl⟩ rfl hl.1 rfl (Nat.le_of_ble_eq_true rfl) ⟨Nat.zero_le _, Nat.zero_le _⟩ d_X8_key_3) hS (fun x2 v3 H locs hp1 hw hS => ?_)
  obtain ⟨hp1, hE4⟩ := hp1
  obtain ⟨hI5, hK6, hp1, hk7⟩ := hp1
  have hK8 : Kp (kp_X8_key_55 k) v v3 := Kp.tr hK0 hK6 (by have z0 : (0 : Int32).toInt = 0 := rfl; intro a j; unfold kp_X8_key_55 kp_X8_word_55; omega)
  have hm9 : v3 50 (2) = g0 := hk7.trans hg0
  have hG := bnd2_use hE4 hG
  refine lv_if_eq (tgt := 21) hx hb d_X8_key_6 (by decide) (fun c10 => ?_) (fun c10 => ?_)
  · have f11 := i_eq c10
    have r12 : Rg x2 0 0 := by obtain ⟨a1, a2⟩ := hp1; obtain ⟨b1, b2⟩ := (⟨by decide, by decide⟩ : Rg 0 0 0); have f := i_eq c10; exact ⟨by omega, by omega⟩
    have hG := g_pos c10 hG
    refine lv_aload_n hx hb d_X8_key_21 rfl (lv_at hl 0 rfl) ?_
    refine va_ldcS hx hb X.2.2.2.1 (hSC.2 (47, "e", 1) (by decide)).1 d_X8_key_22 ?_
    refine r_ci (r_runVs (n := 1) (As := [.ref (sa 47)]) (rest := []) X hw hSC hS (ct_X8_word_55 l D dA ad sa v3 hI5 (47, "e", 1) (by decide)) gc_X8_29 (rfl : KD 55 = _) (by decide) rfl (by decide +kernel) ⟨rfl, rfl, Nat.le_of_ble_eq_true rfl, Nat.le_of_ble_eq_true rfl⟩ rfl hl.1 rfl (Nat.le_of_ble_eq_true rfl) ⟨Nat.zero_le _, Nat.zero_le _⟩ d_X8_key_24) hS (fun x14 v15 H locs hp13 hw hS => ?_)
    obtain ⟨hp13, hE16⟩ := hp13
    obtain ⟨hI17, hK18, hp13, hk19⟩ := hp13
    have hK20 : Kp (kp_X8_key_55 k) v v15 := Kp.tr hK8 hK18 (by have z0 : (0 : Int32).toInt = 0 := rfl; intro a j; unfold kp_X8_key_55 kp_X8_word_55; omega)
    have hm21 : v15 50 (2) = g0 := hk19.trans hm9
    have hG := bnd2_use hE16 hG
    refine lv_if_eq (tgt := 42) hx hb d_X8_key_27 (by decide) (fun c22 => ?_) (fun c22 => ?_)
    · have f23 := i_eq c22
      have r24 : Rg x14 0 0 := by obtain ⟨a1, a2⟩ := hp13; obtain ⟨b1, b2⟩ := (⟨by decide, by decide⟩ : Rg 0 0 0); have f := i_eq c22; exact ⟨by omega, by omega⟩
      have hG := g_pos c22 hG
      refine lv_aload_n hx hb d_X8_key_42 rfl (lv_at hl 0 rfl) ?_
      refine va_ldcS hx hb X.2.2.2.1 (hSC.2 (51, "lo", 2) (by decide)).1 d_X8_key_43 ?_
      refine r_ci (r_runVs (n := 1) (As := [.ref (sa 51)]) (rest := []) X hw hSC hS (ct_X8_word_55 l D dA ad sa v15 hI17 (51, "lo", 2) (by decide)) gc_X8_29 (rfl : KD 55 = _) (by decide) rfl (by decide +kernel) ⟨rfl, rfl, Nat.le_of_ble_eq_true rfl, Nat.le_of_ble_eq_true rfl⟩ rfl hl.1 rfl (Nat.le_of_ble_eq_true rfl) ⟨Nat.zero_le _, Nat.zero_le _⟩ d_X8_key_45) hS (fun x26 v27 H locs hp25 hw hS => ?_)
      obtain ⟨hp25, hE28⟩ := hp25
      obtain ⟨hI29, hK30, hp25, hk31⟩ := hp25
      have hK32 : Kp (kp_X8_key_55 k) v v27 := Kp.tr hK20 hK30 (by have z0 : (0 : Int32).toInt = 0 := rfl; intro a j; unfold kp_X8_key_55 kp_X8_word_55; omega)
      have hm33 : v27 50 (2) = g0 := hk31.trans hm21
      have hG := bnd2_use hE28 hG
      refine lv_if_ne (tgt := 53) hx hb d_X8_key_48 (by decide) (fun c34 => ?_) (fun c34 => ?_)
      · have f35 := i_ne c34
        have r36 : Rg x26 1 1 := by obtain ⟨a1, a2⟩ := hp25; obtain ⟨b1, b2⟩ := (⟨by decide, by decide⟩ : Rg 0 0 0); have f := i_ne c34; exact ⟨by omega, by omega⟩
        have hG := g_neg c34 hG
        refine lv_aload_n hx hb d_X8_key_53 rfl (lv_at hl 0 rfl) ?_
        refine va_ldcS hx hb X.2.2.2.1 (hSC.2 (53, "t", 1) (by decide)).1 d_X8_key_54 ?_
        refine r_ci (r_runVs (n := 1) (As := [.ref (sa 53)]) (rest := []) X hw hSC hS (ct_X8_word_55 l D dA ad sa v27 hI29 (53, "t", 1) (by decide)) gc_X8_29 (rfl : KD 55 = _) (by decide) rfl (by decide +kernel) ⟨rfl, rfl, Nat.le_of_ble_eq_true rfl, Nat.le_of_ble_eq_true rfl⟩ rfl hl.1 rfl (Nat.le_of_ble_eq_true rfl) ⟨Nat.zero_le _, Nat.zero_le _⟩ d_X8_key_56) hS (fun x38 v39 H locs hp37 hw hS => ?_)
        obtain ⟨hp37, hE40⟩ := hp37
        obtain ⟨hI41, hK42, hp37, hk43⟩ := hp37
        have hK44 : Kp (kp_X8_key_55 k) v v39 := Kp.tr hK32 hK42 (by have z0 : (0 : Int32).toInt = 0 := rfl; intro a j; unfold kp_X8_key_55 kp_X8_word_55; omega)
        have hm45 : v39 50 (2) = g0 := hk43.trans hm33
        have hG := bnd2_use hE40 hG
        refine lv_if_eq (tgt := 69) hx hb d_X8_key_59 (by decide) (fun c46 => ?_) (fun c46 => ?_)
        · have f47 := i_eq c46
          have r48 : Rg x38 0 0 := by obtain ⟨a1, a2⟩ := hp37; obtain ⟨b1, b2⟩ := (⟨by decide, by decide⟩ : Rg 0 0 0); have f := i_eq c46; exact ⟨by omega, by omega⟩
          have hG := g_pos c46 hG
          refine lv_aload_n hx hb d_X8_key_69 rfl (lv_at hl 1 rfl) ?_
          refine lv_iconst (v := 2) hx hb d_X8_key_70 (by decide) ?_
          refine r_put X hw hS FP_X8_43 (KD_order (by omega) (by omega)) (SH_order (by omega) (by omega) (by decide)) ⟨rfl, rfl⟩ d_X8_key_71 (fun H locs hw hS => ?_)
          obtain ⟨v49, ev49⟩ : ∃ z, z = up2 v39 k 5 2 := ⟨_, rfl⟩
          rw [← ev49] at hw
          have hG := bnd_use ev49 hG
          have hI50 : Inv v49 := by rw [ev49]; exact Inv.put0 hI41 _ (RG_order (by omega) (by omega) (by decide))
          have hK51 : Kp (kp_X8_key_55 k) v v49 := by rw [ev49]; exact Kp.put hK44 _ (by unfold kp_X8_key_55; omega)
          have hm52 : v49 50 2 = g0 := by rw [ev49, up2_n _ _ (by omega)]; exact hm45
          refine lv_aload_n hx hb d_X8_key_74 rfl (lv_at hl 0 rfl) ?_
          refine va_ldcS hx hb X.2.2.2.1 (hSC.2 (55, "ad", 2) (by decide)).1 d_X8_key_75 ?_
          refine r_ci (r_runVs (n := 1) (As := [.ref (sa 55)]) (rest := []) X hw hSC hS (ct_X8_word_55 l D dA ad sa v49 hI50 (55, "ad", 2) (by decide)) gc_X8_29 (rfl : KD 55 = _) (by decide) rfl (by decide +kernel) ⟨rfl, rfl, Nat.le_of_ble_eq_true rfl, Nat.le_of_ble_eq_true rfl⟩ rfl hl.1 rfl (Nat.le_of_ble_eq_true rfl) ⟨Nat.zero_le _, Nat.zero_le _⟩ d_X8_key_77) hS (fun x54 v55 H locs hp53 hw hS => ?_)
          obtain ⟨hp53, hE56⟩ := hp53
          obtain ⟨hI57, hK58, hp53, hk59⟩ := hp53
          have hK60 : Kp (kp_X8_key_55 k) v v55 := Kp.tr hK51 hK58 (by have z0 : (0 : Int32).toInt = 0 := rfl; intro a j; unfold kp_X8_key_55 kp_X8_word_55; omega)
          have hm61 : v55 50 (2) = g0 := hk59.trans hm52
          have hG := bnd2_use hE56 hG
          exact r_zret X hr hlocks hw hS (narz hp53) ⟨⟨hI57, hK60, hp53, (hm61.trans hg0.symm)⟩, hG.trans eRR.symm⟩ d_X8_key_80
        · have f62 := i_ne c46
          have r63 : Rg x38 1 1 := by obtain ⟨a1, a2⟩ := hp37; obtain ⟨b1, b2⟩ := (⟨by decide, by decide⟩ : Rg 0 0 0); have f := i_ne c46; exact ⟨by omega, by omega⟩
          have hG := g_neg c46 hG
          refine lv_aload_n hx hb d_X8_key_62 rfl (lv_at hl 1 rfl) ?_
          refine lv_iconst (v := 3) hx hb d_X8_key_63 (by decide) ?_
          refine r_put X hw hS FP_X8_43 (KD_order (by omega) (by omega)) (SH_order (by omega) (by omega) (by decide)) ⟨rfl, rfl⟩ d_X8_key_64 (fun H locs hw hS => ?_)
          obtain ⟨v64, ev64⟩ : ∃ z, z = up2 v39 k 5 3 := ⟨_, rfl⟩
          rw [← ev64] at hw
          have hG := bnd_use ev64 hG
          have hI65 : Inv v64 := by rw [ev64]; exact Inv.put0 hI41 _ (RG_order (by omega) (by omega) (by decide))
          have hK66 : Kp (kp_X8_key_55 k) v v64 := by rw [ev64]; exact Kp.put hK44 _ (by unfold kp_X8_key_55; omega)
          have hm67 : v64 50 2 = g0 := by rw [ev64, up2_n _ _ (by omega)]; exact hm45
          refine lv_iconst (v := 1) hx hb d_X8_key_67 (by decide) ?_
          exact r_zret X hr hlocks hw hS rfl ⟨⟨hI65, hK66, (rg_w (⟨by decide, by decide⟩ : Rg 1 1 1) (by decide) (by decide)), (hm67.trans hg0.symm)⟩, hG.trans eRR.symm⟩ d_X8_key_68
      · have f68 := i_eq c34
        have r69 : Rg x26 0 0 := by obtain ⟨a1, a2⟩ := hp25; obtain ⟨b1, b2⟩ := (⟨by decide, by decide⟩ : Rg 0 0 0); have f := i_eq c34; exact ⟨by omega, by omega⟩
        have hG := g_pos c34 hG
        refine lv_iconst (v := 0) hx hb d_X8_key_51 (by decide) ?_
        exact r_zret X hr hlocks hw hS rfl ⟨⟨hI29, hK32, (rg_w (⟨by decide, by decide⟩ : Rg 0 0 0) (by decide) (by decide)), (hm33.trans hg0.symm)⟩, hG.trans eRR.symm⟩ d_X8_key_52
    · have f70 := i_ne c22
      have r71 : Rg x14 1 1 := by obtain ⟨a1, a2⟩ := hp13; obtain ⟨b1, b2⟩ := (⟨by decide, by decide⟩ : Rg 0 0 0); have f := i_ne c22; exact ⟨by omega, by omega⟩
      have hG := g_neg c22 hG
      refine lv_aload_n hx hb d_X8_key_30 rfl (lv_at hl 1 rfl) ?_
      refine lv_iconst (v := 0) hx hb d_X8_key_31 (by decide) ?_
      refine r_put X hw hS FP_X8_43 (KD_order (by omega) (by omega)) (SH_order (by omega) (by omega) (by decide)) ⟨rfl, rfl⟩ d_X8_key_32 (fun H locs hw hS => ?_)
      obtain ⟨v72, ev72⟩ : ∃ z, z = up2 v15 k 5 0 := ⟨_, rfl⟩
      rw [← ev72] at hw
      have hG := bnd_use ev72 hG
      have hI73 : Inv v72 := by rw [ev72]; exact Inv.put0 hI17 _ (RG_order (by omega) (by omega) (by decide))
      have hK74 : Kp (kp_X8_key_55 k) v v72 := by rw [ev72]; exact Kp.put hK20 _ (by unfold kp_X8_key_55; omega)
      have hm75 : v72 50 2 = g0 := by rw [ev72, up2_n _ _ (by omega)]; exact hm21
      refine lv_aload_n hx hb d_X8_key_35 rfl (lv_at hl 0 rfl) ?_
      refine va_ldcS hx hb X.2.2.2.1 (hSC.2 (49, "ntry", 4) (by decide)).1 d_X8_key_36 ?_
      refine r_ci (r_runVs (n := 1) (As := [.ref (sa 49)]) (rest := []) X hw hSC hS (ct_X8_word_55 l D dA ad sa v72 hI73 (49, "ntry", 4) (by decide)) gc_X8_29 (rfl : KD 55 = _) (by decide) rfl (by decide +kernel) ⟨rfl, rfl, Nat.le_of_ble_eq_true rfl, Nat.le_of_ble_eq_true rfl⟩ rfl hl.1 rfl (Nat.le_of_ble_eq_true rfl) ⟨Nat.zero_le _, Nat.zero_le _⟩ d_X8_key_38) hS (fun x77 v78 H locs hp76 hw hS => ?_)
      obtain ⟨hp76, hE79⟩ := hp76
      obtain ⟨hI80, hK81, hp76, hk82⟩ := hp76
      have hK83 : Kp (kp_X8_key_55 k) v v78 := Kp.tr hK74 hK81 (by have z0 : (0 : Int32).toInt = 0 := rfl; intro a j; unfold kp_X8_key_55 kp_X8_word_55; omega)
      have hm84 : v78 50 (2) = g0 := hk82.trans hm75
      have hG := bnd2_use hE79 hG
      exact r_zret X hr hlocks hw hS (narz hp76) ⟨⟨hI80, hK83, hp76, (hm84.trans hg0.symm)⟩, hG.trans eRR.symm⟩ d_X8_key_41
  · have f85 := i_ne c10
    have r86 : Rg x2 1 1 := by obtain ⟨a1, a2⟩ := hp1; obtain ⟨b1, b2⟩ := (⟨by decide, by decide⟩ : Rg 0 0 0); have f := i_ne c10; exact ⟨by omega, by omega⟩
    have hG := g_neg c10 hG
    refine lv_aload_n hx hb d_X8_key_9 rfl (lv_at hl 1 rfl) ?_
    refine lv_iconst (v := 1) hx hb d_X8_key_10 (by decide) ?_
    refine r_put X hw hS FP_X8_43 (KD_order (by omega) (by omega)) (SH_order (by omega) (by omega) (by decide)) ⟨rfl, rfl⟩ d_X8_key_11 (fun H locs hw hS => ?_)
    obtain ⟨v87, ev87⟩ : ∃ z, z = up2 v3 k 5 1 := ⟨_, rfl⟩
    rw [← ev87] at hw
    have hG := bnd_use ev87 hG
    have hI88 : Inv v87 := by rw [ev87]; exact Inv.put0 hI5 _ (RG_order (by omega) (by omega) (by decide))
    have hK89 : Kp (kp_X8_key_55 k) v v87 := by rw [ev87]; exact Kp.put hK8 _ (by unfold kp_X8_key_55; omega)
    have hm90 : v87 50 2 = g0 := by rw [ev87, up2_n _ _ (by omega)]; exact hm9
    refine lv_aload_n hx hb d_X8_key_14 rfl (lv_at hl 0 rfl) ?_
    refine va_ldcS hx hb X.2.2.2.1 (hSC.2 (45, "sk", 2) (by decide)).1 d_X8_key_15 ?_
    refine r_ci (r_runVs (n := 1) (As := [.ref (sa 45)]) (rest := []) X hw hSC hS (ct_X8_word_55 l D dA ad sa v87 hI88 (45, "sk", 2) (by decide)) gc_X8_29 (rfl : KD 55 = _) (by decide) rfl (by decide +kernel) ⟨rfl, rfl, Nat.le_of_ble_eq_true rfl, Nat.le_of_ble_eq_true rfl⟩ rfl hl.1 rfl (Nat.le_of_ble_eq_true rfl) ⟨Nat.zero_le _, Nat.zero_le _⟩ d_X8_key_17) hS (fun x92 v93 H locs hp91 hw hS => ?_)
    obtain ⟨hp91, hE94⟩ := hp91
    obtain ⟨hI95, hK96, hp91, hk97⟩ := hp91
    have hK98 : Kp (kp_X8_key_55 k) v v93 := Kp.tr hK89 hK96 (by have z0 : (0 : Int32).toInt = 0 := rfl; intro a j; unfold kp_X8_key_55 kp_X8_word_55; omega)
    have hm99 : v93 50 (2) = g0 := hk97.trans hm90
    have hG := bnd2_use hE94 hG
    exact r_zret X hr hlocks hw hS (narz hp91) ⟨⟨hI95, hK98, hp91, (hm99.trans hg0.symm)⟩, hG.trans eRR.symm⟩ d_X8_key_20
theorem d_X8_part_0 : decode c_X8_part 0 = .ok (.aload_n 0, 1) := by decide +kernel
theorem d_X8_part_1 : decode c_X8_part 1 = .ok (.ldc 68, 2) := by decide +kernel
theorem d_X8_part_3 : decode c_X8_part 3 = .ok (.invokevirtual 29, 3) := by decide +kernel
theorem d_X8_part_6 : decode c_X8_part 6 = .ok (.ifCond .ne 5, 3) := by decide +kernel
theorem d_X8_part_9 : decode c_X8_part 9 = .ok (.iconst 0, 1) := by decide +kernel
theorem d_X8_part_10 : decode c_X8_part 10 = .ok (.ireturn, 1) := by decide +kernel
theorem d_X8_part_11 : decode c_X8_part 11 = .ok (.aload_n 0, 1) := by decide +kernel
theorem d_X8_part_12 : decode c_X8_part 12 = .ok (.ldc 70, 2) := by decide +kernel
theorem d_X8_part_14 : decode c_X8_part 14 = .ok (.invokevirtual 29, 3) := by decide +kernel
theorem d_X8_part_17 : decode c_X8_part 17 = .ok (.istore_n 3, 1) := by decide +kernel
theorem d_X8_part_18 : decode c_X8_part 18 = .ok (.iload_n 3, 1) := by decide +kernel
theorem d_X8_part_19 : decode c_X8_part 19 = .ok (.ifCond .ne 14, 3) := by decide +kernel
theorem d_X8_part_22 : decode c_X8_part 22 = .ok (.aload_n 0, 1) := by decide +kernel
theorem d_X8_part_23 : decode c_X8_part 23 = .ok (.ldc 72, 2) := by decide +kernel
theorem d_X8_part_25 : decode c_X8_part 25 = .ok (.invokevirtual 29, 3) := by decide +kernel
theorem d_X8_part_28 : decode c_X8_part 28 = .ok (.ifCond .ne 5, 3) := by decide +kernel
theorem d_X8_part_31 : decode c_X8_part 31 = .ok (.iconst 0, 1) := by decide +kernel
theorem d_X8_part_32 : decode c_X8_part 32 = .ok (.ireturn, 1) := by decide +kernel
theorem d_X8_part_33 : decode c_X8_part 33 = .ok (.aload_n 0, 1) := by decide +kernel
theorem d_X8_part_34 : decode c_X8_part 34 = .ok (.iconst 3, 1) := by decide +kernel
theorem d_X8_part_35 : decode c_X8_part 35 = .ok (.invokevirtual 57, 3) := by decide +kernel
theorem d_X8_part_38 : decode c_X8_part 38 = .ok (.istore 4, 2) := by decide +kernel
theorem d_X8_part_40 : decode c_X8_part 40 = .ok (.iload 4, 2) := by decide +kernel
theorem d_X8_part_42 : decode c_X8_part 42 = .ok (.iconst (-1), 1) := by decide +kernel
theorem d_X8_part_43 : decode c_X8_part 43 = .ok (.if_icmp .ne 5, 3) := by decide +kernel
theorem d_X8_part_46 : decode c_X8_part 46 = .ok (.iconst 0, 1) := by decide +kernel
theorem d_X8_part_47 : decode c_X8_part 47 = .ok (.ireturn, 1) := by decide +kernel
theorem d_X8_part_48 : decode c_X8_part 48 = .ok (.aload_n 1, 1) := by decide +kernel
theorem d_X8_part_49 : decode c_X8_part 49 = .ok (.iload_n 2, 1) := by decide +kernel
theorem d_X8_part_50 : decode c_X8_part 50 = .ok (.iload_n 3, 1) := by decide +kernel
theorem d_X8_part_51 : decode c_X8_part 51 = .ok (.iload 4, 2) := by decide +kernel
theorem d_X8_part_53 : decode c_X8_part 53 = .ok (.invokevirtual 74, 3) := by decide +kernel
theorem d_X8_part_56 : decode c_X8_part 56 = .ok (.aload_n 0, 1) := by decide +kernel
theorem d_X8_part_57 : decode c_X8_part 57 = .ok (.ldc 78, 2) := by decide +kernel
theorem d_X8_part_59 : decode c_X8_part 59 = .ok (.invokevirtual 29, 3) := by decide +kernel
theorem d_X8_part_62 : decode c_X8_part 62 = .ok (.ireturn, 1) := by decide +kernel
def kp_X8_part_55 (k : Nat) (se : Int32) (a j : Nat) : Prop := a ≠ 55 ∧ a ≠ k ∧ a ≠ k + 10 ∧ a ≠ k + 20 ∧ a ≠ k + 30
def f_X8_part_55 (v : tV) (k : Nat) (se : Int32) : Int32 × tV := bnd (v 50 2) fun g0 => bnd2 (f_X8_word_55 v (68, " at ", 4)) fun x2 v3 => (if x2 = (0 : Int32) then ((0 : Int32), v3) else bnd2 (f_X8_word_55 v3 (70, "<", 1)) fun x14 v15 => (if x14 = (0 : Int32) then bnd2 (f_X8_word_55 v15 (72, ">", 1)) fun x59 v60 => (if x59 = (0 : Int32) then ((0 : Int32), v60) else bnd2 (f_X8_number_3 v60 (3 : Int32)) fun x71 v72 => (if x71 = (-1 : Int32) then ((0 : Int32), v72) else bnd (f_X3_addPart_k v72 k se x14 x71) fun v83 => bnd2 (f_X8_word_55 v83 (78, ",", 1)) fun x91 v92 => (x91, v92))) else bnd2 (f_X8_number_3 v15 (3 : Int32)) fun x26 v27 => (if x26 = (-1 : Int32) then ((0 : Int32), v27) else bnd (f_X3_addPart_k v27 k se x14 x26) fun v38 => bnd2 (f_X8_word_55 v38 (78, ",", 1)) fun x46 v47 => (x46, v47))))
set_option maxHeartbeats 4000000 in
set_option maxRecDepth 100000 in
theorem ct_X8_part_55 (l : Launch) (D : va_G) (dA : Nat → ClassId) (ad : Nat → Nat) (sa : Nat → Nat) (v : tV) (hI : Inv v) (k : Nat) (se : Int32) (ka : 60 ≤ k) (kb : k < 69) (r_se : Rg se 0 99) : Met l m_X8_part [.code m_X8_part c_X8_part 5 (some .boolean)] ({ frames := 6, cells := 0, slots := 0, locals := 153 } : Room) (tPs D dA ad sa v [.ref (ad 55), .ref (ad k), .int se]) (tQi D dA ad (fun r v' => (Inv v' ∧ Kp (kp_X8_part_55 k se) v v' ∧ Rg r 0 1 ∧ v' 50 2 = v 50 2) ∧ (r, v') = f_X8_part_55 v k se)) 0 0 (tA ad) := by
  refine tMets (by decide) (Nat.le_of_ble_eq_true rfl) ?_
  intro p e s m below meth c ls X hr hlocks hw hSC hl
  have X : CX p s m ([.ref (ad 55), .ref (ad k), .int se] : List Value).toArray c c_X8_part N_X8 5 D dA := X
  have hx := X.1
  have hb := X.2.1
  have hS : va_S (tA ad) s.heap s.heap [] := va_S.rf
  have hl : lv_has ls 5 [(0, .ref (ad 55)), (1, .ref (ad k)), (2, .int se)] := hl
  obtain ⟨g0, hg0⟩ : ∃ g, v 50 2 = g := ⟨_, rfl⟩
  have r_g0 : Rg g0 0 8 := by rw [← hg0]; exact hI 50 2 _ _ rfl
  obtain ⟨RR, eRR⟩ : ∃ z, f_X8_part_55 v k se = z := ⟨_, rfl⟩
  have hK0 : Kp (kp_X8_part_55 k se) v v := Kp.rf _ v
  have hG := eRR
  unfold f_X8_part_55 at hG
  have hG := bnd_use hg0.symm hG
  refine lv_aload_n hx hb d_X8_part_0 rfl (lv_at hl 0 rfl) ?_
  refine va_ldcS hx hb X.2.2.2.1 (hSC.2 (68, " at ", 4) (by decide)).1 d_X8_part_1 ?_
  refine r_ci (r_runVs (n := 1) (As := [.ref (sa 68)]) (rest := []) X hw hSC hS (ct_X8_word_55 l D dA ad sa v hI (68, " at ", 4) (by decide)) gc_X8_29 (rfl : KD 55 = _) (by decide) rfl (by decide +kernel) ⟨rfl, rfl, Nat.le_of_ble_eq_true rfl, Nat.le_of_ble_eq_true rfl⟩ rfl hl.1 rfl (Nat.le_of_ble_eq_true rfl) ⟨Nat.zero_le _, Nat.zero_le _⟩ d_X8_part_3) hS (fun x2 v3 H locs hp1 hw hS => ?_)
  obtain ⟨hp1, hE4⟩ := hp1
  obtain ⟨hI5, hK6, hp1, hk7⟩ := hp1
  have hK8 : Kp (kp_X8_part_55 k se) v v3 := Kp.tr hK0 hK6 (by have z0 : (0 : Int32).toInt = 0 := rfl; intro a j; unfold kp_X8_part_55 kp_X8_word_55; omega)
  have hm9 : v3 50 (2) = g0 := hk7.trans hg0
  have hG := bnd2_use hE4 hG
  refine lv_if_ne (tgt := 11) hx hb d_X8_part_6 (by decide) (fun c10 => ?_) (fun c10 => ?_)
  · have f11 := i_ne c10
    have r12 : Rg x2 1 1 := by obtain ⟨a1, a2⟩ := hp1; obtain ⟨b1, b2⟩ := (⟨by decide, by decide⟩ : Rg 0 0 0); have f := i_ne c10; exact ⟨by omega, by omega⟩
    have hG := g_neg c10 hG
    refine lv_aload_n hx hb d_X8_part_11 rfl (lv_at hl 0 rfl) ?_
    refine va_ldcS hx hb X.2.2.2.1 (hSC.2 (70, "<", 1) (by decide)).1 d_X8_part_12 ?_
    refine r_ci (r_runVs (n := 1) (As := [.ref (sa 70)]) (rest := []) X hw hSC hS (ct_X8_word_55 l D dA ad sa v3 hI5 (70, "<", 1) (by decide)) gc_X8_29 (rfl : KD 55 = _) (by decide) rfl (by decide +kernel) ⟨rfl, rfl, Nat.le_of_ble_eq_true rfl, Nat.le_of_ble_eq_true rfl⟩ rfl hl.1 rfl (Nat.le_of_ble_eq_true rfl) ⟨Nat.zero_le _, Nat.zero_le _⟩ d_X8_part_14) hS (fun x14 v15 H locs hp13 hw hS => ?_)
    obtain ⟨hp13, hE16⟩ := hp13
    obtain ⟨hI17, hK18, hp13, hk19⟩ := hp13
    have hK20 : Kp (kp_X8_part_55 k se) v v15 := Kp.tr hK8 hK18 (by have z0 : (0 : Int32).toInt = 0 := rfl; intro a j; unfold kp_X8_part_55 kp_X8_word_55; omega)
    have hm21 : v15 50 (2) = g0 := hk19.trans hm9
    have hG := bnd2_use hE16 hG
    refine lv_istore_n (lv' := [(3, .int x14), (0, .ref (ad 55)), (1, .ref (ad k)), (2, .int se)]) hx hb d_X8_part_17 rfl hl (by decide) rfl (fun ls hl => ?_)
    refine lv_iload_n hx hb d_X8_part_18 rfl (lv_at hl 0 rfl) ?_
    refine lv_if_ne (tgt := 33) hx hb d_X8_part_19 (by decide) (fun c22 => ?_) (fun c22 => ?_)
    · have f23 := i_ne c22
      have r24 : Rg x14 1 1 := by obtain ⟨a1, a2⟩ := hp13; obtain ⟨b1, b2⟩ := (⟨by decide, by decide⟩ : Rg 0 0 0); have f := i_ne c22; exact ⟨by omega, by omega⟩
      have hG := g_neg c22 hG
      refine lv_aload_n hx hb d_X8_part_33 rfl (lv_at hl 1 rfl) ?_
      refine lv_iconst (v := 3) hx hb d_X8_part_34 (by decide) ?_
      refine r_ci (r_runV (n := 1) (As := [.int 3]) (rest := []) X hw (ct_X8_number_3 l D dA ad v15 hI17 3 (⟨by decide, by decide⟩ : Rg 3 3 3)) gc_X8_57 (rfl : KD 55 = _) (by decide) rfl (by decide +kernel) ⟨rfl, rfl, Nat.le_of_ble_eq_true rfl, Nat.le_of_ble_eq_true rfl⟩ rfl hl.1 rfl (Nat.le_of_ble_eq_true rfl) ⟨Nat.zero_le _, Nat.zero_le _⟩ d_X8_part_35) hS (fun x26 v27 H locs hp25 hw hS => ?_)
      obtain ⟨hp25, hE28⟩ := hp25
      obtain ⟨hI29, hK30, hp25, hk31⟩ := hp25
      have hK32 : Kp (kp_X8_part_55 k se) v v27 := Kp.tr hK20 hK30 (by have z0 : (0 : Int32).toInt = 0 := rfl; intro a j; unfold kp_X8_part_55 kp_X8_number_3; omega)
      have hm33 : v27 50 (2) = g0 := hk31.trans hm21
      have hG := bnd2_use hE28 hG
      refine lv_istore (lv' := [(4, .int x26), (3, .int x14), (0, .ref (ad 55)), (1, .ref (ad k)), (2, .int se)]) hx hb d_X8_part_38 hl (by decide) rfl (fun ls hl => ?_)
      refine lv_iload hx hb d_X8_part_40 (lv_at hl 0 rfl) ?_
      refine lv_iconst (v := -1) hx hb d_X8_part_42 (by decide) ?_
      refine lv_icmp_ne (tgt := 48) hx hb d_X8_part_43 (by decide) (fun c34 => ?_) (fun c34 => ?_)
      · have f35 := i_ne c34
        have r36 : Rg x26 0 999 := by obtain ⟨a1, a2⟩ := hp25; obtain ⟨b1, b2⟩ := (⟨by decide, by decide⟩ : Rg (-1) (-1) (-1)); have f := i_ne c34; exact ⟨by omega, by omega⟩
        have hG := g_neg c34 hG
        refine lv_aload_n hx hb d_X8_part_48 rfl (lv_at hl 3 rfl) ?_
        refine lv_iload_n hx hb d_X8_part_49 rfl (lv_at hl 4 rfl) ?_
        refine lv_iload_n hx hb d_X8_part_50 rfl (lv_at hl 1 rfl) ?_
        refine lv_iload hx hb d_X8_part_51 (lv_at hl 0 rfl) ?_
        refine r_cv (r_runV (n := 3) (As := [.int se, .int x14, .int x26]) (rest := []) X hw (ct_X3_addPart_k l D dA ad v27 hI29 k se x14 x26 (by omega) (by omega) r_se (rg_w r24 (by decide) (by decide))) gc_X8_74 (KD_order (by omega) (by omega)) (by decide) rfl (by decide +kernel) ⟨rfl, rfl, Nat.le_of_ble_eq_true rfl, Nat.le_of_ble_eq_true rfl⟩ rfl hl.1 rfl (Nat.le_of_ble_eq_true rfl) ⟨Nat.zero_le _, Nat.zero_le _⟩ d_X8_part_53) hS (fun v38 H locs hp37 hw hS => ?_)
        obtain ⟨hp37, hE39⟩ := hp37
        obtain ⟨hI40, hK41, hk42⟩ := hp37
        have hK43 : Kp (kp_X8_part_55 k se) v v38 := Kp.tr hK32 hK41 (by have z0 : (0 : Int32).toInt = 0 := rfl; intro a j; unfold kp_X8_part_55 kp_X3_addPart_k; omega)
        have hm44 : v38 50 (2) = g0 := hk42.trans hm33
        have hG := bnd_use hE39 hG
        refine lv_aload_n hx hb d_X8_part_56 rfl (lv_at hl 2 rfl) ?_
        refine va_ldcS hx hb X.2.2.2.1 (hSC.2 (78, ",", 1) (by decide)).1 d_X8_part_57 ?_
        refine r_ci (r_runVs (n := 1) (As := [.ref (sa 78)]) (rest := []) X hw hSC hS (ct_X8_word_55 l D dA ad sa v38 hI40 (78, ",", 1) (by decide)) gc_X8_29 (rfl : KD 55 = _) (by decide) rfl (by decide +kernel) ⟨rfl, rfl, Nat.le_of_ble_eq_true rfl, Nat.le_of_ble_eq_true rfl⟩ rfl hl.1 rfl (Nat.le_of_ble_eq_true rfl) ⟨Nat.zero_le _, Nat.zero_le _⟩ d_X8_part_59) hS (fun x46 v47 H locs hp45 hw hS => ?_)
        obtain ⟨hp45, hE48⟩ := hp45
        obtain ⟨hI49, hK50, hp45, hk51⟩ := hp45
        have hK52 : Kp (kp_X8_part_55 k se) v v47 := Kp.tr hK43 hK50 (by have z0 : (0 : Int32).toInt = 0 := rfl; intro a j; unfold kp_X8_part_55 kp_X8_word_55; omega)
        have hm53 : v47 50 (2) = g0 := hk51.trans hm44
        have hG := bnd2_use hE48 hG
        exact r_zret X hr hlocks hw hS (narz hp45) ⟨⟨hI49, hK52, hp45, (hm53.trans hg0.symm)⟩, hG.trans eRR.symm⟩ d_X8_part_62
      · have f54 := i_eq c34
        have r55 : Rg x26 (-1) (-1) := by obtain ⟨a1, a2⟩ := hp25; obtain ⟨b1, b2⟩ := (⟨by decide, by decide⟩ : Rg (-1) (-1) (-1)); have f := i_eq c34; exact ⟨by omega, by omega⟩
        have hG := g_pos c34 hG
        refine lv_iconst (v := 0) hx hb d_X8_part_46 (by decide) ?_
        exact r_zret X hr hlocks hw hS rfl ⟨⟨hI29, hK32, (rg_w (⟨by decide, by decide⟩ : Rg 0 0 0) (by decide) (by decide)), (hm33.trans hg0.symm)⟩, hG.trans eRR.symm⟩ d_X8_part_47
    · have f56 := i_eq c22
      have r57 : Rg x14 0 0 := by obtain ⟨a1, a2⟩ := hp13; obtain ⟨b1, b2⟩ := (⟨by decide, by decide⟩ : Rg 0 0 0); have f := i_eq c22; exact ⟨by omega, by omega⟩
      have hG := g_pos c22 hG
      refine lv_aload_n hx hb d_X8_part_22 rfl (lv_at hl 1 rfl) ?_
      refine va_ldcS hx hb X.2.2.2.1 (hSC.2 (72, ">", 1) (by decide)).1 d_X8_part_23 ?_
      refine r_ci (r_runVs (n := 1) (As := [.ref (sa 72)]) (rest := []) X hw hSC hS (ct_X8_word_55 l D dA ad sa v15 hI17 (72, ">", 1) (by decide)) gc_X8_29 (rfl : KD 55 = _) (by decide) rfl (by decide +kernel) ⟨rfl, rfl, Nat.le_of_ble_eq_true rfl, Nat.le_of_ble_eq_true rfl⟩ rfl hl.1 rfl (Nat.le_of_ble_eq_true rfl) ⟨Nat.zero_le _, Nat.zero_le _⟩ d_X8_part_25) hS (fun x59 v60 H locs hp58 hw hS => ?_)
      obtain ⟨hp58, hE61⟩ := hp58
      obtain ⟨hI62, hK63, hp58, hk64⟩ := hp58
      have hK65 : Kp (kp_X8_part_55 k se) v v60 := Kp.tr hK20 hK63 (by have z0 : (0 : Int32).toInt = 0 := rfl; intro a j; unfold kp_X8_part_55 kp_X8_word_55; omega)
      have hm66 : v60 50 (2) = g0 := hk64.trans hm21
      have hG := bnd2_use hE61 hG
      refine lv_if_ne (tgt := 33) hx hb d_X8_part_28 (by decide) (fun c67 => ?_) (fun c67 => ?_)
      · have f68 := i_ne c67
        have r69 : Rg x59 1 1 := by obtain ⟨a1, a2⟩ := hp58; obtain ⟨b1, b2⟩ := (⟨by decide, by decide⟩ : Rg 0 0 0); have f := i_ne c67; exact ⟨by omega, by omega⟩
        have hG := g_neg c67 hG
        refine lv_aload_n hx hb d_X8_part_33 rfl (lv_at hl 1 rfl) ?_
        refine lv_iconst (v := 3) hx hb d_X8_part_34 (by decide) ?_
        refine r_ci (r_runV (n := 1) (As := [.int 3]) (rest := []) X hw (ct_X8_number_3 l D dA ad v60 hI62 3 (⟨by decide, by decide⟩ : Rg 3 3 3)) gc_X8_57 (rfl : KD 55 = _) (by decide) rfl (by decide +kernel) ⟨rfl, rfl, Nat.le_of_ble_eq_true rfl, Nat.le_of_ble_eq_true rfl⟩ rfl hl.1 rfl (Nat.le_of_ble_eq_true rfl) ⟨Nat.zero_le _, Nat.zero_le _⟩ d_X8_part_35) hS (fun x71 v72 H locs hp70 hw hS => ?_)
        obtain ⟨hp70, hE73⟩ := hp70
        obtain ⟨hI74, hK75, hp70, hk76⟩ := hp70
        have hK77 : Kp (kp_X8_part_55 k se) v v72 := Kp.tr hK65 hK75 (by have z0 : (0 : Int32).toInt = 0 := rfl; intro a j; unfold kp_X8_part_55 kp_X8_number_3; omega)
        have hm78 : v72 50 (2) = g0 := hk76.trans hm66
        have hG := bnd2_use hE73 hG
        refine lv_istore (lv' := [(4, .int x71), (3, .int x14), (0, .ref (ad 55)), (1, .ref (ad k)), (2, .int se)]) hx hb d_X8_part_38 hl (by decide) rfl (fun ls hl => ?_)
        refine lv_iload hx hb d_X8_part_40 (lv_at hl 0 rfl) ?_
        refine lv_iconst (v := -1) hx hb d_X8_part_42 (by decide) ?_
        refine lv_icmp_ne (tgt := 48) hx hb d_X8_part_43 (by decide) (fun c79 => ?_) (fun c79 => ?_)
        · have f80 := i_ne c79
          have r81 : Rg x71 0 999 := by obtain ⟨a1, a2⟩ := hp70; obtain ⟨b1, b2⟩ := (⟨by decide, by decide⟩ : Rg (-1) (-1) (-1)); have f := i_ne c79; exact ⟨by omega, by omega⟩
          have hG := g_neg c79 hG
          refine lv_aload_n hx hb d_X8_part_48 rfl (lv_at hl 3 rfl) ?_
          refine lv_iload_n hx hb d_X8_part_49 rfl (lv_at hl 4 rfl) ?_
          refine lv_iload_n hx hb d_X8_part_50 rfl (lv_at hl 1 rfl) ?_
          refine lv_iload hx hb d_X8_part_51 (lv_at hl 0 rfl) ?_
          refine r_cv (r_runV (n := 3) (As := [.int se, .int x14, .int x71]) (rest := []) X hw (ct_X3_addPart_k l D dA ad v72 hI74 k se x14 x71 (by omega) (by omega) r_se (rg_w r57 (by decide) (by decide))) gc_X8_74 (KD_order (by omega) (by omega)) (by decide) rfl (by decide +kernel) ⟨rfl, rfl, Nat.le_of_ble_eq_true rfl, Nat.le_of_ble_eq_true rfl⟩ rfl hl.1 rfl (Nat.le_of_ble_eq_true rfl) ⟨Nat.zero_le _, Nat.zero_le _⟩ d_X8_part_53) hS (fun v83 H locs hp82 hw hS => ?_)
          obtain ⟨hp82, hE84⟩ := hp82
          obtain ⟨hI85, hK86, hk87⟩ := hp82
          have hK88 : Kp (kp_X8_part_55 k se) v v83 := Kp.tr hK77 hK86 (by have z0 : (0 : Int32).toInt = 0 := rfl; intro a j; unfold kp_X8_part_55 kp_X3_addPart_k; omega)
          have hm89 : v83 50 (2) = g0 := hk87.trans hm78
          have hG := bnd_use hE84 hG
          refine lv_aload_n hx hb d_X8_part_56 rfl (lv_at hl 2 rfl) ?_
          refine va_ldcS hx hb X.2.2.2.1 (hSC.2 (78, ",", 1) (by decide)).1 d_X8_part_57 ?_
          refine r_ci (r_runVs (n := 1) (As := [.ref (sa 78)]) (rest := []) X hw hSC hS (ct_X8_word_55 l D dA ad sa v83 hI85 (78, ",", 1) (by decide)) gc_X8_29 (rfl : KD 55 = _) (by decide) rfl (by decide +kernel) ⟨rfl, rfl, Nat.le_of_ble_eq_true rfl, Nat.le_of_ble_eq_true rfl⟩ rfl hl.1 rfl (Nat.le_of_ble_eq_true rfl) ⟨Nat.zero_le _, Nat.zero_le _⟩ d_X8_part_59) hS (fun x91 v92 H locs hp90 hw hS => ?_)
          obtain ⟨hp90, hE93⟩ := hp90
          obtain ⟨hI94, hK95, hp90, hk96⟩ := hp90
          have hK97 : Kp (kp_X8_part_55 k se) v v92 := Kp.tr hK88 hK95 (by have z0 : (0 : Int32).toInt = 0 := rfl; intro a j; unfold kp_X8_part_55 kp_X8_word_55; omega)
          have hm98 : v92 50 (2) = g0 := hk96.trans hm89
          have hG := bnd2_use hE93 hG
          exact r_zret X hr hlocks hw hS (narz hp90) ⟨⟨hI94, hK97, hp90, (hm98.trans hg0.symm)⟩, hG.trans eRR.symm⟩ d_X8_part_62
        · have f99 := i_eq c79
          have r100 : Rg x71 (-1) (-1) := by obtain ⟨a1, a2⟩ := hp70; obtain ⟨b1, b2⟩ := (⟨by decide, by decide⟩ : Rg (-1) (-1) (-1)); have f := i_eq c79; exact ⟨by omega, by omega⟩
          have hG := g_pos c79 hG
          refine lv_iconst (v := 0) hx hb d_X8_part_46 (by decide) ?_
          exact r_zret X hr hlocks hw hS rfl ⟨⟨hI74, hK77, (rg_w (⟨by decide, by decide⟩ : Rg 0 0 0) (by decide) (by decide)), (hm78.trans hg0.symm)⟩, hG.trans eRR.symm⟩ d_X8_part_47
      · have f101 := i_eq c67
        have r102 : Rg x59 0 0 := by obtain ⟨a1, a2⟩ := hp58; obtain ⟨b1, b2⟩ := (⟨by decide, by decide⟩ : Rg 0 0 0); have f := i_eq c67; exact ⟨by omega, by omega⟩
        have hG := g_pos c67 hG
        refine lv_iconst (v := 0) hx hb d_X8_part_31 (by decide) ?_
        exact r_zret X hr hlocks hw hS rfl ⟨⟨hI62, hK65, (rg_w (⟨by decide, by decide⟩ : Rg 0 0 0) (by decide) (by decide)), (hm66.trans hg0.symm)⟩, hG.trans eRR.symm⟩ d_X8_part_32
  · have f103 := i_eq c10
    have r104 : Rg x2 0 0 := by obtain ⟨a1, a2⟩ := hp1; obtain ⟨b1, b2⟩ := (⟨by decide, by decide⟩ : Rg 0 0 0); have f := i_eq c10; exact ⟨by omega, by omega⟩
    have hG := g_pos c10 hG
    refine lv_iconst (v := 0) hx hb d_X8_part_9 (by decide) ?_
    exact r_zret X hr hlocks hw hS rfl ⟨⟨hI5, hK8, (rg_w (⟨by decide, by decide⟩ : Rg 0 0 0) (by decide) (by decide)), (hm9.trans hg0.symm)⟩, hG.trans eRR.symm⟩ d_X8_part_10
theorem d_X8_parts_0 : decode c_X8_parts 0 = .ok (.iconst 0, 1) := by decide +kernel
theorem d_X8_parts_1 : decode c_X8_parts 1 = .ok (.istore_n 2, 1) := by decide +kernel
theorem d_X8_parts_2 : decode c_X8_parts 2 = .ok (.iload_n 2, 1) := by decide +kernel
theorem d_X8_parts_3 : decode c_X8_parts 3 = .ok (.iconst 3, 1) := by decide +kernel
theorem d_X8_parts_4 : decode c_X8_parts 4 = .ok (.if_icmp .gt 56, 3) := by decide +kernel
theorem d_X8_parts_7 : decode c_X8_parts 7 = .ok (.aload_n 0, 1) := by decide +kernel
theorem d_X8_parts_8 : decode c_X8_parts 8 = .ok (.iconst 2, 1) := by decide +kernel
theorem d_X8_parts_9 : decode c_X8_parts 9 = .ok (.invokevirtual 57, 3) := by decide +kernel
theorem d_X8_parts_12 : decode c_X8_parts 12 = .ok (.istore_n 3, 1) := by decide +kernel
theorem d_X8_parts_13 : decode c_X8_parts 13 = .ok (.iload_n 3, 1) := by decide +kernel
theorem d_X8_parts_14 : decode c_X8_parts 14 = .ok (.iconst (-1), 1) := by decide +kernel
theorem d_X8_parts_15 : decode c_X8_parts 15 = .ok (.if_icmp .ne 5, 3) := by decide +kernel
theorem d_X8_parts_18 : decode c_X8_parts 18 = .ok (.iconst 0, 1) := by decide +kernel
theorem d_X8_parts_19 : decode c_X8_parts 19 = .ok (.ireturn, 1) := by decide +kernel
theorem d_X8_parts_20 : decode c_X8_parts 20 = .ok (.aload_n 0, 1) := by decide +kernel
theorem d_X8_parts_21 : decode c_X8_parts 21 = .ok (.getfield 19, 3) := by decide +kernel
theorem d_X8_parts_24 : decode c_X8_parts 24 = .ok (.aload_n 0, 1) := by decide +kernel
theorem d_X8_parts_25 : decode c_X8_parts 25 = .ok (.getfield 15, 3) := by decide +kernel
theorem d_X8_parts_28 : decode c_X8_parts 28 = .ok (.if_icmp .lt 10, 3) := by decide +kernel
theorem d_X8_parts_31 : decode c_X8_parts 31 = .ok (.aload_n 1, 1) := by decide +kernel
theorem d_X8_parts_32 : decode c_X8_parts 32 = .ok (.iload_n 3, 1) := by decide +kernel
theorem d_X8_parts_33 : decode c_X8_parts 33 = .ok (.putfield 61, 3) := by decide +kernel
theorem d_X8_parts_36 : decode c_X8_parts 36 = .ok (.iconst 1, 1) := by decide +kernel
theorem d_X8_parts_37 : decode c_X8_parts 37 = .ok (.ireturn, 1) := by decide +kernel
theorem d_X8_parts_38 : decode c_X8_parts 38 = .ok (.iload_n 2, 1) := by decide +kernel
theorem d_X8_parts_39 : decode c_X8_parts 39 = .ok (.iconst 3, 1) := by decide +kernel
theorem d_X8_parts_40 : decode c_X8_parts 40 = .ok (.if_icmp .eq 12, 3) := by decide +kernel
theorem d_X8_parts_43 : decode c_X8_parts 43 = .ok (.aload_n 0, 1) := by decide +kernel
theorem d_X8_parts_44 : decode c_X8_parts 44 = .ok (.aload_n 1, 1) := by decide +kernel
theorem d_X8_parts_45 : decode c_X8_parts 45 = .ok (.iload_n 3, 1) := by decide +kernel
theorem d_X8_parts_46 : decode c_X8_parts 46 = .ok (.invokevirtual 64, 3) := by decide +kernel
theorem d_X8_parts_49 : decode c_X8_parts 49 = .ok (.ifCond .ne 5, 3) := by decide +kernel
theorem d_X8_parts_52 : decode c_X8_parts 52 = .ok (.iconst 0, 1) := by decide +kernel
theorem d_X8_parts_53 : decode c_X8_parts 53 = .ok (.ireturn, 1) := by decide +kernel
theorem d_X8_parts_54 : decode c_X8_parts 54 = .ok (.iinc 2 1, 3) := by decide +kernel
theorem d_X8_parts_57 : decode c_X8_parts 57 = .ok (.goto (-55), 3) := by decide +kernel
theorem d_X8_parts_60 : decode c_X8_parts 60 = .ok (.iconst 0, 1) := by decide +kernel
theorem d_X8_parts_61 : decode c_X8_parts 61 = .ok (.ireturn, 1) := by decide +kernel
def kp_X8_parts_55 (k : Nat) (a j : Nat) : Prop := a ≠ 55 ∧ a ≠ k ∧ a ≠ k + 10 ∧ a ≠ k + 20 ∧ a ≠ k + 30
def b_X8_parts_55_2 (k : Nat) (rc2 : Int32 → tV → Int32 × tV) (y2 : Int32) (v1 : tV) : Int32 × tV := bnd (v1 50 2) fun g0 => (if (3 : Int32) < y2 then ((0 : Int32), v1) else bnd2 (f_X8_number_2 v1 (2 : Int32)) fun x7 v8 => (if x7 = (-1 : Int32) then ((0 : Int32), v8) else bnd (v8 55 2) fun x18 => bnd (v8 55 1) fun x21 => (if x18 < x21 then (if y2 = (3 : Int32) then ((0 : Int32), v8) else bnd2 (f_X8_part_55 v8 k x7) fun x34 v35 => (if x34 = (0 : Int32) then ((0 : Int32), v35) else bnd (y2 + 1) fun x45 => rc2 x45 v35)) else bnd (up2 v8 k 4 x7) fun v51 => ((1 : Int32), v51))))
def g_X8_parts_55_2 (k : Nat) : Nat → Int32 → tV → Int32 × tV
  | 0, _, v1 => (0, v1)
  | n + 1, y2, v1 => b_X8_parts_55_2 k (g_X8_parts_55_2 k n) y2 v1
def f_X8_parts_55 (v : tV) (k : Nat) : Int32 × tV := bnd (v 50 2) fun g0 => g_X8_parts_55_2 k 100000 0 v
set_option maxHeartbeats 4000000 in
set_option maxRecDepth 100000 in
theorem ct_X8_parts_55 (l : Launch) (D : va_G) (dA : Nat → ClassId) (ad : Nat → Nat) (sa : Nat → Nat) (v : tV) (hI : Inv v) (k : Nat) (ka : 60 ≤ k) (kb : k < 69) : Met l m_X8_parts [.code m_X8_parts c_X8_parts 4 (some .boolean)] ({ frames := 7, cells := 0, slots := 0, locals := 177 } : Room) (tPs D dA ad sa v [.ref (ad 55), .ref (ad k)]) (tQi D dA ad (fun r v' => (Inv v' ∧ Kp (kp_X8_parts_55 k) v v' ∧ Rg r 0 1 ∧ v' 50 2 = v 50 2) ∧ (r, v') = f_X8_parts_55 v k)) 0 0 (tA ad) := by
  refine tMets (by decide) (Nat.le_of_ble_eq_true rfl) ?_
  intro p e s m below meth c ls X hr hlocks hw hSC hl
  have X : CX p s m ([.ref (ad 55), .ref (ad k)] : List Value).toArray c c_X8_parts N_X8 4 D dA := X
  have hx := X.1
  have hb := X.2.1
  have hS : va_S (tA ad) s.heap s.heap [] := va_S.rf
  have hl : lv_has ls 4 [(0, .ref (ad 55)), (1, .ref (ad k))] := hl
  obtain ⟨g0, hg0⟩ : ∃ g, v 50 2 = g := ⟨_, rfl⟩
  have r_g0 : Rg g0 0 8 := by rw [← hg0]; exact hI 50 2 _ _ rfl
  obtain ⟨RR, eRR⟩ : ∃ z, f_X8_parts_55 v k = z := ⟨_, rfl⟩
  have LL : ∀ n : Nat, (∀ (y2 : Int32) (v1 : tV) (H : Heap) (locs : List Loc) (ls : Array Slot), (4 - y2.toInt).toNat < n → Rg y2 0 4 → Inv v1 → Kp (kp_X8_parts_55 k) v v1 → v1 50 2 = g0 → g_X8_parts_55_2 k n y2 v1 = RR → tI D dA ad v1 H → va_S (tA ad) s.heap H locs → lv_has ls 4 [(0, .ref (ad 55)), (1, .ref (ad k)), (2, .int y2)] → W p l e ({ frames := 7, cells := 0, slots := 0, locals := 177 } : Room) s m ([.ref (ad 55), .ref (ad k)] : List Value).toArray below meth c H locs 0 0 (MQ below (tQi D dA ad (fun r v' => (Inv v' ∧ Kp (kp_X8_parts_55 k) v v' ∧ Rg r 0 1 ∧ v' 50 2 = v 50 2) ∧ (r, v') = f_X8_parts_55 v k)) ([.ref (ad 55), .ref (ad k)] : List Value).toArray s 0 0 (tA ad)) (F0 m 2 ls [])) := by
    intro n
    induction n with
    | zero => intros; omega
    | succ n ih =>
      have ih0 := ih
      intro y2 v1 H locs ls hmu r_y2 hI1 hK1 hfx0 hG hw hS hl
      have hG : b_X8_parts_55_2 k (g_X8_parts_55_2 k n) y2 v1 = RR := hG
      unfold b_X8_parts_55_2 at hG
      have hG := bnd_use hfx0.symm hG
      refine lv_iload_n hx hb d_X8_parts_2 rfl (lv_at hl 2 rfl) ?_
      refine lv_iconst (v := 3) hx hb d_X8_parts_3 (by decide) ?_
      refine lv_icmp_gt (tgt := 60) hx hb d_X8_parts_4 (by decide) (fun c1 => ?_) (fun c1 => ?_)
      · have f2 := i_lt c1
        have r3 : Rg y2 4 4 := by obtain ⟨a1, a2⟩ := r_y2; obtain ⟨b1, b2⟩ := (⟨by decide, by decide⟩ : Rg 3 3 3); have f := i_lt c1; exact ⟨by omega, by omega⟩
        have hG := g_pos c1 hG
        refine lv_iconst (v := 0) hx hb d_X8_parts_60 (by decide) ?_
        exact r_zret X hr hlocks hw hS rfl ⟨⟨hI1, hK1, (rg_w (⟨by decide, by decide⟩ : Rg 0 0 0) (by decide) (by decide)), (hfx0.trans hg0.symm)⟩, hG.trans eRR.symm⟩ d_X8_parts_61
      · have f4 := i_nlt c1
        have r5 : Rg y2 0 3 := by obtain ⟨a1, a2⟩ := r_y2; obtain ⟨b1, b2⟩ := (⟨by decide, by decide⟩ : Rg 3 3 3); have f := i_nlt c1; exact ⟨by omega, by omega⟩
        have hG := g_neg c1 hG
        refine lv_aload_n hx hb d_X8_parts_7 rfl (lv_at hl 0 rfl) ?_
        refine lv_iconst (v := 2) hx hb d_X8_parts_8 (by decide) ?_
        refine r_ci (r_runV (n := 1) (As := [.int 2]) (rest := []) X hw (ct_X8_number_2 l D dA ad v1 hI1 2 (⟨by decide, by decide⟩ : Rg 2 2 2)) gc_X8_57 (rfl : KD 55 = _) (by decide) rfl (by decide +kernel) ⟨rfl, rfl, Nat.le_of_ble_eq_true rfl, Nat.le_of_ble_eq_true rfl⟩ rfl hl.1 rfl (Nat.le_of_ble_eq_true rfl) ⟨Nat.zero_le _, Nat.zero_le _⟩ d_X8_parts_9) hS (fun x7 v8 H locs hp6 hw hS => ?_)
        obtain ⟨hp6, hE9⟩ := hp6
        obtain ⟨hI10, hK11, hp6, hk12⟩ := hp6
        have hK13 : Kp (kp_X8_parts_55 k) v v8 := Kp.tr hK1 hK11 (by have z0 : (0 : Int32).toInt = 0 := rfl; intro a j; unfold kp_X8_parts_55 kp_X8_number_2; omega)
        have hm14 : v8 50 (2) = g0 := hk12.trans hfx0
        have hG := bnd2_use hE9 hG
        refine lv_istore_n (lv' := [(3, .int x7), (0, .ref (ad 55)), (1, .ref (ad k)), (2, .int y2)]) hx hb d_X8_parts_12 rfl hl (by decide) rfl (fun ls hl => ?_)
        refine lv_iload_n hx hb d_X8_parts_13 rfl (lv_at hl 0 rfl) ?_
        refine lv_iconst (v := -1) hx hb d_X8_parts_14 (by decide) ?_
        refine lv_icmp_ne (tgt := 20) hx hb d_X8_parts_15 (by decide) (fun c15 => ?_) (fun c15 => ?_)
        · have f16 := i_ne c15
          have r17 : Rg x7 0 99 := by obtain ⟨a1, a2⟩ := hp6; obtain ⟨b1, b2⟩ := (⟨by decide, by decide⟩ : Rg (-1) (-1) (-1)); have f := i_ne c15; exact ⟨by omega, by omega⟩
          have hG := g_neg c15 hG
          refine lv_aload_n hx hb d_X8_parts_20 rfl (lv_at hl 1 rfl) ?_
          refine r_geti X hw FL_X8_19 (rfl : KD 55 = _) rfl d_X8_parts_21 ?_
          refine lv_topi (fun x18 ex18 => ?_)
          have hG := bnd_use ex18 hG
          have r19 : Rg x18 0 120 := by rw [ex18]; exact hI10 _ _ _ _ rfl
          have hm20 : v8 55 2 = x18 := ex18.symm
          refine lv_aload_n hx hb d_X8_parts_24 rfl (lv_at hl 1 rfl) ?_
          refine r_geti X hw FL_X8_15 (rfl : KD 55 = _) rfl d_X8_parts_25 ?_
          refine lv_topi (fun x21 ex21 => ?_)
          have hG := bnd_use ex21 hG
          have r22 : Rg x21 0 120 := by rw [ex21]; exact hI10 _ _ _ _ rfl
          have hm23 : v8 55 1 = x21 := ex21.symm
          refine lv_icmp_lt (tgt := 38) hx hb d_X8_parts_28 (by decide) (fun c24 => ?_) (fun c24 => ?_)
          · have f25 := i_lt c24
            have r26 : Rg x18 0 119 := by obtain ⟨a1, a2⟩ := r19; obtain ⟨b1, b2⟩ := r22; have f := i_lt c24; exact ⟨by omega, by omega⟩
            have r27 : Rg x21 1 120 := by obtain ⟨a1, a2⟩ := r19; obtain ⟨b1, b2⟩ := r22; have f := i_lt c24; exact ⟨by omega, by omega⟩
            have hG := g_pos c24 hG
            refine lv_iload_n hx hb d_X8_parts_38 rfl (lv_at hl 3 rfl) ?_
            refine lv_iconst (v := 3) hx hb d_X8_parts_39 (by decide) ?_
            refine lv_icmp_eq (tgt := 52) hx hb d_X8_parts_40 (by decide) (fun c28 => ?_) (fun c28 => ?_)
            · have f29 := i_eq c28
              have r30 : Rg y2 3 3 := by obtain ⟨a1, a2⟩ := r5; obtain ⟨b1, b2⟩ := (⟨by decide, by decide⟩ : Rg 3 3 3); have f := i_eq c28; exact ⟨by omega, by omega⟩
              have hG := g_pos c28 hG
              refine lv_iconst (v := 0) hx hb d_X8_parts_52 (by decide) ?_
              exact r_zret X hr hlocks hw hS rfl ⟨⟨hI10, hK13, (rg_w (⟨by decide, by decide⟩ : Rg 0 0 0) (by decide) (by decide)), (hm14.trans hg0.symm)⟩, hG.trans eRR.symm⟩ d_X8_parts_53
            · have f31 := i_ne c28
              have r32 : Rg y2 0 2 := by obtain ⟨a1, a2⟩ := r5; obtain ⟨b1, b2⟩ := (⟨by decide, by decide⟩ : Rg 3 3 3); have f := i_ne c28; exact ⟨by omega, by omega⟩
              have hG := g_neg c28 hG
              refine lv_aload_n hx hb d_X8_parts_43 rfl (lv_at hl 1 rfl) ?_
              refine lv_aload_n hx hb d_X8_parts_44 rfl (lv_at hl 2 rfl) ?_
              refine lv_iload_n hx hb d_X8_parts_45 rfl (lv_at hl 0 rfl) ?_
              refine r_ci (r_runVs (n := 2) (As := [.ref (ad k), .int x7]) (rest := []) X hw hSC hS (ct_X8_part_55 l D dA ad sa v8 hI10 k x7 (by omega) (by omega) r17) gc_X8_64 (rfl : KD 55 = _) (by decide) rfl (by decide +kernel) ⟨rfl, rfl, Nat.le_of_ble_eq_true rfl, Nat.le_of_ble_eq_true rfl⟩ rfl hl.1 rfl (Nat.le_of_ble_eq_true rfl) ⟨Nat.zero_le _, Nat.zero_le _⟩ d_X8_parts_46) hS (fun x34 v35 H locs hp33 hw hS => ?_)
              obtain ⟨hp33, hE36⟩ := hp33
              obtain ⟨hI37, hK38, hp33, hk39⟩ := hp33
              have hK40 : Kp (kp_X8_parts_55 k) v v35 := Kp.tr hK13 hK38 (by have z0 : (0 : Int32).toInt = 0 := rfl; intro a j; unfold kp_X8_parts_55 kp_X8_part_55; omega)
              have hm41 : v35 50 (2) = g0 := hk39.trans hm14
              have hG := bnd2_use hE36 hG
              refine lv_if_ne (tgt := 54) hx hb d_X8_parts_49 (by decide) (fun c42 => ?_) (fun c42 => ?_)
              · have f43 := i_ne c42
                have r44 : Rg x34 1 1 := by obtain ⟨a1, a2⟩ := hp33; obtain ⟨b1, b2⟩ := (⟨by decide, by decide⟩ : Rg 0 0 0); have f := i_ne c42; exact ⟨by omega, by omega⟩
                have hG := g_neg c42 hG
                obtain ⟨x45, ex45⟩ : ∃ y : Int32, y = y2 + 1 := ⟨_, rfl⟩
                have hG := bnd_use ex45 hG
                refine lv_iinc (v := x45) (lv' := [(2, .int x45), (3, .int x7), (0, .ref (ad 55)), (1, .ref (ad k))]) hx hb d_X8_parts_54 hl (k := 3) rfl (by rw [ex45]; rfl) (by decide) rfl (fun ls hl => ?_)
                have r46 : Rg x45 1 3 := rg_add ex45 r32 (⟨by decide, by decide⟩ : Rg 1 1 1) (by decide) (by decide)
                have s47 : x45.toInt = y2.toInt + (1 : Int32).toInt := by rw [ex45]; exact i_add (by obtain ⟨_, _⟩ := r32; obtain ⟨_, _⟩ := (⟨by decide, by decide⟩ : Rg 1 1 1); omega) (by obtain ⟨_, _⟩ := r32; obtain ⟨_, _⟩ := (⟨by decide, by decide⟩ : Rg 1 1 1); omega)
                have s47l : (1 : Int32).toInt = 1 := rfl
                refine lv_goto (tgt := 2) hx hb d_X8_parts_57 (by decide) ?_
                exact ih0 x45 v35 _ _ _ (by have q_ := r_g0; obtain ⟨_, _⟩ := q_; have q_ := r32; obtain ⟨_, _⟩ := q_; have q_ := r17; obtain ⟨_, _⟩ := q_; have q_ := r26; obtain ⟨_, _⟩ := q_; have q_ := r27; obtain ⟨_, _⟩ := q_; have q_ := r44; obtain ⟨_, _⟩ := q_; have q_ := r46; obtain ⟨_, _⟩ := q_; omega) (rg_w r46 (by decide) (by decide)) hI37 hK40 hm41 hG hw hS (lv_sub hl [2, 3, 0] rfl)
              · have f48 := i_eq c42
                have r49 : Rg x34 0 0 := by obtain ⟨a1, a2⟩ := hp33; obtain ⟨b1, b2⟩ := (⟨by decide, by decide⟩ : Rg 0 0 0); have f := i_eq c42; exact ⟨by omega, by omega⟩
                have hG := g_pos c42 hG
                refine lv_iconst (v := 0) hx hb d_X8_parts_52 (by decide) ?_
                exact r_zret X hr hlocks hw hS rfl ⟨⟨hI37, hK40, (rg_w (⟨by decide, by decide⟩ : Rg 0 0 0) (by decide) (by decide)), (hm41.trans hg0.symm)⟩, hG.trans eRR.symm⟩ d_X8_parts_53
          · have f50 := i_nlt c24
            have hG := g_neg c24 hG
            refine lv_aload_n hx hb d_X8_parts_31 rfl (lv_at hl 2 rfl) ?_
            refine lv_iload_n hx hb d_X8_parts_32 rfl (lv_at hl 0 rfl) ?_
            refine r_put X hw hS FP_X8_61 (KD_order (by omega) (by omega)) (SH_order (by omega) (by omega) (by decide)) ⟨rfl, rfl⟩ d_X8_parts_33 (fun H locs hw hS => ?_)
            obtain ⟨v51, ev51⟩ : ∃ z, z = up2 v8 k 4 x7 := ⟨_, rfl⟩
            rw [← ev51] at hw
            have hG := bnd_use ev51 hG
            have hI52 : Inv v51 := by rw [ev51]; exact Inv.putr hI10 (RG_order4 (by omega) (by omega)) r17
            have hK53 : Kp (kp_X8_parts_55 k) v v51 := by rw [ev51]; exact Kp.put hK13 _ (by unfold kp_X8_parts_55; omega)
            have hm54 : v51 50 2 = g0 := by rw [ev51, up2_n _ _ (by omega)]; exact hm14
            have hm55 : v51 55 2 = x18 := by rw [ev51, up2_n _ _ (by omega)]; exact hm20
            have hm56 : v51 55 1 = x21 := by rw [ev51, up2_n _ _ (by omega)]; exact hm23
            have hm57 : v51 k 4 = x7 := by rw [ev51, up2_s]
            refine lv_iconst (v := 1) hx hb d_X8_parts_36 (by decide) ?_
            exact r_zret X hr hlocks hw hS rfl ⟨⟨hI52, hK53, (rg_w (⟨by decide, by decide⟩ : Rg 1 1 1) (by decide) (by decide)), (hm54.trans hg0.symm)⟩, hG.trans eRR.symm⟩ d_X8_parts_37
        · have f58 := i_eq c15
          have r59 : Rg x7 (-1) (-1) := by obtain ⟨a1, a2⟩ := hp6; obtain ⟨b1, b2⟩ := (⟨by decide, by decide⟩ : Rg (-1) (-1) (-1)); have f := i_eq c15; exact ⟨by omega, by omega⟩
          have hG := g_pos c15 hG
          refine lv_iconst (v := 0) hx hb d_X8_parts_18 (by decide) ?_
          exact r_zret X hr hlocks hw hS rfl ⟨⟨hI10, hK13, (rg_w (⟨by decide, by decide⟩ : Rg 0 0 0) (by decide) (by decide)), (hm14.trans hg0.symm)⟩, hG.trans eRR.symm⟩ d_X8_parts_19
  have ih0 := LL 100000
  have hK0 : Kp (kp_X8_parts_55 k) v v := Kp.rf _ v
  have hG := eRR
  unfold f_X8_parts_55 at hG
  have hG := bnd_use hg0.symm hG
  refine lv_iconst (v := 0) hx hb d_X8_parts_0 (by decide) ?_
  refine lv_istore_n (lv' := [(2, .int 0), (0, .ref (ad 55)), (1, .ref (ad k))]) hx hb d_X8_parts_1 rfl hl (by decide) rfl (fun ls hl => ?_)
  exact ih0 0 v _ _ _ (by have q_ := r_g0; obtain ⟨_, _⟩ := q_; have q_ : (0 : Int32).toInt = 0 := rfl; omega) (rg_w (⟨by decide, by decide⟩ : Rg 0 0 0) (by decide) (by decide)) hI hK0 hg0 hG hw hS (lv_sub hl [1, 2, 0] rfl)
theorem d_X8_read_0 : decode c_X8_read 0 = .ok (.aload_n 0, 1) := by decide +kernel
theorem d_X8_read_1 : decode c_X8_read 1 = .ok (.iconst 0, 1) := by decide +kernel
theorem d_X8_read_2 : decode c_X8_read 2 = .ok (.putfield 19, 3) := by decide +kernel
theorem d_X8_read_5 : decode c_X8_read 5 = .ok (.aload_n 1, 1) := by decide +kernel
theorem d_X8_read_6 : decode c_X8_read 6 = .ok (.iconst 0, 1) := by decide +kernel
theorem d_X8_read_7 : decode c_X8_read 7 = .ok (.putfield 22, 3) := by decide +kernel
theorem d_X8_read_10 : decode c_X8_read 10 = .ok (.aload_n 0, 1) := by decide +kernel
theorem d_X8_read_11 : decode c_X8_read 11 = .ok (.ldc 27, 2) := by decide +kernel
theorem d_X8_read_13 : decode c_X8_read 13 = .ok (.invokevirtual 29, 3) := by decide +kernel
theorem d_X8_read_16 : decode c_X8_read 16 = .ok (.ifCond .eq 32, 3) := by decide +kernel
theorem d_X8_read_19 : decode c_X8_read 19 = .ok (.aload_n 0, 1) := by decide +kernel
theorem d_X8_read_20 : decode c_X8_read 20 = .ok (.aload_n 1, 1) := by decide +kernel
theorem d_X8_read_21 : decode c_X8_read 21 = .ok (.invokevirtual 33, 3) := by decide +kernel
theorem d_X8_read_24 : decode c_X8_read 24 = .ok (.ifCond .eq 24, 3) := by decide +kernel
theorem d_X8_read_27 : decode c_X8_read 27 = .ok (.aload_n 0, 1) := by decide +kernel
theorem d_X8_read_28 : decode c_X8_read 28 = .ok (.ldc 37, 2) := by decide +kernel
theorem d_X8_read_30 : decode c_X8_read 30 = .ok (.invokevirtual 29, 3) := by decide +kernel
theorem d_X8_read_33 : decode c_X8_read 33 = .ok (.ifCond .eq 15, 3) := by decide +kernel
theorem d_X8_read_36 : decode c_X8_read 36 = .ok (.aload_n 0, 1) := by decide +kernel
theorem d_X8_read_37 : decode c_X8_read 37 = .ok (.aload_n 1, 1) := by decide +kernel
theorem d_X8_read_38 : decode c_X8_read 38 = .ok (.invokevirtual 39, 3) := by decide +kernel
theorem d_X8_read_41 : decode c_X8_read 41 = .ok (.ifCond .eq 7, 3) := by decide +kernel
theorem d_X8_read_44 : decode c_X8_read 44 = .ok (.iconst 1, 1) := by decide +kernel
theorem d_X8_read_45 : decode c_X8_read 45 = .ok (.goto 4, 3) := by decide +kernel
theorem d_X8_read_48 : decode c_X8_read 48 = .ok (.iconst 0, 1) := by decide +kernel
theorem d_X8_read_49 : decode c_X8_read 49 = .ok (.istore_n 2, 1) := by decide +kernel
theorem d_X8_read_50 : decode c_X8_read 50 = .ok (.iload_n 2, 1) := by decide +kernel
theorem d_X8_read_51 : decode c_X8_read 51 = .ok (.ifCond .eq 7, 3) := by decide +kernel
theorem d_X8_read_54 : decode c_X8_read 54 = .ok (.iconst (-1), 1) := by decide +kernel
theorem d_X8_read_55 : decode c_X8_read 55 = .ok (.goto 7, 3) := by decide +kernel
theorem d_X8_read_58 : decode c_X8_read 58 = .ok (.aload_n 0, 1) := by decide +kernel
theorem d_X8_read_59 : decode c_X8_read 59 = .ok (.getfield 19, 3) := by decide +kernel
theorem d_X8_read_62 : decode c_X8_read 62 = .ok (.ireturn, 1) := by decide +kernel
def kp_X8_read_55 (k : Nat) (a j : Nat) : Prop := a ≠ 55 ∧ a ≠ k ∧ a ≠ k + 10 ∧ a ≠ k + 20 ∧ a ≠ k + 30
def f_X8_read_55 (v : tV) (k : Nat) : Int32 × tV := bnd (v 50 2) fun g0 => bnd (up2 v 55 2 0) fun v1 => bnd (up2 v1 k 3 0) fun v6 => bnd2 (f_X8_word_55 v6 (27, "turn ", 5)) fun x13 v14 => (if x13 = (0 : Int32) then bnd (v14 55 2) fun x25 => (x25, v14) else bnd2 (f_X8_key_55 v14 k) fun x31 v32 => (if x31 = (0 : Int32) then bnd (v32 55 2) fun x43 => (x43, v32) else bnd2 (f_X8_word_55 v32 (37, ";sell ", 6)) fun x49 v50 => (if x49 = (0 : Int32) then bnd (v50 55 2) fun x61 => (x61, v50) else bnd2 (f_X8_parts_55 v50 k) fun x67 v68 => (if x67 = (0 : Int32) then bnd (v68 55 2) fun x79 => (x79, v68) else ((-1 : Int32), v68)))))
set_option maxHeartbeats 4000000 in
set_option maxRecDepth 100000 in
theorem ct_X8_read_55 (l : Launch) (D : va_G) (dA : Nat → ClassId) (ad : Nat → Nat) (sa : Nat → Nat) (v : tV) (hI : Inv v) (k : Nat) (ka : 60 ≤ k) (kb : k < 69) : Met l m_X8_read [.code m_X8_read c_X8_read 3 (some .int)] ({ frames := 8, cells := 0, slots := 0, locals := 200 } : Room) (tPs D dA ad sa v [.ref (ad 55), .ref (ad k)]) (tQi D dA ad (fun r v' => (Inv v' ∧ Kp (kp_X8_read_55 k) v v' ∧ v' 50 2 = v 50 2) ∧ (r, v') = f_X8_read_55 v k)) 0 0 (tA ad) := by
  refine tMets (by decide) (Nat.le_of_ble_eq_true rfl) ?_
  intro p e s m below meth c ls X hr hlocks hw hSC hl
  have X : CX p s m ([.ref (ad 55), .ref (ad k)] : List Value).toArray c c_X8_read N_X8 3 D dA := X
  have hx := X.1
  have hb := X.2.1
  have hS : va_S (tA ad) s.heap s.heap [] := va_S.rf
  have hl : lv_has ls 3 [(0, .ref (ad 55)), (1, .ref (ad k))] := hl
  obtain ⟨g0, hg0⟩ : ∃ g, v 50 2 = g := ⟨_, rfl⟩
  have r_g0 : Rg g0 0 8 := by rw [← hg0]; exact hI 50 2 _ _ rfl
  obtain ⟨RR, eRR⟩ : ∃ z, f_X8_read_55 v k = z := ⟨_, rfl⟩
  have hK0 : Kp (kp_X8_read_55 k) v v := Kp.rf _ v
  have hG := eRR
  unfold f_X8_read_55 at hG
  have hG := bnd_use hg0.symm hG
  refine lv_aload_n hx hb d_X8_read_0 rfl (lv_at hl 0 rfl) ?_
  refine lv_iconst (v := 0) hx hb d_X8_read_1 (by decide) ?_
  refine r_put X hw hS FP_X8_19 (rfl : KD 55 = _) rfl ⟨rfl, rfl⟩ d_X8_read_2 (fun H locs hw hS => ?_)
  obtain ⟨v1, ev1⟩ : ∃ z, z = up2 v 55 2 0 := ⟨_, rfl⟩
  rw [← ev1] at hw
  have hG := bnd_use ev1 hG
  have hI2 : Inv v1 := by rw [ev1]; exact Inv.putr hI rfl (rg_w (⟨by decide, by decide⟩ : Rg 0 0 0) (by decide) (by decide))
  have hK3 : Kp (kp_X8_read_55 k) v v1 := by rw [ev1]; exact Kp.put hK0 _ (by unfold kp_X8_read_55; omega)
  have hm4 : v1 50 2 = g0 := by rw [ev1, up2_n _ _ (by omega)]; exact hg0
  have hm5 : v1 55 2 = 0 := by rw [ev1, up2_s]
  refine lv_aload_n hx hb d_X8_read_5 rfl (lv_at hl 1 rfl) ?_
  refine lv_iconst (v := 0) hx hb d_X8_read_6 (by decide) ?_
  refine r_put X hw hS FP_X8_22 (KD_order (by omega) (by omega)) (SH_order (by omega) (by omega) (by decide)) ⟨rfl, rfl⟩ d_X8_read_7 (fun H locs hw hS => ?_)
  obtain ⟨v6, ev6⟩ : ∃ z, z = up2 v1 k 3 0 := ⟨_, rfl⟩
  rw [← ev6] at hw
  have hG := bnd_use ev6 hG
  have hI7 : Inv v6 := by rw [ev6]; exact Inv.putr hI2 (RG_order3 (by omega) (by omega)) (rg_w (⟨by decide, by decide⟩ : Rg 0 0 0) (by decide) (by decide))
  have hK8 : Kp (kp_X8_read_55 k) v v6 := by rw [ev6]; exact Kp.put hK3 _ (by unfold kp_X8_read_55; omega)
  have hm9 : v6 50 2 = g0 := by rw [ev6, up2_n _ _ (by omega)]; exact hm4
  have hm10 : v6 55 2 = 0 := by rw [ev6, up2_n _ _ (by omega)]; exact hm5
  have hm11 : v6 k 3 = 0 := by rw [ev6, up2_s]
  refine lv_aload_n hx hb d_X8_read_10 rfl (lv_at hl 0 rfl) ?_
  refine va_ldcS hx hb X.2.2.2.1 (hSC.2 (27, "turn ", 5) (by decide)).1 d_X8_read_11 ?_
  refine r_ci (r_runVs (n := 1) (As := [.ref (sa 27)]) (rest := []) X hw hSC hS (ct_X8_word_55 l D dA ad sa v6 hI7 (27, "turn ", 5) (by decide)) gc_X8_29 (rfl : KD 55 = _) (by decide) rfl (by decide +kernel) ⟨rfl, rfl, Nat.le_of_ble_eq_true rfl, Nat.le_of_ble_eq_true rfl⟩ rfl hl.1 rfl (Nat.le_of_ble_eq_true rfl) ⟨Nat.zero_le _, Nat.zero_le _⟩ d_X8_read_13) hS (fun x13 v14 H locs hp12 hw hS => ?_)
  obtain ⟨hp12, hE15⟩ := hp12
  obtain ⟨hI16, hK17, hp12, hk18⟩ := hp12
  have hK19 : Kp (kp_X8_read_55 k) v v14 := Kp.tr hK8 hK17 (by have z0 : (0 : Int32).toInt = 0 := rfl; intro a j; unfold kp_X8_read_55 kp_X8_word_55; omega)
  have hm20 : v14 50 (2) = g0 := hk18.trans hm9
  have hG := bnd2_use hE15 hG
  refine lv_if_eq (tgt := 48) hx hb d_X8_read_16 (by decide) (fun c21 => ?_) (fun c21 => ?_)
  · have f22 := i_eq c21
    have r23 : Rg x13 0 0 := by obtain ⟨a1, a2⟩ := hp12; obtain ⟨b1, b2⟩ := (⟨by decide, by decide⟩ : Rg 0 0 0); have f := i_eq c21; exact ⟨by omega, by omega⟩
    have hG := g_pos c21 hG
    refine lv_iconst (v := 0) hx hb d_X8_read_48 (by decide) ?_
    refine lv_istore_n (lv' := [(2, .int 0), (0, .ref (ad 55)), (1, .ref (ad k))]) hx hb d_X8_read_49 rfl hl (by decide) rfl (fun ls hl => ?_)
    refine lv_iload_n hx hb d_X8_read_50 rfl (lv_at hl 0 rfl) ?_
    refine lv_if_eq (tgt := 58) hx hb d_X8_read_51 (by decide) (fun c24 => ?_) (fun c24 => ?_)
    · refine lv_aload_n hx hb d_X8_read_58 rfl (lv_at hl 1 rfl) ?_
      refine r_geti X hw FL_X8_19 (rfl : KD 55 = _) rfl d_X8_read_59 ?_
      refine lv_topi (fun x25 ex25 => ?_)
      have hG := bnd_use ex25 hG
      have r26 : Rg x25 0 120 := by rw [ex25]; exact hI16 _ _ _ _ rfl
      have hm27 : v14 55 2 = x25 := ex25.symm
      exact r_iret X hr hlocks hw hS ⟨⟨hI16, hK19, (hm20.trans hg0.symm)⟩, hG.trans eRR.symm⟩ d_X8_read_62
    · exact absurd c24 (by decide)
  · have f28 := i_ne c21
    have r29 : Rg x13 1 1 := by obtain ⟨a1, a2⟩ := hp12; obtain ⟨b1, b2⟩ := (⟨by decide, by decide⟩ : Rg 0 0 0); have f := i_ne c21; exact ⟨by omega, by omega⟩
    have hG := g_neg c21 hG
    refine lv_aload_n hx hb d_X8_read_19 rfl (lv_at hl 0 rfl) ?_
    refine lv_aload_n hx hb d_X8_read_20 rfl (lv_at hl 1 rfl) ?_
    refine r_ci (r_runVs (n := 1) (As := [.ref (ad k)]) (rest := []) X hw hSC hS (ct_X8_key_55 l D dA ad sa v14 hI16 k (by omega) (by omega)) gc_X8_33 (rfl : KD 55 = _) (by decide) rfl (by decide +kernel) ⟨rfl, rfl, Nat.le_of_ble_eq_true rfl, Nat.le_of_ble_eq_true rfl⟩ rfl hl.1 rfl (Nat.le_of_ble_eq_true rfl) ⟨Nat.zero_le _, Nat.zero_le _⟩ d_X8_read_21) hS (fun x31 v32 H locs hp30 hw hS => ?_)
    obtain ⟨hp30, hE33⟩ := hp30
    obtain ⟨hI34, hK35, hp30, hk36⟩ := hp30
    have hK37 : Kp (kp_X8_read_55 k) v v32 := Kp.tr hK19 hK35 (by have z0 : (0 : Int32).toInt = 0 := rfl; intro a j; unfold kp_X8_read_55 kp_X8_key_55; omega)
    have hm38 : v32 50 (2) = g0 := hk36.trans hm20
    have hG := bnd2_use hE33 hG
    refine lv_if_eq (tgt := 48) hx hb d_X8_read_24 (by decide) (fun c39 => ?_) (fun c39 => ?_)
    · have f40 := i_eq c39
      have r41 : Rg x31 0 0 := by obtain ⟨a1, a2⟩ := hp30; obtain ⟨b1, b2⟩ := (⟨by decide, by decide⟩ : Rg 0 0 0); have f := i_eq c39; exact ⟨by omega, by omega⟩
      have hG := g_pos c39 hG
      refine lv_iconst (v := 0) hx hb d_X8_read_48 (by decide) ?_
      refine lv_istore_n (lv' := [(2, .int 0), (0, .ref (ad 55)), (1, .ref (ad k))]) hx hb d_X8_read_49 rfl hl (by decide) rfl (fun ls hl => ?_)
      refine lv_iload_n hx hb d_X8_read_50 rfl (lv_at hl 0 rfl) ?_
      refine lv_if_eq (tgt := 58) hx hb d_X8_read_51 (by decide) (fun c42 => ?_) (fun c42 => ?_)
      · refine lv_aload_n hx hb d_X8_read_58 rfl (lv_at hl 1 rfl) ?_
        refine r_geti X hw FL_X8_19 (rfl : KD 55 = _) rfl d_X8_read_59 ?_
        refine lv_topi (fun x43 ex43 => ?_)
        have hG := bnd_use ex43 hG
        have r44 : Rg x43 0 120 := by rw [ex43]; exact hI34 _ _ _ _ rfl
        have hm45 : v32 55 2 = x43 := ex43.symm
        exact r_iret X hr hlocks hw hS ⟨⟨hI34, hK37, (hm38.trans hg0.symm)⟩, hG.trans eRR.symm⟩ d_X8_read_62
      · exact absurd c42 (by decide)
    · have f46 := i_ne c39
      have r47 : Rg x31 1 1 := by obtain ⟨a1, a2⟩ := hp30; obtain ⟨b1, b2⟩ := (⟨by decide, by decide⟩ : Rg 0 0 0); have f := i_ne c39; exact ⟨by omega, by omega⟩
      have hG := g_neg c39 hG
      refine lv_aload_n hx hb d_X8_read_27 rfl (lv_at hl 0 rfl) ?_
      refine va_ldcS hx hb X.2.2.2.1 (hSC.2 (37, ";sell ", 6) (by decide)).1 d_X8_read_28 ?_
      refine r_ci (r_runVs (n := 1) (As := [.ref (sa 37)]) (rest := []) X hw hSC hS (ct_X8_word_55 l D dA ad sa v32 hI34 (37, ";sell ", 6) (by decide)) gc_X8_29 (rfl : KD 55 = _) (by decide) rfl (by decide +kernel) ⟨rfl, rfl, Nat.le_of_ble_eq_true rfl, Nat.le_of_ble_eq_true rfl⟩ rfl hl.1 rfl (Nat.le_of_ble_eq_true rfl) ⟨Nat.zero_le _, Nat.zero_le _⟩ d_X8_read_30) hS (fun x49 v50 H locs hp48 hw hS => ?_)
      obtain ⟨hp48, hE51⟩ := hp48
      obtain ⟨hI52, hK53, hp48, hk54⟩ := hp48
      have hK55 : Kp (kp_X8_read_55 k) v v50 := Kp.tr hK37 hK53 (by have z0 : (0 : Int32).toInt = 0 := rfl; intro a j; unfold kp_X8_read_55 kp_X8_word_55; omega)
      have hm56 : v50 50 (2) = g0 := hk54.trans hm38
      have hG := bnd2_use hE51 hG
      refine lv_if_eq (tgt := 48) hx hb d_X8_read_33 (by decide) (fun c57 => ?_) (fun c57 => ?_)
      · have f58 := i_eq c57
        have r59 : Rg x49 0 0 := by obtain ⟨a1, a2⟩ := hp48; obtain ⟨b1, b2⟩ := (⟨by decide, by decide⟩ : Rg 0 0 0); have f := i_eq c57; exact ⟨by omega, by omega⟩
        have hG := g_pos c57 hG
        refine lv_iconst (v := 0) hx hb d_X8_read_48 (by decide) ?_
        refine lv_istore_n (lv' := [(2, .int 0), (0, .ref (ad 55)), (1, .ref (ad k))]) hx hb d_X8_read_49 rfl hl (by decide) rfl (fun ls hl => ?_)
        refine lv_iload_n hx hb d_X8_read_50 rfl (lv_at hl 0 rfl) ?_
        refine lv_if_eq (tgt := 58) hx hb d_X8_read_51 (by decide) (fun c60 => ?_) (fun c60 => ?_)
        · refine lv_aload_n hx hb d_X8_read_58 rfl (lv_at hl 1 rfl) ?_
          refine r_geti X hw FL_X8_19 (rfl : KD 55 = _) rfl d_X8_read_59 ?_
          refine lv_topi (fun x61 ex61 => ?_)
          have hG := bnd_use ex61 hG
          have r62 : Rg x61 0 120 := by rw [ex61]; exact hI52 _ _ _ _ rfl
          have hm63 : v50 55 2 = x61 := ex61.symm
          exact r_iret X hr hlocks hw hS ⟨⟨hI52, hK55, (hm56.trans hg0.symm)⟩, hG.trans eRR.symm⟩ d_X8_read_62
        · exact absurd c60 (by decide)
      · have f64 := i_ne c57
        have r65 : Rg x49 1 1 := by obtain ⟨a1, a2⟩ := hp48; obtain ⟨b1, b2⟩ := (⟨by decide, by decide⟩ : Rg 0 0 0); have f := i_ne c57; exact ⟨by omega, by omega⟩
        have hG := g_neg c57 hG
        refine lv_aload_n hx hb d_X8_read_36 rfl (lv_at hl 0 rfl) ?_
        refine lv_aload_n hx hb d_X8_read_37 rfl (lv_at hl 1 rfl) ?_
        refine r_ci (r_runVs (n := 1) (As := [.ref (ad k)]) (rest := []) X hw hSC hS (ct_X8_parts_55 l D dA ad sa v50 hI52 k (by omega) (by omega)) gc_X8_39 (rfl : KD 55 = _) (by decide) rfl (by decide +kernel) ⟨rfl, rfl, Nat.le_of_ble_eq_true rfl, Nat.le_of_ble_eq_true rfl⟩ rfl hl.1 rfl (Nat.le_of_ble_eq_true rfl) ⟨Nat.zero_le _, Nat.zero_le _⟩ d_X8_read_38) hS (fun x67 v68 H locs hp66 hw hS => ?_)
        obtain ⟨hp66, hE69⟩ := hp66
        obtain ⟨hI70, hK71, hp66, hk72⟩ := hp66
        have hK73 : Kp (kp_X8_read_55 k) v v68 := Kp.tr hK55 hK71 (by have z0 : (0 : Int32).toInt = 0 := rfl; intro a j; unfold kp_X8_read_55 kp_X8_parts_55; omega)
        have hm74 : v68 50 (2) = g0 := hk72.trans hm56
        have hG := bnd2_use hE69 hG
        refine lv_if_eq (tgt := 48) hx hb d_X8_read_41 (by decide) (fun c75 => ?_) (fun c75 => ?_)
        · have f76 := i_eq c75
          have r77 : Rg x67 0 0 := by obtain ⟨a1, a2⟩ := hp66; obtain ⟨b1, b2⟩ := (⟨by decide, by decide⟩ : Rg 0 0 0); have f := i_eq c75; exact ⟨by omega, by omega⟩
          have hG := g_pos c75 hG
          refine lv_iconst (v := 0) hx hb d_X8_read_48 (by decide) ?_
          refine lv_istore_n (lv' := [(2, .int 0), (0, .ref (ad 55)), (1, .ref (ad k))]) hx hb d_X8_read_49 rfl hl (by decide) rfl (fun ls hl => ?_)
          refine lv_iload_n hx hb d_X8_read_50 rfl (lv_at hl 0 rfl) ?_
          refine lv_if_eq (tgt := 58) hx hb d_X8_read_51 (by decide) (fun c78 => ?_) (fun c78 => ?_)
          · refine lv_aload_n hx hb d_X8_read_58 rfl (lv_at hl 1 rfl) ?_
            refine r_geti X hw FL_X8_19 (rfl : KD 55 = _) rfl d_X8_read_59 ?_
            refine lv_topi (fun x79 ex79 => ?_)
            have hG := bnd_use ex79 hG
            have r80 : Rg x79 0 120 := by rw [ex79]; exact hI70 _ _ _ _ rfl
            have hm81 : v68 55 2 = x79 := ex79.symm
            exact r_iret X hr hlocks hw hS ⟨⟨hI70, hK73, (hm74.trans hg0.symm)⟩, hG.trans eRR.symm⟩ d_X8_read_62
          · exact absurd c78 (by decide)
        · have f82 := i_ne c75
          have r83 : Rg x67 1 1 := by obtain ⟨a1, a2⟩ := hp66; obtain ⟨b1, b2⟩ := (⟨by decide, by decide⟩ : Rg 0 0 0); have f := i_ne c75; exact ⟨by omega, by omega⟩
          have hG := g_neg c75 hG
          refine lv_iconst (v := 1) hx hb d_X8_read_44 (by decide) ?_
          refine lv_goto (tgt := 49) hx hb d_X8_read_45 (by decide) ?_
          refine lv_istore_n (lv' := [(2, .int 1), (0, .ref (ad 55)), (1, .ref (ad k))]) hx hb d_X8_read_49 rfl hl (by decide) rfl (fun ls hl => ?_)
          refine lv_iload_n hx hb d_X8_read_50 rfl (lv_at hl 0 rfl) ?_
          refine lv_if_eq (tgt := 58) hx hb d_X8_read_51 (by decide) (fun c84 => ?_) (fun c84 => ?_)
          · exact absurd c84 (by decide)
          · refine lv_iconst (v := -1) hx hb d_X8_read_54 (by decide) ?_
            refine lv_goto (tgt := 62) hx hb d_X8_read_55 (by decide) ?_
            exact r_iret X hr hlocks hw hS ⟨⟨hI70, hK73, (hm74.trans hg0.symm)⟩, hG.trans eRR.symm⟩ d_X8_read_62
theorem d_X10_order_0 : decode c_X10_order 0 = .ok (.iload_n 1, 1) := by decide +kernel
theorem d_X10_order_1 : decode c_X10_order 1 = .ok (.iconst 0, 1) := by decide +kernel
theorem d_X10_order_2 : decode c_X10_order 2 = .ok (.sipush 999, 3) := by decide +kernel
theorem d_X10_order_5 : decode c_X10_order 5 = .ok (.invokestatic 74, 3) := by decide +kernel
theorem d_X10_order_8 : decode c_X10_order 8 = .ok (.ifCond .ne 6, 3) := by decide +kernel
theorem d_X10_order_11 : decode c_X10_order 11 = .ok (.bipush (-2), 2) := by decide +kernel
theorem d_X10_order_13 : decode c_X10_order 13 = .ok (.ireturn, 1) := by decide +kernel
theorem d_X10_order_14 : decode c_X10_order 14 = .ok (.aload_n 0, 1) := by decide +kernel
theorem d_X10_order_15 : decode c_X10_order 15 = .ok (.getfield 52, 3) := by decide +kernel
theorem d_X10_order_18 : decode c_X10_order 18 = .ok (.getfield 168, 3) := by decide +kernel
theorem d_X10_order_21 : decode c_X10_order 21 = .ok (.bipush 8, 2) := by decide +kernel
theorem d_X10_order_23 : decode c_X10_order 23 = .ok (.if_icmp .lt 6, 3) := by decide +kernel
theorem d_X10_order_26 : decode c_X10_order 26 = .ok (.bipush (-4), 2) := by decide +kernel
theorem d_X10_order_28 : decode c_X10_order 28 = .ok (.ireturn, 1) := by decide +kernel
theorem d_X10_order_29 : decode c_X10_order 29 = .ok (.aload_n 0, 1) := by decide +kernel
theorem d_X10_order_30 : decode c_X10_order 30 = .ok (.getfield 52, 3) := by decide +kernel
theorem d_X10_order_33 : decode c_X10_order 33 = .ok (.getfield 169, 3) := by decide +kernel
theorem d_X10_order_36 : decode c_X10_order 36 = .ok (.aload_n 0, 1) := by decide +kernel
theorem d_X10_order_37 : decode c_X10_order 37 = .ok (.getfield 52, 3) := by decide +kernel
theorem d_X10_order_40 : decode c_X10_order 40 = .ok (.getfield 168, 3) := by decide +kernel
theorem d_X10_order_43 : decode c_X10_order 43 = .ok (.aaload, 1) := by decide +kernel
theorem d_X10_order_44 : decode c_X10_order 44 = .ok (.astore_n 2, 1) := by decide +kernel
theorem d_X10_order_45 : decode c_X10_order 45 = .ok (.aload_n 0, 1) := by decide +kernel
theorem d_X10_order_46 : decode c_X10_order 46 = .ok (.getfield 59, 3) := by decide +kernel
theorem d_X10_order_49 : decode c_X10_order 49 = .ok (.aload_n 2, 1) := by decide +kernel
theorem d_X10_order_50 : decode c_X10_order 50 = .ok (.invokevirtual 173, 3) := by decide +kernel
theorem d_X10_order_53 : decode c_X10_order 53 = .ok (.istore_n 3, 1) := by decide +kernel
theorem d_X10_order_54 : decode c_X10_order 54 = .ok (.aload_n 0, 1) := by decide +kernel
theorem d_X10_order_55 : decode c_X10_order 55 = .ok (.getfield 59, 3) := by decide +kernel
theorem d_X10_order_58 : decode c_X10_order 58 = .ok (.iconst 0, 1) := by decide +kernel
theorem d_X10_order_59 : decode c_X10_order 59 = .ok (.putfield 161, 3) := by decide +kernel
theorem d_X10_order_62 : decode c_X10_order 62 = .ok (.iload_n 3, 1) := by decide +kernel
theorem d_X10_order_63 : decode c_X10_order 63 = .ok (.iconst (-1), 1) := by decide +kernel
theorem d_X10_order_64 : decode c_X10_order 64 = .ok (.if_icmp .eq 8, 3) := by decide +kernel
theorem d_X10_order_67 : decode c_X10_order 67 = .ok (.bipush (-10), 2) := by decide +kernel
theorem d_X10_order_69 : decode c_X10_order 69 = .ok (.iload_n 3, 1) := by decide +kernel
theorem d_X10_order_70 : decode c_X10_order 70 = .ok (.isub, 1) := by decide +kernel
theorem d_X10_order_71 : decode c_X10_order 71 = .ok (.ireturn, 1) := by decide +kernel
theorem d_X10_order_72 : decode c_X10_order 72 = .ok (.aload_n 2, 1) := by decide +kernel
theorem d_X10_order_73 : decode c_X10_order 73 = .ok (.iload_n 1, 1) := by decide +kernel
theorem d_X10_order_74 : decode c_X10_order 74 = .ok (.putfield 177, 3) := by decide +kernel
theorem d_X10_order_77 : decode c_X10_order 77 = .ok (.aload_n 0, 1) := by decide +kernel
theorem d_X10_order_78 : decode c_X10_order 78 = .ok (.getfield 52, 3) := by decide +kernel
theorem d_X10_order_81 : decode c_X10_order 81 = .ok (.dup, 1) := by decide +kernel
theorem d_X10_order_82 : decode c_X10_order 82 = .ok (.getfield 168, 3) := by decide +kernel
theorem d_X10_order_85 : decode c_X10_order 85 = .ok (.dup_x1, 1) := by decide +kernel
theorem d_X10_order_86 : decode c_X10_order 86 = .ok (.iconst 1, 1) := by decide +kernel
theorem d_X10_order_87 : decode c_X10_order 87 = .ok (.iadd, 1) := by decide +kernel
theorem d_X10_order_88 : decode c_X10_order 88 = .ok (.putfield 168, 3) := by decide +kernel
theorem d_X10_order_91 : decode c_X10_order 91 = .ok (.ireturn, 1) := by decide +kernel
def kp_X10_order_0 (dy : Int32) (a j : Nat) : Prop := a ≠ 55 ∧ (a ≠ 50 ∨ j ≠ 2) ∧ (a < 60 ∨ 99 ≤ a)
def f_X10_order_0 (v : tV) (dy : Int32) : Int32 × tV := (if (0 : Int32).toInt ≤ dy.toInt ∧ dy.toInt ≤ (999 : Int32).toInt then bnd (v 50 2) fun x7 => (if x7 < (8 : Int32) then bnd (60 + x7.toNatClampNeg) fun kc13 => bnd2 (f_X8_read_55 v kc13) fun x15 v16 => bnd (up2 v16 55 1 0) fun v23 => (if x15 = (-1 : Int32) then bnd (up2 v23 kc13 6 dy) fun v31 => bnd (x7 + (1 : Int32)) fun x36 => bnd (up2 v31 50 2 x36) fun v39 => (x7, v39) else bnd ((-10 : Int32) - x15) fun x45 => (x45, v23)) else ((-4 : Int32), v)) else ((-2 : Int32), v))
set_option maxHeartbeats 4000000 in
set_option maxRecDepth 100000 in
theorem ct_X10_order_0 (l : Launch) (D : va_G) (dA : Nat → ClassId) (ad : Nat → Nat) (sa : Nat → Nat) (v : tV) (hI : Inv v) (dy : Int32) : Met l m_X10_order [.code m_X10_order c_X10_order 4 (some .int)] ({ frames := 9, cells := 0, slots := 0, locals := 222 } : Room) (tPs D dA ad sa v [.ref (ad 0), .int dy]) (tQi D dA ad (fun r v' => (Inv v' ∧ Kp (kp_X10_order_0 dy) v v') ∧ (r, v') = f_X10_order_0 v dy)) 0 0 (tA ad) := by
  refine tMets (by decide) (Nat.le_of_ble_eq_true rfl) ?_
  intro p e s m below meth c ls X hr hlocks hw hSC hl
  have X : CX p s m ([.ref (ad 0), .int dy] : List Value).toArray c c_X10_order N_X10 4 D dA := X
  have hx := X.1
  have hb := X.2.1
  have hS : va_S (tA ad) s.heap s.heap [] := va_S.rf
  have hl : lv_has ls 4 [(0, .ref (ad 0)), (1, .int dy)] := hl
  obtain ⟨RR, eRR⟩ : ∃ z, f_X10_order_0 v dy = z := ⟨_, rfl⟩
  have hK0 : Kp (kp_X10_order_0 dy) v v := Kp.rf _ v
  have hG := eRR
  unfold f_X10_order_0 at hG
  refine lv_iload_n hx hb d_X10_order_0 rfl (lv_at hl 1 rfl) ?_
  refine lv_iconst (v := 0) hx hb d_X10_order_1 (by decide) ?_
  refine lv_sipush (v := 999) hx hb d_X10_order_2 (by decide) ?_
  refine r_ci (r_runS (n := 3) (As := [.int dy, .int 0, .int 999]) (rest := []) X hw (ct_X10_within l D dA ad v hI dy 0 999) gc_X10_74 (by decide +kernel) ⟨rfl, rfl, Nat.le_of_ble_eq_true rfl, Nat.le_of_ble_eq_true rfl⟩ rfl hl.1 rfl (Nat.le_of_ble_eq_true rfl) ⟨Nat.zero_le _, Nat.zero_le _⟩ d_X10_order_5) hS (fun x2 v3 H locs hp1 hw hS => ?_)
  obtain ⟨ev3, hp1⟩ := hp1
  rw [ev3] at hw
  rcases hp1 with ⟨rfl, w4a, w4b⟩ | ⟨rfl, w4n⟩
  · skip
    have hG := g_pos ⟨w4a, w4b⟩ hG
    have r5 : Rg dy 0 999 := by obtain ⟨_, _⟩ := (rg_any dy); have : (0 : Int32).toInt = 0 := rfl; have : (999 : Int32).toInt = 999 := rfl; exact ⟨by omega, by omega⟩
    refine lv_if_ne (tgt := 14) hx hb d_X10_order_8 (by decide) (fun c6 => ?_) (fun c6 => ?_)
    · refine lv_aload_n hx hb d_X10_order_14 rfl (lv_at hl 0 rfl) ?_
      refine r_getr (r := 50) X hw FL_X10_52 (rfl : KD 0 = _) rfl d_X10_order_15 ?_
      refine r_geti X hw FL_X10_168 (rfl : KD 50 = _) rfl d_X10_order_18 ?_
      refine lv_topi (fun x7 ex7 => ?_)
      have hG := bnd_use ex7 hG
      have r8 : Rg x7 0 8 := by rw [ex7]; exact hI _ _ _ _ rfl
      have hm9 : v 50 2 = x7 := ex7.symm
      refine lv_bipush (v := 8) hx hb d_X10_order_21 (by decide) ?_
      refine lv_icmp_lt (tgt := 29) hx hb d_X10_order_23 (by decide) (fun c10 => ?_) (fun c10 => ?_)
      · have f11 := i_lt c10
        have r12 : Rg x7 0 7 := by obtain ⟨a1, a2⟩ := r8; obtain ⟨b1, b2⟩ := (⟨by decide, by decide⟩ : Rg 8 8 8); have f := i_lt c10; exact ⟨by omega, by omega⟩
        have hG := g_pos c10 hG
        refine lv_aload_n hx hb d_X10_order_29 rfl (lv_at hl 0 rfl) ?_
        refine r_getr (r := 50) X hw FL_X10_52 (rfl : KD 0 = _) rfl d_X10_order_30 ?_
        refine r_getr (r := 51) X hw FL_X10_169 (rfl : KD 50 = _) rfl d_X10_order_33 ?_
        refine lv_aload_n hx hb d_X10_order_36 rfl (lv_at hl 0 rfl) ?_
        refine r_getr (r := 50) X hw FL_X10_52 (rfl : KD 0 = _) rfl d_X10_order_37 ?_
        refine r_geti X hw FL_X10_168 (rfl : KD 50 = _) rfl d_X10_order_40 ?_
        refine lv_seti hm9 ?_
        refine r_aald X hw (rfl : KD 51 = _) (Or.inr (Or.inr (Or.inr rfl))) (Rg.vp (b := 7) r12 (by decide)) rfl d_X10_order_43 ?_
        refine r_nm (fun kc13 ekc13 => ?_)
        have hG := bnd_use ekc13 hG
        have kc13a : 60 ≤ kc13 := by omega
        have kc13b : kc13 ≤ 67 := by have := Rg.nat r12; omega
        refine lv_astore_n (lv' := [(2, .ref (ad kc13)), (0, .ref (ad 0)), (1, .int dy)]) hx hb d_X10_order_44 rfl hl (by decide) rfl (fun ls hl => ?_)
        refine lv_aload_n hx hb d_X10_order_45 rfl (lv_at hl 1 rfl) ?_
        refine r_getr (r := 55) X hw FL_X10_59 (rfl : KD 0 = _) rfl d_X10_order_46 ?_
        refine lv_aload_n hx hb d_X10_order_49 rfl (lv_at hl 0 rfl) ?_
        refine r_ci (r_runVs (n := 1) (As := [.ref (ad kc13)]) (rest := []) X hw hSC hS (ct_X8_read_55 l D dA ad sa v hI kc13 (by omega) (by omega)) gc_X10_173 (rfl : KD 55 = _) (by decide) rfl (by decide +kernel) ⟨rfl, rfl, Nat.le_of_ble_eq_true rfl, Nat.le_of_ble_eq_true rfl⟩ rfl hl.1 rfl (Nat.le_of_ble_eq_true rfl) ⟨Nat.zero_le _, Nat.zero_le _⟩ d_X10_order_50) hS (fun x15 v16 H locs hp14 hw hS => ?_)
        obtain ⟨hp14, hE17⟩ := hp14
        obtain ⟨hI18, hK19, hk20⟩ := hp14
        have hK21 : Kp (kp_X10_order_0 dy) v v16 := Kp.tr hK0 hK19 (by have z0 : (0 : Int32).toInt = 0 := rfl; intro a j; unfold kp_X10_order_0 kp_X8_read_55; omega)
        have hm22 : v16 50 (2) = x7 := hk20.trans hm9
        have hG := bnd2_use hE17 hG
        refine lv_istore_n (lv' := [(3, .int x15), (2, .ref (ad kc13)), (0, .ref (ad 0)), (1, .int dy)]) hx hb d_X10_order_53 rfl hl (by decide) rfl (fun ls hl => ?_)
        refine lv_aload_n hx hb d_X10_order_54 rfl (lv_at hl 2 rfl) ?_
        refine r_getr (r := 55) X hw FL_X10_59 (rfl : KD 0 = _) rfl d_X10_order_55 ?_
        refine lv_iconst (v := 0) hx hb d_X10_order_58 (by decide) ?_
        refine r_put X hw hS FP_X10_161 (rfl : KD 55 = _) rfl ⟨rfl, rfl⟩ d_X10_order_59 (fun H locs hw hS => ?_)
        obtain ⟨v23, ev23⟩ : ∃ z, z = up2 v16 55 1 0 := ⟨_, rfl⟩
        rw [← ev23] at hw
        have hG := bnd_use ev23 hG
        have hI24 : Inv v23 := by rw [ev23]; exact Inv.putr hI18 rfl (rg_w (⟨by decide, by decide⟩ : Rg 0 0 0) (by decide) (by decide))
        have hK25 : Kp (kp_X10_order_0 dy) v v23 := by rw [ev23]; exact Kp.put hK21 _ (by unfold kp_X10_order_0; omega)
        have hm26 : v23 50 2 = x7 := by rw [ev23, up2_n _ _ (by omega)]; exact hm22
        have hm27 : v23 55 1 = 0 := by rw [ev23, up2_s]
        refine lv_iload_n hx hb d_X10_order_62 rfl (lv_at hl 0 rfl) ?_
        refine lv_iconst (v := -1) hx hb d_X10_order_63 (by decide) ?_
        refine lv_icmp_eq (tgt := 72) hx hb d_X10_order_64 (by decide) (fun c28 => ?_) (fun c28 => ?_)
        · have f29 := i_eq c28
          have r30 : Rg x15 (-1) (-1) := by obtain ⟨a1, a2⟩ := (rg_any x15); obtain ⟨b1, b2⟩ := (⟨by decide, by decide⟩ : Rg (-1) (-1) (-1)); have f := i_eq c28; exact ⟨by omega, by omega⟩
          have hG := g_pos c28 hG
          refine lv_aload_n hx hb d_X10_order_72 rfl (lv_at hl 1 rfl) ?_
          refine lv_iload_n hx hb d_X10_order_73 rfl (lv_at hl 3 rfl) ?_
          refine r_put X hw hS FP_X10_177 (KD_order (by omega) (by omega)) (SH_order (by omega) (by omega) (by decide)) ⟨rfl, rfl⟩ d_X10_order_74 (fun H locs hw hS => ?_)
          obtain ⟨v31, ev31⟩ : ∃ z, z = up2 v23 kc13 6 dy := ⟨_, rfl⟩
          rw [← ev31] at hw
          have hG := bnd_use ev31 hG
          have hI32 : Inv v31 := by rw [ev31]; exact Inv.put0 hI24 _ (RG_order (by omega) (by omega) (by decide))
          have hK33 : Kp (kp_X10_order_0 dy) v v31 := by rw [ev31]; exact Kp.put hK25 _ (by unfold kp_X10_order_0; omega)
          have hm34 : v31 50 2 = x7 := by rw [ev31, up2_n _ _ (by omega)]; exact hm26
          have hm35 : v31 55 1 = 0 := by rw [ev31, up2_n _ _ (by omega)]; exact hm27
          refine lv_aload_n hx hb d_X10_order_77 rfl (lv_at hl 2 rfl) ?_
          refine r_getr (r := 50) X hw FL_X10_52 (rfl : KD 0 = _) rfl d_X10_order_78 ?_
          refine lv_dup hx hb d_X10_order_81 rfl ?_
          refine r_geti X hw FL_X10_168 (rfl : KD 50 = _) rfl d_X10_order_82 ?_
          refine lv_seti hm34 ?_
          refine lv_dup_x1 hx hb d_X10_order_85 rfl rfl ?_
          refine lv_iconst (v := 1) hx hb d_X10_order_86 (by decide) ?_
          refine lv_iadd hx hb d_X10_order_87 ?_
          refine lv_topi (fun x36 ex36 => ?_)
          have hG := bnd_use ex36 hG
          have r37 : Rg x36 1 8 := rg_add ex36 r12 (⟨by decide, by decide⟩ : Rg 1 1 1) (by decide) (by decide)
          have s38 : x36.toInt = x7.toInt + (1 : Int32).toInt := by rw [ex36]; exact i_add (by obtain ⟨_, _⟩ := r12; obtain ⟨_, _⟩ := (⟨by decide, by decide⟩ : Rg 1 1 1); omega) (by obtain ⟨_, _⟩ := r12; obtain ⟨_, _⟩ := (⟨by decide, by decide⟩ : Rg 1 1 1); omega)
          have s38l : (1 : Int32).toInt = 1 := rfl
          refine r_put X hw hS FP_X10_168 (rfl : KD 50 = _) rfl ⟨rfl, rfl⟩ d_X10_order_88 (fun H locs hw hS => ?_)
          obtain ⟨v39, ev39⟩ : ∃ z, z = up2 v31 50 2 x36 := ⟨_, rfl⟩
          rw [← ev39] at hw
          have hG := bnd_use ev39 hG
          have hI40 : Inv v39 := by rw [ev39]; exact Inv.putr hI32 rfl (rg_w r37 (by decide) (by decide))
          have hK41 : Kp (kp_X10_order_0 dy) v v39 := by rw [ev39]; exact Kp.put hK33 _ (by unfold kp_X10_order_0; omega)
          have hm42 : v39 55 1 = 0 := by rw [ev39, up2_n _ _ (by omega)]; exact hm35
          have hm43 : v39 50 2 = x36 := by rw [ev39, up2_s]
          exact r_iret X hr hlocks hw hS ⟨⟨hI40, hK41⟩, hG.trans eRR.symm⟩ d_X10_order_91
        · have f44 := i_ne c28
          have hG := g_neg c28 hG
          refine lv_bipush (v := -10) hx hb d_X10_order_67 (by decide) ?_
          refine lv_iload_n hx hb d_X10_order_69 rfl (lv_at hl 0 rfl) ?_
          refine lv_isub hx hb d_X10_order_70 ?_
          refine lv_topi (fun x45 ex45 => ?_)
          have hG := bnd_use ex45 hG
          exact r_iret X hr hlocks hw hS ⟨⟨hI24, hK25⟩, hG.trans eRR.symm⟩ d_X10_order_71
      · have f46 := i_nlt c10
        have r47 : Rg x7 8 8 := by obtain ⟨a1, a2⟩ := r8; obtain ⟨b1, b2⟩ := (⟨by decide, by decide⟩ : Rg 8 8 8); have f := i_nlt c10; exact ⟨by omega, by omega⟩
        have hG := g_neg c10 hG
        refine lv_bipush (v := -4) hx hb d_X10_order_26 (by decide) ?_
        exact r_iret X hr hlocks hw hS ⟨⟨hI, hK0⟩, hG.trans eRR.symm⟩ d_X10_order_28
    · exact absurd c6 (by decide)
  · skip
    have hG := g_neg w4n hG
    refine lv_if_ne (tgt := 14) hx hb d_X10_order_8 (by decide) (fun c48 => ?_) (fun c48 => ?_)
    · exact absurd c48 (by decide)
    · refine lv_bipush (v := -2) hx hb d_X10_order_11 (by decide) ?_
      exact r_iret X hr hlocks hw hS ⟨⟨hI, hK0⟩, hG.trans eRR.symm⟩ d_X10_order_13
