def STAB : List (Nat × String × Nat) := [(27, "turn ", 5), (41, "a", 1), (45, "sk", 2), (47, "e", 1), (49, "ntry", 4), (51, "lo", 2), (53, "t", 1), (55, "ad", 2), (37, ";sell ", 6), (68, " at ", 4), (70, "<", 1), (72, ">", 1), (78, ",", 1)]
theorem st_le : ∀ x : Nat × String × Nat, x ∈ STAB → x.2.2 ≤ 6 := by decide +kernel
def SC (sa : Nat → Nat) (A : Nat → Prop) (U : State) (H : Heap) : Prop := SZ A U H ∧ ∀ x : Nat × String × Nat, x ∈ STAB → vk_R N_X8 x.1 x.2.1 (sa x.1) U ∧ SO A (sa x.1) x.2.2 U H
theorem SC.warm {sa : Nat → Nat} {A : Nat → Prop} {s U : State} {H : Heap} (hW : s.WarmedH U.vm) (h : SC sa A s H) : SC sa A U H := ⟨h.1.moved hW.alike, fun x hx => ⟨vk_R.warm hW (h.2 x hx).1, (h.2 x hx).2.moved hW.alike⟩⟩
theorem SC.kept {sa : Nat → Nat} {A : Nat → Prop} {U : State} {H H1 : Heap} (h : SC sa A U H) (hq : ∀ a : Nat, a < H.size → ¬ A a → H1[a]? = H[a]?) : SC sa A U H1 := ⟨h.1.kept hq, fun x hx => ⟨(h.2 x hx).1, (h.2 x hx).2.kept hq⟩⟩
theorem tI.same {D : va_G} {dA : Nat → ClassId} {ad : Nat → Nat} {v : tV} {H H1 : Heap} (hk : ∀ q : Nat, q < H.size → H1[q]? = H[q]?) (hw : tI D dA ad v H) : tI D dA ad v H1 := by
  refine ⟨fun k kn h => ?_, hw.2⟩
  have h1 := hw.1 k kn h
  have hlt : ad k < H.size := by
    rcases h1 with ⟨_, r, _, cell, q1, _⟩ | ⟨_, q1⟩
    · exact (Array.getElem?_eq_some_iff.mp q1).1
    · exact (Array.getElem?_eq_some_iff.mp q1).1
  exact h1.kept (hk _ hlt)
theorem rg_ofNat {r : Int32} {L : Nat} (h : r = Int32.ofNat L) (hL : L ≤ 6) : Rg r 0 6 := by
  rw [h]
  have e : (Int32.ofNat L).toInt = (L : Int) := nI_toInt (n := L) (by omega)
  exact ⟨by rw [e]; omega, by rw [e]; omega⟩
theorem vp_lt {i r : Int32} {L : Nat} (h0 : 0 ≤ i.toInt) (h : i.toInt < r.toInt) (hr : r = Int32.ofNat L) (hL : L ≤ 6) : vp_in i L := by
  rw [hr] at h
  have e : (Int32.ofNat L).toInt = (L : Int) := nI_toInt (n := L) (by omega)
  rw [e] at h
  exact vp_in_iff.mpr ⟨h0, h⟩
def tPs (D : va_G) (dA : Nat → ClassId) (ad sa : Nat → Nat) (v : tV) (av : List Value) : Array Value → State → Prop := va_Pc av (fun U => tI D dA ad v U.heap ∧ tK D dA U ∧ SC sa (tA ad) U U.heap)
theorem tPs.blind {D : va_G} {dA : Nat → ClassId} {ad sa : Nat → Nat} {v : tV} {av : List Value} : FrameBlind (tPs D dA ad sa v av) := by
  intro a U g mk h
  obtain ⟨h1, h2, h3, h4⟩ := h
  exact ⟨h1, h2, ⟨va_K.moved (u := U) (U := U.calling g mk a) (Vm.Alike.refl U.vm) h3.1, tb_vm (u := U) (U := U.calling g mk a) rfl h3.2⟩, SC.warm (s := U) (U := U.calling g mk a) (State.WarmedH.refl U) h4⟩
theorem tMets {l : Launch} {y : MethodName} {cc : ByteArray} {maxL : Nat} {ret : Option FieldType} {rm : Room} {D : va_G} {dA : Nat → ClassId} {ad sa : Nat → Nat} {v : tV} {av : List Value} {Qc : Array Value → State → Outcome → State → Prop} (hy : plainName y.cls = true) (hlen : (lg_sl av).length ≤ maxL)
    (body : ∀ (p : Program) (e : Env) (s : State) (m : MethodId) (below : List Frame) (meth : Method) (c : Code) (ls : Array Slot), CX p s m av.toArray c cc y.cls maxL D dA → meth.sig.returnType = ret → meth.locks = false → tI D dA ad v s.heap → SC sa (tA ad) s s.heap → lv_has ls maxL (lv_args 0 av) →
      W p l e rm s m av.toArray below meth c s.heap [] 0 0 (MQ below Qc av.toArray s 0 0 (tA ad)) (F0 m 0 ls [])) : Met l y [.code y cc maxL ret] rm (tPs D dA ad sa v av) Qc 0 0 (tA ad) := by
  refine Met.ofW (cc := cc) (maxL := maxL) (ret := ret) hy rfl ?_
  intro p e s m args below meth c s₁ B hml hv
  obtain ⟨rfl, hw, hK, hC⟩ := hv
  have hl := lv_entry av (n := maxL) hlen
  rw [lg_entry_eq]
  exact body p e s m below meth c _ ⟨B.exec, B.bytes, hml, findClass_of_methodNamed B.named, tb_args hK.2, hK⟩ B.returns B.notSynchronized hw hC hl
theorem r_runVs {p : Program} {l : Launch} {e : Env} {R : Room} {s : State} {m : MethodId} {args : Array Value} {below : List Frame} {meth : Method} {c : Code} {H : Heap} {locs : List Loc} {cells slots : Nat} {cc : ByteArray} {pc : Nat} {ls : Array Slot} {rest st0 : List Value} {D : va_G} {dA : Nat → ClassId} {ad sa : Nat → Nat} {v : tV} {own : String} {nL : Nat}
    (X : CX p s m args c cc own nL D dA) (hw : tI D dA ad v H) (hSC : SC sa (tA ad) s s.heap) (hS : va_S (tA ad) s.heap H locs) {y : MethodName} {bytes : ByteArray} {maxL index k ci n0 n N : Nat} {ret : Option FieldType} {rm : Room} {C : String} {T : u_T} {As : List Value} {Qc : Array Value → State → Outcome → State → Prop}
    (hM : Met l y [.code y bytes maxL ret] rm (tPs D dA ad sa v (.ref (ad k) :: As)) Qc 0 0 (tA ad)) (hG : CV own index C y bytes maxL ret) (hk : KD k = some (ci, n0)) (h12 : ci < 12) (hc : CLS[ci]? = some (C, T, N))
    (hy : y.cls = C ∧ y.cls ≠ "java/lang/invoke/MethodHandle" ∧ y.cls ≠ "java/lang/invoke/VarHandle" ∧ (parseMethodDescriptor y.desc).map (fun d => d.parameters.length) = some n) (hrm : RmOk R rm maxL) (hn : As.length = n) (hsz : ls.size = nL) (hst : st0 = As.reverse ++ .ref (ad k) :: rest) (hroom : (rest.map fun v => v.category).sum ≤ 8) (hcap : cells ≤ R.cells ∧ slots ≤ R.slots) (hd : decode cc pc = .ok (.invokevirtual index, 3)) :
    va_Run p l e R s m args below meth c H locs cells slots 0 0 (F0 m pc ls st0) rest (Qc (Value.ref (ad k) :: As).toArray) (tA ad) := by
  have hrc := r_recv X hw hk h12 hc
  obtain ⟨hx, hb, hml, hown, hts, hK⟩ := X
  exact va_runV (As := As) (rest := rest) ⟨hx, hb, hml, hown, hts⟩ hM (cwV n hts hG rfl hrm.1 hrm.2.1 hy ⟨hrm.2.2.1, hrm.2.2.2⟩) ⟨tPs.blind, hrc, fun U hU hW => ⟨rfl, by rw [hU]; exact hw, hK.warm hW, by rw [hU]; exact SC.warm hW (hSC.kept hS.2.1)⟩⟩ rfl hn hsz hst (lv_room hroom) hd hcap
theorem d_X8_number_0 : decode c_X8_number 0 = .ok (.iconst (-1), 1) := by decide +kernel
theorem d_X8_number_1 : decode c_X8_number 1 = .ok (.istore_n 2, 1) := by decide +kernel
theorem d_X8_number_2 : decode c_X8_number 2 = .ok (.iconst 0, 1) := by decide +kernel
theorem d_X8_number_3 : decode c_X8_number 3 = .ok (.istore_n 3, 1) := by decide +kernel
theorem d_X8_number_4 : decode c_X8_number 4 = .ok (.iload_n 3, 1) := by decide +kernel
theorem d_X8_number_5 : decode c_X8_number 5 = .ok (.iload_n 1, 1) := by decide +kernel
theorem d_X8_number_6 : decode c_X8_number 6 = .ok (.if_icmp .ge 71, 3) := by decide +kernel
theorem d_X8_number_9 : decode c_X8_number 9 = .ok (.aload_n 0, 1) := by decide +kernel
theorem d_X8_number_10 : decode c_X8_number 10 = .ok (.getfield 19, 3) := by decide +kernel
theorem d_X8_number_13 : decode c_X8_number 13 = .ok (.aload_n 0, 1) := by decide +kernel
theorem d_X8_number_14 : decode c_X8_number 14 = .ok (.getfield 15, 3) := by decide +kernel
theorem d_X8_number_17 : decode c_X8_number 17 = .ok (.if_icmp .ge 60, 3) := by decide +kernel
theorem d_X8_number_20 : decode c_X8_number 20 = .ok (.aload_n 0, 1) := by decide +kernel
theorem d_X8_number_21 : decode c_X8_number 21 = .ok (.getfield 9, 3) := by decide +kernel
theorem d_X8_number_24 : decode c_X8_number 24 = .ok (.aload_n 0, 1) := by decide +kernel
theorem d_X8_number_25 : decode c_X8_number 25 = .ok (.getfield 19, 3) := by decide +kernel
theorem d_X8_number_28 : decode c_X8_number 28 = .ok (.iaload, 1) := by decide +kernel
theorem d_X8_number_29 : decode c_X8_number 29 = .ok (.bipush 48, 2) := by decide +kernel
theorem d_X8_number_31 : decode c_X8_number 31 = .ok (.bipush 57, 2) := by decide +kernel
theorem d_X8_number_33 : decode c_X8_number 33 = .ok (.invokestatic 90, 3) := by decide +kernel
theorem d_X8_number_36 : decode c_X8_number 36 = .ok (.ifCond .eq 41, 3) := by decide +kernel
theorem d_X8_number_39 : decode c_X8_number 39 = .ok (.iload_n 2, 1) := by decide +kernel
theorem d_X8_number_40 : decode c_X8_number 40 = .ok (.iconst 0, 1) := by decide +kernel
theorem d_X8_number_41 : decode c_X8_number 41 = .ok (.invokestatic 94, 3) := by decide +kernel
theorem d_X8_number_44 : decode c_X8_number 44 = .ok (.bipush 10, 2) := by decide +kernel
theorem d_X8_number_46 : decode c_X8_number 46 = .ok (.imul, 1) := by decide +kernel
theorem d_X8_number_47 : decode c_X8_number 47 = .ok (.aload_n 0, 1) := by decide +kernel
theorem d_X8_number_48 : decode c_X8_number 48 = .ok (.getfield 9, 3) := by decide +kernel
theorem d_X8_number_51 : decode c_X8_number 51 = .ok (.aload_n 0, 1) := by decide +kernel
theorem d_X8_number_52 : decode c_X8_number 52 = .ok (.getfield 19, 3) := by decide +kernel
theorem d_X8_number_55 : decode c_X8_number 55 = .ok (.iaload, 1) := by decide +kernel
theorem d_X8_number_56 : decode c_X8_number 56 = .ok (.iadd, 1) := by decide +kernel
theorem d_X8_number_57 : decode c_X8_number 57 = .ok (.bipush 48, 2) := by decide +kernel
theorem d_X8_number_59 : decode c_X8_number 59 = .ok (.isub, 1) := by decide +kernel
theorem d_X8_number_60 : decode c_X8_number 60 = .ok (.istore_n 2, 1) := by decide +kernel
theorem d_X8_number_61 : decode c_X8_number 61 = .ok (.aload_n 0, 1) := by decide +kernel
theorem d_X8_number_62 : decode c_X8_number 62 = .ok (.dup, 1) := by decide +kernel
theorem d_X8_number_63 : decode c_X8_number 63 = .ok (.getfield 19, 3) := by decide +kernel
theorem d_X8_number_66 : decode c_X8_number 66 = .ok (.iconst 1, 1) := by decide +kernel
theorem d_X8_number_67 : decode c_X8_number 67 = .ok (.iadd, 1) := by decide +kernel
theorem d_X8_number_68 : decode c_X8_number 68 = .ok (.putfield 19, 3) := by decide +kernel
theorem d_X8_number_71 : decode c_X8_number 71 = .ok (.iinc 3 1, 3) := by decide +kernel
theorem d_X8_number_74 : decode c_X8_number 74 = .ok (.goto (-70), 3) := by decide +kernel
theorem d_X8_number_77 : decode c_X8_number 77 = .ok (.iload_n 2, 1) := by decide +kernel
theorem d_X8_number_78 : decode c_X8_number 78 = .ok (.ireturn, 1) := by decide +kernel
set_option maxHeartbeats 4000000 in
set_option maxRecDepth 100000 in
theorem ct_X8_number_2 (l : Launch) (D : va_G) (dA : Nat → ClassId) (ad : Nat → Nat) (v : tV) (hI : Inv v) (dg : Int32) (r_dg : Rg dg 2 2) : Met l m_X8_number [.code m_X8_number c_X8_number 4 (some .int)] ({ frames := 2, cells := 0, slots := 0, locals := 62 } : Room) (tP D dA ad v [.ref (ad 55), .int dg]) (tQi D dA ad (fun r v' => Inv v' ∧ Kp v v' ∧ Rg r (-1) 99)) 0 0 (tA ad) := by
  refine tMet (by decide) (Nat.le_of_ble_eq_true rfl) ?_
  intro p e s m below meth c ls X hr hlocks hw hl
  have X : CX p s m ([.ref (ad 55), .int dg] : List Value).toArray c c_X8_number N_X8 4 D dA := X
  have hx := X.1
  have hb := X.2.1
  have hS : va_S (tA ad) s.heap s.heap [] := va_S.rf
  have hl : lv_has ls 4 [(0, .ref (ad 55)), (1, .int dg)] := hl
  have LL : ∀ n : Nat, (∀ (y2 : Int32) (y3 : Int32) (v1 : tV) (H : Heap) (locs : List Loc) (ls : Array Slot), (2 - y3.toInt).toNat < n → Rg y2 (-1) 99 → Rg y3 0 2 → Inv v1 → Kp v v1 → (y3.toInt = 0 → y2.toInt ≤ 0) ∧ (y3.toInt = 1 → y2.toInt ≤ 9) → tI D dA ad v1 H → va_S (tA ad) s.heap H locs → lv_has ls 4 [(0, .ref (ad 55)), (1, .int dg), (2, .int y2), (3, .int y3)] → W p l e ({ frames := 2, cells := 0, slots := 0, locals := 62 } : Room) s m ([.ref (ad 55), .int dg] : List Value).toArray below meth c H locs 0 0 (MQ below (tQi D dA ad (fun r v' => Inv v' ∧ Kp v v' ∧ Rg r (-1) 99)) ([.ref (ad 55), .int dg] : List Value).toArray s 0 0 (tA ad)) (F0 m 4 ls [])) := by
    intro n
    induction n with
    | zero => intros; omega
    | succ n ih =>
      have ih0 := ih
      intro y2 y3 v1 H locs ls hmu r_y2 r_y3 hI1 hK1 hex hw hS hl
      refine lv_iload_n hx hb d_X8_number_4 rfl (lv_at hl 3 rfl) ?_
      refine lv_iload_n hx hb d_X8_number_5 rfl (lv_at hl 1 rfl) ?_
      refine lv_icmp_ge (tgt := 77) hx hb d_X8_number_6 (by decide) (fun c1 => ?_) (fun c1 => ?_)
      · have f2 := i_le c1
        have r3 : Rg y3 2 2 := by obtain ⟨a1, a2⟩ := r_y3; obtain ⟨b1, b2⟩ := r_dg; have f := i_le c1; exact ⟨by omega, by omega⟩
        refine lv_iload_n hx hb d_X8_number_77 rfl (lv_at hl 2 rfl) ?_
        exact r_iret X hr hlocks hw hS ⟨hI1, hK1, r_y2⟩ d_X8_number_78
      · have f4 := i_nle c1
        have r5 : Rg y3 0 1 := by obtain ⟨a1, a2⟩ := r_y3; obtain ⟨b1, b2⟩ := r_dg; have f := i_nle c1; exact ⟨by omega, by omega⟩
        refine lv_aload_n hx hb d_X8_number_9 rfl (lv_at hl 0 rfl) ?_
        refine r_geti X hw FL_X8_19 (rfl : KD 55 = _) rfl d_X8_number_10 ?_
        refine lv_topi (fun x6 ex6 => ?_)
        have r7 : Rg x6 0 120 := by rw [ex6]; exact hI1 _ _ _ _ rfl
        have hm8 : v1 55 2 = x6 := ex6.symm
        refine lv_aload_n hx hb d_X8_number_13 rfl (lv_at hl 0 rfl) ?_
        refine r_geti X hw FL_X8_15 (rfl : KD 55 = _) rfl d_X8_number_14 ?_
        refine lv_topi (fun x9 ex9 => ?_)
        have r10 : Rg x9 0 120 := by rw [ex9]; exact hI1 _ _ _ _ rfl
        have hm11 : v1 55 1 = x9 := ex9.symm
        refine lv_icmp_ge (tgt := 77) hx hb d_X8_number_17 (by decide) (fun c12 => ?_) (fun c12 => ?_)
        · have f13 := i_le c12
          refine lv_iload_n hx hb d_X8_number_77 rfl (lv_at hl 2 rfl) ?_
          exact r_iret X hr hlocks hw hS ⟨hI1, hK1, r_y2⟩ d_X8_number_78
        · have f14 := i_nle c12
          have r15 : Rg x6 0 119 := by obtain ⟨a1, a2⟩ := r7; obtain ⟨b1, b2⟩ := r10; have f := i_nle c12; exact ⟨by omega, by omega⟩
          have r16 : Rg x9 1 120 := by obtain ⟨a1, a2⟩ := r7; obtain ⟨b1, b2⟩ := r10; have f := i_nle c12; exact ⟨by omega, by omega⟩
          refine lv_aload_n hx hb d_X8_number_20 rfl (lv_at hl 0 rfl) ?_
          refine r_getr (r := 56) X hw FL_X8_9 (rfl : KD 55 = _) rfl d_X8_number_21 ?_
          refine lv_aload_n hx hb d_X8_number_24 rfl (lv_at hl 0 rfl) ?_
          refine r_geti X hw FL_X8_19 (rfl : KD 55 = _) rfl d_X8_number_25 ?_
          refine lv_seti hm8 ?_
          refine r_iald X hw (rfl : KD 56 = _) (Rg.vp (b := 119) r15 (by decide)) rfl d_X8_number_28 ?_
          refine lv_topi (fun x17 ex17 => ?_)
          have hm18 : v1 56 x6.toNatClampNeg = x17 := ex17.symm
          refine lv_bipush (v := 48) hx hb d_X8_number_29 (by decide) ?_
          refine lv_bipush (v := 57) hx hb d_X8_number_31 (by decide) ?_
          refine r_ci (r_runSN (n := 3) (As := [.int x17, .int 48, .int 57]) (rest := []) X hw (ct_X10_within l D dA ad v1 hI1 x17 48 57) gn_X8_90 gc_X8_90 (by decide +kernel) ⟨rfl, rfl, Nat.le_of_ble_eq_true rfl, Nat.le_of_ble_eq_true rfl⟩ rfl hl.1 rfl (Nat.le_of_ble_eq_true rfl) ⟨Nat.zero_le _, Nat.zero_le _⟩ d_X8_number_33) hS (fun x20 v21 H locs hp19 hw hS => ?_)
          obtain ⟨ev21, hp19⟩ := hp19
          rw [ev21] at hw
          rcases hp19 with ⟨rfl, w22a, w22b⟩ | ⟨rfl, w22n⟩
          · skip
            have r23 : Rg x17 48 57 := by obtain ⟨_, _⟩ := (rg_any x17); have : (48 : Int32).toInt = 48 := rfl; have : (57 : Int32).toInt = 57 := rfl; exact ⟨by omega, by omega⟩
            refine lv_if_eq (tgt := 77) hx hb d_X8_number_36 (by decide) (fun c24 => ?_) (fun c24 => ?_)
            · exact absurd c24 (by decide)
            · have r25 : Rg y2 (-1) 9 := by obtain ⟨_, _⟩ := r_y2; obtain ⟨_, _⟩ := r5; exact ⟨by omega, by omega⟩
              refine lv_iload_n hx hb d_X8_number_39 rfl (lv_at hl 2 rfl) ?_
              refine lv_iconst (v := 0) hx hb d_X8_number_40 (by decide) ?_
              refine va_mmax hx hb (X.2.2.1.trans hl.1.symm) X.2.2.2.1 (X.2.2.2.2.1 _ ml_X8_94) (X.2.2.2.2.1 _ ml_maxs) (X.2.2.2.2.1 _ ml_mi) (X.2.2.2.2.1 _ ml_maxc) (Nat.le_of_ble_eq_true rfl) (Nat.le_of_ble_eq_true rfl) (Nat.zero_le _) (Nat.zero_le _) d_X8_number_41 ?_
              refine lv_topi (fun x26 ex26 => ?_)
              have hmx : x26.toInt = y2.toInt ∨ (x26.toInt = (0 : Int32).toInt ∧ y2.toInt < (0 : Int32).toInt) := by rw [ex26]; split; · rename_i q; exact Or.inr ⟨rfl, i_lt q⟩; · exact Or.inl rfl
              have r27 : Rg x26 0 9 := by obtain ⟨a1, a2⟩ := r25; obtain ⟨b1, b2⟩ := (⟨by decide, by decide⟩ : Rg 0 0 0); rw [ex26]; split <;> rename_i q <;> first | (have := i_lt q; exact ⟨by omega, by omega⟩) | (have := i_nlt q; exact ⟨by omega, by omega⟩)
              refine lv_bipush (v := 10) hx hb d_X8_number_44 (by decide) ?_
              refine lv_imul hx hb d_X8_number_46 ?_
              refine lv_topi (fun x28 ex28 => ?_)
              have r29 : Rg x28 0 90 := rg_mulc (ex28.trans (Int32.mul_comm _ _)) (⟨by decide, by decide⟩ : Rg 10 10 10) r27 (by decide) (by decide) (by decide)
              have s30 : x28.toInt = 10 * x26.toInt := rg_mule (ex28.trans (Int32.mul_comm _ _)) r27 rfl (by decide) (by decide)
              refine lv_aload_n hx hb d_X8_number_47 rfl (lv_at hl 0 rfl) ?_
              refine r_getr (r := 56) X hw FL_X8_9 (rfl : KD 55 = _) rfl d_X8_number_48 ?_
              refine lv_aload_n hx hb d_X8_number_51 rfl (lv_at hl 0 rfl) ?_
              refine r_geti X hw FL_X8_19 (rfl : KD 55 = _) rfl d_X8_number_52 ?_
              refine lv_seti hm8 ?_
              refine r_iald X hw (rfl : KD 56 = _) (Rg.vp (b := 119) r15 (by decide)) rfl d_X8_number_55 ?_
              refine lv_seti hm18 ?_
              refine lv_iadd hx hb d_X8_number_56 ?_
              refine lv_topi (fun x31 ex31 => ?_)
              have r32 : Rg x31 48 147 := rg_add ex31 r29 r23 (by decide) (by decide)
              have s33 : x31.toInt = x28.toInt + (x17 : Int32).toInt := by rw [ex31]; exact i_add (by obtain ⟨_, _⟩ := r29; obtain ⟨_, _⟩ := r23; omega) (by obtain ⟨_, _⟩ := r29; obtain ⟨_, _⟩ := r23; omega)
              refine lv_bipush (v := 48) hx hb d_X8_number_57 (by decide) ?_
              refine lv_isub hx hb d_X8_number_59 ?_
              refine lv_topi (fun x34 ex34 => ?_)
              have r35 : Rg x34 0 99 := rg_sub ex34 r32 (⟨by decide, by decide⟩ : Rg 48 48 48) (by decide) (by decide)
              have s36 : x34.toInt = x31.toInt - (48 : Int32).toInt := by rw [ex34]; exact i_sub (by obtain ⟨_, _⟩ := r32; obtain ⟨_, _⟩ := (⟨by decide, by decide⟩ : Rg 48 48 48); omega) (by obtain ⟨_, _⟩ := r32; obtain ⟨_, _⟩ := (⟨by decide, by decide⟩ : Rg 48 48 48); omega)
              have s36l : (48 : Int32).toInt = 48 := rfl
              refine lv_istore_n (lv' := [(2, .int x34), (0, .ref (ad 55)), (1, .int dg), (3, .int y3)]) hx hb d_X8_number_60 rfl hl (by decide) rfl (fun ls hl => ?_)
              refine lv_aload_n hx hb d_X8_number_61 rfl (lv_at hl 1 rfl) ?_
              refine lv_dup hx hb d_X8_number_62 rfl ?_
              refine r_geti X hw FL_X8_19 (rfl : KD 55 = _) rfl d_X8_number_63 ?_
              refine lv_seti hm8 ?_
              refine lv_iconst (v := 1) hx hb d_X8_number_66 (by decide) ?_
              refine lv_iadd hx hb d_X8_number_67 ?_
              refine lv_topi (fun x37 ex37 => ?_)
              have r38 : Rg x37 1 120 := rg_add ex37 r15 (⟨by decide, by decide⟩ : Rg 1 1 1) (by decide) (by decide)
              have s39 : x37.toInt = x6.toInt + (1 : Int32).toInt := by rw [ex37]; exact i_add (by obtain ⟨_, _⟩ := r15; obtain ⟨_, _⟩ := (⟨by decide, by decide⟩ : Rg 1 1 1); omega) (by obtain ⟨_, _⟩ := r15; obtain ⟨_, _⟩ := (⟨by decide, by decide⟩ : Rg 1 1 1); omega)
              have s39l : (1 : Int32).toInt = 1 := rfl
              refine r_put X hw hS FP_X8_19 (rfl : KD 55 = _) rfl ⟨rfl, rfl⟩ d_X8_number_68 (fun H locs hw hS => ?_)
              obtain ⟨v40, ev40⟩ : ∃ z, z = up2 v1 55 2 x37 := ⟨_, rfl⟩
              rw [← ev40] at hw
              have hI41 : Inv v40 := by rw [ev40]; exact Inv.putr hI1 rfl (rg_w r38 (by decide) (by decide))
              have hK42 : Kp v v40 := by rw [ev40]; exact Kp.put hK1 _ rfl
              have hm43 : v40 55 1 = x9 := by rw [ev40, up2_n _ _ (by omega)]; exact hm11
              have hm44 : v40 56 x6.toNatClampNeg = x17 := by rw [ev40, up2_n _ _ (by omega)]; exact hm18
              have hm45 : v40 55 2 = x37 := by rw [ev40, up2_s]
              obtain ⟨x46, ex46⟩ : ∃ y : Int32, y = y3 + 1 := ⟨_, rfl⟩
              refine lv_iinc (v := x46) (lv' := [(3, .int x46), (2, .int x34), (0, .ref (ad 55)), (1, .int dg)]) hx hb d_X8_number_71 hl (k := 3) rfl (by rw [ex46]; rfl) (by decide) rfl (fun ls hl => ?_)
              have r47 : Rg x46 1 2 := rg_add ex46 r5 (⟨by decide, by decide⟩ : Rg 1 1 1) (by decide) (by decide)
              have s48 : x46.toInt = y3.toInt + (1 : Int32).toInt := by rw [ex46]; exact i_add (by obtain ⟨_, _⟩ := r5; obtain ⟨_, _⟩ := (⟨by decide, by decide⟩ : Rg 1 1 1); omega) (by obtain ⟨_, _⟩ := r5; obtain ⟨_, _⟩ := (⟨by decide, by decide⟩ : Rg 1 1 1); omega)
              have s48l : (1 : Int32).toInt = 1 := rfl
              refine lv_goto (tgt := 4) hx hb d_X8_number_74 (by decide) ?_
              exact ih0 x34 x46 v40 _ _ _ (by have := s30; have := s33; have := s36; have := s39; have := s48; obtain ⟨_, _⟩ := r35; obtain ⟨_, _⟩ := r47; omega) (rg_w r35 (by decide) (by decide)) (rg_w r47 (by decide) (by decide)) hI41 hK42 (by have q_ := r_dg; obtain ⟨_, _⟩ := q_; have q_ := r25; obtain ⟨_, _⟩ := q_; have q_ := r5; obtain ⟨_, _⟩ := q_; have q_ := r15; obtain ⟨_, _⟩ := q_; have q_ := r16; obtain ⟨_, _⟩ := q_; have q_ := r23; obtain ⟨_, _⟩ := q_; have q_ := r27; obtain ⟨_, _⟩ := q_; have q_ := r29; obtain ⟨_, _⟩ := q_; have q_ := r32; obtain ⟨_, _⟩ := q_; have q_ := r35; obtain ⟨_, _⟩ := q_; have q_ := r38; obtain ⟨_, _⟩ := q_; have q_ := r47; obtain ⟨_, _⟩ := q_; have z0 : (0 : Int32).toInt = 0 := rfl; have z1 : (-1 : Int32).toInt = -1 := rfl; refine ⟨fun _ => ?_, fun _ => ?_⟩ <;> omega) hw hS (lv_sub hl [2, 3, 1, 0] rfl)
          · skip
            refine lv_if_eq (tgt := 77) hx hb d_X8_number_36 (by decide) (fun c49 => ?_) (fun c49 => ?_)
            · refine lv_iload_n hx hb d_X8_number_77 rfl (lv_at hl 2 rfl) ?_
              exact r_iret X hr hlocks hw hS ⟨hI1, hK1, r_y2⟩ d_X8_number_78
            · exact absurd c49 (by decide)
  have ih0 := LL 100000
  have hK0 : Kp v v := Kp.rf v
  refine lv_iconst (v := -1) hx hb d_X8_number_0 (by decide) ?_
  refine lv_istore_n (lv' := [(2, .int (-1)), (0, .ref (ad 55)), (1, .int dg)]) hx hb d_X8_number_1 rfl hl (by decide) rfl (fun ls hl => ?_)
  refine lv_iconst (v := 0) hx hb d_X8_number_2 (by decide) ?_
  refine lv_istore_n (lv' := [(3, .int 0), (2, .int (-1)), (0, .ref (ad 55)), (1, .int dg)]) hx hb d_X8_number_3 rfl hl (by decide) rfl (fun ls hl => ?_)
  exact ih0 (-1) 0 v _ _ _ (by obtain ⟨_, _⟩ := (⟨by decide, by decide⟩ : Rg (-1) (-1) (-1)); obtain ⟨_, _⟩ := (⟨by decide, by decide⟩ : Rg 0 0 0); omega) (rg_w (⟨by decide, by decide⟩ : Rg (-1) (-1) (-1)) (by decide) (by decide)) (rg_w (⟨by decide, by decide⟩ : Rg 0 0 0) (by decide) (by decide)) hI hK0 (by have q_ := r_dg; obtain ⟨_, _⟩ := q_; have z0 : (0 : Int32).toInt = 0 := rfl; have z1 : (-1 : Int32).toInt = -1 := rfl; refine ⟨fun _ => ?_, fun _ => ?_⟩ <;> omega) hw hS (lv_sub hl [2, 3, 1, 0] rfl)
set_option maxHeartbeats 4000000 in
set_option maxRecDepth 100000 in
theorem ct_X8_number_3 (l : Launch) (D : va_G) (dA : Nat → ClassId) (ad : Nat → Nat) (v : tV) (hI : Inv v) (dg : Int32) (r_dg : Rg dg 3 3) : Met l m_X8_number [.code m_X8_number c_X8_number 4 (some .int)] ({ frames := 2, cells := 0, slots := 0, locals := 62 } : Room) (tP D dA ad v [.ref (ad 55), .int dg]) (tQi D dA ad (fun r v' => Inv v' ∧ Kp v v' ∧ Rg r (-1) 999)) 0 0 (tA ad) := by
  refine tMet (by decide) (Nat.le_of_ble_eq_true rfl) ?_
  intro p e s m below meth c ls X hr hlocks hw hl
  have X : CX p s m ([.ref (ad 55), .int dg] : List Value).toArray c c_X8_number N_X8 4 D dA := X
  have hx := X.1
  have hb := X.2.1
  have hS : va_S (tA ad) s.heap s.heap [] := va_S.rf
  have hl : lv_has ls 4 [(0, .ref (ad 55)), (1, .int dg)] := hl
  have LL : ∀ n : Nat, (∀ (y2 : Int32) (y3 : Int32) (v1 : tV) (H : Heap) (locs : List Loc) (ls : Array Slot), (3 - y3.toInt).toNat < n → Rg y2 (-1) 999 → Rg y3 0 3 → Inv v1 → Kp v v1 → (y3.toInt = 0 → y2.toInt ≤ 0) ∧ (y3.toInt = 1 → y2.toInt ≤ 9) ∧ (y3.toInt = 2 → y2.toInt ≤ 99) → tI D dA ad v1 H → va_S (tA ad) s.heap H locs → lv_has ls 4 [(0, .ref (ad 55)), (1, .int dg), (2, .int y2), (3, .int y3)] → W p l e ({ frames := 2, cells := 0, slots := 0, locals := 62 } : Room) s m ([.ref (ad 55), .int dg] : List Value).toArray below meth c H locs 0 0 (MQ below (tQi D dA ad (fun r v' => Inv v' ∧ Kp v v' ∧ Rg r (-1) 999)) ([.ref (ad 55), .int dg] : List Value).toArray s 0 0 (tA ad)) (F0 m 4 ls [])) := by
    intro n
    induction n with
    | zero => intros; omega
    | succ n ih =>
      have ih0 := ih
      intro y2 y3 v1 H locs ls hmu r_y2 r_y3 hI1 hK1 hex hw hS hl
      refine lv_iload_n hx hb d_X8_number_4 rfl (lv_at hl 3 rfl) ?_
      refine lv_iload_n hx hb d_X8_number_5 rfl (lv_at hl 1 rfl) ?_
      refine lv_icmp_ge (tgt := 77) hx hb d_X8_number_6 (by decide) (fun c1 => ?_) (fun c1 => ?_)
      · have f2 := i_le c1
        have r3 : Rg y3 3 3 := by obtain ⟨a1, a2⟩ := r_y3; obtain ⟨b1, b2⟩ := r_dg; have f := i_le c1; exact ⟨by omega, by omega⟩
        refine lv_iload_n hx hb d_X8_number_77 rfl (lv_at hl 2 rfl) ?_
        exact r_iret X hr hlocks hw hS ⟨hI1, hK1, r_y2⟩ d_X8_number_78
      · have f4 := i_nle c1
        have r5 : Rg y3 0 2 := by obtain ⟨a1, a2⟩ := r_y3; obtain ⟨b1, b2⟩ := r_dg; have f := i_nle c1; exact ⟨by omega, by omega⟩
        refine lv_aload_n hx hb d_X8_number_9 rfl (lv_at hl 0 rfl) ?_
        refine r_geti X hw FL_X8_19 (rfl : KD 55 = _) rfl d_X8_number_10 ?_
        refine lv_topi (fun x6 ex6 => ?_)
        have r7 : Rg x6 0 120 := by rw [ex6]; exact hI1 _ _ _ _ rfl
        have hm8 : v1 55 2 = x6 := ex6.symm
        refine lv_aload_n hx hb d_X8_number_13 rfl (lv_at hl 0 rfl) ?_
        refine r_geti X hw FL_X8_15 (rfl : KD 55 = _) rfl d_X8_number_14 ?_
        refine lv_topi (fun x9 ex9 => ?_)
        have r10 : Rg x9 0 120 := by rw [ex9]; exact hI1 _ _ _ _ rfl
        have hm11 : v1 55 1 = x9 := ex9.symm
        refine lv_icmp_ge (tgt := 77) hx hb d_X8_number_17 (by decide) (fun c12 => ?_) (fun c12 => ?_)
        · have f13 := i_le c12
          refine lv_iload_n hx hb d_X8_number_77 rfl (lv_at hl 2 rfl) ?_
          exact r_iret X hr hlocks hw hS ⟨hI1, hK1, r_y2⟩ d_X8_number_78
        · have f14 := i_nle c12
          have r15 : Rg x6 0 119 := by obtain ⟨a1, a2⟩ := r7; obtain ⟨b1, b2⟩ := r10; have f := i_nle c12; exact ⟨by omega, by omega⟩
          have r16 : Rg x9 1 120 := by obtain ⟨a1, a2⟩ := r7; obtain ⟨b1, b2⟩ := r10; have f := i_nle c12; exact ⟨by omega, by omega⟩
          refine lv_aload_n hx hb d_X8_number_20 rfl (lv_at hl 0 rfl) ?_
          refine r_getr (r := 56) X hw FL_X8_9 (rfl : KD 55 = _) rfl d_X8_number_21 ?_
          refine lv_aload_n hx hb d_X8_number_24 rfl (lv_at hl 0 rfl) ?_
          refine r_geti X hw FL_X8_19 (rfl : KD 55 = _) rfl d_X8_number_25 ?_
          refine lv_seti hm8 ?_
          refine r_iald X hw (rfl : KD 56 = _) (Rg.vp (b := 119) r15 (by decide)) rfl d_X8_number_28 ?_
          refine lv_topi (fun x17 ex17 => ?_)
          have hm18 : v1 56 x6.toNatClampNeg = x17 := ex17.symm
          refine lv_bipush (v := 48) hx hb d_X8_number_29 (by decide) ?_
          refine lv_bipush (v := 57) hx hb d_X8_number_31 (by decide) ?_
          refine r_ci (r_runSN (n := 3) (As := [.int x17, .int 48, .int 57]) (rest := []) X hw (ct_X10_within l D dA ad v1 hI1 x17 48 57) gn_X8_90 gc_X8_90 (by decide +kernel) ⟨rfl, rfl, Nat.le_of_ble_eq_true rfl, Nat.le_of_ble_eq_true rfl⟩ rfl hl.1 rfl (Nat.le_of_ble_eq_true rfl) ⟨Nat.zero_le _, Nat.zero_le _⟩ d_X8_number_33) hS (fun x20 v21 H locs hp19 hw hS => ?_)
          obtain ⟨ev21, hp19⟩ := hp19
          rw [ev21] at hw
          rcases hp19 with ⟨rfl, w22a, w22b⟩ | ⟨rfl, w22n⟩
          · skip
            have r23 : Rg x17 48 57 := by obtain ⟨_, _⟩ := (rg_any x17); have : (48 : Int32).toInt = 48 := rfl; have : (57 : Int32).toInt = 57 := rfl; exact ⟨by omega, by omega⟩
            refine lv_if_eq (tgt := 77) hx hb d_X8_number_36 (by decide) (fun c24 => ?_) (fun c24 => ?_)
            · exact absurd c24 (by decide)
            · have r25 : Rg y2 (-1) 99 := by obtain ⟨_, _⟩ := r_y2; obtain ⟨_, _⟩ := r5; exact ⟨by omega, by omega⟩
              refine lv_iload_n hx hb d_X8_number_39 rfl (lv_at hl 2 rfl) ?_
              refine lv_iconst (v := 0) hx hb d_X8_number_40 (by decide) ?_
              refine va_mmax hx hb (X.2.2.1.trans hl.1.symm) X.2.2.2.1 (X.2.2.2.2.1 _ ml_X8_94) (X.2.2.2.2.1 _ ml_maxs) (X.2.2.2.2.1 _ ml_mi) (X.2.2.2.2.1 _ ml_maxc) (Nat.le_of_ble_eq_true rfl) (Nat.le_of_ble_eq_true rfl) (Nat.zero_le _) (Nat.zero_le _) d_X8_number_41 ?_
              refine lv_topi (fun x26 ex26 => ?_)
              have hmx : x26.toInt = y2.toInt ∨ (x26.toInt = (0 : Int32).toInt ∧ y2.toInt < (0 : Int32).toInt) := by rw [ex26]; split; · rename_i q; exact Or.inr ⟨rfl, i_lt q⟩; · exact Or.inl rfl
              have r27 : Rg x26 0 99 := by obtain ⟨a1, a2⟩ := r25; obtain ⟨b1, b2⟩ := (⟨by decide, by decide⟩ : Rg 0 0 0); rw [ex26]; split <;> rename_i q <;> first | (have := i_lt q; exact ⟨by omega, by omega⟩) | (have := i_nlt q; exact ⟨by omega, by omega⟩)
              refine lv_bipush (v := 10) hx hb d_X8_number_44 (by decide) ?_
              refine lv_imul hx hb d_X8_number_46 ?_
              refine lv_topi (fun x28 ex28 => ?_)
              have r29 : Rg x28 0 990 := rg_mulc (ex28.trans (Int32.mul_comm _ _)) (⟨by decide, by decide⟩ : Rg 10 10 10) r27 (by decide) (by decide) (by decide)
              have s30 : x28.toInt = 10 * x26.toInt := rg_mule (ex28.trans (Int32.mul_comm _ _)) r27 rfl (by decide) (by decide)
              refine lv_aload_n hx hb d_X8_number_47 rfl (lv_at hl 0 rfl) ?_
              refine r_getr (r := 56) X hw FL_X8_9 (rfl : KD 55 = _) rfl d_X8_number_48 ?_
              refine lv_aload_n hx hb d_X8_number_51 rfl (lv_at hl 0 rfl) ?_
              refine r_geti X hw FL_X8_19 (rfl : KD 55 = _) rfl d_X8_number_52 ?_
              refine lv_seti hm8 ?_
              refine r_iald X hw (rfl : KD 56 = _) (Rg.vp (b := 119) r15 (by decide)) rfl d_X8_number_55 ?_
              refine lv_seti hm18 ?_
              refine lv_iadd hx hb d_X8_number_56 ?_
              refine lv_topi (fun x31 ex31 => ?_)
              have r32 : Rg x31 48 1047 := rg_add ex31 r29 r23 (by decide) (by decide)
              have s33 : x31.toInt = x28.toInt + (x17 : Int32).toInt := by rw [ex31]; exact i_add (by obtain ⟨_, _⟩ := r29; obtain ⟨_, _⟩ := r23; omega) (by obtain ⟨_, _⟩ := r29; obtain ⟨_, _⟩ := r23; omega)
              refine lv_bipush (v := 48) hx hb d_X8_number_57 (by decide) ?_
              refine lv_isub hx hb d_X8_number_59 ?_
              refine lv_topi (fun x34 ex34 => ?_)
              have r35 : Rg x34 0 999 := rg_sub ex34 r32 (⟨by decide, by decide⟩ : Rg 48 48 48) (by decide) (by decide)
              have s36 : x34.toInt = x31.toInt - (48 : Int32).toInt := by rw [ex34]; exact i_sub (by obtain ⟨_, _⟩ := r32; obtain ⟨_, _⟩ := (⟨by decide, by decide⟩ : Rg 48 48 48); omega) (by obtain ⟨_, _⟩ := r32; obtain ⟨_, _⟩ := (⟨by decide, by decide⟩ : Rg 48 48 48); omega)
              have s36l : (48 : Int32).toInt = 48 := rfl
              refine lv_istore_n (lv' := [(2, .int x34), (0, .ref (ad 55)), (1, .int dg), (3, .int y3)]) hx hb d_X8_number_60 rfl hl (by decide) rfl (fun ls hl => ?_)
              refine lv_aload_n hx hb d_X8_number_61 rfl (lv_at hl 1 rfl) ?_
              refine lv_dup hx hb d_X8_number_62 rfl ?_
              refine r_geti X hw FL_X8_19 (rfl : KD 55 = _) rfl d_X8_number_63 ?_
              refine lv_seti hm8 ?_
              refine lv_iconst (v := 1) hx hb d_X8_number_66 (by decide) ?_
              refine lv_iadd hx hb d_X8_number_67 ?_
              refine lv_topi (fun x37 ex37 => ?_)
              have r38 : Rg x37 1 120 := rg_add ex37 r15 (⟨by decide, by decide⟩ : Rg 1 1 1) (by decide) (by decide)
              have s39 : x37.toInt = x6.toInt + (1 : Int32).toInt := by rw [ex37]; exact i_add (by obtain ⟨_, _⟩ := r15; obtain ⟨_, _⟩ := (⟨by decide, by decide⟩ : Rg 1 1 1); omega) (by obtain ⟨_, _⟩ := r15; obtain ⟨_, _⟩ := (⟨by decide, by decide⟩ : Rg 1 1 1); omega)
              have s39l : (1 : Int32).toInt = 1 := rfl
              refine r_put X hw hS FP_X8_19 (rfl : KD 55 = _) rfl ⟨rfl, rfl⟩ d_X8_number_68 (fun H locs hw hS => ?_)
              obtain ⟨v40, ev40⟩ : ∃ z, z = up2 v1 55 2 x37 := ⟨_, rfl⟩
              rw [← ev40] at hw
              have hI41 : Inv v40 := by rw [ev40]; exact Inv.putr hI1 rfl (rg_w r38 (by decide) (by decide))
              have hK42 : Kp v v40 := by rw [ev40]; exact Kp.put hK1 _ rfl
              have hm43 : v40 55 1 = x9 := by rw [ev40, up2_n _ _ (by omega)]; exact hm11
              have hm44 : v40 56 x6.toNatClampNeg = x17 := by rw [ev40, up2_n _ _ (by omega)]; exact hm18
              have hm45 : v40 55 2 = x37 := by rw [ev40, up2_s]
              obtain ⟨x46, ex46⟩ : ∃ y : Int32, y = y3 + 1 := ⟨_, rfl⟩
              refine lv_iinc (v := x46) (lv' := [(3, .int x46), (2, .int x34), (0, .ref (ad 55)), (1, .int dg)]) hx hb d_X8_number_71 hl (k := 3) rfl (by rw [ex46]; rfl) (by decide) rfl (fun ls hl => ?_)
              have r47 : Rg x46 1 3 := rg_add ex46 r5 (⟨by decide, by decide⟩ : Rg 1 1 1) (by decide) (by decide)
              have s48 : x46.toInt = y3.toInt + (1 : Int32).toInt := by rw [ex46]; exact i_add (by obtain ⟨_, _⟩ := r5; obtain ⟨_, _⟩ := (⟨by decide, by decide⟩ : Rg 1 1 1); omega) (by obtain ⟨_, _⟩ := r5; obtain ⟨_, _⟩ := (⟨by decide, by decide⟩ : Rg 1 1 1); omega)
              have s48l : (1 : Int32).toInt = 1 := rfl
              refine lv_goto (tgt := 4) hx hb d_X8_number_74 (by decide) ?_
              exact ih0 x34 x46 v40 _ _ _ (by have := s30; have := s33; have := s36; have := s39; have := s48; obtain ⟨_, _⟩ := r35; obtain ⟨_, _⟩ := r47; omega) (rg_w r35 (by decide) (by decide)) (rg_w r47 (by decide) (by decide)) hI41 hK42 (by have q_ := r_dg; obtain ⟨_, _⟩ := q_; have q_ := r25; obtain ⟨_, _⟩ := q_; have q_ := r5; obtain ⟨_, _⟩ := q_; have q_ := r15; obtain ⟨_, _⟩ := q_; have q_ := r16; obtain ⟨_, _⟩ := q_; have q_ := r23; obtain ⟨_, _⟩ := q_; have q_ := r27; obtain ⟨_, _⟩ := q_; have q_ := r29; obtain ⟨_, _⟩ := q_; have q_ := r32; obtain ⟨_, _⟩ := q_; have q_ := r35; obtain ⟨_, _⟩ := q_; have q_ := r38; obtain ⟨_, _⟩ := q_; have q_ := r47; obtain ⟨_, _⟩ := q_; have z0 : (0 : Int32).toInt = 0 := rfl; have z1 : (-1 : Int32).toInt = -1 := rfl; refine ⟨fun _ => ?_, fun _ => ?_, fun _ => ?_⟩ <;> omega) hw hS (lv_sub hl [2, 3, 1, 0] rfl)
          · skip
            refine lv_if_eq (tgt := 77) hx hb d_X8_number_36 (by decide) (fun c49 => ?_) (fun c49 => ?_)
            · refine lv_iload_n hx hb d_X8_number_77 rfl (lv_at hl 2 rfl) ?_
              exact r_iret X hr hlocks hw hS ⟨hI1, hK1, r_y2⟩ d_X8_number_78
            · exact absurd c49 (by decide)
  have ih0 := LL 100000
  have hK0 : Kp v v := Kp.rf v
  refine lv_iconst (v := -1) hx hb d_X8_number_0 (by decide) ?_
  refine lv_istore_n (lv' := [(2, .int (-1)), (0, .ref (ad 55)), (1, .int dg)]) hx hb d_X8_number_1 rfl hl (by decide) rfl (fun ls hl => ?_)
  refine lv_iconst (v := 0) hx hb d_X8_number_2 (by decide) ?_
  refine lv_istore_n (lv' := [(3, .int 0), (2, .int (-1)), (0, .ref (ad 55)), (1, .int dg)]) hx hb d_X8_number_3 rfl hl (by decide) rfl (fun ls hl => ?_)
  exact ih0 (-1) 0 v _ _ _ (by obtain ⟨_, _⟩ := (⟨by decide, by decide⟩ : Rg (-1) (-1) (-1)); obtain ⟨_, _⟩ := (⟨by decide, by decide⟩ : Rg 0 0 0); omega) (rg_w (⟨by decide, by decide⟩ : Rg (-1) (-1) (-1)) (by decide) (by decide)) (rg_w (⟨by decide, by decide⟩ : Rg 0 0 0) (by decide) (by decide)) hI hK0 (by have q_ := r_dg; obtain ⟨_, _⟩ := q_; have z0 : (0 : Int32).toInt = 0 := rfl; have z1 : (-1 : Int32).toInt = -1 := rfl; refine ⟨fun _ => ?_, fun _ => ?_, fun _ => ?_⟩ <;> omega) hw hS (lv_sub hl [2, 3, 1, 0] rfl)
theorem d_X8_word_0 : decode c_X8_word 0 = .ok (.iconst 0, 1) := by decide +kernel
theorem d_X8_word_1 : decode c_X8_word 1 = .ok (.istore_n 2, 1) := by decide +kernel
theorem d_X8_word_2 : decode c_X8_word 2 = .ok (.iload_n 2, 1) := by decide +kernel
theorem d_X8_word_3 : decode c_X8_word 3 = .ok (.aload_n 1, 1) := by decide +kernel
theorem d_X8_word_4 : decode c_X8_word 4 = .ok (.invokevirtual 80, 3) := by decide +kernel
theorem d_X8_word_7 : decode c_X8_word 7 = .ok (.if_icmp .ge 49, 3) := by decide +kernel
theorem d_X8_word_10 : decode c_X8_word 10 = .ok (.aload_n 0, 1) := by decide +kernel
theorem d_X8_word_11 : decode c_X8_word 11 = .ok (.getfield 19, 3) := by decide +kernel
theorem d_X8_word_14 : decode c_X8_word 14 = .ok (.aload_n 0, 1) := by decide +kernel
theorem d_X8_word_15 : decode c_X8_word 15 = .ok (.getfield 15, 3) := by decide +kernel
theorem d_X8_word_18 : decode c_X8_word 18 = .ok (.if_icmp .ge 20, 3) := by decide +kernel
theorem d_X8_word_21 : decode c_X8_word 21 = .ok (.aload_n 0, 1) := by decide +kernel
theorem d_X8_word_22 : decode c_X8_word 22 = .ok (.getfield 9, 3) := by decide +kernel
theorem d_X8_word_25 : decode c_X8_word 25 = .ok (.aload_n 0, 1) := by decide +kernel
theorem d_X8_word_26 : decode c_X8_word 26 = .ok (.getfield 19, 3) := by decide +kernel
theorem d_X8_word_29 : decode c_X8_word 29 = .ok (.iaload, 1) := by decide +kernel
theorem d_X8_word_30 : decode c_X8_word 30 = .ok (.aload_n 1, 1) := by decide +kernel
theorem d_X8_word_31 : decode c_X8_word 31 = .ok (.iload_n 2, 1) := by decide +kernel
theorem d_X8_word_32 : decode c_X8_word 32 = .ok (.invokevirtual 86, 3) := by decide +kernel
theorem d_X8_word_35 : decode c_X8_word 35 = .ok (.if_icmp .eq 5, 3) := by decide +kernel
theorem d_X8_word_38 : decode c_X8_word 38 = .ok (.iconst 0, 1) := by decide +kernel
theorem d_X8_word_39 : decode c_X8_word 39 = .ok (.ireturn, 1) := by decide +kernel
theorem d_X8_word_40 : decode c_X8_word 40 = .ok (.aload_n 0, 1) := by decide +kernel
theorem d_X8_word_41 : decode c_X8_word 41 = .ok (.dup, 1) := by decide +kernel
theorem d_X8_word_42 : decode c_X8_word 42 = .ok (.getfield 19, 3) := by decide +kernel
theorem d_X8_word_45 : decode c_X8_word 45 = .ok (.iconst 1, 1) := by decide +kernel
theorem d_X8_word_46 : decode c_X8_word 46 = .ok (.iadd, 1) := by decide +kernel
theorem d_X8_word_47 : decode c_X8_word 47 = .ok (.putfield 19, 3) := by decide +kernel
theorem d_X8_word_50 : decode c_X8_word 50 = .ok (.iinc 2 1, 3) := by decide +kernel
theorem d_X8_word_53 : decode c_X8_word 53 = .ok (.goto (-51), 3) := by decide +kernel
theorem d_X8_word_56 : decode c_X8_word 56 = .ok (.iconst 1, 1) := by decide +kernel
theorem d_X8_word_57 : decode c_X8_word 57 = .ok (.ireturn, 1) := by decide +kernel
set_option maxHeartbeats 4000000 in
set_option maxRecDepth 100000 in
theorem ct_X8_word_55 (l : Launch) (D : va_G) (dA : Nat → ClassId) (ad : Nat → Nat) (sa : Nat → Nat) (v : tV) (hI : Inv v) (xx : Nat × String × Nat) (hxx : xx ∈ STAB) : Met l m_X8_word [.code m_X8_word c_X8_word 3 (some .boolean)] ({ frames := 5, cells := 0, slots := 0, locals := 131 } : Room) (tPs D dA ad sa v [.ref (ad 55), .ref (sa xx.1)]) (tQi D dA ad (fun r v' => Inv v' ∧ Kp v v' ∧ Rg r 0 1)) 0 0 (tA ad) := by
  refine tMets (by decide) (Nat.le_of_ble_eq_true rfl) ?_
  intro p e s m below meth c ls X hr hlocks hw hSC hl
  have X : CX p s m ([.ref (ad 55), .ref (sa xx.1)] : List Value).toArray c c_X8_word N_X8 3 D dA := X
  have hx := X.1
  have hb := X.2.1
  have hS : va_S (tA ad) s.heap s.heap [] := va_S.rf
  have hl : lv_has ls 3 [(0, .ref (ad 55)), (1, .ref (sa xx.1))] := hl
  have LL : ∀ n : Nat, (∀ (y2 : Int32) (v1 : tV) (H : Heap) (locs : List Loc) (ls : Array Slot), (6 - y2.toInt).toNat < n → Rg y2 0 6 → Inv v1 → Kp v v1 → tI D dA ad v1 H → va_S (tA ad) s.heap H locs → lv_has ls 3 [(0, .ref (ad 55)), (1, .ref (sa xx.1)), (2, .int y2)] → W p l e ({ frames := 5, cells := 0, slots := 0, locals := 131 } : Room) s m ([.ref (ad 55), .ref (sa xx.1)] : List Value).toArray below meth c H locs 0 0 (MQ below (tQi D dA ad (fun r v' => Inv v' ∧ Kp v v' ∧ Rg r 0 1)) ([.ref (ad 55), .ref (sa xx.1)] : List Value).toArray s 0 0 (tA ad)) (F0 m 2 ls [])) := by
    intro n
    induction n with
    | zero => intros; omega
    | succ n ih =>
      have ih0 := ih
      intro y2 v1 H locs ls hmu r_y2 hI1 hK1 hw hS hl
      refine lv_iload_n hx hb d_X8_word_2 rfl (lv_at hl 2 rfl) ?_
      refine lv_aload_n hx hb d_X8_word_3 rfl (lv_at hl 1 rfl) ?_
      refine j_ci (j_runV (n := 0) (As := []) (rest := [.int y2]) hx hb X.2.2.1 X.2.2.2.1 X.2.2.2.2.1 X.2.2.2.2.2.2 ((hSC.1.kept hS.2.1).ff) (ctj_J0_length l (sa xx.1) xx.2.2) (JB_so _ _) ((hSO.kept hS.2.1).ff) ((hSO.kept hS.2.1).ff).1 gj_J0_length_80 (by decide +kernel) ⟨rfl, rfl, Nat.le_of_ble_eq_true rfl, Nat.le_of_ble_eq_true rfl⟩ rfl hl.1 rfl (Nat.le_of_ble_eq_true rfl) ⟨Nat.zero_le _, Nat.zero_le _⟩ d_X8_word_4) hS (fun x1 H locs hp2 hk hS => ?_)
      have hw := tI.same hk hw
      have hlen := hp2
      have r3 : Rg x1 0 6 := rg_ofNat hp2 (st_le xx hxx)
      refine lv_icmp_ge (tgt := 56) hx hb d_X8_word_7 (by decide) (fun c4 => ?_) (fun c4 => ?_)
      · have f5 := i_le c4
        refine lv_iconst (v := 1) hx hb d_X8_word_56 (by decide) ?_
        exact r_zret X hr hlocks hw hS rfl ⟨hI1, hK1, (rg_w (⟨by decide, by decide⟩ : Rg 1 1 1) (by decide) (by decide))⟩ d_X8_word_57
      · have f6 := i_nle c4
        have r7 : Rg y2 0 5 := by obtain ⟨a1, a2⟩ := r_y2; obtain ⟨b1, b2⟩ := r3; have f := i_nle c4; exact ⟨by omega, by omega⟩
        have r8 : Rg x1 1 6 := by obtain ⟨a1, a2⟩ := r_y2; obtain ⟨b1, b2⟩ := r3; have f := i_nle c4; exact ⟨by omega, by omega⟩
        refine lv_aload_n hx hb d_X8_word_10 rfl (lv_at hl 0 rfl) ?_
        refine r_geti X hw FL_X8_19 (rfl : KD 55 = _) rfl d_X8_word_11 ?_
        refine lv_topi (fun x9 ex9 => ?_)
        have r10 : Rg x9 0 120 := by rw [ex9]; exact hI1 _ _ _ _ rfl
        have hm11 : v1 55 2 = x9 := ex9.symm
        refine lv_aload_n hx hb d_X8_word_14 rfl (lv_at hl 0 rfl) ?_
        refine r_geti X hw FL_X8_15 (rfl : KD 55 = _) rfl d_X8_word_15 ?_
        refine lv_topi (fun x12 ex12 => ?_)
        have r13 : Rg x12 0 120 := by rw [ex12]; exact hI1 _ _ _ _ rfl
        have hm14 : v1 55 1 = x12 := ex12.symm
        refine lv_icmp_ge (tgt := 38) hx hb d_X8_word_18 (by decide) (fun c15 => ?_) (fun c15 => ?_)
        · have f16 := i_le c15
          refine lv_iconst (v := 0) hx hb d_X8_word_38 (by decide) ?_
          exact r_zret X hr hlocks hw hS rfl ⟨hI1, hK1, (rg_w (⟨by decide, by decide⟩ : Rg 0 0 0) (by decide) (by decide))⟩ d_X8_word_39
        · have f17 := i_nle c15
          have r18 : Rg x9 0 119 := by obtain ⟨a1, a2⟩ := r10; obtain ⟨b1, b2⟩ := r13; have f := i_nle c15; exact ⟨by omega, by omega⟩
          have r19 : Rg x12 1 120 := by obtain ⟨a1, a2⟩ := r10; obtain ⟨b1, b2⟩ := r13; have f := i_nle c15; exact ⟨by omega, by omega⟩
          refine lv_aload_n hx hb d_X8_word_21 rfl (lv_at hl 0 rfl) ?_
          refine r_getr (r := 56) X hw FL_X8_9 (rfl : KD 55 = _) rfl d_X8_word_22 ?_
          refine lv_aload_n hx hb d_X8_word_25 rfl (lv_at hl 0 rfl) ?_
          refine r_geti X hw FL_X8_19 (rfl : KD 55 = _) rfl d_X8_word_26 ?_
          refine lv_seti hm11 ?_
          refine r_iald X hw (rfl : KD 56 = _) (Rg.vp (b := 119) r18 (by decide)) rfl d_X8_word_29 ?_
          refine lv_topi (fun x20 ex20 => ?_)
          refine lv_aload_n hx hb d_X8_word_30 rfl (lv_at hl 1 rfl) ?_
          refine lv_iload_n hx hb d_X8_word_31 rfl (lv_at hl 2 rfl) ?_
          refine j_ci (j_runV (n := 1) (As := [.int y2]) (rest := [.int x20]) hx hb X.2.2.1 X.2.2.2.1 X.2.2.2.2.1 X.2.2.2.2.2.2 ((hSC.1.kept hS.2.1).ff) (ctj_J0_charAt l (sa xx.1) xx.2.2 y2 (vp_lt (by obtain ⟨_, _⟩ := (rg_w r7 (by decide) (by decide)); omega) (by omega) hlen (st_le xx hxx)) (Nat.lt_of_le_of_lt (st_le xx hxx) (by decide))) (JB_so _ _) ((hSO.kept hS.2.1).ff) ((hSO.kept hS.2.1).ff).1 gj_J0_charAt_86 (by decide +kernel) ⟨rfl, rfl, Nat.le_of_ble_eq_true rfl, Nat.le_of_ble_eq_true rfl⟩ rfl hl.1 rfl (Nat.le_of_ble_eq_true rfl) ⟨Nat.zero_le _, Nat.zero_le _⟩ d_X8_word_32) hS (fun x21 H locs hp22 hk hS => ?_)
          have hw := tI.same hk hw
          refine lv_icmp_eq (tgt := 40) hx hb d_X8_word_35 (by decide) (fun c23 => ?_) (fun c23 => ?_)
          · have f24 := i_eq c23
            refine lv_aload_n hx hb d_X8_word_40 rfl (lv_at hl 0 rfl) ?_
            refine lv_dup hx hb d_X8_word_41 rfl ?_
            refine r_geti X hw FL_X8_19 (rfl : KD 55 = _) rfl d_X8_word_42 ?_
            refine lv_seti hm11 ?_
            refine lv_iconst (v := 1) hx hb d_X8_word_45 (by decide) ?_
            refine lv_iadd hx hb d_X8_word_46 ?_
            refine lv_topi (fun x25 ex25 => ?_)
            have r26 : Rg x25 1 120 := rg_add ex25 r18 (⟨by decide, by decide⟩ : Rg 1 1 1) (by decide) (by decide)
            have s27 : x25.toInt = x9.toInt + (1 : Int32).toInt := by rw [ex25]; exact i_add (by obtain ⟨_, _⟩ := r18; obtain ⟨_, _⟩ := (⟨by decide, by decide⟩ : Rg 1 1 1); omega) (by obtain ⟨_, _⟩ := r18; obtain ⟨_, _⟩ := (⟨by decide, by decide⟩ : Rg 1 1 1); omega)
            have s27l : (1 : Int32).toInt = 1 := rfl
            refine r_put X hw hS FP_X8_19 (rfl : KD 55 = _) rfl ⟨rfl, rfl⟩ d_X8_word_47 (fun H locs hw hS => ?_)
            obtain ⟨v28, ev28⟩ : ∃ z, z = up2 v1 55 2 x25 := ⟨_, rfl⟩
            rw [← ev28] at hw
            have hI29 : Inv v28 := by rw [ev28]; exact Inv.putr hI1 rfl (rg_w r26 (by decide) (by decide))
            have hK30 : Kp v v28 := by rw [ev28]; exact Kp.put hK1 _ rfl
            have hm31 : v28 55 1 = x12 := by rw [ev28, up2_n _ _ (by omega)]; exact hm14
            have hm32 : v28 55 2 = x25 := by rw [ev28, up2_s]
            obtain ⟨x33, ex33⟩ : ∃ y : Int32, y = y2 + 1 := ⟨_, rfl⟩
            refine lv_iinc (v := x33) (lv' := [(2, .int x33), (0, .ref (ad 55)), (1, .ref (sa xx.1))]) hx hb d_X8_word_50 hl (k := 2) rfl (by rw [ex33]; rfl) (by decide) rfl (fun ls hl => ?_)
            have r34 : Rg x33 1 6 := rg_add ex33 r7 (⟨by decide, by decide⟩ : Rg 1 1 1) (by decide) (by decide)
            have s35 : x33.toInt = y2.toInt + (1 : Int32).toInt := by rw [ex33]; exact i_add (by obtain ⟨_, _⟩ := r7; obtain ⟨_, _⟩ := (⟨by decide, by decide⟩ : Rg 1 1 1); omega) (by obtain ⟨_, _⟩ := r7; obtain ⟨_, _⟩ := (⟨by decide, by decide⟩ : Rg 1 1 1); omega)
            have s35l : (1 : Int32).toInt = 1 := rfl
            refine lv_goto (tgt := 2) hx hb d_X8_word_53 (by decide) ?_
            exact ih0 x33 v28 _ _ _ (by have := s27; have := s35; obtain ⟨_, _⟩ := r34; omega) (rg_w r34 (by decide) (by decide)) hI29 hK30 hw hS (lv_sub hl [1, 2, 0] rfl)
          · have f36 := i_ne c23
            refine lv_iconst (v := 0) hx hb d_X8_word_38 (by decide) ?_
            exact r_zret X hr hlocks hw hS rfl ⟨hI1, hK1, (rg_w (⟨by decide, by decide⟩ : Rg 0 0 0) (by decide) (by decide))⟩ d_X8_word_39
  have ih0 := LL 100000
  have hK0 : Kp v v := Kp.rf v
  have hSO := (hSC.2 xx hxx).2
  refine lv_iconst (v := 0) hx hb d_X8_word_0 (by decide) ?_
  refine lv_istore_n (lv' := [(2, .int 0), (0, .ref (ad 55)), (1, .ref (sa xx.1))]) hx hb d_X8_word_1 rfl hl (by decide) rfl (fun ls hl => ?_)
  exact ih0 0 v _ _ _ (by obtain ⟨_, _⟩ := (⟨by decide, by decide⟩ : Rg 0 0 0); omega) (rg_w (⟨by decide, by decide⟩ : Rg 0 0 0) (by decide) (by decide)) hI hK0 hw hS (lv_sub hl [1, 2, 0] rfl)
theorem d_X8_key_0 : decode c_X8_key 0 = .ok (.aload_n 0, 1) := by decide +kernel
theorem d_X8_key_1 : decode c_X8_key 1 = .ok (.ldc 41, 2) := by decide +kernel
theorem d_X8_key_3 : decode c_X8_key 3 = .ok (.invokevirtual 29, 3) := by decide +kernel
theorem d_X8_key_6 : decode c_X8_key 6 = .ok (.ifCond .eq 15, 3) := by decide +kernel
theorem d_X8_key_9 : decode c_X8_key 9 = .ok (.aload_n 1, 1) := by decide +kernel
theorem d_X8_key_10 : decode c_X8_key 10 = .ok (.iconst 1, 1) := by decide +kernel
theorem d_X8_key_11 : decode c_X8_key 11 = .ok (.putfield 43, 3) := by decide +kernel
theorem d_X8_key_14 : decode c_X8_key 14 = .ok (.aload_n 0, 1) := by decide +kernel
theorem d_X8_key_15 : decode c_X8_key 15 = .ok (.ldc 45, 2) := by decide +kernel
theorem d_X8_key_17 : decode c_X8_key 17 = .ok (.invokevirtual 29, 3) := by decide +kernel
theorem d_X8_key_20 : decode c_X8_key 20 = .ok (.ireturn, 1) := by decide +kernel
theorem d_X8_key_21 : decode c_X8_key 21 = .ok (.aload_n 0, 1) := by decide +kernel
theorem d_X8_key_22 : decode c_X8_key 22 = .ok (.ldc 47, 2) := by decide +kernel
theorem d_X8_key_24 : decode c_X8_key 24 = .ok (.invokevirtual 29, 3) := by decide +kernel
theorem d_X8_key_27 : decode c_X8_key 27 = .ok (.ifCond .eq 15, 3) := by decide +kernel
theorem d_X8_key_30 : decode c_X8_key 30 = .ok (.aload_n 1, 1) := by decide +kernel
theorem d_X8_key_31 : decode c_X8_key 31 = .ok (.iconst 0, 1) := by decide +kernel
theorem d_X8_key_32 : decode c_X8_key 32 = .ok (.putfield 43, 3) := by decide +kernel
theorem d_X8_key_35 : decode c_X8_key 35 = .ok (.aload_n 0, 1) := by decide +kernel
theorem d_X8_key_36 : decode c_X8_key 36 = .ok (.ldc 49, 2) := by decide +kernel
theorem d_X8_key_38 : decode c_X8_key 38 = .ok (.invokevirtual 29, 3) := by decide +kernel
theorem d_X8_key_41 : decode c_X8_key 41 = .ok (.ireturn, 1) := by decide +kernel
theorem d_X8_key_42 : decode c_X8_key 42 = .ok (.aload_n 0, 1) := by decide +kernel
theorem d_X8_key_43 : decode c_X8_key 43 = .ok (.ldc 51, 2) := by decide +kernel
theorem d_X8_key_45 : decode c_X8_key 45 = .ok (.invokevirtual 29, 3) := by decide +kernel
theorem d_X8_key_48 : decode c_X8_key 48 = .ok (.ifCond .ne 5, 3) := by decide +kernel
theorem d_X8_key_51 : decode c_X8_key 51 = .ok (.iconst 0, 1) := by decide +kernel
theorem d_X8_key_52 : decode c_X8_key 52 = .ok (.ireturn, 1) := by decide +kernel
theorem d_X8_key_53 : decode c_X8_key 53 = .ok (.aload_n 0, 1) := by decide +kernel
theorem d_X8_key_54 : decode c_X8_key 54 = .ok (.ldc 53, 2) := by decide +kernel
theorem d_X8_key_56 : decode c_X8_key 56 = .ok (.invokevirtual 29, 3) := by decide +kernel
theorem d_X8_key_59 : decode c_X8_key 59 = .ok (.ifCond .eq 10, 3) := by decide +kernel
theorem d_X8_key_62 : decode c_X8_key 62 = .ok (.aload_n 1, 1) := by decide +kernel
theorem d_X8_key_63 : decode c_X8_key 63 = .ok (.iconst 3, 1) := by decide +kernel
theorem d_X8_key_64 : decode c_X8_key 64 = .ok (.putfield 43, 3) := by decide +kernel
theorem d_X8_key_67 : decode c_X8_key 67 = .ok (.iconst 1, 1) := by decide +kernel
theorem d_X8_key_68 : decode c_X8_key 68 = .ok (.ireturn, 1) := by decide +kernel
theorem d_X8_key_69 : decode c_X8_key 69 = .ok (.aload_n 1, 1) := by decide +kernel
theorem d_X8_key_70 : decode c_X8_key 70 = .ok (.iconst 2, 1) := by decide +kernel
theorem d_X8_key_71 : decode c_X8_key 71 = .ok (.putfield 43, 3) := by decide +kernel
theorem d_X8_key_74 : decode c_X8_key 74 = .ok (.aload_n 0, 1) := by decide +kernel
theorem d_X8_key_75 : decode c_X8_key 75 = .ok (.ldc 55, 2) := by decide +kernel
theorem d_X8_key_77 : decode c_X8_key 77 = .ok (.invokevirtual 29, 3) := by decide +kernel
theorem d_X8_key_80 : decode c_X8_key 80 = .ok (.ireturn, 1) := by decide +kernel
set_option maxHeartbeats 4000000 in
set_option maxRecDepth 100000 in
theorem ct_X8_key_55 (l : Launch) (D : va_G) (dA : Nat → ClassId) (ad : Nat → Nat) (sa : Nat → Nat) (v : tV) (hI : Inv v) (k : Nat) (ka : 60 ≤ k) (kb : k < 69) : Met l m_X8_key [.code m_X8_key c_X8_key 2 (some .boolean)] ({ frames := 6, cells := 0, slots := 0, locals := 153 } : Room) (tPs D dA ad sa v [.ref (ad 55), .ref (ad k)]) (tQi D dA ad (fun r v' => Inv v' ∧ Kp v v' ∧ Rg r 0 1)) 0 0 (tA ad) := by
  refine tMets (by decide) (Nat.le_of_ble_eq_true rfl) ?_
  intro p e s m below meth c ls X hr hlocks hw hSC hl
  have X : CX p s m ([.ref (ad 55), .ref (ad k)] : List Value).toArray c c_X8_key N_X8 2 D dA := X
  have hx := X.1
  have hb := X.2.1
  have hS : va_S (tA ad) s.heap s.heap [] := va_S.rf
  have hl : lv_has ls 2 [(0, .ref (ad 55)), (1, .ref (ad k))] := hl
  have hK0 : Kp v v := Kp.rf v
  refine lv_aload_n hx hb d_X8_key_0 rfl (lv_at hl 0 rfl) ?_
  refine va_ldcS hx hb X.2.2.2.1 (hSC.2 (41, "a", 1) (by decide)).1 d_X8_key_1 ?_
  refine r_ci (r_runVs (n := 1) (As := [.ref (sa 41)]) (rest := []) X hw hSC hS (ct_X8_word_55 l D dA ad sa v hI (41, "a", 1) (by decide)) gc_X8_29 (rfl : KD 55 = _) (by decide) rfl (by decide +kernel) ⟨rfl, rfl, Nat.le_of_ble_eq_true rfl, Nat.le_of_ble_eq_true rfl⟩ rfl hl.1 rfl (Nat.le_of_ble_eq_true rfl) ⟨Nat.zero_le _, Nat.zero_le _⟩ d_X8_key_3) hS (fun x2 v3 H locs hp1 hw hS => ?_)
  obtain ⟨hI4, hK5, hp1⟩ := hp1
  have hK6 : Kp v v3 := Kp.tr hK0 hK5
  refine lv_if_eq (tgt := 21) hx hb d_X8_key_6 (by decide) (fun c7 => ?_) (fun c7 => ?_)
  · have f8 := i_eq c7
    have r9 : Rg x2 0 0 := by obtain ⟨a1, a2⟩ := hp1; obtain ⟨b1, b2⟩ := (⟨by decide, by decide⟩ : Rg 0 0 0); have f := i_eq c7; exact ⟨by omega, by omega⟩
    refine lv_aload_n hx hb d_X8_key_21 rfl (lv_at hl 0 rfl) ?_
    refine va_ldcS hx hb X.2.2.2.1 (hSC.2 (47, "e", 1) (by decide)).1 d_X8_key_22 ?_
    refine r_ci (r_runVs (n := 1) (As := [.ref (sa 47)]) (rest := []) X hw hSC hS (ct_X8_word_55 l D dA ad sa v3 hI4 (47, "e", 1) (by decide)) gc_X8_29 (rfl : KD 55 = _) (by decide) rfl (by decide +kernel) ⟨rfl, rfl, Nat.le_of_ble_eq_true rfl, Nat.le_of_ble_eq_true rfl⟩ rfl hl.1 rfl (Nat.le_of_ble_eq_true rfl) ⟨Nat.zero_le _, Nat.zero_le _⟩ d_X8_key_24) hS (fun x11 v12 H locs hp10 hw hS => ?_)
    obtain ⟨hI13, hK14, hp10⟩ := hp10
    have hK15 : Kp v v12 := Kp.tr hK6 hK14
    refine lv_if_eq (tgt := 42) hx hb d_X8_key_27 (by decide) (fun c16 => ?_) (fun c16 => ?_)
    · have f17 := i_eq c16
      have r18 : Rg x11 0 0 := by obtain ⟨a1, a2⟩ := hp10; obtain ⟨b1, b2⟩ := (⟨by decide, by decide⟩ : Rg 0 0 0); have f := i_eq c16; exact ⟨by omega, by omega⟩
      refine lv_aload_n hx hb d_X8_key_42 rfl (lv_at hl 0 rfl) ?_
      refine va_ldcS hx hb X.2.2.2.1 (hSC.2 (51, "lo", 2) (by decide)).1 d_X8_key_43 ?_
      refine r_ci (r_runVs (n := 1) (As := [.ref (sa 51)]) (rest := []) X hw hSC hS (ct_X8_word_55 l D dA ad sa v12 hI13 (51, "lo", 2) (by decide)) gc_X8_29 (rfl : KD 55 = _) (by decide) rfl (by decide +kernel) ⟨rfl, rfl, Nat.le_of_ble_eq_true rfl, Nat.le_of_ble_eq_true rfl⟩ rfl hl.1 rfl (Nat.le_of_ble_eq_true rfl) ⟨Nat.zero_le _, Nat.zero_le _⟩ d_X8_key_45) hS (fun x20 v21 H locs hp19 hw hS => ?_)
      obtain ⟨hI22, hK23, hp19⟩ := hp19
      have hK24 : Kp v v21 := Kp.tr hK15 hK23
      refine lv_if_ne (tgt := 53) hx hb d_X8_key_48 (by decide) (fun c25 => ?_) (fun c25 => ?_)
      · have f26 := i_ne c25
        have r27 : Rg x20 1 1 := by obtain ⟨a1, a2⟩ := hp19; obtain ⟨b1, b2⟩ := (⟨by decide, by decide⟩ : Rg 0 0 0); have f := i_ne c25; exact ⟨by omega, by omega⟩
        refine lv_aload_n hx hb d_X8_key_53 rfl (lv_at hl 0 rfl) ?_
        refine va_ldcS hx hb X.2.2.2.1 (hSC.2 (53, "t", 1) (by decide)).1 d_X8_key_54 ?_
        refine r_ci (r_runVs (n := 1) (As := [.ref (sa 53)]) (rest := []) X hw hSC hS (ct_X8_word_55 l D dA ad sa v21 hI22 (53, "t", 1) (by decide)) gc_X8_29 (rfl : KD 55 = _) (by decide) rfl (by decide +kernel) ⟨rfl, rfl, Nat.le_of_ble_eq_true rfl, Nat.le_of_ble_eq_true rfl⟩ rfl hl.1 rfl (Nat.le_of_ble_eq_true rfl) ⟨Nat.zero_le _, Nat.zero_le _⟩ d_X8_key_56) hS (fun x29 v30 H locs hp28 hw hS => ?_)
        obtain ⟨hI31, hK32, hp28⟩ := hp28
        have hK33 : Kp v v30 := Kp.tr hK24 hK32
        refine lv_if_eq (tgt := 69) hx hb d_X8_key_59 (by decide) (fun c34 => ?_) (fun c34 => ?_)
        · have f35 := i_eq c34
          have r36 : Rg x29 0 0 := by obtain ⟨a1, a2⟩ := hp28; obtain ⟨b1, b2⟩ := (⟨by decide, by decide⟩ : Rg 0 0 0); have f := i_eq c34; exact ⟨by omega, by omega⟩
          refine lv_aload_n hx hb d_X8_key_69 rfl (lv_at hl 1 rfl) ?_
          refine lv_iconst (v := 2) hx hb d_X8_key_70 (by decide) ?_
          refine r_put X hw hS FP_X8_43 (KD_order (by omega) (by omega)) (SH_order (by omega) (by omega) (by decide)) ⟨rfl, rfl⟩ d_X8_key_71 (fun H locs hw hS => ?_)
          obtain ⟨v37, ev37⟩ : ∃ z, z = up2 v30 k 5 2 := ⟨_, rfl⟩
          rw [← ev37] at hw
          have hI38 : Inv v37 := by rw [ev37]; exact Inv.put0 hI31 _ (RG_order (by omega) (by omega) (by decide))
          have hK39 : Kp v v37 := by rw [ev37]; exact Kp.put hK33 _ (PS_order (by omega) (by omega))
          refine lv_aload_n hx hb d_X8_key_74 rfl (lv_at hl 0 rfl) ?_
          refine va_ldcS hx hb X.2.2.2.1 (hSC.2 (55, "ad", 2) (by decide)).1 d_X8_key_75 ?_
          refine r_ci (r_runVs (n := 1) (As := [.ref (sa 55)]) (rest := []) X hw hSC hS (ct_X8_word_55 l D dA ad sa v37 hI38 (55, "ad", 2) (by decide)) gc_X8_29 (rfl : KD 55 = _) (by decide) rfl (by decide +kernel) ⟨rfl, rfl, Nat.le_of_ble_eq_true rfl, Nat.le_of_ble_eq_true rfl⟩ rfl hl.1 rfl (Nat.le_of_ble_eq_true rfl) ⟨Nat.zero_le _, Nat.zero_le _⟩ d_X8_key_77) hS (fun x41 v42 H locs hp40 hw hS => ?_)
          obtain ⟨hI43, hK44, hp40⟩ := hp40
          have hK45 : Kp v v42 := Kp.tr hK39 hK44
          exact r_zret X hr hlocks hw hS (narz hp40) ⟨hI43, hK45, hp40⟩ d_X8_key_80
        · have f46 := i_ne c34
          have r47 : Rg x29 1 1 := by obtain ⟨a1, a2⟩ := hp28; obtain ⟨b1, b2⟩ := (⟨by decide, by decide⟩ : Rg 0 0 0); have f := i_ne c34; exact ⟨by omega, by omega⟩
          refine lv_aload_n hx hb d_X8_key_62 rfl (lv_at hl 1 rfl) ?_
          refine lv_iconst (v := 3) hx hb d_X8_key_63 (by decide) ?_
          refine r_put X hw hS FP_X8_43 (KD_order (by omega) (by omega)) (SH_order (by omega) (by omega) (by decide)) ⟨rfl, rfl⟩ d_X8_key_64 (fun H locs hw hS => ?_)
          obtain ⟨v48, ev48⟩ : ∃ z, z = up2 v30 k 5 3 := ⟨_, rfl⟩
          rw [← ev48] at hw
          have hI49 : Inv v48 := by rw [ev48]; exact Inv.put0 hI31 _ (RG_order (by omega) (by omega) (by decide))
          have hK50 : Kp v v48 := by rw [ev48]; exact Kp.put hK33 _ (PS_order (by omega) (by omega))
          refine lv_iconst (v := 1) hx hb d_X8_key_67 (by decide) ?_
          exact r_zret X hr hlocks hw hS rfl ⟨hI49, hK50, (rg_w (⟨by decide, by decide⟩ : Rg 1 1 1) (by decide) (by decide))⟩ d_X8_key_68
      · have f51 := i_eq c25
        have r52 : Rg x20 0 0 := by obtain ⟨a1, a2⟩ := hp19; obtain ⟨b1, b2⟩ := (⟨by decide, by decide⟩ : Rg 0 0 0); have f := i_eq c25; exact ⟨by omega, by omega⟩
        refine lv_iconst (v := 0) hx hb d_X8_key_51 (by decide) ?_
        exact r_zret X hr hlocks hw hS rfl ⟨hI22, hK24, (rg_w (⟨by decide, by decide⟩ : Rg 0 0 0) (by decide) (by decide))⟩ d_X8_key_52
    · have f53 := i_ne c16
      have r54 : Rg x11 1 1 := by obtain ⟨a1, a2⟩ := hp10; obtain ⟨b1, b2⟩ := (⟨by decide, by decide⟩ : Rg 0 0 0); have f := i_ne c16; exact ⟨by omega, by omega⟩
      refine lv_aload_n hx hb d_X8_key_30 rfl (lv_at hl 1 rfl) ?_
      refine lv_iconst (v := 0) hx hb d_X8_key_31 (by decide) ?_
      refine r_put X hw hS FP_X8_43 (KD_order (by omega) (by omega)) (SH_order (by omega) (by omega) (by decide)) ⟨rfl, rfl⟩ d_X8_key_32 (fun H locs hw hS => ?_)
      obtain ⟨v55, ev55⟩ : ∃ z, z = up2 v12 k 5 0 := ⟨_, rfl⟩
      rw [← ev55] at hw
      have hI56 : Inv v55 := by rw [ev55]; exact Inv.put0 hI13 _ (RG_order (by omega) (by omega) (by decide))
      have hK57 : Kp v v55 := by rw [ev55]; exact Kp.put hK15 _ (PS_order (by omega) (by omega))
      refine lv_aload_n hx hb d_X8_key_35 rfl (lv_at hl 0 rfl) ?_
      refine va_ldcS hx hb X.2.2.2.1 (hSC.2 (49, "ntry", 4) (by decide)).1 d_X8_key_36 ?_
      refine r_ci (r_runVs (n := 1) (As := [.ref (sa 49)]) (rest := []) X hw hSC hS (ct_X8_word_55 l D dA ad sa v55 hI56 (49, "ntry", 4) (by decide)) gc_X8_29 (rfl : KD 55 = _) (by decide) rfl (by decide +kernel) ⟨rfl, rfl, Nat.le_of_ble_eq_true rfl, Nat.le_of_ble_eq_true rfl⟩ rfl hl.1 rfl (Nat.le_of_ble_eq_true rfl) ⟨Nat.zero_le _, Nat.zero_le _⟩ d_X8_key_38) hS (fun x59 v60 H locs hp58 hw hS => ?_)
      obtain ⟨hI61, hK62, hp58⟩ := hp58
      have hK63 : Kp v v60 := Kp.tr hK57 hK62
      exact r_zret X hr hlocks hw hS (narz hp58) ⟨hI61, hK63, hp58⟩ d_X8_key_41
  · have f64 := i_ne c7
    have r65 : Rg x2 1 1 := by obtain ⟨a1, a2⟩ := hp1; obtain ⟨b1, b2⟩ := (⟨by decide, by decide⟩ : Rg 0 0 0); have f := i_ne c7; exact ⟨by omega, by omega⟩
    refine lv_aload_n hx hb d_X8_key_9 rfl (lv_at hl 1 rfl) ?_
    refine lv_iconst (v := 1) hx hb d_X8_key_10 (by decide) ?_
    refine r_put X hw hS FP_X8_43 (KD_order (by omega) (by omega)) (SH_order (by omega) (by omega) (by decide)) ⟨rfl, rfl⟩ d_X8_key_11 (fun H locs hw hS => ?_)
    obtain ⟨v66, ev66⟩ : ∃ z, z = up2 v3 k 5 1 := ⟨_, rfl⟩
    rw [← ev66] at hw
    have hI67 : Inv v66 := by rw [ev66]; exact Inv.put0 hI4 _ (RG_order (by omega) (by omega) (by decide))
    have hK68 : Kp v v66 := by rw [ev66]; exact Kp.put hK6 _ (PS_order (by omega) (by omega))
    refine lv_aload_n hx hb d_X8_key_14 rfl (lv_at hl 0 rfl) ?_
    refine va_ldcS hx hb X.2.2.2.1 (hSC.2 (45, "sk", 2) (by decide)).1 d_X8_key_15 ?_
    refine r_ci (r_runVs (n := 1) (As := [.ref (sa 45)]) (rest := []) X hw hSC hS (ct_X8_word_55 l D dA ad sa v66 hI67 (45, "sk", 2) (by decide)) gc_X8_29 (rfl : KD 55 = _) (by decide) rfl (by decide +kernel) ⟨rfl, rfl, Nat.le_of_ble_eq_true rfl, Nat.le_of_ble_eq_true rfl⟩ rfl hl.1 rfl (Nat.le_of_ble_eq_true rfl) ⟨Nat.zero_le _, Nat.zero_le _⟩ d_X8_key_17) hS (fun x70 v71 H locs hp69 hw hS => ?_)
    obtain ⟨hI72, hK73, hp69⟩ := hp69
    have hK74 : Kp v v71 := Kp.tr hK68 hK73
    exact r_zret X hr hlocks hw hS (narz hp69) ⟨hI72, hK74, hp69⟩ d_X8_key_20
theorem d_X8_part_0 : decode c_X8_part 0 = .ok (.aload_n 0, 1) := by decide +kernel
theorem d_X8_part_1 : decode c_X8_part 1 = .ok (.ldc 68, 2) := by decide +kernel
theorem d_X8_part_3 : decode c_X8_part 3 = .ok (.invokevirtual 29, 3) := by decide +kernel
theorem d_X8_part_6 : decode c_X8_part 6 = .ok (.ifCond .ne 5, 3) := by decide +kernel
theorem d_X8_part_9 : decode c_X8_part 9 = .ok (.iconst 0, 1) := by decide +kernel
theorem d_X8_part_10 : decode c_X8_part 10 = .ok (.ireturn, 1) := by decide +kernel
theorem d_X8_part_11 : decode c_X8_part 11 = .ok (.aload_n 0, 1) := by decide +kernel
theorem d_X8_part_12 : decode c_X8_part 12 = .ok (.ldc 70, 2) := by decide +kernel
theorem d_X8_part_14 : decode c_X8_part 14 = .ok (.invokevirtual 29, 3) := by decide +kernel
theorem d_X8_part_17 : decode c_X8_part 17 = .ok (.istore_n 3, 1) := by decide +kernel
theorem d_X8_part_18 : decode c_X8_part 18 = .ok (.iload_n 3, 1) := by decide +kernel
theorem d_X8_part_19 : decode c_X8_part 19 = .ok (.ifCond .ne 14, 3) := by decide +kernel
theorem d_X8_part_22 : decode c_X8_part 22 = .ok (.aload_n 0, 1) := by decide +kernel
theorem d_X8_part_23 : decode c_X8_part 23 = .ok (.ldc 72, 2) := by decide +kernel
theorem d_X8_part_25 : decode c_X8_part 25 = .ok (.invokevirtual 29, 3) := by decide +kernel
theorem d_X8_part_28 : decode c_X8_part 28 = .ok (.ifCond .ne 5, 3) := by decide +kernel
theorem d_X8_part_31 : decode c_X8_part 31 = .ok (.iconst 0, 1) := by decide +kernel
theorem d_X8_part_32 : decode c_X8_part 32 = .ok (.ireturn, 1) := by decide +kernel
theorem d_X8_part_33 : decode c_X8_part 33 = .ok (.aload_n 0, 1) := by decide +kernel
theorem d_X8_part_34 : decode c_X8_part 34 = .ok (.iconst 3, 1) := by decide +kernel
theorem d_X8_part_35 : decode c_X8_part 35 = .ok (.invokevirtual 57, 3) := by decide +kernel
theorem d_X8_part_38 : decode c_X8_part 38 = .ok (.istore 4, 2) := by decide +kernel
theorem d_X8_part_40 : decode c_X8_part 40 = .ok (.iload 4, 2) := by decide +kernel
theorem d_X8_part_42 : decode c_X8_part 42 = .ok (.iconst (-1), 1) := by decide +kernel
theorem d_X8_part_43 : decode c_X8_part 43 = .ok (.if_icmp .ne 5, 3) := by decide +kernel
theorem d_X8_part_46 : decode c_X8_part 46 = .ok (.iconst 0, 1) := by decide +kernel
theorem d_X8_part_47 : decode c_X8_part 47 = .ok (.ireturn, 1) := by decide +kernel
theorem d_X8_part_48 : decode c_X8_part 48 = .ok (.aload_n 1, 1) := by decide +kernel
theorem d_X8_part_49 : decode c_X8_part 49 = .ok (.iload_n 2, 1) := by decide +kernel
theorem d_X8_part_50 : decode c_X8_part 50 = .ok (.iload_n 3, 1) := by decide +kernel
theorem d_X8_part_51 : decode c_X8_part 51 = .ok (.iload 4, 2) := by decide +kernel
theorem d_X8_part_53 : decode c_X8_part 53 = .ok (.invokevirtual 74, 3) := by decide +kernel
theorem d_X8_part_56 : decode c_X8_part 56 = .ok (.aload_n 0, 1) := by decide +kernel
theorem d_X8_part_57 : decode c_X8_part 57 = .ok (.ldc 78, 2) := by decide +kernel
theorem d_X8_part_59 : decode c_X8_part 59 = .ok (.invokevirtual 29, 3) := by decide +kernel
theorem d_X8_part_62 : decode c_X8_part 62 = .ok (.ireturn, 1) := by decide +kernel
set_option maxHeartbeats 4000000 in
set_option maxRecDepth 100000 in
theorem ct_X8_part_55 (l : Launch) (D : va_G) (dA : Nat → ClassId) (ad : Nat → Nat) (sa : Nat → Nat) (v : tV) (hI : Inv v) (k : Nat) (se : Int32) (ka : 60 ≤ k) (kb : k < 69) (r_se : Rg se 0 99) : Met l m_X8_part [.code m_X8_part c_X8_part 5 (some .boolean)] ({ frames := 6, cells := 0, slots := 0, locals := 153 } : Room) (tPs D dA ad sa v [.ref (ad 55), .ref (ad k), .int se]) (tQi D dA ad (fun r v' => Inv v' ∧ Kp v v' ∧ Rg r 0 1)) 0 0 (tA ad) := by
  refine tMets (by decide) (Nat.le_of_ble_eq_true rfl) ?_
  intro p e s m below meth c ls X hr hlocks hw hSC hl
  have X : CX p s m ([.ref (ad 55), .ref (ad k), .int se] : List Value).toArray c c_X8_part N_X8 5 D dA := X
  have hx := X.1
  have hb := X.2.1
  have hS : va_S (tA ad) s.heap s.heap [] := va_S.rf
  have hl : lv_has ls 5 [(0, .ref (ad 55)), (1, .ref (ad k)), (2, .int se)] := hl
  have hK0 : Kp v v := Kp.rf v
  refine lv_aload_n hx hb d_X8_part_0 rfl (lv_at hl 0 rfl) ?_
  refine va_ldcS hx hb X.2.2.2.1 (hSC.2 (68, " at ", 4) (by decide)).1 d_X8_part_1 ?_
  refine r_ci (r_runVs (n := 1) (As := [.ref (sa 68)]) (rest := []) X hw hSC hS (ct_X8_word_55 l D dA ad sa v hI (68, " at ", 4) (by decide)) gc_X8_29 (rfl : KD 55 = _) (by decide) rfl (by decide +kernel) ⟨rfl, rfl, Nat.le_of_ble_eq_true rfl, Nat.le_of_ble_eq_true rfl⟩ rfl hl.1 rfl (Nat.le_of_ble_eq_true rfl) ⟨Nat.zero_le _, Nat.zero_le _⟩ d_X8_part_3) hS (fun x2 v3 H locs hp1 hw hS => ?_)
  obtain ⟨hI4, hK5, hp1⟩ := hp1
  have hK6 : Kp v v3 := Kp.tr hK0 hK5
  refine lv_if_ne (tgt := 11) hx hb d_X8_part_6 (by decide) (fun c7 => ?_) (fun c7 => ?_)
  · have f8 := i_ne c7
    have r9 : Rg x2 1 1 := by obtain ⟨a1, a2⟩ := hp1; obtain ⟨b1, b2⟩ := (⟨by decide, by decide⟩ : Rg 0 0 0); have f := i_ne c7; exact ⟨by omega, by omega⟩
    refine lv_aload_n hx hb d_X8_part_11 rfl (lv_at hl 0 rfl) ?_
    refine va_ldcS hx hb X.2.2.2.1 (hSC.2 (70, "<", 1) (by decide)).1 d_X8_part_12 ?_
    refine r_ci (r_runVs (n := 1) (As := [.ref (sa 70)]) (rest := []) X hw hSC hS (ct_X8_word_55 l D dA ad sa v3 hI4 (70, "<", 1) (by decide)) gc_X8_29 (rfl : KD 55 = _) (by decide) rfl (by decide +kernel) ⟨rfl, rfl, Nat.le_of_ble_eq_true rfl, Nat.le_of_ble_eq_true rfl⟩ rfl hl.1 rfl (Nat.le_of_ble_eq_true rfl) ⟨Nat.zero_le _, Nat.zero_le _⟩ d_X8_part_14) hS (fun x11 v12 H locs hp10 hw hS => ?_)
    obtain ⟨hI13, hK14, hp10⟩ := hp10
    have hK15 : Kp v v12 := Kp.tr hK6 hK14
    refine lv_istore_n (lv' := [(3, .int x11), (0, .ref (ad 55)), (1, .ref (ad k)), (2, .int se)]) hx hb d_X8_part_17 rfl hl (by decide) rfl (fun ls hl => ?_)
    refine lv_iload_n hx hb d_X8_part_18 rfl (lv_at hl 0 rfl) ?_
    refine lv_if_ne (tgt := 33) hx hb d_X8_part_19 (by decide) (fun c16 => ?_) (fun c16 => ?_)
    · have f17 := i_ne c16
      have r18 : Rg x11 1 1 := by obtain ⟨a1, a2⟩ := hp10; obtain ⟨b1, b2⟩ := (⟨by decide, by decide⟩ : Rg 0 0 0); have f := i_ne c16; exact ⟨by omega, by omega⟩
      refine lv_aload_n hx hb d_X8_part_33 rfl (lv_at hl 1 rfl) ?_
      refine lv_iconst (v := 3) hx hb d_X8_part_34 (by decide) ?_
      refine r_ci (r_runV (n := 1) (As := [.int 3]) (rest := []) X hw (ct_X8_number_3 l D dA ad v12 hI13 3 (⟨by decide, by decide⟩ : Rg 3 3 3)) gc_X8_57 (rfl : KD 55 = _) (by decide) rfl (by decide +kernel) ⟨rfl, rfl, Nat.le_of_ble_eq_true rfl, Nat.le_of_ble_eq_true rfl⟩ rfl hl.1 rfl (Nat.le_of_ble_eq_true rfl) ⟨Nat.zero_le _, Nat.zero_le _⟩ d_X8_part_35) hS (fun x20 v21 H locs hp19 hw hS => ?_)
      obtain ⟨hI22, hK23, hp19⟩ := hp19
      have hK24 : Kp v v21 := Kp.tr hK15 hK23
      refine lv_istore (lv' := [(4, .int x20), (3, .int x11), (0, .ref (ad 55)), (1, .ref (ad k)), (2, .int se)]) hx hb d_X8_part_38 hl (by decide) rfl (fun ls hl => ?_)
      refine lv_iload hx hb d_X8_part_40 (lv_at hl 0 rfl) ?_
      refine lv_iconst (v := -1) hx hb d_X8_part_42 (by decide) ?_
      refine lv_icmp_ne (tgt := 48) hx hb d_X8_part_43 (by decide) (fun c25 => ?_) (fun c25 => ?_)
      · have f26 := i_ne c25
        have r27 : Rg x20 0 999 := by obtain ⟨a1, a2⟩ := hp19; obtain ⟨b1, b2⟩ := (⟨by decide, by decide⟩ : Rg (-1) (-1) (-1)); have f := i_ne c25; exact ⟨by omega, by omega⟩
        refine lv_aload_n hx hb d_X8_part_48 rfl (lv_at hl 3 rfl) ?_
        refine lv_iload_n hx hb d_X8_part_49 rfl (lv_at hl 4 rfl) ?_
        refine lv_iload_n hx hb d_X8_part_50 rfl (lv_at hl 1 rfl) ?_
        refine lv_iload hx hb d_X8_part_51 (lv_at hl 0 rfl) ?_
        refine r_cv (r_runV (n := 3) (As := [.int se, .int x11, .int x20]) (rest := []) X hw (ct_X3_addPart l D dA ad v21 hI22 k se x11 x20 (by omega) (by omega) r_se (rg_w r18 (by decide) (by decide))) gc_X8_74 (KD_order (by omega) (by omega)) (by decide) rfl (by decide +kernel) ⟨rfl, rfl, Nat.le_of_ble_eq_true rfl, Nat.le_of_ble_eq_true rfl⟩ rfl hl.1 rfl (Nat.le_of_ble_eq_true rfl) ⟨Nat.zero_le _, Nat.zero_le _⟩ d_X8_part_53) hS (fun v29 H locs hp28 hw hS => ?_)
        obtain ⟨hI30, hK31⟩ := hp28
        have hK32 : Kp v v29 := Kp.tr hK24 hK31
        refine lv_aload_n hx hb d_X8_part_56 rfl (lv_at hl 2 rfl) ?_
        refine va_ldcS hx hb X.2.2.2.1 (hSC.2 (78, ",", 1) (by decide)).1 d_X8_part_57 ?_
        refine r_ci (r_runVs (n := 1) (As := [.ref (sa 78)]) (rest := []) X hw hSC hS (ct_X8_word_55 l D dA ad sa v29 hI30 (78, ",", 1) (by decide)) gc_X8_29 (rfl : KD 55 = _) (by decide) rfl (by decide +kernel) ⟨rfl, rfl, Nat.le_of_ble_eq_true rfl, Nat.le_of_ble_eq_true rfl⟩ rfl hl.1 rfl (Nat.le_of_ble_eq_true rfl) ⟨Nat.zero_le _, Nat.zero_le _⟩ d_X8_part_59) hS (fun x34 v35 H locs hp33 hw hS => ?_)
        obtain ⟨hI36, hK37, hp33⟩ := hp33
        have hK38 : Kp v v35 := Kp.tr hK32 hK37
        exact r_zret X hr hlocks hw hS (narz hp33) ⟨hI36, hK38, hp33⟩ d_X8_part_62
      · have f39 := i_eq c25
        have r40 : Rg x20 (-1) (-1) := by obtain ⟨a1, a2⟩ := hp19; obtain ⟨b1, b2⟩ := (⟨by decide, by decide⟩ : Rg (-1) (-1) (-1)); have f := i_eq c25; exact ⟨by omega, by omega⟩
        refine lv_iconst (v := 0) hx hb d_X8_part_46 (by decide) ?_
        exact r_zret X hr hlocks hw hS rfl ⟨hI22, hK24, (rg_w (⟨by decide, by decide⟩ : Rg 0 0 0) (by decide) (by decide))⟩ d_X8_part_47
    · have f41 := i_eq c16
      have r42 : Rg x11 0 0 := by obtain ⟨a1, a2⟩ := hp10; obtain ⟨b1, b2⟩ := (⟨by decide, by decide⟩ : Rg 0 0 0); have f := i_eq c16; exact ⟨by omega, by omega⟩
      refine lv_aload_n hx hb d_X8_part_22 rfl (lv_at hl 1 rfl) ?_
      refine va_ldcS hx hb X.2.2.2.1 (hSC.2 (72, ">", 1) (by decide)).1 d_X8_part_23 ?_
      refine r_ci (r_runVs (n := 1) (As := [.ref (sa 72)]) (rest := []) X hw hSC hS (ct_X8_word_55 l D dA ad sa v12 hI13 (72, ">", 1) (by decide)) gc_X8_29 (rfl : KD 55 = _) (by decide) rfl (by decide +kernel) ⟨rfl, rfl, Nat.le_of_ble_eq_true rfl, Nat.le_of_ble_eq_true rfl⟩ rfl hl.1 rfl (Nat.le_of_ble_eq_true rfl) ⟨Nat.zero_le _, Nat.zero_le _⟩ d_X8_part_25) hS (fun x44 v45 H locs hp43 hw hS => ?_)
      obtain ⟨hI46, hK47, hp43⟩ := hp43
      have hK48 : Kp v v45 := Kp.tr hK15 hK47
      refine lv_if_ne (tgt := 33) hx hb d_X8_part_28 (by decide) (fun c49 => ?_) (fun c49 => ?_)
      · have f50 := i_ne c49
        have r51 : Rg x44 1 1 := by obtain ⟨a1, a2⟩ := hp43; obtain ⟨b1, b2⟩ := (⟨by decide, by decide⟩ : Rg 0 0 0); have f := i_ne c49; exact ⟨by omega, by omega⟩
        refine lv_aload_n hx hb d_X8_part_33 rfl (lv_at hl 1 rfl) ?_
        refine lv_iconst (v := 3) hx hb d_X8_part_34 (by decide) ?_
        refine r_ci (r_runV (n := 1) (As := [.int 3]) (rest := []) X hw (ct_X8_number_3 l D dA ad v45 hI46 3 (⟨by decide, by decide⟩ : Rg 3 3 3)) gc_X8_57 (rfl : KD 55 = _) (by decide) rfl (by decide +kernel) ⟨rfl, rfl, Nat.le_of_ble_eq_true rfl, Nat.le_of_ble_eq_true rfl⟩ rfl hl.1 rfl (Nat.le_of_ble_eq_true rfl) ⟨Nat.zero_le _, Nat.zero_le _⟩ d_X8_part_35) hS (fun x53 v54 H locs hp52 hw hS => ?_)
        obtain ⟨hI55, hK56, hp52⟩ := hp52
        have hK57 : Kp v v54 := Kp.tr hK48 hK56
        refine lv_istore (lv' := [(4, .int x53), (3, .int x11), (0, .ref (ad 55)), (1, .ref (ad k)), (2, .int se)]) hx hb d_X8_part_38 hl (by decide) rfl (fun ls hl => ?_)
        refine lv_iload hx hb d_X8_part_40 (lv_at hl 0 rfl) ?_
        refine lv_iconst (v := -1) hx hb d_X8_part_42 (by decide) ?_
        refine lv_icmp_ne (tgt := 48) hx hb d_X8_part_43 (by decide) (fun c58 => ?_) (fun c58 => ?_)
        · have f59 := i_ne c58
          have r60 : Rg x53 0 999 := by obtain ⟨a1, a2⟩ := hp52; obtain ⟨b1, b2⟩ := (⟨by decide, by decide⟩ : Rg (-1) (-1) (-1)); have f := i_ne c58; exact ⟨by omega, by omega⟩
          refine lv_aload_n hx hb d_X8_part_48 rfl (lv_at hl 3 rfl) ?_
          refine lv_iload_n hx hb d_X8_part_49 rfl (lv_at hl 4 rfl) ?_
          refine lv_iload_n hx hb d_X8_part_50 rfl (lv_at hl 1 rfl) ?_
          refine lv_iload hx hb d_X8_part_51 (lv_at hl 0 rfl) ?_
          refine r_cv (r_runV (n := 3) (As := [.int se, .int x11, .int x53]) (rest := []) X hw (ct_X3_addPart l D dA ad v54 hI55 k se x11 x53 (by omega) (by omega) r_se (rg_w r42 (by decide) (by decide))) gc_X8_74 (KD_order (by omega) (by omega)) (by decide) rfl (by decide +kernel) ⟨rfl, rfl, Nat.le_of_ble_eq_true rfl, Nat.le_of_ble_eq_true rfl⟩ rfl hl.1 rfl (Nat.le_of_ble_eq_true rfl) ⟨Nat.zero_le _, Nat.zero_le _⟩ d_X8_part_53) hS (fun v62 H locs hp61 hw hS => ?_)
          obtain ⟨hI63, hK64⟩ := hp61
          have hK65 : Kp v v62 := Kp.tr hK57 hK64
          refine lv_aload_n hx hb d_X8_part_56 rfl (lv_at hl 2 rfl) ?_
          refine va_ldcS hx hb X.2.2.2.1 (hSC.2 (78, ",", 1) (by decide)).1 d_X8_part_57 ?_
          refine r_ci (r_runVs (n := 1) (As := [.ref (sa 78)]) (rest := []) X hw hSC hS (ct_X8_word_55 l D dA ad sa v62 hI63 (78, ",", 1) (by decide)) gc_X8_29 (rfl : KD 55 = _) (by decide) rfl (by decide +kernel) ⟨rfl, rfl, Nat.le_of_ble_eq_true rfl, Nat.le_of_ble_eq_true rfl⟩ rfl hl.1 rfl (Nat.le_of_ble_eq_true rfl) ⟨Nat.zero_le _, Nat.zero_le _⟩ d_X8_part_59) hS (fun x67 v68 H locs hp66 hw hS => ?_)
          obtain ⟨hI69, hK70, hp66⟩ := hp66
          have hK71 : Kp v v68 := Kp.tr hK65 hK70
          exact r_zret X hr hlocks hw hS (narz hp66) ⟨hI69, hK71, hp66⟩ d_X8_part_62
        · have f72 := i_eq c58
          have r73 : Rg x53 (-1) (-1) := by obtain ⟨a1, a2⟩ := hp52; obtain ⟨b1, b2⟩ := (⟨by decide, by decide⟩ : Rg (-1) (-1) (-1)); have f := i_eq c58; exact ⟨by omega, by omega⟩
          refine lv_iconst (v := 0) hx hb d_X8_part_46 (by decide) ?_
          exact r_zret X hr hlocks hw hS rfl ⟨hI55, hK57, (rg_w (⟨by decide, by decide⟩ : Rg 0 0 0) (by decide) (by decide))⟩ d_X8_part_47
      · have f74 := i_eq c49
        have r75 : Rg x44 0 0 := by obtain ⟨a1, a2⟩ := hp43; obtain ⟨b1, b2⟩ := (⟨by decide, by decide⟩ : Rg 0 0 0); have f := i_eq c49; exact ⟨by omega, by omega⟩
        refine lv_iconst (v := 0) hx hb d_X8_part_31 (by decide) ?_
        exact r_zret X hr hlocks hw hS rfl ⟨hI46, hK48, (rg_w (⟨by decide, by decide⟩ : Rg 0 0 0) (by decide) (by decide))⟩ d_X8_part_32
  · have f76 := i_eq c7
    have r77 : Rg x2 0 0 := by obtain ⟨a1, a2⟩ := hp1; obtain ⟨b1, b2⟩ := (⟨by decide, by decide⟩ : Rg 0 0 0); have f := i_eq c7; exact ⟨by omega, by omega⟩
    refine lv_iconst (v := 0) hx hb d_X8_part_9 (by decide) ?_
    exact r_zret X hr hlocks hw hS rfl ⟨hI4, hK6, (rg_w (⟨by decide, by decide⟩ : Rg 0 0 0) (by decide) (by decide))⟩ d_X8_part_10
theorem d_X8_parts_0 : decode c_X8_parts 0 = .ok (.iconst 0, 1) := by decide +kernel
theorem d_X8_parts_1 : decode c_X8_parts 1 = .ok (.istore_n 2, 1) := by decide +kernel
theorem d_X8_parts_2 : decode c_X8_parts 2 = .ok (.iload_n 2, 1) := by decide +kernel
theorem d_X8_parts_3 : decode c_X8_parts 3 = .ok (.iconst 3, 1) := by decide +kernel
theorem d_X8_parts_4 : decode c_X8_parts 4 = .ok (.if_icmp .gt 56, 3) := by decide +kernel
theorem d_X8_parts_7 : decode c_X8_parts 7 = .ok (.aload_n 0, 1) := by decide +kernel
theorem d_X8_parts_8 : decode c_X8_parts 8 = .ok (.iconst 2, 1) := by decide +kernel
theorem d_X8_parts_9 : decode c_X8_parts 9 = .ok (.invokevirtual 57, 3) := by decide +kernel
theorem d_X8_parts_12 : decode c_X8_parts 12 = .ok (.istore_n 3, 1) := by decide +kernel
theorem d_X8_parts_13 : decode c_X8_parts 13 = .ok (.iload_n 3, 1) := by decide +kernel
theorem d_X8_parts_14 : decode c_X8_parts 14 = .ok (.iconst (-1), 1) := by decide +kernel
theorem d_X8_parts_15 : decode c_X8_parts 15 = .ok (.if_icmp .ne 5, 3) := by decide +kernel
theorem d_X8_parts_18 : decode c_X8_parts 18 = .ok (.iconst 0, 1) := by decide +kernel
theorem d_X8_parts_19 : decode c_X8_parts 19 = .ok (.ireturn, 1) := by decide +kernel
theorem d_X8_parts_20 : decode c_X8_parts 20 = .ok (.aload_n 0, 1) := by decide +kernel
theorem d_X8_parts_21 : decode c_X8_parts 21 = .ok (.getfield 19, 3) := by decide +kernel
theorem d_X8_parts_24 : decode c_X8_parts 24 = .ok (.aload_n 0, 1) := by decide +kernel
theorem d_X8_parts_25 : decode c_X8_parts 25 = .ok (.getfield 15, 3) := by decide +kernel
theorem d_X8_parts_28 : decode c_X8_parts 28 = .ok (.if_icmp .lt 10, 3) := by decide +kernel
theorem d_X8_parts_31 : decode c_X8_parts 31 = .ok (.aload_n 1, 1) := by decide +kernel
theorem d_X8_parts_32 : decode c_X8_parts 32 = .ok (.iload_n 3, 1) := by decide +kernel
theorem d_X8_parts_33 : decode c_X8_parts 33 = .ok (.putfield 61, 3) := by decide +kernel
theorem d_X8_parts_36 : decode c_X8_parts 36 = .ok (.iconst 1, 1) := by decide +kernel
theorem d_X8_parts_37 : decode c_X8_parts 37 = .ok (.ireturn, 1) := by decide +kernel
theorem d_X8_parts_38 : decode c_X8_parts 38 = .ok (.iload_n 2, 1) := by decide +kernel
theorem d_X8_parts_39 : decode c_X8_parts 39 = .ok (.iconst 3, 1) := by decide +kernel
theorem d_X8_parts_40 : decode c_X8_parts 40 = .ok (.if_icmp .eq 12, 3) := by decide +kernel
theorem d_X8_parts_43 : decode c_X8_parts 43 = .ok (.aload_n 0, 1) := by decide +kernel
theorem d_X8_parts_44 : decode c_X8_parts 44 = .ok (.aload_n 1, 1) := by decide +kernel
theorem d_X8_parts_45 : decode c_X8_parts 45 = .ok (.iload_n 3, 1) := by decide +kernel
theorem d_X8_parts_46 : decode c_X8_parts 46 = .ok (.invokevirtual 64, 3) := by decide +kernel
theorem d_X8_parts_49 : decode c_X8_parts 49 = .ok (.ifCond .ne 5, 3) := by decide +kernel
theorem d_X8_parts_52 : decode c_X8_parts 52 = .ok (.iconst 0, 1) := by decide +kernel
theorem d_X8_parts_53 : decode c_X8_parts 53 = .ok (.ireturn, 1) := by decide +kernel
theorem d_X8_parts_54 : decode c_X8_parts 54 = .ok (.iinc 2 1, 3) := by decide +kernel
theorem d_X8_parts_57 : decode c_X8_parts 57 = .ok (.goto (-55), 3) := by decide +kernel
theorem d_X8_parts_60 : decode c_X8_parts 60 = .ok (.iconst 0, 1) := by decide +kernel
theorem d_X8_parts_61 : decode c_X8_parts 61 = .ok (.ireturn, 1) := by decide +kernel
set_option maxHeartbeats 4000000 in
set_option maxRecDepth 100000 in
theorem ct_X8_parts_55 (l : Launch) (D : va_G) (dA : Nat → ClassId) (ad : Nat → Nat) (sa : Nat → Nat) (v : tV) (hI : Inv v) (k : Nat) (ka : 60 ≤ k) (kb : k < 69) : Met l m_X8_parts [.code m_X8_parts c_X8_parts 4 (some .boolean)] ({ frames := 7, cells := 0, slots := 0, locals := 177 } : Room) (tPs D dA ad sa v [.ref (ad 55), .ref (ad k)]) (tQi D dA ad (fun r v' => Inv v' ∧ Kp v v' ∧ Rg r 0 1)) 0 0 (tA ad) := by
  refine tMets (by decide) (Nat.le_of_ble_eq_true rfl) ?_
  intro p e s m below meth c ls X hr hlocks hw hSC hl
  have X : CX p s m ([.ref (ad 55), .ref (ad k)] : List Value).toArray c c_X8_parts N_X8 4 D dA := X
  have hx := X.1
  have hb := X.2.1
  have hS : va_S (tA ad) s.heap s.heap [] := va_S.rf
  have hl : lv_has ls 4 [(0, .ref (ad 55)), (1, .ref (ad k))] := hl
  have LL : ∀ n : Nat, (∀ (y2 : Int32) (v1 : tV) (H : Heap) (locs : List Loc) (ls : Array Slot), (4 - y2.toInt).toNat < n → Rg y2 0 4 → Inv v1 → Kp v v1 → tI D dA ad v1 H → va_S (tA ad) s.heap H locs → lv_has ls 4 [(0, .ref (ad 55)), (1, .ref (ad k)), (2, .int y2)] → W p l e ({ frames := 7, cells := 0, slots := 0, locals := 177 } : Room) s m ([.ref (ad 55), .ref (ad k)] : List Value).toArray below meth c H locs 0 0 (MQ below (tQi D dA ad (fun r v' => Inv v' ∧ Kp v v' ∧ Rg r 0 1)) ([.ref (ad 55), .ref (ad k)] : List Value).toArray s 0 0 (tA ad)) (F0 m 2 ls [])) := by
    intro n
    induction n with
    | zero => intros; omega
    | succ n ih =>
      have ih0 := ih
      intro y2 v1 H locs ls hmu r_y2 hI1 hK1 hw hS hl
      refine lv_iload_n hx hb d_X8_parts_2 rfl (lv_at hl 2 rfl) ?_
      refine lv_iconst (v := 3) hx hb d_X8_parts_3 (by decide) ?_
      refine lv_icmp_gt (tgt := 60) hx hb d_X8_parts_4 (by decide) (fun c1 => ?_) (fun c1 => ?_)
      · have f2 := i_lt c1
        have r3 : Rg y2 4 4 := by obtain ⟨a1, a2⟩ := r_y2; obtain ⟨b1, b2⟩ := (⟨by decide, by decide⟩ : Rg 3 3 3); have f := i_lt c1; exact ⟨by omega, by omega⟩
        refine lv_iconst (v := 0) hx hb d_X8_parts_60 (by decide) ?_
        exact r_zret X hr hlocks hw hS rfl ⟨hI1, hK1, (rg_w (⟨by decide, by decide⟩ : Rg 0 0 0) (by decide) (by decide))⟩ d_X8_parts_61
      · have f4 := i_nlt c1
        have r5 : Rg y2 0 3 := by obtain ⟨a1, a2⟩ := r_y2; obtain ⟨b1, b2⟩ := (⟨by decide, by decide⟩ : Rg 3 3 3); have f := i_nlt c1; exact ⟨by omega, by omega⟩
        refine lv_aload_n hx hb d_X8_parts_7 rfl (lv_at hl 0 rfl) ?_
        refine lv_iconst (v := 2) hx hb d_X8_parts_8 (by decide) ?_
        refine r_ci (r_runV (n := 1) (As := [.int 2]) (rest := []) X hw (ct_X8_number_2 l D dA ad v1 hI1 2 (⟨by decide, by decide⟩ : Rg 2 2 2)) gc_X8_57 (rfl : KD 55 = _) (by decide) rfl (by decide +kernel) ⟨rfl, rfl, Nat.le_of_ble_eq_true rfl, Nat.le_of_ble_eq_true rfl⟩ rfl hl.1 rfl (Nat.le_of_ble_eq_true rfl) ⟨Nat.zero_le _, Nat.zero_le _⟩ d_X8_parts_9) hS (fun x7 v8 H locs hp6 hw hS => ?_)
        obtain ⟨hI9, hK10, hp6⟩ := hp6
        have hK11 : Kp v v8 := Kp.tr hK1 hK10
        refine lv_istore_n (lv' := [(3, .int x7), (0, .ref (ad 55)), (1, .ref (ad k)), (2, .int y2)]) hx hb d_X8_parts_12 rfl hl (by decide) rfl (fun ls hl => ?_)
        refine lv_iload_n hx hb d_X8_parts_13 rfl (lv_at hl 0 rfl) ?_
        refine lv_iconst (v := -1) hx hb d_X8_parts_14 (by decide) ?_
        refine lv_icmp_ne (tgt := 20) hx hb d_X8_parts_15 (by decide) (fun c12 => ?_) (fun c12 => ?_)
        · have f13 := i_ne c12
          have r14 : Rg x7 0 99 := by obtain ⟨a1, a2⟩ := hp6; obtain ⟨b1, b2⟩ := (⟨by decide, by decide⟩ : Rg (-1) (-1) (-1)); have f := i_ne c12; exact ⟨by omega, by omega⟩
          refine lv_aload_n hx hb d_X8_parts_20 rfl (lv_at hl 1 rfl) ?_
          refine r_geti X hw FL_X8_19 (rfl : KD 55 = _) rfl d_X8_parts_21 ?_
          refine lv_topi (fun x15 ex15 => ?_)
          have r16 : Rg x15 0 120 := by rw [ex15]; exact hI9 _ _ _ _ rfl
          have hm17 : v8 55 2 = x15 := ex15.symm
          refine lv_aload_n hx hb d_X8_parts_24 rfl (lv_at hl 1 rfl) ?_
          refine r_geti X hw FL_X8_15 (rfl : KD 55 = _) rfl d_X8_parts_25 ?_
          refine lv_topi (fun x18 ex18 => ?_)
          have r19 : Rg x18 0 120 := by rw [ex18]; exact hI9 _ _ _ _ rfl
          have hm20 : v8 55 1 = x18 := ex18.symm
          refine lv_icmp_lt (tgt := 38) hx hb d_X8_parts_28 (by decide) (fun c21 => ?_) (fun c21 => ?_)
          · have f22 := i_lt c21
            have r23 : Rg x15 0 119 := by obtain ⟨a1, a2⟩ := r16; obtain ⟨b1, b2⟩ := r19; have f := i_lt c21; exact ⟨by omega, by omega⟩
            have r24 : Rg x18 1 120 := by obtain ⟨a1, a2⟩ := r16; obtain ⟨b1, b2⟩ := r19; have f := i_lt c21; exact ⟨by omega, by omega⟩
            refine lv_iload_n hx hb d_X8_parts_38 rfl (lv_at hl 3 rfl) ?_
            refine lv_iconst (v := 3) hx hb d_X8_parts_39 (by decide) ?_
            refine lv_icmp_eq (tgt := 52) hx hb d_X8_parts_40 (by decide) (fun c25 => ?_) (fun c25 => ?_)
            · have f26 := i_eq c25
              have r27 : Rg y2 3 3 := by obtain ⟨a1, a2⟩ := r5; obtain ⟨b1, b2⟩ := (⟨by decide, by decide⟩ : Rg 3 3 3); have f := i_eq c25; exact ⟨by omega, by omega⟩
              refine lv_iconst (v := 0) hx hb d_X8_parts_52 (by decide) ?_
              exact r_zret X hr hlocks hw hS rfl ⟨hI9, hK11, (rg_w (⟨by decide, by decide⟩ : Rg 0 0 0) (by decide) (by decide))⟩ d_X8_parts_53
            · have f28 := i_ne c25
              have r29 : Rg y2 0 2 := by obtain ⟨a1, a2⟩ := r5; obtain ⟨b1, b2⟩ := (⟨by decide, by decide⟩ : Rg 3 3 3); have f := i_ne c25; exact ⟨by omega, by omega⟩
              refine lv_aload_n hx hb d_X8_parts_43 rfl (lv_at hl 1 rfl) ?_
              refine lv_aload_n hx hb d_X8_parts_44 rfl (lv_at hl 2 rfl) ?_
              refine lv_iload_n hx hb d_X8_parts_45 rfl (lv_at hl 0 rfl) ?_
              refine r_ci (r_runVs (n := 2) (As := [.ref (ad k), .int x7]) (rest := []) X hw hSC hS (ct_X8_part_55 l D dA ad sa v8 hI9 k x7 (by omega) (by omega) r14) gc_X8_64 (rfl : KD 55 = _) (by decide) rfl (by decide +kernel) ⟨rfl, rfl, Nat.le_of_ble_eq_true rfl, Nat.le_of_ble_eq_true rfl⟩ rfl hl.1 rfl (Nat.le_of_ble_eq_true rfl) ⟨Nat.zero_le _, Nat.zero_le _⟩ d_X8_parts_46) hS (fun x31 v32 H locs hp30 hw hS => ?_)
              obtain ⟨hI33, hK34, hp30⟩ := hp30
              have hK35 : Kp v v32 := Kp.tr hK11 hK34
              refine lv_if_ne (tgt := 54) hx hb d_X8_parts_49 (by decide) (fun c36 => ?_) (fun c36 => ?_)
              · have f37 := i_ne c36
                have r38 : Rg x31 1 1 := by obtain ⟨a1, a2⟩ := hp30; obtain ⟨b1, b2⟩ := (⟨by decide, by decide⟩ : Rg 0 0 0); have f := i_ne c36; exact ⟨by omega, by omega⟩
                obtain ⟨x39, ex39⟩ : ∃ y : Int32, y = y2 + 1 := ⟨_, rfl⟩
                refine lv_iinc (v := x39) (lv' := [(2, .int x39), (3, .int x7), (0, .ref (ad 55)), (1, .ref (ad k))]) hx hb d_X8_parts_54 hl (k := 3) rfl (by rw [ex39]; rfl) (by decide) rfl (fun ls hl => ?_)
                have r40 : Rg x39 1 3 := rg_add ex39 r29 (⟨by decide, by decide⟩ : Rg 1 1 1) (by decide) (by decide)
                have s41 : x39.toInt = y2.toInt + (1 : Int32).toInt := by rw [ex39]; exact i_add (by obtain ⟨_, _⟩ := r29; obtain ⟨_, _⟩ := (⟨by decide, by decide⟩ : Rg 1 1 1); omega) (by obtain ⟨_, _⟩ := r29; obtain ⟨_, _⟩ := (⟨by decide, by decide⟩ : Rg 1 1 1); omega)
                have s41l : (1 : Int32).toInt = 1 := rfl
                refine lv_goto (tgt := 2) hx hb d_X8_parts_57 (by decide) ?_
                exact ih0 x39 v32 _ _ _ (by have := s41; obtain ⟨_, _⟩ := r40; omega) (rg_w r40 (by decide) (by decide)) hI33 hK35 hw hS (lv_sub hl [2, 3, 0] rfl)
              · have f42 := i_eq c36
                have r43 : Rg x31 0 0 := by obtain ⟨a1, a2⟩ := hp30; obtain ⟨b1, b2⟩ := (⟨by decide, by decide⟩ : Rg 0 0 0); have f := i_eq c36; exact ⟨by omega, by omega⟩
                refine lv_iconst (v := 0) hx hb d_X8_parts_52 (by decide) ?_
                exact r_zret X hr hlocks hw hS rfl ⟨hI33, hK35, (rg_w (⟨by decide, by decide⟩ : Rg 0 0 0) (by decide) (by decide))⟩ d_X8_parts_53
          · have f44 := i_nlt c21
            refine lv_aload_n hx hb d_X8_parts_31 rfl (lv_at hl 2 rfl) ?_
            refine lv_iload_n hx hb d_X8_parts_32 rfl (lv_at hl 0 rfl) ?_
            refine r_put X hw hS FP_X8_61 (KD_order (by omega) (by omega)) (SH_order (by omega) (by omega) (by decide)) ⟨rfl, rfl⟩ d_X8_parts_33 (fun H locs hw hS => ?_)
            obtain ⟨v45, ev45⟩ : ∃ z, z = up2 v8 k 4 x7 := ⟨_, rfl⟩
            rw [← ev45] at hw
            have hI46 : Inv v45 := by rw [ev45]; exact Inv.putr hI9 (RG_order4 (by omega) (by omega)) r14
            have hK47 : Kp v v45 := by rw [ev45]; exact Kp.put hK11 _ (PS_order (by omega) (by omega))
            have hm48 : v45 55 2 = x15 := by rw [ev45, up2_n _ _ (by omega)]; exact hm17
            have hm49 : v45 55 1 = x18 := by rw [ev45, up2_n _ _ (by omega)]; exact hm20
            have hm50 : v45 k 4 = x7 := by rw [ev45, up2_s]
            refine lv_iconst (v := 1) hx hb d_X8_parts_36 (by decide) ?_
            exact r_zret X hr hlocks hw hS rfl ⟨hI46, hK47, (rg_w (⟨by decide, by decide⟩ : Rg 1 1 1) (by decide) (by decide))⟩ d_X8_parts_37
        · have f51 := i_eq c12
          have r52 : Rg x7 (-1) (-1) := by obtain ⟨a1, a2⟩ := hp6; obtain ⟨b1, b2⟩ := (⟨by decide, by decide⟩ : Rg (-1) (-1) (-1)); have f := i_eq c12; exact ⟨by omega, by omega⟩
          refine lv_iconst (v := 0) hx hb d_X8_parts_18 (by decide) ?_
          exact r_zret X hr hlocks hw hS rfl ⟨hI9, hK11, (rg_w (⟨by decide, by decide⟩ : Rg 0 0 0) (by decide) (by decide))⟩ d_X8_parts_19
  have ih0 := LL 100000
  have hK0 : Kp v v := Kp.rf v
  refine lv_iconst (v := 0) hx hb d_X8_parts_0 (by decide) ?_
  refine lv_istore_n (lv' := [(2, .int 0), (0, .ref (ad 55)), (1, .ref (ad k))]) hx hb d_X8_parts_1 rfl hl (by decide) rfl (fun ls hl => ?_)
  exact ih0 0 v _ _ _ (by obtain ⟨_, _⟩ := (⟨by decide, by decide⟩ : Rg 0 0 0); omega) (rg_w (⟨by decide, by decide⟩ : Rg 0 0 0) (by decide) (by decide)) hI hK0 hw hS (lv_sub hl [1, 2, 0] rfl)
theorem d_X8_read_0 : decode c_X8_read 0 = .ok (.aload_n 0, 1) := by decide +kernel
theorem d_X8_read_1 : decode c_X8_read 1 = .ok (.iconst 0, 1) := by decide +kernel
theorem d_X8_read_2 : decode c_X8_read 2 = .ok (.putfield 19, 3) := by decide +kernel
theorem d_X8_read_5 : decode c_X8_read 5 = .ok (.aload_n 1, 1) := by decide +kernel
theorem d_X8_read_6 : decode c_X8_read 6 = .ok (.iconst 0, 1) := by decide +kernel
theorem d_X8_read_7 : decode c_X8_read 7 = .ok (.putfield 22, 3) := by decide +kernel
theorem d_X8_read_10 : decode c_X8_read 10 = .ok (.aload_n 0, 1) := by decide +kernel
theorem d_X8_read_11 : decode c_X8_read 11 = .ok (.ldc 27, 2) := by decide +kernel
theorem d_X8_read_13 : decode c_X8_read 13 = .ok (.invokevirtual 29, 3) := by decide +kernel
theorem d_X8_read_16 : decode c_X8_read 16 = .ok (.ifCond .eq 32, 3) := by decide +kernel
theorem d_X8_read_19 : decode c_X8_read 19 = .ok (.aload_n 0, 1) := by decide +kernel
theorem d_X8_read_20 : decode c_X8_read 20 = .ok (.aload_n 1, 1) := by decide +kernel
theorem d_X8_read_21 : decode c_X8_read 21 = .ok (.invokevirtual 33, 3) := by decide +kernel
theorem d_X8_read_24 : decode c_X8_read 24 = .ok (.ifCond .eq 24, 3) := by decide +kernel
theorem d_X8_read_27 : decode c_X8_read 27 = .ok (.aload_n 0, 1) := by decide +kernel
theorem d_X8_read_28 : decode c_X8_read 28 = .ok (.ldc 37, 2) := by decide +kernel
theorem d_X8_read_30 : decode c_X8_read 30 = .ok (.invokevirtual 29, 3) := by decide +kernel
theorem d_X8_read_33 : decode c_X8_read 33 = .ok (.ifCond .eq 15, 3) := by decide +kernel
theorem d_X8_read_36 : decode c_X8_read 36 = .ok (.aload_n 0, 1) := by decide +kernel
theorem d_X8_read_37 : decode c_X8_read 37 = .ok (.aload_n 1, 1) := by decide +kernel
theorem d_X8_read_38 : decode c_X8_read 38 = .ok (.invokevirtual 39, 3) := by decide +kernel
theorem d_X8_read_41 : decode c_X8_read 41 = .ok (.ifCond .eq 7, 3) := by decide +kernel
theorem d_X8_read_44 : decode c_X8_read 44 = .ok (.iconst 1, 1) := by decide +kernel
theorem d_X8_read_45 : decode c_X8_read 45 = .ok (.goto 4, 3) := by decide +kernel
theorem d_X8_read_48 : decode c_X8_read 48 = .ok (.iconst 0, 1) := by decide +kernel
theorem d_X8_read_49 : decode c_X8_read 49 = .ok (.istore_n 2, 1) := by decide +kernel
theorem d_X8_read_50 : decode c_X8_read 50 = .ok (.iload_n 2, 1) := by decide +kernel
theorem d_X8_read_51 : decode c_X8_read 51 = .ok (.ifCond .eq 7, 3) := by decide +kernel
theorem d_X8_read_54 : decode c_X8_read 54 = .ok (.iconst (-1), 1) := by decide +kernel
theorem d_X8_read_55 : decode c_X8_read 55 = .ok (.goto 7, 3) := by decide +kernel
theorem d_X8_read_58 : decode c_X8_read 58 = .ok (.aload_n 0, 1) := by decide +kernel
theorem d_X8_read_59 : decode c_X8_read 59 = .ok (.getfield 19, 3) := by decide +kernel
theorem d_X8_read_62 : decode c_X8_read 62 = .ok (.ireturn, 1) := by decide +kernel
set_option maxHeartbeats 4000000 in
set_option maxRecDepth 100000 in
theorem ct_X8_read_55 (l : Launch) (D : va_G) (dA : Nat → ClassId) (ad : Nat → Nat) (sa : Nat → Nat) (v : tV) (hI : Inv v) (k : Nat) (ka : 60 ≤ k) (kb : k < 69) : Met l m_X8_read [.code m_X8_read c_X8_read 3 (some .int)] ({ frames := 8, cells := 0, slots := 0, locals := 200 } : Room) (tPs D dA ad sa v [.ref (ad 55), .ref (ad k)]) (tQi D dA ad (fun r v' => Inv v' ∧ Kp v v')) 0 0 (tA ad) := by
  refine tMets (by decide) (Nat.le_of_ble_eq_true rfl) ?_
  intro p e s m below meth c ls X hr hlocks hw hSC hl
  have X : CX p s m ([.ref (ad 55), .ref (ad k)] : List Value).toArray c c_X8_read N_X8 3 D dA := X
  have hx := X.1
  have hb := X.2.1
  have hS : va_S (tA ad) s.heap s.heap [] := va_S.rf
  have hl : lv_has ls 3 [(0, .ref (ad 55)), (1, .ref (ad k))] := hl
  have hK0 : Kp v v := Kp.rf v
  refine lv_aload_n hx hb d_X8_read_0 rfl (lv_at hl 0 rfl) ?_
  refine lv_iconst (v := 0) hx hb d_X8_read_1 (by decide) ?_
  refine r_put X hw hS FP_X8_19 (rfl : KD 55 = _) rfl ⟨rfl, rfl⟩ d_X8_read_2 (fun H locs hw hS => ?_)
  obtain ⟨v1, ev1⟩ : ∃ z, z = up2 v 55 2 0 := ⟨_, rfl⟩
  rw [← ev1] at hw
  have hI2 : Inv v1 := by rw [ev1]; exact Inv.putr hI rfl (rg_w (⟨by decide, by decide⟩ : Rg 0 0 0) (by decide) (by decide))
  have hK3 : Kp v v1 := by rw [ev1]; exact Kp.put hK0 _ rfl
  have hm4 : v1 55 2 = 0 := by rw [ev1, up2_s]
  refine lv_aload_n hx hb d_X8_read_5 rfl (lv_at hl 1 rfl) ?_
  refine lv_iconst (v := 0) hx hb d_X8_read_6 (by decide) ?_
  refine r_put X hw hS FP_X8_22 (KD_order (by omega) (by omega)) (SH_order (by omega) (by omega) (by decide)) ⟨rfl, rfl⟩ d_X8_read_7 (fun H locs hw hS => ?_)
  obtain ⟨v5, ev5⟩ : ∃ z, z = up2 v1 k 3 0 := ⟨_, rfl⟩
  rw [← ev5] at hw
  have hI6 : Inv v5 := by rw [ev5]; exact Inv.putr hI2 (RG_order3 (by omega) (by omega)) (rg_w (⟨by decide, by decide⟩ : Rg 0 0 0) (by decide) (by decide))
  have hK7 : Kp v v5 := by rw [ev5]; exact Kp.put hK3 _ (PS_order (by omega) (by omega))
  have hm8 : v5 55 2 = 0 := by rw [ev5, up2_n _ _ (by omega)]; exact hm4
  have hm9 : v5 k 3 = 0 := by rw [ev5, up2_s]
  refine lv_aload_n hx hb d_X8_read_10 rfl (lv_at hl 0 rfl) ?_
  refine va_ldcS hx hb X.2.2.2.1 (hSC.2 (27, "turn ", 5) (by decide)).1 d_X8_read_11 ?_
  refine r_ci (r_runVs (n := 1) (As := [.ref (sa 27)]) (rest := []) X hw hSC hS (ct_X8_word_55 l D dA ad sa v5 hI6 (27, "turn ", 5) (by decide)) gc_X8_29 (rfl : KD 55 = _) (by decide) rfl (by decide +kernel) ⟨rfl, rfl, Nat.le_of_ble_eq_true rfl, Nat.le_of_ble_eq_true rfl⟩ rfl hl.1 rfl (Nat.le_of_ble_eq_true rfl) ⟨Nat.zero_le _, Nat.zero_le _⟩ d_X8_read_13) hS (fun x11 v12 H locs hp10 hw hS => ?_)
  obtain ⟨hI13, hK14, hp10⟩ := hp10
  have hK15 : Kp v v12 := Kp.tr hK7 hK14
  refine lv_if_eq (tgt := 48) hx hb d_X8_read_16 (by decide) (fun c16 => ?_) (fun c16 => ?_)
  · have f17 := i_eq c16
    have r18 : Rg x11 0 0 := by obtain ⟨a1, a2⟩ := hp10; obtain ⟨b1, b2⟩ := (⟨by decide, by decide⟩ : Rg 0 0 0); have f := i_eq c16; exact ⟨by omega, by omega⟩
    refine lv_iconst (v := 0) hx hb d_X8_read_48 (by decide) ?_
    refine lv_istore_n (lv' := [(2, .int 0), (0, .ref (ad 55)), (1, .ref (ad k))]) hx hb d_X8_read_49 rfl hl (by decide) rfl (fun ls hl => ?_)
    refine lv_iload_n hx hb d_X8_read_50 rfl (lv_at hl 0 rfl) ?_
    refine lv_if_eq (tgt := 58) hx hb d_X8_read_51 (by decide) (fun c19 => ?_) (fun c19 => ?_)
    · refine lv_aload_n hx hb d_X8_read_58 rfl (lv_at hl 1 rfl) ?_
      refine r_geti X hw FL_X8_19 (rfl : KD 55 = _) rfl d_X8_read_59 ?_
      refine lv_topi (fun x20 ex20 => ?_)
      have r21 : Rg x20 0 120 := by rw [ex20]; exact hI13 _ _ _ _ rfl
      have hm22 : v12 55 2 = x20 := ex20.symm
      exact r_iret X hr hlocks hw hS ⟨hI13, hK15⟩ d_X8_read_62
    · exact absurd c19 (by decide)
  · have f23 := i_ne c16
    have r24 : Rg x11 1 1 := by obtain ⟨a1, a2⟩ := hp10; obtain ⟨b1, b2⟩ := (⟨by decide, by decide⟩ : Rg 0 0 0); have f := i_ne c16; exact ⟨by omega, by omega⟩
    refine lv_aload_n hx hb d_X8_read_19 rfl (lv_at hl 0 rfl) ?_
    refine lv_aload_n hx hb d_X8_read_20 rfl (lv_at hl 1 rfl) ?_
    refine r_ci (r_runVs (n := 1) (As := [.ref (ad k)]) (rest := []) X hw hSC hS (ct_X8_key_55 l D dA ad sa v12 hI13 k (by omega) (by omega)) gc_X8_33 (rfl : KD 55 = _) (by decide) rfl (by decide +kernel) ⟨rfl, rfl, Nat.le_of_ble_eq_true rfl, Nat.le_of_ble_eq_true rfl⟩ rfl hl.1 rfl (Nat.le_of_ble_eq_true rfl) ⟨Nat.zero_le _, Nat.zero_le _⟩ d_X8_read_21) hS (fun x26 v27 H locs hp25 hw hS => ?_)
    obtain ⟨hI28, hK29, hp25⟩ := hp25
    have hK30 : Kp v v27 := Kp.tr hK15 hK29
    refine lv_if_eq (tgt := 48) hx hb d_X8_read_24 (by decide) (fun c31 => ?_) (fun c31 => ?_)
    · have f32 := i_eq c31
      have r33 : Rg x26 0 0 := by obtain ⟨a1, a2⟩ := hp25; obtain ⟨b1, b2⟩ := (⟨by decide, by decide⟩ : Rg 0 0 0); have f := i_eq c31; exact ⟨by omega, by omega⟩
      refine lv_iconst (v := 0) hx hb d_X8_read_48 (by decide) ?_
      refine lv_istore_n (lv' := [(2, .int 0), (0, .ref (ad 55)), (1, .ref (ad k))]) hx hb d_X8_read_49 rfl hl (by decide) rfl (fun ls hl => ?_)
      refine lv_iload_n hx hb d_X8_read_50 rfl (lv_at hl 0 rfl) ?_
      refine lv_if_eq (tgt := 58) hx hb d_X8_read_51 (by decide) (fun c34 => ?_) (fun c34 => ?_)
      · refine lv_aload_n hx hb d_X8_read_58 rfl (lv_at hl 1 rfl) ?_
        refine r_geti X hw FL_X8_19 (rfl : KD 55 = _) rfl d_X8_read_59 ?_
        refine lv_topi (fun x35 ex35 => ?_)
        have r36 : Rg x35 0 120 := by rw [ex35]; exact hI28 _ _ _ _ rfl
        have hm37 : v27 55 2 = x35 := ex35.symm
        exact r_iret X hr hlocks hw hS ⟨hI28, hK30⟩ d_X8_read_62
      · exact absurd c34 (by decide)
    · have f38 := i_ne c31
      have r39 : Rg x26 1 1 := by obtain ⟨a1, a2⟩ := hp25; obtain ⟨b1, b2⟩ := (⟨by decide, by decide⟩ : Rg 0 0 0); have f := i_ne c31; exact ⟨by omega, by omega⟩
      refine lv_aload_n hx hb d_X8_read_27 rfl (lv_at hl 0 rfl) ?_
      refine va_ldcS hx hb X.2.2.2.1 (hSC.2 (37, ";sell ", 6) (by decide)).1 d_X8_read_28 ?_
      refine r_ci (r_runVs (n := 1) (As := [.ref (sa 37)]) (rest := []) X hw hSC hS (ct_X8_word_55 l D dA ad sa v27 hI28 (37, ";sell ", 6) (by decide)) gc_X8_29 (rfl : KD 55 = _) (by decide) rfl (by decide +kernel) ⟨rfl, rfl, Nat.le_of_ble_eq_true rfl, Nat.le_of_ble_eq_true rfl⟩ rfl hl.1 rfl (Nat.le_of_ble_eq_true rfl) ⟨Nat.zero_le _, Nat.zero_le _⟩ d_X8_read_30) hS (fun x41 v42 H locs hp40 hw hS => ?_)
      obtain ⟨hI43, hK44, hp40⟩ := hp40
      have hK45 : Kp v v42 := Kp.tr hK30 hK44
      refine lv_if_eq (tgt := 48) hx hb d_X8_read_33 (by decide) (fun c46 => ?_) (fun c46 => ?_)
      · have f47 := i_eq c46
        have r48 : Rg x41 0 0 := by obtain ⟨a1, a2⟩ := hp40; obtain ⟨b1, b2⟩ := (⟨by decide, by decide⟩ : Rg 0 0 0); have f := i_eq c46; exact ⟨by omega, by omega⟩
        refine lv_iconst (v := 0) hx hb d_X8_read_48 (by decide) ?_
        refine lv_istore_n (lv' := [(2, .int 0), (0, .ref (ad 55)), (1, .ref (ad k))]) hx hb d_X8_read_49 rfl hl (by decide) rfl (fun ls hl => ?_)
        refine lv_iload_n hx hb d_X8_read_50 rfl (lv_at hl 0 rfl) ?_
        refine lv_if_eq (tgt := 58) hx hb d_X8_read_51 (by decide) (fun c49 => ?_) (fun c49 => ?_)
        · refine lv_aload_n hx hb d_X8_read_58 rfl (lv_at hl 1 rfl) ?_
          refine r_geti X hw FL_X8_19 (rfl : KD 55 = _) rfl d_X8_read_59 ?_
          refine lv_topi (fun x50 ex50 => ?_)
          have r51 : Rg x50 0 120 := by rw [ex50]; exact hI43 _ _ _ _ rfl
          have hm52 : v42 55 2 = x50 := ex50.symm
          exact r_iret X hr hlocks hw hS ⟨hI43, hK45⟩ d_X8_read_62
        · exact absurd c49 (by decide)
      · have f53 := i_ne c46
        have r54 : Rg x41 1 1 := by obtain ⟨a1, a2⟩ := hp40; obtain ⟨b1, b2⟩ := (⟨by decide, by decide⟩ : Rg 0 0 0); have f := i_ne c46; exact ⟨by omega, by omega⟩
        refine lv_aload_n hx hb d_X8_read_36 rfl (lv_at hl 0 rfl) ?_
        refine lv_aload_n hx hb d_X8_read_37 rfl (lv_at hl 1 rfl) ?_
        refine r_ci (r_runVs (n := 1) (As := [.ref (ad k)]) (rest := []) X hw hSC hS (ct_X8_parts_55 l D dA ad sa v42 hI43 k (by omega) (by omega)) gc_X8_39 (rfl : KD 55 = _) (by decide) rfl (by decide +kernel) ⟨rfl, rfl, Nat.le_of_ble_eq_true rfl, Nat.le_of_ble_eq_true rfl⟩ rfl hl.1 rfl (Nat.le_of_ble_eq_true rfl) ⟨Nat.zero_le _, Nat.zero_le _⟩ d_X8_read_38) hS (fun x56 v57 H locs hp55 hw hS => ?_)
        obtain ⟨hI58, hK59, hp55⟩ := hp55
        have hK60 : Kp v v57 := Kp.tr hK45 hK59
        refine lv_if_eq (tgt := 48) hx hb d_X8_read_41 (by decide) (fun c61 => ?_) (fun c61 => ?_)
        · have f62 := i_eq c61
          have r63 : Rg x56 0 0 := by obtain ⟨a1, a2⟩ := hp55; obtain ⟨b1, b2⟩ := (⟨by decide, by decide⟩ : Rg 0 0 0); have f := i_eq c61; exact ⟨by omega, by omega⟩
          refine lv_iconst (v := 0) hx hb d_X8_read_48 (by decide) ?_
          refine lv_istore_n (lv' := [(2, .int 0), (0, .ref (ad 55)), (1, .ref (ad k))]) hx hb d_X8_read_49 rfl hl (by decide) rfl (fun ls hl => ?_)
          refine lv_iload_n hx hb d_X8_read_50 rfl (lv_at hl 0 rfl) ?_
          refine lv_if_eq (tgt := 58) hx hb d_X8_read_51 (by decide) (fun c64 => ?_) (fun c64 => ?_)
          · refine lv_aload_n hx hb d_X8_read_58 rfl (lv_at hl 1 rfl) ?_
            refine r_geti X hw FL_X8_19 (rfl : KD 55 = _) rfl d_X8_read_59 ?_
            refine lv_topi (fun x65 ex65 => ?_)
            have r66 : Rg x65 0 120 := by rw [ex65]; exact hI58 _ _ _ _ rfl
            have hm67 : v57 55 2 = x65 := ex65.symm
            exact r_iret X hr hlocks hw hS ⟨hI58, hK60⟩ d_X8_read_62
          · exact absurd c64 (by decide)
        · have f68 := i_ne c61
          have r69 : Rg x56 1 1 := by obtain ⟨a1, a2⟩ := hp55; obtain ⟨b1, b2⟩ := (⟨by decide, by decide⟩ : Rg 0 0 0); have f := i_ne c61; exact ⟨by omega, by omega⟩
          refine lv_iconst (v := 1) hx hb d_X8_read_44 (by decide) ?_
          refine lv_goto (tgt := 49) hx hb d_X8_read_45 (by decide) ?_
          refine lv_istore_n (lv' := [(2, .int 1), (0, .ref (ad 55)), (1, .ref (ad k))]) hx hb d_X8_read_49 rfl hl (by decide) rfl (fun ls hl => ?_)
          refine lv_iload_n hx hb d_X8_read_50 rfl (lv_at hl 0 rfl) ?_
          refine lv_if_eq (tgt := 58) hx hb d_X8_read_51 (by decide) (fun c70 => ?_) (fun c70 => ?_)
          · exact absurd c70 (by decide)
          · refine lv_iconst (v := -1) hx hb d_X8_read_54 (by decide) ?_
            refine lv_goto (tgt := 62) hx hb d_X8_read_55 (by decide) ?_
            exact r_iret X hr hlocks hw hS ⟨hI58, hK60⟩ d_X8_read_62
