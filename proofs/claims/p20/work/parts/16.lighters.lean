def N_J7 : String := "java/util/Arrays"
abbrev c_J7_fill_53178 : ByteArray := prog_19_method_103_code
def m_J7_fill_53178 : MethodName := ⟨"java/util/Arrays", "fill", "([II)V"⟩
theorem gc_X2_22 : GoodIn BIG [.methodLink N_X2 22 m_J7_fill_53178, .static m_J7_fill_53178, .initialized m_J7_fill_53178.cls, .code m_J7_fill_53178 c_J7_fill_53178 4 none] := tb_good5 [748, 749, 55, 750] (by decide +kernel) (by decide +kernel) (by decide +kernel)
section R16
variable {p : Program} {l : Launch} {e : Env} {R : Room} {s : State} {m : MethodId} {args : Array Value} {below : List Frame} {meth : Method} {c : Code} {H : Heap} {locs : List Loc} {cells slots : Nat} {Q : State → Prop}
variable {cc : ByteArray} {pc : Nat} {ls : Array Slot} {rest st0 : List Value} {D : va_G} {dA : Nat → ClassId} {ad : Nat → Nat} {v : tV} {own : String} {nL : Nat}
theorem r_alen (X : CX p s m args c cc own nL D dA) (hw : tI D dA ad v H) {k n : Nat} {z : Int32} (hk : KD k = some (12, n)) (hz : Int32.ofNat n = z) (hd : decode cc pc = .ok (.arraylength, 1))
    (kk : W p l e R s m args below meth c H locs cells slots Q (F0 m (pc + 1) ls (.int z :: rest))) : W p l e R s m args below meth c H locs cells slots Q (F0 m pc ls (.ref (ad k) :: rest)) := by
  obtain ⟨hx, hb, hml, hown, hts, hK, hB⟩ := X
  refine W.alen (n := z) hx hb (tw_arr hw hk (by decide)) ((hK.2 0 (dA 12, .int) rfl).1 n (tw_u ad v k)) ?_ rfl rfl hd kk
  rw [arrV_size]
  exact hz
theorem r_runS2 (X : CX p s m args c cc own nL D dA) (hw : tI D dA ad v H) {y : MethodName} {bytes : ByteArray} {maxL index n : Nat} {ret : Option FieldType} {rm : Room} {As : List Value} {Qc : Array Value → State → Outcome → State → Prop}
    (hM : Met l y [.code y bytes maxL ret] rm (tP D dA ad v As) Qc 0 0 (tA ad)) (hG : GoodIn BIG [.methodLink own index y, .static y, .initialized y.cls, .code y bytes maxL ret])
    (hy : y.cls ≠ "java/lang/invoke/MethodHandle" ∧ y.cls ≠ "java/lang/invoke/VarHandle" ∧ (parseMethodDescriptor y.desc).map (fun d => d.parameters.length) = some n) (hrm : RmOk R rm maxL) (hn : As.length = n) (hsz : ls.size = nL) (hst : st0 = As.reverse ++ rest) (hroom : (rest.map fun v => v.category).sum ≤ 8) (hcap : cells ≤ R.cells ∧ slots ≤ R.slots) (hd : decode cc pc = .ok (.invokestatic index, 3)) :
    va_Run p l e R s m args below meth c H locs cells slots 0 0 (F0 m pc ls st0) rest (Qc As.toArray) (tA ad) := by
  obtain ⟨hx, hb, hml, hown, hts, hK⟩ := X
  have h1 : GoodIn BIG [.code y bytes maxL ret] := fun w hw => hG w (by simp only [List.mem_singleton] at hw; subst hw; simp)
  exact va_runS (As := As) (rest := rest) ⟨hx, hb, hml, hown, hts⟩ hM ⟨callB_of n hts h1 rfl hrm.1 hrm.2.1 (hts _ (hG _ (by simp)).1) (hts _ (hG _ (by simp)).1) hy ⟨hrm.2.2.1, hrm.2.2.2⟩, hts _ (hG _ (by simp)).1⟩ ⟨tP.blind, fun U hU hW => ⟨rfl, by rw [hU]; exact hw, hK.warm hW⟩⟩ rfl hn hsz hst (lv_room hroom) hd hcap
end R16
theorem d_J7_fill_53178_0 : decode c_J7_fill_53178 0 = .ok (.iconst 0, 1) := by decide +kernel
theorem d_J7_fill_53178_1 : decode c_J7_fill_53178 1 = .ok (.istore_n 2, 1) := by decide +kernel
theorem d_J7_fill_53178_2 : decode c_J7_fill_53178 2 = .ok (.aload_n 0, 1) := by decide +kernel
theorem d_J7_fill_53178_3 : decode c_J7_fill_53178 3 = .ok (.arraylength, 1) := by decide +kernel
theorem d_J7_fill_53178_4 : decode c_J7_fill_53178 4 = .ok (.istore_n 3, 1) := by decide +kernel
theorem d_J7_fill_53178_5 : decode c_J7_fill_53178 5 = .ok (.iload_n 2, 1) := by decide +kernel
theorem d_J7_fill_53178_6 : decode c_J7_fill_53178 6 = .ok (.iload_n 3, 1) := by decide +kernel
theorem d_J7_fill_53178_7 : decode c_J7_fill_53178 7 = .ok (.if_icmp .ge 13, 3) := by decide +kernel
theorem d_J7_fill_53178_10 : decode c_J7_fill_53178 10 = .ok (.aload_n 0, 1) := by decide +kernel
theorem d_J7_fill_53178_11 : decode c_J7_fill_53178 11 = .ok (.iload_n 2, 1) := by decide +kernel
theorem d_J7_fill_53178_12 : decode c_J7_fill_53178 12 = .ok (.iload_n 1, 1) := by decide +kernel
theorem d_J7_fill_53178_13 : decode c_J7_fill_53178 13 = .ok (.iastore, 1) := by decide +kernel
theorem d_J7_fill_53178_14 : decode c_J7_fill_53178 14 = .ok (.iinc 2 1, 3) := by decide +kernel
theorem d_J7_fill_53178_17 : decode c_J7_fill_53178 17 = .ok (.goto (-12), 3) := by decide +kernel
theorem d_J7_fill_53178_20 : decode c_J7_fill_53178 20 = .ok (.return_, 1) := by decide +kernel
set_option maxHeartbeats 4000000 in
set_option maxRecDepth 100000 in
theorem ct_J7_fill_53178_42 (l : Launch) (D : va_G) (dA : Nat → ClassId) (ad : Nat → Nat) (v : tV) (hI : Inv v) (vl : Int32) : Met l m_J7_fill_53178 [.code m_J7_fill_53178 c_J7_fill_53178 4 none] ({ frames := 1, cells := 0, slots := 0, locals := 40 } : Room) (tP D dA ad v [.ref (ad 42), .int vl]) (tQv D dA ad (fun v' => Inv v' ∧ Kp v v')) 0 0 (tA ad) := by
  refine tMet (by decide) (Nat.le_of_ble_eq_true rfl) ?_
  intro p e s m below meth c ls X hr hlocks hw hl
  have X : CX p s m ([.ref (ad 42), .int vl] : List Value).toArray c c_J7_fill_53178 N_J7 4 D dA := X
  have hx := X.1
  have hb := X.2.1
  have hS : va_S (tA ad) s.heap s.heap [] := va_S.rf
  have hl : lv_has ls 4 [(0, .ref (ad 42)), (1, .int vl)] := hl
  have LL : ∀ n : Nat, (∀ (y2 : Int32) (y3 : Int32) (v1 : tV) (H : Heap) (locs : List Loc) (ls : Array Slot), (3 - y2.toInt).toNat < n → Rg y2 0 3 → Rg y3 3 3 → Inv v1 → Kp v v1 → tI D dA ad v1 H → va_S (tA ad) s.heap H locs → lv_has ls 4 [(0, .ref (ad 42)), (1, .int vl), (2, .int y2), (3, .int y3)] → W p l e ({ frames := 1, cells := 0, slots := 0, locals := 40 } : Room) s m ([.ref (ad 42), .int vl] : List Value).toArray below meth c H locs 0 0 (MQ below (tQv D dA ad (fun v' => Inv v' ∧ Kp v v')) ([.ref (ad 42), .int vl] : List Value).toArray s 0 0 (tA ad)) (F0 m 5 ls [])) := by
    intro n
    induction n with
    | zero => intros; omega
    | succ n ih =>
      have ih0 := ih
      intro y2 y3 v1 H locs ls hmu r_y2 r_y3 hI1 hK1 hw hS hl
      refine lv_iload_n hx hb d_J7_fill_53178_5 rfl (lv_at hl 2 rfl) ?_
      refine lv_iload_n hx hb d_J7_fill_53178_6 rfl (lv_at hl 3 rfl) ?_
      refine lv_icmp_ge (tgt := 20) hx hb d_J7_fill_53178_7 (by decide) (fun c1 => ?_) (fun c1 => ?_)
      · have f2 := i_le c1
        have r3 : Rg y2 3 3 := by obtain ⟨a1, a2⟩ := r_y2; obtain ⟨b1, b2⟩ := r_y3; have f := i_le c1; exact ⟨by omega, by omega⟩
        exact r_vret X hr hlocks hw hS ⟨hI1, hK1⟩ d_J7_fill_53178_20
      · have f4 := i_nle c1
        have r5 : Rg y2 0 2 := by obtain ⟨a1, a2⟩ := r_y2; obtain ⟨b1, b2⟩ := r_y3; have f := i_nle c1; exact ⟨by omega, by omega⟩
        refine lv_aload_n hx hb d_J7_fill_53178_10 rfl (lv_at hl 0 rfl) ?_
        refine lv_iload_n hx hb d_J7_fill_53178_11 rfl (lv_at hl 2 rfl) ?_
        refine lv_iload_n hx hb d_J7_fill_53178_12 rfl (lv_at hl 1 rfl) ?_
        refine r_iast X hw hS (rfl : KD 42 = _) (Rg.vp (b := 2) r5 (by decide)) rfl d_J7_fill_53178_13 (fun H locs hw hS => ?_)
        obtain ⟨v6, ev6⟩ : ∃ z, z = up2 v1 42 y2.toNatClampNeg vl := ⟨_, rfl⟩
        rw [← ev6] at hw
        have hI7 : Inv v6 := by rw [ev6]; exact Inv.put0 hI1 _ rfl
        have hK8 : Kp v v6 := by rw [ev6]; exact Kp.put hK1 _ rfl
        obtain ⟨x9, ex9⟩ : ∃ y : Int32, y = y2 + 1 := ⟨_, rfl⟩
        refine lv_iinc (v := x9) (lv' := [(2, .int x9), (0, .ref (ad 42)), (1, .int vl), (3, .int y3)]) hx hb d_J7_fill_53178_14 hl (k := 2) rfl (by rw [ex9]; rfl) (by decide) rfl (fun ls hl => ?_)
        have r10 : Rg x9 1 3 := rg_add ex9 r5 (⟨by decide, by decide⟩ : Rg 1 1 1) (by decide) (by decide)
        have s11 : x9.toInt = y2.toInt + (1 : Int32).toInt := by rw [ex9]; exact i_add (by obtain ⟨_, _⟩ := r5; obtain ⟨_, _⟩ := (⟨by decide, by decide⟩ : Rg 1 1 1); omega) (by obtain ⟨_, _⟩ := r5; obtain ⟨_, _⟩ := (⟨by decide, by decide⟩ : Rg 1 1 1); omega)
        have s11l : (1 : Int32).toInt = 1 := rfl
        refine lv_goto (tgt := 5) hx hb d_J7_fill_53178_17 (by decide) ?_
        exact ih0 x9 y3 v6 _ _ _ (by have q_ := r5; obtain ⟨_, _⟩ := q_; have q_ := r_y3; obtain ⟨_, _⟩ := q_; have q_ := r10; obtain ⟨_, _⟩ := q_; have q_ := rg_any vl; obtain ⟨_, _⟩ := q_; omega) (rg_w r10 (by decide) (by decide)) r_y3 hI7 hK8 hw hS (lv_sub hl [1, 2, 0, 3] rfl)
  have ih0 := LL 100000
  have hK0 : Kp v v := Kp.rf v
  refine lv_iconst (v := 0) hx hb d_J7_fill_53178_0 (by decide) ?_
  refine lv_istore_n (lv' := [(2, .int 0), (0, .ref (ad 42)), (1, .int vl)]) hx hb d_J7_fill_53178_1 rfl hl (by decide) rfl (fun ls hl => ?_)
  refine lv_aload_n hx hb d_J7_fill_53178_2 rfl (lv_at hl 1 rfl) ?_
  refine r_alen (z := 3) X hw (rfl : KD 42 = _) rfl d_J7_fill_53178_3 ?_
  refine lv_istore_n (lv' := [(3, .int 3), (2, .int 0), (0, .ref (ad 42)), (1, .int vl)]) hx hb d_J7_fill_53178_4 rfl hl (by decide) rfl (fun ls hl => ?_)
  exact ih0 0 3 v _ _ _ (by have q_ := rg_any vl; obtain ⟨_, _⟩ := q_; have q_ : (0 : Int32).toInt = 0 := rfl; have q_ : (3 : Int32).toInt = 3 := rfl; omega) (rg_w (⟨by decide, by decide⟩ : Rg 0 0 0) (by decide) (by decide)) (⟨by decide, by decide⟩ : Rg 3 3 3) hI hK0 hw hS (lv_sub hl [2, 3, 1, 0] rfl)
theorem d_X2_longest_0 : decode c_X2_longest 0 = .ok (.iconst 0, 1) := by decide +kernel
theorem d_X2_longest_1 : decode c_X2_longest 1 = .ok (.istore_n 2, 1) := by decide +kernel
theorem d_X2_longest_2 : decode c_X2_longest 2 = .ok (.iconst 0, 1) := by decide +kernel
theorem d_X2_longest_3 : decode c_X2_longest 3 = .ok (.istore_n 3, 1) := by decide +kernel
theorem d_X2_longest_4 : decode c_X2_longest 4 = .ok (.iload_n 3, 1) := by decide +kernel
theorem d_X2_longest_5 : decode c_X2_longest 5 = .ok (.iload_n 1, 1) := by decide +kernel
theorem d_X2_longest_6 : decode c_X2_longest 6 = .ok (.if_icmp .ge 17, 3) := by decide +kernel
theorem d_X2_longest_9 : decode c_X2_longest 9 = .ok (.iload_n 2, 1) := by decide +kernel
theorem d_X2_longest_10 : decode c_X2_longest 10 = .ok (.aload_n 0, 1) := by decide +kernel
theorem d_X2_longest_11 : decode c_X2_longest 11 = .ok (.iload_n 3, 1) := by decide +kernel
theorem d_X2_longest_12 : decode c_X2_longest 12 = .ok (.iaload, 1) := by decide +kernel
theorem d_X2_longest_13 : decode c_X2_longest 13 = .ok (.invokestatic 54, 3) := by decide +kernel
theorem d_X2_longest_16 : decode c_X2_longest 16 = .ok (.istore_n 2, 1) := by decide +kernel
theorem d_X2_longest_17 : decode c_X2_longest 17 = .ok (.iinc 3 1, 3) := by decide +kernel
theorem d_X2_longest_20 : decode c_X2_longest 20 = .ok (.goto (-16), 3) := by decide +kernel
theorem d_X2_longest_23 : decode c_X2_longest 23 = .ok (.iload_n 2, 1) := by decide +kernel
theorem d_X2_longest_24 : decode c_X2_longest 24 = .ok (.ireturn, 1) := by decide +kernel
set_option maxHeartbeats 4000000 in
set_option maxRecDepth 100000 in
theorem ct_X2_longest_42 (l : Launch) (D : va_G) (dA : Nat → ClassId) (ad : Nat → Nat) (v : tV) (hI : Inv v) (gg : Int32) (r_gg : Rg gg 1 3) : Met l m_X2_longest [.code m_X2_longest c_X2_longest 4 (some .int)] ({ frames := 1, cells := 0, slots := 0, locals := 40 } : Room) (tP D dA ad v [.ref (ad 42), .int gg]) (tQi D dA ad (fun r v' => v' = v)) 0 0 (tA ad) := by
  refine tMet (by decide) (Nat.le_of_ble_eq_true rfl) ?_
  intro p e s m below meth c ls X hr hlocks hw hl
  have X : CX p s m ([.ref (ad 42), .int gg] : List Value).toArray c c_X2_longest N_X2 4 D dA := X
  have hx := X.1
  have hb := X.2.1
  have hS : va_S (tA ad) s.heap s.heap [] := va_S.rf
  have hl : lv_has ls 4 [(0, .ref (ad 42)), (1, .int gg)] := hl
  have LL : ∀ n : Nat, (∀ (y2 : Int32) (y3 : Int32)  (H : Heap) (locs : List Loc) (ls : Array Slot), (3 - y3.toInt).toNat < n → Rg y3 0 3 → tI D dA ad v H → va_S (tA ad) s.heap H locs → lv_has ls 4 [(0, .ref (ad 42)), (1, .int gg), (2, .int y2), (3, .int y3)] → W p l e ({ frames := 1, cells := 0, slots := 0, locals := 40 } : Room) s m ([.ref (ad 42), .int gg] : List Value).toArray below meth c H locs 0 0 (MQ below (tQi D dA ad (fun r v' => v' = v)) ([.ref (ad 42), .int gg] : List Value).toArray s 0 0 (tA ad)) (F0 m 4 ls [])) := by
    intro n
    induction n with
    | zero => intros; omega
    | succ n ih =>
      have ih0 := ih
      intro y2 y3 H locs ls hmu r_y3 hw hS hl
      refine lv_iload_n hx hb d_X2_longest_4 rfl (lv_at hl 3 rfl) ?_
      refine lv_iload_n hx hb d_X2_longest_5 rfl (lv_at hl 1 rfl) ?_
      refine lv_icmp_ge (tgt := 23) hx hb d_X2_longest_6 (by decide) (fun c1 => ?_) (fun c1 => ?_)
      · have f2 := i_le c1
        have r3 : Rg y3 1 3 := by obtain ⟨a1, a2⟩ := r_y3; obtain ⟨b1, b2⟩ := r_gg; have f := i_le c1; exact ⟨by omega, by omega⟩
        refine lv_iload_n hx hb d_X2_longest_23 rfl (lv_at hl 2 rfl) ?_
        exact r_iret X hr hlocks hw hS rfl d_X2_longest_24
      · have f4 := i_nle c1
        have r5 : Rg y3 0 2 := by obtain ⟨a1, a2⟩ := r_y3; obtain ⟨b1, b2⟩ := r_gg; have f := i_nle c1; exact ⟨by omega, by omega⟩
        refine lv_iload_n hx hb d_X2_longest_9 rfl (lv_at hl 2 rfl) ?_
        refine lv_aload_n hx hb d_X2_longest_10 rfl (lv_at hl 0 rfl) ?_
        refine lv_iload_n hx hb d_X2_longest_11 rfl (lv_at hl 3 rfl) ?_
        refine r_iald X hw (rfl : KD 42 = _) (Rg.vp (b := 2) r5 (by decide)) rfl d_X2_longest_12 ?_
        refine lv_topi (fun x6 ex6 => ?_)
        refine va_mmax hx hb (X.2.2.1.trans hl.1.symm) X.2.2.2.1 (X.2.2.2.2.1 _ ml_X2_54) (X.2.2.2.2.1 _ ml_maxs) (X.2.2.2.2.1 _ ml_mi) (X.2.2.2.2.1 _ ml_maxc) (Nat.le_of_ble_eq_true rfl) (Nat.le_of_ble_eq_true rfl) (Nat.zero_le _) (Nat.zero_le _) d_X2_longest_13 ?_
        refine lv_topi (fun x7 ex7 => ?_)
        refine lv_istore_n (lv' := [(2, .int x7), (0, .ref (ad 42)), (1, .int gg), (3, .int y3)]) hx hb d_X2_longest_16 rfl hl (by decide) rfl (fun ls hl => ?_)
        obtain ⟨x8, ex8⟩ : ∃ y : Int32, y = y3 + 1 := ⟨_, rfl⟩
        refine lv_iinc (v := x8) (lv' := [(3, .int x8), (2, .int x7), (0, .ref (ad 42)), (1, .int gg)]) hx hb d_X2_longest_17 hl (k := 3) rfl (by rw [ex8]; rfl) (by decide) rfl (fun ls hl => ?_)
        have r9 : Rg x8 1 3 := rg_add ex8 r5 (⟨by decide, by decide⟩ : Rg 1 1 1) (by decide) (by decide)
        have s10 : x8.toInt = y3.toInt + (1 : Int32).toInt := by rw [ex8]; exact i_add (by obtain ⟨_, _⟩ := r5; obtain ⟨_, _⟩ := (⟨by decide, by decide⟩ : Rg 1 1 1); omega) (by obtain ⟨_, _⟩ := r5; obtain ⟨_, _⟩ := (⟨by decide, by decide⟩ : Rg 1 1 1); omega)
        have s10l : (1 : Int32).toInt = 1 := rfl
        refine lv_goto (tgt := 4) hx hb d_X2_longest_20 (by decide) ?_
        exact ih0 x7 x8 _ _ _ (by have q_ := r_gg; obtain ⟨_, _⟩ := q_; have q_ := r5; obtain ⟨_, _⟩ := q_; have q_ := r9; obtain ⟨_, _⟩ := q_; have q_ := rg_any x7; obtain ⟨_, _⟩ := q_; omega) (rg_w r9 (by decide) (by decide)) hw hS (lv_sub hl [2, 3, 1, 0] rfl)
  have ih0 := LL 100000
  refine lv_iconst (v := 0) hx hb d_X2_longest_0 (by decide) ?_
  refine lv_istore_n (lv' := [(2, .int 0), (0, .ref (ad 42)), (1, .int gg)]) hx hb d_X2_longest_1 rfl hl (by decide) rfl (fun ls hl => ?_)
  refine lv_iconst (v := 0) hx hb d_X2_longest_2 (by decide) ?_
  refine lv_istore_n (lv' := [(3, .int 0), (2, .int 0), (0, .ref (ad 42)), (1, .int gg)]) hx hb d_X2_longest_3 rfl hl (by decide) rfl (fun ls hl => ?_)
  exact ih0 0 0 _ _ _ (by have q_ := r_gg; obtain ⟨_, _⟩ := q_; have q_ : (0 : Int32).toInt = 0 := rfl; have q_ : (0 : Int32).toInt = 0 := rfl; omega) (rg_w (⟨by decide, by decide⟩ : Rg 0 0 0) (by decide) (by decide)) hw hS (lv_sub hl [2, 3, 1, 0] rfl)
theorem d_X2_leastHours_0 : decode c_X2_leastHours 0 = .ok (.iload_n 1, 1) := by decide +kernel
theorem d_X2_leastHours_1 : decode c_X2_leastHours 1 = .ok (.ifCond .gt 9, 3) := by decide +kernel
theorem d_X2_leastHours_4 : decode c_X2_leastHours 4 = .ok (.aload_n 2, 1) := by decide +kernel
theorem d_X2_leastHours_5 : decode c_X2_leastHours 5 = .ok (.iload_n 3, 1) := by decide +kernel
theorem d_X2_leastHours_6 : decode c_X2_leastHours 6 = .ok (.invokestatic 44, 3) := by decide +kernel
theorem d_X2_leastHours_9 : decode c_X2_leastHours 9 = .ok (.ireturn, 1) := by decide +kernel
theorem d_X2_leastHours_10 : decode c_X2_leastHours 10 = .ok (.aload_n 0, 1) := by decide +kernel
theorem d_X2_leastHours_11 : decode c_X2_leastHours 11 = .ok (.iload_n 1, 1) := by decide +kernel
theorem d_X2_leastHours_12 : decode c_X2_leastHours 12 = .ok (.iconst 1, 1) := by decide +kernel
theorem d_X2_leastHours_13 : decode c_X2_leastHours 13 = .ok (.isub, 1) := by decide +kernel
theorem d_X2_leastHours_14 : decode c_X2_leastHours 14 = .ok (.iaload, 1) := by decide +kernel
theorem d_X2_leastHours_15 : decode c_X2_leastHours 15 = .ok (.istore 5, 2) := by decide +kernel
theorem d_X2_leastHours_17 : decode c_X2_leastHours 17 = .ok (.iload 4, 2) := by decide +kernel
theorem d_X2_leastHours_19 : decode c_X2_leastHours 19 = .ok (.istore 6, 2) := by decide +kernel
theorem d_X2_leastHours_21 : decode c_X2_leastHours 21 = .ok (.iconst 0, 1) := by decide +kernel
theorem d_X2_leastHours_22 : decode c_X2_leastHours 22 = .ok (.istore 7, 2) := by decide +kernel
theorem d_X2_leastHours_24 : decode c_X2_leastHours 24 = .ok (.iload 7, 2) := by decide +kernel
theorem d_X2_leastHours_26 : decode c_X2_leastHours 26 = .ok (.iload_n 3, 1) := by decide +kernel
theorem d_X2_leastHours_27 : decode c_X2_leastHours 27 = .ok (.if_icmp .ge 60, 3) := by decide +kernel
theorem d_X2_leastHours_30 : decode c_X2_leastHours 30 = .ok (.aload_n 2, 1) := by decide +kernel
theorem d_X2_leastHours_31 : decode c_X2_leastHours 31 = .ok (.iload 7, 2) := by decide +kernel
theorem d_X2_leastHours_33 : decode c_X2_leastHours 33 = .ok (.iaload, 1) := by decide +kernel
theorem d_X2_leastHours_34 : decode c_X2_leastHours 34 = .ok (.iload 5, 2) := by decide +kernel
theorem d_X2_leastHours_36 : decode c_X2_leastHours 36 = .ok (.iadd, 1) := by decide +kernel
theorem d_X2_leastHours_37 : decode c_X2_leastHours 37 = .ok (.iload 6, 2) := by decide +kernel
theorem d_X2_leastHours_39 : decode c_X2_leastHours 39 = .ok (.if_icmp .lt 6, 3) := by decide +kernel
theorem d_X2_leastHours_42 : decode c_X2_leastHours 42 = .ok (.goto 39, 3) := by decide +kernel
theorem d_X2_leastHours_45 : decode c_X2_leastHours 45 = .ok (.aload_n 2, 1) := by decide +kernel
theorem d_X2_leastHours_46 : decode c_X2_leastHours 46 = .ok (.iload 7, 2) := by decide +kernel
theorem d_X2_leastHours_48 : decode c_X2_leastHours 48 = .ok (.dup2, 1) := by decide +kernel
theorem d_X2_leastHours_49 : decode c_X2_leastHours 49 = .ok (.iaload, 1) := by decide +kernel
theorem d_X2_leastHours_50 : decode c_X2_leastHours 50 = .ok (.iload 5, 2) := by decide +kernel
theorem d_X2_leastHours_52 : decode c_X2_leastHours 52 = .ok (.iadd, 1) := by decide +kernel
theorem d_X2_leastHours_53 : decode c_X2_leastHours 53 = .ok (.iastore, 1) := by decide +kernel
theorem d_X2_leastHours_54 : decode c_X2_leastHours 54 = .ok (.iload 6, 2) := by decide +kernel
theorem d_X2_leastHours_56 : decode c_X2_leastHours 56 = .ok (.aload_n 0, 1) := by decide +kernel
theorem d_X2_leastHours_57 : decode c_X2_leastHours 57 = .ok (.iload_n 1, 1) := by decide +kernel
theorem d_X2_leastHours_58 : decode c_X2_leastHours 58 = .ok (.iconst 1, 1) := by decide +kernel
theorem d_X2_leastHours_59 : decode c_X2_leastHours 59 = .ok (.isub, 1) := by decide +kernel
theorem d_X2_leastHours_60 : decode c_X2_leastHours 60 = .ok (.aload_n 2, 1) := by decide +kernel
theorem d_X2_leastHours_61 : decode c_X2_leastHours 61 = .ok (.iload_n 3, 1) := by decide +kernel
theorem d_X2_leastHours_62 : decode c_X2_leastHours 62 = .ok (.iload 6, 2) := by decide +kernel
theorem d_X2_leastHours_64 : decode c_X2_leastHours 64 = .ok (.invokestatic 28, 3) := by decide +kernel
theorem d_X2_leastHours_67 : decode c_X2_leastHours 67 = .ok (.invokestatic 48, 3) := by decide +kernel
theorem d_X2_leastHours_70 : decode c_X2_leastHours 70 = .ok (.istore 6, 2) := by decide +kernel
theorem d_X2_leastHours_72 : decode c_X2_leastHours 72 = .ok (.aload_n 2, 1) := by decide +kernel
theorem d_X2_leastHours_73 : decode c_X2_leastHours 73 = .ok (.iload 7, 2) := by decide +kernel
theorem d_X2_leastHours_75 : decode c_X2_leastHours 75 = .ok (.dup2, 1) := by decide +kernel
theorem d_X2_leastHours_76 : decode c_X2_leastHours 76 = .ok (.iaload, 1) := by decide +kernel
theorem d_X2_leastHours_77 : decode c_X2_leastHours 77 = .ok (.iload 5, 2) := by decide +kernel
theorem d_X2_leastHours_79 : decode c_X2_leastHours 79 = .ok (.isub, 1) := by decide +kernel
theorem d_X2_leastHours_80 : decode c_X2_leastHours 80 = .ok (.iastore, 1) := by decide +kernel
theorem d_X2_leastHours_81 : decode c_X2_leastHours 81 = .ok (.iinc 7 1, 3) := by decide +kernel
theorem d_X2_leastHours_84 : decode c_X2_leastHours 84 = .ok (.goto (-60), 3) := by decide +kernel
theorem d_X2_leastHours_87 : decode c_X2_leastHours 87 = .ok (.iload 6, 2) := by decide +kernel
theorem d_X2_leastHours_89 : decode c_X2_leastHours 89 = .ok (.ireturn, 1) := by decide +kernel
set_option maxHeartbeats 4000000 in
set_option maxRecDepth 100000 in
theorem ct_X2_leastHours_0 (l : Launch) (D : va_G) (dA : Nat → ClassId) (ad : Nat → Nat) (v : tV) (hI : Inv v) (up : Int32) (gg : Int32) (be : Int32) (r_up : Rg up 0 0) (r_gg : Rg gg 1 3) : Met l m_X2_leastHours [.code m_X2_leastHours c_X2_leastHours 8 (some .int)] ({ frames := 2, cells := 0, slots := 0, locals := 63 } : Room) (tP D dA ad v [.ref (ad 41), .int up, .ref (ad 42), .int gg, .int be]) (tQi D dA ad (fun r v' => Inv v' ∧ Kp v v')) 0 0 (tA ad) := by
  refine tMet (by decide) (Nat.le_of_ble_eq_true rfl) ?_
  intro p e s m below meth c ls X hr hlocks hw hl
  have X : CX p s m ([.ref (ad 41), .int up, .ref (ad 42), .int gg, .int be] : List Value).toArray c c_X2_leastHours N_X2 8 D dA := X
  have hx := X.1
  have hb := X.2.1
  have hS : va_S (tA ad) s.heap s.heap [] := va_S.rf
  have hl : lv_has ls 8 [(0, .ref (ad 41)), (1, .int up), (2, .ref (ad 42)), (3, .int gg), (4, .int be)] := hl
  have hK0 : Kp v v := Kp.rf v
  refine lv_iload_n hx hb d_X2_leastHours_0 rfl (lv_at hl 1 rfl) ?_
  refine lv_if_gt (tgt := 10) hx hb d_X2_leastHours_1 (by decide) (fun c1 => ?_) (fun c1 => ?_)
  · exfalso
    obtain ⟨a1, a2⟩ := r_up; obtain ⟨b1, b2⟩ := (⟨by decide, by decide⟩ : Rg 0 0 0); have f := i_lt c1; omega
  · have f2 := i_nlt c1
    refine lv_aload_n hx hb d_X2_leastHours_4 rfl (lv_at hl 2 rfl) ?_
    refine lv_iload_n hx hb d_X2_leastHours_5 rfl (lv_at hl 3 rfl) ?_
    refine r_ci (r_runS (n := 2) (As := [.ref (ad 42), .int gg]) (rest := []) X hw (ct_X2_longest_42 l D dA ad v hI gg r_gg) gc_X2_44 (by decide +kernel) ⟨rfl, rfl, Nat.le_of_ble_eq_true rfl, Nat.le_of_ble_eq_true rfl⟩ rfl hl.1 rfl (Nat.le_of_ble_eq_true rfl) ⟨Nat.zero_le _, Nat.zero_le _⟩ d_X2_leastHours_6) hS (fun x4 v5 H locs hp3 hw hS => ?_)
    rw [hp3] at hw
    exact r_iret X hr hlocks hw hS ⟨hI, hK0⟩ d_X2_leastHours_9
set_option maxHeartbeats 4000000 in
set_option maxRecDepth 100000 in
theorem ct_X2_leastHours_1 (l : Launch) (D : va_G) (dA : Nat → ClassId) (ad : Nat → Nat) (v : tV) (hI : Inv v) (up : Int32) (gg : Int32) (be : Int32) (r_up : Rg up 0 1) (r_gg : Rg gg 1 3) : Met l m_X2_leastHours [.code m_X2_leastHours c_X2_leastHours 8 (some .int)] ({ frames := 3, cells := 0, slots := 0, locals := 90 } : Room) (tP D dA ad v [.ref (ad 41), .int up, .ref (ad 42), .int gg, .int be]) (tQi D dA ad (fun r v' => Inv v' ∧ Kp v v')) 0 0 (tA ad) := by
  refine tMet (by decide) (Nat.le_of_ble_eq_true rfl) ?_
  intro p e s m below meth c ls X hr hlocks hw hl
  have X : CX p s m ([.ref (ad 41), .int up, .ref (ad 42), .int gg, .int be] : List Value).toArray c c_X2_leastHours N_X2 8 D dA := X
  have hx := X.1
  have hb := X.2.1
  have hS : va_S (tA ad) s.heap s.heap [] := va_S.rf
  have hl : lv_has ls 8 [(0, .ref (ad 41)), (1, .int up), (2, .ref (ad 42)), (3, .int gg), (4, .int be)] := hl
  have LL : ∀ n : Nat, (∀ (y5 : Int32) (y6 : Int32) (y7 : Int32) (v1 : tV) (H : Heap) (locs : List Loc) (ls : Array Slot), (3 - y7.toInt).toNat < n → Rg up 1 1 → Rg y7 0 3 → Inv v1 → Kp v v1 → tI D dA ad v1 H → va_S (tA ad) s.heap H locs → lv_has ls 8 [(0, .ref (ad 41)), (1, .int up), (2, .ref (ad 42)), (3, .int gg), (4, .int be), (5, .int y5), (6, .int y6), (7, .int y7)] → W p l e ({ frames := 3, cells := 0, slots := 0, locals := 90 } : Room) s m ([.ref (ad 41), .int up, .ref (ad 42), .int gg, .int be] : List Value).toArray below meth c H locs 0 0 (MQ below (tQi D dA ad (fun r v' => Inv v' ∧ Kp v v')) ([.ref (ad 41), .int up, .ref (ad 42), .int gg, .int be] : List Value).toArray s 0 0 (tA ad)) (F0 m 24 ls [])) := by
    intro n
    induction n with
    | zero => intros; omega
    | succ n ih =>
      have ih0 := ih
      intro y5 y6 y7 v1 H locs ls hmu r_y1 r_y7 hI1 hK1 hw hS hl
      refine lv_iload hx hb d_X2_leastHours_24 (lv_at hl 7 rfl) ?_
      refine lv_iload_n hx hb d_X2_leastHours_26 rfl (lv_at hl 3 rfl) ?_
      refine lv_icmp_ge (tgt := 87) hx hb d_X2_leastHours_27 (by decide) (fun c1 => ?_) (fun c1 => ?_)
      · have f2 := i_le c1
        have r3 : Rg y7 1 3 := by obtain ⟨a1, a2⟩ := r_y7; obtain ⟨b1, b2⟩ := r_gg; have f := i_le c1; exact ⟨by omega, by omega⟩
        refine lv_iload hx hb d_X2_leastHours_87 (lv_at hl 6 rfl) ?_
        exact r_iret X hr hlocks hw hS ⟨hI1, hK1⟩ d_X2_leastHours_89
      · have f4 := i_nle c1
        have r5 : Rg y7 0 2 := by obtain ⟨a1, a2⟩ := r_y7; obtain ⟨b1, b2⟩ := r_gg; have f := i_nle c1; exact ⟨by omega, by omega⟩
        refine lv_aload_n hx hb d_X2_leastHours_30 rfl (lv_at hl 2 rfl) ?_
        refine lv_iload hx hb d_X2_leastHours_31 (lv_at hl 7 rfl) ?_
        refine r_iald X hw (rfl : KD 42 = _) (Rg.vp (b := 2) r5 (by decide)) rfl d_X2_leastHours_33 ?_
        refine lv_topi (fun x6 ex6 => ?_)
        refine lv_iload hx hb d_X2_leastHours_34 (lv_at hl 5 rfl) ?_
        refine lv_iadd hx hb d_X2_leastHours_36 ?_
        refine lv_topi (fun x7 ex7 => ?_)
        refine lv_iload hx hb d_X2_leastHours_37 (lv_at hl 6 rfl) ?_
        refine lv_icmp_lt (tgt := 45) hx hb d_X2_leastHours_39 (by decide) (fun c8 => ?_) (fun c8 => ?_)
        · have f9 := i_lt c8
          refine lv_aload_n hx hb d_X2_leastHours_45 rfl (lv_at hl 2 rfl) ?_
          refine lv_iload hx hb d_X2_leastHours_46 (lv_at hl 7 rfl) ?_
          refine lv_dup2_11 hx hb d_X2_leastHours_48 rfl rfl ?_
          refine r_iald X hw (rfl : KD 42 = _) (Rg.vp (b := 2) r5 (by decide)) rfl d_X2_leastHours_49 ?_
          refine lv_topi (fun x10 ex10 => ?_)
          refine lv_iload hx hb d_X2_leastHours_50 (lv_at hl 5 rfl) ?_
          refine lv_iadd hx hb d_X2_leastHours_52 ?_
          refine lv_topi (fun x11 ex11 => ?_)
          refine r_iast X hw hS (rfl : KD 42 = _) (Rg.vp (b := 2) r5 (by decide)) rfl d_X2_leastHours_53 (fun H locs hw hS => ?_)
          obtain ⟨v12, ev12⟩ : ∃ z, z = up2 v1 42 y7.toNatClampNeg x11 := ⟨_, rfl⟩
          rw [← ev12] at hw
          have hI13 : Inv v12 := by rw [ev12]; exact Inv.put0 hI1 _ rfl
          have hK14 : Kp v v12 := by rw [ev12]; exact Kp.put hK1 _ rfl
          refine lv_iload hx hb d_X2_leastHours_54 (lv_at hl 6 rfl) ?_
          refine lv_aload_n hx hb d_X2_leastHours_56 rfl (lv_at hl 0 rfl) ?_
          refine lv_iload_n hx hb d_X2_leastHours_57 rfl (lv_at hl 1 rfl) ?_
          refine lv_iconst (v := 1) hx hb d_X2_leastHours_58 (by decide) ?_
          refine lv_isub hx hb d_X2_leastHours_59 ?_
          refine lv_topi (fun x15 ex15 => ?_)
          have r16 : Rg x15 0 0 := rg_sub ex15 r_y1 (⟨by decide, by decide⟩ : Rg 1 1 1) (by decide) (by decide)
          have s17 : x15.toInt = up.toInt - (1 : Int32).toInt := by rw [ex15]; exact i_sub (by obtain ⟨_, _⟩ := r_y1; obtain ⟨_, _⟩ := (⟨by decide, by decide⟩ : Rg 1 1 1); omega) (by obtain ⟨_, _⟩ := r_y1; obtain ⟨_, _⟩ := (⟨by decide, by decide⟩ : Rg 1 1 1); omega)
          have s17l : (1 : Int32).toInt = 1 := rfl
          refine lv_aload_n hx hb d_X2_leastHours_60 rfl (lv_at hl 2 rfl) ?_
          refine lv_iload_n hx hb d_X2_leastHours_61 rfl (lv_at hl 3 rfl) ?_
          refine lv_iload hx hb d_X2_leastHours_62 (lv_at hl 6 rfl) ?_
          refine r_ci (r_runS (n := 5) (As := [.ref (ad 41), .int x15, .ref (ad 42), .int gg, .int y6]) (rest := [.int y6]) X hw (ct_X2_leastHours_0 l D dA ad v12 hI13 x15 gg y6 r16 r_gg) gc_X2_28 (by decide +kernel) ⟨rfl, rfl, Nat.le_of_ble_eq_true rfl, Nat.le_of_ble_eq_true rfl⟩ rfl hl.1 rfl (Nat.le_of_ble_eq_true rfl) ⟨Nat.zero_le _, Nat.zero_le _⟩ d_X2_leastHours_64) hS (fun x19 v20 H locs hp18 hw hS => ?_)
          obtain ⟨hI21, hK22⟩ := hp18
          have hK23 : Kp v v20 := Kp.tr hK14 hK22
          refine va_mmin hx hb (X.2.2.1.trans hl.1.symm) X.2.2.2.1 (X.2.2.2.2.1 _ ml_X2_48) (X.2.2.2.2.1 _ ml_mins) (X.2.2.2.2.1 _ ml_mi) (X.2.2.2.2.1 _ ml_minc) (Nat.le_of_ble_eq_true rfl) (Nat.le_of_ble_eq_true rfl) (Nat.zero_le _) (Nat.zero_le _) d_X2_leastHours_67 ?_
          refine lv_topi (fun x24 ex24 => ?_)
          refine lv_istore (lv' := [(6, .int x24), (0, .ref (ad 41)), (1, .int up), (2, .ref (ad 42)), (3, .int gg), (4, .int be), (5, .int y5), (7, .int y7)]) hx hb d_X2_leastHours_70 hl (by decide) rfl (fun ls hl => ?_)
          refine lv_aload_n hx hb d_X2_leastHours_72 rfl (lv_at hl 3 rfl) ?_
          refine lv_iload hx hb d_X2_leastHours_73 (lv_at hl 7 rfl) ?_
          refine lv_dup2_11 hx hb d_X2_leastHours_75 rfl rfl ?_
          refine r_iald X hw (rfl : KD 42 = _) (Rg.vp (b := 2) r5 (by decide)) rfl d_X2_leastHours_76 ?_
          refine lv_topi (fun x25 ex25 => ?_)
          refine lv_iload hx hb d_X2_leastHours_77 (lv_at hl 6 rfl) ?_
          refine lv_isub hx hb d_X2_leastHours_79 ?_
          refine lv_topi (fun x26 ex26 => ?_)
          refine r_iast X hw hS (rfl : KD 42 = _) (Rg.vp (b := 2) r5 (by decide)) rfl d_X2_leastHours_80 (fun H locs hw hS => ?_)
          obtain ⟨v27, ev27⟩ : ∃ z, z = up2 v20 42 y7.toNatClampNeg x26 := ⟨_, rfl⟩
          rw [← ev27] at hw
          have hI28 : Inv v27 := by rw [ev27]; exact Inv.put0 hI21 _ rfl
          have hK29 : Kp v v27 := by rw [ev27]; exact Kp.put hK23 _ rfl
          obtain ⟨x30, ex30⟩ : ∃ y : Int32, y = y7 + 1 := ⟨_, rfl⟩
          refine lv_iinc (v := x30) (lv' := [(7, .int x30), (6, .int x24), (0, .ref (ad 41)), (1, .int up), (2, .ref (ad 42)), (3, .int gg), (4, .int be), (5, .int y5)]) hx hb d_X2_leastHours_81 hl (k := 7) rfl (by rw [ex30]; rfl) (by decide) rfl (fun ls hl => ?_)
          have r31 : Rg x30 1 3 := rg_add ex30 r5 (⟨by decide, by decide⟩ : Rg 1 1 1) (by decide) (by decide)
          have s32 : x30.toInt = y7.toInt + (1 : Int32).toInt := by rw [ex30]; exact i_add (by obtain ⟨_, _⟩ := r5; obtain ⟨_, _⟩ := (⟨by decide, by decide⟩ : Rg 1 1 1); omega) (by obtain ⟨_, _⟩ := r5; obtain ⟨_, _⟩ := (⟨by decide, by decide⟩ : Rg 1 1 1); omega)
          have s32l : (1 : Int32).toInt = 1 := rfl
          refine lv_goto (tgt := 24) hx hb d_X2_leastHours_84 (by decide) ?_
          exact ih0 y5 x24 x30 v27 _ _ _ (by have q_ := r_y1; obtain ⟨_, _⟩ := q_; have q_ := r_gg; obtain ⟨_, _⟩ := q_; have q_ := r5; obtain ⟨_, _⟩ := q_; have q_ := r16; obtain ⟨_, _⟩ := q_; have q_ := r31; obtain ⟨_, _⟩ := q_; have q_ := rg_any be; obtain ⟨_, _⟩ := q_; have q_ := rg_any y5; obtain ⟨_, _⟩ := q_; have q_ := rg_any x24; obtain ⟨_, _⟩ := q_; omega) r_y1 (rg_w r31 (by decide) (by decide)) hI28 hK29 hw hS (lv_sub hl [2, 3, 4, 5, 6, 7, 1, 0] rfl)
        · have f33 := i_nlt c8
          refine lv_goto (tgt := 81) hx hb d_X2_leastHours_42 (by decide) ?_
          obtain ⟨x34, ex34⟩ : ∃ y : Int32, y = y7 + 1 := ⟨_, rfl⟩
          refine lv_iinc (v := x34) (lv' := [(7, .int x34), (0, .ref (ad 41)), (1, .int up), (2, .ref (ad 42)), (3, .int gg), (4, .int be), (5, .int y5), (6, .int y6)]) hx hb d_X2_leastHours_81 hl (k := 7) rfl (by rw [ex34]; rfl) (by decide) rfl (fun ls hl => ?_)
          have r35 : Rg x34 1 3 := rg_add ex34 r5 (⟨by decide, by decide⟩ : Rg 1 1 1) (by decide) (by decide)
          have s36 : x34.toInt = y7.toInt + (1 : Int32).toInt := by rw [ex34]; exact i_add (by obtain ⟨_, _⟩ := r5; obtain ⟨_, _⟩ := (⟨by decide, by decide⟩ : Rg 1 1 1); omega) (by obtain ⟨_, _⟩ := r5; obtain ⟨_, _⟩ := (⟨by decide, by decide⟩ : Rg 1 1 1); omega)
          have s36l : (1 : Int32).toInt = 1 := rfl
          refine lv_goto (tgt := 24) hx hb d_X2_leastHours_84 (by decide) ?_
          exact ih0 y5 y6 x34 v1 _ _ _ (by have q_ := r_y1; obtain ⟨_, _⟩ := q_; have q_ := r_gg; obtain ⟨_, _⟩ := q_; have q_ := r5; obtain ⟨_, _⟩ := q_; have q_ := r35; obtain ⟨_, _⟩ := q_; have q_ := rg_any be; obtain ⟨_, _⟩ := q_; have q_ := rg_any y5; obtain ⟨_, _⟩ := q_; have q_ := rg_any y6; obtain ⟨_, _⟩ := q_; omega) r_y1 (rg_w r35 (by decide) (by decide)) hI1 hK1 hw hS (lv_sub hl [1, 2, 3, 4, 5, 6, 7, 0] rfl)
  have ih0 := LL 100000
  have hK0 : Kp v v := Kp.rf v
  refine lv_iload_n hx hb d_X2_leastHours_0 rfl (lv_at hl 1 rfl) ?_
  refine lv_if_gt (tgt := 10) hx hb d_X2_leastHours_1 (by decide) (fun c37 => ?_) (fun c37 => ?_)
  · have f38 := i_lt c37
    have r39 : Rg up 1 1 := by obtain ⟨a1, a2⟩ := r_up; obtain ⟨b1, b2⟩ := (⟨by decide, by decide⟩ : Rg 0 0 0); have f := i_lt c37; exact ⟨by omega, by omega⟩
    refine lv_aload_n hx hb d_X2_leastHours_10 rfl (lv_at hl 0 rfl) ?_
    refine lv_iload_n hx hb d_X2_leastHours_11 rfl (lv_at hl 1 rfl) ?_
    refine lv_iconst (v := 1) hx hb d_X2_leastHours_12 (by decide) ?_
    refine lv_isub hx hb d_X2_leastHours_13 ?_
    refine lv_topi (fun x40 ex40 => ?_)
    have r41 : Rg x40 0 0 := rg_sub ex40 r39 (⟨by decide, by decide⟩ : Rg 1 1 1) (by decide) (by decide)
    have s42 : x40.toInt = up.toInt - (1 : Int32).toInt := by rw [ex40]; exact i_sub (by obtain ⟨_, _⟩ := r39; obtain ⟨_, _⟩ := (⟨by decide, by decide⟩ : Rg 1 1 1); omega) (by obtain ⟨_, _⟩ := r39; obtain ⟨_, _⟩ := (⟨by decide, by decide⟩ : Rg 1 1 1); omega)
    have s42l : (1 : Int32).toInt = 1 := rfl
    refine r_iald X hw (rfl : KD 41 = _) (Rg.vp (b := 0) r41 (by decide)) rfl d_X2_leastHours_14 ?_
    refine lv_topi (fun x43 ex43 => ?_)
    refine lv_istore (lv' := [(5, .int x43), (0, .ref (ad 41)), (1, .int up), (2, .ref (ad 42)), (3, .int gg), (4, .int be)]) hx hb d_X2_leastHours_15 hl (by decide) rfl (fun ls hl => ?_)
    refine lv_iload hx hb d_X2_leastHours_17 (lv_at hl 5 rfl) ?_
    refine lv_istore (lv' := [(6, .int be), (5, .int x43), (0, .ref (ad 41)), (1, .int up), (2, .ref (ad 42)), (3, .int gg), (4, .int be)]) hx hb d_X2_leastHours_19 hl (by decide) rfl (fun ls hl => ?_)
    refine lv_iconst (v := 0) hx hb d_X2_leastHours_21 (by decide) ?_
    refine lv_istore (lv' := [(7, .int 0), (6, .int be), (5, .int x43), (0, .ref (ad 41)), (1, .int up), (2, .ref (ad 42)), (3, .int gg), (4, .int be)]) hx hb d_X2_leastHours_22 hl (by decide) rfl (fun ls hl => ?_)
    exact ih0 x43 be 0 v _ _ _ (by have q_ := r39; obtain ⟨_, _⟩ := q_; have q_ := r_gg; obtain ⟨_, _⟩ := q_; have q_ := r41; obtain ⟨_, _⟩ := q_; have q_ := rg_any be; obtain ⟨_, _⟩ := q_; have q_ := rg_any x43; obtain ⟨_, _⟩ := q_; have q_ := rg_any be; obtain ⟨_, _⟩ := q_; have q_ : (0 : Int32).toInt = 0 := rfl; omega) r39 (rg_w (⟨by decide, by decide⟩ : Rg 0 0 0) (by decide) (by decide)) hI hK0 hw hS (lv_sub hl [3, 4, 5, 6, 7, 2, 1, 0] rfl)
  · have f44 := i_nlt c37
    have r45 : Rg up 0 0 := by obtain ⟨a1, a2⟩ := r_up; obtain ⟨b1, b2⟩ := (⟨by decide, by decide⟩ : Rg 0 0 0); have f := i_nlt c37; exact ⟨by omega, by omega⟩
    refine lv_aload_n hx hb d_X2_leastHours_4 rfl (lv_at hl 2 rfl) ?_
    refine lv_iload_n hx hb d_X2_leastHours_5 rfl (lv_at hl 3 rfl) ?_
    refine r_ci (r_runS (n := 2) (As := [.ref (ad 42), .int gg]) (rest := []) X hw (ct_X2_longest_42 l D dA ad v hI gg r_gg) gc_X2_44 (by decide +kernel) ⟨rfl, rfl, Nat.le_of_ble_eq_true rfl, Nat.le_of_ble_eq_true rfl⟩ rfl hl.1 rfl (Nat.le_of_ble_eq_true rfl) ⟨Nat.zero_le _, Nat.zero_le _⟩ d_X2_leastHours_6) hS (fun x47 v48 H locs hp46 hw hS => ?_)
    rw [hp46] at hw
    exact r_iret X hr hlocks hw hS ⟨hI, hK0⟩ d_X2_leastHours_9
set_option maxHeartbeats 4000000 in
set_option maxRecDepth 100000 in
theorem ct_X2_leastHours_2 (l : Launch) (D : va_G) (dA : Nat → ClassId) (ad : Nat → Nat) (v : tV) (hI : Inv v) (up : Int32) (gg : Int32) (be : Int32) (r_up : Rg up 0 2) (r_gg : Rg gg 1 3) : Met l m_X2_leastHours [.code m_X2_leastHours c_X2_leastHours 8 (some .int)] ({ frames := 4, cells := 0, slots := 0, locals := 117 } : Room) (tP D dA ad v [.ref (ad 41), .int up, .ref (ad 42), .int gg, .int be]) (tQi D dA ad (fun r v' => Inv v' ∧ Kp v v')) 0 0 (tA ad) := by
  refine tMet (by decide) (Nat.le_of_ble_eq_true rfl) ?_
  intro p e s m below meth c ls X hr hlocks hw hl
  have X : CX p s m ([.ref (ad 41), .int up, .ref (ad 42), .int gg, .int be] : List Value).toArray c c_X2_leastHours N_X2 8 D dA := X
  have hx := X.1
  have hb := X.2.1
  have hS : va_S (tA ad) s.heap s.heap [] := va_S.rf
  have hl : lv_has ls 8 [(0, .ref (ad 41)), (1, .int up), (2, .ref (ad 42)), (3, .int gg), (4, .int be)] := hl
  have LL : ∀ n : Nat, (∀ (y5 : Int32) (y6 : Int32) (y7 : Int32) (v1 : tV) (H : Heap) (locs : List Loc) (ls : Array Slot), (3 - y7.toInt).toNat < n → Rg up 1 2 → Rg y7 0 3 → Inv v1 → Kp v v1 → tI D dA ad v1 H → va_S (tA ad) s.heap H locs → lv_has ls 8 [(0, .ref (ad 41)), (1, .int up), (2, .ref (ad 42)), (3, .int gg), (4, .int be), (5, .int y5), (6, .int y6), (7, .int y7)] → W p l e ({ frames := 4, cells := 0, slots := 0, locals := 117 } : Room) s m ([.ref (ad 41), .int up, .ref (ad 42), .int gg, .int be] : List Value).toArray below meth c H locs 0 0 (MQ below (tQi D dA ad (fun r v' => Inv v' ∧ Kp v v')) ([.ref (ad 41), .int up, .ref (ad 42), .int gg, .int be] : List Value).toArray s 0 0 (tA ad)) (F0 m 24 ls [])) := by
    intro n
    induction n with
    | zero => intros; omega
    | succ n ih =>
      have ih0 := ih
      intro y5 y6 y7 v1 H locs ls hmu r_y1 r_y7 hI1 hK1 hw hS hl
      refine lv_iload hx hb d_X2_leastHours_24 (lv_at hl 7 rfl) ?_
      refine lv_iload_n hx hb d_X2_leastHours_26 rfl (lv_at hl 3 rfl) ?_
      refine lv_icmp_ge (tgt := 87) hx hb d_X2_leastHours_27 (by decide) (fun c1 => ?_) (fun c1 => ?_)
      · have f2 := i_le c1
        have r3 : Rg y7 1 3 := by obtain ⟨a1, a2⟩ := r_y7; obtain ⟨b1, b2⟩ := r_gg; have f := i_le c1; exact ⟨by omega, by omega⟩
        refine lv_iload hx hb d_X2_leastHours_87 (lv_at hl 6 rfl) ?_
        exact r_iret X hr hlocks hw hS ⟨hI1, hK1⟩ d_X2_leastHours_89
      · have f4 := i_nle c1
        have r5 : Rg y7 0 2 := by obtain ⟨a1, a2⟩ := r_y7; obtain ⟨b1, b2⟩ := r_gg; have f := i_nle c1; exact ⟨by omega, by omega⟩
        refine lv_aload_n hx hb d_X2_leastHours_30 rfl (lv_at hl 2 rfl) ?_
        refine lv_iload hx hb d_X2_leastHours_31 (lv_at hl 7 rfl) ?_
        refine r_iald X hw (rfl : KD 42 = _) (Rg.vp (b := 2) r5 (by decide)) rfl d_X2_leastHours_33 ?_
        refine lv_topi (fun x6 ex6 => ?_)
        refine lv_iload hx hb d_X2_leastHours_34 (lv_at hl 5 rfl) ?_
        refine lv_iadd hx hb d_X2_leastHours_36 ?_
        refine lv_topi (fun x7 ex7 => ?_)
        refine lv_iload hx hb d_X2_leastHours_37 (lv_at hl 6 rfl) ?_
        refine lv_icmp_lt (tgt := 45) hx hb d_X2_leastHours_39 (by decide) (fun c8 => ?_) (fun c8 => ?_)
        · have f9 := i_lt c8
          refine lv_aload_n hx hb d_X2_leastHours_45 rfl (lv_at hl 2 rfl) ?_
          refine lv_iload hx hb d_X2_leastHours_46 (lv_at hl 7 rfl) ?_
          refine lv_dup2_11 hx hb d_X2_leastHours_48 rfl rfl ?_
          refine r_iald X hw (rfl : KD 42 = _) (Rg.vp (b := 2) r5 (by decide)) rfl d_X2_leastHours_49 ?_
          refine lv_topi (fun x10 ex10 => ?_)
          refine lv_iload hx hb d_X2_leastHours_50 (lv_at hl 5 rfl) ?_
          refine lv_iadd hx hb d_X2_leastHours_52 ?_
          refine lv_topi (fun x11 ex11 => ?_)
          refine r_iast X hw hS (rfl : KD 42 = _) (Rg.vp (b := 2) r5 (by decide)) rfl d_X2_leastHours_53 (fun H locs hw hS => ?_)
          obtain ⟨v12, ev12⟩ : ∃ z, z = up2 v1 42 y7.toNatClampNeg x11 := ⟨_, rfl⟩
          rw [← ev12] at hw
          have hI13 : Inv v12 := by rw [ev12]; exact Inv.put0 hI1 _ rfl
          have hK14 : Kp v v12 := by rw [ev12]; exact Kp.put hK1 _ rfl
          refine lv_iload hx hb d_X2_leastHours_54 (lv_at hl 6 rfl) ?_
          refine lv_aload_n hx hb d_X2_leastHours_56 rfl (lv_at hl 0 rfl) ?_
          refine lv_iload_n hx hb d_X2_leastHours_57 rfl (lv_at hl 1 rfl) ?_
          refine lv_iconst (v := 1) hx hb d_X2_leastHours_58 (by decide) ?_
          refine lv_isub hx hb d_X2_leastHours_59 ?_
          refine lv_topi (fun x15 ex15 => ?_)
          have r16 : Rg x15 0 1 := rg_sub ex15 r_y1 (⟨by decide, by decide⟩ : Rg 1 1 1) (by decide) (by decide)
          have s17 : x15.toInt = up.toInt - (1 : Int32).toInt := by rw [ex15]; exact i_sub (by obtain ⟨_, _⟩ := r_y1; obtain ⟨_, _⟩ := (⟨by decide, by decide⟩ : Rg 1 1 1); omega) (by obtain ⟨_, _⟩ := r_y1; obtain ⟨_, _⟩ := (⟨by decide, by decide⟩ : Rg 1 1 1); omega)
          have s17l : (1 : Int32).toInt = 1 := rfl
          refine lv_aload_n hx hb d_X2_leastHours_60 rfl (lv_at hl 2 rfl) ?_
          refine lv_iload_n hx hb d_X2_leastHours_61 rfl (lv_at hl 3 rfl) ?_
          refine lv_iload hx hb d_X2_leastHours_62 (lv_at hl 6 rfl) ?_
          refine r_ci (r_runS (n := 5) (As := [.ref (ad 41), .int x15, .ref (ad 42), .int gg, .int y6]) (rest := [.int y6]) X hw (ct_X2_leastHours_1 l D dA ad v12 hI13 x15 gg y6 r16 r_gg) gc_X2_28 (by decide +kernel) ⟨rfl, rfl, Nat.le_of_ble_eq_true rfl, Nat.le_of_ble_eq_true rfl⟩ rfl hl.1 rfl (Nat.le_of_ble_eq_true rfl) ⟨Nat.zero_le _, Nat.zero_le _⟩ d_X2_leastHours_64) hS (fun x19 v20 H locs hp18 hw hS => ?_)
          obtain ⟨hI21, hK22⟩ := hp18
          have hK23 : Kp v v20 := Kp.tr hK14 hK22
          refine va_mmin hx hb (X.2.2.1.trans hl.1.symm) X.2.2.2.1 (X.2.2.2.2.1 _ ml_X2_48) (X.2.2.2.2.1 _ ml_mins) (X.2.2.2.2.1 _ ml_mi) (X.2.2.2.2.1 _ ml_minc) (Nat.le_of_ble_eq_true rfl) (Nat.le_of_ble_eq_true rfl) (Nat.zero_le _) (Nat.zero_le _) d_X2_leastHours_67 ?_
          refine lv_topi (fun x24 ex24 => ?_)
          refine lv_istore (lv' := [(6, .int x24), (0, .ref (ad 41)), (1, .int up), (2, .ref (ad 42)), (3, .int gg), (4, .int be), (5, .int y5), (7, .int y7)]) hx hb d_X2_leastHours_70 hl (by decide) rfl (fun ls hl => ?_)
          refine lv_aload_n hx hb d_X2_leastHours_72 rfl (lv_at hl 3 rfl) ?_
          refine lv_iload hx hb d_X2_leastHours_73 (lv_at hl 7 rfl) ?_
          refine lv_dup2_11 hx hb d_X2_leastHours_75 rfl rfl ?_
          refine r_iald X hw (rfl : KD 42 = _) (Rg.vp (b := 2) r5 (by decide)) rfl d_X2_leastHours_76 ?_
          refine lv_topi (fun x25 ex25 => ?_)
          refine lv_iload hx hb d_X2_leastHours_77 (lv_at hl 6 rfl) ?_
          refine lv_isub hx hb d_X2_leastHours_79 ?_
          refine lv_topi (fun x26 ex26 => ?_)
          refine r_iast X hw hS (rfl : KD 42 = _) (Rg.vp (b := 2) r5 (by decide)) rfl d_X2_leastHours_80 (fun H locs hw hS => ?_)
          obtain ⟨v27, ev27⟩ : ∃ z, z = up2 v20 42 y7.toNatClampNeg x26 := ⟨_, rfl⟩
          rw [← ev27] at hw
          have hI28 : Inv v27 := by rw [ev27]; exact Inv.put0 hI21 _ rfl
          have hK29 : Kp v v27 := by rw [ev27]; exact Kp.put hK23 _ rfl
          obtain ⟨x30, ex30⟩ : ∃ y : Int32, y = y7 + 1 := ⟨_, rfl⟩
          refine lv_iinc (v := x30) (lv' := [(7, .int x30), (6, .int x24), (0, .ref (ad 41)), (1, .int up), (2, .ref (ad 42)), (3, .int gg), (4, .int be), (5, .int y5)]) hx hb d_X2_leastHours_81 hl (k := 7) rfl (by rw [ex30]; rfl) (by decide) rfl (fun ls hl => ?_)
          have r31 : Rg x30 1 3 := rg_add ex30 r5 (⟨by decide, by decide⟩ : Rg 1 1 1) (by decide) (by decide)
          have s32 : x30.toInt = y7.toInt + (1 : Int32).toInt := by rw [ex30]; exact i_add (by obtain ⟨_, _⟩ := r5; obtain ⟨_, _⟩ := (⟨by decide, by decide⟩ : Rg 1 1 1); omega) (by obtain ⟨_, _⟩ := r5; obtain ⟨_, _⟩ := (⟨by decide, by decide⟩ : Rg 1 1 1); omega)
          have s32l : (1 : Int32).toInt = 1 := rfl
          refine lv_goto (tgt := 24) hx hb d_X2_leastHours_84 (by decide) ?_
          exact ih0 y5 x24 x30 v27 _ _ _ (by have q_ := r_y1; obtain ⟨_, _⟩ := q_; have q_ := r_gg; obtain ⟨_, _⟩ := q_; have q_ := r5; obtain ⟨_, _⟩ := q_; have q_ := r16; obtain ⟨_, _⟩ := q_; have q_ := r31; obtain ⟨_, _⟩ := q_; have q_ := rg_any be; obtain ⟨_, _⟩ := q_; have q_ := rg_any y5; obtain ⟨_, _⟩ := q_; have q_ := rg_any x24; obtain ⟨_, _⟩ := q_; omega) r_y1 (rg_w r31 (by decide) (by decide)) hI28 hK29 hw hS (lv_sub hl [2, 3, 4, 5, 6, 7, 1, 0] rfl)
        · have f33 := i_nlt c8
          refine lv_goto (tgt := 81) hx hb d_X2_leastHours_42 (by decide) ?_
          obtain ⟨x34, ex34⟩ : ∃ y : Int32, y = y7 + 1 := ⟨_, rfl⟩
          refine lv_iinc (v := x34) (lv' := [(7, .int x34), (0, .ref (ad 41)), (1, .int up), (2, .ref (ad 42)), (3, .int gg), (4, .int be), (5, .int y5), (6, .int y6)]) hx hb d_X2_leastHours_81 hl (k := 7) rfl (by rw [ex34]; rfl) (by decide) rfl (fun ls hl => ?_)
          have r35 : Rg x34 1 3 := rg_add ex34 r5 (⟨by decide, by decide⟩ : Rg 1 1 1) (by decide) (by decide)
          have s36 : x34.toInt = y7.toInt + (1 : Int32).toInt := by rw [ex34]; exact i_add (by obtain ⟨_, _⟩ := r5; obtain ⟨_, _⟩ := (⟨by decide, by decide⟩ : Rg 1 1 1); omega) (by obtain ⟨_, _⟩ := r5; obtain ⟨_, _⟩ := (⟨by decide, by decide⟩ : Rg 1 1 1); omega)
          have s36l : (1 : Int32).toInt = 1 := rfl
          refine lv_goto (tgt := 24) hx hb d_X2_leastHours_84 (by decide) ?_
          exact ih0 y5 y6 x34 v1 _ _ _ (by have q_ := r_y1; obtain ⟨_, _⟩ := q_; have q_ := r_gg; obtain ⟨_, _⟩ := q_; have q_ := r5; obtain ⟨_, _⟩ := q_; have q_ := r35; obtain ⟨_, _⟩ := q_; have q_ := rg_any be; obtain ⟨_, _⟩ := q_; have q_ := rg_any y5; obtain ⟨_, _⟩ := q_; have q_ := rg_any y6; obtain ⟨_, _⟩ := q_; omega) r_y1 (rg_w r35 (by decide) (by decide)) hI1 hK1 hw hS (lv_sub hl [1, 2, 3, 4, 5, 6, 7, 0] rfl)
  have ih0 := LL 100000
  have hK0 : Kp v v := Kp.rf v
  refine lv_iload_n hx hb d_X2_leastHours_0 rfl (lv_at hl 1 rfl) ?_
  refine lv_if_gt (tgt := 10) hx hb d_X2_leastHours_1 (by decide) (fun c37 => ?_) (fun c37 => ?_)
  · have f38 := i_lt c37
    have r39 : Rg up 1 2 := by obtain ⟨a1, a2⟩ := r_up; obtain ⟨b1, b2⟩ := (⟨by decide, by decide⟩ : Rg 0 0 0); have f := i_lt c37; exact ⟨by omega, by omega⟩
    refine lv_aload_n hx hb d_X2_leastHours_10 rfl (lv_at hl 0 rfl) ?_
    refine lv_iload_n hx hb d_X2_leastHours_11 rfl (lv_at hl 1 rfl) ?_
    refine lv_iconst (v := 1) hx hb d_X2_leastHours_12 (by decide) ?_
    refine lv_isub hx hb d_X2_leastHours_13 ?_
    refine lv_topi (fun x40 ex40 => ?_)
    have r41 : Rg x40 0 1 := rg_sub ex40 r39 (⟨by decide, by decide⟩ : Rg 1 1 1) (by decide) (by decide)
    have s42 : x40.toInt = up.toInt - (1 : Int32).toInt := by rw [ex40]; exact i_sub (by obtain ⟨_, _⟩ := r39; obtain ⟨_, _⟩ := (⟨by decide, by decide⟩ : Rg 1 1 1); omega) (by obtain ⟨_, _⟩ := r39; obtain ⟨_, _⟩ := (⟨by decide, by decide⟩ : Rg 1 1 1); omega)
    have s42l : (1 : Int32).toInt = 1 := rfl
    refine r_iald X hw (rfl : KD 41 = _) (Rg.vp (b := 1) r41 (by decide)) rfl d_X2_leastHours_14 ?_
    refine lv_topi (fun x43 ex43 => ?_)
    refine lv_istore (lv' := [(5, .int x43), (0, .ref (ad 41)), (1, .int up), (2, .ref (ad 42)), (3, .int gg), (4, .int be)]) hx hb d_X2_leastHours_15 hl (by decide) rfl (fun ls hl => ?_)
    refine lv_iload hx hb d_X2_leastHours_17 (lv_at hl 5 rfl) ?_
    refine lv_istore (lv' := [(6, .int be), (5, .int x43), (0, .ref (ad 41)), (1, .int up), (2, .ref (ad 42)), (3, .int gg), (4, .int be)]) hx hb d_X2_leastHours_19 hl (by decide) rfl (fun ls hl => ?_)
    refine lv_iconst (v := 0) hx hb d_X2_leastHours_21 (by decide) ?_
    refine lv_istore (lv' := [(7, .int 0), (6, .int be), (5, .int x43), (0, .ref (ad 41)), (1, .int up), (2, .ref (ad 42)), (3, .int gg), (4, .int be)]) hx hb d_X2_leastHours_22 hl (by decide) rfl (fun ls hl => ?_)
    exact ih0 x43 be 0 v _ _ _ (by have q_ := r39; obtain ⟨_, _⟩ := q_; have q_ := r_gg; obtain ⟨_, _⟩ := q_; have q_ := r41; obtain ⟨_, _⟩ := q_; have q_ := rg_any be; obtain ⟨_, _⟩ := q_; have q_ := rg_any x43; obtain ⟨_, _⟩ := q_; have q_ := rg_any be; obtain ⟨_, _⟩ := q_; have q_ : (0 : Int32).toInt = 0 := rfl; omega) r39 (rg_w (⟨by decide, by decide⟩ : Rg 0 0 0) (by decide) (by decide)) hI hK0 hw hS (lv_sub hl [3, 4, 5, 6, 7, 2, 1, 0] rfl)
  · have f44 := i_nlt c37
    have r45 : Rg up 0 0 := by obtain ⟨a1, a2⟩ := r_up; obtain ⟨b1, b2⟩ := (⟨by decide, by decide⟩ : Rg 0 0 0); have f := i_nlt c37; exact ⟨by omega, by omega⟩
    refine lv_aload_n hx hb d_X2_leastHours_4 rfl (lv_at hl 2 rfl) ?_
    refine lv_iload_n hx hb d_X2_leastHours_5 rfl (lv_at hl 3 rfl) ?_
    refine r_ci (r_runS (n := 2) (As := [.ref (ad 42), .int gg]) (rest := []) X hw (ct_X2_longest_42 l D dA ad v hI gg r_gg) gc_X2_44 (by decide +kernel) ⟨rfl, rfl, Nat.le_of_ble_eq_true rfl, Nat.le_of_ble_eq_true rfl⟩ rfl hl.1 rfl (Nat.le_of_ble_eq_true rfl) ⟨Nat.zero_le _, Nat.zero_le _⟩ d_X2_leastHours_6) hS (fun x47 v48 H locs hp46 hw hS => ?_)
    rw [hp46] at hw
    exact r_iret X hr hlocks hw hS ⟨hI, hK0⟩ d_X2_leastHours_9
set_option maxHeartbeats 4000000 in
set_option maxRecDepth 100000 in
theorem ct_X2_leastHours_3 (l : Launch) (D : va_G) (dA : Nat → ClassId) (ad : Nat → Nat) (v : tV) (hI : Inv v) (up : Int32) (gg : Int32) (be : Int32) (r_up : Rg up 0 3) (r_gg : Rg gg 1 3) : Met l m_X2_leastHours [.code m_X2_leastHours c_X2_leastHours 8 (some .int)] ({ frames := 5, cells := 0, slots := 0, locals := 144 } : Room) (tP D dA ad v [.ref (ad 41), .int up, .ref (ad 42), .int gg, .int be]) (tQi D dA ad (fun r v' => Inv v' ∧ Kp v v')) 0 0 (tA ad) := by
  refine tMet (by decide) (Nat.le_of_ble_eq_true rfl) ?_
  intro p e s m below meth c ls X hr hlocks hw hl
  have X : CX p s m ([.ref (ad 41), .int up, .ref (ad 42), .int gg, .int be] : List Value).toArray c c_X2_leastHours N_X2 8 D dA := X
  have hx := X.1
  have hb := X.2.1
  have hS : va_S (tA ad) s.heap s.heap [] := va_S.rf
  have hl : lv_has ls 8 [(0, .ref (ad 41)), (1, .int up), (2, .ref (ad 42)), (3, .int gg), (4, .int be)] := hl
  have LL : ∀ n : Nat, (∀ (y5 : Int32) (y6 : Int32) (y7 : Int32) (v1 : tV) (H : Heap) (locs : List Loc) (ls : Array Slot), (3 - y7.toInt).toNat < n → Rg up 1 3 → Rg y7 0 3 → Inv v1 → Kp v v1 → tI D dA ad v1 H → va_S (tA ad) s.heap H locs → lv_has ls 8 [(0, .ref (ad 41)), (1, .int up), (2, .ref (ad 42)), (3, .int gg), (4, .int be), (5, .int y5), (6, .int y6), (7, .int y7)] → W p l e ({ frames := 5, cells := 0, slots := 0, locals := 144 } : Room) s m ([.ref (ad 41), .int up, .ref (ad 42), .int gg, .int be] : List Value).toArray below meth c H locs 0 0 (MQ below (tQi D dA ad (fun r v' => Inv v' ∧ Kp v v')) ([.ref (ad 41), .int up, .ref (ad 42), .int gg, .int be] : List Value).toArray s 0 0 (tA ad)) (F0 m 24 ls [])) := by
    intro n
    induction n with
    | zero => intros; omega
    | succ n ih =>
      have ih0 := ih
      intro y5 y6 y7 v1 H locs ls hmu r_y1 r_y7 hI1 hK1 hw hS hl
      refine lv_iload hx hb d_X2_leastHours_24 (lv_at hl 7 rfl) ?_
      refine lv_iload_n hx hb d_X2_leastHours_26 rfl (lv_at hl 3 rfl) ?_
      refine lv_icmp_ge (tgt := 87) hx hb d_X2_leastHours_27 (by decide) (fun c1 => ?_) (fun c1 => ?_)
      · have f2 := i_le c1
        have r3 : Rg y7 1 3 := by obtain ⟨a1, a2⟩ := r_y7; obtain ⟨b1, b2⟩ := r_gg; have f := i_le c1; exact ⟨by omega, by omega⟩
        refine lv_iload hx hb d_X2_leastHours_87 (lv_at hl 6 rfl) ?_
        exact r_iret X hr hlocks hw hS ⟨hI1, hK1⟩ d_X2_leastHours_89
      · have f4 := i_nle c1
        have r5 : Rg y7 0 2 := by obtain ⟨a1, a2⟩ := r_y7; obtain ⟨b1, b2⟩ := r_gg; have f := i_nle c1; exact ⟨by omega, by omega⟩
        refine lv_aload_n hx hb d_X2_leastHours_30 rfl (lv_at hl 2 rfl) ?_
        refine lv_iload hx hb d_X2_leastHours_31 (lv_at hl 7 rfl) ?_
        refine r_iald X hw (rfl : KD 42 = _) (Rg.vp (b := 2) r5 (by decide)) rfl d_X2_leastHours_33 ?_
        refine lv_topi (fun x6 ex6 => ?_)
        refine lv_iload hx hb d_X2_leastHours_34 (lv_at hl 5 rfl) ?_
        refine lv_iadd hx hb d_X2_leastHours_36 ?_
        refine lv_topi (fun x7 ex7 => ?_)
        refine lv_iload hx hb d_X2_leastHours_37 (lv_at hl 6 rfl) ?_
        refine lv_icmp_lt (tgt := 45) hx hb d_X2_leastHours_39 (by decide) (fun c8 => ?_) (fun c8 => ?_)
        · have f9 := i_lt c8
          refine lv_aload_n hx hb d_X2_leastHours_45 rfl (lv_at hl 2 rfl) ?_
          refine lv_iload hx hb d_X2_leastHours_46 (lv_at hl 7 rfl) ?_
          refine lv_dup2_11 hx hb d_X2_leastHours_48 rfl rfl ?_
          refine r_iald X hw (rfl : KD 42 = _) (Rg.vp (b := 2) r5 (by decide)) rfl d_X2_leastHours_49 ?_
          refine lv_topi (fun x10 ex10 => ?_)
          refine lv_iload hx hb d_X2_leastHours_50 (lv_at hl 5 rfl) ?_
          refine lv_iadd hx hb d_X2_leastHours_52 ?_
          refine lv_topi (fun x11 ex11 => ?_)
          refine r_iast X hw hS (rfl : KD 42 = _) (Rg.vp (b := 2) r5 (by decide)) rfl d_X2_leastHours_53 (fun H locs hw hS => ?_)
          obtain ⟨v12, ev12⟩ : ∃ z, z = up2 v1 42 y7.toNatClampNeg x11 := ⟨_, rfl⟩
          rw [← ev12] at hw
          have hI13 : Inv v12 := by rw [ev12]; exact Inv.put0 hI1 _ rfl
          have hK14 : Kp v v12 := by rw [ev12]; exact Kp.put hK1 _ rfl
          refine lv_iload hx hb d_X2_leastHours_54 (lv_at hl 6 rfl) ?_
          refine lv_aload_n hx hb d_X2_leastHours_56 rfl (lv_at hl 0 rfl) ?_
          refine lv_iload_n hx hb d_X2_leastHours_57 rfl (lv_at hl 1 rfl) ?_
          refine lv_iconst (v := 1) hx hb d_X2_leastHours_58 (by decide) ?_
          refine lv_isub hx hb d_X2_leastHours_59 ?_
          refine lv_topi (fun x15 ex15 => ?_)
          have r16 : Rg x15 0 2 := rg_sub ex15 r_y1 (⟨by decide, by decide⟩ : Rg 1 1 1) (by decide) (by decide)
          have s17 : x15.toInt = up.toInt - (1 : Int32).toInt := by rw [ex15]; exact i_sub (by obtain ⟨_, _⟩ := r_y1; obtain ⟨_, _⟩ := (⟨by decide, by decide⟩ : Rg 1 1 1); omega) (by obtain ⟨_, _⟩ := r_y1; obtain ⟨_, _⟩ := (⟨by decide, by decide⟩ : Rg 1 1 1); omega)
          have s17l : (1 : Int32).toInt = 1 := rfl
          refine lv_aload_n hx hb d_X2_leastHours_60 rfl (lv_at hl 2 rfl) ?_
          refine lv_iload_n hx hb d_X2_leastHours_61 rfl (lv_at hl 3 rfl) ?_
          refine lv_iload hx hb d_X2_leastHours_62 (lv_at hl 6 rfl) ?_
          refine r_ci (r_runS (n := 5) (As := [.ref (ad 41), .int x15, .ref (ad 42), .int gg, .int y6]) (rest := [.int y6]) X hw (ct_X2_leastHours_2 l D dA ad v12 hI13 x15 gg y6 r16 r_gg) gc_X2_28 (by decide +kernel) ⟨rfl, rfl, Nat.le_of_ble_eq_true rfl, Nat.le_of_ble_eq_true rfl⟩ rfl hl.1 rfl (Nat.le_of_ble_eq_true rfl) ⟨Nat.zero_le _, Nat.zero_le _⟩ d_X2_leastHours_64) hS (fun x19 v20 H locs hp18 hw hS => ?_)
          obtain ⟨hI21, hK22⟩ := hp18
          have hK23 : Kp v v20 := Kp.tr hK14 hK22
          refine va_mmin hx hb (X.2.2.1.trans hl.1.symm) X.2.2.2.1 (X.2.2.2.2.1 _ ml_X2_48) (X.2.2.2.2.1 _ ml_mins) (X.2.2.2.2.1 _ ml_mi) (X.2.2.2.2.1 _ ml_minc) (Nat.le_of_ble_eq_true rfl) (Nat.le_of_ble_eq_true rfl) (Nat.zero_le _) (Nat.zero_le _) d_X2_leastHours_67 ?_
          refine lv_topi (fun x24 ex24 => ?_)
          refine lv_istore (lv' := [(6, .int x24), (0, .ref (ad 41)), (1, .int up), (2, .ref (ad 42)), (3, .int gg), (4, .int be), (5, .int y5), (7, .int y7)]) hx hb d_X2_leastHours_70 hl (by decide) rfl (fun ls hl => ?_)
          refine lv_aload_n hx hb d_X2_leastHours_72 rfl (lv_at hl 3 rfl) ?_
          refine lv_iload hx hb d_X2_leastHours_73 (lv_at hl 7 rfl) ?_
          refine lv_dup2_11 hx hb d_X2_leastHours_75 rfl rfl ?_
          refine r_iald X hw (rfl : KD 42 = _) (Rg.vp (b := 2) r5 (by decide)) rfl d_X2_leastHours_76 ?_
          refine lv_topi (fun x25 ex25 => ?_)
          refine lv_iload hx hb d_X2_leastHours_77 (lv_at hl 6 rfl) ?_
          refine lv_isub hx hb d_X2_leastHours_79 ?_
          refine lv_topi (fun x26 ex26 => ?_)
          refine r_iast X hw hS (rfl : KD 42 = _) (Rg.vp (b := 2) r5 (by decide)) rfl d_X2_leastHours_80 (fun H locs hw hS => ?_)
          obtain ⟨v27, ev27⟩ : ∃ z, z = up2 v20 42 y7.toNatClampNeg x26 := ⟨_, rfl⟩
          rw [← ev27] at hw
          have hI28 : Inv v27 := by rw [ev27]; exact Inv.put0 hI21 _ rfl
          have hK29 : Kp v v27 := by rw [ev27]; exact Kp.put hK23 _ rfl
          obtain ⟨x30, ex30⟩ : ∃ y : Int32, y = y7 + 1 := ⟨_, rfl⟩
          refine lv_iinc (v := x30) (lv' := [(7, .int x30), (6, .int x24), (0, .ref (ad 41)), (1, .int up), (2, .ref (ad 42)), (3, .int gg), (4, .int be), (5, .int y5)]) hx hb d_X2_leastHours_81 hl (k := 7) rfl (by rw [ex30]; rfl) (by decide) rfl (fun ls hl => ?_)
          have r31 : Rg x30 1 3 := rg_add ex30 r5 (⟨by decide, by decide⟩ : Rg 1 1 1) (by decide) (by decide)
          have s32 : x30.toInt = y7.toInt + (1 : Int32).toInt := by rw [ex30]; exact i_add (by obtain ⟨_, _⟩ := r5; obtain ⟨_, _⟩ := (⟨by decide, by decide⟩ : Rg 1 1 1); omega) (by obtain ⟨_, _⟩ := r5; obtain ⟨_, _⟩ := (⟨by decide, by decide⟩ : Rg 1 1 1); omega)
          have s32l : (1 : Int32).toInt = 1 := rfl
          refine lv_goto (tgt := 24) hx hb d_X2_leastHours_84 (by decide) ?_
          exact ih0 y5 x24 x30 v27 _ _ _ (by have q_ := r_y1; obtain ⟨_, _⟩ := q_; have q_ := r_gg; obtain ⟨_, _⟩ := q_; have q_ := r5; obtain ⟨_, _⟩ := q_; have q_ := r16; obtain ⟨_, _⟩ := q_; have q_ := r31; obtain ⟨_, _⟩ := q_; have q_ := rg_any be; obtain ⟨_, _⟩ := q_; have q_ := rg_any y5; obtain ⟨_, _⟩ := q_; have q_ := rg_any x24; obtain ⟨_, _⟩ := q_; omega) r_y1 (rg_w r31 (by decide) (by decide)) hI28 hK29 hw hS (lv_sub hl [2, 3, 4, 5, 6, 7, 1, 0] rfl)
        · have f33 := i_nlt c8
          refine lv_goto (tgt := 81) hx hb d_X2_leastHours_42 (by decide) ?_
          obtain ⟨x34, ex34⟩ : ∃ y : Int32, y = y7 + 1 := ⟨_, rfl⟩
          refine lv_iinc (v := x34) (lv' := [(7, .int x34), (0, .ref (ad 41)), (1, .int up), (2, .ref (ad 42)), (3, .int gg), (4, .int be), (5, .int y5), (6, .int y6)]) hx hb d_X2_leastHours_81 hl (k := 7) rfl (by rw [ex34]; rfl) (by decide) rfl (fun ls hl => ?_)
          have r35 : Rg x34 1 3 := rg_add ex34 r5 (⟨by decide, by decide⟩ : Rg 1 1 1) (by decide) (by decide)
          have s36 : x34.toInt = y7.toInt + (1 : Int32).toInt := by rw [ex34]; exact i_add (by obtain ⟨_, _⟩ := r5; obtain ⟨_, _⟩ := (⟨by decide, by decide⟩ : Rg 1 1 1); omega) (by obtain ⟨_, _⟩ := r5; obtain ⟨_, _⟩ := (⟨by decide, by decide⟩ : Rg 1 1 1); omega)
          have s36l : (1 : Int32).toInt = 1 := rfl
          refine lv_goto (tgt := 24) hx hb d_X2_leastHours_84 (by decide) ?_
          exact ih0 y5 y6 x34 v1 _ _ _ (by have q_ := r_y1; obtain ⟨_, _⟩ := q_; have q_ := r_gg; obtain ⟨_, _⟩ := q_; have q_ := r5; obtain ⟨_, _⟩ := q_; have q_ := r35; obtain ⟨_, _⟩ := q_; have q_ := rg_any be; obtain ⟨_, _⟩ := q_; have q_ := rg_any y5; obtain ⟨_, _⟩ := q_; have q_ := rg_any y6; obtain ⟨_, _⟩ := q_; omega) r_y1 (rg_w r35 (by decide) (by decide)) hI1 hK1 hw hS (lv_sub hl [1, 2, 3, 4, 5, 6, 7, 0] rfl)
  have ih0 := LL 100000
  have hK0 : Kp v v := Kp.rf v
  refine lv_iload_n hx hb d_X2_leastHours_0 rfl (lv_at hl 1 rfl) ?_
  refine lv_if_gt (tgt := 10) hx hb d_X2_leastHours_1 (by decide) (fun c37 => ?_) (fun c37 => ?_)
  · have f38 := i_lt c37
    have r39 : Rg up 1 3 := by obtain ⟨a1, a2⟩ := r_up; obtain ⟨b1, b2⟩ := (⟨by decide, by decide⟩ : Rg 0 0 0); have f := i_lt c37; exact ⟨by omega, by omega⟩
    refine lv_aload_n hx hb d_X2_leastHours_10 rfl (lv_at hl 0 rfl) ?_
    refine lv_iload_n hx hb d_X2_leastHours_11 rfl (lv_at hl 1 rfl) ?_
    refine lv_iconst (v := 1) hx hb d_X2_leastHours_12 (by decide) ?_
    refine lv_isub hx hb d_X2_leastHours_13 ?_
    refine lv_topi (fun x40 ex40 => ?_)
    have r41 : Rg x40 0 2 := rg_sub ex40 r39 (⟨by decide, by decide⟩ : Rg 1 1 1) (by decide) (by decide)
    have s42 : x40.toInt = up.toInt - (1 : Int32).toInt := by rw [ex40]; exact i_sub (by obtain ⟨_, _⟩ := r39; obtain ⟨_, _⟩ := (⟨by decide, by decide⟩ : Rg 1 1 1); omega) (by obtain ⟨_, _⟩ := r39; obtain ⟨_, _⟩ := (⟨by decide, by decide⟩ : Rg 1 1 1); omega)
    have s42l : (1 : Int32).toInt = 1 := rfl
    refine r_iald X hw (rfl : KD 41 = _) (Rg.vp (b := 2) r41 (by decide)) rfl d_X2_leastHours_14 ?_
    refine lv_topi (fun x43 ex43 => ?_)
    refine lv_istore (lv' := [(5, .int x43), (0, .ref (ad 41)), (1, .int up), (2, .ref (ad 42)), (3, .int gg), (4, .int be)]) hx hb d_X2_leastHours_15 hl (by decide) rfl (fun ls hl => ?_)
    refine lv_iload hx hb d_X2_leastHours_17 (lv_at hl 5 rfl) ?_
    refine lv_istore (lv' := [(6, .int be), (5, .int x43), (0, .ref (ad 41)), (1, .int up), (2, .ref (ad 42)), (3, .int gg), (4, .int be)]) hx hb d_X2_leastHours_19 hl (by decide) rfl (fun ls hl => ?_)
    refine lv_iconst (v := 0) hx hb d_X2_leastHours_21 (by decide) ?_
    refine lv_istore (lv' := [(7, .int 0), (6, .int be), (5, .int x43), (0, .ref (ad 41)), (1, .int up), (2, .ref (ad 42)), (3, .int gg), (4, .int be)]) hx hb d_X2_leastHours_22 hl (by decide) rfl (fun ls hl => ?_)
    exact ih0 x43 be 0 v _ _ _ (by have q_ := r39; obtain ⟨_, _⟩ := q_; have q_ := r_gg; obtain ⟨_, _⟩ := q_; have q_ := r41; obtain ⟨_, _⟩ := q_; have q_ := rg_any be; obtain ⟨_, _⟩ := q_; have q_ := rg_any x43; obtain ⟨_, _⟩ := q_; have q_ := rg_any be; obtain ⟨_, _⟩ := q_; have q_ : (0 : Int32).toInt = 0 := rfl; omega) r39 (rg_w (⟨by decide, by decide⟩ : Rg 0 0 0) (by decide) (by decide)) hI hK0 hw hS (lv_sub hl [3, 4, 5, 6, 7, 2, 1, 0] rfl)
  · have f44 := i_nlt c37
    have r45 : Rg up 0 0 := by obtain ⟨a1, a2⟩ := r_up; obtain ⟨b1, b2⟩ := (⟨by decide, by decide⟩ : Rg 0 0 0); have f := i_nlt c37; exact ⟨by omega, by omega⟩
    refine lv_aload_n hx hb d_X2_leastHours_4 rfl (lv_at hl 2 rfl) ?_
    refine lv_iload_n hx hb d_X2_leastHours_5 rfl (lv_at hl 3 rfl) ?_
    refine r_ci (r_runS (n := 2) (As := [.ref (ad 42), .int gg]) (rest := []) X hw (ct_X2_longest_42 l D dA ad v hI gg r_gg) gc_X2_44 (by decide +kernel) ⟨rfl, rfl, Nat.le_of_ble_eq_true rfl, Nat.le_of_ble_eq_true rfl⟩ rfl hl.1 rfl (Nat.le_of_ble_eq_true rfl) ⟨Nat.zero_le _, Nat.zero_le _⟩ d_X2_leastHours_6) hS (fun x47 v48 H locs hp46 hw hS => ?_)
    rw [hp46] at hw
    exact r_iret X hr hlocks hw hS ⟨hI, hK0⟩ d_X2_leastHours_9
set_option maxHeartbeats 4000000 in
set_option maxRecDepth 100000 in
theorem ct_X2_leastHours_4 (l : Launch) (D : va_G) (dA : Nat → ClassId) (ad : Nat → Nat) (v : tV) (hI : Inv v) (up : Int32) (gg : Int32) (be : Int32) (r_up : Rg up 0 4) (r_gg : Rg gg 1 3) : Met l m_X2_leastHours [.code m_X2_leastHours c_X2_leastHours 8 (some .int)] ({ frames := 6, cells := 0, slots := 0, locals := 171 } : Room) (tP D dA ad v [.ref (ad 41), .int up, .ref (ad 42), .int gg, .int be]) (tQi D dA ad (fun r v' => Inv v' ∧ Kp v v')) 0 0 (tA ad) := by
  refine tMet (by decide) (Nat.le_of_ble_eq_true rfl) ?_
  intro p e s m below meth c ls X hr hlocks hw hl
  have X : CX p s m ([.ref (ad 41), .int up, .ref (ad 42), .int gg, .int be] : List Value).toArray c c_X2_leastHours N_X2 8 D dA := X
  have hx := X.1
  have hb := X.2.1
  have hS : va_S (tA ad) s.heap s.heap [] := va_S.rf
  have hl : lv_has ls 8 [(0, .ref (ad 41)), (1, .int up), (2, .ref (ad 42)), (3, .int gg), (4, .int be)] := hl
  have LL : ∀ n : Nat, (∀ (y5 : Int32) (y6 : Int32) (y7 : Int32) (v1 : tV) (H : Heap) (locs : List Loc) (ls : Array Slot), (3 - y7.toInt).toNat < n → Rg up 1 4 → Rg y7 0 3 → Inv v1 → Kp v v1 → tI D dA ad v1 H → va_S (tA ad) s.heap H locs → lv_has ls 8 [(0, .ref (ad 41)), (1, .int up), (2, .ref (ad 42)), (3, .int gg), (4, .int be), (5, .int y5), (6, .int y6), (7, .int y7)] → W p l e ({ frames := 6, cells := 0, slots := 0, locals := 171 } : Room) s m ([.ref (ad 41), .int up, .ref (ad 42), .int gg, .int be] : List Value).toArray below meth c H locs 0 0 (MQ below (tQi D dA ad (fun r v' => Inv v' ∧ Kp v v')) ([.ref (ad 41), .int up, .ref (ad 42), .int gg, .int be] : List Value).toArray s 0 0 (tA ad)) (F0 m 24 ls [])) := by
    intro n
    induction n with
    | zero => intros; omega
    | succ n ih =>
      have ih0 := ih
      intro y5 y6 y7 v1 H locs ls hmu r_y1 r_y7 hI1 hK1 hw hS hl
      refine lv_iload hx hb d_X2_leastHours_24 (lv_at hl 7 rfl) ?_
      refine lv_iload_n hx hb d_X2_leastHours_26 rfl (lv_at hl 3 rfl) ?_
      refine lv_icmp_ge (tgt := 87) hx hb d_X2_leastHours_27 (by decide) (fun c1 => ?_) (fun c1 => ?_)
      · have f2 := i_le c1
        have r3 : Rg y7 1 3 := by obtain ⟨a1, a2⟩ := r_y7; obtain ⟨b1, b2⟩ := r_gg; have f := i_le c1; exact ⟨by omega, by omega⟩
        refine lv_iload hx hb d_X2_leastHours_87 (lv_at hl 6 rfl) ?_
        exact r_iret X hr hlocks hw hS ⟨hI1, hK1⟩ d_X2_leastHours_89
      · have f4 := i_nle c1
        have r5 : Rg y7 0 2 := by obtain ⟨a1, a2⟩ := r_y7; obtain ⟨b1, b2⟩ := r_gg; have f := i_nle c1; exact ⟨by omega, by omega⟩
        refine lv_aload_n hx hb d_X2_leastHours_30 rfl (lv_at hl 2 rfl) ?_
        refine lv_iload hx hb d_X2_leastHours_31 (lv_at hl 7 rfl) ?_
        refine r_iald X hw (rfl : KD 42 = _) (Rg.vp (b := 2) r5 (by decide)) rfl d_X2_leastHours_33 ?_
        refine lv_topi (fun x6 ex6 => ?_)
        refine lv_iload hx hb d_X2_leastHours_34 (lv_at hl 5 rfl) ?_
        refine lv_iadd hx hb d_X2_leastHours_36 ?_
        refine lv_topi (fun x7 ex7 => ?_)
        refine lv_iload hx hb d_X2_leastHours_37 (lv_at hl 6 rfl) ?_
        refine lv_icmp_lt (tgt := 45) hx hb d_X2_leastHours_39 (by decide) (fun c8 => ?_) (fun c8 => ?_)
        · have f9 := i_lt c8
          refine lv_aload_n hx hb d_X2_leastHours_45 rfl (lv_at hl 2 rfl) ?_
          refine lv_iload hx hb d_X2_leastHours_46 (lv_at hl 7 rfl) ?_
          refine lv_dup2_11 hx hb d_X2_leastHours_48 rfl rfl ?_
          refine r_iald X hw (rfl : KD 42 = _) (Rg.vp (b := 2) r5 (by decide)) rfl d_X2_leastHours_49 ?_
          refine lv_topi (fun x10 ex10 => ?_)
          refine lv_iload hx hb d_X2_leastHours_50 (lv_at hl 5 rfl) ?_
          refine lv_iadd hx hb d_X2_leastHours_52 ?_
          refine lv_topi (fun x11 ex11 => ?_)
          refine r_iast X hw hS (rfl : KD 42 = _) (Rg.vp (b := 2) r5 (by decide)) rfl d_X2_leastHours_53 (fun H locs hw hS => ?_)
          obtain ⟨v12, ev12⟩ : ∃ z, z = up2 v1 42 y7.toNatClampNeg x11 := ⟨_, rfl⟩
          rw [← ev12] at hw
          have hI13 : Inv v12 := by rw [ev12]; exact Inv.put0 hI1 _ rfl
          have hK14 : Kp v v12 := by rw [ev12]; exact Kp.put hK1 _ rfl
          refine lv_iload hx hb d_X2_leastHours_54 (lv_at hl 6 rfl) ?_
          refine lv_aload_n hx hb d_X2_leastHours_56 rfl (lv_at hl 0 rfl) ?_
          refine lv_iload_n hx hb d_X2_leastHours_57 rfl (lv_at hl 1 rfl) ?_
          refine lv_iconst (v := 1) hx hb d_X2_leastHours_58 (by decide) ?_
          refine lv_isub hx hb d_X2_leastHours_59 ?_
          refine lv_topi (fun x15 ex15 => ?_)
          have r16 : Rg x15 0 3 := rg_sub ex15 r_y1 (⟨by decide, by decide⟩ : Rg 1 1 1) (by decide) (by decide)
          have s17 : x15.toInt = up.toInt - (1 : Int32).toInt := by rw [ex15]; exact i_sub (by obtain ⟨_, _⟩ := r_y1; obtain ⟨_, _⟩ := (⟨by decide, by decide⟩ : Rg 1 1 1); omega) (by obtain ⟨_, _⟩ := r_y1; obtain ⟨_, _⟩ := (⟨by decide, by decide⟩ : Rg 1 1 1); omega)
          have s17l : (1 : Int32).toInt = 1 := rfl
          refine lv_aload_n hx hb d_X2_leastHours_60 rfl (lv_at hl 2 rfl) ?_
          refine lv_iload_n hx hb d_X2_leastHours_61 rfl (lv_at hl 3 rfl) ?_
          refine lv_iload hx hb d_X2_leastHours_62 (lv_at hl 6 rfl) ?_
          refine r_ci (r_runS (n := 5) (As := [.ref (ad 41), .int x15, .ref (ad 42), .int gg, .int y6]) (rest := [.int y6]) X hw (ct_X2_leastHours_3 l D dA ad v12 hI13 x15 gg y6 r16 r_gg) gc_X2_28 (by decide +kernel) ⟨rfl, rfl, Nat.le_of_ble_eq_true rfl, Nat.le_of_ble_eq_true rfl⟩ rfl hl.1 rfl (Nat.le_of_ble_eq_true rfl) ⟨Nat.zero_le _, Nat.zero_le _⟩ d_X2_leastHours_64) hS (fun x19 v20 H locs hp18 hw hS => ?_)
          obtain ⟨hI21, hK22⟩ := hp18
          have hK23 : Kp v v20 := Kp.tr hK14 hK22
          refine va_mmin hx hb (X.2.2.1.trans hl.1.symm) X.2.2.2.1 (X.2.2.2.2.1 _ ml_X2_48) (X.2.2.2.2.1 _ ml_mins) (X.2.2.2.2.1 _ ml_mi) (X.2.2.2.2.1 _ ml_minc) (Nat.le_of_ble_eq_true rfl) (Nat.le_of_ble_eq_true rfl) (Nat.zero_le _) (Nat.zero_le _) d_X2_leastHours_67 ?_
          refine lv_topi (fun x24 ex24 => ?_)
          refine lv_istore (lv' := [(6, .int x24), (0, .ref (ad 41)), (1, .int up), (2, .ref (ad 42)), (3, .int gg), (4, .int be), (5, .int y5), (7, .int y7)]) hx hb d_X2_leastHours_70 hl (by decide) rfl (fun ls hl => ?_)
          refine lv_aload_n hx hb d_X2_leastHours_72 rfl (lv_at hl 3 rfl) ?_
          refine lv_iload hx hb d_X2_leastHours_73 (lv_at hl 7 rfl) ?_
          refine lv_dup2_11 hx hb d_X2_leastHours_75 rfl rfl ?_
          refine r_iald X hw (rfl : KD 42 = _) (Rg.vp (b := 2) r5 (by decide)) rfl d_X2_leastHours_76 ?_
          refine lv_topi (fun x25 ex25 => ?_)
          refine lv_iload hx hb d_X2_leastHours_77 (lv_at hl 6 rfl) ?_
          refine lv_isub hx hb d_X2_leastHours_79 ?_
          refine lv_topi (fun x26 ex26 => ?_)
          refine r_iast X hw hS (rfl : KD 42 = _) (Rg.vp (b := 2) r5 (by decide)) rfl d_X2_leastHours_80 (fun H locs hw hS => ?_)
          obtain ⟨v27, ev27⟩ : ∃ z, z = up2 v20 42 y7.toNatClampNeg x26 := ⟨_, rfl⟩
          rw [← ev27] at hw
          have hI28 : Inv v27 := by rw [ev27]; exact Inv.put0 hI21 _ rfl
          have hK29 : Kp v v27 := by rw [ev27]; exact Kp.put hK23 _ rfl
          obtain ⟨x30, ex30⟩ : ∃ y : Int32, y = y7 + 1 := ⟨_, rfl⟩
          refine lv_iinc (v := x30) (lv' := [(7, .int x30), (6, .int x24), (0, .ref (ad 41)), (1, .int up), (2, .ref (ad 42)), (3, .int gg), (4, .int be), (5, .int y5)]) hx hb d_X2_leastHours_81 hl (k := 7) rfl (by rw [ex30]; rfl) (by decide) rfl (fun ls hl => ?_)
          have r31 : Rg x30 1 3 := rg_add ex30 r5 (⟨by decide, by decide⟩ : Rg 1 1 1) (by decide) (by decide)
          have s32 : x30.toInt = y7.toInt + (1 : Int32).toInt := by rw [ex30]; exact i_add (by obtain ⟨_, _⟩ := r5; obtain ⟨_, _⟩ := (⟨by decide, by decide⟩ : Rg 1 1 1); omega) (by obtain ⟨_, _⟩ := r5; obtain ⟨_, _⟩ := (⟨by decide, by decide⟩ : Rg 1 1 1); omega)
          have s32l : (1 : Int32).toInt = 1 := rfl
          refine lv_goto (tgt := 24) hx hb d_X2_leastHours_84 (by decide) ?_
          exact ih0 y5 x24 x30 v27 _ _ _ (by have q_ := r_y1; obtain ⟨_, _⟩ := q_; have q_ := r_gg; obtain ⟨_, _⟩ := q_; have q_ := r5; obtain ⟨_, _⟩ := q_; have q_ := r16; obtain ⟨_, _⟩ := q_; have q_ := r31; obtain ⟨_, _⟩ := q_; have q_ := rg_any be; obtain ⟨_, _⟩ := q_; have q_ := rg_any y5; obtain ⟨_, _⟩ := q_; have q_ := rg_any x24; obtain ⟨_, _⟩ := q_; omega) r_y1 (rg_w r31 (by decide) (by decide)) hI28 hK29 hw hS (lv_sub hl [2, 3, 4, 5, 6, 7, 1, 0] rfl)
        · have f33 := i_nlt c8
          refine lv_goto (tgt := 81) hx hb d_X2_leastHours_42 (by decide) ?_
          obtain ⟨x34, ex34⟩ : ∃ y : Int32, y = y7 + 1 := ⟨_, rfl⟩
          refine lv_iinc (v := x34) (lv' := [(7, .int x34), (0, .ref (ad 41)), (1, .int up), (2, .ref (ad 42)), (3, .int gg), (4, .int be), (5, .int y5), (6, .int y6)]) hx hb d_X2_leastHours_81 hl (k := 7) rfl (by rw [ex34]; rfl) (by decide) rfl (fun ls hl => ?_)
          have r35 : Rg x34 1 3 := rg_add ex34 r5 (⟨by decide, by decide⟩ : Rg 1 1 1) (by decide) (by decide)
          have s36 : x34.toInt = y7.toInt + (1 : Int32).toInt := by rw [ex34]; exact i_add (by obtain ⟨_, _⟩ := r5; obtain ⟨_, _⟩ := (⟨by decide, by decide⟩ : Rg 1 1 1); omega) (by obtain ⟨_, _⟩ := r5; obtain ⟨_, _⟩ := (⟨by decide, by decide⟩ : Rg 1 1 1); omega)
          have s36l : (1 : Int32).toInt = 1 := rfl
          refine lv_goto (tgt := 24) hx hb d_X2_leastHours_84 (by decide) ?_
          exact ih0 y5 y6 x34 v1 _ _ _ (by have q_ := r_y1; obtain ⟨_, _⟩ := q_; have q_ := r_gg; obtain ⟨_, _⟩ := q_; have q_ := r5; obtain ⟨_, _⟩ := q_; have q_ := r35; obtain ⟨_, _⟩ := q_; have q_ := rg_any be; obtain ⟨_, _⟩ := q_; have q_ := rg_any y5; obtain ⟨_, _⟩ := q_; have q_ := rg_any y6; obtain ⟨_, _⟩ := q_; omega) r_y1 (rg_w r35 (by decide) (by decide)) hI1 hK1 hw hS (lv_sub hl [1, 2, 3, 4, 5, 6, 7, 0] rfl)
  have ih0 := LL 100000
  have hK0 : Kp v v := Kp.rf v
  refine lv_iload_n hx hb d_X2_leastHours_0 rfl (lv_at hl 1 rfl) ?_
  refine lv_if_gt (tgt := 10) hx hb d_X2_leastHours_1 (by decide) (fun c37 => ?_) (fun c37 => ?_)
  · have f38 := i_lt c37
    have r39 : Rg up 1 4 := by obtain ⟨a1, a2⟩ := r_up; obtain ⟨b1, b2⟩ := (⟨by decide, by decide⟩ : Rg 0 0 0); have f := i_lt c37; exact ⟨by omega, by omega⟩
    refine lv_aload_n hx hb d_X2_leastHours_10 rfl (lv_at hl 0 rfl) ?_
    refine lv_iload_n hx hb d_X2_leastHours_11 rfl (lv_at hl 1 rfl) ?_
    refine lv_iconst (v := 1) hx hb d_X2_leastHours_12 (by decide) ?_
    refine lv_isub hx hb d_X2_leastHours_13 ?_
    refine lv_topi (fun x40 ex40 => ?_)
    have r41 : Rg x40 0 3 := rg_sub ex40 r39 (⟨by decide, by decide⟩ : Rg 1 1 1) (by decide) (by decide)
    have s42 : x40.toInt = up.toInt - (1 : Int32).toInt := by rw [ex40]; exact i_sub (by obtain ⟨_, _⟩ := r39; obtain ⟨_, _⟩ := (⟨by decide, by decide⟩ : Rg 1 1 1); omega) (by obtain ⟨_, _⟩ := r39; obtain ⟨_, _⟩ := (⟨by decide, by decide⟩ : Rg 1 1 1); omega)
    have s42l : (1 : Int32).toInt = 1 := rfl
    refine r_iald X hw (rfl : KD 41 = _) (Rg.vp (b := 3) r41 (by decide)) rfl d_X2_leastHours_14 ?_
    refine lv_topi (fun x43 ex43 => ?_)
    refine lv_istore (lv' := [(5, .int x43), (0, .ref (ad 41)), (1, .int up), (2, .ref (ad 42)), (3, .int gg), (4, .int be)]) hx hb d_X2_leastHours_15 hl (by decide) rfl (fun ls hl => ?_)
    refine lv_iload hx hb d_X2_leastHours_17 (lv_at hl 5 rfl) ?_
    refine lv_istore (lv' := [(6, .int be), (5, .int x43), (0, .ref (ad 41)), (1, .int up), (2, .ref (ad 42)), (3, .int gg), (4, .int be)]) hx hb d_X2_leastHours_19 hl (by decide) rfl (fun ls hl => ?_)
    refine lv_iconst (v := 0) hx hb d_X2_leastHours_21 (by decide) ?_
    refine lv_istore (lv' := [(7, .int 0), (6, .int be), (5, .int x43), (0, .ref (ad 41)), (1, .int up), (2, .ref (ad 42)), (3, .int gg), (4, .int be)]) hx hb d_X2_leastHours_22 hl (by decide) rfl (fun ls hl => ?_)
    exact ih0 x43 be 0 v _ _ _ (by have q_ := r39; obtain ⟨_, _⟩ := q_; have q_ := r_gg; obtain ⟨_, _⟩ := q_; have q_ := r41; obtain ⟨_, _⟩ := q_; have q_ := rg_any be; obtain ⟨_, _⟩ := q_; have q_ := rg_any x43; obtain ⟨_, _⟩ := q_; have q_ := rg_any be; obtain ⟨_, _⟩ := q_; have q_ : (0 : Int32).toInt = 0 := rfl; omega) r39 (rg_w (⟨by decide, by decide⟩ : Rg 0 0 0) (by decide) (by decide)) hI hK0 hw hS (lv_sub hl [3, 4, 5, 6, 7, 2, 1, 0] rfl)
  · have f44 := i_nlt c37
    have r45 : Rg up 0 0 := by obtain ⟨a1, a2⟩ := r_up; obtain ⟨b1, b2⟩ := (⟨by decide, by decide⟩ : Rg 0 0 0); have f := i_nlt c37; exact ⟨by omega, by omega⟩
    refine lv_aload_n hx hb d_X2_leastHours_4 rfl (lv_at hl 2 rfl) ?_
    refine lv_iload_n hx hb d_X2_leastHours_5 rfl (lv_at hl 3 rfl) ?_
    refine r_ci (r_runS (n := 2) (As := [.ref (ad 42), .int gg]) (rest := []) X hw (ct_X2_longest_42 l D dA ad v hI gg r_gg) gc_X2_44 (by decide +kernel) ⟨rfl, rfl, Nat.le_of_ble_eq_true rfl, Nat.le_of_ble_eq_true rfl⟩ rfl hl.1 rfl (Nat.le_of_ble_eq_true rfl) ⟨Nat.zero_le _, Nat.zero_le _⟩ d_X2_leastHours_6) hS (fun x47 v48 H locs hp46 hw hS => ?_)
    rw [hp46] at hw
    exact r_iret X hr hlocks hw hS ⟨hI, hK0⟩ d_X2_leastHours_9
set_option maxHeartbeats 4000000 in
set_option maxRecDepth 100000 in
theorem ct_X2_leastHours_5 (l : Launch) (D : va_G) (dA : Nat → ClassId) (ad : Nat → Nat) (v : tV) (hI : Inv v) (up : Int32) (gg : Int32) (be : Int32) (r_up : Rg up 0 5) (r_gg : Rg gg 1 3) : Met l m_X2_leastHours [.code m_X2_leastHours c_X2_leastHours 8 (some .int)] ({ frames := 7, cells := 0, slots := 0, locals := 198 } : Room) (tP D dA ad v [.ref (ad 41), .int up, .ref (ad 42), .int gg, .int be]) (tQi D dA ad (fun r v' => Inv v' ∧ Kp v v')) 0 0 (tA ad) := by
  refine tMet (by decide) (Nat.le_of_ble_eq_true rfl) ?_
  intro p e s m below meth c ls X hr hlocks hw hl
  have X : CX p s m ([.ref (ad 41), .int up, .ref (ad 42), .int gg, .int be] : List Value).toArray c c_X2_leastHours N_X2 8 D dA := X
  have hx := X.1
  have hb := X.2.1
  have hS : va_S (tA ad) s.heap s.heap [] := va_S.rf
  have hl : lv_has ls 8 [(0, .ref (ad 41)), (1, .int up), (2, .ref (ad 42)), (3, .int gg), (4, .int be)] := hl
  have LL : ∀ n : Nat, (∀ (y5 : Int32) (y6 : Int32) (y7 : Int32) (v1 : tV) (H : Heap) (locs : List Loc) (ls : Array Slot), (3 - y7.toInt).toNat < n → Rg up 1 5 → Rg y7 0 3 → Inv v1 → Kp v v1 → tI D dA ad v1 H → va_S (tA ad) s.heap H locs → lv_has ls 8 [(0, .ref (ad 41)), (1, .int up), (2, .ref (ad 42)), (3, .int gg), (4, .int be), (5, .int y5), (6, .int y6), (7, .int y7)] → W p l e ({ frames := 7, cells := 0, slots := 0, locals := 198 } : Room) s m ([.ref (ad 41), .int up, .ref (ad 42), .int gg, .int be] : List Value).toArray below meth c H locs 0 0 (MQ below (tQi D dA ad (fun r v' => Inv v' ∧ Kp v v')) ([.ref (ad 41), .int up, .ref (ad 42), .int gg, .int be] : List Value).toArray s 0 0 (tA ad)) (F0 m 24 ls [])) := by
    intro n
    induction n with
    | zero => intros; omega
    | succ n ih =>
      have ih0 := ih
      intro y5 y6 y7 v1 H locs ls hmu r_y1 r_y7 hI1 hK1 hw hS hl
      refine lv_iload hx hb d_X2_leastHours_24 (lv_at hl 7 rfl) ?_
      refine lv_iload_n hx hb d_X2_leastHours_26 rfl (lv_at hl 3 rfl) ?_
      refine lv_icmp_ge (tgt := 87) hx hb d_X2_leastHours_27 (by decide) (fun c1 => ?_) (fun c1 => ?_)
      · have f2 := i_le c1
        have r3 : Rg y7 1 3 := by obtain ⟨a1, a2⟩ := r_y7; obtain ⟨b1, b2⟩ := r_gg; have f := i_le c1; exact ⟨by omega, by omega⟩
        refine lv_iload hx hb d_X2_leastHours_87 (lv_at hl 6 rfl) ?_
        exact r_iret X hr hlocks hw hS ⟨hI1, hK1⟩ d_X2_leastHours_89
      · have f4 := i_nle c1
        have r5 : Rg y7 0 2 := by obtain ⟨a1, a2⟩ := r_y7; obtain ⟨b1, b2⟩ := r_gg; have f := i_nle c1; exact ⟨by omega, by omega⟩
        refine lv_aload_n hx hb d_X2_leastHours_30 rfl (lv_at hl 2 rfl) ?_
        refine lv_iload hx hb d_X2_leastHours_31 (lv_at hl 7 rfl) ?_
        refine r_iald X hw (rfl : KD 42 = _) (Rg.vp (b := 2) r5 (by decide)) rfl d_X2_leastHours_33 ?_
        refine lv_topi (fun x6 ex6 => ?_)
        refine lv_iload hx hb d_X2_leastHours_34 (lv_at hl 5 rfl) ?_
        refine lv_iadd hx hb d_X2_leastHours_36 ?_
        refine lv_topi (fun x7 ex7 => ?_)
        refine lv_iload hx hb d_X2_leastHours_37 (lv_at hl 6 rfl) ?_
        refine lv_icmp_lt (tgt := 45) hx hb d_X2_leastHours_39 (by decide) (fun c8 => ?_) (fun c8 => ?_)
        · have f9 := i_lt c8
          refine lv_aload_n hx hb d_X2_leastHours_45 rfl (lv_at hl 2 rfl) ?_
          refine lv_iload hx hb d_X2_leastHours_46 (lv_at hl 7 rfl) ?_
          refine lv_dup2_11 hx hb d_X2_leastHours_48 rfl rfl ?_
          refine r_iald X hw (rfl : KD 42 = _) (Rg.vp (b := 2) r5 (by decide)) rfl d_X2_leastHours_49 ?_
          refine lv_topi (fun x10 ex10 => ?_)
          refine lv_iload hx hb d_X2_leastHours_50 (lv_at hl 5 rfl) ?_
          refine lv_iadd hx hb d_X2_leastHours_52 ?_
          refine lv_topi (fun x11 ex11 => ?_)
          refine r_iast X hw hS (rfl : KD 42 = _) (Rg.vp (b := 2) r5 (by decide)) rfl d_X2_leastHours_53 (fun H locs hw hS => ?_)
          obtain ⟨v12, ev12⟩ : ∃ z, z = up2 v1 42 y7.toNatClampNeg x11 := ⟨_, rfl⟩
          rw [← ev12] at hw
          have hI13 : Inv v12 := by rw [ev12]; exact Inv.put0 hI1 _ rfl
          have hK14 : Kp v v12 := by rw [ev12]; exact Kp.put hK1 _ rfl
          refine lv_iload hx hb d_X2_leastHours_54 (lv_at hl 6 rfl) ?_
          refine lv_aload_n hx hb d_X2_leastHours_56 rfl (lv_at hl 0 rfl) ?_
          refine lv_iload_n hx hb d_X2_leastHours_57 rfl (lv_at hl 1 rfl) ?_
          refine lv_iconst (v := 1) hx hb d_X2_leastHours_58 (by decide) ?_
          refine lv_isub hx hb d_X2_leastHours_59 ?_
          refine lv_topi (fun x15 ex15 => ?_)
          have r16 : Rg x15 0 4 := rg_sub ex15 r_y1 (⟨by decide, by decide⟩ : Rg 1 1 1) (by decide) (by decide)
          have s17 : x15.toInt = up.toInt - (1 : Int32).toInt := by rw [ex15]; exact i_sub (by obtain ⟨_, _⟩ := r_y1; obtain ⟨_, _⟩ := (⟨by decide, by decide⟩ : Rg 1 1 1); omega) (by obtain ⟨_, _⟩ := r_y1; obtain ⟨_, _⟩ := (⟨by decide, by decide⟩ : Rg 1 1 1); omega)
          have s17l : (1 : Int32).toInt = 1 := rfl
          refine lv_aload_n hx hb d_X2_leastHours_60 rfl (lv_at hl 2 rfl) ?_
          refine lv_iload_n hx hb d_X2_leastHours_61 rfl (lv_at hl 3 rfl) ?_
          refine lv_iload hx hb d_X2_leastHours_62 (lv_at hl 6 rfl) ?_
          refine r_ci (r_runS (n := 5) (As := [.ref (ad 41), .int x15, .ref (ad 42), .int gg, .int y6]) (rest := [.int y6]) X hw (ct_X2_leastHours_4 l D dA ad v12 hI13 x15 gg y6 r16 r_gg) gc_X2_28 (by decide +kernel) ⟨rfl, rfl, Nat.le_of_ble_eq_true rfl, Nat.le_of_ble_eq_true rfl⟩ rfl hl.1 rfl (Nat.le_of_ble_eq_true rfl) ⟨Nat.zero_le _, Nat.zero_le _⟩ d_X2_leastHours_64) hS (fun x19 v20 H locs hp18 hw hS => ?_)
          obtain ⟨hI21, hK22⟩ := hp18
          have hK23 : Kp v v20 := Kp.tr hK14 hK22
          refine va_mmin hx hb (X.2.2.1.trans hl.1.symm) X.2.2.2.1 (X.2.2.2.2.1 _ ml_X2_48) (X.2.2.2.2.1 _ ml_mins) (X.2.2.2.2.1 _ ml_mi) (X.2.2.2.2.1 _ ml_minc) (Nat.le_of_ble_eq_true rfl) (Nat.le_of_ble_eq_true rfl) (Nat.zero_le _) (Nat.zero_le _) d_X2_leastHours_67 ?_
          refine lv_topi (fun x24 ex24 => ?_)
          refine lv_istore (lv' := [(6, .int x24), (0, .ref (ad 41)), (1, .int up), (2, .ref (ad 42)), (3, .int gg), (4, .int be), (5, .int y5), (7, .int y7)]) hx hb d_X2_leastHours_70 hl (by decide) rfl (fun ls hl => ?_)
          refine lv_aload_n hx hb d_X2_leastHours_72 rfl (lv_at hl 3 rfl) ?_
          refine lv_iload hx hb d_X2_leastHours_73 (lv_at hl 7 rfl) ?_
          refine lv_dup2_11 hx hb d_X2_leastHours_75 rfl rfl ?_
          refine r_iald X hw (rfl : KD 42 = _) (Rg.vp (b := 2) r5 (by decide)) rfl d_X2_leastHours_76 ?_
          refine lv_topi (fun x25 ex25 => ?_)
          refine lv_iload hx hb d_X2_leastHours_77 (lv_at hl 6 rfl) ?_
          refine lv_isub hx hb d_X2_leastHours_79 ?_
          refine lv_topi (fun x26 ex26 => ?_)
          refine r_iast X hw hS (rfl : KD 42 = _) (Rg.vp (b := 2) r5 (by decide)) rfl d_X2_leastHours_80 (fun H locs hw hS => ?_)
          obtain ⟨v27, ev27⟩ : ∃ z, z = up2 v20 42 y7.toNatClampNeg x26 := ⟨_, rfl⟩
          rw [← ev27] at hw
          have hI28 : Inv v27 := by rw [ev27]; exact Inv.put0 hI21 _ rfl
          have hK29 : Kp v v27 := by rw [ev27]; exact Kp.put hK23 _ rfl
          obtain ⟨x30, ex30⟩ : ∃ y : Int32, y = y7 + 1 := ⟨_, rfl⟩
          refine lv_iinc (v := x30) (lv' := [(7, .int x30), (6, .int x24), (0, .ref (ad 41)), (1, .int up), (2, .ref (ad 42)), (3, .int gg), (4, .int be), (5, .int y5)]) hx hb d_X2_leastHours_81 hl (k := 7) rfl (by rw [ex30]; rfl) (by decide) rfl (fun ls hl => ?_)
          have r31 : Rg x30 1 3 := rg_add ex30 r5 (⟨by decide, by decide⟩ : Rg 1 1 1) (by decide) (by decide)
          have s32 : x30.toInt = y7.toInt + (1 : Int32).toInt := by rw [ex30]; exact i_add (by obtain ⟨_, _⟩ := r5; obtain ⟨_, _⟩ := (⟨by decide, by decide⟩ : Rg 1 1 1); omega) (by obtain ⟨_, _⟩ := r5; obtain ⟨_, _⟩ := (⟨by decide, by decide⟩ : Rg 1 1 1); omega)
          have s32l : (1 : Int32).toInt = 1 := rfl
          refine lv_goto (tgt := 24) hx hb d_X2_leastHours_84 (by decide) ?_
          exact ih0 y5 x24 x30 v27 _ _ _ (by have q_ := r_y1; obtain ⟨_, _⟩ := q_; have q_ := r_gg; obtain ⟨_, _⟩ := q_; have q_ := r5; obtain ⟨_, _⟩ := q_; have q_ := r16; obtain ⟨_, _⟩ := q_; have q_ := r31; obtain ⟨_, _⟩ := q_; have q_ := rg_any be; obtain ⟨_, _⟩ := q_; have q_ := rg_any y5; obtain ⟨_, _⟩ := q_; have q_ := rg_any x24; obtain ⟨_, _⟩ := q_; omega) r_y1 (rg_w r31 (by decide) (by decide)) hI28 hK29 hw hS (lv_sub hl [2, 3, 4, 5, 6, 7, 1, 0] rfl)
        · have f33 := i_nlt c8
          refine lv_goto (tgt := 81) hx hb d_X2_leastHours_42 (by decide) ?_
          obtain ⟨x34, ex34⟩ : ∃ y : Int32, y = y7 + 1 := ⟨_, rfl⟩
          refine lv_iinc (v := x34) (lv' := [(7, .int x34), (0, .ref (ad 41)), (1, .int up), (2, .ref (ad 42)), (3, .int gg), (4, .int be), (5, .int y5), (6, .int y6)]) hx hb d_X2_leastHours_81 hl (k := 7) rfl (by rw [ex34]; rfl) (by decide) rfl (fun ls hl => ?_)
          have r35 : Rg x34 1 3 := rg_add ex34 r5 (⟨by decide, by decide⟩ : Rg 1 1 1) (by decide) (by decide)
          have s36 : x34.toInt = y7.toInt + (1 : Int32).toInt := by rw [ex34]; exact i_add (by obtain ⟨_, _⟩ := r5; obtain ⟨_, _⟩ := (⟨by decide, by decide⟩ : Rg 1 1 1); omega) (by obtain ⟨_, _⟩ := r5; obtain ⟨_, _⟩ := (⟨by decide, by decide⟩ : Rg 1 1 1); omega)
          have s36l : (1 : Int32).toInt = 1 := rfl
          refine lv_goto (tgt := 24) hx hb d_X2_leastHours_84 (by decide) ?_
          exact ih0 y5 y6 x34 v1 _ _ _ (by have q_ := r_y1; obtain ⟨_, _⟩ := q_; have q_ := r_gg; obtain ⟨_, _⟩ := q_; have q_ := r5; obtain ⟨_, _⟩ := q_; have q_ := r35; obtain ⟨_, _⟩ := q_; have q_ := rg_any be; obtain ⟨_, _⟩ := q_; have q_ := rg_any y5; obtain ⟨_, _⟩ := q_; have q_ := rg_any y6; obtain ⟨_, _⟩ := q_; omega) r_y1 (rg_w r35 (by decide) (by decide)) hI1 hK1 hw hS (lv_sub hl [1, 2, 3, 4, 5, 6, 7, 0] rfl)
  have ih0 := LL 100000
  have hK0 : Kp v v := Kp.rf v
  refine lv_iload_n hx hb d_X2_leastHours_0 rfl (lv_at hl 1 rfl) ?_
  refine lv_if_gt (tgt := 10) hx hb d_X2_leastHours_1 (by decide) (fun c37 => ?_) (fun c37 => ?_)
  · have f38 := i_lt c37
    have r39 : Rg up 1 5 := by obtain ⟨a1, a2⟩ := r_up; obtain ⟨b1, b2⟩ := (⟨by decide, by decide⟩ : Rg 0 0 0); have f := i_lt c37; exact ⟨by omega, by omega⟩
    refine lv_aload_n hx hb d_X2_leastHours_10 rfl (lv_at hl 0 rfl) ?_
    refine lv_iload_n hx hb d_X2_leastHours_11 rfl (lv_at hl 1 rfl) ?_
    refine lv_iconst (v := 1) hx hb d_X2_leastHours_12 (by decide) ?_
    refine lv_isub hx hb d_X2_leastHours_13 ?_
    refine lv_topi (fun x40 ex40 => ?_)
    have r41 : Rg x40 0 4 := rg_sub ex40 r39 (⟨by decide, by decide⟩ : Rg 1 1 1) (by decide) (by decide)
    have s42 : x40.toInt = up.toInt - (1 : Int32).toInt := by rw [ex40]; exact i_sub (by obtain ⟨_, _⟩ := r39; obtain ⟨_, _⟩ := (⟨by decide, by decide⟩ : Rg 1 1 1); omega) (by obtain ⟨_, _⟩ := r39; obtain ⟨_, _⟩ := (⟨by decide, by decide⟩ : Rg 1 1 1); omega)
    have s42l : (1 : Int32).toInt = 1 := rfl
    refine r_iald X hw (rfl : KD 41 = _) (Rg.vp (b := 4) r41 (by decide)) rfl d_X2_leastHours_14 ?_
    refine lv_topi (fun x43 ex43 => ?_)
    refine lv_istore (lv' := [(5, .int x43), (0, .ref (ad 41)), (1, .int up), (2, .ref (ad 42)), (3, .int gg), (4, .int be)]) hx hb d_X2_leastHours_15 hl (by decide) rfl (fun ls hl => ?_)
    refine lv_iload hx hb d_X2_leastHours_17 (lv_at hl 5 rfl) ?_
    refine lv_istore (lv' := [(6, .int be), (5, .int x43), (0, .ref (ad 41)), (1, .int up), (2, .ref (ad 42)), (3, .int gg), (4, .int be)]) hx hb d_X2_leastHours_19 hl (by decide) rfl (fun ls hl => ?_)
    refine lv_iconst (v := 0) hx hb d_X2_leastHours_21 (by decide) ?_
    refine lv_istore (lv' := [(7, .int 0), (6, .int be), (5, .int x43), (0, .ref (ad 41)), (1, .int up), (2, .ref (ad 42)), (3, .int gg), (4, .int be)]) hx hb d_X2_leastHours_22 hl (by decide) rfl (fun ls hl => ?_)
    exact ih0 x43 be 0 v _ _ _ (by have q_ := r39; obtain ⟨_, _⟩ := q_; have q_ := r_gg; obtain ⟨_, _⟩ := q_; have q_ := r41; obtain ⟨_, _⟩ := q_; have q_ := rg_any be; obtain ⟨_, _⟩ := q_; have q_ := rg_any x43; obtain ⟨_, _⟩ := q_; have q_ := rg_any be; obtain ⟨_, _⟩ := q_; have q_ : (0 : Int32).toInt = 0 := rfl; omega) r39 (rg_w (⟨by decide, by decide⟩ : Rg 0 0 0) (by decide) (by decide)) hI hK0 hw hS (lv_sub hl [3, 4, 5, 6, 7, 2, 1, 0] rfl)
  · have f44 := i_nlt c37
    have r45 : Rg up 0 0 := by obtain ⟨a1, a2⟩ := r_up; obtain ⟨b1, b2⟩ := (⟨by decide, by decide⟩ : Rg 0 0 0); have f := i_nlt c37; exact ⟨by omega, by omega⟩
    refine lv_aload_n hx hb d_X2_leastHours_4 rfl (lv_at hl 2 rfl) ?_
    refine lv_iload_n hx hb d_X2_leastHours_5 rfl (lv_at hl 3 rfl) ?_
    refine r_ci (r_runS (n := 2) (As := [.ref (ad 42), .int gg]) (rest := []) X hw (ct_X2_longest_42 l D dA ad v hI gg r_gg) gc_X2_44 (by decide +kernel) ⟨rfl, rfl, Nat.le_of_ble_eq_true rfl, Nat.le_of_ble_eq_true rfl⟩ rfl hl.1 rfl (Nat.le_of_ble_eq_true rfl) ⟨Nat.zero_le _, Nat.zero_le _⟩ d_X2_leastHours_6) hS (fun x47 v48 H locs hp46 hw hS => ?_)
    rw [hp46] at hw
    exact r_iret X hr hlocks hw hS ⟨hI, hK0⟩ d_X2_leastHours_9
set_option maxHeartbeats 4000000 in
set_option maxRecDepth 100000 in
theorem ct_X2_leastHours_6 (l : Launch) (D : va_G) (dA : Nat → ClassId) (ad : Nat → Nat) (v : tV) (hI : Inv v) (up : Int32) (gg : Int32) (be : Int32) (r_up : Rg up 0 6) (r_gg : Rg gg 1 3) : Met l m_X2_leastHours [.code m_X2_leastHours c_X2_leastHours 8 (some .int)] ({ frames := 8, cells := 0, slots := 0, locals := 225 } : Room) (tP D dA ad v [.ref (ad 41), .int up, .ref (ad 42), .int gg, .int be]) (tQi D dA ad (fun r v' => Inv v' ∧ Kp v v')) 0 0 (tA ad) := by
  refine tMet (by decide) (Nat.le_of_ble_eq_true rfl) ?_
  intro p e s m below meth c ls X hr hlocks hw hl
  have X : CX p s m ([.ref (ad 41), .int up, .ref (ad 42), .int gg, .int be] : List Value).toArray c c_X2_leastHours N_X2 8 D dA := X
  have hx := X.1
  have hb := X.2.1
  have hS : va_S (tA ad) s.heap s.heap [] := va_S.rf
  have hl : lv_has ls 8 [(0, .ref (ad 41)), (1, .int up), (2, .ref (ad 42)), (3, .int gg), (4, .int be)] := hl
  have LL : ∀ n : Nat, (∀ (y5 : Int32) (y6 : Int32) (y7 : Int32) (v1 : tV) (H : Heap) (locs : List Loc) (ls : Array Slot), (3 - y7.toInt).toNat < n → Rg up 1 6 → Rg y7 0 3 → Inv v1 → Kp v v1 → tI D dA ad v1 H → va_S (tA ad) s.heap H locs → lv_has ls 8 [(0, .ref (ad 41)), (1, .int up), (2, .ref (ad 42)), (3, .int gg), (4, .int be), (5, .int y5), (6, .int y6), (7, .int y7)] → W p l e ({ frames := 8, cells := 0, slots := 0, locals := 225 } : Room) s m ([.ref (ad 41), .int up, .ref (ad 42), .int gg, .int be] : List Value).toArray below meth c H locs 0 0 (MQ below (tQi D dA ad (fun r v' => Inv v' ∧ Kp v v')) ([.ref (ad 41), .int up, .ref (ad 42), .int gg, .int be] : List Value).toArray s 0 0 (tA ad)) (F0 m 24 ls [])) := by
    intro n
    induction n with
    | zero => intros; omega
    | succ n ih =>
      have ih0 := ih
      intro y5 y6 y7 v1 H locs ls hmu r_y1 r_y7 hI1 hK1 hw hS hl
      refine lv_iload hx hb d_X2_leastHours_24 (lv_at hl 7 rfl) ?_
      refine lv_iload_n hx hb d_X2_leastHours_26 rfl (lv_at hl 3 rfl) ?_
      refine lv_icmp_ge (tgt := 87) hx hb d_X2_leastHours_27 (by decide) (fun c1 => ?_) (fun c1 => ?_)
      · have f2 := i_le c1
        have r3 : Rg y7 1 3 := by obtain ⟨a1, a2⟩ := r_y7; obtain ⟨b1, b2⟩ := r_gg; have f := i_le c1; exact ⟨by omega, by omega⟩
        refine lv_iload hx hb d_X2_leastHours_87 (lv_at hl 6 rfl) ?_
        exact r_iret X hr hlocks hw hS ⟨hI1, hK1⟩ d_X2_leastHours_89
      · have f4 := i_nle c1
        have r5 : Rg y7 0 2 := by obtain ⟨a1, a2⟩ := r_y7; obtain ⟨b1, b2⟩ := r_gg; have f := i_nle c1; exact ⟨by omega, by omega⟩
        refine lv_aload_n hx hb d_X2_leastHours_30 rfl (lv_at hl 2 rfl) ?_
        refine lv_iload hx hb d_X2_leastHours_31 (lv_at hl 7 rfl) ?_
        refine r_iald X hw (rfl : KD 42 = _) (Rg.vp (b := 2) r5 (by decide)) rfl d_X2_leastHours_33 ?_
        refine lv_topi (fun x6 ex6 => ?_)
        refine lv_iload hx hb d_X2_leastHours_34 (lv_at hl 5 rfl) ?_
        refine lv_iadd hx hb d_X2_leastHours_36 ?_
        refine lv_topi (fun x7 ex7 => ?_)
        refine lv_iload hx hb d_X2_leastHours_37 (lv_at hl 6 rfl) ?_
        refine lv_icmp_lt (tgt := 45) hx hb d_X2_leastHours_39 (by decide) (fun c8 => ?_) (fun c8 => ?_)
        · have f9 := i_lt c8
          refine lv_aload_n hx hb d_X2_leastHours_45 rfl (lv_at hl 2 rfl) ?_
          refine lv_iload hx hb d_X2_leastHours_46 (lv_at hl 7 rfl) ?_
          refine lv_dup2_11 hx hb d_X2_leastHours_48 rfl rfl ?_
          refine r_iald X hw (rfl : KD 42 = _) (Rg.vp (b := 2) r5 (by decide)) rfl d_X2_leastHours_49 ?_
          refine lv_topi (fun x10 ex10 => ?_)
          refine lv_iload hx hb d_X2_leastHours_50 (lv_at hl 5 rfl) ?_
          refine lv_iadd hx hb d_X2_leastHours_52 ?_
          refine lv_topi (fun x11 ex11 => ?_)
          refine r_iast X hw hS (rfl : KD 42 = _) (Rg.vp (b := 2) r5 (by decide)) rfl d_X2_leastHours_53 (fun H locs hw hS => ?_)
          obtain ⟨v12, ev12⟩ : ∃ z, z = up2 v1 42 y7.toNatClampNeg x11 := ⟨_, rfl⟩
          rw [← ev12] at hw
          have hI13 : Inv v12 := by rw [ev12]; exact Inv.put0 hI1 _ rfl
          have hK14 : Kp v v12 := by rw [ev12]; exact Kp.put hK1 _ rfl
          refine lv_iload hx hb d_X2_leastHours_54 (lv_at hl 6 rfl) ?_
          refine lv_aload_n hx hb d_X2_leastHours_56 rfl (lv_at hl 0 rfl) ?_
          refine lv_iload_n hx hb d_X2_leastHours_57 rfl (lv_at hl 1 rfl) ?_
          refine lv_iconst (v := 1) hx hb d_X2_leastHours_58 (by decide) ?_
          refine lv_isub hx hb d_X2_leastHours_59 ?_
          refine lv_topi (fun x15 ex15 => ?_)
          have r16 : Rg x15 0 5 := rg_sub ex15 r_y1 (⟨by decide, by decide⟩ : Rg 1 1 1) (by decide) (by decide)
          have s17 : x15.toInt = up.toInt - (1 : Int32).toInt := by rw [ex15]; exact i_sub (by obtain ⟨_, _⟩ := r_y1; obtain ⟨_, _⟩ := (⟨by decide, by decide⟩ : Rg 1 1 1); omega) (by obtain ⟨_, _⟩ := r_y1; obtain ⟨_, _⟩ := (⟨by decide, by decide⟩ : Rg 1 1 1); omega)
          have s17l : (1 : Int32).toInt = 1 := rfl
          refine lv_aload_n hx hb d_X2_leastHours_60 rfl (lv_at hl 2 rfl) ?_
          refine lv_iload_n hx hb d_X2_leastHours_61 rfl (lv_at hl 3 rfl) ?_
          refine lv_iload hx hb d_X2_leastHours_62 (lv_at hl 6 rfl) ?_
          refine r_ci (r_runS (n := 5) (As := [.ref (ad 41), .int x15, .ref (ad 42), .int gg, .int y6]) (rest := [.int y6]) X hw (ct_X2_leastHours_5 l D dA ad v12 hI13 x15 gg y6 r16 r_gg) gc_X2_28 (by decide +kernel) ⟨rfl, rfl, Nat.le_of_ble_eq_true rfl, Nat.le_of_ble_eq_true rfl⟩ rfl hl.1 rfl (Nat.le_of_ble_eq_true rfl) ⟨Nat.zero_le _, Nat.zero_le _⟩ d_X2_leastHours_64) hS (fun x19 v20 H locs hp18 hw hS => ?_)
          obtain ⟨hI21, hK22⟩ := hp18
          have hK23 : Kp v v20 := Kp.tr hK14 hK22
          refine va_mmin hx hb (X.2.2.1.trans hl.1.symm) X.2.2.2.1 (X.2.2.2.2.1 _ ml_X2_48) (X.2.2.2.2.1 _ ml_mins) (X.2.2.2.2.1 _ ml_mi) (X.2.2.2.2.1 _ ml_minc) (Nat.le_of_ble_eq_true rfl) (Nat.le_of_ble_eq_true rfl) (Nat.zero_le _) (Nat.zero_le _) d_X2_leastHours_67 ?_
          refine lv_topi (fun x24 ex24 => ?_)
          refine lv_istore (lv' := [(6, .int x24), (0, .ref (ad 41)), (1, .int up), (2, .ref (ad 42)), (3, .int gg), (4, .int be), (5, .int y5), (7, .int y7)]) hx hb d_X2_leastHours_70 hl (by decide) rfl (fun ls hl => ?_)
          refine lv_aload_n hx hb d_X2_leastHours_72 rfl (lv_at hl 3 rfl) ?_
          refine lv_iload hx hb d_X2_leastHours_73 (lv_at hl 7 rfl) ?_
          refine lv_dup2_11 hx hb d_X2_leastHours_75 rfl rfl ?_
          refine r_iald X hw (rfl : KD 42 = _) (Rg.vp (b := 2) r5 (by decide)) rfl d_X2_leastHours_76 ?_
          refine lv_topi (fun x25 ex25 => ?_)
          refine lv_iload hx hb d_X2_leastHours_77 (lv_at hl 6 rfl) ?_
          refine lv_isub hx hb d_X2_leastHours_79 ?_
          refine lv_topi (fun x26 ex26 => ?_)
          refine r_iast X hw hS (rfl : KD 42 = _) (Rg.vp (b := 2) r5 (by decide)) rfl d_X2_leastHours_80 (fun H locs hw hS => ?_)
          obtain ⟨v27, ev27⟩ : ∃ z, z = up2 v20 42 y7.toNatClampNeg x26 := ⟨_, rfl⟩
          rw [← ev27] at hw
          have hI28 : Inv v27 := by rw [ev27]; exact Inv.put0 hI21 _ rfl
          have hK29 : Kp v v27 := by rw [ev27]; exact Kp.put hK23 _ rfl
          obtain ⟨x30, ex30⟩ : ∃ y : Int32, y = y7 + 1 := ⟨_, rfl⟩
          refine lv_iinc (v := x30) (lv' := [(7, .int x30), (6, .int x24), (0, .ref (ad 41)), (1, .int up), (2, .ref (ad 42)), (3, .int gg), (4, .int be), (5, .int y5)]) hx hb d_X2_leastHours_81 hl (k := 7) rfl (by rw [ex30]; rfl) (by decide) rfl (fun ls hl => ?_)
          have r31 : Rg x30 1 3 := rg_add ex30 r5 (⟨by decide, by decide⟩ : Rg 1 1 1) (by decide) (by decide)
          have s32 : x30.toInt = y7.toInt + (1 : Int32).toInt := by rw [ex30]; exact i_add (by obtain ⟨_, _⟩ := r5; obtain ⟨_, _⟩ := (⟨by decide, by decide⟩ : Rg 1 1 1); omega) (by obtain ⟨_, _⟩ := r5; obtain ⟨_, _⟩ := (⟨by decide, by decide⟩ : Rg 1 1 1); omega)
          have s32l : (1 : Int32).toInt = 1 := rfl
          refine lv_goto (tgt := 24) hx hb d_X2_leastHours_84 (by decide) ?_
          exact ih0 y5 x24 x30 v27 _ _ _ (by have q_ := r_y1; obtain ⟨_, _⟩ := q_; have q_ := r_gg; obtain ⟨_, _⟩ := q_; have q_ := r5; obtain ⟨_, _⟩ := q_; have q_ := r16; obtain ⟨_, _⟩ := q_; have q_ := r31; obtain ⟨_, _⟩ := q_; have q_ := rg_any be; obtain ⟨_, _⟩ := q_; have q_ := rg_any y5; obtain ⟨_, _⟩ := q_; have q_ := rg_any x24; obtain ⟨_, _⟩ := q_; omega) r_y1 (rg_w r31 (by decide) (by decide)) hI28 hK29 hw hS (lv_sub hl [2, 3, 4, 5, 6, 7, 1, 0] rfl)
        · have f33 := i_nlt c8
          refine lv_goto (tgt := 81) hx hb d_X2_leastHours_42 (by decide) ?_
          obtain ⟨x34, ex34⟩ : ∃ y : Int32, y = y7 + 1 := ⟨_, rfl⟩
          refine lv_iinc (v := x34) (lv' := [(7, .int x34), (0, .ref (ad 41)), (1, .int up), (2, .ref (ad 42)), (3, .int gg), (4, .int be), (5, .int y5), (6, .int y6)]) hx hb d_X2_leastHours_81 hl (k := 7) rfl (by rw [ex34]; rfl) (by decide) rfl (fun ls hl => ?_)
          have r35 : Rg x34 1 3 := rg_add ex34 r5 (⟨by decide, by decide⟩ : Rg 1 1 1) (by decide) (by decide)
          have s36 : x34.toInt = y7.toInt + (1 : Int32).toInt := by rw [ex34]; exact i_add (by obtain ⟨_, _⟩ := r5; obtain ⟨_, _⟩ := (⟨by decide, by decide⟩ : Rg 1 1 1); omega) (by obtain ⟨_, _⟩ := r5; obtain ⟨_, _⟩ := (⟨by decide, by decide⟩ : Rg 1 1 1); omega)
          have s36l : (1 : Int32).toInt = 1 := rfl
          refine lv_goto (tgt := 24) hx hb d_X2_leastHours_84 (by decide) ?_
          exact ih0 y5 y6 x34 v1 _ _ _ (by have q_ := r_y1; obtain ⟨_, _⟩ := q_; have q_ := r_gg; obtain ⟨_, _⟩ := q_; have q_ := r5; obtain ⟨_, _⟩ := q_; have q_ := r35; obtain ⟨_, _⟩ := q_; have q_ := rg_any be; obtain ⟨_, _⟩ := q_; have q_ := rg_any y5; obtain ⟨_, _⟩ := q_; have q_ := rg_any y6; obtain ⟨_, _⟩ := q_; omega) r_y1 (rg_w r35 (by decide) (by decide)) hI1 hK1 hw hS (lv_sub hl [1, 2, 3, 4, 5, 6, 7, 0] rfl)
  have ih0 := LL 100000
  have hK0 : Kp v v := Kp.rf v
  refine lv_iload_n hx hb d_X2_leastHours_0 rfl (lv_at hl 1 rfl) ?_
  refine lv_if_gt (tgt := 10) hx hb d_X2_leastHours_1 (by decide) (fun c37 => ?_) (fun c37 => ?_)
  · have f38 := i_lt c37
    have r39 : Rg up 1 6 := by obtain ⟨a1, a2⟩ := r_up; obtain ⟨b1, b2⟩ := (⟨by decide, by decide⟩ : Rg 0 0 0); have f := i_lt c37; exact ⟨by omega, by omega⟩
    refine lv_aload_n hx hb d_X2_leastHours_10 rfl (lv_at hl 0 rfl) ?_
    refine lv_iload_n hx hb d_X2_leastHours_11 rfl (lv_at hl 1 rfl) ?_
    refine lv_iconst (v := 1) hx hb d_X2_leastHours_12 (by decide) ?_
    refine lv_isub hx hb d_X2_leastHours_13 ?_
    refine lv_topi (fun x40 ex40 => ?_)
    have r41 : Rg x40 0 5 := rg_sub ex40 r39 (⟨by decide, by decide⟩ : Rg 1 1 1) (by decide) (by decide)
    have s42 : x40.toInt = up.toInt - (1 : Int32).toInt := by rw [ex40]; exact i_sub (by obtain ⟨_, _⟩ := r39; obtain ⟨_, _⟩ := (⟨by decide, by decide⟩ : Rg 1 1 1); omega) (by obtain ⟨_, _⟩ := r39; obtain ⟨_, _⟩ := (⟨by decide, by decide⟩ : Rg 1 1 1); omega)
    have s42l : (1 : Int32).toInt = 1 := rfl
    refine r_iald X hw (rfl : KD 41 = _) (Rg.vp (b := 5) r41 (by decide)) rfl d_X2_leastHours_14 ?_
    refine lv_topi (fun x43 ex43 => ?_)
    refine lv_istore (lv' := [(5, .int x43), (0, .ref (ad 41)), (1, .int up), (2, .ref (ad 42)), (3, .int gg), (4, .int be)]) hx hb d_X2_leastHours_15 hl (by decide) rfl (fun ls hl => ?_)
    refine lv_iload hx hb d_X2_leastHours_17 (lv_at hl 5 rfl) ?_
    refine lv_istore (lv' := [(6, .int be), (5, .int x43), (0, .ref (ad 41)), (1, .int up), (2, .ref (ad 42)), (3, .int gg), (4, .int be)]) hx hb d_X2_leastHours_19 hl (by decide) rfl (fun ls hl => ?_)
    refine lv_iconst (v := 0) hx hb d_X2_leastHours_21 (by decide) ?_
    refine lv_istore (lv' := [(7, .int 0), (6, .int be), (5, .int x43), (0, .ref (ad 41)), (1, .int up), (2, .ref (ad 42)), (3, .int gg), (4, .int be)]) hx hb d_X2_leastHours_22 hl (by decide) rfl (fun ls hl => ?_)
    exact ih0 x43 be 0 v _ _ _ (by have q_ := r39; obtain ⟨_, _⟩ := q_; have q_ := r_gg; obtain ⟨_, _⟩ := q_; have q_ := r41; obtain ⟨_, _⟩ := q_; have q_ := rg_any be; obtain ⟨_, _⟩ := q_; have q_ := rg_any x43; obtain ⟨_, _⟩ := q_; have q_ := rg_any be; obtain ⟨_, _⟩ := q_; have q_ : (0 : Int32).toInt = 0 := rfl; omega) r39 (rg_w (⟨by decide, by decide⟩ : Rg 0 0 0) (by decide) (by decide)) hI hK0 hw hS (lv_sub hl [3, 4, 5, 6, 7, 2, 1, 0] rfl)
  · have f44 := i_nlt c37
    have r45 : Rg up 0 0 := by obtain ⟨a1, a2⟩ := r_up; obtain ⟨b1, b2⟩ := (⟨by decide, by decide⟩ : Rg 0 0 0); have f := i_nlt c37; exact ⟨by omega, by omega⟩
    refine lv_aload_n hx hb d_X2_leastHours_4 rfl (lv_at hl 2 rfl) ?_
    refine lv_iload_n hx hb d_X2_leastHours_5 rfl (lv_at hl 3 rfl) ?_
    refine r_ci (r_runS (n := 2) (As := [.ref (ad 42), .int gg]) (rest := []) X hw (ct_X2_longest_42 l D dA ad v hI gg r_gg) gc_X2_44 (by decide +kernel) ⟨rfl, rfl, Nat.le_of_ble_eq_true rfl, Nat.le_of_ble_eq_true rfl⟩ rfl hl.1 rfl (Nat.le_of_ble_eq_true rfl) ⟨Nat.zero_le _, Nat.zero_le _⟩ d_X2_leastHours_6) hS (fun x47 v48 H locs hp46 hw hS => ?_)
    rw [hp46] at hw
    exact r_iret X hr hlocks hw hS ⟨hI, hK0⟩ d_X2_leastHours_9
set_option maxHeartbeats 4000000 in
set_option maxRecDepth 100000 in
theorem ct_X2_leastHours_7 (l : Launch) (D : va_G) (dA : Nat → ClassId) (ad : Nat → Nat) (v : tV) (hI : Inv v) (up : Int32) (gg : Int32) (be : Int32) (r_up : Rg up 0 7) (r_gg : Rg gg 1 3) : Met l m_X2_leastHours [.code m_X2_leastHours c_X2_leastHours 8 (some .int)] ({ frames := 9, cells := 0, slots := 0, locals := 252 } : Room) (tP D dA ad v [.ref (ad 41), .int up, .ref (ad 42), .int gg, .int be]) (tQi D dA ad (fun r v' => Inv v' ∧ Kp v v')) 0 0 (tA ad) := by
  refine tMet (by decide) (Nat.le_of_ble_eq_true rfl) ?_
  intro p e s m below meth c ls X hr hlocks hw hl
  have X : CX p s m ([.ref (ad 41), .int up, .ref (ad 42), .int gg, .int be] : List Value).toArray c c_X2_leastHours N_X2 8 D dA := X
  have hx := X.1
  have hb := X.2.1
  have hS : va_S (tA ad) s.heap s.heap [] := va_S.rf
  have hl : lv_has ls 8 [(0, .ref (ad 41)), (1, .int up), (2, .ref (ad 42)), (3, .int gg), (4, .int be)] := hl
  have LL : ∀ n : Nat, (∀ (y5 : Int32) (y6 : Int32) (y7 : Int32) (v1 : tV) (H : Heap) (locs : List Loc) (ls : Array Slot), (3 - y7.toInt).toNat < n → Rg up 1 7 → Rg y7 0 3 → Inv v1 → Kp v v1 → tI D dA ad v1 H → va_S (tA ad) s.heap H locs → lv_has ls 8 [(0, .ref (ad 41)), (1, .int up), (2, .ref (ad 42)), (3, .int gg), (4, .int be), (5, .int y5), (6, .int y6), (7, .int y7)] → W p l e ({ frames := 9, cells := 0, slots := 0, locals := 252 } : Room) s m ([.ref (ad 41), .int up, .ref (ad 42), .int gg, .int be] : List Value).toArray below meth c H locs 0 0 (MQ below (tQi D dA ad (fun r v' => Inv v' ∧ Kp v v')) ([.ref (ad 41), .int up, .ref (ad 42), .int gg, .int be] : List Value).toArray s 0 0 (tA ad)) (F0 m 24 ls [])) := by
    intro n
    induction n with
    | zero => intros; omega
    | succ n ih =>
      have ih0 := ih
      intro y5 y6 y7 v1 H locs ls hmu r_y1 r_y7 hI1 hK1 hw hS hl
      refine lv_iload hx hb d_X2_leastHours_24 (lv_at hl 7 rfl) ?_
      refine lv_iload_n hx hb d_X2_leastHours_26 rfl (lv_at hl 3 rfl) ?_
      refine lv_icmp_ge (tgt := 87) hx hb d_X2_leastHours_27 (by decide) (fun c1 => ?_) (fun c1 => ?_)
      · have f2 := i_le c1
        have r3 : Rg y7 1 3 := by obtain ⟨a1, a2⟩ := r_y7; obtain ⟨b1, b2⟩ := r_gg; have f := i_le c1; exact ⟨by omega, by omega⟩
        refine lv_iload hx hb d_X2_leastHours_87 (lv_at hl 6 rfl) ?_
        exact r_iret X hr hlocks hw hS ⟨hI1, hK1⟩ d_X2_leastHours_89
      · have f4 := i_nle c1
        have r5 : Rg y7 0 2 := by obtain ⟨a1, a2⟩ := r_y7; obtain ⟨b1, b2⟩ := r_gg; have f := i_nle c1; exact ⟨by omega, by omega⟩
        refine lv_aload_n hx hb d_X2_leastHours_30 rfl (lv_at hl 2 rfl) ?_
        refine lv_iload hx hb d_X2_leastHours_31 (lv_at hl 7 rfl) ?_
        refine r_iald X hw (rfl : KD 42 = _) (Rg.vp (b := 2) r5 (by decide)) rfl d_X2_leastHours_33 ?_
        refine lv_topi (fun x6 ex6 => ?_)
        refine lv_iload hx hb d_X2_leastHours_34 (lv_at hl 5 rfl) ?_
        refine lv_iadd hx hb d_X2_leastHours_36 ?_
        refine lv_topi (fun x7 ex7 => ?_)
        refine lv_iload hx hb d_X2_leastHours_37 (lv_at hl 6 rfl) ?_
        refine lv_icmp_lt (tgt := 45) hx hb d_X2_leastHours_39 (by decide) (fun c8 => ?_) (fun c8 => ?_)
        · have f9 := i_lt c8
          refine lv_aload_n hx hb d_X2_leastHours_45 rfl (lv_at hl 2 rfl) ?_
          refine lv_iload hx hb d_X2_leastHours_46 (lv_at hl 7 rfl) ?_
          refine lv_dup2_11 hx hb d_X2_leastHours_48 rfl rfl ?_
          refine r_iald X hw (rfl : KD 42 = _) (Rg.vp (b := 2) r5 (by decide)) rfl d_X2_leastHours_49 ?_
          refine lv_topi (fun x10 ex10 => ?_)
          refine lv_iload hx hb d_X2_leastHours_50 (lv_at hl 5 rfl) ?_
          refine lv_iadd hx hb d_X2_leastHours_52 ?_
          refine lv_topi (fun x11 ex11 => ?_)
          refine r_iast X hw hS (rfl : KD 42 = _) (Rg.vp (b := 2) r5 (by decide)) rfl d_X2_leastHours_53 (fun H locs hw hS => ?_)
          obtain ⟨v12, ev12⟩ : ∃ z, z = up2 v1 42 y7.toNatClampNeg x11 := ⟨_, rfl⟩
          rw [← ev12] at hw
          have hI13 : Inv v12 := by rw [ev12]; exact Inv.put0 hI1 _ rfl
          have hK14 : Kp v v12 := by rw [ev12]; exact Kp.put hK1 _ rfl
          refine lv_iload hx hb d_X2_leastHours_54 (lv_at hl 6 rfl) ?_
          refine lv_aload_n hx hb d_X2_leastHours_56 rfl (lv_at hl 0 rfl) ?_
          refine lv_iload_n hx hb d_X2_leastHours_57 rfl (lv_at hl 1 rfl) ?_
          refine lv_iconst (v := 1) hx hb d_X2_leastHours_58 (by decide) ?_
          refine lv_isub hx hb d_X2_leastHours_59 ?_
          refine lv_topi (fun x15 ex15 => ?_)
          have r16 : Rg x15 0 6 := rg_sub ex15 r_y1 (⟨by decide, by decide⟩ : Rg 1 1 1) (by decide) (by decide)
          have s17 : x15.toInt = up.toInt - (1 : Int32).toInt := by rw [ex15]; exact i_sub (by obtain ⟨_, _⟩ := r_y1; obtain ⟨_, _⟩ := (⟨by decide, by decide⟩ : Rg 1 1 1); omega) (by obtain ⟨_, _⟩ := r_y1; obtain ⟨_, _⟩ := (⟨by decide, by decide⟩ : Rg 1 1 1); omega)
          have s17l : (1 : Int32).toInt = 1 := rfl
          refine lv_aload_n hx hb d_X2_leastHours_60 rfl (lv_at hl 2 rfl) ?_
          refine lv_iload_n hx hb d_X2_leastHours_61 rfl (lv_at hl 3 rfl) ?_
          refine lv_iload hx hb d_X2_leastHours_62 (lv_at hl 6 rfl) ?_
          refine r_ci (r_runS (n := 5) (As := [.ref (ad 41), .int x15, .ref (ad 42), .int gg, .int y6]) (rest := [.int y6]) X hw (ct_X2_leastHours_6 l D dA ad v12 hI13 x15 gg y6 r16 r_gg) gc_X2_28 (by decide +kernel) ⟨rfl, rfl, Nat.le_of_ble_eq_true rfl, Nat.le_of_ble_eq_true rfl⟩ rfl hl.1 rfl (Nat.le_of_ble_eq_true rfl) ⟨Nat.zero_le _, Nat.zero_le _⟩ d_X2_leastHours_64) hS (fun x19 v20 H locs hp18 hw hS => ?_)
          obtain ⟨hI21, hK22⟩ := hp18
          have hK23 : Kp v v20 := Kp.tr hK14 hK22
          refine va_mmin hx hb (X.2.2.1.trans hl.1.symm) X.2.2.2.1 (X.2.2.2.2.1 _ ml_X2_48) (X.2.2.2.2.1 _ ml_mins) (X.2.2.2.2.1 _ ml_mi) (X.2.2.2.2.1 _ ml_minc) (Nat.le_of_ble_eq_true rfl) (Nat.le_of_ble_eq_true rfl) (Nat.zero_le _) (Nat.zero_le _) d_X2_leastHours_67 ?_
          refine lv_topi (fun x24 ex24 => ?_)
          refine lv_istore (lv' := [(6, .int x24), (0, .ref (ad 41)), (1, .int up), (2, .ref (ad 42)), (3, .int gg), (4, .int be), (5, .int y5), (7, .int y7)]) hx hb d_X2_leastHours_70 hl (by decide) rfl (fun ls hl => ?_)
          refine lv_aload_n hx hb d_X2_leastHours_72 rfl (lv_at hl 3 rfl) ?_
          refine lv_iload hx hb d_X2_leastHours_73 (lv_at hl 7 rfl) ?_
          refine lv_dup2_11 hx hb d_X2_leastHours_75 rfl rfl ?_
          refine r_iald X hw (rfl : KD 42 = _) (Rg.vp (b := 2) r5 (by decide)) rfl d_X2_leastHours_76 ?_
          refine lv_topi (fun x25 ex25 => ?_)
          refine lv_iload hx hb d_X2_leastHours_77 (lv_at hl 6 rfl) ?_
          refine lv_isub hx hb d_X2_leastHours_79 ?_
          refine lv_topi (fun x26 ex26 => ?_)
          refine r_iast X hw hS (rfl : KD 42 = _) (Rg.vp (b := 2) r5 (by decide)) rfl d_X2_leastHours_80 (fun H locs hw hS => ?_)
          obtain ⟨v27, ev27⟩ : ∃ z, z = up2 v20 42 y7.toNatClampNeg x26 := ⟨_, rfl⟩
          rw [← ev27] at hw
          have hI28 : Inv v27 := by rw [ev27]; exact Inv.put0 hI21 _ rfl
          have hK29 : Kp v v27 := by rw [ev27]; exact Kp.put hK23 _ rfl
          obtain ⟨x30, ex30⟩ : ∃ y : Int32, y = y7 + 1 := ⟨_, rfl⟩
          refine lv_iinc (v := x30) (lv' := [(7, .int x30), (6, .int x24), (0, .ref (ad 41)), (1, .int up), (2, .ref (ad 42)), (3, .int gg), (4, .int be), (5, .int y5)]) hx hb d_X2_leastHours_81 hl (k := 7) rfl (by rw [ex30]; rfl) (by decide) rfl (fun ls hl => ?_)
          have r31 : Rg x30 1 3 := rg_add ex30 r5 (⟨by decide, by decide⟩ : Rg 1 1 1) (by decide) (by decide)
          have s32 : x30.toInt = y7.toInt + (1 : Int32).toInt := by rw [ex30]; exact i_add (by obtain ⟨_, _⟩ := r5; obtain ⟨_, _⟩ := (⟨by decide, by decide⟩ : Rg 1 1 1); omega) (by obtain ⟨_, _⟩ := r5; obtain ⟨_, _⟩ := (⟨by decide, by decide⟩ : Rg 1 1 1); omega)
          have s32l : (1 : Int32).toInt = 1 := rfl
          refine lv_goto (tgt := 24) hx hb d_X2_leastHours_84 (by decide) ?_
          exact ih0 y5 x24 x30 v27 _ _ _ (by have q_ := r_y1; obtain ⟨_, _⟩ := q_; have q_ := r_gg; obtain ⟨_, _⟩ := q_; have q_ := r5; obtain ⟨_, _⟩ := q_; have q_ := r16; obtain ⟨_, _⟩ := q_; have q_ := r31; obtain ⟨_, _⟩ := q_; have q_ := rg_any be; obtain ⟨_, _⟩ := q_; have q_ := rg_any y5; obtain ⟨_, _⟩ := q_; have q_ := rg_any x24; obtain ⟨_, _⟩ := q_; omega) r_y1 (rg_w r31 (by decide) (by decide)) hI28 hK29 hw hS (lv_sub hl [2, 3, 4, 5, 6, 7, 1, 0] rfl)
        · have f33 := i_nlt c8
          refine lv_goto (tgt := 81) hx hb d_X2_leastHours_42 (by decide) ?_
          obtain ⟨x34, ex34⟩ : ∃ y : Int32, y = y7 + 1 := ⟨_, rfl⟩
          refine lv_iinc (v := x34) (lv' := [(7, .int x34), (0, .ref (ad 41)), (1, .int up), (2, .ref (ad 42)), (3, .int gg), (4, .int be), (5, .int y5), (6, .int y6)]) hx hb d_X2_leastHours_81 hl (k := 7) rfl (by rw [ex34]; rfl) (by decide) rfl (fun ls hl => ?_)
          have r35 : Rg x34 1 3 := rg_add ex34 r5 (⟨by decide, by decide⟩ : Rg 1 1 1) (by decide) (by decide)
          have s36 : x34.toInt = y7.toInt + (1 : Int32).toInt := by rw [ex34]; exact i_add (by obtain ⟨_, _⟩ := r5; obtain ⟨_, _⟩ := (⟨by decide, by decide⟩ : Rg 1 1 1); omega) (by obtain ⟨_, _⟩ := r5; obtain ⟨_, _⟩ := (⟨by decide, by decide⟩ : Rg 1 1 1); omega)
          have s36l : (1 : Int32).toInt = 1 := rfl
          refine lv_goto (tgt := 24) hx hb d_X2_leastHours_84 (by decide) ?_
          exact ih0 y5 y6 x34 v1 _ _ _ (by have q_ := r_y1; obtain ⟨_, _⟩ := q_; have q_ := r_gg; obtain ⟨_, _⟩ := q_; have q_ := r5; obtain ⟨_, _⟩ := q_; have q_ := r35; obtain ⟨_, _⟩ := q_; have q_ := rg_any be; obtain ⟨_, _⟩ := q_; have q_ := rg_any y5; obtain ⟨_, _⟩ := q_; have q_ := rg_any y6; obtain ⟨_, _⟩ := q_; omega) r_y1 (rg_w r35 (by decide) (by decide)) hI1 hK1 hw hS (lv_sub hl [1, 2, 3, 4, 5, 6, 7, 0] rfl)
  have ih0 := LL 100000
  have hK0 : Kp v v := Kp.rf v
  refine lv_iload_n hx hb d_X2_leastHours_0 rfl (lv_at hl 1 rfl) ?_
  refine lv_if_gt (tgt := 10) hx hb d_X2_leastHours_1 (by decide) (fun c37 => ?_) (fun c37 => ?_)
  · have f38 := i_lt c37
    have r39 : Rg up 1 7 := by obtain ⟨a1, a2⟩ := r_up; obtain ⟨b1, b2⟩ := (⟨by decide, by decide⟩ : Rg 0 0 0); have f := i_lt c37; exact ⟨by omega, by omega⟩
    refine lv_aload_n hx hb d_X2_leastHours_10 rfl (lv_at hl 0 rfl) ?_
    refine lv_iload_n hx hb d_X2_leastHours_11 rfl (lv_at hl 1 rfl) ?_
    refine lv_iconst (v := 1) hx hb d_X2_leastHours_12 (by decide) ?_
    refine lv_isub hx hb d_X2_leastHours_13 ?_
    refine lv_topi (fun x40 ex40 => ?_)
    have r41 : Rg x40 0 6 := rg_sub ex40 r39 (⟨by decide, by decide⟩ : Rg 1 1 1) (by decide) (by decide)
    have s42 : x40.toInt = up.toInt - (1 : Int32).toInt := by rw [ex40]; exact i_sub (by obtain ⟨_, _⟩ := r39; obtain ⟨_, _⟩ := (⟨by decide, by decide⟩ : Rg 1 1 1); omega) (by obtain ⟨_, _⟩ := r39; obtain ⟨_, _⟩ := (⟨by decide, by decide⟩ : Rg 1 1 1); omega)
    have s42l : (1 : Int32).toInt = 1 := rfl
    refine r_iald X hw (rfl : KD 41 = _) (Rg.vp (b := 6) r41 (by decide)) rfl d_X2_leastHours_14 ?_
    refine lv_topi (fun x43 ex43 => ?_)
    refine lv_istore (lv' := [(5, .int x43), (0, .ref (ad 41)), (1, .int up), (2, .ref (ad 42)), (3, .int gg), (4, .int be)]) hx hb d_X2_leastHours_15 hl (by decide) rfl (fun ls hl => ?_)
    refine lv_iload hx hb d_X2_leastHours_17 (lv_at hl 5 rfl) ?_
    refine lv_istore (lv' := [(6, .int be), (5, .int x43), (0, .ref (ad 41)), (1, .int up), (2, .ref (ad 42)), (3, .int gg), (4, .int be)]) hx hb d_X2_leastHours_19 hl (by decide) rfl (fun ls hl => ?_)
    refine lv_iconst (v := 0) hx hb d_X2_leastHours_21 (by decide) ?_
    refine lv_istore (lv' := [(7, .int 0), (6, .int be), (5, .int x43), (0, .ref (ad 41)), (1, .int up), (2, .ref (ad 42)), (3, .int gg), (4, .int be)]) hx hb d_X2_leastHours_22 hl (by decide) rfl (fun ls hl => ?_)
    exact ih0 x43 be 0 v _ _ _ (by have q_ := r39; obtain ⟨_, _⟩ := q_; have q_ := r_gg; obtain ⟨_, _⟩ := q_; have q_ := r41; obtain ⟨_, _⟩ := q_; have q_ := rg_any be; obtain ⟨_, _⟩ := q_; have q_ := rg_any x43; obtain ⟨_, _⟩ := q_; have q_ := rg_any be; obtain ⟨_, _⟩ := q_; have q_ : (0 : Int32).toInt = 0 := rfl; omega) r39 (rg_w (⟨by decide, by decide⟩ : Rg 0 0 0) (by decide) (by decide)) hI hK0 hw hS (lv_sub hl [3, 4, 5, 6, 7, 2, 1, 0] rfl)
  · have f44 := i_nlt c37
    have r45 : Rg up 0 0 := by obtain ⟨a1, a2⟩ := r_up; obtain ⟨b1, b2⟩ := (⟨by decide, by decide⟩ : Rg 0 0 0); have f := i_nlt c37; exact ⟨by omega, by omega⟩
    refine lv_aload_n hx hb d_X2_leastHours_4 rfl (lv_at hl 2 rfl) ?_
    refine lv_iload_n hx hb d_X2_leastHours_5 rfl (lv_at hl 3 rfl) ?_
    refine r_ci (r_runS (n := 2) (As := [.ref (ad 42), .int gg]) (rest := []) X hw (ct_X2_longest_42 l D dA ad v hI gg r_gg) gc_X2_44 (by decide +kernel) ⟨rfl, rfl, Nat.le_of_ble_eq_true rfl, Nat.le_of_ble_eq_true rfl⟩ rfl hl.1 rfl (Nat.le_of_ble_eq_true rfl) ⟨Nat.zero_le _, Nat.zero_le _⟩ d_X2_leastHours_6) hS (fun x47 v48 H locs hp46 hw hS => ?_)
    rw [hp46] at hw
    exact r_iret X hr hlocks hw hS ⟨hI, hK0⟩ d_X2_leastHours_9
theorem d_X2_gather_0 : decode c_X2_gather 0 = .ok (.iconst 0, 1) := by decide +kernel
theorem d_X2_gather_1 : decode c_X2_gather 1 = .ok (.istore_n 2, 1) := by decide +kernel
theorem d_X2_gather_2 : decode c_X2_gather 2 = .ok (.iconst 0, 1) := by decide +kernel
theorem d_X2_gather_3 : decode c_X2_gather 3 = .ok (.istore_n 3, 1) := by decide +kernel
theorem d_X2_gather_4 : decode c_X2_gather 4 = .ok (.iload_n 3, 1) := by decide +kernel
theorem d_X2_gather_5 : decode c_X2_gather 5 = .ok (.aload_n 1, 1) := by decide +kernel
theorem d_X2_gather_6 : decode c_X2_gather 6 = .ok (.getfield 32, 3) := by decide +kernel
theorem d_X2_gather_9 : decode c_X2_gather 9 = .ok (.if_icmp .ge 87, 3) := by decide +kernel
theorem d_X2_gather_12 : decode c_X2_gather 12 = .ok (.iload_n 3, 1) := by decide +kernel
theorem d_X2_gather_13 : decode c_X2_gather 13 = .ok (.ifCond .eq 20, 3) := by decide +kernel
theorem d_X2_gather_16 : decode c_X2_gather 16 = .ok (.aload_n 1, 1) := by decide +kernel
theorem d_X2_gather_17 : decode c_X2_gather 17 = .ok (.getfield 38, 3) := by decide +kernel
theorem d_X2_gather_20 : decode c_X2_gather 20 = .ok (.iload_n 3, 1) := by decide +kernel
theorem d_X2_gather_21 : decode c_X2_gather 21 = .ok (.iaload, 1) := by decide +kernel
theorem d_X2_gather_22 : decode c_X2_gather 22 = .ok (.aload_n 1, 1) := by decide +kernel
theorem d_X2_gather_23 : decode c_X2_gather 23 = .ok (.getfield 38, 3) := by decide +kernel
theorem d_X2_gather_26 : decode c_X2_gather 26 = .ok (.iload_n 3, 1) := by decide +kernel
theorem d_X2_gather_27 : decode c_X2_gather 27 = .ok (.iconst 1, 1) := by decide +kernel
theorem d_X2_gather_28 : decode c_X2_gather 28 = .ok (.isub, 1) := by decide +kernel
theorem d_X2_gather_29 : decode c_X2_gather 29 = .ok (.iaload, 1) := by decide +kernel
theorem d_X2_gather_30 : decode c_X2_gather 30 = .ok (.if_icmp .eq 7, 3) := by decide +kernel
theorem d_X2_gather_33 : decode c_X2_gather 33 = .ok (.iconst 1, 1) := by decide +kernel
theorem d_X2_gather_34 : decode c_X2_gather 34 = .ok (.goto 4, 3) := by decide +kernel
theorem d_X2_gather_37 : decode c_X2_gather 37 = .ok (.iconst 0, 1) := by decide +kernel
theorem d_X2_gather_38 : decode c_X2_gather 38 = .ok (.istore 4, 2) := by decide +kernel
theorem d_X2_gather_40 : decode c_X2_gather 40 = .ok (.iload 4, 2) := by decide +kernel
theorem d_X2_gather_42 : decode c_X2_gather 42 = .ok (.ifCond .eq 12, 3) := by decide +kernel
theorem d_X2_gather_45 : decode c_X2_gather 45 = .ok (.iload_n 2, 1) := by decide +kernel
theorem d_X2_gather_46 : decode c_X2_gather 46 = .ok (.bipush 7, 2) := by decide +kernel
theorem d_X2_gather_48 : decode c_X2_gather 48 = .ok (.if_icmp .ne 6, 3) := by decide +kernel
theorem d_X2_gather_51 : decode c_X2_gather 51 = .ok (.goto 45, 3) := by decide +kernel
theorem d_X2_gather_54 : decode c_X2_gather 54 = .ok (.iload 4, 2) := by decide +kernel
theorem d_X2_gather_56 : decode c_X2_gather 56 = .ok (.ifCond .eq 13, 3) := by decide +kernel
theorem d_X2_gather_59 : decode c_X2_gather 59 = .ok (.aload_n 0, 1) := by decide +kernel
theorem d_X2_gather_60 : decode c_X2_gather 60 = .ok (.getfield 9, 3) := by decide +kernel
theorem d_X2_gather_63 : decode c_X2_gather 63 = .ok (.iload_n 2, 1) := by decide +kernel
theorem d_X2_gather_64 : decode c_X2_gather 64 = .ok (.iinc 2 1, 3) := by decide +kernel
theorem d_X2_gather_67 : decode c_X2_gather 67 = .ok (.iconst 0, 1) := by decide +kernel
theorem d_X2_gather_68 : decode c_X2_gather 68 = .ok (.iastore, 1) := by decide +kernel
theorem d_X2_gather_69 : decode c_X2_gather 69 = .ok (.iload_n 2, 1) := by decide +kernel
theorem d_X2_gather_70 : decode c_X2_gather 70 = .ok (.ifCond .le 20, 3) := by decide +kernel
theorem d_X2_gather_73 : decode c_X2_gather 73 = .ok (.aload_n 0, 1) := by decide +kernel
theorem d_X2_gather_74 : decode c_X2_gather 74 = .ok (.getfield 9, 3) := by decide +kernel
theorem d_X2_gather_77 : decode c_X2_gather 77 = .ok (.iload_n 2, 1) := by decide +kernel
theorem d_X2_gather_78 : decode c_X2_gather 78 = .ok (.iconst 1, 1) := by decide +kernel
theorem d_X2_gather_79 : decode c_X2_gather 79 = .ok (.isub, 1) := by decide +kernel
theorem d_X2_gather_80 : decode c_X2_gather 80 = .ok (.dup2, 1) := by decide +kernel
theorem d_X2_gather_81 : decode c_X2_gather 81 = .ok (.iaload, 1) := by decide +kernel
theorem d_X2_gather_82 : decode c_X2_gather 82 = .ok (.aload_n 1, 1) := by decide +kernel
theorem d_X2_gather_83 : decode c_X2_gather 83 = .ok (.getfield 41, 3) := by decide +kernel
theorem d_X2_gather_86 : decode c_X2_gather 86 = .ok (.iload_n 3, 1) := by decide +kernel
theorem d_X2_gather_87 : decode c_X2_gather 87 = .ok (.iaload, 1) := by decide +kernel
theorem d_X2_gather_88 : decode c_X2_gather 88 = .ok (.iadd, 1) := by decide +kernel
theorem d_X2_gather_89 : decode c_X2_gather 89 = .ok (.iastore, 1) := by decide +kernel
theorem d_X2_gather_90 : decode c_X2_gather 90 = .ok (.iinc 3 1, 3) := by decide +kernel
theorem d_X2_gather_93 : decode c_X2_gather 93 = .ok (.goto (-89), 3) := by decide +kernel
theorem d_X2_gather_96 : decode c_X2_gather 96 = .ok (.iload_n 2, 1) := by decide +kernel
theorem d_X2_gather_97 : decode c_X2_gather 97 = .ok (.ireturn, 1) := by decide +kernel
set_option maxHeartbeats 4000000 in
set_option maxRecDepth 100000 in
theorem ct_X2_gather_40_30 (l : Launch) (D : va_G) (dA : Nat → ClassId) (ad : Nat → Nat) (v : tV) (hI : Inv v)  : Met l m_X2_gather [.code m_X2_gather c_X2_gather 5 (some .int)] ({ frames := 1, cells := 0, slots := 0, locals := 40 } : Room) (tP D dA ad v [.ref (ad 40), .ref (ad 30)]) (tQi D dA ad (fun r v' => Inv v' ∧ Kp v v' ∧ Rg r 0 7)) 0 0 (tA ad) := by
  refine tMet (by decide) (Nat.le_of_ble_eq_true rfl) ?_
  intro p e s m below meth c ls X hr hlocks hw hl
  have X : CX p s m ([.ref (ad 40), .ref (ad 30)] : List Value).toArray c c_X2_gather N_X2 5 D dA := X
  have hx := X.1
  have hb := X.2.1
  have hS : va_S (tA ad) s.heap s.heap [] := va_S.rf
  have hl : lv_has ls 5 [(0, .ref (ad 40)), (1, .ref (ad 30))] := hl
  have LL : ∀ n : Nat, (∀ (y2 : Int32) (y3 : Int32) (v1 : tV) (H : Heap) (locs : List Loc) (ls : Array Slot), (30 - y3.toInt).toNat < n → Rg y2 0 7 → Rg y3 0 30 → Inv v1 → Kp v v1 → tI D dA ad v1 H → va_S (tA ad) s.heap H locs → lv_has ls 5 [(0, .ref (ad 40)), (1, .ref (ad 30)), (2, .int y2), (3, .int y3)] → W p l e ({ frames := 1, cells := 0, slots := 0, locals := 40 } : Room) s m ([.ref (ad 40), .ref (ad 30)] : List Value).toArray below meth c H locs 0 0 (MQ below (tQi D dA ad (fun r v' => Inv v' ∧ Kp v v' ∧ Rg r 0 7)) ([.ref (ad 40), .ref (ad 30)] : List Value).toArray s 0 0 (tA ad)) (F0 m 4 ls [])) := by
    intro n
    induction n with
    | zero => intros; omega
    | succ n ih =>
      have ih0 := ih
      intro y2 y3 v1 H locs ls hmu r_y2 r_y3 hI1 hK1 hw hS hl
      refine lv_iload_n hx hb d_X2_gather_4 rfl (lv_at hl 3 rfl) ?_
      refine lv_aload_n hx hb d_X2_gather_5 rfl (lv_at hl 1 rfl) ?_
      refine r_geti X hw FL_X2_32 (rfl : KD 30 = _) rfl d_X2_gather_6 ?_
      refine lv_topi (fun x1 ex1 => ?_)
      have r2 : Rg x1 0 30 := by rw [ex1]; exact hI1 _ _ _ _ rfl
      have hm3 : v1 30 4 = x1 := ex1.symm
      refine lv_icmp_ge (tgt := 96) hx hb d_X2_gather_9 (by decide) (fun c4 => ?_) (fun c4 => ?_)
      · have f5 := i_le c4
        refine lv_iload_n hx hb d_X2_gather_96 rfl (lv_at hl 2 rfl) ?_
        exact r_iret X hr hlocks hw hS ⟨hI1, hK1, r_y2⟩ d_X2_gather_97
      · have f6 := i_nle c4
        have r7 : Rg y3 0 29 := by obtain ⟨a1, a2⟩ := r_y3; obtain ⟨b1, b2⟩ := r2; have f := i_nle c4; exact ⟨by omega, by omega⟩
        have r8 : Rg x1 1 30 := by obtain ⟨a1, a2⟩ := r_y3; obtain ⟨b1, b2⟩ := r2; have f := i_nle c4; exact ⟨by omega, by omega⟩
        refine lv_iload_n hx hb d_X2_gather_12 rfl (lv_at hl 3 rfl) ?_
        refine lv_if_eq (tgt := 33) hx hb d_X2_gather_13 (by decide) (fun c9 => ?_) (fun c9 => ?_)
        · have f10 := i_eq c9
          have r11 : Rg y3 0 0 := by obtain ⟨a1, a2⟩ := r7; obtain ⟨b1, b2⟩ := (⟨by decide, by decide⟩ : Rg 0 0 0); have f := i_eq c9; exact ⟨by omega, by omega⟩
          refine lv_iconst (v := 1) hx hb d_X2_gather_33 (by decide) ?_
          refine lv_goto (tgt := 38) hx hb d_X2_gather_34 (by decide) ?_
          refine lv_istore (lv' := [(4, .int 1), (0, .ref (ad 40)), (1, .ref (ad 30)), (2, .int y2), (3, .int y3)]) hx hb d_X2_gather_38 hl (by decide) rfl (fun ls hl => ?_)
          refine lv_iload hx hb d_X2_gather_40 (lv_at hl 0 rfl) ?_
          refine lv_if_eq (tgt := 54) hx hb d_X2_gather_42 (by decide) (fun c12 => ?_) (fun c12 => ?_)
          · exact absurd c12 (by decide)
          · refine lv_iload_n hx hb d_X2_gather_45 rfl (lv_at hl 3 rfl) ?_
            refine lv_bipush (v := 7) hx hb d_X2_gather_46 (by decide) ?_
            refine lv_icmp_ne (tgt := 54) hx hb d_X2_gather_48 (by decide) (fun c13 => ?_) (fun c13 => ?_)
            · have f14 := i_ne c13
              have r15 : Rg y2 0 6 := by obtain ⟨a1, a2⟩ := r_y2; obtain ⟨b1, b2⟩ := (⟨by decide, by decide⟩ : Rg 7 7 7); have f := i_ne c13; exact ⟨by omega, by omega⟩
              refine lv_iload hx hb d_X2_gather_54 (lv_at hl 0 rfl) ?_
              refine lv_if_eq (tgt := 69) hx hb d_X2_gather_56 (by decide) (fun c16 => ?_) (fun c16 => ?_)
              · exact absurd c16 (by decide)
              · refine lv_aload_n hx hb d_X2_gather_59 rfl (lv_at hl 1 rfl) ?_
                refine r_getr (r := 41) X hw FL_X2_9 (rfl : KD 40 = _) rfl d_X2_gather_60 ?_
                refine lv_iload_n hx hb d_X2_gather_63 rfl (lv_at hl 3 rfl) ?_
                obtain ⟨x17, ex17⟩ : ∃ y : Int32, y = y2 + 1 := ⟨_, rfl⟩
                refine lv_iinc (v := x17) (lv' := [(2, .int x17), (4, .int 1), (0, .ref (ad 40)), (1, .ref (ad 30)), (3, .int y3)]) hx hb d_X2_gather_64 hl (k := 3) rfl (by rw [ex17]; rfl) (by decide) rfl (fun ls hl => ?_)
                have r18 : Rg x17 1 7 := rg_add ex17 r15 (⟨by decide, by decide⟩ : Rg 1 1 1) (by decide) (by decide)
                have s19 : x17.toInt = y2.toInt + (1 : Int32).toInt := by rw [ex17]; exact i_add (by obtain ⟨_, _⟩ := r15; obtain ⟨_, _⟩ := (⟨by decide, by decide⟩ : Rg 1 1 1); omega) (by obtain ⟨_, _⟩ := r15; obtain ⟨_, _⟩ := (⟨by decide, by decide⟩ : Rg 1 1 1); omega)
                have s19l : (1 : Int32).toInt = 1 := rfl
                refine lv_iconst (v := 0) hx hb d_X2_gather_67 (by decide) ?_
                refine r_iast X hw hS (rfl : KD 41 = _) (Rg.vp (b := 6) r15 (by decide)) rfl d_X2_gather_68 (fun H locs hw hS => ?_)
                obtain ⟨v20, ev20⟩ : ∃ z, z = up2 v1 41 y2.toNatClampNeg 0 := ⟨_, rfl⟩
                rw [← ev20] at hw
                have hI21 : Inv v20 := by rw [ev20]; exact Inv.put0 hI1 _ rfl
                have hK22 : Kp v v20 := by rw [ev20]; exact Kp.put hK1 _ rfl
                have hm23 : v20 30 4 = x1 := by rw [ev20, up2_n _ _ (by omega)]; exact hm3
                refine lv_iload_n hx hb d_X2_gather_69 rfl (lv_at hl 0 rfl) ?_
                refine lv_if_le (tgt := 90) hx hb d_X2_gather_70 (by decide) (fun c24 => ?_) (fun c24 => ?_)
                · exfalso
                  obtain ⟨a1, a2⟩ := r18; obtain ⟨b1, b2⟩ := (⟨by decide, by decide⟩ : Rg 0 0 0); have f := i_le c24; omega
                · have f25 := i_nle c24
                  refine lv_aload_n hx hb d_X2_gather_73 rfl (lv_at hl 2 rfl) ?_
                  refine r_getr (r := 41) X hw FL_X2_9 (rfl : KD 40 = _) rfl d_X2_gather_74 ?_
                  refine lv_iload_n hx hb d_X2_gather_77 rfl (lv_at hl 0 rfl) ?_
                  refine lv_iconst (v := 1) hx hb d_X2_gather_78 (by decide) ?_
                  refine lv_isub hx hb d_X2_gather_79 ?_
                  refine lv_topi (fun x26 ex26 => ?_)
                  have r27 : Rg x26 0 6 := rg_sub ex26 r18 (⟨by decide, by decide⟩ : Rg 1 1 1) (by decide) (by decide)
                  have s28 : x26.toInt = x17.toInt - (1 : Int32).toInt := by rw [ex26]; exact i_sub (by obtain ⟨_, _⟩ := r18; obtain ⟨_, _⟩ := (⟨by decide, by decide⟩ : Rg 1 1 1); omega) (by obtain ⟨_, _⟩ := r18; obtain ⟨_, _⟩ := (⟨by decide, by decide⟩ : Rg 1 1 1); omega)
                  have s28l : (1 : Int32).toInt = 1 := rfl
                  refine lv_dup2_11 hx hb d_X2_gather_80 rfl rfl ?_
                  refine r_iald X hw (rfl : KD 41 = _) (Rg.vp (b := 6) r27 (by decide)) rfl d_X2_gather_81 ?_
                  refine lv_topi (fun x29 ex29 => ?_)
                  refine lv_aload_n hx hb d_X2_gather_82 rfl (lv_at hl 3 rfl) ?_
                  refine r_getr (r := 36) X hw FL_X2_41 (rfl : KD 30 = _) rfl d_X2_gather_83 ?_
                  refine lv_iload_n hx hb d_X2_gather_86 rfl (lv_at hl 4 rfl) ?_
                  refine r_iald X hw (rfl : KD 36 = _) (Rg.vp (b := 0) r11 (by decide)) rfl d_X2_gather_87 ?_
                  refine lv_topi (fun x30 ex30 => ?_)
                  refine lv_iadd hx hb d_X2_gather_88 ?_
                  refine lv_topi (fun x31 ex31 => ?_)
                  refine r_iast X hw hS (rfl : KD 41 = _) (Rg.vp (b := 6) r27 (by decide)) rfl d_X2_gather_89 (fun H locs hw hS => ?_)
                  obtain ⟨v32, ev32⟩ : ∃ z, z = up2 v20 41 x26.toNatClampNeg x31 := ⟨_, rfl⟩
                  rw [← ev32] at hw
                  have hI33 : Inv v32 := by rw [ev32]; exact Inv.put0 hI21 _ rfl
                  have hK34 : Kp v v32 := by rw [ev32]; exact Kp.put hK22 _ rfl
                  have hm35 : v32 30 4 = x1 := by rw [ev32, up2_n _ _ (by omega)]; exact hm23
                  obtain ⟨x36, ex36⟩ : ∃ y : Int32, y = y3 + 1 := ⟨_, rfl⟩
                  refine lv_iinc (v := x36) (lv' := [(3, .int x36), (2, .int x17), (4, .int 1), (0, .ref (ad 40)), (1, .ref (ad 30))]) hx hb d_X2_gather_90 hl (k := 4) rfl (by rw [ex36]; rfl) (by decide) rfl (fun ls hl => ?_)
                  have r37 : Rg x36 1 1 := rg_add ex36 r11 (⟨by decide, by decide⟩ : Rg 1 1 1) (by decide) (by decide)
                  have s38 : x36.toInt = y3.toInt + (1 : Int32).toInt := by rw [ex36]; exact i_add (by obtain ⟨_, _⟩ := r11; obtain ⟨_, _⟩ := (⟨by decide, by decide⟩ : Rg 1 1 1); omega) (by obtain ⟨_, _⟩ := r11; obtain ⟨_, _⟩ := (⟨by decide, by decide⟩ : Rg 1 1 1); omega)
                  have s38l : (1 : Int32).toInt = 1 := rfl
                  refine lv_goto (tgt := 4) hx hb d_X2_gather_93 (by decide) ?_
                  exact ih0 x17 x36 v32 _ _ _ (by have q_ := r15; obtain ⟨_, _⟩ := q_; have q_ := r11; obtain ⟨_, _⟩ := q_; have q_ := r8; obtain ⟨_, _⟩ := q_; have q_ := r18; obtain ⟨_, _⟩ := q_; have q_ := r27; obtain ⟨_, _⟩ := q_; have q_ := r37; obtain ⟨_, _⟩ := q_; omega) (rg_w r18 (by decide) (by decide)) (rg_w r37 (by decide) (by decide)) hI33 hK34 hw hS (lv_sub hl [3, 4, 1, 0] rfl)
            · have f39 := i_eq c13
              have r40 : Rg y2 7 7 := by obtain ⟨a1, a2⟩ := r_y2; obtain ⟨b1, b2⟩ := (⟨by decide, by decide⟩ : Rg 7 7 7); have f := i_eq c13; exact ⟨by omega, by omega⟩
              refine lv_goto (tgt := 96) hx hb d_X2_gather_51 (by decide) ?_
              refine lv_iload_n hx hb d_X2_gather_96 rfl (lv_at hl 3 rfl) ?_
              exact r_iret X hr hlocks hw hS ⟨hI1, hK1, (rg_w r40 (by decide) (by decide))⟩ d_X2_gather_97
        · have f41 := i_ne c9
          have r42 : Rg y3 1 29 := by obtain ⟨a1, a2⟩ := r7; obtain ⟨b1, b2⟩ := (⟨by decide, by decide⟩ : Rg 0 0 0); have f := i_ne c9; exact ⟨by omega, by omega⟩
          refine lv_aload_n hx hb d_X2_gather_16 rfl (lv_at hl 1 rfl) ?_
          refine r_getr (r := 32) X hw FL_X2_38 (rfl : KD 30 = _) rfl d_X2_gather_17 ?_
          refine lv_iload_n hx hb d_X2_gather_20 rfl (lv_at hl 3 rfl) ?_
          refine r_iald X hw (rfl : KD 32 = _) (Rg.vp (b := 29) (rg_w r42 (by decide) (by decide)) (by decide)) rfl d_X2_gather_21 ?_
          refine lv_topi (fun x43 ex43 => ?_)
          refine lv_aload_n hx hb d_X2_gather_22 rfl (lv_at hl 1 rfl) ?_
          refine r_getr (r := 32) X hw FL_X2_38 (rfl : KD 30 = _) rfl d_X2_gather_23 ?_
          refine lv_iload_n hx hb d_X2_gather_26 rfl (lv_at hl 3 rfl) ?_
          refine lv_iconst (v := 1) hx hb d_X2_gather_27 (by decide) ?_
          refine lv_isub hx hb d_X2_gather_28 ?_
          refine lv_topi (fun x44 ex44 => ?_)
          have r45 : Rg x44 0 28 := rg_sub ex44 r42 (⟨by decide, by decide⟩ : Rg 1 1 1) (by decide) (by decide)
          have s46 : x44.toInt = y3.toInt - (1 : Int32).toInt := by rw [ex44]; exact i_sub (by obtain ⟨_, _⟩ := r42; obtain ⟨_, _⟩ := (⟨by decide, by decide⟩ : Rg 1 1 1); omega) (by obtain ⟨_, _⟩ := r42; obtain ⟨_, _⟩ := (⟨by decide, by decide⟩ : Rg 1 1 1); omega)
          have s46l : (1 : Int32).toInt = 1 := rfl
          refine r_iald X hw (rfl : KD 32 = _) (Rg.vp (b := 28) r45 (by decide)) rfl d_X2_gather_29 ?_
          refine lv_topi (fun x47 ex47 => ?_)
          refine lv_icmp_eq (tgt := 37) hx hb d_X2_gather_30 (by decide) (fun c48 => ?_) (fun c48 => ?_)
          · have f49 := i_eq c48
            refine lv_iconst (v := 0) hx hb d_X2_gather_37 (by decide) ?_
            refine lv_istore (lv' := [(4, .int 0), (0, .ref (ad 40)), (1, .ref (ad 30)), (2, .int y2), (3, .int y3)]) hx hb d_X2_gather_38 hl (by decide) rfl (fun ls hl => ?_)
            refine lv_iload hx hb d_X2_gather_40 (lv_at hl 0 rfl) ?_
            refine lv_if_eq (tgt := 54) hx hb d_X2_gather_42 (by decide) (fun c50 => ?_) (fun c50 => ?_)
            · refine lv_iload hx hb d_X2_gather_54 (lv_at hl 0 rfl) ?_
              refine lv_if_eq (tgt := 69) hx hb d_X2_gather_56 (by decide) (fun c51 => ?_) (fun c51 => ?_)
              · refine lv_iload_n hx hb d_X2_gather_69 rfl (lv_at hl 3 rfl) ?_
                refine lv_if_le (tgt := 90) hx hb d_X2_gather_70 (by decide) (fun c52 => ?_) (fun c52 => ?_)
                · have f53 := i_le c52
                  have r54 : Rg y2 0 0 := by obtain ⟨a1, a2⟩ := r_y2; obtain ⟨b1, b2⟩ := (⟨by decide, by decide⟩ : Rg 0 0 0); have f := i_le c52; exact ⟨by omega, by omega⟩
                  obtain ⟨x55, ex55⟩ : ∃ y : Int32, y = y3 + 1 := ⟨_, rfl⟩
                  refine lv_iinc (v := x55) (lv' := [(3, .int x55), (4, .int 0), (0, .ref (ad 40)), (1, .ref (ad 30)), (2, .int y2)]) hx hb d_X2_gather_90 hl (k := 4) rfl (by rw [ex55]; rfl) (by decide) rfl (fun ls hl => ?_)
                  have r56 : Rg x55 2 30 := rg_add ex55 r42 (⟨by decide, by decide⟩ : Rg 1 1 1) (by decide) (by decide)
                  have s57 : x55.toInt = y3.toInt + (1 : Int32).toInt := by rw [ex55]; exact i_add (by obtain ⟨_, _⟩ := r42; obtain ⟨_, _⟩ := (⟨by decide, by decide⟩ : Rg 1 1 1); omega) (by obtain ⟨_, _⟩ := r42; obtain ⟨_, _⟩ := (⟨by decide, by decide⟩ : Rg 1 1 1); omega)
                  have s57l : (1 : Int32).toInt = 1 := rfl
                  refine lv_goto (tgt := 4) hx hb d_X2_gather_93 (by decide) ?_
                  exact ih0 y2 x55 v1 _ _ _ (by have q_ := r54; obtain ⟨_, _⟩ := q_; have q_ := r42; obtain ⟨_, _⟩ := q_; have q_ := r8; obtain ⟨_, _⟩ := q_; have q_ := r45; obtain ⟨_, _⟩ := q_; have q_ := r56; obtain ⟨_, _⟩ := q_; omega) (rg_w r54 (by decide) (by decide)) (rg_w r56 (by decide) (by decide)) hI1 hK1 hw hS (lv_sub hl [2, 3, 4, 0] rfl)
                · have f58 := i_nle c52
                  have r59 : Rg y2 1 7 := by obtain ⟨a1, a2⟩ := r_y2; obtain ⟨b1, b2⟩ := (⟨by decide, by decide⟩ : Rg 0 0 0); have f := i_nle c52; exact ⟨by omega, by omega⟩
                  refine lv_aload_n hx hb d_X2_gather_73 rfl (lv_at hl 1 rfl) ?_
                  refine r_getr (r := 41) X hw FL_X2_9 (rfl : KD 40 = _) rfl d_X2_gather_74 ?_
                  refine lv_iload_n hx hb d_X2_gather_77 rfl (lv_at hl 3 rfl) ?_
                  refine lv_iconst (v := 1) hx hb d_X2_gather_78 (by decide) ?_
                  refine lv_isub hx hb d_X2_gather_79 ?_
                  refine lv_topi (fun x60 ex60 => ?_)
                  have r61 : Rg x60 0 6 := rg_sub ex60 r59 (⟨by decide, by decide⟩ : Rg 1 1 1) (by decide) (by decide)
                  have s62 : x60.toInt = y2.toInt - (1 : Int32).toInt := by rw [ex60]; exact i_sub (by obtain ⟨_, _⟩ := r59; obtain ⟨_, _⟩ := (⟨by decide, by decide⟩ : Rg 1 1 1); omega) (by obtain ⟨_, _⟩ := r59; obtain ⟨_, _⟩ := (⟨by decide, by decide⟩ : Rg 1 1 1); omega)
                  have s62l : (1 : Int32).toInt = 1 := rfl
                  refine lv_dup2_11 hx hb d_X2_gather_80 rfl rfl ?_
                  refine r_iald X hw (rfl : KD 41 = _) (Rg.vp (b := 6) r61 (by decide)) rfl d_X2_gather_81 ?_
                  refine lv_topi (fun x63 ex63 => ?_)
                  refine lv_aload_n hx hb d_X2_gather_82 rfl (lv_at hl 2 rfl) ?_
                  refine r_getr (r := 36) X hw FL_X2_41 (rfl : KD 30 = _) rfl d_X2_gather_83 ?_
                  refine lv_iload_n hx hb d_X2_gather_86 rfl (lv_at hl 4 rfl) ?_
                  refine r_iald X hw (rfl : KD 36 = _) (Rg.vp (b := 29) (rg_w r42 (by decide) (by decide)) (by decide)) rfl d_X2_gather_87 ?_
                  refine lv_topi (fun x64 ex64 => ?_)
                  refine lv_iadd hx hb d_X2_gather_88 ?_
                  refine lv_topi (fun x65 ex65 => ?_)
                  refine r_iast X hw hS (rfl : KD 41 = _) (Rg.vp (b := 6) r61 (by decide)) rfl d_X2_gather_89 (fun H locs hw hS => ?_)
                  obtain ⟨v66, ev66⟩ : ∃ z, z = up2 v1 41 x60.toNatClampNeg x65 := ⟨_, rfl⟩
                  rw [← ev66] at hw
                  have hI67 : Inv v66 := by rw [ev66]; exact Inv.put0 hI1 _ rfl
                  have hK68 : Kp v v66 := by rw [ev66]; exact Kp.put hK1 _ rfl
                  have hm69 : v66 30 4 = x1 := by rw [ev66, up2_n _ _ (by omega)]; exact hm3
                  obtain ⟨x70, ex70⟩ : ∃ y : Int32, y = y3 + 1 := ⟨_, rfl⟩
                  refine lv_iinc (v := x70) (lv' := [(3, .int x70), (4, .int 0), (0, .ref (ad 40)), (1, .ref (ad 30)), (2, .int y2)]) hx hb d_X2_gather_90 hl (k := 4) rfl (by rw [ex70]; rfl) (by decide) rfl (fun ls hl => ?_)
                  have r71 : Rg x70 2 30 := rg_add ex70 r42 (⟨by decide, by decide⟩ : Rg 1 1 1) (by decide) (by decide)
                  have s72 : x70.toInt = y3.toInt + (1 : Int32).toInt := by rw [ex70]; exact i_add (by obtain ⟨_, _⟩ := r42; obtain ⟨_, _⟩ := (⟨by decide, by decide⟩ : Rg 1 1 1); omega) (by obtain ⟨_, _⟩ := r42; obtain ⟨_, _⟩ := (⟨by decide, by decide⟩ : Rg 1 1 1); omega)
                  have s72l : (1 : Int32).toInt = 1 := rfl
                  refine lv_goto (tgt := 4) hx hb d_X2_gather_93 (by decide) ?_
                  exact ih0 y2 x70 v66 _ _ _ (by have q_ := r59; obtain ⟨_, _⟩ := q_; have q_ := r42; obtain ⟨_, _⟩ := q_; have q_ := r8; obtain ⟨_, _⟩ := q_; have q_ := r45; obtain ⟨_, _⟩ := q_; have q_ := r61; obtain ⟨_, _⟩ := q_; have q_ := r71; obtain ⟨_, _⟩ := q_; omega) (rg_w r59 (by decide) (by decide)) (rg_w r71 (by decide) (by decide)) hI67 hK68 hw hS (lv_sub hl [2, 3, 4, 0] rfl)
              · exact absurd c51 (by decide)
            · exact absurd c50 (by decide)
          · have f73 := i_ne c48
            refine lv_iconst (v := 1) hx hb d_X2_gather_33 (by decide) ?_
            refine lv_goto (tgt := 38) hx hb d_X2_gather_34 (by decide) ?_
            refine lv_istore (lv' := [(4, .int 1), (0, .ref (ad 40)), (1, .ref (ad 30)), (2, .int y2), (3, .int y3)]) hx hb d_X2_gather_38 hl (by decide) rfl (fun ls hl => ?_)
            refine lv_iload hx hb d_X2_gather_40 (lv_at hl 0 rfl) ?_
            refine lv_if_eq (tgt := 54) hx hb d_X2_gather_42 (by decide) (fun c74 => ?_) (fun c74 => ?_)
            · exact absurd c74 (by decide)
            · refine lv_iload_n hx hb d_X2_gather_45 rfl (lv_at hl 3 rfl) ?_
              refine lv_bipush (v := 7) hx hb d_X2_gather_46 (by decide) ?_
              refine lv_icmp_ne (tgt := 54) hx hb d_X2_gather_48 (by decide) (fun c75 => ?_) (fun c75 => ?_)
              · have f76 := i_ne c75
                have r77 : Rg y2 0 6 := by obtain ⟨a1, a2⟩ := r_y2; obtain ⟨b1, b2⟩ := (⟨by decide, by decide⟩ : Rg 7 7 7); have f := i_ne c75; exact ⟨by omega, by omega⟩
                refine lv_iload hx hb d_X2_gather_54 (lv_at hl 0 rfl) ?_
                refine lv_if_eq (tgt := 69) hx hb d_X2_gather_56 (by decide) (fun c78 => ?_) (fun c78 => ?_)
                · exact absurd c78 (by decide)
                · refine lv_aload_n hx hb d_X2_gather_59 rfl (lv_at hl 1 rfl) ?_
                  refine r_getr (r := 41) X hw FL_X2_9 (rfl : KD 40 = _) rfl d_X2_gather_60 ?_
                  refine lv_iload_n hx hb d_X2_gather_63 rfl (lv_at hl 3 rfl) ?_
                  obtain ⟨x79, ex79⟩ : ∃ y : Int32, y = y2 + 1 := ⟨_, rfl⟩
                  refine lv_iinc (v := x79) (lv' := [(2, .int x79), (4, .int 1), (0, .ref (ad 40)), (1, .ref (ad 30)), (3, .int y3)]) hx hb d_X2_gather_64 hl (k := 3) rfl (by rw [ex79]; rfl) (by decide) rfl (fun ls hl => ?_)
                  have r80 : Rg x79 1 7 := rg_add ex79 r77 (⟨by decide, by decide⟩ : Rg 1 1 1) (by decide) (by decide)
                  have s81 : x79.toInt = y2.toInt + (1 : Int32).toInt := by rw [ex79]; exact i_add (by obtain ⟨_, _⟩ := r77; obtain ⟨_, _⟩ := (⟨by decide, by decide⟩ : Rg 1 1 1); omega) (by obtain ⟨_, _⟩ := r77; obtain ⟨_, _⟩ := (⟨by decide, by decide⟩ : Rg 1 1 1); omega)
                  have s81l : (1 : Int32).toInt = 1 := rfl
                  refine lv_iconst (v := 0) hx hb d_X2_gather_67 (by decide) ?_
                  refine r_iast X hw hS (rfl : KD 41 = _) (Rg.vp (b := 6) r77 (by decide)) rfl d_X2_gather_68 (fun H locs hw hS => ?_)
                  obtain ⟨v82, ev82⟩ : ∃ z, z = up2 v1 41 y2.toNatClampNeg 0 := ⟨_, rfl⟩
                  rw [← ev82] at hw
                  have hI83 : Inv v82 := by rw [ev82]; exact Inv.put0 hI1 _ rfl
                  have hK84 : Kp v v82 := by rw [ev82]; exact Kp.put hK1 _ rfl
                  have hm85 : v82 30 4 = x1 := by rw [ev82, up2_n _ _ (by omega)]; exact hm3
                  refine lv_iload_n hx hb d_X2_gather_69 rfl (lv_at hl 0 rfl) ?_
                  refine lv_if_le (tgt := 90) hx hb d_X2_gather_70 (by decide) (fun c86 => ?_) (fun c86 => ?_)
                  · exfalso
                    obtain ⟨a1, a2⟩ := r80; obtain ⟨b1, b2⟩ := (⟨by decide, by decide⟩ : Rg 0 0 0); have f := i_le c86; omega
                  · have f87 := i_nle c86
                    refine lv_aload_n hx hb d_X2_gather_73 rfl (lv_at hl 2 rfl) ?_
                    refine r_getr (r := 41) X hw FL_X2_9 (rfl : KD 40 = _) rfl d_X2_gather_74 ?_
                    refine lv_iload_n hx hb d_X2_gather_77 rfl (lv_at hl 0 rfl) ?_
                    refine lv_iconst (v := 1) hx hb d_X2_gather_78 (by decide) ?_
                    refine lv_isub hx hb d_X2_gather_79 ?_
                    refine lv_topi (fun x88 ex88 => ?_)
                    have r89 : Rg x88 0 6 := rg_sub ex88 r80 (⟨by decide, by decide⟩ : Rg 1 1 1) (by decide) (by decide)
                    have s90 : x88.toInt = x79.toInt - (1 : Int32).toInt := by rw [ex88]; exact i_sub (by obtain ⟨_, _⟩ := r80; obtain ⟨_, _⟩ := (⟨by decide, by decide⟩ : Rg 1 1 1); omega) (by obtain ⟨_, _⟩ := r80; obtain ⟨_, _⟩ := (⟨by decide, by decide⟩ : Rg 1 1 1); omega)
                    have s90l : (1 : Int32).toInt = 1 := rfl
                    refine lv_dup2_11 hx hb d_X2_gather_80 rfl rfl ?_
                    refine r_iald X hw (rfl : KD 41 = _) (Rg.vp (b := 6) r89 (by decide)) rfl d_X2_gather_81 ?_
                    refine lv_topi (fun x91 ex91 => ?_)
                    refine lv_aload_n hx hb d_X2_gather_82 rfl (lv_at hl 3 rfl) ?_
                    refine r_getr (r := 36) X hw FL_X2_41 (rfl : KD 30 = _) rfl d_X2_gather_83 ?_
                    refine lv_iload_n hx hb d_X2_gather_86 rfl (lv_at hl 4 rfl) ?_
                    refine r_iald X hw (rfl : KD 36 = _) (Rg.vp (b := 29) (rg_w r42 (by decide) (by decide)) (by decide)) rfl d_X2_gather_87 ?_
                    refine lv_topi (fun x92 ex92 => ?_)
                    refine lv_iadd hx hb d_X2_gather_88 ?_
                    refine lv_topi (fun x93 ex93 => ?_)
                    refine r_iast X hw hS (rfl : KD 41 = _) (Rg.vp (b := 6) r89 (by decide)) rfl d_X2_gather_89 (fun H locs hw hS => ?_)
                    obtain ⟨v94, ev94⟩ : ∃ z, z = up2 v82 41 x88.toNatClampNeg x93 := ⟨_, rfl⟩
                    rw [← ev94] at hw
                    have hI95 : Inv v94 := by rw [ev94]; exact Inv.put0 hI83 _ rfl
                    have hK96 : Kp v v94 := by rw [ev94]; exact Kp.put hK84 _ rfl
                    have hm97 : v94 30 4 = x1 := by rw [ev94, up2_n _ _ (by omega)]; exact hm85
                    obtain ⟨x98, ex98⟩ : ∃ y : Int32, y = y3 + 1 := ⟨_, rfl⟩
                    refine lv_iinc (v := x98) (lv' := [(3, .int x98), (2, .int x79), (4, .int 1), (0, .ref (ad 40)), (1, .ref (ad 30))]) hx hb d_X2_gather_90 hl (k := 4) rfl (by rw [ex98]; rfl) (by decide) rfl (fun ls hl => ?_)
                    have r99 : Rg x98 2 30 := rg_add ex98 r42 (⟨by decide, by decide⟩ : Rg 1 1 1) (by decide) (by decide)
                    have s100 : x98.toInt = y3.toInt + (1 : Int32).toInt := by rw [ex98]; exact i_add (by obtain ⟨_, _⟩ := r42; obtain ⟨_, _⟩ := (⟨by decide, by decide⟩ : Rg 1 1 1); omega) (by obtain ⟨_, _⟩ := r42; obtain ⟨_, _⟩ := (⟨by decide, by decide⟩ : Rg 1 1 1); omega)
                    have s100l : (1 : Int32).toInt = 1 := rfl
                    refine lv_goto (tgt := 4) hx hb d_X2_gather_93 (by decide) ?_
                    exact ih0 x79 x98 v94 _ _ _ (by have q_ := r77; obtain ⟨_, _⟩ := q_; have q_ := r42; obtain ⟨_, _⟩ := q_; have q_ := r8; obtain ⟨_, _⟩ := q_; have q_ := r45; obtain ⟨_, _⟩ := q_; have q_ := r80; obtain ⟨_, _⟩ := q_; have q_ := r89; obtain ⟨_, _⟩ := q_; have q_ := r99; obtain ⟨_, _⟩ := q_; omega) (rg_w r80 (by decide) (by decide)) (rg_w r99 (by decide) (by decide)) hI95 hK96 hw hS (lv_sub hl [3, 4, 1, 0] rfl)
              · have f101 := i_eq c75
                have r102 : Rg y2 7 7 := by obtain ⟨a1, a2⟩ := r_y2; obtain ⟨b1, b2⟩ := (⟨by decide, by decide⟩ : Rg 7 7 7); have f := i_eq c75; exact ⟨by omega, by omega⟩
                refine lv_goto (tgt := 96) hx hb d_X2_gather_51 (by decide) ?_
                refine lv_iload_n hx hb d_X2_gather_96 rfl (lv_at hl 3 rfl) ?_
                exact r_iret X hr hlocks hw hS ⟨hI1, hK1, (rg_w r102 (by decide) (by decide))⟩ d_X2_gather_97
  have ih0 := LL 100000
  have hK0 : Kp v v := Kp.rf v
  refine lv_iconst (v := 0) hx hb d_X2_gather_0 (by decide) ?_
  refine lv_istore_n (lv' := [(2, .int 0), (0, .ref (ad 40)), (1, .ref (ad 30))]) hx hb d_X2_gather_1 rfl hl (by decide) rfl (fun ls hl => ?_)
  refine lv_iconst (v := 0) hx hb d_X2_gather_2 (by decide) ?_
  refine lv_istore_n (lv' := [(3, .int 0), (2, .int 0), (0, .ref (ad 40)), (1, .ref (ad 30))]) hx hb d_X2_gather_3 rfl hl (by decide) rfl (fun ls hl => ?_)
  exact ih0 0 0 v _ _ _ (by have q_ : (0 : Int32).toInt = 0 := rfl; have q_ : (0 : Int32).toInt = 0 := rfl; omega) (rg_w (⟨by decide, by decide⟩ : Rg 0 0 0) (by decide) (by decide)) (rg_w (⟨by decide, by decide⟩ : Rg 0 0 0) (by decide) (by decide)) hI hK0 hw hS (lv_sub hl [2, 3, 1, 0] rfl)
theorem d_X2_hours_0 : decode c_X2_hours 0 = .ok (.aload_n 0, 1) := by decide +kernel
theorem d_X2_hours_1 : decode c_X2_hours 1 = .ok (.aload_n 1, 1) := by decide +kernel
theorem d_X2_hours_2 : decode c_X2_hours 2 = .ok (.invokevirtual 18, 3) := by decide +kernel
theorem d_X2_hours_5 : decode c_X2_hours 5 = .ok (.istore_n 3, 1) := by decide +kernel
theorem d_X2_hours_6 : decode c_X2_hours 6 = .ok (.iconst 0, 1) := by decide +kernel
theorem d_X2_hours_7 : decode c_X2_hours 7 = .ok (.istore 4, 2) := by decide +kernel
theorem d_X2_hours_9 : decode c_X2_hours 9 = .ok (.iconst 0, 1) := by decide +kernel
theorem d_X2_hours_10 : decode c_X2_hours 10 = .ok (.istore 5, 2) := by decide +kernel
theorem d_X2_hours_12 : decode c_X2_hours 12 = .ok (.iload 5, 2) := by decide +kernel
theorem d_X2_hours_14 : decode c_X2_hours 14 = .ok (.iload_n 3, 1) := by decide +kernel
theorem d_X2_hours_15 : decode c_X2_hours 15 = .ok (.if_icmp .ge 41, 3) := by decide +kernel
theorem d_X2_hours_18 : decode c_X2_hours 18 = .ok (.aload_n 0, 1) := by decide +kernel
theorem d_X2_hours_19 : decode c_X2_hours 19 = .ok (.getfield 9, 3) := by decide +kernel
theorem d_X2_hours_22 : decode c_X2_hours 22 = .ok (.iload 5, 2) := by decide +kernel
theorem d_X2_hours_24 : decode c_X2_hours 24 = .ok (.aload_n 0, 1) := by decide +kernel
theorem d_X2_hours_25 : decode c_X2_hours 25 = .ok (.getfield 9, 3) := by decide +kernel
theorem d_X2_hours_28 : decode c_X2_hours 28 = .ok (.iload 5, 2) := by decide +kernel
theorem d_X2_hours_30 : decode c_X2_hours 30 = .ok (.iaload, 1) := by decide +kernel
theorem d_X2_hours_31 : decode c_X2_hours 31 = .ok (.bipush 9, 2) := by decide +kernel
theorem d_X2_hours_33 : decode c_X2_hours 33 = .ok (.iadd, 1) := by decide +kernel
theorem d_X2_hours_34 : decode c_X2_hours 34 = .ok (.bipush 10, 2) := by decide +kernel
theorem d_X2_hours_36 : decode c_X2_hours 36 = .ok (.idiv, 1) := by decide +kernel
theorem d_X2_hours_37 : decode c_X2_hours 37 = .ok (.iastore, 1) := by decide +kernel
theorem d_X2_hours_38 : decode c_X2_hours 38 = .ok (.iload 4, 2) := by decide +kernel
theorem d_X2_hours_40 : decode c_X2_hours 40 = .ok (.aload_n 0, 1) := by decide +kernel
theorem d_X2_hours_41 : decode c_X2_hours 41 = .ok (.getfield 9, 3) := by decide +kernel
theorem d_X2_hours_44 : decode c_X2_hours 44 = .ok (.iload 5, 2) := by decide +kernel
theorem d_X2_hours_46 : decode c_X2_hours 46 = .ok (.iaload, 1) := by decide +kernel
theorem d_X2_hours_47 : decode c_X2_hours 47 = .ok (.iadd, 1) := by decide +kernel
theorem d_X2_hours_48 : decode c_X2_hours 48 = .ok (.istore 4, 2) := by decide +kernel
theorem d_X2_hours_50 : decode c_X2_hours 50 = .ok (.iinc 5 1, 3) := by decide +kernel
theorem d_X2_hours_53 : decode c_X2_hours 53 = .ok (.goto (-41), 3) := by decide +kernel
theorem d_X2_hours_56 : decode c_X2_hours 56 = .ok (.aload_n 0, 1) := by decide +kernel
theorem d_X2_hours_57 : decode c_X2_hours 57 = .ok (.getfield 15, 3) := by decide +kernel
theorem d_X2_hours_60 : decode c_X2_hours 60 = .ok (.iconst 0, 1) := by decide +kernel
theorem d_X2_hours_61 : decode c_X2_hours 61 = .ok (.invokestatic 22, 3) := by decide +kernel
theorem d_X2_hours_64 : decode c_X2_hours 64 = .ok (.aload_n 0, 1) := by decide +kernel
theorem d_X2_hours_65 : decode c_X2_hours 65 = .ok (.getfield 9, 3) := by decide +kernel
theorem d_X2_hours_68 : decode c_X2_hours 68 = .ok (.iload_n 3, 1) := by decide +kernel
theorem d_X2_hours_69 : decode c_X2_hours 69 = .ok (.aload_n 0, 1) := by decide +kernel
theorem d_X2_hours_70 : decode c_X2_hours 70 = .ok (.getfield 15, 3) := by decide +kernel
theorem d_X2_hours_73 : decode c_X2_hours 73 = .ok (.iload_n 2, 1) := by decide +kernel
theorem d_X2_hours_74 : decode c_X2_hours 74 = .ok (.iload 4, 2) := by decide +kernel
theorem d_X2_hours_76 : decode c_X2_hours 76 = .ok (.invokestatic 28, 3) := by decide +kernel
theorem d_X2_hours_79 : decode c_X2_hours 79 = .ok (.ireturn, 1) := by decide +kernel
set_option maxHeartbeats 4000000 in
set_option maxRecDepth 100000 in
theorem ct_X2_hours_40_30 (l : Launch) (D : va_G) (dA : Nat → ClassId) (ad : Nat → Nat) (v : tV) (hI : Inv v) (gg : Int32) (r_gg : Rg gg 1 3) : Met l m_X2_hours [.code m_X2_hours c_X2_hours 6 (some .int)] ({ frames := 10, cells := 0, slots := 0, locals := 279 } : Room) (tP D dA ad v [.ref (ad 40), .ref (ad 30), .int gg]) (tQi D dA ad (fun r v' => Inv v' ∧ Kp v v')) 0 0 (tA ad) := by
  refine tMet (by decide) (Nat.le_of_ble_eq_true rfl) ?_
  intro p e s m below meth c ls X hr hlocks hw hl
  have X : CX p s m ([.ref (ad 40), .ref (ad 30), .int gg] : List Value).toArray c c_X2_hours N_X2 6 D dA := X
  have hx := X.1
  have hb := X.2.1
  have hS : va_S (tA ad) s.heap s.heap [] := va_S.rf
  have hl : lv_has ls 6 [(0, .ref (ad 40)), (1, .ref (ad 30)), (2, .int gg)] := hl
  have LL : ∀ n : Nat, (∀ (y3 : Int32) (y4 : Int32) (y5 : Int32) (v1 : tV) (H : Heap) (locs : List Loc) (ls : Array Slot), (7 - y5.toInt).toNat < n → Rg y3 0 7 → Rg y5 0 7 → Inv v1 → Kp v v1 → tI D dA ad v1 H → va_S (tA ad) s.heap H locs → lv_has ls 6 [(0, .ref (ad 40)), (1, .ref (ad 30)), (2, .int gg), (3, .int y3), (4, .int y4), (5, .int y5)] → W p l e ({ frames := 10, cells := 0, slots := 0, locals := 279 } : Room) s m ([.ref (ad 40), .ref (ad 30), .int gg] : List Value).toArray below meth c H locs 0 0 (MQ below (tQi D dA ad (fun r v' => Inv v' ∧ Kp v v')) ([.ref (ad 40), .ref (ad 30), .int gg] : List Value).toArray s 0 0 (tA ad)) (F0 m 12 ls [])) := by
    intro n
    induction n with
    | zero => intros; omega
    | succ n ih =>
      have ih0 := ih
      intro y3 y4 y5 v1 H locs ls hmu r_y3 r_y5 hI1 hK1 hw hS hl
      refine lv_iload hx hb d_X2_hours_12 (lv_at hl 5 rfl) ?_
      refine lv_iload_n hx hb d_X2_hours_14 rfl (lv_at hl 3 rfl) ?_
      refine lv_icmp_ge (tgt := 56) hx hb d_X2_hours_15 (by decide) (fun c1 => ?_) (fun c1 => ?_)
      · have f2 := i_le c1
        refine lv_aload_n hx hb d_X2_hours_56 rfl (lv_at hl 0 rfl) ?_
        refine r_getr (r := 42) X hw FL_X2_15 (rfl : KD 40 = _) rfl d_X2_hours_57 ?_
        refine lv_iconst (v := 0) hx hb d_X2_hours_60 (by decide) ?_
        refine r_cv (r_runS2 (n := 2) (As := [.ref (ad 42), .int 0]) (rest := []) X hw (ct_J7_fill_53178_42 l D dA ad v1 hI1 0) gc_X2_22 (by decide +kernel) ⟨rfl, rfl, Nat.le_of_ble_eq_true rfl, Nat.le_of_ble_eq_true rfl⟩ rfl hl.1 rfl (Nat.le_of_ble_eq_true rfl) ⟨Nat.zero_le _, Nat.zero_le _⟩ d_X2_hours_61) hS (fun v4 H locs hp3 hw hS => ?_)
        obtain ⟨hI5, hK6⟩ := hp3
        have hK7 : Kp v v4 := Kp.tr hK1 hK6
        refine lv_aload_n hx hb d_X2_hours_64 rfl (lv_at hl 0 rfl) ?_
        refine r_getr (r := 41) X hw FL_X2_9 (rfl : KD 40 = _) rfl d_X2_hours_65 ?_
        refine lv_iload_n hx hb d_X2_hours_68 rfl (lv_at hl 3 rfl) ?_
        refine lv_aload_n hx hb d_X2_hours_69 rfl (lv_at hl 0 rfl) ?_
        refine r_getr (r := 42) X hw FL_X2_15 (rfl : KD 40 = _) rfl d_X2_hours_70 ?_
        refine lv_iload_n hx hb d_X2_hours_73 rfl (lv_at hl 2 rfl) ?_
        refine lv_iload hx hb d_X2_hours_74 (lv_at hl 4 rfl) ?_
        refine r_ci (r_runS (n := 5) (As := [.ref (ad 41), .int y3, .ref (ad 42), .int gg, .int y4]) (rest := []) X hw (ct_X2_leastHours_7 l D dA ad v4 hI5 y3 gg y4 r_y3 r_gg) gc_X2_28 (by decide +kernel) ⟨rfl, rfl, Nat.le_of_ble_eq_true rfl, Nat.le_of_ble_eq_true rfl⟩ rfl hl.1 rfl (Nat.le_of_ble_eq_true rfl) ⟨Nat.zero_le _, Nat.zero_le _⟩ d_X2_hours_76) hS (fun x9 v10 H locs hp8 hw hS => ?_)
        obtain ⟨hI11, hK12⟩ := hp8
        have hK13 : Kp v v10 := Kp.tr hK7 hK12
        exact r_iret X hr hlocks hw hS ⟨hI11, hK13⟩ d_X2_hours_79
      · have f14 := i_nle c1
        have r15 : Rg y5 0 6 := by obtain ⟨a1, a2⟩ := r_y5; obtain ⟨b1, b2⟩ := r_y3; have f := i_nle c1; exact ⟨by omega, by omega⟩
        have r16 : Rg y3 1 7 := by obtain ⟨a1, a2⟩ := r_y5; obtain ⟨b1, b2⟩ := r_y3; have f := i_nle c1; exact ⟨by omega, by omega⟩
        refine lv_aload_n hx hb d_X2_hours_18 rfl (lv_at hl 0 rfl) ?_
        refine r_getr (r := 41) X hw FL_X2_9 (rfl : KD 40 = _) rfl d_X2_hours_19 ?_
        refine lv_iload hx hb d_X2_hours_22 (lv_at hl 5 rfl) ?_
        refine lv_aload_n hx hb d_X2_hours_24 rfl (lv_at hl 0 rfl) ?_
        refine r_getr (r := 41) X hw FL_X2_9 (rfl : KD 40 = _) rfl d_X2_hours_25 ?_
        refine lv_iload hx hb d_X2_hours_28 (lv_at hl 5 rfl) ?_
        refine r_iald X hw (rfl : KD 41 = _) (Rg.vp (b := 6) r15 (by decide)) rfl d_X2_hours_30 ?_
        refine lv_topi (fun x17 ex17 => ?_)
        refine lv_bipush (v := 9) hx hb d_X2_hours_31 (by decide) ?_
        refine lv_iadd hx hb d_X2_hours_33 ?_
        refine lv_topi (fun x18 ex18 => ?_)
        refine lv_bipush (v := 10) hx hb d_X2_hours_34 (by decide) ?_
        refine lv_idiv hx hb d_X2_hours_36 (by decide) ?_
        refine lv_topi (fun x19 ex19 => ?_)
        refine r_iast X hw hS (rfl : KD 41 = _) (Rg.vp (b := 6) r15 (by decide)) rfl d_X2_hours_37 (fun H locs hw hS => ?_)
        obtain ⟨v20, ev20⟩ : ∃ z, z = up2 v1 41 y5.toNatClampNeg x19 := ⟨_, rfl⟩
        rw [← ev20] at hw
        have hI21 : Inv v20 := by rw [ev20]; exact Inv.put0 hI1 _ rfl
        have hK22 : Kp v v20 := by rw [ev20]; exact Kp.put hK1 _ rfl
        refine lv_iload hx hb d_X2_hours_38 (lv_at hl 4 rfl) ?_
        refine lv_aload_n hx hb d_X2_hours_40 rfl (lv_at hl 0 rfl) ?_
        refine r_getr (r := 41) X hw FL_X2_9 (rfl : KD 40 = _) rfl d_X2_hours_41 ?_
        refine lv_iload hx hb d_X2_hours_44 (lv_at hl 5 rfl) ?_
        refine r_iald X hw (rfl : KD 41 = _) (Rg.vp (b := 6) r15 (by decide)) rfl d_X2_hours_46 ?_
        refine lv_topi (fun x23 ex23 => ?_)
        refine lv_iadd hx hb d_X2_hours_47 ?_
        refine lv_topi (fun x24 ex24 => ?_)
        refine lv_istore (lv' := [(4, .int x24), (0, .ref (ad 40)), (1, .ref (ad 30)), (2, .int gg), (3, .int y3), (5, .int y5)]) hx hb d_X2_hours_48 hl (by decide) rfl (fun ls hl => ?_)
        obtain ⟨x25, ex25⟩ : ∃ y : Int32, y = y5 + 1 := ⟨_, rfl⟩
        refine lv_iinc (v := x25) (lv' := [(5, .int x25), (4, .int x24), (0, .ref (ad 40)), (1, .ref (ad 30)), (2, .int gg), (3, .int y3)]) hx hb d_X2_hours_50 hl (k := 5) rfl (by rw [ex25]; rfl) (by decide) rfl (fun ls hl => ?_)
        have r26 : Rg x25 1 7 := rg_add ex25 r15 (⟨by decide, by decide⟩ : Rg 1 1 1) (by decide) (by decide)
        have s27 : x25.toInt = y5.toInt + (1 : Int32).toInt := by rw [ex25]; exact i_add (by obtain ⟨_, _⟩ := r15; obtain ⟨_, _⟩ := (⟨by decide, by decide⟩ : Rg 1 1 1); omega) (by obtain ⟨_, _⟩ := r15; obtain ⟨_, _⟩ := (⟨by decide, by decide⟩ : Rg 1 1 1); omega)
        have s27l : (1 : Int32).toInt = 1 := rfl
        refine lv_goto (tgt := 12) hx hb d_X2_hours_53 (by decide) ?_
        exact ih0 y3 x24 x25 v20 _ _ _ (by have q_ := r_gg; obtain ⟨_, _⟩ := q_; have q_ := r16; obtain ⟨_, _⟩ := q_; have q_ := r15; obtain ⟨_, _⟩ := q_; have q_ := r26; obtain ⟨_, _⟩ := q_; have q_ := rg_any x24; obtain ⟨_, _⟩ := q_; omega) (rg_w r16 (by decide) (by decide)) (rg_w r26 (by decide) (by decide)) hI21 hK22 hw hS (lv_sub hl [2, 3, 4, 5, 1, 0] rfl)
  have ih0 := LL 100000
  have hK0 : Kp v v := Kp.rf v
  refine lv_aload_n hx hb d_X2_hours_0 rfl (lv_at hl 0 rfl) ?_
  refine lv_aload_n hx hb d_X2_hours_1 rfl (lv_at hl 1 rfl) ?_
  refine r_ci (r_runV (n := 1) (As := [.ref (ad 30)]) (rest := []) X hw (ct_X2_gather_40_30 l D dA ad v hI) gc_X2_18 (rfl : KD 40 = _) (by decide) rfl (by decide +kernel) ⟨rfl, rfl, Nat.le_of_ble_eq_true rfl, Nat.le_of_ble_eq_true rfl⟩ rfl hl.1 rfl (Nat.le_of_ble_eq_true rfl) ⟨Nat.zero_le _, Nat.zero_le _⟩ d_X2_hours_2) hS (fun x29 v30 H locs hp28 hw hS => ?_)
  obtain ⟨hI31, hK32, hp28⟩ := hp28
  have hK33 : Kp v v30 := Kp.tr hK0 hK32
  refine lv_istore_n (lv' := [(3, .int x29), (0, .ref (ad 40)), (1, .ref (ad 30)), (2, .int gg)]) hx hb d_X2_hours_5 rfl hl (by decide) rfl (fun ls hl => ?_)
  refine lv_iconst (v := 0) hx hb d_X2_hours_6 (by decide) ?_
  refine lv_istore (lv' := [(4, .int 0), (3, .int x29), (0, .ref (ad 40)), (1, .ref (ad 30)), (2, .int gg)]) hx hb d_X2_hours_7 hl (by decide) rfl (fun ls hl => ?_)
  refine lv_iconst (v := 0) hx hb d_X2_hours_9 (by decide) ?_
  refine lv_istore (lv' := [(5, .int 0), (4, .int 0), (3, .int x29), (0, .ref (ad 40)), (1, .ref (ad 30)), (2, .int gg)]) hx hb d_X2_hours_10 hl (by decide) rfl (fun ls hl => ?_)
  exact ih0 x29 0 0 v30 _ _ _ (by have q_ := r_gg; obtain ⟨_, _⟩ := q_; have q_ := hp28; obtain ⟨_, _⟩ := q_; have q_ : (0 : Int32).toInt = 0 := rfl; have q_ : (0 : Int32).toInt = 0 := rfl; omega) hp28 (rg_w (⟨by decide, by decide⟩ : Rg 0 0 0) (by decide) (by decide)) hI31 hK33 hw hS (lv_sub hl [3, 4, 5, 2, 1, 0] rfl)
theorem d_X10_clear_0 : decode c_X10_clear 0 = .ok (.iload_n 1, 1) := by decide +kernel
theorem d_X10_clear_1 : decode c_X10_clear 1 = .ok (.iconst 1, 1) := by decide +kernel
theorem d_X10_clear_2 : decode c_X10_clear 2 = .ok (.iconst 3, 1) := by decide +kernel
theorem d_X10_clear_3 : decode c_X10_clear 3 = .ok (.invokestatic 74, 3) := by decide +kernel
theorem d_X10_clear_6 : decode c_X10_clear 6 = .ok (.ifCond .ne 6, 3) := by decide +kernel
theorem d_X10_clear_9 : decode c_X10_clear 9 = .ok (.bipush (-2), 2) := by decide +kernel
theorem d_X10_clear_11 : decode c_X10_clear 11 = .ok (.ireturn, 1) := by decide +kernel
theorem d_X10_clear_12 : decode c_X10_clear 12 = .ok (.aload_n 0, 1) := by decide +kernel
theorem d_X10_clear_13 : decode c_X10_clear 13 = .ok (.getfield 45, 3) := by decide +kernel
theorem d_X10_clear_16 : decode c_X10_clear 16 = .ok (.aload_n 0, 1) := by decide +kernel
theorem d_X10_clear_17 : decode c_X10_clear 17 = .ok (.getfield 35, 3) := by decide +kernel
theorem d_X10_clear_20 : decode c_X10_clear 20 = .ok (.iload_n 1, 1) := by decide +kernel
theorem d_X10_clear_21 : decode c_X10_clear 21 = .ok (.invokevirtual 234, 3) := by decide +kernel
theorem d_X10_clear_24 : decode c_X10_clear 24 = .ok (.ireturn, 1) := by decide +kernel
set_option maxHeartbeats 4000000 in
set_option maxRecDepth 100000 in
theorem ct_X10_clear_0 (l : Launch) (D : va_G) (dA : Nat → ClassId) (ad : Nat → Nat) (v : tV) (hI : Inv v) (gg : Int32) : Met l m_X10_clear [.code m_X10_clear c_X10_clear 2 (some .int)] ({ frames := 11, cells := 0, slots := 0, locals := 304 } : Room) (tP D dA ad v [.ref (ad 0), .int gg]) (tQi D dA ad (fun r v' => Inv v' ∧ Kp v v')) 0 0 (tA ad) := by
  refine tMet (by decide) (Nat.le_of_ble_eq_true rfl) ?_
  intro p e s m below meth c ls X hr hlocks hw hl
  have X : CX p s m ([.ref (ad 0), .int gg] : List Value).toArray c c_X10_clear N_X10 2 D dA := X
  have hx := X.1
  have hb := X.2.1
  have hS : va_S (tA ad) s.heap s.heap [] := va_S.rf
  have hl : lv_has ls 2 [(0, .ref (ad 0)), (1, .int gg)] := hl
  have hK0 : Kp v v := Kp.rf v
  refine lv_iload_n hx hb d_X10_clear_0 rfl (lv_at hl 1 rfl) ?_
  refine lv_iconst (v := 1) hx hb d_X10_clear_1 (by decide) ?_
  refine lv_iconst (v := 3) hx hb d_X10_clear_2 (by decide) ?_
  refine r_ci (r_runS (n := 3) (As := [.int gg, .int 1, .int 3]) (rest := []) X hw (ct_X10_within l D dA ad v hI gg 1 3) gc_X10_74 (by decide +kernel) ⟨rfl, rfl, Nat.le_of_ble_eq_true rfl, Nat.le_of_ble_eq_true rfl⟩ rfl hl.1 rfl (Nat.le_of_ble_eq_true rfl) ⟨Nat.zero_le _, Nat.zero_le _⟩ d_X10_clear_3) hS (fun x2 v3 H locs hp1 hw hS => ?_)
  obtain ⟨ev3, hp1⟩ := hp1
  rw [ev3] at hw
  rcases hp1 with ⟨rfl, w4a, w4b⟩ | ⟨rfl, w4n⟩
  · skip
    have r5 : Rg gg 1 3 := by obtain ⟨_, _⟩ := (rg_any gg); have : (1 : Int32).toInt = 1 := rfl; have : (3 : Int32).toInt = 3 := rfl; exact ⟨by omega, by omega⟩
    refine lv_if_ne (tgt := 12) hx hb d_X10_clear_6 (by decide) (fun c6 => ?_) (fun c6 => ?_)
    · refine lv_aload_n hx hb d_X10_clear_12 rfl (lv_at hl 0 rfl) ?_
      refine r_getr (r := 40) X hw FL_X10_45 (rfl : KD 0 = _) rfl d_X10_clear_13 ?_
      refine lv_aload_n hx hb d_X10_clear_16 rfl (lv_at hl 0 rfl) ?_
      refine r_getr (r := 30) X hw FL_X10_35 (rfl : KD 0 = _) rfl d_X10_clear_17 ?_
      refine lv_iload_n hx hb d_X10_clear_20 rfl (lv_at hl 1 rfl) ?_
      refine r_ci (r_runV (n := 2) (As := [.ref (ad 30), .int gg]) (rest := []) X hw (ct_X2_hours_40_30 l D dA ad v hI gg r5) gc_X10_234 (rfl : KD 40 = _) (by decide) rfl (by decide +kernel) ⟨rfl, rfl, Nat.le_of_ble_eq_true rfl, Nat.le_of_ble_eq_true rfl⟩ rfl hl.1 rfl (Nat.le_of_ble_eq_true rfl) ⟨Nat.zero_le _, Nat.zero_le _⟩ d_X10_clear_21) hS (fun x8 v9 H locs hp7 hw hS => ?_)
      obtain ⟨hI10, hK11⟩ := hp7
      have hK12 : Kp v v9 := Kp.tr hK0 hK11
      exact r_iret X hr hlocks hw hS ⟨hI10, hK12⟩ d_X10_clear_24
    · exact absurd c6 (by decide)
  · skip
    refine lv_if_ne (tgt := 12) hx hb d_X10_clear_6 (by decide) (fun c13 => ?_) (fun c13 => ?_)
    · exact absurd c13 (by decide)
    · refine lv_bipush (v := -2) hx hb d_X10_clear_9 (by decide) ?_
      exact r_iret X hr hlocks hw hS ⟨hI, hK0⟩ d_X10_clear_11
