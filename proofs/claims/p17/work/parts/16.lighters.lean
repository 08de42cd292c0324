def N_J7 : String := "java/util/Arrays"
abbrev c_J7_fill_53178 : ByteArray := prog_19_method_103_code
def m_J7_fill_53178 : MethodName := ⟨"java/util/Arrays", "fill", "([II)V"⟩
set_option maxRecDepth 1000000 in
theorem gc_X2_22 : GoodIn BIG [.methodLink N_X2 22 m_J7_fill_53178, .static m_J7_fill_53178, .initialized m_J7_fill_53178.cls, .code m_J7_fill_53178 c_J7_fill_53178 4 none] := tb_good5 [748, 749, 55, 750] rfl (by decide +kernel) (by decide +kernel)
section R16
variable {p : Program} {l : Launch} {e : Env} {R : Room} {s : State} {m : MethodId} {args : Array Value} {below : List Frame} {meth : Method} {c : Code} {H : Heap} {locs : List Loc} {cells slots : Nat} {Q : State → Prop}
variable {cc : ByteArray} {pc : Nat} {ls : Array Slot} {rest st0 : List Value} {D : va_G} {dA : Nat → ClassId} {ad : Nat → Nat} {v : tV} {own : String} {nL : Nat}
theorem r_alen (X : CX p s m args c cc own nL D dA) (hw : tI D dA ad v H) {k n : Nat} {z : Int32} (hk : KD k = some (12, n)) (hz : Int32.ofNat n = z) (hd : decode cc pc = .ok (.arraylength, 1))
    (kk : W p l e R s m args below meth c H locs cells slots Q (F0 m (pc + 1) ls (.int z :: rest))) : W p l e R s m args below meth c H locs cells slots Q (F0 m pc ls (.ref (ad k) :: rest)) := by
  obtain ⟨hx, hb, hml, hown, hts, hK, hB⟩ := X
  refine W.alen (n := z) hx hb (tw_arr hw hk (by decide)) ((hK.2 0 (dA 12, .int) rfl).1 n (tw_u ad v k)) ?_ rfl rfl hd kk
  rw [arrV_size]
  exact hz
theorem r_runS2 (X : CX p s m args c cc own nL D dA) (hw : tI D dA ad v H) {y : MethodName} {bytes : ByteArray} {maxL index n : Nat} {ret : Option FieldType} {rm : Room} {As : List Value} {Qc : Array Value → State → Outcome → State → Prop}
    (hM : Met l y [.code y bytes maxL ret] rm (tP D dA ad v As) Qc 0 0 (tA ad)) (hG : GoodIn BIG [.methodLink own index y, .static y, .initialized y.cls, .code y bytes maxL ret])
    (hy : y.cls ≠ "java/lang/invoke/MethodHandle" ∧ y.cls ≠ "java/lang/invoke/VarHandle" ∧ (parseMethodDescriptor y.desc).map (fun d => d.parameters.length) = some n) (hrm : RmOk R rm maxL) (hn : As.length = n) (hsz : ls.size = nL) (hst : st0 = As.reverse ++ rest) (hroom : (rest.map fun v => v.category).sum ≤ 8) (hcap : cells ≤ R.cells ∧ slots ≤ R.slots) (hd : decode cc pc = .ok (.invokestatic index, 3)) :
    va_Run p l e R s m args below meth c H locs cells slots 0 0 (F0 m pc ls st0) rest (Qc As.toArray) (tA ad) := by
  obtain ⟨hx, hb, hml, hown, hts, hK⟩ := X
  have h1 : GoodIn BIG [.code y bytes maxL ret] := fun w hw => hG w (by simp only [List.mem_singleton] at hw; subst hw; simp)
  exact va_runS (As := As) (rest := rest) ⟨hx, hb, hml, hown, hts⟩ hM ⟨callB_of n hts h1 rfl hrm.1 hrm.2.1 (hts _ (hG _ (by simp)).1) (hts _ (hG _ (by simp)).1) hy ⟨hrm.2.2.1, hrm.2.2.2⟩, hts _ (hG _ (by simp)).1⟩ ⟨tP.blind, fun U hU hW => ⟨rfl, by rw [hU]; exact hw, hK.warm hW⟩⟩ rfl hn hsz hst (lv_room hroom) hd hcap
end R16
theorem d_J7_fill_53178_0 : decode c_J7_fill_53178 0 = .ok (.iconst 0, 1) := by decide +kernel
theorem d_J7_fill_53178_1 : decode c_J7_fill_53178 1 = .ok (.istore_n 2, 1) := by decide +kernel
theorem d_J7_fill_53178_2 : decode c_J7_fill_53178 2 = .ok (.aload_n 0, 1) := by decide +kernel
theorem d_J7_fill_53178_3 : decode c_J7_fill_53178 3 = .ok (.arraylength, 1) := by decide +kernel
theorem d_J7_fill_53178_4 : decode c_J7_fill_53178 4 = .ok (.istore_n 3, 1) := by decide +kernel
theorem d_J7_fill_53178_5 : decode c_J7_fill_53178 5 = .ok (.iload_n 2, 1) := by decide +kernel
theorem d_J7_fill_53178_6 : decode c_J7_fill_53178 6 = .ok (.iload_n 3, 1) := by decide +kernel
theorem d_J7_fill_53178_7 : decode c_J7_fill_53178 7 = .ok (.if_icmp .ge 13, 3) := by decide +kernel
theorem d_J7_fill_53178_10 : decode c_J7_fill_53178 10 = .ok (.aload_n 0, 1) := by decide +kernel
theorem d_J7_fill_53178_11 : decode c_J7_fill_53178 11 = .ok (.iload_n 2, 1) := by decide +kernel
theorem d_J7_fill_53178_12 : decode c_J7_fill_53178 12 = .ok (.iload_n 1, 1) := by decide +kernel
theorem d_J7_fill_53178_13 : decode c_J7_fill_53178 13 = .ok (.iastore, 1) := by decide +kernel
theorem d_J7_fill_53178_14 : decode c_J7_fill_53178 14 = .ok (.iinc 2 1, 3) := by decide +kernel
theorem d_J7_fill_53178_17 : decode c_J7_fill_53178 17 = .ok (.goto (-12), 3) := by decide +kernel
theorem d_J7_fill_53178_20 : decode c_J7_fill_53178 20 = .ok (.return_, 1) := by decide +kernel
def kp_J7_fill_53178_42 (vl : Int32) (a j : Nat) : Prop := a ≠ 42
def b_J7_fill_53178_42_5 (vl : Int32) (rc5 : Int32 → Int32 → tV → tV) (y2 : Int32) (y3 : Int32) (v1 : tV) : tV := (if y3 ≤ y2 then v1 else bnd (up2 v1 42 (y2.toNatClampNeg) vl) fun v6 => bnd (y2 + 1) fun x9 => rc5 x9 y3 v6)
def g_J7_fill_53178_42_5 (vl : Int32) : Nat → Int32 → Int32 → tV → tV
  | 0, _, _, v1 => v1
  | n + 1, y2, y3, v1 => b_J7_fill_53178_42_5 vl (g_J7_fill_53178_42_5 vl n) y2 y3 v1
def f_J7_fill_53178_42 (v : tV) (vl : Int32) : tV := g_J7_fill_53178_42_5 vl 100000 0 3 v
set_option maxHeartbeats 4000000 in
set_option maxRecDepth 100000 in
theorem ct_J7_fill_53178_42 (l : Launch) (D : va_G) (dA : Nat → ClassId) (ad : Nat → Nat) (v : tV) (hI : Inv v) (vl : Int32) : Met l m_J7_fill_53178 [.code m_J7_fill_53178 c_J7_fill_53178 4 none] ({ frames := 1, cells := 0, slots := 0, locals := 40 } : Room) (tP D dA ad v [.ref (ad 42), .int vl]) (tQv D dA ad (fun v' => (Inv v' ∧ Kp (kp_J7_fill_53178_42 vl) v v') ∧ v' = f_J7_fill_53178_42 v vl)) 0 0 (tA ad) := by
  refine tMet (by decide) (Nat.le_of_ble_eq_true rfl) ?_
  intro p e s m below meth c ls X hr hlocks hw hl
  have X : CX p s m ([.ref (ad 42), .int vl] : List Value).toArray c c_J7_fill_53178 N_J7 4 D dA := X
  have hx := X.1
  have hb := X.2.1
  have hS : va_S (tA ad) s.heap s.heap [] := va_S.rf
  have hl : lv_has ls 4 [(0, .ref (ad 42)), (1, .int vl)] := hl
  obtain ⟨RR, eRR⟩ : ∃ z, f_J7_fill_53178_42 v vl = z := ⟨_, rfl⟩
  have LL : ∀ n : Nat, (∀ (y2 : Int32) (y3 : Int32) (v1 : tV) (H : Heap) (locs : List Loc) (ls : Array Slot), (3 - y2.toInt).toNat < n → Rg y2 0 3 → Rg y3 3 3 → Inv v1 → Kp (kp_J7_fill_53178_42 vl) v v1 → g_J7_fill_53178_42_5 vl n y2 y3 v1 = RR → tI D dA ad v1 H → va_S (tA ad) s.heap H locs → lv_has ls 4 [(0, .ref (ad 42)), (1, .int vl), (2, .int y2), (3, .int y3)] → W p l e ({ frames := 1, cells := 0, slots := 0, locals := 40 } : Room) s m ([.ref (ad 42), .int vl] : List Value).toArray below meth c H locs 0 0 (MQ below (tQv D dA ad (fun v' => (Inv v' ∧ Kp (kp_J7_fill_53178_42 vl) v v') ∧ v' = f_J7_fill_53178_42 v vl)) ([.ref (ad 42), .int vl] : List Value).toArray s 0 0 (tA ad)) (F0 m 5 ls [])) := by
    intro n
    induction n with
    | zero => intros; omega
    | succ n ih =>
      have ih0 := ih
      intro y2 y3 v1 H locs ls hmu r_y2 r_y3 hI1 hK1 hG hw hS hl
      have hG : b_J7_fill_53178_42_5 vl (g_J7_fill_53178_42_5 vl n) y2 y3 v1 = RR := hG
      unfold b_J7_fill_53178_42_5 at hG
      refine lv_iload_n hx hb d_J7_fill_53178_5 rfl (lv_at hl 2 rfl) ?_
      refine lv_iload_n hx hb d_J7_fill_53178_6 rfl (lv_at hl 3 rfl) ?_
      refine lv_icmp_ge (tgt := 20) hx hb d_J7_fill_53178_7 (by decide) (fun c1 => ?_) (fun c1 => ?_)
      · have f2 := i_le c1
        have r3 : Rg y2 3 3 := by obtain ⟨a1, a2⟩ := r_y2; obtain ⟨b1, b2⟩ := r_y3; have f := i_le c1; exact ⟨by omega, by omega⟩
        have hG := g_pos c1 hG
        exact r_vret X hr hlocks hw hS ⟨⟨hI1, hK1⟩, hG.trans eRR.symm⟩ d_J7_fill_53178_20
      · have f4 := i_nle c1
        have r5 : Rg y2 0 2 := by obtain ⟨a1, a2⟩ := r_y2; obtain ⟨b1, b2⟩ := r_y3; have f := i_nle c1; exact ⟨by omega, by omega⟩
        have hG := g_neg c1 hG
        refine lv_aload_n hx hb d_J7_fill_53178_10 rfl (lv_at hl 0 rfl) ?_
        refine lv_iload_n hx hb d_J7_fill_53178_11 rfl (lv_at hl 2 rfl) ?_
        refine lv_iload_n hx hb d_J7_fill_53178_12 rfl (lv_at hl 1 rfl) ?_
        refine r_iast X hw hS (rfl : KD 42 = _) (Rg.vp (b := 2) r5 (by decide)) rfl d_J7_fill_53178_13 (fun H locs hw hS => ?_)
        obtain ⟨v6, ev6⟩ : ∃ z, z = up2 v1 42 y2.toNatClampNeg vl := ⟨_, rfl⟩
        rw [← ev6] at hw
        have hG := bnd_use ev6 hG
        have hI7 : Inv v6 := by rw [ev6]; exact Inv.put0 hI1 _ rfl
        have hK8 : Kp (kp_J7_fill_53178_42 vl) v v6 := by rw [ev6]; exact Kp.put hK1 _ (by unfold kp_J7_fill_53178_42; omega)
        obtain ⟨x9, ex9⟩ : ∃ y : Int32, y = y2 + 1 := ⟨_, rfl⟩
        have hG := bnd_use ex9 hG
        refine lv_iinc (v := x9) (lv' := [(2, .int x9), (0, .ref (ad 42)), (1, .int vl), (3, .int y3)]) hx hb d_J7_fill_53178_14 hl (k := 2) rfl (by rw [ex9]; rfl) (by decide) rfl (fun ls hl => ?_)
        have r10 : Rg x9 1 3 := rg_add ex9 r5 (⟨by decide, by decide⟩ : Rg 1 1 1) (by decide) (by decide)
        have s11 : x9.toInt = y2.toInt + (1 : Int32).toInt := by rw [ex9]; exact i_add (by obtain ⟨_, _⟩ := r5; obtain ⟨_, _⟩ := (⟨by decide, by decide⟩ : Rg 1 1 1); omega) (by obtain ⟨_, _⟩ := r5; obtain ⟨_, _⟩ := (⟨by decide, by decide⟩ : Rg 1 1 1); omega)
        have s11l : (1 : Int32).toInt = 1 := rfl
        refine lv_goto (tgt := 5) hx hb d_J7_fill_53178_17 (by decide) ?_
        exact ih0 x9 y3 v6 _ _ _ (by have q_ := r5; obtain ⟨_, _⟩ := q_; have q_ := r_y3; obtain ⟨_, _⟩ := q_; have q_ := r10; obtain ⟨_, _⟩ := q_; have q_ := rg_any vl; obtain ⟨_, _⟩ := q_; omega) (rg_w r10 (by decide) (by decide)) r_y3 hI7 hK8 hG hw hS (lv_sub hl [1, 2, 0, 3] rfl)
  have ih0 := LL 100000
  have hK0 : Kp (kp_J7_fill_53178_42 vl) v v := Kp.rf _ v
  have hG := eRR
  unfold f_J7_fill_53178_42 at hG
  refine lv_iconst (v := 0) hx hb d_J7_fill_53178_0 (by decide) ?_
  refine lv_istore_n (lv' := [(2, .int 0), (0, .ref (ad 42)), (1, .int vl)]) hx hb d_J7_fill_53178_1 rfl hl (by decide) rfl (fun ls hl => ?_)
  refine lv_aload_n hx hb d_J7_fill_53178_2 rfl (lv_at hl 1 rfl) ?_
  refine r_alen (z := 3) X hw (rfl : KD 42 = _) rfl d_J7_fill_53178_3 ?_
  refine lv_istore_n (lv' := [(3, .int 3), (2, .int 0), (0, .ref (ad 42)), (1, .int vl)]) hx hb d_J7_fill_53178_4 rfl hl (by decide) rfl (fun ls hl => ?_)
  exact ih0 0 3 v _ _ _ (by have q_ := rg_any vl; obtain ⟨_, _⟩ := q_; have q_ : (0 : Int32).toInt = 0 := rfl; have q_ : (3 : Int32).toInt = 3 := rfl; omega) (rg_w (⟨by decide, by decide⟩ : Rg 0 0 0) (by decide) (by decide)) (⟨by decide, by decide⟩ : Rg 3 3 3) hI hK0 hG hw hS (lv_sub hl [2, 3, 1, 0] rfl)
theorem d_X2_longest_0 : decode c_X2_longest 0 = .ok (.iconst 0, 1) := by decide +kernel
theorem d_X2_longest_1 : decode c_X2_longest 1 = .ok (.istore_n 2, 1) := by decide +kernel
theorem d_X2_longest_2 : decode c_X2_longest 2 = .ok (.iconst 0, 1) := by decide +kernel
theorem d_X2_longest_3 : decode c_X2_longest 3 = .ok (.istore_n 3, 1) := by decide +kernel
theorem d_X2_longest_4 : decode c_X2_longest 4 = .ok (.iload_n 3, 1) := by decide +kernel
theorem d_X2_longest_5 : decode c_X2_longest 5 = .ok (.iload_n 1, 1) := by decide +kernel
theorem d_X2_longest_6 : decode c_X2_longest 6 = .ok (.if_icmp .ge 17, 3) := by decide +kernel
theorem d_X2_longest_9 : decode c_X2_longest 9 = .ok (.iload_n 2, 1) := by decide +kernel
theorem d_X2_longest_10 : decode c_X2_longest 10 = .ok (.aload_n 0, 1) := by decide +kernel
theorem d_X2_longest_11 : decode c_X2_longest 11 = .ok (.iload_n 3, 1) := by decide +kernel
theorem d_X2_longest_12 : decode c_X2_longest 12 = .ok (.iaload, 1) := by decide +kernel
theorem d_X2_longest_13 : decode c_X2_longest 13 = .ok (.invokestatic 54, 3) := by decide +kernel
theorem d_X2_longest_16 : decode c_X2_longest 16 = .ok (.istore_n 2, 1) := by decide +kernel
theorem d_X2_longest_17 : decode c_X2_longest 17 = .ok (.iinc 3 1, 3) := by decide +kernel
theorem d_X2_longest_20 : decode c_X2_longest 20 = .ok (.goto (-16), 3) := by decide +kernel
theorem d_X2_longest_23 : decode c_X2_longest 23 = .ok (.iload_n 2, 1) := by decide +kernel
theorem d_X2_longest_24 : decode c_X2_longest 24 = .ok (.ireturn, 1) := by decide +kernel
def b_X2_longest_42_4 (v : tV) (gg : Int32) (rc4 : Int32 → Int32 → Int32) (y2 : Int32) (y3 : Int32) : Int32 := (if gg ≤ y3 then y2 else bnd (v 42 y3.toNatClampNeg) fun x6 => bnd (if y2 < x6 then x6 else y2) fun x7 => bnd (y3 + 1) fun x8 => rc4 x7 x8)
def g_X2_longest_42_4 (v : tV) (gg : Int32) : Nat → Int32 → Int32 → Int32
  | 0, _, _ => 0
  | n + 1, y2, y3 => b_X2_longest_42_4 v gg (g_X2_longest_42_4 v gg n) y2 y3
def f_X2_longest_42 (v : tV) (gg : Int32) : Int32 := g_X2_longest_42_4 v gg 100000 0 0
set_option maxHeartbeats 4000000 in
set_option maxRecDepth 100000 in
theorem ct_X2_longest_42 (l : Launch) (D : va_G) (dA : Nat → ClassId) (ad : Nat → Nat) (v : tV) (hI : Inv v) (gg : Int32) (r_gg : Rg gg 1 3) : Met l m_X2_longest [.code m_X2_longest c_X2_longest 4 (some .int)] ({ frames := 1, cells := 0, slots := 0, locals := 40 } : Room) (tP D dA ad v [.ref (ad 42), .int gg]) (tQi D dA ad (fun r v' => (v' = v) ∧ r = f_X2_longest_42 v gg)) 0 0 (tA ad) := by
  refine tMet (by decide) (Nat.le_of_ble_eq_true rfl) ?_
  intro p e s m below meth c ls X hr hlocks hw hl
  have X : CX p s m ([.ref (ad 42), .int gg] : List Value).toArray c c_X2_longest N_X2 4 D dA := X
  have hx := X.1
  have hb := X.2.1
  have hS : va_S (tA ad) s.heap s.heap [] := va_S.rf
  have hl : lv_has ls 4 [(0, .ref (ad 42)), (1, .int gg)] := hl
  obtain ⟨RR, eRR⟩ : ∃ z, f_X2_longest_42 v gg = z := ⟨_, rfl⟩
  have LL : ∀ n : Nat, (∀ (y2 : Int32) (y3 : Int32)  (H : Heap) (locs : List Loc) (ls : Array Slot), (3 - y3.toInt).toNat < n → Rg y3 0 3 → g_X2_longest_42_4 v gg n y2 y3 = RR → tI D dA ad v H → va_S (tA ad) s.heap H locs → lv_has ls 4 [(0, .ref (ad 42)), (1, .int gg), (2, .int y2), (3, .int y3)] → W p l e ({ frames := 1, cells := 0, slots := 0, locals := 40 } : Room) s m ([.ref (ad 42), .int gg] : List Value).toArray below meth c H locs 0 0 (MQ below (tQi D dA ad (fun r v' => (v' = v) ∧ r = f_X2_longest_42 v gg)) ([.ref (ad 42), .int gg] : List Value).toArray s 0 0 (tA ad)) (F0 m 4 ls [])) := by
    intro n
    induction n with
    | zero => intros; omega
    | succ n ih =>
      have ih0 := ih
      intro y2 y3 H locs ls hmu r_y3 hG hw hS hl
      have hG : b_X2_longest_42_4 v gg (g_X2_longest_42_4 v gg n) y2 y3 = RR := hG
      unfold b_X2_longest_42_4 at hG
      refine lv_iload_n hx hb d_X2_longest_4 rfl (lv_at hl 3 rfl) ?_
      refine lv_iload_n hx hb d_X2_longest_5 rfl (lv_at hl 1 rfl) ?_
      refine lv_icmp_ge (tgt := 23) hx hb d_X2_longest_6 (by decide) (fun c1 => ?_) (fun c1 => ?_)
      · have f2 := i_le c1
        have r3 : Rg y3 1 3 := by obtain ⟨a1, a2⟩ := r_y3; obtain ⟨b1, b2⟩ := r_gg; have f := i_le c1; exact ⟨by omega, by omega⟩
        have hG := g_pos c1 hG
        refine lv_iload_n hx hb d_X2_longest_23 rfl (lv_at hl 2 rfl) ?_
        exact r_iret X hr hlocks hw hS ⟨rfl, hG.trans eRR.symm⟩ d_X2_longest_24
      · have f4 := i_nle c1
        have r5 : Rg y3 0 2 := by obtain ⟨a1, a2⟩ := r_y3; obtain ⟨b1, b2⟩ := r_gg; have f := i_nle c1; exact ⟨by omega, by omega⟩
        have hG := g_neg c1 hG
        refine lv_iload_n hx hb d_X2_longest_9 rfl (lv_at hl 2 rfl) ?_
        refine lv_aload_n hx hb d_X2_longest_10 rfl (lv_at hl 0 rfl) ?_
        refine lv_iload_n hx hb d_X2_longest_11 rfl (lv_at hl 3 rfl) ?_
        refine r_iald X hw (rfl : KD 42 = _) (Rg.vp (b := 2) r5 (by decide)) rfl d_X2_longest_12 ?_
        refine lv_topi (fun x6 ex6 => ?_)
        have hG := bnd_use ex6 hG
        refine va_mmax hx hb (X.2.2.1.trans hl.1.symm) X.2.2.2.1 (X.2.2.2.2.1 _ ml_X2_54) (X.2.2.2.2.1 _ ml_maxs) (X.2.2.2.2.1 _ ml_mi) (X.2.2.2.2.1 _ ml_maxc) (Nat.le_of_ble_eq_true rfl) (Nat.le_of_ble_eq_true rfl) (Nat.zero_le _) (Nat.zero_le _) d_X2_longest_13 ?_
        refine lv_topi (fun x7 ex7 => ?_)
        have hG := bnd_use ex7 hG
        refine lv_istore_n (lv' := [(2, .int x7), (0, .ref (ad 42)), (1, .int gg), (3, .int y3)]) hx hb d_X2_longest_16 rfl hl (by decide) rfl (fun ls hl => ?_)
        obtain ⟨x8, ex8⟩ : ∃ y : Int32, y = y3 + 1 := ⟨_, rfl⟩
        have hG := bnd_use ex8 hG
        refine lv_iinc (v := x8) (lv' := [(3, .int x8), (2, .int x7), (0, .ref (ad 42)), (1, .int gg)]) hx hb d_X2_longest_17 hl (k := 3) rfl (by rw [ex8]; rfl) (by decide) rfl (fun ls hl => ?_)
        have r9 : Rg x8 1 3 := rg_add ex8 r5 (⟨by decide, by decide⟩ : Rg 1 1 1) (by decide) (by decide)
        have s10 : x8.toInt = y3.toInt + (1 : Int32).toInt := by rw [ex8]; exact i_add (by obtain ⟨_, _⟩ := r5; obtain ⟨_, _⟩ := (⟨by decide, by decide⟩ : Rg 1 1 1); omega) (by obtain ⟨_, _⟩ := r5; obtain ⟨_, _⟩ := (⟨by decide, by decide⟩ : Rg 1 1 1); omega)
        have s10l : (1 : Int32).toInt = 1 := rfl
        refine lv_goto (tgt := 4) hx hb d_X2_longest_20 (by decide) ?_
        exact ih0 x7 x8 _ _ _ (by have q_ := r_gg; obtain ⟨_, _⟩ := q_; have q_ := r5; obtain ⟨_, _⟩ := q_; have q_ := r9; obtain ⟨_, _⟩ := q_; have q_ := rg_any x7; obtain ⟨_, _⟩ := q_; omega) (rg_w r9 (by decide) (by decide)) hG hw hS (lv_sub hl [2, 3, 1, 0] rfl)
  have ih0 := LL 100000
  have hG := eRR
  unfold f_X2_longest_42 at hG
  refine lv_iconst (v := 0) hx hb d_X2_longest_0 (by decide) ?_
  refine lv_istore_n (lv' := [(2, .int 0), (0, .ref (ad 42)), (1, .int gg)]) hx hb d_X2_longest_1 rfl hl (by decide) rfl (fun ls hl => ?_)
  refine lv_iconst (v := 0) hx hb d_X2_longest_2 (by decide) ?_
  refine lv_istore_n (lv' := [(3, .int 0), (2, .int 0), (0, .ref (ad 42)), (1, .int gg)]) hx hb d_X2_longest_3 rfl hl (by decide) rfl (fun ls hl => ?_)
  exact ih0 0 0 _ _ _ (by have q_ := r_gg; obtain ⟨_, _⟩ := q_; have q_ : (0 : Int32).toInt = 0 := rfl; have q_ : (0 : Int32).toInt = 0 := rfl; omega) (rg_w (⟨by decide, by decide⟩ : Rg 0 0 0) (by decide) (by decide)) hG hw hS (lv_sub hl [2, 3, 1, 0] rfl)
theorem d_X2_leastHours_0 : decode c_X2_leastHours 0 = .ok (.iload_n 1, 1) := by decide +kernel
theorem d_X2_leastHours_1 : decode c_X2_leastHours 1 = .ok (.ifCond .gt 9, 3) := by decide +kernel
theorem d_X2_leastHours_4 : decode c_X2_leastHours 4 = .ok (.aload_n 2, 1) := by decide +kernel
theorem d_X2_leastHours_5 : decode c_X2_leastHours 5 = .ok (.iload_n 3, 1) := by decide +kernel
theorem d_X2_leastHours_6 : decode c_X2_leastHours 6 = .ok (.invokestatic 44, 3) := by decide +kernel
theorem d_X2_leastHours_9 : decode c_X2_leastHours 9 = .ok (.ireturn, 1) := by decide +kernel
theorem d_X2_leastHours_10 : decode c_X2_leastHours 10 = .ok (.aload_n 0, 1) := by decide +kernel
theorem d_X2_leastHours_11 : decode c_X2_leastHours 11 = .ok (.iload_n 1, 1) := by decide +kernel
theorem d_X2_leastHours_12 : decode c_X2_leastHours 12 = .ok (.iconst 1, 1) := by decide +kernel
theorem d_X2_leastHours_13 : decode c_X2_leastHours 13 = .ok (.isub, 1) := by decide +kernel
theorem d_X2_leastHours_14 : decode c_X2_leastHours 14 = .ok (.iaload, 1) := by decide +kernel
theorem d_X2_leastHours_15 : decode c_X2_leastHours 15 = .ok (.istore 5, 2) := by decide +kernel
theorem d_X2_leastHours_17 : decode c_X2_leastHours 17 = .ok (.iload 4, 2) := by decide +kernel
theorem d_X2_leastHours_19 : decode c_X2_leastHours 19 = .ok (.istore 6, 2) := by decide +kernel
theorem d_X2_leastHours_21 : decode c_X2_leastHours 21 = .ok (.iconst 0, 1) := by decide +kernel
theorem d_X2_leastHours_22 : decode c_X2_leastHours 22 = .ok (.istore 7, 2) := by decide +kernel
theorem d_X2_leastHours_24 : decode c_X2_leastHours 24 = .ok (.iload 7, 2) := by decide +kernel
theorem d_X2_leastHours_26 : decode c_X2_leastHours 26 = .ok (.iload_n 3, 1) := by decide +kernel
theorem d_X2_leastHours_27 : decode c_X2_leastHours 27 = .ok (.if_icmp .ge 60, 3) := by decide +kernel
theorem d_X2_leastHours_30 : decode c_X2_leastHours 30 = .ok (.aload_n 2, 1) := by decide +kernel
theorem d_X2_leastHours_31 : decode c_X2_leastHours 31 = .ok (.iload 7, 2) := by decide +kernel
theorem d_X2_leastHours_33 : decode c_X2_leastHours 33 = .ok (.iaload, 1) := by decide +kernel
theorem d_X2_leastHours_34 : decode c_X2_leastHours 34 = .ok (.iload 5, 2) := by decide +kernel
theorem d_X2_leastHours_36 : decode c_X2_leastHours 36 = .ok (.iadd, 1) := by decide +kernel
theorem d_X2_leastHours_37 : decode c_X2_leastHours 37 = .ok (.iload 6, 2) := by decide +kernel
theorem d_X2_leastHours_39 : decode c_X2_leastHours 39 = .ok (.if_icmp .lt 6, 3) := by decide +kernel
theorem d_X2_leastHours_42 : decode c_X2_leastHours 42 = .ok (.goto 39, 3) := by decide +kernel
theorem d_X2_leastHours_45 : decode c_X2_leastHours 45 = .ok (.aload_n 2, 1) := by decide +kernel
theorem d_X2_leastHours_46 : decode c_X2_leastHours 46 = .ok (.iload 7, 2) := by decide +kernel
theorem d_X2_leastHours_48 : decode c_X2_leastHours 48 = .ok (.dup2, 1) := by decide +kernel
theorem d_X2_leastHours_49 : decode c_X2_leastHours 49 = .ok (.iaload, 1) := by decide +kernel
theorem d_X2_leastHours_50 : decode c_X2_leastHours 50 = .ok (.iload 5, 2) := by decide +kernel
theorem d_X2_leastHours_52 : decode c_X2_leastHours 52 = .ok (.iadd, 1) := by decide +kernel
theorem d_X2_leastHours_53 : decode c_X2_leastHours 53 = .ok (.iastore, 1) := by decide +kernel
theorem d_X2_leastHours_54 : decode c_X2_leastHours 54 = .ok (.iload 6, 2) := by decide +kernel
theorem d_X2_leastHours_56 : decode c_X2_leastHours 56 = .ok (.aload_n 0, 1) := by decide +kernel
theorem d_X2_leastHours_57 : decode c_X2_leastHours 57 = .ok (.iload_n 1, 1) := by decide +kernel
theorem d_X2_leastHours_58 : decode c_X2_leastHours 58 = .ok (.iconst 1, 1) := by decide +kernel
theorem d_X2_leastHours_59 : decode c_X2_leastHours 59 = .ok (.isub, 1) := by decide +kernel
theorem d_X2_leastHours_60 : decode c_X2_leastHours 60 = .ok (.aload_n 2, 1) := by decide +kernel
theorem d_X2_leastHours_61 : decode c_X2_leastHours 61 = .ok (.iload_n 3, 1) := by decide +kernel
theorem d_X2_leastHours_62 : decode c_X2_leastHours 62 = .ok (.iload 6, 2) := by decide +kernel
theorem d_X2_leastHours_64 : decode c_X2_leastHours 64 = .ok (.invokestatic 28, 3) := by decide +kernel
theorem d_X2_leastHours_67 : decode c_X2_leastHours 67 = .ok (.invokestatic 48, 3) := by decide +kernel
theorem d_X2_leastHours_70 : decode c_X2_leastHours 70 = .ok (.istore 6, 2) := by decide +kernel
theorem d_X2_leastHours_72 : decode c_X2_leastHours 72 = .ok (.aload_n 2, 1) := by decide +kernel
theorem d_X2_leastHours_73 : decode c_X2_leastHours 73 = .ok (.iload 7, 2) := by decide +kernel
theorem d_X2_leastHours_75 : decode c_X2_leastHours 75 = .ok (.dup2, 1) := by decide +kernel
theorem d_X2_leastHours_76 : decode c_X2_leastHours 76 = .ok (.iaload, 1) := by decide +kernel
theorem d_X2_leastHours_77 : decode c_X2_leastHours 77 = .ok (.iload 5, 2) := by decide +kernel
theorem d_X2_leastHours_79 : decode c_X2_leastHours 79 = .ok (.isub, 1) := by decide +kernel
theorem d_X2_leastHours_80 : decode c_X2_leastHours 80 = .ok (.iastore, 1) := by decide +kernel
theorem d_X2_leastHours_81 : decode c_X2_leastHours 81 = .ok (.iinc 7 1, 3) := by decide +kernel
theorem d_X2_leastHours_84 : decode c_X2_leastHours 84 = .ok (.goto (-60), 3) := by decide +kernel
theorem d_X2_leastHours_87 : decode c_X2_leastHours 87 = .ok (.iload 6, 2) := by decide +kernel
theorem d_X2_leastHours_89 : decode c_X2_leastHours 89 = .ok (.ireturn, 1) := by decide +kernel
def kp_X2_leastHours_0 (up : Int32) (gg : Int32) (be : Int32) (a j : Nat) : Prop := a ≠ 42
def f_X2_leastHours_0 (v : tV) (up : Int32) (gg : Int32) (be : Int32) : Int32 × tV := bnd (f_X2_longest_42 v gg) fun x4 => (x4, v)
set_option maxHeartbeats 4000000 in
set_option maxRecDepth 100000 in
theorem ct_X2_leastHours_0 (l : Launch) (D : va_G) (dA : Nat → ClassId) (ad : Nat → Nat) (v : tV) (hI : Inv v) (up : Int32) (gg : Int32) (be : Int32) (r_up : Rg up 0 0) (r_gg : Rg gg 1 3) : Met l m_X2_leastHours [.code m_X2_leastHours c_X2_leastHours 8 (some .int)] ({ frames := 2, cells := 0, slots := 0, locals := 63 } : Room) (tP D dA ad v [.ref (ad 41), .int up, .ref (ad 42), .int gg, .int be]) (tQi D dA ad (fun r v' => (Inv v' ∧ Kp (kp_X2_leastHours_0 up gg be) v v') ∧ (r, v') = f_X2_leastHours_0 v up gg be)) 0 0 (tA ad) := by
  refine tMet (by decide) (Nat.le_of_ble_eq_true rfl) ?_
  intro p e s m below meth c ls X hr hlocks hw hl
  have X : CX p s m ([.ref (ad 41), .int up, .ref (ad 42), .int gg, .int be] : List Value).toArray c c_X2_leastHours N_X2 8 D dA := X
  have hx := X.1
  have hb := X.2.1
  have hS : va_S (tA ad) s.heap s.heap [] := va_S.rf
  have hl : lv_has ls 8 [(0, .ref (ad 41)), (1, .int up), (2, .ref (ad 42)), (3, .int gg), (4, .int be)] := hl
  obtain ⟨RR, eRR⟩ : ∃ z, f_X2_leastHours_0 v up gg be = z := ⟨_, rfl⟩
  have hK0 : Kp (kp_X2_leastHours_0 up gg be) v v := Kp.rf _ v
  have hG := eRR
  unfold f_X2_leastHours_0 at hG
  refine lv_iload_n hx hb d_X2_leastHours_0 rfl (lv_at hl 1 rfl) ?_
  refine lv_if_gt (tgt := 10) hx hb d_X2_leastHours_1 (by decide) (fun c1 => ?_) (fun c1 => ?_)
  · exfalso
    obtain ⟨a1, a2⟩ := r_up; obtain ⟨b1, b2⟩ := (⟨by decide, by decide⟩ : Rg 0 0 0); have f := i_lt c1; omega
  · have f2 := i_nlt c1
    refine lv_aload_n hx hb d_X2_leastHours_4 rfl (lv_at hl 2 rfl) ?_
    refine lv_iload_n hx hb d_X2_leastHours_5 rfl (lv_at hl 3 rfl) ?_
    refine r_ci (r_runS (n := 2) (As := [.ref (ad 42), .int gg]) (rest := []) X hw (ct_X2_longest_42 l D dA ad v hI gg r_gg) gc_X2_44 (by decide +kernel) ⟨rfl, rfl, Nat.le_of_ble_eq_true rfl, Nat.le_of_ble_eq_true rfl⟩ rfl hl.1 rfl (Nat.le_of_ble_eq_true rfl) ⟨Nat.zero_le _, Nat.zero_le _⟩ d_X2_leastHours_6) hS (fun x4 v5 H locs hp3 hw hS => ?_)
    obtain ⟨hp3, hE6⟩ := hp3
    rw [hp3] at hw
    have hG := bnd_use hE6 hG
    exact r_iret X hr hlocks hw hS ⟨⟨hI, hK0⟩, hG.trans eRR.symm⟩ d_X2_leastHours_9
def kp_X2_leastHours_1 (up : Int32) (gg : Int32) (be : Int32) (a j : Nat) : Prop := a ≠ 42
def b_X2_leastHours_1_24 (up : Int32) (gg : Int32) (be : Int32) (rc24 : Int32 → Int32 → Int32 → tV → Int32 × tV) (y5 : Int32) (y6 : Int32) (y7 : Int32) (v1 : tV) : Int32 × tV := (if gg ≤ y7 then (y6, v1) else bnd (v1 42 y7.toNatClampNeg) fun x6 => bnd (x6 + y5) fun x7 => (if x7 < y6 then bnd (v1 42 y7.toNatClampNeg) fun x10 => bnd (x10 + y5) fun x11 => bnd (up2 v1 42 (y7.toNatClampNeg) x11) fun v12 => bnd (up - (1 : Int32)) fun x15 => bnd2 (f_X2_leastHours_0 v12 x15 gg y6) fun x19 v20 => bnd (if x19 < y6 then x19 else y6) fun x25 => bnd (v20 42 y7.toNatClampNeg) fun x26 => bnd (x26 - y5) fun x27 => bnd (up2 v20 42 (y7.toNatClampNeg) x27) fun v28 => bnd (y7 + 1) fun x31 => rc24 y5 x25 x31 v28 else bnd (y7 + 1) fun x35 => rc24 y5 y6 x35 v1))
def g_X2_leastHours_1_24 (up : Int32) (gg : Int32) (be : Int32) : Nat → Int32 → Int32 → Int32 → tV → Int32 × tV
  | 0, _, _, _, v1 => (0, v1)
  | n + 1, y5, y6, y7, v1 => b_X2_leastHours_1_24 up gg be (g_X2_leastHours_1_24 up gg be n) y5 y6 y7 v1
def f_X2_leastHours_1 (v : tV) (up : Int32) (gg : Int32) (be : Int32) : Int32 × tV := (if (0 : Int32) < up then bnd (up - (1 : Int32)) fun x41 => bnd (v 41 x41.toNatClampNeg) fun x44 => g_X2_leastHours_1_24 up gg be 100000 x44 be 0 v else bnd (f_X2_longest_42 v gg) fun x48 => (x48, v))
set_option maxHeartbeats 4000000 in
set_option maxRecDepth 100000 in
theorem ct_X2_leastHours_1 (l : Launch) (D : va_G) (dA : Nat → ClassId) (ad : Nat → Nat) (v : tV) (hI : Inv v) (up : Int32) (gg : Int32) (be : Int32) (r_up : Rg up 0 1) (r_gg : Rg gg 1 3) : Met l m_X2_leastHours [.code m_X2_leastHours c_X2_leastHours 8 (some .int)] ({ frames := 3, cells := 0, slots := 0, locals := 90 } : Room) (tP D dA ad v [.ref (ad 41), .int up, .ref (ad 42), .int gg, .int be]) (tQi D dA ad (fun r v' => (Inv v' ∧ Kp (kp_X2_leastHours_1 up gg be) v v') ∧ (r, v') = f_X2_leastHours_1 v up gg be)) 0 0 (tA ad) := by
  refine tMet (by decide) (Nat.le_of_ble_eq_true rfl) ?_
  intro p e s m below meth c ls X hr hlocks hw hl
  have X : CX p s m ([.ref (ad 41), .int up, .ref (ad 42), .int gg, .int be] : List Value).toArray c c_X2_leastHours N_X2 8 D dA := X
  have hx := X.1
  have hb := X.2.1
  have hS : va_S (tA ad) s.heap s.heap [] := va_S.rf
  have hl : lv_has ls 8 [(0, .ref (ad 41)), (1, .int up), (2, .ref (ad 42)), (3, .int gg), (4, .int be)] := hl
  obtain ⟨RR, eRR⟩ : ∃ z, f_X2_leastHours_1 v up gg be = z := ⟨_, rfl⟩
  have LL : ∀ n : Nat, (∀ (y5 : Int32) (y6 : Int32) (y7 : Int32) (v1 : tV) (H : Heap) (locs : List Loc) (ls : Array Slot), (3 - y7.toInt).toNat < n → Rg up 1 1 → Rg y7 0 3 → Inv v1 → Kp (kp_X2_leastHours_1 up gg be) v v1 → g_X2_leastHours_1_24 up gg be n y5 y6 y7 v1 = RR → tI D dA ad v1 H → va_S (tA ad) s.heap H locs → lv_has ls 8 [(0, .ref (ad 41)), (1, .int up), (2, .ref (ad 42)), (3, .int gg), (4, .int be), (5, .int y5), (6, .int y6), (7, .int y7)] → W p l e ({ frames := 3, cells := 0, slots := 0, locals := 90 } : Room) s m ([.ref (ad 41), .int up, .ref (ad 42), .int gg, .int be] : List Value).toArray below meth c H locs 0 0 (MQ below (tQi D dA ad (fun r v' => (Inv v' ∧ Kp (kp_X2_leastHours_1 up gg be) v v') ∧ (r, v') = f_X2_leastHours_1 v up gg be)) ([.ref (ad 41), .int up, .ref (ad 42), .int gg, .int be] : List Value).toArray s 0 0 (tA ad)) (F0 m 24 ls [])) := by
    intro n
    induction n with
    | zero => intros; omega
    | succ n ih =>
      have ih0 := ih
      intro y5 y6 y7 v1 H locs ls hmu r_y1 r_y7 hI1 hK1 hG hw hS hl
      have hG : b_X2_leastHours_1_24 up gg be (g_X2_leastHours_1_24 up gg be n) y5 y6 y7 v1 = RR := hG
      unfold b_X2_leastHours_1_24 at hG
      refine lv_iload hx hb d_X2_leastHours_24 (lv_at hl 7 rfl) ?_
      refine lv_iload_n hx hb d_X2_leastHours_26 rfl (lv_at hl 3 rfl) ?_
      refine lv_icmp_ge (tgt := 87) hx hb d_X2_leastHours_27 (by decide) (fun c1 => ?_) (fun c1 => ?_)
      · have f2 := i_le c1
        have r3 : Rg y7 1 3 := by obtain ⟨a1, a2⟩ := r_y7; obtain ⟨b1, b2⟩ := r_gg; have f := i_le c1; exact ⟨by omega, by omega⟩
        have hG := g_pos c1 hG
        refine lv_iload hx hb d_X2_leastHours_87 (lv_at hl 6 rfl) ?_
        exact r_iret X hr hlocks hw hS ⟨⟨hI1, hK1⟩, hG.trans eRR.symm⟩ d_X2_leastHours_89
      · have f4 := i_nle c1
        have r5 : Rg y7 0 2 := by obtain ⟨a1, a2⟩ := r_y7; obtain ⟨b1, b2⟩ := r_gg; have f := i_nle c1; exact ⟨by omega, by omega⟩
        have hG := g_neg c1 hG
        refine lv_aload_n hx hb d_X2_leastHours_30 rfl (lv_at hl 2 rfl) ?_
        refine lv_iload hx hb d_X2_leastHours_31 (lv_at hl 7 rfl) ?_
        refine r_iald X hw (rfl : KD 42 = _) (Rg.vp (b := 2) r5 (by decide)) rfl d_X2_leastHours_33 ?_
        refine lv_topi (fun x6 ex6 => ?_)
        have hG := bnd_use ex6 hG
        refine lv_iload hx hb d_X2_leastHours_34 (lv_at hl 5 rfl) ?_
        refine lv_iadd hx hb d_X2_leastHours_36 ?_
        refine lv_topi (fun x7 ex7 => ?_)
        have hG := bnd_use ex7 hG
        refine lv_iload hx hb d_X2_leastHours_37 (lv_at hl 6 rfl) ?_
        refine lv_icmp_lt (tgt := 45) hx hb d_X2_leastHours_39 (by decide) (fun c8 => ?_) (fun c8 => ?_)
        · have f9 := i_lt c8
          have hG := g_pos c8 hG
          refine lv_aload_n hx hb d_X2_leastHours_45 rfl (lv_at hl 2 rfl) ?_
          refine lv_iload hx hb d_X2_leastHours_46 (lv_at hl 7 rfl) ?_
          refine lv_dup2_11 hx hb d_X2_leastHours_48 rfl rfl ?_
          refine r_iald X hw (rfl : KD 42 = _) (Rg.vp (b := 2) r5 (by decide)) rfl d_X2_leastHours_49 ?_
          refine lv_topi (fun x10 ex10 => ?_)
          have hG := bnd_use ex10 hG
          refine lv_iload hx hb d_X2_leastHours_50 (lv_at hl 5 rfl) ?_
          refine lv_iadd hx hb d_X2_leastHours_52 ?_
          refine lv_topi (fun x11 ex11 => ?_)
          have hG := bnd_use ex11 hG
          refine r_iast X hw hS (rfl : KD 42 = _) (Rg.vp (b := 2) r5 (by decide)) rfl d_X2_leastHours_53 (fun H locs hw hS => ?_)
          obtain ⟨v12, ev12⟩ : ∃ z, z = up2 v1 42 y7.toNatClampNeg x11 := ⟨_, rfl⟩
          rw [← ev12] at hw
          have hG := bnd_use ev12 hG
          have hI13 : Inv v12 := by rw [ev12]; exact Inv.put0 hI1 _ rfl
          have hK14 : Kp (kp_X2_leastHours_1 up gg be) v v12 := by rw [ev12]; exact Kp.put hK1 _ (by unfold kp_X2_leastHours_1; omega)
          refine lv_iload hx hb d_X2_leastHours_54 (lv_at hl 6 rfl) ?_
          refine lv_aload_n hx hb d_X2_leastHours_56 rfl (lv_at hl 0 rfl) ?_
          refine lv_iload_n hx hb d_X2_leastHours_57 rfl (lv_at hl 1 rfl) ?_
          refine lv_iconst (v := 1) hx hb d_X2_leastHours_58 (by decide) ?_
          refine lv_isub hx hb d_X2_leastHours_59 ?_
          refine lv_topi (fun x15 ex15 => ?_)
          have hG := bnd_use ex15 hG
          have r16 : Rg x15 0 0 := rg_sub ex15 r_y1 (⟨by decide, by decide⟩ : Rg 1 1 1) (by decide) (by decide)
          have s17 : x15.toInt = up.toInt - (1 : Int32).toInt := by rw [ex15]; exact i_sub (by obtain ⟨_, _⟩ := r_y1; obtain ⟨_, _⟩ := (⟨by decide, by decide⟩ : Rg 1 1 1); omega) (by obtain ⟨_, _⟩ := r_y1; obtain ⟨_, _⟩ := (⟨by decide, by decide⟩ : Rg 1 1 1); omega)
          have s17l : (1 : Int32).toInt = 1 := rfl
          refine lv_aload_n hx hb d_X2_leastHours_60 rfl (lv_at hl 2 rfl) ?_
          refine lv_iload_n hx hb d_X2_leastHours_61 rfl (lv_at hl 3 rfl) ?_
          refine lv_iload hx hb d_X2_leastHours_62 (lv_at hl 6 rfl) ?_
          refine r_ci (r_runS (n := 5) (As := [.ref (ad 41), .int x15, .ref (ad 42), .int gg, .int y6]) (rest := [.int y6]) X hw (ct_X2_leastHours_0 l D dA ad v12 hI13 x15 gg y6 r16 r_gg) gc_X2_28 (by decide +kernel) ⟨rfl, rfl, Nat.le_of_ble_eq_true rfl, Nat.le_of_ble_eq_true rfl⟩ rfl hl.1 rfl (Nat.le_of_ble_eq_true rfl) ⟨Nat.zero_le _, Nat.zero_le _⟩ d_X2_leastHours_64) hS (fun x19 v20 H locs hp18 hw hS => ?_)
          obtain ⟨hp18, hE21⟩ := hp18
          obtain ⟨hI22, hK23⟩ := hp18
          have hK24 : Kp (kp_X2_leastHours_1 up gg be) v v20 := Kp.tr hK14 hK23 (by have z0 : (0 : Int32).toInt = 0 := rfl; intro a j; unfold kp_X2_leastHours_1 kp_X2_leastHours_0; omega)
          have hG := bnd2_use hE21 hG
          refine va_mmin hx hb (X.2.2.1.trans hl.1.symm) X.2.2.2.1 (X.2.2.2.2.1 _ ml_X2_48) (X.2.2.2.2.1 _ ml_mins) (X.2.2.2.2.1 _ ml_mi) (X.2.2.2.2.1 _ ml_minc) (Nat.le_of_ble_eq_true rfl) (Nat.le_of_ble_eq_true rfl) (Nat.zero_le _) (Nat.zero_le _) d_X2_leastHours_67 ?_
          refine lv_topi (fun x25 ex25 => ?_)
          have hG := bnd_use ex25 hG
          refine lv_istore (lv' := [(6, .int x25), (0, .ref (ad 41)), (1, .int up), (2, .ref (ad 42)), (3, .int gg), (4, .int be), (5, .int y5), (7, .int y7)]) hx hb d_X2_leastHours_70 hl (by decide) rfl (fun ls hl => ?_)
          refine lv_aload_n hx hb d_X2_leastHours_72 rfl (lv_at hl 3 rfl) ?_
          refine lv_iload hx hb d_X2_leastHours_73 (lv_at hl 7 rfl) ?_
          refine lv_dup2_11 hx hb d_X2_leastHours_75 rfl rfl ?_
          refine r_iald X hw (rfl : KD 42 = _) (Rg.vp (b := 2) r5 (by decide)) rfl d_X2_leastHours_76 ?_
          refine lv_topi (fun x26 ex26 => ?_)
          have hG := bnd_use ex26 hG
          refine lv_iload hx hb d_X2_leastHours_77 (lv_at hl 6 rfl) ?_
          refine lv_isub hx hb d_X2_leastHours_79 ?_
          refine lv_topi (fun x27 ex27 => ?_)
          have hG := bnd_use ex27 hG
          refine r_iast X hw hS (rfl : KD 42 = _) (Rg.vp (b := 2) r5 (by decide)) rfl d_X2_leastHours_80 (fun H locs hw hS => ?_)
          obtain ⟨v28, ev28⟩ : ∃ z, z = up2 v20 42 y7.toNatClampNeg x27 := ⟨_, rfl⟩
          rw [← ev28] at hw
          have hG := bnd_use ev28 hG
          have hI29 : Inv v28 := by rw [ev28]; exact Inv.put0 hI22 _ rfl
          have hK30 : Kp (kp_X2_leastHours_1 up gg be) v v28 := by rw [ev28]; exact Kp.put hK24 _ (by unfold kp_X2_leastHours_1; omega)
          obtain ⟨x31, ex31⟩ : ∃ y : Int32, y = y7 + 1 := ⟨_, rfl⟩
          have hG := bnd_use ex31 hG
          refine lv_iinc (v := x31) (lv' := [(7, .int x31), (6, .int x25), (0, .ref (ad 41)), (1, .int up), (2, .ref (ad 42)), (3, .int gg), (4, .int be), (5, .int y5)]) hx hb d_X2_leastHours_81 hl (k := 7) rfl (by rw [ex31]; rfl) (by decide) rfl (fun ls hl => ?_)
          have r32 : Rg x31 1 3 := rg_add ex31 r5 (⟨by decide, by decide⟩ : Rg 1 1 1) (by decide) (by decide)
          have s33 : x31.toInt = y7.toInt + (1 : Int32).toInt := by rw [ex31]; exact i_add (by obtain ⟨_, _⟩ := r5; obtain ⟨_, _⟩ := (⟨by decide, by decide⟩ : Rg 1 1 1); omega) (by obtain ⟨_, _⟩ := r5; obtain ⟨_, _⟩ := (⟨by decide, by decide⟩ : Rg 1 1 1); omega)
          have s33l : (1 : Int32).toInt = 1 := rfl
          refine lv_goto (tgt := 24) hx hb d_X2_leastHours_84 (by decide) ?_
          exact ih0 y5 x25 x31 v28 _ _ _ (by have q_ := r_y1; obtain ⟨_, _⟩ := q_; have q_ := r_gg; obtain ⟨_, _⟩ := q_; have q_ := r5; obtain ⟨_, _⟩ := q_; have q_ := r16; obtain ⟨_, _⟩ := q_; have q_ := r32; obtain ⟨_, _⟩ := q_; have q_ := rg_any be; obtain ⟨_, _⟩ := q_; have q_ := rg_any y5; obtain ⟨_, _⟩ := q_; have q_ := rg_any x25; obtain ⟨_, _⟩ := q_; omega) r_y1 (rg_w r32 (by decide) (by decide)) hI29 hK30 hG hw hS (lv_sub hl [2, 3, 4, 5, 6, 7, 1, 0] rfl)
        · have f34 := i_nlt c8
          have hG := g_neg c8 hG
          refine lv_goto (tgt := 81) hx hb d_X2_leastHours_42 (by decide) ?_
          obtain ⟨x35, ex35⟩ : ∃ y : Int32, y = y7 + 1 := ⟨_, rfl⟩
          have hG := bnd_use ex35 hG
          refine lv_iinc (v := x35) (lv' := [(7, .int x35), (0, .ref (ad 41)), (1, .int up), (2, .ref (ad 42)), (3, .int gg), (4, .int be), (5, .int y5), (6, .int y6)]) hx hb d_X2_leastHours_81 hl (k := 7) rfl (by rw [ex35]; rfl) (by decide) rfl (fun ls hl => ?_)
          have r36 : Rg x35 1 3 := rg_add ex35 r5 (⟨by decide, by decide⟩ : Rg 1 1 1) (by decide) (by decide)
          have s37 : x35.toInt = y7.toInt + (1 : Int32).toInt := by rw [ex35]; exact i_add (by obtain ⟨_, _⟩ := r5; obtain ⟨_, _⟩ := (⟨by decide, by decide⟩ : Rg 1 1 1); omega) (by obtain ⟨_, _⟩ := r5; obtain ⟨_, _⟩ := (⟨by decide, by decide⟩ : Rg 1 1 1); omega)
          have s37l : (1 : Int32).toInt = 1 := rfl
          refine lv_goto (tgt := 24) hx hb d_X2_leastHours_84 (by decide) ?_
          exact ih0 y5 y6 x35 v1 _ _ _ (by have q_ := r_y1; obtain ⟨_, _⟩ := q_; have q_ := r_gg; obtain ⟨_, _⟩ := q_; have q_ := r5; obtain ⟨_, _⟩ := q_; have q_ := r36; obtain ⟨_, _⟩ := q_; have q_ := rg_any be; obtain ⟨_, _⟩ := q_; have q_ := rg_any y5; obtain ⟨_, _⟩ := q_; have q_ := rg_any y6; obtain ⟨_, _⟩ := q_; omega) r_y1 (rg_w r36 (by decide) (by decide)) hI1 hK1 hG hw hS (lv_sub hl [1, 2, 3, 4, 5, 6, 7, 0] rfl)
  have ih0 := LL 100000
  have hK0 : Kp (kp_X2_leastHours_1 up gg be) v v := Kp.rf _ v
  have hG := eRR
  unfold f_X2_leastHours_1 at hG
  refine lv_iload_n hx hb d_X2_leastHours_0 rfl (lv_at hl 1 rfl) ?_
  refine lv_if_gt (tgt := 10) hx hb d_X2_leastHours_1 (by decide) (fun c38 => ?_) (fun c38 => ?_)
  · have f39 := i_lt c38
    have r40 : Rg up 1 1 := by obtain ⟨a1, a2⟩ := r_up; obtain ⟨b1, b2⟩ := (⟨by decide, by decide⟩ : Rg 0 0 0); have f := i_lt c38; exact ⟨by omega, by omega⟩
    have hG := g_pos c38 hG
    refine lv_aload_n hx hb d_X2_leastHours_10 rfl (lv_at hl 0 rfl) ?_
    refine lv_iload_n hx hb d_X2_leastHours_11 rfl (lv_at hl 1 rfl) ?_
    refine lv_iconst (v := 1) hx hb d_X2_leastHours_12 (by decide) ?_
    refine lv_isub hx hb d_X2_leastHours_13 ?_
    refine lv_topi (fun x41 ex41 => ?_)
    have hG := bnd_use ex41 hG
    have r42 : Rg x41 0 0 := rg_sub ex41 r40 (⟨by decide, by decide⟩ : Rg 1 1 1) (by decide) (by decide)
    have s43 : x41.toInt = up.toInt - (1 : Int32).toInt := by rw [ex41]; exact i_sub (by obtain ⟨_, _⟩ := r40; obtain ⟨_, _⟩ := (⟨by decide, by decide⟩ : Rg 1 1 1); omega) (by obtain ⟨_, _⟩ := r40; obtain ⟨_, _⟩ := (⟨by decide, by decide⟩ : Rg 1 1 1); omega)
    have s43l : (1 : Int32).toInt = 1 := rfl
    refine r_iald X hw (rfl : KD 41 = _) (Rg.vp (b := 0) r42 (by decide)) rfl d_X2_leastHours_14 ?_
    refine lv_topi (fun x44 ex44 => ?_)
    have hG := bnd_use ex44 hG
    refine lv_istore (lv' := [(5, .int x44), (0, .ref (ad 41)), (1, .int up), (2, .ref (ad 42)), (3, .int gg), (4, .int be)]) hx hb d_X2_leastHours_15 hl (by decide) rfl (fun ls hl => ?_)
    refine lv_iload hx hb d_X2_leastHours_17 (lv_at hl 5 rfl) ?_
    refine lv_istore (lv' := [(6, .int be), (5, .int x44), (0, .ref (ad 41)), (1, .int up), (2, .ref (ad 42)), (3, .int gg), (4, .int be)]) hx hb d_X2_leastHours_19 hl (by decide) rfl (fun ls hl => ?_)
    refine lv_iconst (v := 0) hx hb d_X2_leastHours_21 (by decide) ?_
    refine lv_istore (lv' := [(7, .int 0), (6, .int be), (5, .int x44), (0, .ref (ad 41)), (1, .int up), (2, .ref (ad 42)), (3, .int gg), (4, .int be)]) hx hb d_X2_leastHours_22 hl (by decide) rfl (fun ls hl => ?_)
    exact ih0 x44 be 0 v _ _ _ (by have q_ := r40; obtain ⟨_, _⟩ := q_; have q_ := r_gg; obtain ⟨_, _⟩ := q_; have q_ := r42; obtain ⟨_, _⟩ := q_; have q_ := rg_any be; obtain ⟨_, _⟩ := q_; have q_ := rg_any x44; obtain ⟨_, _⟩ := q_; have q_ := rg_any be; obtain ⟨_, _⟩ := q_; have q_ : (0 : Int32).toInt = 0 := rfl; omega) r40 (rg_w (⟨by decide, by decide⟩ : Rg 0 0 0) (by decide) (by decide)) hI hK0 hG hw hS (lv_sub hl [3, 4, 5, 6, 7, 2, 1, 0] rfl)
  · have f45 := i_nlt c38
    have r46 : Rg up 0 0 := by obtain ⟨a1, a2⟩ := r_up; obtain ⟨b1, b2⟩ := (⟨by decide, by decide⟩ : Rg 0 0 0); have f := i_nlt c38; exact ⟨by omega, by omega⟩
    have hG := g_neg c38 hG
    refine lv_aload_n hx hb d_X2_leastHours_4 rfl (lv_at hl 2 rfl) ?_
    refine lv_iload_n hx hb d_X2_leastHours_5 rfl (lv_at hl 3 rfl) ?_
    refine r_ci (r_runS (n := 2) (As := [.ref (ad 42), .int gg]) (rest := []) X hw (ct_X2_longest_42 l D dA ad v hI gg r_gg) gc_X2_44 (by decide +kernel) ⟨rfl, rfl, Nat.le_of_ble_eq_true rfl, Nat.le_of_ble_eq_true rfl⟩ rfl hl.1 rfl (Nat.le_of_ble_eq_true rfl) ⟨Nat.zero_le _, Nat.zero_le _⟩ d_X2_leastHours_6) hS (fun x48 v49 H locs hp47 hw hS => ?_)
    obtain ⟨hp47, hE50⟩ := hp47
    rw [hp47] at hw
    have hG := bnd_use hE50 hG
    exact r_iret X hr hlocks hw hS ⟨⟨hI, hK0⟩, hG.trans eRR.symm⟩ d_X2_leastHours_9
def kp_X2_leastHours_2 (up : Int32) (gg : Int32) (be : Int32) (a j : Nat) : Prop := a ≠ 42
def b_X2_leastHours_2_24 (up : Int32) (gg : Int32) (be : Int32) (rc24 : Int32 → Int32 → Int32 → tV → Int32 × tV) (y5 : Int32) (y6 : Int32) (y7 : Int32) (v1 : tV) : Int32 × tV := (if gg ≤ y7 then (y6, v1) else bnd (v1 42 y7.toNatClampNeg) fun x6 => bnd (x6 + y5) fun x7 => (if x7 < y6 then bnd (v1 42 y7.toNatClampNeg) fun x10 => bnd (x10 + y5) fun x11 => bnd (up2 v1 42 (y7.toNatClampNeg) x11) fun v12 => bnd (up - (1 : Int32)) fun x15 => bnd2 (f_X2_leastHours_1 v12 x15 gg y6) fun x19 v20 => bnd (if x19 < y6 then x19 else y6) fun x25 => bnd (v20 42 y7.toNatClampNeg) fun x26 => bnd (x26 - y5) fun x27 => bnd (up2 v20 42 (y7.toNatClampNeg) x27) fun v28 => bnd (y7 + 1) fun x31 => rc24 y5 x25 x31 v28 else bnd (y7 + 1) fun x35 => rc24 y5 y6 x35 v1))
def g_X2_leastHours_2_24 (up : Int32) (gg : Int32) (be : Int32) : Nat → Int32 → Int32 → Int32 → tV → Int32 × tV
  | 0, _, _, _, v1 => (0, v1)
  | n + 1, y5, y6, y7, v1 => b_X2_leastHours_2_24 up gg be (g_X2_leastHours_2_24 up gg be n) y5 y6 y7 v1
def f_X2_leastHours_2 (v : tV) (up : Int32) (gg : Int32) (be : Int32) : Int32 × tV := (if (0 : Int32) < up then bnd (up - (1 : Int32)) fun x41 => bnd (v 41 x41.toNatClampNeg) fun x44 => g_X2_leastHours_2_24 up gg be 100000 x44 be 0 v else bnd (f_X2_longest_42 v gg) fun x48 => (x48, v))
set_option maxHeartbeats 4000000 in
set_option maxRecDepth 100000 in
theorem ct_X2_leastHours_2 (l : Launch) (D : va_G) (dA : Nat → ClassId) (ad : Nat → Nat) (v : tV) (hI : Inv v) (up : Int32) (gg : Int32) (be : Int32) (r_up : Rg up 0 2) (r_gg : Rg gg 1 3) : Met l m_X2_leastHours [.code m_X2_leastHours c_X2_leastHours 8 (some .int)] ({ frames := 4, cells := 0, slots := 0, locals := 117 } : Room) (tP D dA ad v [.ref (ad 41), .int up, .ref (ad 42), .int gg, .int be]) (tQi D dA ad (fun r v' => (Inv v' ∧ Kp (kp_X2_leastHours_2 up gg be) v v') ∧ (r, v') = f_X2_leastHours_2 v up gg be)) 0 0 (tA ad) := by
  refine tMet (by decide) (Nat.le_of_ble_eq_true rfl) ?_
  intro p e s m below meth c ls X hr hlocks hw hl
  have X : CX p s m ([.ref (ad 41), .int up, .ref (ad 42), .int gg, .int be] : List Value).toArray c c_X2_leastHours N_X2 8 D dA := X
  have hx := X.1
  have hb := X.2.1
  have hS : va_S (tA ad) s.heap s.heap [] := va_S.rf
  have hl : lv_has ls 8 [(0, .ref (ad 41)), (1, .int up), (2, .ref (ad 42)), (3, .int gg), (4, .int be)] := hl
  obtain ⟨RR, eRR⟩ : ∃ z, f_X2_leastHours_2 v up gg be = z := ⟨_, rfl⟩
  have LL : ∀ n : Nat, (∀ (y5 : Int32) (y6 : Int32) (y7 : Int32) (v1 : tV) (H : Heap) (locs : List Loc) (ls : Array Slot), (3 - y7.toInt).toNat < n → Rg up 1 2 → Rg y7 0 3 → Inv v1 → Kp (kp_X2_leastHours_2 up gg be) v v1 → g_X2_leastHours_2_24 up gg be n y5 y6 y7 v1 = RR → tI D dA ad v1 H → va_S (tA ad) s.heap H locs → lv_has ls 8 [(0, .ref (ad 41)), (1, .int up), (2, .ref (ad 42)), (3, .int gg), (4, .int be), (5, .int y5), (6, .int y6), (7, .int y7)] → W p l e ({ frames := 4, cells := 0, slots := 0, locals := 117 } : Room) s m ([.ref (ad 41), .int up, .ref (ad 42), .int gg, .int be] : List Value).toArray below meth c H locs 0 0 (MQ below (tQi D dA ad (fun r v' => (Inv v' ∧ Kp (kp_X2_leastHours_2 up gg be) v v') ∧ (r, v') = f_X2_leastHours_2 v up gg be)) ([.ref (ad 41), .int up, .ref (ad 42), .int gg, .int be] : List Value).toArray s 0 0 (tA ad)) (F0 m 24 ls [])) := by
    intro n
    induction n with
    | zero => intros; omega
    | succ n ih =>
      have ih0 := ih
      intro y5 y6 y7 v1 H locs ls hmu r_y1 r_y7 hI1 hK1 hG hw hS hl
      have hG : b_X2_leastHours_2_24 up gg be (g_X2_leastHours_2_24 up gg be n) y5 y6 y7 v1 = RR := hG
      unfold b_X2_leastHours_2_24 at hG
      refine lv_iload hx hb d_X2_leastHours_24 (lv_at hl 7 rfl) ?_
      refine lv_iload_n hx hb d_X2_leastHours_26 rfl (lv_at hl 3 rfl) ?_
      refine lv_icmp_ge (tgt := 87) hx hb d_X2_leastHours_27 (by decide) (fun c1 => ?_) (fun c1 => ?_)
      · have f2 := i_le c1
        have r3 : Rg y7 1 3 := by obtain ⟨a1, a2⟩ := r_y7; obtain ⟨b1, b2⟩ := r_gg; have f := i_le c1; exact ⟨by omega, by omega⟩
        have hG := g_pos c1 hG
        refine lv_iload hx hb d_X2_leastHours_87 (lv_at hl 6 rfl) ?_
        exact r_iret X hr hlocks hw hS ⟨⟨hI1, hK1⟩, hG.trans eRR.symm⟩ d_X2_leastHours_89
      · have f4 := i_nle c1
        have r5 : Rg y7 0 2 := by obtain ⟨a1, a2⟩ := r_y7; obtain ⟨b1, b2⟩ := r_gg; have f := i_nle c1; exact ⟨by omega, by omega⟩
        have hG := g_neg c1 hG
        refine lv_aload_n hx hb d_X2_leastHours_30 rfl (lv_at hl 2 rfl) ?_
        refine lv_iload hx hb d_X2_leastHours_31 (lv_at hl 7 rfl) ?_
        refine r_iald X hw (rfl : KD 42 = _) (Rg.vp (b := 2) r5 (by decide)) rfl d_X2_leastHours_33 ?_
        refine lv_topi (fun x6 ex6 => ?_)
        have hG := bnd_use ex6 hG
        refine lv_iload hx hb d_X2_leastHours_34 (lv_at hl 5 rfl) ?_
        refine lv_iadd hx hb d_X2_leastHours_36 ?_
        refine lv_topi (fun x7 ex7 => ?_)
        have hG := bnd_use ex7 hG
        refine lv_iload hx hb d_X2_leastHours_37 (lv_at hl 6 rfl) ?_
        refine lv_icmp_lt (tgt := 45) hx hb d_X2_leastHours_39 (by decide) (fun c8 => ?_) (fun c8 => ?_)
        · have f9 := i_lt c8
          have hG := g_pos c8 hG
          refine lv_aload_n hx hb d_X2_leastHours_45 rfl (lv_at hl 2 rfl) ?_
          refine lv_iload hx hb d_X2_leastHours_46 (lv_at hl 7 rfl) ?_
          refine lv_dup2_11 hx hb d_X2_leastHours_48 rfl rfl ?_
          refine r_iald X hw (rfl : KD 42 = _) (Rg.vp (b := 2) r5 (by decide)) rfl d_X2_leastHours_49 ?_
          refine lv_topi (fun x10 ex10 => ?_)
          have hG := bnd_use ex10 hG
          refine lv_iload hx hb d_X2_leastHours_50 (lv_at hl 5 rfl) ?_
          refine lv_iadd hx hb d_X2_leastHours_52 ?_
          refine lv_topi (fun x11 ex11 => ?_)
          have hG := bnd_use ex11 hG
          refine r_iast X hw hS (rfl : KD 42 = _) (Rg.vp (b := 2) r5 (by decide)) rfl d_X2_leastHours_53 (fun H locs hw hS => ?_)
          obtain ⟨v12, ev12⟩ : ∃ z, z = up2 v1 42 y7.toNatClampNeg x11 := ⟨_, rfl⟩
          rw [← ev12] at hw
          have hG := bnd_use ev12 hG
          have hI13 : Inv v12 := by rw [ev12]; exact Inv.put0 hI1 _ rfl
          have hK14 : Kp (kp_X2_leastHours_2 up gg be) v v12 := by rw [ev12]; exact Kp.put hK1 _ (by unfold kp_X2_leastHours_2; omega)
          refine lv_iload hx hb d_X2_leastHours_54 (lv_at hl 6 rfl) ?_
          refine lv_aload_n hx hb d_X2_leastHours_56 rfl (lv_at hl 0 rfl) ?_
          refine lv_iload_n hx hb d_X2_leastHours_57 rfl (lv_at hl 1 rfl) ?_
          refine lv_iconst (v := 1) hx hb d_X2_leastHours_58 (by decide) ?_
          refine lv_isub hx hb d_X2_leastHours_59 ?_
          refine lv_topi (fun x15 ex15 => ?_)
          have hG := bnd_use ex15 hG
          have r16 : Rg x15 0 1 := rg_sub ex15 r_y1 (⟨by decide, by decide⟩ : Rg 1 1 1) (by decide) (by decide)
          have s17 : x15.toInt = up.toInt - (1 : Int32).toInt := by rw [ex15]; exact i_sub (by obtain ⟨_, _⟩ := r_y1; obtain ⟨_, _⟩ := (⟨by decide, by decide⟩ : Rg 1 1 1); omega) (by obtain ⟨_, _⟩ := r_y1; obtain ⟨_, _⟩ := (⟨by decide, by decide⟩ : Rg 1 1 1); omega)
          have s17l : (1 : Int32).toInt = 1 := rfl
          refine lv_aload_n hx hb d_X2_leastHours_60 rfl (lv_at hl 2 rfl) ?_
          refine lv_iload_n hx hb d_X2_leastHours_61 rfl (lv_at hl 3 rfl) ?_
          refine lv_iload hx hb d_X2_leastHours_62 (lv_at hl 6 rfl) ?_
          refine r_ci (r_runS (n := 5) (As := [.ref (ad 41), .int x15, .ref (ad 42), .int gg, .int y6]) (rest := [.int y6]) X hw (ct_X2_leastHours_1 l D dA ad v12 hI13 x15 gg y6 r16 r_gg) gc_X2_28 (by decide +kernel) ⟨rfl, rfl, Nat.le_of_ble_eq_true rfl, Nat.le_of_ble_eq_true rfl⟩ rfl hl.1 rfl (Nat.le_of_ble_eq_true rfl) ⟨Nat.zero_le _, Nat.zero_le _⟩ d_X2_leastHours_64) hS (fun x19 v20 H locs hp18 hw hS => ?_)
          obtain ⟨hp18, hE21⟩ := hp18
          obtain ⟨hI22, hK23⟩ := hp18
          have hK24 : Kp (kp_X2_leastHours_2 up gg be) v v20 := Kp.tr hK14 hK23 (by have z0 : (0 : Int32).toInt = 0 := rfl; intro a j; unfold kp_X2_leastHours_2 kp_X2_leastHours_1; omega)
          have hG := bnd2_use hE21 hG
          refine va_mmin hx hb (X.2.2.1.trans hl.1.symm) X.2.2.2.1 (X.2.2.2.2.1 _ ml_X2_48) (X.2.2.2.2.1 _ ml_mins) (X.2.2.2.2.1 _ ml_mi) (X.2.2.2.2.1 _ ml_minc) (Nat.le_of_ble_eq_true rfl) (Nat.le_of_ble_eq_true rfl) (Nat.zero_le _) (Nat.zero_le _) d_X2_leastHours_67 ?_
          refine lv_topi (fun x25 ex25 => ?_)
          have hG := bnd_use ex25 hG
          refine lv_istore (lv' := [(6, .int x25), (0, .ref (ad 41)), (1, .int up), (2, .ref (ad 42)), (3, .int gg), (4, .int be), (5, .int y5), (7, .int y7)]) hx hb d_X2_leastHours_70 hl (by decide) rfl (fun ls hl => ?_)
          refine lv_aload_n hx hb d_X2_leastHours_72 rfl (lv_at hl 3 rfl) ?_
          refine lv_iload hx hb d_X2_leastHours_73 (lv_at hl 7 rfl) ?_
          refine lv_dup2_11 hx hb d_X2_leastHours_75 rfl rfl ?_
          refine r_iald X hw (rfl : KD 42 = _) (Rg.vp (b := 2) r5 (by decide)) rfl d_X2_leastHours_76 ?_
          refine lv_topi (fun x26 ex26 => ?_)
          have hG := bnd_use ex26 hG
          refine lv_iload hx hb d_X2_leastHours_77 (lv_at hl 6 rfl) ?_
          refine lv_isub hx hb d_X2_leastHours_79 ?_
          refine lv_topi (fun x27 ex27 => ?_)
          have hG := bnd_use ex27 hG
          refine r_iast X hw hS (rfl : KD 42 = _) (Rg.vp (b := 2) r5 (by decide)) rfl d_X2_leastHours_80 (fun H locs hw hS => ?_)
          obtain ⟨v28, ev28⟩ : ∃ z, z = up2 v20 42 y7.toNatClampNeg x27 := ⟨_, rfl⟩
          rw [← ev28] at hw
          have hG := bnd_use ev28 hG
          have hI29 : Inv v28 := by rw [ev28]; exact Inv.put0 hI22 _ rfl
          have hK30 : Kp (kp_X2_leastHours_2 up gg be) v v28 := by rw [ev28]; exact Kp.put hK24 _ (by unfold kp_X2_leastHours_2; omega)
          obtain ⟨x31, ex31⟩ : ∃ y : Int32, y = y7 + 1 := ⟨_, rfl⟩
          have hG := bnd_use ex31 hG
          refine lv_iinc (v := x31) (lv' := [(7, .int x31), (6, .int x25), (0, .ref (ad 41)), (1, .int up), (2, .ref (ad 42)), (3, .int gg), (4, .int be), (5, .int y5)]) hx hb d_X2_leastHours_81 hl (k := 7) rfl (by rw [ex31]; rfl) (by decide) rfl (fun ls hl => ?_)
          have r32 : Rg x31 1 3 := rg_add ex31 r5 (⟨by decide, by decide⟩ : Rg 1 1 1) (by decide) (by decide)
          have s33 : x31.toInt = y7.toInt + (1 : Int32).toInt := by rw [ex31]; exact i_add (by obtain ⟨_, _⟩ := r5; obtain ⟨_, _⟩ := (⟨by decide, by decide⟩ : Rg 1 1 1); omega) (by obtain ⟨_, _⟩ := r5; obtain ⟨_, _⟩ := (⟨by decide, by decide⟩ : Rg 1 1 1); omega)
          have s33l : (1 : Int32).toInt = 1 := rfl
          refine lv_goto (tgt := 24) hx hb d_X2_leastHours_84 (by decide) ?_
          exact ih0 y5 x25 x31 v28 _ _ _ (by have q_ := r_y1; obtain ⟨_, _⟩ := q_; have q_ := r_gg; obtain ⟨_, _⟩ := q_; have q_ := r5; obtain ⟨_, _⟩ := q_; have q_ := r16; obtain ⟨_, _⟩ := q_; have q_ := r32; obtain ⟨_, _⟩ := q_; have q_ := rg_any be; obtain ⟨_, _⟩ := q_; have q_ := rg_any y5; obtain ⟨_, _⟩ := q_; have q_ := rg_any x25; obtain ⟨_, _⟩ := q_; omega) r_y1 (rg_w r32 (by decide) (by decide)) hI29 hK30 hG hw hS (lv_sub hl [2, 3, 4, 5, 6, 7, 1, 0] rfl)
        · have f34 := i_nlt c8
          have hG := g_neg c8 hG
          refine lv_goto (tgt := 81) hx hb d_X2_leastHours_42 (by decide) ?_
          obtain ⟨x35, ex35⟩ : ∃ y : Int32, y = y7 + 1 := ⟨_, rfl⟩
          have hG := bnd_use ex35 hG
          refine lv_iinc (v := x35) (lv' := [(7, .int x35), (0, .ref (ad 41)), (1, .int up), (2, .ref (ad 42)), (3, .int gg), (4, .int be), (5, .int y5), (6, .int y6)]) hx hb d_X2_leastHours_81 hl (k := 7) rfl (by rw [ex35]; rfl) (by decide) rfl (fun ls hl => ?_)
          have r36 : Rg x35 1 3 := rg_add ex35 r5 (⟨by decide, by decide⟩ : Rg 1 1 1) (by decide) (by decide)
          have s37 : x35.toInt = y7.toInt + (1 : Int32).toInt := by rw [ex35]; exact i_add (by obtain ⟨_, _⟩ := r5; obtain ⟨_, _⟩ := (⟨by decide, by decide⟩ : Rg 1 1 1); omega) (by obtain ⟨_, _⟩ := r5; obtain ⟨_, _⟩ := (⟨by decide, by decide⟩ : Rg 1 1 1); omega)
          have s37l : (1 : Int32).toInt = 1 := rfl
          refine lv_goto (tgt := 24) hx hb d_X2_leastHours_84 (by decide) ?_
          exact ih0 y5 y6 x35 v1 _ _ _ (by have q_ := r_y1; obtain ⟨_, _⟩ := q_; have q_ := r_gg; obtain ⟨_, _⟩ := q_; have q_ := r5; obtain ⟨_, _⟩ := q_; have q_ := r36; obtain ⟨_, _⟩ := q_; have q_ := rg_any be; obtain ⟨_, _⟩ := q_; have q_ := rg_any y5; obtain ⟨_, _⟩ := q_; have q_ := rg_any y6; obtain ⟨_, _⟩ := q_; omega) r_y1 (rg_w r36 (by decide) (by decide)) hI1 hK1 hG hw hS (lv_sub hl [1, 2, 3, 4, 5, 6, 7, 0] rfl)
  have ih0 := LL 100000
  have hK0 : Kp (kp_X2_leastHours_2 up gg be) v v := Kp.rf _ v
  have hG := eRR
  unfold f_X2_leastHours_2 at hG
  refine lv_iload_n hx hb d_X2_leastHours_0 rfl (lv_at hl 1 rfl) ?_
  refine lv_if_gt (tgt := 10) hx hb d_X2_leastHours_1 (by decide) (fun c38 => ?_) (fun c38 => ?_)
  · have f39 := i_lt c38
    have r40 : Rg up 1 2 := by obtain ⟨a1, a2⟩ := r_up; obtain ⟨b1, b2⟩ := (⟨by decide, by decide⟩ : Rg 0 0 0); have f := i_lt c38; exact ⟨by omega, by omega⟩
    have hG := g_pos c38 hG
    refine lv_aload_n hx hb d_X2_leastHours_10 rfl (lv_at hl 0 rfl) ?_
    refine lv_iload_n hx hb d_X2_leastHours_11 rfl (lv_at hl 1 rfl) ?_
    refine lv_iconst (v := 1) hx hb d_X2_leastHours_12 (by decide) ?_
    refine lv_isub hx hb d_X2_leastHours_13 ?_
    refine lv_topi (fun x41 ex41 => ?_)
    have hG := bnd_use ex41 hG
    have r42 : Rg x41 0 1 := rg_sub ex41 r40 (⟨by decide, by decide⟩ : Rg 1 1 1) (by decide) (by decide)
    have s43 : x41.toInt = up.toInt - (1 : Int32).toInt := by rw [ex41]; exact i_sub (by obtain ⟨_, _⟩ := r40; obtain ⟨_, _⟩ := (⟨by decide, by decide⟩ : Rg 1 1 1); omega) (by obtain ⟨_, _⟩ := r40; obtain ⟨_, _⟩ := (⟨by decide, by decide⟩ : Rg 1 1 1); omega)
    have s43l : (1 : Int32).toInt = 1 := rfl
    refine r_iald X hw (rfl : KD 41 = _) (Rg.vp (b := 1) r42 (by decide)) rfl d_X2_leastHours_14 ?_
    refine lv_topi (fun x44 ex44 => ?_)
    have hG := bnd_use ex44 hG
    refine lv_istore (lv' := [(5, .int x44), (0, .ref (ad 41)), (1, .int up), (2, .ref (ad 42)), (3, .int gg), (4, .int be)]) hx hb d_X2_leastHours_15 hl (by decide) rfl (fun ls hl => ?_)
    refine lv_iload hx hb d_X2_leastHours_17 (lv_at hl 5 rfl) ?_
    refine lv_istore (lv' := [(6, .int be), (5, .int x44), (0, .ref (ad 41)), (1, .int up), (2, .ref (ad 42)), (3, .int gg), (4, .int be)]) hx hb d_X2_leastHours_19 hl (by decide) rfl (fun ls hl => ?_)
    refine lv_iconst (v := 0) hx hb d_X2_leastHours_21 (by decide) ?_
    refine lv_istore (lv' := [(7, .int 0), (6, .int be), (5, .int x44), (0, .ref (ad 41)), (1, .int up), (2, .ref (ad 42)), (3, .int gg), (4, .int be)]) hx hb d_X2_leastHours_22 hl (by decide) rfl (fun ls hl => ?_)
    exact ih0 x44 be 0 v _ _ _ (by have q_ := r40; obtain ⟨_, _⟩ := q_; have q_ := r_gg; obtain ⟨_, _⟩ := q_; have q_ := r42; obtain ⟨_, _⟩ := q_; have q_ := rg_any be; obtain ⟨_, _⟩ := q_; have q_ := rg_any x44; obtain ⟨_, _⟩ := q_; have q_ := rg_any be; obtain ⟨_, _⟩ := q_; have q_ : (0 : Int32).toInt = 0 := rfl; omega) r40 (rg_w (⟨by decide, by decide⟩ : Rg 0 0 0) (by decide) (by decide)) hI hK0 hG hw hS (lv_sub hl [3, 4, 5, 6, 7, 2, 1, 0] rfl)
  · have f45 := i_nlt c38
    have r46 : Rg up 0 0 := by obtain ⟨a1, a2⟩ := r_up; obtain ⟨b1, b2⟩ := (⟨by decide, by decide⟩ : Rg 0 0 0); have f := i_nlt c38; exact ⟨by omega, by omega⟩
    have hG := g_neg c38 hG
    refine lv_aload_n hx hb d_X2_leastHours_4 rfl (lv_at hl 2 rfl) ?_
    refine lv_iload_n hx hb d_X2_leastHours_5 rfl (lv_at hl 3 rfl) ?_
    refine r_ci (r_runS (n := 2) (As := [.ref (ad 42), .int gg]) (rest := []) X hw (ct_X2_longest_42 l D dA ad v hI gg r_gg) gc_X2_44 (by decide +kernel) ⟨rfl, rfl, Nat.le_of_ble_eq_true rfl, Nat.le_of_ble_eq_true rfl⟩ rfl hl.1 rfl (Nat.le_of_ble_eq_true rfl) ⟨Nat.zero_le _, Nat.zero_le _⟩ d_X2_leastHours_6) hS (fun x48 v49 H locs hp47 hw hS => ?_)
    obtain ⟨hp47, hE50⟩ := hp47
    rw [hp47] at hw
    have hG := bnd_use hE50 hG
    exact r_iret X hr hlocks hw hS ⟨⟨hI, hK0⟩, hG.trans eRR.symm⟩ d_X2_leastHours_9
def kp_X2_leastHours_3 (up : Int32) (gg : Int32) (be : Int32) (a j : Nat) : Prop := a ≠ 42
def b_X2_leastHours_3_24 (up : Int32) (gg : Int32) (be : Int32) (rc24 : Int32 → Int32 → Int32 → tV → Int32 × tV) (y5 : Int32) (y6 : Int32) (y7 : Int32) (v1 : tV) : Int32 × tV := (if gg ≤ y7 then (y6, v1) else bnd (v1 42 y7.toNatClampNeg) fun x6 => bnd (x6 + y5) fun x7 => (if x7 < y6 then bnd (v1 42 y7.toNatClampNeg) fun x10 => bnd (x10 + y5) fun x11 => bnd (up2 v1 42 (y7.toNatClampNeg) x11) fun v12 => bnd (up - (1 : Int32)) fun x15 => bnd2 (f_X2_leastHours_2 v12 x15 gg y6) fun x19 v20 => bnd (if x19 < y6 then x19 else y6) fun x25 => bnd (v20 42 y7.toNatClampNeg) fun x26 => bnd (x26 - y5) fun x27 => bnd (up2 v20 42 (y7.toNatClampNeg) x27) fun v28 => bnd (y7 + 1) fun x31 => rc24 y5 x25 x31 v28 else bnd (y7 + 1) fun x35 => rc24 y5 y6 x35 v1))
def g_X2_leastHours_3_24 (up : Int32) (gg : Int32) (be : Int32) : Nat → Int32 → Int32 → Int32 → tV → Int32 × tV
  | 0, _, _, _, v1 => (0, v1)
  | n + 1, y5, y6, y7, v1 => b_X2_leastHours_3_24 up gg be (g_X2_leastHours_3_24 up gg be n) y5 y6 y7 v1
def f_X2_leastHours_3 (v : tV) (up : Int32) (gg : Int32) (be : Int32) : Int32 × tV := (if (0 : Int32) < up then bnd (up - (1 : Int32)) fun x41 => bnd (v 41 x41.toNatClampNeg) fun x44 => g_X2_leastHours_3_24 up gg be 100000 x44 be 0 v else bnd (f_X2_longest_42 v gg) fun x48 => (x48, v))
set_option maxHeartbeats 4000000 in
set_option maxRecDepth 100000 in
theorem ct_X2_leastHours_3 (l : Launch) (D : va_G) (dA : Nat → ClassId) (ad : Nat → Nat) (v : tV) (hI : Inv v) (up : Int32) (gg : Int32) (be : Int32) (r_up : Rg up 0 3) (r_gg : Rg gg 1 3) : Met l m_X2_leastHours [.code m_X2_leastHours c_X2_leastHours 8 (some .int)] ({ frames := 5, cells := 0, slots := 0, locals := 144 } : Room) (tP D dA ad v [.ref (ad 41), .int up, .ref (ad 42), .int gg, .int be]) (tQi D dA ad (fun r v' => (Inv v' ∧ Kp (kp_X2_leastHours_3 up gg be) v v') ∧ (r, v') = f_X2_leastHours_3 v up gg be)) 0 0 (tA ad) := by
  refine tMet (by decide) (Nat.le_of_ble_eq_true rfl) ?_
  intro p e s m below meth c ls X hr hlocks hw hl
  have X : CX p s m ([.ref (ad 41), .int up, .ref (ad 42), .int gg, .int be] : List Value).toArray c c_X2_leastHours N_X2 8 D dA := X
  have hx := X.1
  have hb := X.2.1
  have hS : va_S (tA ad) s.heap s.heap [] := va_S.rf
  have hl : lv_has ls 8 [(0, .ref (ad 41)), (1, .int up), (2, .ref (ad 42)), (3, .int gg), (4, .int be)] := hl
  obtain ⟨RR, eRR⟩ : ∃ z, f_X2_leastHours_3 v up gg be = z := ⟨_, rfl⟩
  have LL : ∀ n : Nat, (∀ (y5 : Int32) (y6 : Int32) (y7 : Int32) (v1 : tV) (H : Heap) (locs : List Loc) (ls : Array Slot), (3 - y7.toInt).toNat < n → Rg up 1 3 → Rg y7 0 3 → Inv v1 → Kp (kp_X2_leastHours_3 up gg be) v v1 → g_X2_leastHours_3_24 up gg be n y5 y6 y7 v1 = RR → tI D dA ad v1 H → va_S (tA ad) s.heap H locs → lv_has ls 8 [(0, .ref (ad 41)), (1, .int up), (2, .ref (ad 42)), (3, .int gg), (4, .int be), (5, .int y5), (6, .int y6), (7, .int y7)] → W p l e ({ frames := 5, cells := 0, slots := 0, locals := 144 } : Room) s m ([.ref (ad 41), .int up, .ref (ad 42), .int gg, .int be] : List Value).toArray below meth c H locs 0 0 (MQ below (tQi D dA ad (fun r v' => (Inv v' ∧ Kp (kp_X2_leastHours_3 up gg be) v v') ∧ (r, v') = f_X2_leastHours_3 v up gg be)) ([.ref (ad 41), .int up, .ref (ad 42), .int gg, .int be] : List Value).toArray s 0 0 (tA ad)) (F0 m 24 ls [])) := by
    intro n
    induction n with
    | zero => intros; omega
    | succ n ih =>
      have ih0 := ih
      intro y5 y6 y7 v1 H locs ls hmu r_y1 r_y7 hI1 hK1 hG hw hS hl
      have hG : b_X2_leastHours_3_24 up gg be (g_X2_leastHours_3_24 up gg be n) y5 y6 y7 v1 = RR := hG
      unfold b_X2_leastHours_3_24 at hG
      refine lv_iload hx hb d_X2_leastHours_24 (lv_at hl 7 rfl) ?_
      refine lv_iload_n hx hb d_X2_leastHours_26 rfl (lv_at hl 3 rfl) ?_
      refine lv_icmp_ge (tgt := 87) hx hb d_X2_leastHours_27 (by decide) (fun c1 => ?_) (fun c1 => ?_)
      · have f2 := i_le c1
        have r3 : Rg y7 1 3 := by obtain ⟨a1, a2⟩ := r_y7; obtain ⟨b1, b2⟩ := r_gg; have f := i_le c1; exact ⟨by omega, by omega⟩
        have hG := g_pos c1 hG
        refine lv_iload hx hb d_X2_leastHours_87 (lv_at hl 6 rfl) ?_
        exact r_iret X hr hlocks hw hS ⟨⟨hI1, hK1⟩, hG.trans eRR.symm⟩ d_X2_leastHours_89
      · have f4 := i_nle c1
        have r5 : Rg y7 0 2 := by obtain ⟨a1, a2⟩ := r_y7; obtain ⟨b1, b2⟩ := r_gg; have f := i_nle c1; exact ⟨by omega, by omega⟩
        have hG := g_neg c1 hG
        refine lv_aload_n hx hb d_X2_leastHours_30 rfl (lv_at hl 2 rfl) ?_
        refine lv_iload hx hb d_X2_leastHours_31 (lv_at hl 7 rfl) ?_
        refine r_iald X hw (rfl : KD 42 = _) (Rg.vp (b := 2) r5 (by decide)) rfl d_X2_leastHours_33 ?_
        refine lv_topi (fun x6 ex6 => ?_)
        have hG := bnd_use ex6 hG
        refine lv_iload hx hb d_X2_leastHours_34 (lv_at hl 5 rfl) ?_
        refine lv_iadd hx hb d_X2_leastHours_36 ?_
        refine lv_topi (fun x7 ex7 => ?_)
        have hG := bnd_use ex7 hG
        refine lv_iload hx hb d_X2_leastHours_37 (lv_at hl 6 rfl) ?_
        refine lv_icmp_lt (tgt := 45) hx hb d_X2_leastHours_39 (by decide) (fun c8 => ?_) (fun c8 => ?_)
        · have f9 := i_lt c8
          have hG := g_pos c8 hG
          refine lv_aload_n hx hb d_X2_leastHours_45 rfl (lv_at hl 2 rfl) ?_
          refine lv_iload hx hb d_X2_leastHours_46 (lv_at hl 7 rfl) ?_
          refine lv_dup2_11 hx hb d_X2_leastHours_48 rfl rfl ?_
          refine r_iald X hw (rfl : KD 42 = _) (Rg.vp (b := 2) r5 (by decide)) rfl d_X2_leastHours_49 ?_
          refine lv_topi (fun x10 ex10 => ?_)
          have hG := bnd_use ex10 hG
          refine lv_iload hx hb d_X2_leastHours_50 (lv_at hl 5 rfl) ?_
          refine lv_iadd hx hb d_X2_leastHours_52 ?_
          refine lv_topi (fun x11 ex11 => ?_)
          have hG := bnd_use ex11 hG
          refine r_iast X hw hS (rfl : KD 42 = _) (Rg.vp (b := 2) r5 (by decide)) rfl d_X2_leastHours_53 (fun H locs hw hS => ?_)
          obtain ⟨v12, ev12⟩ : ∃ z, z = up2 v1 42 y7.toNatClampNeg x11 := ⟨_, rfl⟩
          rw [← ev12] at hw
          have hG := bnd_use ev12 hG
          have hI13 : Inv v12 := by rw [ev12]; exact Inv.put0 hI1 _ rfl
          have hK14 : Kp (kp_X2_leastHours_3 up gg be) v v12 := by rw [ev12]; exact Kp.put hK1 _ (by unfold kp_X2_leastHours_3; omega)
          refine lv_iload hx hb d_X2_leastHours_54 (lv_at hl 6 rfl) ?_
          refine lv_aload_n hx hb d_X2_leastHours_56 rfl (lv_at hl 0 rfl) ?_
          refine lv_iload_n hx hb d_X2_leastHours_57 rfl (lv_at hl 1 rfl) ?_
          refine lv_iconst (v := 1) hx hb d_X2_leastHours_58 (by decide) ?_
          refine lv_isub hx hb d_X2_leastHours_59 ?_
          refine lv_topi (fun x15 ex15 => ?_)
          have hG := bnd_use ex15 hG
          have r16 : Rg x15 0 2 := rg_sub ex15 r_y1 (⟨by decide, by decide⟩ : Rg 1 1 1) (by decide) (by decide)
          have s17 : x15.toInt = up.toInt - (1 : Int32).toInt := by rw [ex15]; exact i_sub (by obtain ⟨_, _⟩ := r_y1; obtain ⟨_, _⟩ := (⟨by decide, by decide⟩ : Rg 1 1 1); omega) (by obtain ⟨_, _⟩ := r_y1; obtain ⟨_, _⟩ := (⟨by decide, by decide⟩ : Rg 1 1 1); omega)
          have s17l : (1 : Int32).toInt = 1 := rfl
          refine lv_aload_n hx hb d_X2_leastHours_60 rfl (lv_at hl 2 rfl) ?_
          refine lv_iload_n hx hb d_X2_leastHours_61 rfl (lv_at hl 3 rfl) ?_
          refine lv_iload hx hb d_X2_leastHours_62 (lv_at hl 6 rfl) ?_
          refine r_ci (r_runS (n := 5) (As := [.ref (ad 41), .int x15, .ref (ad 42), .int gg, .int y6]) (rest := [.int y6]) X hw (ct_X2_leastHours_2 l D dA ad v12 hI13 x15 gg y6 r16 r_gg) gc_X2_28 (by decide +kernel) ⟨rfl, rfl, Nat.le_of_ble_eq_true rfl, Nat.le_of_ble_eq_true rfl⟩ rfl hl.1 rfl (Nat.le_of_ble_eq_true rfl) ⟨Nat.zero_le _, Nat.zero_le _⟩ d_X2_leastHours_64) hS (fun x19 v20 H locs hp18 hw hS => ?_)
          obtain ⟨hp18, hE21⟩ := hp18
          obtain ⟨hI22, hK23⟩ := hp18
          have hK24 : Kp (kp_X2_leastHours_3 up gg be) v v20 := Kp.tr hK14 hK23 (by have z0 : (0 : Int32).toInt = 0 := rfl; intro a j; unfold kp_X2_leastHours_3 kp_X2_leastHours_2; omega)
          have hG := bnd2_use hE21 hG
          refine va_mmin hx hb (X.2.2.1.trans hl.1.symm) X.2.2.2.1 (X.2.2.2.2.1 _ ml_X2_48) (X.2.2.2.2.1 _ ml_mins) (X.2.2.2.2.1 _ ml_mi) (X.2.2.2.2.1 _ ml_minc) (Nat.le_of_ble_eq_true rfl) (Nat.le_of_ble_eq_true rfl) (Nat.zero_le _) (Nat.zero_le _) d_X2_leastHours_67 ?_
          refine lv_topi (fun x25 ex25 => ?_)
          have hG := bnd_use ex25 hG
          refine lv_istore (lv' := [(6, .int x25), (0, .ref (ad 41)), (1, .int up), (2, .ref (ad 42)), (3, .int gg), (4, .int be), (5, .int y5), (7, .int y7)]) hx hb d_X2_leastHours_70 hl (by decide) rfl (fun ls hl => ?_)
          refine lv_aload_n hx hb d_X2_leastHours_72 rfl (lv_at hl 3 rfl) ?_
          refine lv_iload hx hb d_X2_leastHours_73 (lv_at hl 7 rfl) ?_
          refine lv_dup2_11 hx hb d_X2_leastHours_75 rfl rfl ?_
          refine r_iald X hw (rfl : KD 42 = _) (Rg.vp (b := 2) r5 (by decide)) rfl d_X2_leastHours_76 ?_
          refine lv_topi (fun x26 ex26 => ?_)
          have hG := bnd_use ex26 hG
          refine lv_iload hx hb d_X2_leastHours_77 (lv_at hl 6 rfl) ?_
          refine lv_isub hx hb d_X2_leastHours_79 ?_
          refine lv_topi (fun x27 ex27 => ?_)
          have hG := bnd_use ex27 hG
          refine r_iast X hw hS (rfl : KD 42 = _) (Rg.vp (b := 2) r5 (by decide)) rfl d_X2_leastHours_80 (fun H locs hw hS => ?_)
          obtain ⟨v28, ev28⟩ : ∃ z, z = up2 v20 42 y7.toNatClampNeg x27 := ⟨_, rfl⟩
          rw [← ev28] at hw
          have hG := bnd_use ev28 hG
          have hI29 : Inv v28 := by rw [ev28]; exact Inv.put0 hI22 _ rfl
          have hK30 : Kp (kp_X2_leastHours_3 up gg be) v v28 := by rw [ev28]; exact Kp.put hK24 _ (by unfold kp_X2_leastHours_3; omega)
          obtain ⟨x31, ex31⟩ : ∃ y : Int32, y = y7 + 1 := ⟨_, rfl⟩
          have hG := bnd_use ex31 hG
          refine lv_iinc (v := x31) (lv' := [(7, .int x31), (6, .int x25), (0, .ref (ad 41)), (1, .int up), (2, .ref (ad 42)), (3, .int gg), (4, .int be), (5, .int y5)]) hx hb d_X2_leastHours_81 hl (k := 7) rfl (by rw [ex31]; rfl) (by decide) rfl (fun ls hl => ?_)
          have r32 : Rg x31 1 3 := rg_add ex31 r5 (⟨by decide, by decide⟩ : Rg 1 1 1) (by decide) (by decide)
          have s33 : x31.toInt = y7.toInt + (1 : Int32).toInt := by rw [ex31]; exact i_add (by obtain ⟨_, _⟩ := r5; obtain ⟨_, _⟩ := (⟨by decide, by decide⟩ : Rg 1 1 1); omega) (by obtain ⟨_, _⟩ := r5; obtain ⟨_, _⟩ := (⟨by decide, by decide⟩ : Rg 1 1 1); omega)
          have s33l : (1 : Int32).toInt = 1 := rfl
          refine lv_goto (tgt := 24) hx hb d_X2_leastHours_84 (by decide) ?_
          exact ih0 y5 x25 x31 v28 _ _ _ (by have q_ := r_y1; obtain ⟨_, _⟩ := q_; have q_ := r_gg; obtain ⟨_, _⟩ := q_; have q_ := r5; obtain ⟨_, _⟩ := q_; have q_ := r16; obtain ⟨_, _⟩ := q_; have q_ := r32; obtain ⟨_, _⟩ := q_; have q_ := rg_any be; obtain ⟨_, _⟩ := q_; have q_ := rg_any y5; obtain ⟨_, _⟩ := q_; have q_ := rg_any x25; obtain ⟨_, _⟩ := q_; omega) r_y1 (rg_w r32 (by decide) (by decide)) hI29 hK30 hG hw hS (lv_sub hl [2, 3, 4, 5, 6, 7, 1, 0] rfl)
        · have f34 := i_nlt c8
          have hG := g_neg c8 hG
          refine lv_goto (tgt := 81) hx hb d_X2_leastHours_42 (by decide) ?_
          obtain ⟨x35, ex35⟩ : ∃ y : Int32, y = y7 + 1 := ⟨_, rfl⟩
          have hG := bnd_use ex35 hG
          refine lv_iinc (v := x35) (lv' := [(7, .int x35), (0, .ref (ad 41)), (1, .int up), (2, .ref (ad 42)), (3, .int gg), (4, .int be), (5, .int y5), (6, .int y6)]) hx hb d_X2_leastHours_81 hl (k := 7) rfl (by rw [ex35]; rfl) (by decide) rfl (fun ls hl => ?_)
          have r36 : Rg x35 1 3 := rg_add ex35 r5 (⟨by decide, by decide⟩ : Rg 1 1 1) (by decide) (by decide)
          have s37 : x35.toInt = y7.toInt + (1 : Int32).toInt := by rw [ex35]; exact i_add (by obtain ⟨_, _⟩ := r5; obtain ⟨_, _⟩ := (⟨by decide, by decide⟩ : Rg 1 1 1); omega) (by obtain ⟨_, _⟩ := r5; obtain ⟨_, _⟩ := (⟨by decide, by decide⟩ : Rg 1 1 1); omega)
          have s37l : (1 : Int32).toInt = 1 := rfl
          refine lv_goto (tgt := 24) hx hb d_X2_leastHours_84 (by decide) ?_
          exact ih0 y5 y6 x35 v1 _ _ _ (by have q_ := r_y1; obtain ⟨_, _⟩ := q_; have q_ := r_gg; obtain ⟨_, _⟩ := q_; have q_ := r5; obtain ⟨_, _⟩ := q_; have q_ := r36; obtain ⟨_, _⟩ := q_; have q_ := rg_any be; obtain ⟨_, _⟩ := q_; have q_ := rg_any y5; obtain ⟨_, _⟩ := q_; have q_ := rg_any y6; obtain ⟨_, _⟩ := q_; omega) r_y1 (rg_w r36 (by decide) (by decide)) hI1 hK1 hG hw hS (lv_sub hl [1, 2, 3, 4, 5, 6, 7, 0] rfl)
  have ih0 := LL 100000
  have hK0 : Kp (kp_X2_leastHours_3 up gg be) v v := Kp.rf _ v
  have hG := eRR
  unfold f_X2_leastHours_3 at hG
  refine lv_iload_n hx hb d_X2_leastHours_0 rfl (lv_at hl 1 rfl) ?_
  refine lv_if_gt (tgt := 10) hx hb d_X2_leastHours_1 (by decide) (fun c38 => ?_) (fun c38 => ?_)
  · have f39 := i_lt c38
    have r40 : Rg up 1 3 := by obtain ⟨a1, a2⟩ := r_up; obtain ⟨b1, b2⟩ := (⟨by decide, by decide⟩ : Rg 0 0 0); have f := i_lt c38; exact ⟨by omega, by omega⟩
    have hG := g_pos c38 hG
    refine lv_aload_n hx hb d_X2_leastHours_10 rfl (lv_at hl 0 rfl) ?_
    refine lv_iload_n hx hb d_X2_leastHours_11 rfl (lv_at hl 1 rfl) ?_
    refine lv_iconst (v := 1) hx hb d_X2_leastHours_12 (by decide) ?_
    refine lv_isub hx hb d_X2_leastHours_13 ?_
    refine lv_topi (fun x41 ex41 => ?_)
    have hG := bnd_use ex41 hG
    have r42 : Rg x41 0 2 := rg_sub ex41 r40 (⟨by decide, by decide⟩ : Rg 1 1 1) (by decide) (by decide)
    have s43 : x41.toInt = up.toInt - (1 : Int32).toInt := by rw [ex41]; exact i_sub (by obtain ⟨_, _⟩ := r40; obtain ⟨_, _⟩ := (⟨by decide, by decide⟩ : Rg 1 1 1); omega) (by obtain ⟨_, _⟩ := r40; obtain ⟨_, _⟩ := (⟨by decide, by decide⟩ : Rg 1 1 1); omega)
    have s43l : (1 : Int32).toInt = 1 := rfl
    refine r_iald X hw (rfl : KD 41 = _) (Rg.vp (b := 2) r42 (by decide)) rfl d_X2_leastHours_14 ?_
    refine lv_topi (fun x44 ex44 => ?_)
    have hG := bnd_use ex44 hG
    refine lv_istore (lv' := [(5, .int x44), (0, .ref (ad 41)), (1, .int up), (2, .ref (ad 42)), (3, .int gg), (4, .int be)]) hx hb d_X2_leastHours_15 hl (by decide) rfl (fun ls hl => ?_)
    refine lv_iload hx hb d_X2_leastHours_17 (lv_at hl 5 rfl) ?_
    refine lv_istore (lv' := [(6, .int be), (5, .int x44), (0, .ref (ad 41)), (1, .int up), (2, .ref (ad 42)), (3, .int gg), (4, .int be)]) hx hb d_X2_leastHours_19 hl (by decide) rfl (fun ls hl => ?_)
    refine lv_iconst (v := 0) hx hb d_X2_leastHours_21 (by decide) ?_
    refine lv_istore (lv' := [(7, .int 0), (6, .int be), (5, .int x44), (0, .ref (ad 41)), (1, .int up), (2, .ref (ad 42)), (3, .int gg), (4, .int be)]) hx hb d_X2_leastHours_22 hl (by decide) rfl (fun ls hl => ?_)
    exact ih0 x44 be 0 v _ _ _ (by have q_ := r40; obtain ⟨_, _⟩ := q_; have q_ := r_gg; obtain ⟨_, _⟩ := q_; have q_ := r42; obtain ⟨_, _⟩ := q_; have q_ := rg_any be; obtain ⟨_, _⟩ := q_; have q_ := rg_any x44; obtain ⟨_, _⟩ := q_; have q_ := rg_any be; obtain ⟨_, _⟩ := q_; have q_ : (0 : Int32).toInt = 0 := rfl; omega) r40 (rg_w (⟨by decide, by decide⟩ : Rg 0 0 0) (by decide) (by decide)) hI hK0 hG hw hS (lv_sub hl [3, 4, 5, 6, 7, 2, 1, 0] rfl)
  · have f45 := i_nlt c38
    have r46 : Rg up 0 0 := by obtain ⟨a1, a2⟩ := r_up; obtain ⟨b1, b2⟩ := (⟨by decide, by decide⟩ : Rg 0 0 0); have f := i_nlt c38; exact ⟨by omega, by omega⟩
    have hG := g_neg c38 hG
    refine lv_aload_n hx hb d_X2_leastHours_4 rfl (lv_at hl 2 rfl) ?_
    refine lv_iload_n hx hb d_X2_leastHours_5 rfl (lv_at hl 3 rfl) ?_
    refine r_ci (r_runS (n := 2) (As := [.ref (ad 42), .int gg]) (rest := []) X hw (ct_X2_longest_42 l D dA ad v hI gg r_gg) gc_X2_44 (by decide +kernel) ⟨rfl, rfl, Nat.le_of_ble_eq_true rfl, Nat.le_of_ble_eq_true rfl⟩ rfl hl.1 rfl (Nat.le_of_ble_eq_true rfl) ⟨Nat.zero_le _, Nat.zero_le _⟩ d_X2_leastHours_6) hS (fun x48 v49 H locs hp47 hw hS => ?_)
    obtain ⟨hp47, hE50⟩ := hp47
    rw [hp47] at hw
    have hG := bnd_use hE50 hG
    exact r_iret X hr hlocks hw hS ⟨⟨hI, hK0⟩, hG.trans eRR.symm⟩ d_X2_leastHours_9
def kp_X2_leastHours_4 (up : Int32) (gg : Int32) (be : Int32) (a j : Nat) : Prop := a ≠ 42
def b_X2_leastHours_4_24 (up : Int32) (gg : Int32) (be : Int32) (rc24 : Int32 → Int32 → Int32 → tV → Int32 × tV) (y5 : Int32) (y6 : Int32) (y7 : Int32) (v1 : tV) : Int32 × tV := (if gg ≤ y7 then (y6, v1) else bnd (v1 42 y7.toNatClampNeg) fun x6 => bnd (x6 + y5) fun x7 => (if x7 < y6 then bnd (v1 42 y7.toNatClampNeg) fun x10 => bnd (x10 + y5) fun x11 => bnd (up2 v1 42 (y7.toNatClampNeg) x11) fun v12 => bnd (up - (1 : Int32)) fun x15 => bnd2 (f_X2_leastHours_3 v12 x15 gg y6) fun x19 v20 => bnd (if x19 < y6 then x19 else y6) fun x25 => bnd (v20 42 y7.toNatClampNeg) fun x26 => bnd (x26 - y5) fun x27 => bnd (up2 v20 42 (y7.toNatClampNeg) x27) fun v28 => bnd (y7 + 1) fun x31 => rc24 y5 x25 x31 v28 else bnd (y7 + 1) fun x35 => rc24 y5 y6 x35 v1))
def g_X2_leastHours_4_24 (up : Int32) (gg : Int32) (be : Int32) : Nat → Int32 → Int32 → Int32 → tV → Int32 × tV
  | 0, _, _, _, v1 => (0, v1)
  | n + 1, y5, y6, y7, v1 => b_X2_leastHours_4_24 up gg be (g_X2_leastHours_4_24 up gg be n) y5 y6 y7 v1
def f_X2_leastHours_4 (v : tV) (up : Int32) (gg : Int32) (be : Int32) : Int32 × tV := (if (0 : Int32) < up then bnd (up - (1 : Int32)) fun x41 => bnd (v 41 x41.toNatClampNeg) fun x44 => g_X2_leastHours_4_24 up gg be 100000 x44 be 0 v else bnd (f_X2_longest_42 v gg) fun x48 => (x48, v))
set_option maxHeartbeats 4000000 in
set_option maxRecDepth 100000 in
theorem ct_X2_leastHours_4 (l : Launch) (D : va_G) (dA : Nat → ClassId) (ad : Nat → Nat) (v : tV) (hI : Inv v) (up : Int32) (gg : Int32) (be : Int32) (r_up : Rg up 0 4) (r_gg : Rg gg 1 3) : Met l m_X2_leastHours [.code m_X2_leastHours c_X2_leastHours 8 (some .int)] ({ frames := 6, cells := 0, slots := 0, locals := 171 } : Room) (tP D dA ad v [.ref (ad 41), .int up, .ref (ad 42), .int gg, .int be]) (tQi D dA ad (fun r v' => (Inv v' ∧ Kp (kp_X2_leastHours_4 up gg be) v v') ∧ (r, v') = f_X2_leastHours_4 v up gg be)) 0 0 (tA ad) := by
  refine tMet (by decide) (Nat.le_of_ble_eq_true rfl) ?_
  intro p e s m below meth c ls X hr hlocks hw hl
  have X : CX p s m ([.ref (ad 41), .int up, .ref (ad 42), .int gg, .int be] : List Value).toArray c c_X2_leastHours N_X2 8 D dA := X
  have hx := X.1
  have hb := X.2.1
  have hS : va_S (tA ad) s.heap s.heap [] := va_S.rf
  have hl : lv_has ls 8 [(0, .ref (ad 41)), (1, .int up), (2, .ref (ad 42)), (3, .int gg), (4, .int be)] := hl
  obtain ⟨RR, eRR⟩ : ∃ z, f_X2_leastHours_4 v up gg be = z := ⟨_, rfl⟩
  have LL : ∀ n : Nat, (∀ (y5 : Int32) (y6 : Int32) (y7 : Int32) (v1 : tV) (H : Heap) (locs : List Loc) (ls : Array Slot), (3 - y7.toInt).toNat < n → Rg up 1 4 → Rg y7 0 3 → Inv v1 → Kp (kp_X2_leastHours_4 up gg be) v v1 → g_X2_leastHours_4_24 up gg be n y5 y6 y7 v1 = RR → tI D dA ad v1 H → va_S (tA ad) s.heap H locs → lv_has ls 8 [(0, .ref (ad 41)), (1, .int up), (2, .ref (ad 42)), (3, .int gg), (4, .int be), (5, .int y5), (6, .int y6), (7, .int y7)] → W p l e ({ frames := 6, cells := 0, slots := 0, locals := 171 } : Room) s m ([.ref (ad 41), .int up, .ref (ad 42), .int gg, .int be] : List Value).toArray below meth c H locs 0 0 (MQ below (tQi D dA ad (fun r v' => (Inv v' ∧ Kp (kp_X2_leastHours_4 up gg be) v v') ∧ (r, v') = f_X2_leastHours_4 v up gg be)) ([.ref (ad 41), .int up, .ref (ad 42), .int gg, .int be] : List Value).toArray s 0 0 (tA ad)) (F0 m 24 ls [])) := by
    intro n
    induction n with
    | zero => intros; omega
    | succ n ih =>
      have ih0 := ih
      intro y5 y6 y7 v1 H locs ls hmu r_y1 r_y7 hI1 hK1 hG hw hS hl
      have hG : b_X2_leastHours_4_24 up gg be (g_X2_leastHours_4_24 up gg be n) y5 y6 y7 v1 = RR := hG
      unfold b_X2_leastHours_4_24 at hG
      refine lv_iload hx hb d_X2_leastHours_24 (lv_at hl 7 rfl) ?_
      refine lv_iload_n hx hb d_X2_leastHours_26 rfl (lv_at hl 3 rfl) ?_
      refine lv_icmp_ge (tgt := 87) hx hb d_X2_leastHours_27 (by decide) (fun c1 => ?_) (fun c1 => ?_)
      · have f2 := i_le c1
        have r3 : Rg y7 1 3 := by obtain ⟨a1, a2⟩ := r_y7; obtain ⟨b1, b2⟩ := r_gg; have f := i_le c1; exact ⟨by omega, by omega⟩
        have hG := g_pos c1 hG
        refine lv_iload hx hb d_X2_leastHours_87 (lv_at hl 6 rfl) ?_
        exact r_iret X hr hlocks hw hS ⟨⟨hI1, hK1⟩, hG.trans eRR.symm⟩ d_X2_leastHours_89
      · have f4 := i_nle c1
        have r5 : Rg y7 0 2 := by obtain ⟨a1, a2⟩ := r_y7; obtain ⟨b1, b2⟩ := r_gg; have f := i_nle c1; exact ⟨by omega, by omega⟩
        have hG := g_neg c1 hG
        refine lv_aload_n hx hb d_X2_leastHours_30 rfl (lv_at hl 2 rfl) ?_
        refine lv_iload hx hb d_X2_leastHours_31 (lv_at hl 7 rfl) ?_
        refine r_iald X hw (rfl : KD 42 = _) (Rg.vp (b := 2) r5 (by decide)) rfl d_X2_leastHours_33 ?_
        refine lv_topi (fun x6 ex6 => ?_)
        have hG := bnd_use ex6 hG
        refine lv_iload hx hb d_X2_leastHours_34 (lv_at hl 5 rfl) ?_
        refine lv_iadd hx hb d_X2_leastHours_36 ?_
        refine lv_topi (fun x7 ex7 => ?_)
        have hG := bnd_use ex7 hG
        refine lv_iload hx hb d_X2_leastHours_37 (lv_at hl 6 rfl) ?_
        refine lv_icmp_lt (tgt := 45) hx hb d_X2_leastHours_39 (by decide) (fun c8 => ?_) (fun c8 => ?_)
        · have f9 := i_lt c8
          have hG := g_pos c8 hG
          refine lv_aload_n hx hb d_X2_leastHours_45 rfl (lv_at hl 2 rfl) ?_
          refine lv_iload hx hb d_X2_leastHours_46 (lv_at hl 7 rfl) ?_
          refine lv_dup2_11 hx hb d_X2_leastHours_48 rfl rfl ?_
          refine r_iald X hw (rfl : KD 42 = _) (Rg.vp (b := 2) r5 (by decide)) rfl d_X2_leastHours_49 ?_
          refine lv_topi (fun x10 ex10 => ?_)
          have hG := bnd_use ex10 hG
          refine lv_iload hx hb d_X2_leastHours_50 (lv_at hl 5 rfl) ?_
          refine lv_iadd hx hb d_X2_leastHours_52 ?_
          refine lv_topi (fun x11 ex11 => ?_)
          have hG := bnd_use ex11 hG
          refine r_iast X hw hS (rfl : KD 42 = _) (Rg.vp (b := 2) r5 (by decide)) rfl d_X2_leastHours_53 (fun H locs hw hS => ?_)
          obtain ⟨v12, ev12⟩ : ∃ z, z = up2 v1 42 y7.toNatClampNeg x11 := ⟨_, rfl⟩
          rw [← ev12] at hw
          have hG := bnd_use ev12 hG
          have hI13 : Inv v12 := by rw [ev12]; exact Inv.put0 hI1 _ rfl
          have hK14 : Kp (kp_X2_leastHours_4 up gg be) v v12 := by rw [ev12]; exact Kp.put hK1 _ (by unfold kp_X2_leastHours_4; omega)
          refine lv_iload hx hb d_X2_leastHours_54 (lv_at hl 6 rfl) ?_
          refine lv_aload_n hx hb d_X2_leastHours_56 rfl (lv_at hl 0 rfl) ?_
          refine lv_iload_n hx hb d_X2_leastHours_57 rfl (lv_at hl 1 rfl) ?_
          refine lv_iconst (v := 1) hx hb d_X2_leastHours_58 (by decide) ?_
          refine lv_isub hx hb d_X2_leastHours_59 ?_
          refine lv_topi (fun x15 ex15 => ?_)
          have hG := bnd_use ex15 hG
          have r16 : Rg x15 0 3 := rg_sub ex15 r_y1 (⟨by decide, by decide⟩ : Rg 1 1 1) (by decide) (by decide)
          have s17 : x15.toInt = up.toInt - (1 : Int32).toInt := by rw [ex15]; exact i_sub (by obtain ⟨_, _⟩ := r_y1; obtain ⟨_, _⟩ := (⟨by decide, by decide⟩ : Rg 1 1 1); omega) (by obtain ⟨_, _⟩ := r_y1; obtain ⟨_, _⟩ := (⟨by decide, by decide⟩ : Rg 1 1 1); omega)
          have s17l : (1 : Int32).toInt = 1 := rfl
          refine lv_aload_n hx hb d_X2_leastHours_60 rfl (lv_at hl 2 rfl) ?_
          refine lv_iload_n hx hb d_X2_leastHours_61 rfl (lv_at hl 3 rfl) ?_
          refine lv_iload hx hb d_X2_leastHours_62 (lv_at hl 6 rfl) ?_
          refine r_ci (r_runS (n := 5) (As := [.ref (ad 41), .int x15, .ref (ad 42), .int gg, .int y6]) (rest := [.int y6]) X hw (ct_X2_leastHours_3 l D dA ad v12 hI13 x15 gg y6 r16 r_gg) gc_X2_28 (by decide +kernel) ⟨rfl, rfl, Nat.le_of_ble_eq_true rfl, Nat.le_of_ble_eq_true rfl⟩ rfl hl.1 rfl (Nat.le_of_ble_eq_true rfl) ⟨Nat.zero_le _, Nat.zero_le _⟩ d_X2_leastHours_64) hS (fun x19 v20 H locs hp18 hw hS => ?_)
          obtain ⟨hp18, hE21⟩ := hp18
          obtain ⟨hI22, hK23⟩ := hp18
          have hK24 : Kp (kp_X2_leastHours_4 up gg be) v v20 := Kp.tr hK14 hK23 (by have z0 : (0 : Int32).toInt = 0 := rfl; intro a j; unfold kp_X2_leastHours_4 kp_X2_leastHours_3; omega)
          have hG := bnd2_use hE21 hG
          refine va_mmin hx hb (X.2.2.1.trans hl.1.symm) X.2.2.2.1 (X.2.2.2.2.1 _ ml_X2_48) (X.2.2.2.2.1 _ ml_mins) (X.2.2.2.2.1 _ ml_mi) (X.2.2.2.2.1 _ ml_minc) (Nat.le_of_ble_eq_true rfl) (Nat.le_of_ble_eq_true rfl) (Nat.zero_le _) (Nat.zero_le _) d_X2_leastHours_67 ?_
          refine lv_topi (fun x25 ex25 => ?_)
          have hG := bnd_use ex25 hG
          refine lv_istore (lv' := [(6, .int x25), (0, .ref (ad 41)), (1, .int up), (2, .ref (ad 42)), (3, .int gg), (4, .int be), (5, .int y5), (7, .int y7)]) hx hb d_X2_leastHours_70 hl (by decide) rfl (fun ls hl => ?_)
          refine lv_aload_n hx hb d_X2_leastHours_72 rfl (lv_at hl 3 rfl) ?_
          refine lv_iload hx hb d_X2_leastHours_73 (lv_at hl 7 rfl) ?_
          refine lv_dup2_11 hx hb d_X2_leastHours_75 rfl rfl ?_
          refine r_iald X hw (rfl : KD 42 = _) (Rg.vp (b := 2) r5 (by decide)) rfl d_X2_leastHours_76 ?_
          refine lv_topi (fun x26 ex26 => ?_)
          have hG := bnd_use ex26 hG
          refine lv_iload hx hb d_X2_leastHours_77 (lv_at hl 6 rfl) ?_
          refine lv_isub hx hb d_X2_leastHours_79 ?_
          refine lv_topi (fun x27 ex27 => ?_)
          have hG := bnd_use ex27 hG
          refine r_iast X hw hS (rfl : KD 42 = _) (Rg.vp (b := 2) r5 (by decide)) rfl d_X2_leastHours_80 (fun H locs hw hS => ?_)
          obtain ⟨v28, ev28⟩ : ∃ z, z = up2 v20 42 y7.toNatClampNeg x27 := ⟨_, rfl⟩
          rw [← ev28] at hw
          have hG := bnd_use ev28 hG
          have hI29 : Inv v28 := by rw [ev28]; exact Inv.put0 hI22 _ rfl
          have hK30 : Kp (kp_X2_leastHours_4 up gg be) v v28 := by rw [ev28]; exact Kp.put hK24 _ (by unfold kp_X2_leastHours_4; omega)
          obtain ⟨x31, ex31⟩ : ∃ y : Int32, y = y7 + 1 := ⟨_, rfl⟩
          have hG := bnd_use ex31 hG
          refine lv_iinc (v := x31) (lv' := [(7, .int x31), (6, .int x25), (0, .ref (ad 41)), (1, .int up), (2, .ref (ad 42)), (3, .int gg), (4, .int be), (5, .int y5)]) hx hb d_X2_leastHours_81 hl (k := 7) rfl (by rw [ex31]; rfl) (by decide) rfl (fun ls hl => ?_)
          have r32 : Rg x31 1 3 := rg_add ex31 r5 (⟨by decide, by decide⟩ : Rg 1 1 1) (by decide) (by decide)
          have s33 : x31.toInt = y7.toInt + (1 : Int32).toInt := by rw [ex31]; exact i_add (by obtain ⟨_, _⟩ := r5; obtain ⟨_, _⟩ := (⟨by decide, by decide⟩ : Rg 1 1 1); omega) (by obtain ⟨_, _⟩ := r5; obtain ⟨_, _⟩ := (⟨by decide, by decide⟩ : Rg 1 1 1); omega)
          have s33l : (1 : Int32).toInt = 1 := rfl
          refine lv_goto (tgt := 24) hx hb d_X2_leastHours_84 (by decide) ?_
          exact ih0 y5 x25 x31 v28 _ _ _ (by have q_ := r_y1; obtain ⟨_, _⟩ := q_; have q_ := r_gg; obtain ⟨_, _⟩ := q_; have q_ := r5; obtain ⟨_, _⟩ := q_; have q_ := r16; obtain ⟨_, _⟩ := q_; have q_ := r32; obtain ⟨_, _⟩ := q_; have q_ := rg_any be; obtain ⟨_, _⟩ := q_; have q_ := rg_any y5; obtain ⟨_, _⟩ := q_; have q_ := rg_any x25; obtain ⟨_, _⟩ := q_; omega) r_y1 (rg_w r32 (by decide) (by decide)) hI29 hK30 hG hw hS (lv_sub hl [2, 3, 4, 5, 6, 7, 1, 0] rfl)
        · have f34 := i_nlt c8
          have hG := g_neg c8 hG
          refine lv_goto (tgt := 81) hx hb d_X2_leastHours_42 (by decide) ?_
          obtain ⟨x35, ex35⟩ : ∃ y : Int32, y = y7 + 1 := ⟨_, rfl⟩
          have hG := bnd_use ex35 hG
          refine lv_iinc (v := x35) (lv' := [(7, .int x35), (0, .ref (ad 41)), (1, .int up), (2, .ref (ad 42)), (3, .int gg), (4, .int be), (5, .int y5), (6, .int y6)]) hx hb d_X2_leastHours_81 hl (k := 7) rfl (by rw [ex35]; rfl) (by decide) rfl (fun ls hl => ?_)
          have r36 : Rg x35 1 3 := rg_add ex35 r5 (⟨by decide, by decide⟩ : Rg 1 1 1) (by decide) (by decide)
          have s37 : x35.toInt = y7.toInt + (1 : Int32).toInt := by rw [ex35]; exact i_add (by obtain ⟨_, _⟩ := r5; obtain ⟨_, _⟩ := (⟨by decide, by decide⟩ : Rg 1 1 1); omega) (by obtain ⟨_, _⟩ := r5; obtain ⟨_, _⟩ := (⟨by decide, by decide⟩ : Rg 1 1 1); omega)
          have s37l : (1 : Int32).toInt = 1 := rfl
          refine lv_goto (tgt := 24) hx hb d_X2_leastHours_84 (by decide) ?_
          exact ih0 y5 y6 x35 v1 _ _ _ (by have q_ := r_y1; obtain ⟨_, _⟩ := q_; have q_ := r_gg; obtain ⟨_, _⟩ := q_; have q_ := r5; obtain ⟨_, _⟩ := q_; have q_ := r36; obtain ⟨_, _⟩ := q_; have q_ := rg_any be; obtain ⟨_, _⟩ := q_; have q_ := rg_any y5; obtain ⟨_, _⟩ := q_; have q_ := rg_any y6; obtain ⟨_, _⟩ := q_; omega) r_y1 (rg_w r36 (by decide) (by decide)) hI1 hK1 hG hw hS (lv_sub hl [1, 2, 3, 4, 5, 6, 7, 0] rfl)
  have ih0 := LL 100000
  have hK0 : Kp (kp_X2_leastHours_4 up gg be) v v := Kp.rf _ v
  have hG := eRR
  unfold f_X2_leastHours_4 at hG
  refine lv_iload_n hx hb d_X2_leastHours_0 rfl (lv_at hl 1 rfl) ?_
  refine lv_if_gt (tgt := 10) hx hb d_X2_leastHours_1 (by decide) (fun c38 => ?_) (fun c38 => ?_)
  · have f39 := i_lt c38
    have r40 : Rg up 1 4 := by obtain ⟨a1, a2⟩ := r_up; obtain ⟨b1, b2⟩ := (⟨by decide, by decide⟩ : Rg 0 0 0); have f := i_lt c38; exact ⟨by omega, by omega⟩
    have hG := g_pos c38 hG
    refine lv_aload_n hx hb d_X2_leastHours_10 rfl (lv_at hl 0 rfl) ?_
    refine lv_iload_n hx hb d_X2_leastHours_11 rfl (lv_at hl 1 rfl) ?_
    refine lv_iconst (v := 1) hx hb d_X2_leastHours_12 (by decide) ?_
    refine lv_isub hx hb d_X2_leastHours_13 ?_
    refine lv_topi (fun x41 ex41 => ?_)
    have hG := bnd_use ex41 hG
    have r42 : Rg x41 0 3 := rg_sub ex41 r40 (⟨by decide, by decide⟩ : Rg 1 1 1) (by decide) (by decide)
    have s43 : x41.toInt = up.toInt - (1 : Int32).toInt := by rw [ex41]; exact i_sub (by obtain ⟨_, _⟩ := r40; obtain ⟨_, _⟩ := (⟨by decide, by decide⟩ : Rg 1 1 1); omega) (by obtain ⟨_, _⟩ := r40; obtain ⟨_, _⟩ := (⟨by decide, by decide⟩ : Rg 1 1 1); omega)
    have s43l : (1 : Int32).toInt = 1 := rfl
    refine r_iald X hw (rfl : KD 41 = _) (Rg.vp (b := 3) r42 (by decide)) rfl d_X2_leastHours_14 ?_
    refine lv_topi (fun x44 ex44 => ?_)
    have hG := bnd_use ex44 hG
    refine lv_istore (lv' := [(5, .int x44), (0, .ref (ad 41)), (1, .int up), (2, .ref (ad 42)), (3, .int gg), (4, .int be)]) hx hb d_X2_leastHours_15 hl (by decide) rfl (fun ls hl => ?_)
    refine lv_iload hx hb d_X2_leastHours_17 (lv_at hl 5 rfl) ?_
    refine lv_istore (lv' := [(6, .int be), (5, .int x44), (0, .ref (ad 41)), (1, .int up), (2, .ref (ad 42)), (3, .int gg), (4, .int be)]) hx hb d_X2_leastHours_19 hl (by decide) rfl (fun ls hl => ?_)
    refine lv_iconst (v := 0) hx hb d_X2_leastHours_21 (by decide) ?_
    refine lv_istore (lv' := [(7, .int 0), (6, .int be), (5, .int x44), (0, .ref (ad 41)), (1, .int up), (2, .ref (ad 42)), (3, .int gg), (4, .int be)]) hx hb d_X2_leastHours_22 hl (by decide) rfl (fun ls hl => ?_)
    exact ih0 x44 be 0 v _ _ _ (by have q_ := r40; obtain ⟨_, _⟩ := q_; have q_ := r_gg; obtain ⟨_, _⟩ := q_; have q_ := r42; obtain ⟨_, _⟩ := q_; have q_ := rg_any be; obtain ⟨_, _⟩ := q_; have q_ := rg_any x44; obtain ⟨_, _⟩ := q_; have q_ := rg_any be; obtain ⟨_, _⟩ := q_; have q_ : (0 : Int32).toInt = 0 := rfl; omega) r40 (rg_w (⟨by decide, by decide⟩ : Rg 0 0 0) (by decide) (by decide)) hI hK0 hG hw hS (lv_sub hl [3, 4, 5, 6, 7, 2, 1, 0] rfl)
  · have f45 := i_nlt c38
    have r46 : Rg up 0 0 := by obtain ⟨a1, a2⟩ := r_up; obtain ⟨b1, b2⟩ := (⟨by decide, by decide⟩ : Rg 0 0 0); have f := i_nlt c38; exact ⟨by omega, by omega⟩
    have hG := g_neg c38 hG
    refine lv_aload_n hx hb d_X2_leastHours_4 rfl (lv_at hl 2 rfl) ?_
    refine lv_iload_n hx hb d_X2_leastHours_5 rfl (lv_at hl 3 rfl) ?_
    refine r_ci (r_runS (n := 2) (As := [.ref (ad 42), .int gg]) (rest := []) X hw (ct_X2_longest_42 l D dA ad v hI gg r_gg) gc_X2_44 (by decide +kernel) ⟨rfl, rfl, Nat.le_of_ble_eq_true rfl, Nat.le_of_ble_eq_true rfl⟩ rfl hl.1 rfl (Nat.le_of_ble_eq_true rfl) ⟨Nat.zero_le _, Nat.zero_le _⟩ d_X2_leastHours_6) hS (fun x48 v49 H locs hp47 hw hS => ?_)
    obtain ⟨hp47, hE50⟩ := hp47
    rw [hp47] at hw
    have hG := bnd_use hE50 hG
    exact r_iret X hr hlocks hw hS ⟨⟨hI, hK0⟩, hG.trans eRR.symm⟩ d_X2_leastHours_9
def kp_X2_leastHours_5 (up : Int32) (gg : Int32) (be : Int32) (a j : Nat) : Prop := a ≠ 42
def b_X2_leastHours_5_24 (up : Int32) (gg : Int32) (be : Int32) (rc24 : Int32 → Int32 → Int32 → tV → Int32 × tV) (y5 : Int32) (y6 : Int32) (y7 : Int32) (v1 : tV) : Int32 × tV := (if gg ≤ y7 then (y6, v1) else bnd (v1 42 y7.toNatClampNeg) fun x6 => bnd (x6 + y5) fun x7 => (if x7 < y6 then bnd (v1 42 y7.toNatClampNeg) fun x10 => bnd (x10 + y5) fun x11 => bnd (up2 v1 42 (y7.toNatClampNeg) x11) fun v12 => bnd (up - (1 : Int32)) fun x15 => bnd2 (f_X2_leastHours_4 v12 x15 gg y6) fun x19 v20 => bnd (if x19 < y6 then x19 else y6) fun x25 => bnd (v20 42 y7.toNatClampNeg) fun x26 => bnd (x26 - y5) fun x27 => bnd (up2 v20 42 (y7.toNatClampNeg) x27) fun v28 => bnd (y7 + 1) fun x31 => rc24 y5 x25 x31 v28 else bnd (y7 + 1) fun x35 => rc24 y5 y6 x35 v1))
def g_X2_leastHours_5_24 (up : Int32) (gg : Int32) (be : Int32) : Nat → Int32 → Int32 → Int32 → tV → Int32 × tV
  | 0, _, _, _, v1 => (0, v1)
  | n + 1, y5, y6, y7, v1 => b_X2_leastHours_5_24 up gg be (g_X2_leastHours_5_24 up gg be n) y5 y6 y7 v1
def f_X2_leastHours_5 (v : tV) (up : Int32) (gg : Int32) (be : Int32) : Int32 × tV := (if (0 : Int32) < up then bnd (up - (1 : Int32)) fun x41 => bnd (v 41 x41.toNatClampNeg) fun x44 => g_X2_leastHours_5_24 up gg be 100000 x44 be 0 v else bnd (f_X2_longest_42 v gg) fun x48 => (x48, v))
set_option maxHeartbeats 4000000 in
set_option maxRecDepth 100000 in
theorem ct_X2_leastHours_5 (l : Launch) (D : va_G) (dA : Nat → ClassId) (ad : Nat → Nat) (v : tV) (hI : Inv v) (up : Int32) (gg : Int32) (be : Int32) (r_up : Rg up 0 5) (r_gg : Rg gg 1 3) : Met l m_X2_leastHours [.code m_X2_leastHours c_X2_leastHours 8 (some .int)] ({ frames := 7, cells := 0, slots := 0, locals := 198 } : Room) (tP D dA ad v [.ref (ad 41), .int up, .ref (ad 42), .int gg, .int be]) (tQi D dA ad (fun r v' => (Inv v' ∧ Kp (kp_X2_leastHours_5 up gg be) v v') ∧ (r, v') = f_X2_leastHours_5 v up gg be)) 0 0 (tA ad) := by
  refine tMet (by decide) (Nat.le_of_ble_eq_true rfl) ?_
  intro p e s m below meth c ls X hr hlocks hw hl
  have X : CX p s m ([.ref (ad 41), .int up, .ref (ad 42), .int gg, .int be] : List Value).toArray c c_X2_leastHours N_X2 8 D dA := X
  have hx := X.1
  have hb := X.2.1
  have hS : va_S (tA ad) s.heap s.heap [] := va_S.rf
  have hl : lv_has ls 8 [(0, .ref (ad 41)), (1, .int up), (2, .ref (ad 42)), (3, .int gg), (4, .int be)] := hl
  obtain ⟨RR, eRR⟩ : ∃ z, f_X2_leastHours_5 v up gg be = z := ⟨_, rfl⟩
  have LL : ∀ n : Nat, (∀ (y5 : Int32) (y6 : Int32) (y7 : Int32) (v1 : tV) (H : Heap) (locs : List Loc) (ls : Array Slot), (3 - y7.toInt).toNat < n → Rg up 1 5 → Rg y7 0 3 → Inv v1 → Kp (kp_X2_leastHours_5 up gg be) v v1 → g_X2_leastHours_5_24 up gg be n y5 y6 y7 v1 = RR → tI D dA ad v1 H → va_S (tA ad) s.heap H locs → lv_has ls 8 [(0, .ref (ad 41)), (1, .int up), (2, .ref (ad 42)), (3, .int gg), (4, .int be), (5, .int y5), (6, .int y6), (7, .int y7)] → W p l e ({ frames := 7, cells := 0, slots := 0, locals := 198 } : Room) s m ([.ref (ad 41), .int up, .ref (ad 42), .int gg, .int be] : List Value).toArray below meth c H locs 0 0 (MQ below (tQi D dA ad (fun r v' => (Inv v' ∧ Kp (kp_X2_leastHours_5 up gg be) v v') ∧ (r, v') = f_X2_leastHours_5 v up gg be)) ([.ref (ad 41), .int up, .ref (ad 42), .int gg, .int be] : List Value).toArray s 0 0 (tA ad)) (F0 m 24 ls [])) := by
    intro n
    induction n with
    | zero => intros; omega
    | succ n ih =>
      have ih0 := ih
      intro y5 y6 y7 v1 H locs ls hmu r_y1 r_y7 hI1 hK1 hG hw hS hl
      have hG : b_X2_leastHours_5_24 up gg be (g_X2_leastHours_5_24 up gg be n) y5 y6 y7 v1 = RR := hG
      unfold b_X2_leastHours_5_24 at hG
      refine lv_iload hx hb d_X2_leastHours_24 (lv_at hl 7 rfl) ?_
      refine lv_iload_n hx hb d_X2_leastHours_26 rfl (lv_at hl 3 rfl) ?_
      refine lv_icmp_ge (tgt := 87) hx hb d_X2_leastHours_27 (by decide) (fun c1 => ?_) (fun c1 => ?_)
      · have f2 := i_le c1
        have r3 : Rg y7 1 3 := by obtain ⟨a1, a2⟩ := r_y7; obtain ⟨b1, b2⟩ := r_gg; have f := i_le c1; exact ⟨by omega, by omega⟩
        have hG := g_pos c1 hG
        refine lv_iload hx hb d_X2_leastHours_87 (lv_at hl 6 rfl) ?_
        exact r_iret X hr hlocks hw hS ⟨⟨hI1, hK1⟩, hG.trans eRR.symm⟩ d_X2_leastHours_89
      · have f4 := i_nle c1
        have r5 : Rg y7 0 2 := by obtain ⟨a1, a2⟩ := r_y7; obtain ⟨b1, b2⟩ := r_gg; have f := i_nle c1; exact ⟨by omega, by omega⟩
        have hG := g_neg c1 hG
        refine lv_aload_n hx hb d_X2_leastHours_30 rfl (lv_at hl 2 rfl) ?_
        refine lv_iload hx hb d_X2_leastHours_31 (lv_at hl 7 rfl) ?_
        refine r_iald X hw (rfl : KD 42 = _) (Rg.vp (b := 2) r5 (by decide)) rfl d_X2_leastHours_33 ?_
        refine lv_topi (fun x6 ex6 => ?_)
        have hG := bnd_use ex6 hG
        refine lv_iload hx hb d_X2_leastHours_34 (lv_at hl 5 rfl) ?_
        refine lv_iadd hx hb d_X2_leastHours_36 ?_
        refine lv_topi (fun x7 ex7 => ?_)
        have hG := bnd_use ex7 hG
        refine lv_iload hx hb d_X2_leastHours_37 (lv_at hl 6 rfl) ?_
        refine lv_icmp_lt (tgt := 45) hx hb d_X2_leastHours_39 (by decide) (fun c8 => ?_) (fun c8 => ?_)
        · have f9 := i_lt c8
          have hG := g_pos c8 hG
          refine lv_aload_n hx hb d_X2_leastHours_45 rfl (lv_at hl 2 rfl) ?_
          refine lv_iload hx hb d_X2_leastHours_46 (lv_at hl 7 rfl) ?_
          refine lv_dup2_11 hx hb d_X2_leastHours_48 rfl rfl ?_
          refine r_iald X hw (rfl : KD 42 = _) (Rg.vp (b := 2) r5 (by decide)) rfl d_X2_leastHours_49 ?_
          refine lv_topi (fun x10 ex10 => ?_)
          have hG := bnd_use ex10 hG
          refine lv_iload hx hb d_X2_leastHours_50 (lv_at hl 5 rfl) ?_
          refine lv_iadd hx hb d_X2_leastHours_52 ?_
          refine lv_topi (fun x11 ex11 => ?_)
          have hG := bnd_use ex11 hG
          refine r_iast X hw hS (rfl : KD 42 = _) (Rg.vp (b := 2) r5 (by decide)) rfl d_X2_leastHours_53 (fun H locs hw hS => ?_)
          obtain ⟨v12, ev12⟩ : ∃ z, z = up2 v1 42 y7.toNatClampNeg x11 := ⟨_, rfl⟩
          rw [← ev12] at hw
          have hG := bnd_use ev12 hG
          have hI13 : Inv v12 := by rw [ev12]; exact Inv.put0 hI1 _ rfl
          have hK14 : Kp (kp_X2_leastHours_5 up gg be) v v12 := by rw [ev12]; exact Kp.put hK1 _ (by unfold kp_X2_leastHours_5; omega)
          refine lv_iload hx hb d_X2_leastHours_54 (lv_at hl 6 rfl) ?_
          refine lv_aload_n hx hb d_X2_leastHours_56 rfl (lv_at hl 0 rfl) ?_
          refine lv_iload_n hx hb d_X2_leastHours_57 rfl (lv_at hl 1 rfl) ?_
          refine lv_iconst (v := 1) hx hb d_X2_leastHours_58 (by decide) ?_
          refine lv_isub hx hb d_X2_leastHours_59 ?_
          refine lv_topi (fun x15 ex15 => ?_)
          have hG := bnd_use ex15 hG
          have r16 : Rg x15 0 4 := rg_sub ex15 r_y1 (⟨by decide, by decide⟩ : Rg 1 1 1) (by decide) (by decide)
          have s17 : x15.toInt = up.toInt - (1 : Int32).toInt := by rw [ex15]; exact i_sub (by obtain ⟨_, _⟩ := r_y1; obtain ⟨_, _⟩ := (⟨by decide, by decide⟩ : Rg 1 1 1); omega) (by obtain ⟨_, _⟩ := r_y1; obtain ⟨_, _⟩ := (⟨by decide, by decide⟩ : Rg 1 1 1); omega)
          have s17l : (1 : Int32).toInt = 1 := rfl
          refine lv_aload_n hx hb d_X2_leastHours_60 rfl (lv_at hl 2 rfl) ?_
          refine lv_iload_n hx hb d_X2_leastHours_61 rfl (lv_at hl 3 rfl) ?_
          refine lv_iload hx hb d_X2_leastHours_62 (lv_at hl 6 rfl) ?_
          refine r_ci (r_runS (n := 5) (As := [.ref (ad 41), .int x15, .ref (ad 42), .int gg, .int y6]) (rest := [.int y6]) X hw (ct_X2_leastHours_4 l D dA ad v12 hI13 x15 gg y6 r16 r_gg) gc_X2_28 (by decide +kernel) ⟨rfl, rfl, Nat.le_of_ble_eq_true rfl, Nat.le_of_ble_eq_true rfl⟩ rfl hl.1 rfl (Nat.le_of_ble_eq_true rfl) ⟨Nat.zero_le _, Nat.zero_le _⟩ d_X2_leastHours_64) hS (fun x19 v20 H locs hp18 hw hS => ?_)
          obtain ⟨hp18, hE21⟩ := hp18
          obtain ⟨hI22, hK23⟩ := hp18
          have hK24 : Kp (kp_X2_leastHours_5 up gg be) v v20 := Kp.tr hK14 hK23 (by have z0 : (0 : Int32).toInt = 0 := rfl; intro a j; unfold kp_X2_leastHours_5 kp_X2_leastHours_4; omega)
          have hG := bnd2_use hE21 hG
          refine va_mmin hx hb (X.2.2.1.trans hl.1.symm) X.2.2.2.1 (X.2.2.2.2.1 _ ml_X2_48) (X.2.2.2.2.1 _ ml_mins) (X.2.2.2.2.1 _ ml_mi) (X.2.2.2.2.1 _ ml_minc) (Nat.le_of_ble_eq_true rfl) (Nat.le_of_ble_eq_true rfl) (Nat.zero_le _) (Nat.zero_le _) d_X2_leastHours_67 ?_
          refine lv_topi (fun x25 ex25 => ?_)
          have hG := bnd_use ex25 hG
          refine lv_istore (lv' := [(6, .int x25), (0, .ref (ad 41)), (1, .int up), (2, .ref (ad 42)), (3, .int gg), (4, .int be), (5, .int y5), (7, .int y7)]) hx hb d_X2_leastHours_70 hl (by decide) rfl (fun ls hl => ?_)
          refine lv_aload_n hx hb d_X2_leastHours_72 rfl (lv_at hl 3 rfl) ?_
          refine lv_iload hx hb d_X2_leastHours_73 (lv_at hl 7 rfl) ?_
          refine lv_dup2_11 hx hb d_X2_leastHours_75 rfl rfl ?_
          refine r_iald X hw (rfl : KD 42 = _) (Rg.vp (b := 2) r5 (by decide)) rfl d_X2_leastHours_76 ?_
          refine lv_topi (fun x26 ex26 => ?_)
          have hG := bnd_use ex26 hG
          refine lv_iload hx hb d_X2_leastHours_77 (lv_at hl 6 rfl) ?_
          refine lv_isub hx hb d_X2_leastHours_79 ?_
          refine lv_topi (fun x27 ex27 => ?_)
          have hG := bnd_use ex27 hG
          refine r_iast X hw hS (rfl : KD 42 = _) (Rg.vp (b := 2) r5 (by decide)) rfl d_X2_leastHours_80 (fun H locs hw hS => ?_)
          obtain ⟨v28, ev28⟩ : ∃ z, z = up2 v20 42 y7.toNatClampNeg x27 := ⟨_, rfl⟩
          rw [← ev28] at hw
          have hG := bnd_use ev28 hG
          have hI29 : Inv v28 := by rw [ev28]; exact Inv.put0 hI22 _ rfl
          have hK30 : Kp (kp_X2_leastHours_5 up gg be) v v28 := by rw [ev28]; exact Kp.put hK24 _ (by unfold kp_X2_leastHours_5; omega)
          obtain ⟨x31, ex31⟩ : ∃ y : Int32, y = y7 + 1 := ⟨_, rfl⟩
          have hG := bnd_use ex31 hG
          refine lv_iinc (v := x31) (lv' := [(7, .int x31), (6, .int x25), (0, .ref (ad 41)), (1, .int up), (2, .ref (ad 42)), (3, .int gg), (4, .int be), (5, .int y5)]) hx hb d_X2_leastHours_81 hl (k := 7) rfl (by rw [ex31]; rfl) (by decide) rfl (fun ls hl => ?_)
          have r32 : Rg x31 1 3 := rg_add ex31 r5 (⟨by decide, by decide⟩ : Rg 1 1 1) (by decide) (by decide)
          have s33 : x31.toInt = y7.toInt + (1 : Int32).toInt := by rw [ex31]; exact i_add (by obtain ⟨_, _⟩ := r5; obtain ⟨_, _⟩ := (⟨by decide, by decide⟩ : Rg 1 1 1); omega) (by obtain ⟨_, _⟩ := r5; obtain ⟨_, _⟩ := (⟨by decide, by decide⟩ : Rg 1 1 1); omega)
          have s33l : (1 : Int32).toInt = 1 := rfl
          refine lv_goto (tgt := 24) hx hb d_X2_leastHours_84 (by decide) ?_
          exact ih0 y5 x25 x31 v28 _ _ _ (by have q_ := r_y1; obtain ⟨_, _⟩ := q_; have q_ := r_gg; obtain ⟨_, _⟩ := q_; have q_ := r5; obtain ⟨_, _⟩ := q_; have q_ := r16; obtain ⟨_, _⟩ := q_; have q_ := r32; obtain ⟨_, _⟩ := q_; have q_ := rg_any be; obtain ⟨_, _⟩ := q_; have q_ := rg_any y5; obtain ⟨_, _⟩ := q_; have q_ := rg_any x25; obtain ⟨_, _⟩ := q_; omega) r_y1 (rg_w r32 (by decide) (by decide)) hI29 hK30 hG hw hS (lv_sub hl [2, 3, 4, 5, 6, 7, 1, 0] rfl)
        · have f34 := i_nlt c8
          have hG := g_neg c8 hG
          refine lv_goto (tgt := 81) hx hb d_X2_leastHours_42 (by decide) ?_
          obtain ⟨x35, ex35⟩ : ∃ y : Int32, y = y7 + 1 := ⟨_, rfl⟩
          have hG := bnd_use ex35 hG
          refine lv_iinc (v := x35) (lv' := [(7, .int x35), (0, .ref (ad 41)), (1, .int up), (2, .ref (ad 42)), (3, .int gg), (4, .int be), (5, .int y5), (6, .int y6)]) hx hb d_X2_leastHours_81 hl (k := 7) rfl (by rw [ex35]; rfl) (by decide) rfl (fun ls hl => ?_)
          have r36 : Rg x35 1 3 := rg_add ex35 r5 (⟨by decide, by decide⟩ : Rg 1 1 1) (by decide) (by decide)
          have s37 : x35.toInt = y7.toInt + (1 : Int32).toInt := by rw [ex35]; exact i_add (by obtain ⟨_, _⟩ := r5; obtain ⟨_, _⟩ := (⟨by decide, by decide⟩ : Rg 1 1 1); omega) (by obtain ⟨_, _⟩ := r5; obtain ⟨_, _⟩ := (⟨by decide, by decide⟩ : Rg 1 1 1); omega)
          have s37l : (1 : Int32).toInt = 1 := rfl
          refine lv_goto (tgt := 24) hx hb d_X2_leastHours_84 (by decide) ?_
          exact ih0 y5 y6 x35 v1 _ _ _ (by have q_ := r_y1; obtain ⟨_, _⟩ := q_; have q_ := r_gg; obtain ⟨_, _⟩ := q_; have q_ := r5; obtain ⟨_, _⟩ := q_; have q_ := r36; obtain ⟨_, _⟩ := q_; have q_ := rg_any be; obtain ⟨_, _⟩ := q_; have q_ := rg_any y5; obtain ⟨_, _⟩ := q_; have q_ := rg_any y6; obtain ⟨_, _⟩ := q_; omega) r_y1 (rg_w r36 (by decide) (by decide)) hI1 hK1 hG hw hS (lv_sub hl [1, 2, 3, 4, 5, 6, 7, 0] rfl)
  have ih0 := LL 100000
  have hK0 : Kp (kp_X2_leastHours_5 up gg be) v v := Kp.rf _ v
  have hG := eRR
  unfold f_X2_leastHours_5 at hG
  refine lv_iload_n hx hb d_X2_leastHours_0 rfl (lv_at hl 1 rfl) ?_
  refine lv_if_gt (tgt := 10) hx hb d_X2_leastHours_1 (by decide) (fun c38 => ?_) (fun c38 => ?_)
  · have f39 := i_lt c38
    have r40 : Rg up 1 5 := by obtain ⟨a1, a2⟩ := r_up; obtain ⟨b1, b2⟩ := (⟨by decide, by decide⟩ : Rg 0 0 0); have f := i_lt c38; exact ⟨by omega, by omega⟩
    have hG := g_pos c38 hG
    refine lv_aload_n hx hb d_X2_leastHours_10 rfl (lv_at hl 0 rfl) ?_
    refine lv_iload_n hx hb d_X2_leastHours_11 rfl (lv_at hl 1 rfl) ?_
    refine lv_iconst (v := 1) hx hb d_X2_leastHours_12 (by decide) ?_
    refine lv_isub hx hb d_X2_leastHours_13 ?_
    refine lv_topi (fun x41 ex41 => ?_)
    have hG := bnd_use ex41 hG
    have r42 : Rg x41 0 4 := rg_sub ex41 r40 (⟨by decide, by decide⟩ : Rg 1 1 1) (by decide) (by decide)
    have s43 : x41.toInt = up.toInt - (1 : Int32).toInt := by rw [ex41]; exact i_sub (by obtain ⟨_, _⟩ := r40; obtain ⟨_, _⟩ := (⟨by decide, by decide⟩ : Rg 1 1 1); omega) (by obtain ⟨_, _⟩ := r40; obtain ⟨_, _⟩ := (⟨by decide, by decide⟩ : Rg 1 1 1); omega)
    have s43l : (1 : Int32).toInt = 1 := rfl
    refine r_iald X hw (rfl : KD 41 = _) (Rg.vp (b := 4) r42 (by decide)) rfl d_X2_leastHours_14 ?_
    refine lv_topi (fun x44 ex44 => ?_)
    have hG := bnd_use ex44 hG
    refine lv_istore (lv' := [(5, .int x44), (0, .ref (ad 41)), (1, .int up), (2, .ref (ad 42)), (3, .int gg), (4, .int be)]) hx hb d_X2_leastHours_15 hl (by decide) rfl (fun ls hl => ?_)
    refine lv_iload hx hb d_X2_leastHours_17 (lv_at hl 5 rfl) ?_
    refine lv_istore (lv' := [(6, .int be), (5, .int x44), (0, .ref (ad 41)), (1, .int up), (2, .ref (ad 42)), (3, .int gg), (4, .int be)]) hx hb d_X2_leastHours_19 hl (by decide) rfl (fun ls hl => ?_)
    refine lv_iconst (v := 0) hx hb d_X2_leastHours_21 (by decide) ?_
    refine lv_istore (lv' := [(7, .int 0), (6, .int be), (5, .int x44), (0, .ref (ad 41)), (1, .int up), (2, .ref (ad 42)), (3, .int gg), (4, .int be)]) hx hb d_X2_leastHours_22 hl (by decide) rfl (fun ls hl => ?_)
    exact ih0 x44 be 0 v _ _ _ (by have q_ := r40; obtain ⟨_, _⟩ := q_; have q_ := r_gg; obtain ⟨_, _⟩ := q_; have q_ := r42; obtain ⟨_, _⟩ := q_; have q_ := rg_any be; obtain ⟨_, _⟩ := q_; have q_ := rg_any x44; obtain ⟨_, _⟩ := q_; have q_ := rg_any be; obtain ⟨_, _⟩ := q_; have q_ : (0 : Int32).toInt = 0 := rfl; omega) r40 (rg_w (⟨by decide, by decide⟩ : Rg 0 0 0) (by decide) (by decide)) hI hK0 hG hw hS (lv_sub hl [3, 4, 5, 6, 7, 2, 1, 0] rfl)
  · have f45 := i_nlt c38
    have r46 : Rg up 0 0 := by obtain ⟨a1, a2⟩ := r_up; obtain ⟨b1, b2⟩ := (⟨by decide, by decide⟩ : Rg 0 0 0); have f := i_nlt c38; exact ⟨by omega, by omega⟩
    have hG := g_neg c38 hG
    refine lv_aload_n hx hb d_X2_leastHours_4 rfl (lv_at hl 2 rfl) ?_
    refine lv_iload_n hx hb d_X2_leastHours_5 rfl (lv_at hl 3 rfl) ?_
    refine r_ci (r_runS (n := 2) (As := [.ref (ad 42), .int gg]) (rest := []) X hw (ct_X2_longest_42 l D dA ad v hI gg r_gg) gc_X2_44 (by decide +kernel) ⟨rfl, rfl, Nat.le_of_ble_eq_true rfl, Nat.le_of_ble_eq_true rfl⟩ rfl hl.1 rfl (Nat.le_of_ble_eq_true rfl) ⟨Nat.zero_le _, Nat.zero_le _⟩ d_X2_leastHours_6) hS (fun x48 v49 H locs hp47 hw hS => ?_)
    obtain ⟨hp47, hE50⟩ := hp47
    rw [hp47] at hw
    have hG := bnd_use hE50 hG
    exact r_iret X hr hlocks hw hS ⟨⟨hI, hK0⟩, hG.trans eRR.symm⟩ d_X2_leastHours_9
def kp_X2_leastHours_6 (up : Int32) (gg : Int32) (be : Int32) (a j : Nat) : Prop := a ≠ 42
def b_X2_leastHours_6_24 (up : Int32) (gg : Int32) (be : Int32) (rc24 : Int32 → Int32 → Int32 → tV → Int32 × tV) (y5 : Int32) (y6 : Int32) (y7 : Int32) (v1 : tV) : Int32 × tV := (if gg ≤ y7 then (y6, v1) else bnd (v1 42 y7.toNatClampNeg) fun x6 => bnd (x6 + y5) fun x7 => (if x7 < y6 then bnd (v1 42 y7.toNatClampNeg) fun x10 => bnd (x10 + y5) fun x11 => bnd (up2 v1 42 (y7.toNatClampNeg) x11) fun v12 => bnd (up - (1 : Int32)) fun x15 => bnd2 (f_X2_leastHours_5 v12 x15 gg y6) fun x19 v20 => bnd (if x19 < y6 then x19 else y6) fun x25 => bnd (v20 42 y7.toNatClampNeg) fun x26 => bnd (x26 - y5) fun x27 => bnd (up2 v20 42 (y7.toNatClampNeg) x27) fun v28 => bnd (y7 + 1) fun x31 => rc24 y5 x25 x31 v28 else bnd (y7 + 1) fun x35 => rc24 y5 y6 x35 v1))
def g_X2_leastHours_6_24 (up : Int32) (gg : Int32) (be : Int32) : Nat → Int32 → Int32 → Int32 → tV → Int32 × tV
  | 0, _, _, _, v1 => (0, v1)
  | n + 1, y5, y6, y7, v1 => b_X2_leastHours_6_24 up gg be (g_X2_leastHours_6_24 up gg be n) y5 y6 y7 v1
def f_X2_leastHours_6 (v : tV) (up : Int32) (gg : Int32) (be : Int32) : Int32 × tV := (if (0 : Int32) < up then bnd (up - (1 : Int32)) fun x41 => bnd (v 41 x41.toNatClampNeg) fun x44 => g_X2_leastHours_6_24 up gg be 100000 x44 be 0 v else bnd (f_X2_longest_42 v gg) fun x48 => (x48, v))
set_option maxHeartbeats 4000000 in
set_option maxRecDepth 100000 in
theorem ct_X2_leastHours_6 (l : Launch) (D : va_G) (dA : Nat → ClassId) (ad : Nat → Nat) (v : tV) (hI : Inv v) (up : Int32) (gg : Int32) (be : Int32) (r_up : Rg up 0 6) (r_gg : Rg gg 1 3) : Met l m_X2_leastHours [.code m_X2_leastHours c_X2_leastHours 8 (some .int)] ({ frames := 8, cells := 0, slots := 0, locals := 225 } : Room) (tP D dA ad v [.ref (ad 41), .int up, .ref (ad 42), .int gg, .int be]) (tQi D dA ad (fun r v' => (Inv v' ∧ Kp (kp_X2_leastHours_6 up gg be) v v') ∧ (r, v') = f_X2_leastHours_6 v up gg be)) 0 0 (tA ad) := by
  refine tMet (by decide) (Nat.le_of_ble_eq_true rfl) ?_
  intro p e s m below meth c ls X hr hlocks hw hl
  have X : CX p s m ([.ref (ad 41), .int up, .ref (ad 42), .int gg, .int be] : List Value).toArray c c_X2_leastHours N_X2 8 D dA := X
  have hx := X.1
  have hb := X.2.1
  have hS : va_S (tA ad) s.heap s.heap [] := va_S.rf
  have hl : lv_has ls 8 [(0, .ref (ad 41)), (1, .int up), (2, .ref (ad 42)), (3, .int gg), (4, .int be)] := hl
  obtain ⟨RR, eRR⟩ : ∃ z, f_X2_leastHours_6 v up gg be = z := ⟨_, rfl⟩
  have LL : ∀ n : Nat, (∀ (y5 : Int32) (y6 : Int32) (y7 : Int32) (v1 : tV) (H : Heap) (locs : List Loc) (ls : Array Slot), (3 - y7.toInt).toNat < n → Rg up 1 6 → Rg y7 0 3 → Inv v1 → Kp (kp_X2_leastHours_6 up gg be) v v1 → g_X2_leastHours_6_24 up gg be n y5 y6 y7 v1 = RR → tI D dA ad v1 H → va_S (tA ad) s.heap H locs → lv_has ls 8 [(0, .ref (ad 41)), (1, .int up), (2, .ref (ad 42)), (3, .int gg), (4, .int be), (5, .int y5), (6, .int y6), (7, .int y7)] → W p l e ({ frames := 8, cells := 0, slots := 0, locals := 225 } : Room) s m ([.ref (ad 41), .int up, .ref (ad 42), .int gg, .int be] : List Value).toArray below meth c H locs 0 0 (MQ below (tQi D dA ad (fun r v' => (Inv v' ∧ Kp (kp_X2_leastHours_6 up gg be) v v') ∧ (r, v') = f_X2_leastHours_6 v up gg be)) ([.ref (ad 41), .int up, .ref (ad 42), .int gg, .int be] : List Value).toArray s 0 0 (tA ad)) (F0 m 24 ls [])) := by
    intro n
    induction n with
    | zero => intros; omega
    | succ n ih =>
      have ih0 := ih
      intro y5 y6 y7 v1 H locs ls hmu r_y1 r_y7 hI1 hK1 hG hw hS hl
      have hG : b_X2_leastHours_6_24 up gg be (g_X2_leastHours_6_24 up gg be n) y5 y6 y7 v1 = RR := hG
      unfold b_X2_leastHours_6_24 at hG
      refine lv_iload hx hb d_X2_leastHours_24 (lv_at hl 7 rfl) ?_
      refine lv_iload_n hx hb d_X2_leastHours_26 rfl (lv_at hl 3 rfl) ?_
      refine lv_icmp_ge (tgt := 87) hx hb d_X2_leastHours_27 (by decide) (fun c1 => ?_) (fun c1 => ?_)
      · have f2 := i_le c1
        have r3 : Rg y7 1 3 := by obtain ⟨a1, a2⟩ := r_y7; obtain ⟨b1, b2⟩ := r_gg; have f := i_le c1; exact ⟨by omega, by omega⟩
        have hG := g_pos c1 hG
        refine lv_iload hx hb d_X2_leastHours_87 (lv_at hl 6 rfl) ?_
        exact r_iret X hr hlocks hw hS ⟨⟨hI1, hK1⟩, hG.trans eRR.symm⟩ d_X2_leastHours_89
      · have f4 := i_nle c1
        have r5 : Rg y7 0 2 := by obtain ⟨a1, a2⟩ := r_y7; obtain ⟨b1, b2⟩ := r_gg; have f := i_nle c1; exact ⟨by omega, by omega⟩
        have hG := g_neg c1 hG
        refine lv_aload_n hx hb d_X2_leastHours_30 rfl (lv_at hl 2 rfl) ?_
        refine lv_iload hx hb d_X2_leastHours_31 (lv_at hl 7 rfl) ?_
        refine r_iald X hw (rfl : KD 42 = _) (Rg.vp (b := 2) r5 (by decide)) rfl d_X2_leastHours_33 ?_
        refine lv_topi (fun x6 ex6 => ?_)
        have hG := bnd_use ex6 hG
        refine lv_iload hx hb d_X2_leastHours_34 (lv_at hl 5 rfl) ?_
        refine lv_iadd hx hb d_X2_leastHours_36 ?_
        refine lv_topi (fun x7 ex7 => ?_)
        have hG := bnd_use ex7 hG
        refine lv_iload hx hb d_X2_leastHours_37 (lv_at hl 6 rfl) ?_
        refine lv_icmp_lt (tgt := 45) hx hb d_X2_leastHours_39 (by decide) (fun c8 => ?_) (fun c8 => ?_)
        · have f9 := i_lt c8
          have hG := g_pos c8 hG
          refine lv_aload_n hx hb d_X2_leastHours_45 rfl (lv_at hl 2 rfl) ?_
          refine lv_iload hx hb d_X2_leastHours_46 (lv_at hl 7 rfl) ?_
          refine lv_dup2_11 hx hb d_X2_leastHours_48 rfl rfl ?_
          refine r_iald X hw (rfl : KD 42 = _) (Rg.vp (b := 2) r5 (by decide)) rfl d_X2_leastHours_49 ?_
          refine lv_topi (fun x10 ex10 => ?_)
          have hG := bnd_use ex10 hG
          refine lv_iload hx hb d_X2_leastHours_50 (lv_at hl 5 rfl) ?_
          refine lv_iadd hx hb d_X2_leastHours_52 ?_
          refine lv_topi (fun x11 ex11 => ?_)
          have hG := bnd_use ex11 hG
          refine r_iast X hw hS (rfl : KD 42 = _) (Rg.vp (b := 2) r5 (by decide)) rfl d_X2_leastHours_53 (fun H locs hw hS => ?_)
          obtain ⟨v12, ev12⟩ : ∃ z, z = up2 v1 42 y7.toNatClampNeg x11 := ⟨_, rfl⟩
          rw [← ev12] at hw
          have hG := bnd_use ev12 hG
          have hI13 : Inv v12 := by rw [ev12]; exact Inv.put0 hI1 _ rfl
          have hK14 : Kp (kp_X2_leastHours_6 up gg be) v v12 := by rw [ev12]; exact Kp.put hK1 _ (by unfold kp_X2_leastHours_6; omega)
          refine lv_iload hx hb d_X2_leastHours_54 (lv_at hl 6 rfl) ?_
          refine lv_aload_n hx hb d_X2_leastHours_56 rfl (lv_at hl 0 rfl) ?_
          refine lv_iload_n hx hb d_X2_leastHours_57 rfl (lv_at hl 1 rfl) ?_
          refine lv_iconst (v := 1) hx hb d_X2_leastHours_58 (by decide) ?_
          refine lv_isub hx hb d_X2_leastHours_59 ?_
          refine lv_topi (fun x15 ex15 => ?_)
          have hG := bnd_use ex15 hG
          have r16 : Rg x15 0 5 := rg_sub ex15 r_y1 (⟨by decide, by decide⟩ : Rg 1 1 1) (by decide) (by decide)
          have s17 : x15.toInt = up.toInt - (1 : Int32).toInt := by rw [ex15]; exact i_sub (by obtain ⟨_, _⟩ := r_y1; obtain ⟨_, _⟩ := (⟨by decide, by decide⟩ : Rg 1 1 1); omega) (by obtain ⟨_, _⟩ := r_y1; obtain ⟨_, _⟩ := (⟨by decide, by decide⟩ : Rg 1 1 1); omega)
          have s17l : (1 : Int32).toInt = 1 := rfl
          refine lv_aload_n hx hb d_X2_leastHours_60 rfl (lv_at hl 2 rfl) ?_
          refine lv_iload_n hx hb d_X2_leastHours_61 rfl (lv_at hl 3 rfl) ?_
          refine lv_iload hx hb d_X2_leastHours_62 (lv_at hl 6 rfl) ?_
          refine r_ci (r_runS (n := 5) (As := [.ref (ad 41), .int x15, .ref (ad 42), .int gg, .int y6]) (rest := [.int y6]) X hw (ct_X2_leastHours_5 l D dA ad v12 hI13 x15 gg y6 r16 r_gg) gc_X2_28 (by decide +kernel) ⟨rfl, rfl, Nat.le_of_ble_eq_true rfl, Nat.le_of_ble_eq_true rfl⟩ rfl hl.1 rfl (Nat.le_of_ble_eq_true rfl) ⟨Nat.zero_le _, Nat.zero_le _⟩ d_X2_leastHours_64) hS (fun x19 v20 H locs hp18 hw hS => ?_)
          obtain ⟨hp18, hE21⟩ := hp18
          obtain ⟨hI22, hK23⟩ := hp18
          have hK24 : Kp (kp_X2_leastHours_6 up gg be) v v20 := Kp.tr hK14 hK23 (by have z0 : (0 : Int32).toInt = 0 := rfl; intro a j; unfold kp_X2_leastHours_6 kp_X2_leastHours_5; omega)
          have hG := bnd2_use hE21 hG
          refine va_mmin hx hb (X.2.2.1.trans hl.1.symm) X.2.2.2.1 (X.2.2.2.2.1 _ ml_X2_48) (X.2.2.2.2.1 _ ml_mins) (X.2.2.2.2.1 _ ml_mi) (X.2.2.2.2.1 _ ml_minc) (Nat.le_of_ble_eq_true rfl) (Nat.le_of_ble_eq_true rfl) (Nat.zero_le _) (Nat.zero_le _) d_X2_leastHours_67 ?_
          refine lv_topi (fun x25 ex25 => ?_)
          have hG := bnd_use ex25 hG
          refine lv_istore (lv' := [(6, .int x25), (0, .ref (ad 41)), (1, .int up), (2, .ref (ad 42)), (3, .int gg), (4, .int be), (5, .int y5), (7, .int y7)]) hx hb d_X2_leastHours_70 hl (by decide) rfl (fun ls hl => ?_)
          refine lv_aload_n hx hb d_X2_leastHours_72 rfl (lv_at hl 3 rfl) ?_
          refine lv_iload hx hb d_X2_leastHours_73 (lv_at hl 7 rfl) ?_
          refine lv_dup2_11 hx hb d_X2_leastHours_75 rfl rfl ?_
          refine r_iald X hw (rfl : KD 42 = _) (Rg.vp (b := 2) r5 (by decide)) rfl d_X2_leastHours_76 ?_
          refine lv_topi (fun x26 ex26 => ?_)
          have hG := bnd_use ex26 hG
          refine lv_iload hx hb d_X2_leastHours_77 (lv_at hl 6 rfl) ?_
          refine lv_isub hx hb d_X2_leastHours_79 ?_
          refine lv_topi (fun x27 ex27 => ?_)
          have hG := bnd_use ex27 hG
          refine r_iast X hw hS (rfl : KD 42 = _) (Rg.vp (b := 2) r5 (by decide)) rfl d_X2_leastHours_80 (fun H locs hw hS => ?_)
          obtain ⟨v28, ev28⟩ : ∃ z, z = up2 v20 42 y7.toNatClampNeg x27 := ⟨_, rfl⟩
          rw [← ev28] at hw
          have hG := bnd_use ev28 hG
          have hI29 : Inv v28 := by rw [ev28]; exact Inv.put0 hI22 _ rfl
          have hK30 : Kp (kp_X2_leastHours_6 up gg be) v v28 := by rw [ev28]; exact Kp.put hK24 _ (by unfold kp_X2_leastHours_6; omega)
          obtain ⟨x31, ex31⟩ : ∃ y : Int32, y = y7 + 1 := ⟨_, rfl⟩
          have hG := bnd_use ex31 hG
          refine lv_iinc (v := x31) (lv' := [(7, .int x31), (6, .int x25), (0, .ref (ad 41)), (1, .int up), (2, .ref (ad 42)), (3, .int gg), (4, .int be), (5, .int y5)]) hx hb d_X2_leastHours_81 hl (k := 7) rfl (by rw [ex31]; rfl) (by decide) rfl (fun ls hl => ?_)
          have r32 : Rg x31 1 3 := rg_add ex31 r5 (⟨by decide, by decide⟩ : Rg 1 1 1) (by decide) (by decide)
          have s33 : x31.toInt = y7.toInt + (1 : Int32).toInt := by rw [ex31]; exact i_add (by obtain ⟨_, _⟩ := r5; obtain ⟨_, _⟩ := (⟨by decide, by decide⟩ : Rg 1 1 1); omega) (by obtain ⟨_, _⟩ := r5; obtain ⟨_, _⟩ := (⟨by decide, by decide⟩ : Rg 1 1 1); omega)
          have s33l : (1 : Int32).toInt = 1 := rfl
          refine lv_goto (tgt := 24) hx hb d_X2_leastHours_84 (by decide) ?_
          exact ih0 y5 x25 x31 v28 _ _ _ (by have q_ := r_y1; obtain ⟨_, _⟩ := q_; have q_ := r_gg; obtain ⟨_, _⟩ := q_; have q_ := r5; obtain ⟨_, _⟩ := q_; have q_ := r16; obtain ⟨_, _⟩ := q_; have q_ := r32; obtain ⟨_, _⟩ := q_; have q_ := rg_any be; obtain ⟨_, _⟩ := q_; have q_ := rg_any y5; obtain ⟨_, _⟩ := q_; have q_ := rg_any x25; obtain ⟨_, _⟩ := q_; omega) r_y1 (rg_w r32 (by decide) (by decide)) hI29 hK30 hG hw hS (lv_sub hl [2, 3, 4, 5, 6, 7, 1, 0] rfl)
        · have f34 := i_nlt c8
          have hG := g_neg c8 hG
          refine lv_goto (tgt := 81) hx hb d_X2_leastHours_42 (by decide) ?_
          obtain ⟨x35, ex35⟩ : ∃ y : Int32, y = y7 + 1 := ⟨_, rfl⟩
          have hG := bnd_use ex35 hG
          refine lv_iinc (v := x35) (lv' := [(7, .int x35), (0, .ref (ad 41)), (1, .int up), (2, .ref (ad 42)), (3, .int gg), (4, .int be), (5, .int y5), (6, .int y6)]) hx hb d_X2_leastHours_81 hl (k := 7) rfl (by rw [ex35]; rfl) (by decide) rfl (fun ls hl => ?_)
          have r36 : Rg x35 1 3 := rg_add ex35 r5 (⟨by decide, by decide⟩ : Rg 1 1 1) (by decide) (by decide)
          have s37 : x35.toInt = y7.toInt + (1 : Int32).toInt := by rw [ex35]; exact i_add (by obtain ⟨_, _⟩ := r5; obtain ⟨_, _⟩ := (⟨by decide, by decide⟩ : Rg 1 1 1); omega) (by obtain ⟨_, _⟩ := r5; obtain ⟨_, _⟩ := (⟨by decide, by decide⟩ : Rg 1 1 1); omega)
          have s37l : (1 : Int32).toInt = 1 := rfl
          refine lv_goto (tgt := 24) hx hb d_X2_leastHours_84 (by decide) ?_
          exact ih0 y5 y6 x35 v1 _ _ _ (by have q_ := r_y1; obtain ⟨_, _⟩ := q_; have q_ := r_gg; obtain ⟨_, _⟩ := q_; have q_ := r5; obtain ⟨_, _⟩ := q_; have q_ := r36; obtain ⟨_, _⟩ := q_; have q_ := rg_any be; obtain ⟨_, _⟩ := q_; have q_ := rg_any y5; obtain ⟨_, _⟩ := q_; have q_ := rg_any y6; obtain ⟨_, _⟩ := q_; omega) r_y1 (rg_w r36 (by decide) (by decide)) hI1 hK1 hG hw hS (lv_sub hl [1, 2, 3, 4, 5, 6, 7, 0] rfl)
  have ih0 := LL 100000
  have hK0 : Kp (kp_X2_leastHours_6 up gg be) v v := Kp.rf _ v
  have hG := eRR
  unfold f_X2_leastHours_6 at hG
  refine lv_iload_n hx hb d_X2_leastHours_0 rfl (lv_at hl 1 rfl) ?_
  refine lv_if_gt (tgt := 10) hx hb d_X2_leastHours_1 (by decide) (fun c38 => ?_) (fun c38 => ?_)
  · have f39 := i_lt c38
    have r40 : Rg up 1 6 := by obtain ⟨a1, a2⟩ := r_up; obtain ⟨b1, b2⟩ := (⟨by decide, by decide⟩ : Rg 0 0 0); have f := i_lt c38; exact ⟨by omega, by omega⟩
    have hG := g_pos c38 hG
    refine lv_aload_n hx hb d_X2_leastHours_10 rfl (lv_at hl 0 rfl) ?_
    refine lv_iload_n hx hb d_X2_leastHours_11 rfl (lv_at hl 1 rfl) ?_
    refine lv_iconst (v := 1) hx hb d_X2_leastHours_12 (by decide) ?_
    refine lv_isub hx hb d_X2_leastHours_13 ?_
    refine lv_topi (fun x41 ex41 => ?_)
    have hG := bnd_use ex41 hG
    have r42 : Rg x41 0 5 := rg_sub ex41 r40 (⟨by decide, by decide⟩ : Rg 1 1 1) (by decide) (by decide)
    have s43 : x41.toInt = up.toInt - (1 : Int32).toInt := by rw [ex41]; exact i_sub (by obtain ⟨_, _⟩ := r40; obtain ⟨_, _⟩ := (⟨by decide, by decide⟩ : Rg 1 1 1); omega) (by obtain ⟨_, _⟩ := r40; obtain ⟨_, _⟩ := (⟨by decide, by decide⟩ : Rg 1 1 1); omega)
    have s43l : (1 : Int32).toInt = 1 := rfl
    refine r_iald X hw (rfl : KD 41 = _) (Rg.vp (b := 5) r42 (by decide)) rfl d_X2_leastHours_14 ?_
    refine lv_topi (fun x44 ex44 => ?_)
    have hG := bnd_use ex44 hG
    refine lv_istore (lv' := [(5, .int x44), (0, .ref (ad 41)), (1, .int up), (2, .ref (ad 42)), (3, .int gg), (4, .int be)]) hx hb d_X2_leastHours_15 hl (by decide) rfl (fun ls hl => ?_)
    refine lv_iload hx hb d_X2_leastHours_17 (lv_at hl 5 rfl) ?_
    refine lv_istore (lv' := [(6, .int be), (5, .int x44), (0, .ref (ad 41)), (1, .int up), (2, .ref (ad 42)), (3, .int gg), (4, .int be)]) hx hb d_X2_leastHours_19 hl (by decide) rfl (fun ls hl => ?_)
    refine lv_iconst (v := 0) hx hb d_X2_leastHours_21 (by decide) ?_
    refine lv_istore (lv' := [(7, .int 0), (6, .int be), (5, .int x44), (0, .ref (ad 41)), (1, .int up), (2, .ref (ad 42)), (3, .int gg), (4, .int be)]) hx hb d_X2_leastHours_22 hl (by decide) rfl (fun ls hl => ?_)
    exact ih0 x44 be 0 v _ _ _ (by have q_ := r40; obtain ⟨_, _⟩ := q_; have q_ := r_gg; obtain ⟨_, _⟩ := q_; have q_ := r42; obtain ⟨_, _⟩ := q_; have q_ := rg_any be; obtain ⟨_, _⟩ := q_; have q_ := rg_any x44; obtain ⟨_, _⟩ := q_; have q_ := rg_any be; obtain ⟨_, _⟩ := q_; have q_ : (0 : Int32).toInt = 0 := rfl; omega) r40 (rg_w (⟨by decide, by decide⟩ : Rg 0 0 0) (by decide) (by decide)) hI hK0 hG hw hS (lv_sub hl [3, 4, 5, 6, 7, 2, 1, 0] rfl)
  · have f45 := i_nlt c38
    have r46 : Rg up 0 0 := by obtain ⟨a1, a2⟩ := r_up; obtain ⟨b1, b2⟩ := (⟨by decide, by decide⟩ : Rg 0 0 0); have f := i_nlt c38; exact ⟨by omega, by omega⟩
    have hG := g_neg c38 hG
    refine lv_aload_n hx hb d_X2_leastHours_4 rfl (lv_at hl 2 rfl) ?_
    refine lv_iload_n hx hb d_X2_leastHours_5 rfl (lv_at hl 3 rfl) ?_
    refine r_ci (r_runS (n := 2) (As := [.ref (ad 42), .int gg]) (rest := []) X hw (ct_X2_longest_42 l D dA ad v hI gg r_gg) gc_X2_44 (by decide +kernel) ⟨rfl, rfl, Nat.le_of_ble_eq_true rfl, Nat.le_of_ble_eq_true rfl⟩ rfl hl.1 rfl (Nat.le_of_ble_eq_true rfl) ⟨Nat.zero_le _, Nat.zero_le _⟩ d_X2_leastHours_6) hS (fun x48 v49 H locs hp47 hw hS => ?_)
    obtain ⟨hp47, hE50⟩ := hp47
    rw [hp47] at hw
    have hG := bnd_use hE50 hG
    exact r_iret X hr hlocks hw hS ⟨⟨hI, hK0⟩, hG.trans eRR.symm⟩ d_X2_leastHours_9
def kp_X2_leastHours_7 (up : Int32) (gg : Int32) (be : Int32) (a j : Nat) : Prop := a ≠ 42
def b_X2_leastHours_7_24 (up : Int32) (gg : Int32) (be : Int32) (rc24 : Int32 → Int32 → Int32 → tV → Int32 × tV) (y5 : Int32) (y6 : Int32) (y7 : Int32) (v1 : tV) : Int32 × tV := (if gg ≤ y7 then (y6, v1) else bnd (v1 42 y7.toNatClampNeg) fun x6 => bnd (x6 + y5) fun x7 => (if x7 < y6 then bnd (v1 42 y7.toNatClampNeg) fun x10 => bnd (x10 + y5) fun x11 => bnd (up2 v1 42 (y7.toNatClampNeg) x11) fun v12 => bnd (up - (1 : Int32)) fun x15 => bnd2 (f_X2_leastHours_6 v12 x15 gg y6) fun x19 v20 => bnd (if x19 < y6 then x19 else y6) fun x25 => bnd (v20 42 y7.toNatClampNeg) fun x26 => bnd (x26 - y5) fun x27 => bnd (up2 v20 42 (y7.toNatClampNeg) x27) fun v28 => bnd (y7 + 1) fun x31 => rc24 y5 x25 x31 v28 else bnd (y7 + 1) fun x35 => rc24 y5 y6 x35 v1))
def g_X2_leastHours_7_24 (up : Int32) (gg : Int32) (be : Int32) : Nat → Int32 → Int32 → Int32 → tV → Int32 × tV
  | 0, _, _, _, v1 => (0, v1)
  | n + 1, y5, y6, y7, v1 => b_X2_leastHours_7_24 up gg be (g_X2_leastHours_7_24 up gg be n) y5 y6 y7 v1
def f_X2_leastHours_7 (v : tV) (up : Int32) (gg : Int32) (be : Int32) : Int32 × tV := (if (0 : Int32) < up then bnd (up - (1 : Int32)) fun x41 => bnd (v 41 x41.toNatClampNeg) fun x44 => g_X2_leastHours_7_24 up gg be 100000 x44 be 0 v else bnd (f_X2_longest_42 v gg) fun x48 => (x48, v))
set_option maxHeartbeats 4000000 in
set_option maxRecDepth 100000 in
theorem ct_X2_leastHours_7 (l : Launch) (D : va_G) (dA : Nat → ClassId) (ad : Nat → Nat) (v : tV) (hI : Inv v) (up : Int32) (gg : Int32) (be : Int32) (r_up : Rg up 0 7) (r_gg : Rg gg 1 3) : Met l m_X2_leastHours [.code m_X2_leastHours c_X2_leastHours 8 (some .int)] ({ frames := 9, cells := 0, slots := 0, locals := 252 } : Room) (tP D dA ad v [.ref (ad 41), .int up, .ref (ad 42), .int gg, .int be]) (tQi D dA ad (fun r v' => (Inv v' ∧ Kp (kp_X2_leastHours_7 up gg be) v v') ∧ (r, v') = f_X2_leastHours_7 v up gg be)) 0 0 (tA ad) := by
  refine tMet (by decide) (Nat.le_of_ble_eq_true rfl) ?_
  intro p e s m below meth c ls X hr hlocks hw hl
  have X : CX p s m ([.ref (ad 41), .int up, .ref (ad 42), .int gg, .int be] : List Value).toArray c c_X2_leastHours N_X2 8 D dA := X
  have hx := X.1
  have hb := X.2.1
  have hS : va_S (tA ad) s.heap s.heap [] := va_S.rf
  have hl : lv_has ls 8 [(0, .ref (ad 41)), (1, .int up), (2, .ref (ad 42)), (3, .int gg), (4, .int be)] := hl
  obtain ⟨RR, eRR⟩ : ∃ z, f_X2_leastHours_7 v up gg be = z := ⟨_, rfl⟩
  have LL : ∀ n : Nat, (∀ (y5 : Int32) (y6 : Int32) (y7 : Int32) (v1 : tV) (H : Heap) (locs : List Loc) (ls : Array Slot), (3 - y7.toInt).toNat < n → Rg up 1 7 → Rg y7 0 3 → Inv v1 → Kp (kp_X2_leastHours_7 up gg be) v v1 → g_X2_leastHours_7_24 up gg be n y5 y6 y7 v1 = RR → tI D dA ad v1 H → va_S (tA ad) s.heap H locs → lv_has ls 8 [(0, .ref (ad 41)), (1, .int up), (2, .ref (ad 42)), (3, .int gg), (4, .int be), (5, .int y5), (6, .int y6), (7, .int y7)] → W p l e ({ frames := 9, cells := 0, slots := 0, locals := 252 } : Room) s m ([.ref (ad 41), .int up, .ref (ad 42), .int gg, .int be] : List Value).toArray below meth c H locs 0 0 (MQ below (tQi D dA ad (fun r v' => (Inv v' ∧ Kp (kp_X2_leastHours_7 up gg be) v v') ∧ (r, v') = f_X2_leastHours_7 v up gg be)) ([.ref (ad 41), .int up, .ref (ad 42), .int gg, .int be] : List Value).toArray s 0 0 (tA ad)) (F0 m 24 ls [])) := by
    intro n
    induction n with
    | zero => intros; omega
    | succ n ih =>
      have ih0 := ih
      intro y5 y6 y7 v1 H locs ls hmu r_y1 r_y7 hI1 hK1 hG hw hS hl
      have hG : b_X2_leastHours_7_24 up gg be (g_X2_leastHours_7_24 up gg be n) y5 y6 y7 v1 = RR := hG
      unfold b_X2_leastHours_7_24 at hG
      refine lv_iload hx hb d_X2_leastHours_24 (lv_at hl 7 rfl) ?_
      refine lv_iload_n hx hb d_X2_leastHours_26 rfl (lv_at hl 3 rfl) ?_
      refine lv_icmp_ge (tgt := 87) hx hb d_X2_leastHours_27 (by decide) (fun c1 => ?_) (fun c1 => ?_)
      · have f2 := i_le c1
        have r3 : Rg y7 1 3 := by obtain ⟨a1, a2⟩ := r_y7; obtain ⟨b1, b2⟩ := r_gg; have f := i_le c1; exact ⟨by omega, by omega⟩
        have hG := g_pos c1 hG
        refine lv_iload hx hb d_X2_leastHours_87 (lv_at hl 6 rfl) ?_
        exact r_iret X hr hlocks hw hS ⟨⟨hI1, hK1⟩, hG.trans eRR.symm⟩ d_X2_leastHours_89
      · have f4 := i_nle c1
        have r5 : Rg y7 0 2 := by obtain ⟨a1, a2⟩ := r_y7; obtain ⟨b1, b2⟩ := r_gg; have f := i_nle c1; exact ⟨by omega, by omega⟩
        have hG := g_neg c1 hG
        refine lv_aload_n hx hb d_X2_leastHours_30 rfl (lv_at hl 2 rfl) ?_
        refine lv_iload hx hb d_X2_leastHours_31 (lv_at hl 7 rfl) ?_
        refine r_iald X hw (rfl : KD 42 = _) (Rg.vp (b := 2) r5 (by decide)) rfl d_X2_leastHours_33 ?_
        refine lv_topi (fun x6 ex6 => ?_)
        have hG := bnd_use ex6 hG
        refine lv_iload hx hb d_X2_leastHours_34 (lv_at hl 5 rfl) ?_
        refine lv_iadd hx hb d_X2_leastHours_36 ?_
        refine lv_topi (fun x7 ex7 => ?_)
        have hG := bnd_use ex7 hG
        refine lv_iload hx hb d_X2_leastHours_37 (lv_at hl 6 rfl) ?_
        refine lv_icmp_lt (tgt := 45) hx hb d_X2_leastHours_39 (by decide) (fun c8 => ?_) (fun c8 => ?_)
        · have f9 := i_lt c8
          have hG := g_pos c8 hG
          refine lv_aload_n hx hb d_X2_leastHours_45 rfl (lv_at hl 2 rfl) ?_
          refine lv_iload hx hb d_X2_leastHours_46 (lv_at hl 7 rfl) ?_
          refine lv_dup2_11 hx hb d_X2_leastHours_48 rfl rfl ?_
          refine r_iald X hw (rfl : KD 42 = _) (Rg.vp (b := 2) r5 (by decide)) rfl d_X2_leastHours_49 ?_
          refine lv_topi (fun x10 ex10 => ?_)
          have hG := bnd_use ex10 hG
          refine lv_iload hx hb d_X2_leastHours_50 (lv_at hl 5 rfl) ?_
          refine lv_iadd hx hb d_X2_leastHours_52 ?_
          refine lv_topi (fun x11 ex11 => ?_)
          have hG := bnd_use ex11 hG
          refine r_iast X hw hS (rfl : KD 42 = _) (Rg.vp (b := 2) r5 (by decide)) rfl d_X2_leastHours_53 (fun H locs hw hS => ?_)
          obtain ⟨v12, ev12⟩ : ∃ z, z = up2 v1 42 y7.toNatClampNeg x11 := ⟨_, rfl⟩
          rw [← ev12] at hw
          have hG := bnd_use ev12 hG
          have hI13 : Inv v12 := by rw [ev12]; exact Inv.put0 hI1 _ rfl
          have hK14 : Kp (kp_X2_leastHours_7 up gg be) v v12 := by rw [ev12]; exact Kp.put hK1 _ (by unfold kp_X2_leastHours_7; omega)
          refine lv_iload hx hb d_X2_leastHours_54 (lv_at hl 6 rfl) ?_
          refine lv_aload_n hx hb d_X2_leastHours_56 rfl (lv_at hl 0 rfl) ?_
          refine lv_iload_n hx hb d_X2_leastHours_57 rfl (lv_at hl 1 rfl) ?_
          refine lv_iconst (v := 1) hx hb d_X2_leastHours_58 (by decide) ?_
          refine lv_isub hx hb d_X2_leastHours_59 ?_
          refine lv_topi (fun x15 ex15 => ?_)
          have hG := bnd_use ex15 hG
          have r16 : Rg x15 0 6 := rg_sub ex15 r_y1 (⟨by decide, by decide⟩ : Rg 1 1 1) (by decide) (by decide)
          have s17 : x15.toInt = up.toInt - (1 : Int32).toInt := by rw [ex15]; exact i_sub (by obtain ⟨_, _⟩ := r_y1; obtain ⟨_, _⟩ := (⟨by decide, by decide⟩ : Rg 1 1 1); omega) (by obtain ⟨_, _⟩ := r_y1; obtain ⟨_, _⟩ := (⟨by decide, by decide⟩ : Rg 1 1 1); omega)
          have s17l : (1 : Int32).toInt = 1 := rfl
          refine lv_aload_n hx hb d_X2_leastHours_60 rfl (lv_at hl 2 rfl) ?_
          refine lv_iload_n hx hb d_X2_leastHours_61 rfl (lv_at hl 3 rfl) ?_
          refine lv_iload hx hb d_X2_leastHours_62 (lv_at hl 6 rfl) ?_
          refine r_ci (r_runS (n := 5) (As := [.ref (ad 41), .int x15, .ref (ad 42), .int gg, .int y6]) (rest := [.int y6]) X hw (ct_X2_leastHours_6 l D dA ad v12 hI13 x15 gg y6 r16 r_gg) gc_X2_28 (by decide +kernel) ⟨rfl, rfl, Nat.le_of_ble_eq_true rfl, Nat.le_of_ble_eq_true rfl⟩ rfl hl.1 rfl (Nat.le_of_ble_eq_true rfl) ⟨Nat.zero_le _, Nat.zero_le _⟩ d_X2_leastHours_64) hS (fun x19 v20 H locs hp18 hw hS => ?_)
          obtain ⟨hp18, hE21⟩ := hp18
          obtain ⟨hI22, hK23⟩ := hp18
          have hK24 : Kp (kp_X2_leastHours_7 up gg be) v v20 := Kp.tr hK14 hK23 (by have z0 : (0 : Int32).toInt = 0 := rfl; intro a j; unfold kp_X2_leastHours_7 kp_X2_leastHours_6; omega)
          have hG := bnd2_use hE21 hG
          refine va_mmin hx hb (X.2.2.1.trans hl.1.symm) X.2.2.2.1 (X.2.2.2.2.1 _ ml_X2_48) (X.2.2.2.2.1 _ ml_mins) (X.2.2.2.2.1 _ ml_mi) (X.2.2.2.2.1 _ ml_minc) (Nat.le_of_ble_eq_true rfl) (Nat.le_of_ble_eq_true rfl) (Nat.zero_le _) (Nat.zero_le _) d_X2_leastHours_67 ?_
          refine lv_topi (fun x25 ex25 => ?_)
          have hG := bnd_use ex25 hG
          refine lv_istore (lv' := [(6, .int x25), (0, .ref (ad 41)), (1, .int up), (2, .ref (ad 42)), (3, .int gg), (4, .int be), (5, .int y5), (7, .int y7)]) hx hb d_X2_leastHours_70 hl (by decide) rfl (fun ls hl => ?_)
          refine lv_aload_n hx hb d_X2_leastHours_72 rfl (lv_at hl 3 rfl) ?_
          refine lv_iload hx hb d_X2_leastHours_73 (lv_at hl 7 rfl) ?_
          refine lv_dup2_11 hx hb d_X2_leastHours_75 rfl rfl ?_
          refine r_iald X hw (rfl : KD 42 = _) (Rg.vp (b := 2) r5 (by decide)) rfl d_X2_leastHours_76 ?_
          refine lv_topi (fun x26 ex26 => ?_)
          have hG := bnd_use ex26 hG
          refine lv_iload hx hb d_X2_leastHours_77 (lv_at hl 6 rfl) ?_
          refine lv_isub hx hb d_X2_leastHours_79 ?_
          refine lv_topi (fun x27 ex27 => ?_)
          have hG := bnd_use ex27 hG
          refine r_iast X hw hS (rfl : KD 42 = _) (Rg.vp (b := 2) r5 (by decide)) rfl d_X2_leastHours_80 (fun H locs hw hS => ?_)
          obtain ⟨v28, ev28⟩ : ∃ z, z = up2 v20 42 y7.toNatClampNeg x27 := ⟨_, rfl⟩
          rw [← ev28] at hw
          have hG := bnd_use ev28 hG
          have hI29 : Inv v28 := by rw [ev28]; exact Inv.put0 hI22 _ rfl
          have hK30 : Kp (kp_X2_leastHours_7 up gg be) v v28 := by rw [ev28]; exact Kp.put hK24 _ (by unfold kp_X2_leastHours_7; omega)
          obtain ⟨x31, ex31⟩ : ∃ y : Int32, y = y7 + 1 := ⟨_, rfl⟩
          have hG := bnd_use ex31 hG
          refine lv_iinc (v := x31) (lv' := [(7, .int x31), (6, .int x25), (0, .ref (ad 41)), (1, .int up), (2, .ref (ad 42)), (3, .int gg), (4, .int be), (5, .int y5)]) hx hb d_X2_leastHours_81 hl (k := 7) rfl (by rw [ex31]; rfl) (by decide) rfl (fun ls hl => ?_)
          have r32 : Rg x31 1 3 := rg_add ex31 r5 (⟨by decide, by decide⟩ : Rg 1 1 1) (by decide) (by decide)
          have s33 : x31.toInt = y7.toInt + (1 : Int32).toInt := by rw [ex31]; exact i_add (by obtain ⟨_, _⟩ := r5; obtain ⟨_, _⟩ := (⟨by decide, by decide⟩ : Rg 1 1 1); omega) (by obtain ⟨_, _⟩ := r5; obtain ⟨_, _⟩ := (⟨by decide, by decide⟩ : Rg 1 1 1); omega)
          have s33l : (1 : Int32).toInt = 1 := rfl
          refine lv_goto (tgt := 24) hx hb d_X2_leastHours_84 (by decide) ?_
          exact ih0 y5 x25 x31 v28 _ _ _ (by have q_ := r_y1; obtain ⟨_, _⟩ := q_; have q_ := r_gg; obtain ⟨_, _⟩ := q_; have q_ := r5; obtain ⟨_, _⟩ := q_; have q_ := r16; obtain ⟨_, _⟩ := q_; have q_ := r32; obtain ⟨_, _⟩ := q_; have q_ := rg_any be; obtain ⟨_, _⟩ := q_; have q_ := rg_any y5; obtain ⟨_, _⟩ := q_; have q_ := rg_any x25; obtain ⟨_, _⟩ := q_; omega) r_y1 (rg_w r32 (by decide) (by decide)) hI29 hK30 hG hw hS (lv_sub hl [2, 3, 4, 5, 6, 7, 1, 0] rfl)
        · have f34 := i_nlt c8
          have hG := g_neg c8 hG
          refine lv_goto (tgt := 81) hx hb d_X2_leastHours_42 (by decide) ?_
          obtain ⟨x35, ex35⟩ : ∃ y : Int32, y = y7 + 1 := ⟨_, rfl⟩
          have hG := bnd_use ex35 hG
          refine lv_iinc (v := x35) (lv' := [(7, .int x35), (0, .ref (ad 41)), (1, .int up), (2, .ref (ad 42)), (3, .int gg), (4, .int be), (5, .int y5), (6, .int y6)]) hx hb d_X2_leastHours_81 hl (k := 7) rfl (by rw [ex35]; rfl) (by decide) rfl (fun ls hl => ?_)
          have r36 : Rg x35 1 3 := rg_add ex35 r5 (⟨by decide, by decide⟩ : Rg 1 1 1) (by decide) (by decide)
          have s37 : x35.toInt = y7.toInt + (1 : Int32).toInt := by rw [ex35]; exact i_add (by obtain ⟨_, _⟩ := r5; obtain ⟨_, _⟩ := (⟨by decide, by decide⟩ : Rg 1 1 1); omega) (by obtain ⟨_, _⟩ := r5; obtain ⟨_, _⟩ := (⟨by decide, by decide⟩ : Rg 1 1 1); omega)
          have s37l : (1 : Int32).toInt = 1 := rfl
          refine lv_goto (tgt := 24) hx hb d_X2_leastHours_84 (by decide) ?_
          exact ih0 y5 y6 x35 v1 _ _ _ (by have q_ := r_y1; obtain ⟨_, _⟩ := q_; have q_ := r_gg; obtain ⟨_, _⟩ := q_; have q_ := r5; obtain ⟨_, _⟩ := q_; have q_ := r36; obtain ⟨_, _⟩ := q_; have q_ := rg_any be; obtain ⟨_, _⟩ := q_; have q_ := rg_any y5; obtain ⟨_, _⟩ := q_; have q_ := rg_any y6; obtain ⟨_, _⟩ := q_; omega) r_y1 (rg_w r36 (by decide) (by decide)) hI1 hK1 hG hw hS (lv_sub hl [1, 2, 3, 4, 5, 6, 7, 0] rfl)
  have ih0 := LL 100000
  have hK0 : Kp (kp_X2_leastHours_7 up gg be) v v := Kp.rf _ v
  have hG := eRR
  unfold f_X2_leastHours_7 at hG
  refine lv_iload_n hx hb d_X2_leastHours_0 rfl (lv_at hl 1 rfl) ?_
  refine lv_if_gt (tgt := 10) hx hb d_X2_leastHours_1 (by decide) (fun c38 => ?_) (fun c38 => ?_)
  · have f39 := i_lt c38
    have r40 : Rg up 1 7 := by obtain ⟨a1, a2⟩ := r_up; obtain ⟨b1, b2⟩ := (⟨by decide, by decide⟩ : Rg 0 0 0); have f := i_lt c38; exact ⟨by omega, by omega⟩
    have hG := g_pos c38 hG
    refine lv_aload_n hx hb d_X2_leastHours_10 rfl (lv_at hl 0 rfl) ?_
    refine lv_iload_n hx hb d_X2_leastHours_11 rfl (lv_at hl 1 rfl) ?_
    refine lv_iconst (v := 1) hx hb d_X2_leastHours_12 (by decide) ?_
    refine lv_isub hx hb d_X2_leastHours_13 ?_
    refine lv_topi (fun x41 ex41 => ?_)
    have hG := bnd_use ex41 hG
    have r42 : Rg x41 0 6 := rg_sub ex41 r40 (⟨by decide, by decide⟩ : Rg 1 1 1) (by decide) (by decide)
    have s43 : x41.toInt = up.toInt - (1 : Int32).toInt := by rw [ex41]; exact i_sub (by obtain ⟨_, _⟩ := r40; obtain ⟨_, _⟩ := (⟨by decide, by decide⟩ : Rg 1 1 1); omega) (by obtain ⟨_, _⟩ := r40; obtain ⟨_, _⟩ := (⟨by decide, by decide⟩ : Rg 1 1 1); omega)
    have s43l : (1 : Int32).toInt = 1 := rfl
    refine r_iald X hw (rfl : KD 41 = _) (Rg.vp (b := 6) r42 (by decide)) rfl d_X2_leastHours_14 ?_
    refine lv_topi (fun x44 ex44 => ?_)
    have hG := bnd_use ex44 hG
    refine lv_istore (lv' := [(5, .int x44), (0, .ref (ad 41)), (1, .int up), (2, .ref (ad 42)), (3, .int gg), (4, .int be)]) hx hb d_X2_leastHours_15 hl (by decide) rfl (fun ls hl => ?_)
    refine lv_iload hx hb d_X2_leastHours_17 (lv_at hl 5 rfl) ?_
    refine lv_istore (lv' := [(6, .int be), (5, .int x44), (0, .ref (ad 41)), (1, .int up), (2, .ref (ad 42)), (3, .int gg), (4, .int be)]) hx hb d_X2_leastHours_19 hl (by decide) rfl (fun ls hl => ?_)
    refine lv_iconst (v := 0) hx hb d_X2_leastHours_21 (by decide) ?_
    refine lv_istore (lv' := [(7, .int 0), (6, .int be), (5, .int x44), (0, .ref (ad 41)), (1, .int up), (2, .ref (ad 42)), (3, .int gg), (4, .int be)]) hx hb d_X2_leastHours_22 hl (by decide) rfl (fun ls hl => ?_)
    exact ih0 x44 be 0 v _ _ _ (by have q_ := r40; obtain ⟨_, _⟩ := q_; have q_ := r_gg; obtain ⟨_, _⟩ := q_; have q_ := r42; obtain ⟨_, _⟩ := q_; have q_ := rg_any be; obtain ⟨_, _⟩ := q_; have q_ := rg_any x44; obtain ⟨_, _⟩ := q_; have q_ := rg_any be; obtain ⟨_, _⟩ := q_; have q_ : (0 : Int32).toInt = 0 := rfl; omega) r40 (rg_w (⟨by decide, by decide⟩ : Rg 0 0 0) (by decide) (by decide)) hI hK0 hG hw hS (lv_sub hl [3, 4, 5, 6, 7, 2, 1, 0] rfl)
  · have f45 := i_nlt c38
    have r46 : Rg up 0 0 := by obtain ⟨a1, a2⟩ := r_up; obtain ⟨b1, b2⟩ := (⟨by decide, by decide⟩ : Rg 0 0 0); have f := i_nlt c38; exact ⟨by omega, by omega⟩
    have hG := g_neg c38 hG
    refine lv_aload_n hx hb d_X2_leastHours_4 rfl (lv_at hl 2 rfl) ?_
    refine lv_iload_n hx hb d_X2_leastHours_5 rfl (lv_at hl 3 rfl) ?_
    refine r_ci (r_runS (n := 2) (As := [.ref (ad 42), .int gg]) (rest := []) X hw (ct_X2_longest_42 l D dA ad v hI gg r_gg) gc_X2_44 (by decide +kernel) ⟨rfl, rfl, Nat.le_of_ble_eq_true rfl, Nat.le_of_ble_eq_true rfl⟩ rfl hl.1 rfl (Nat.le_of_ble_eq_true rfl) ⟨Nat.zero_le _, Nat.zero_le _⟩ d_X2_leastHours_6) hS (fun x48 v49 H locs hp47 hw hS => ?_)
    obtain ⟨hp47, hE50⟩ := hp47
    rw [hp47] at hw
    have hG := bnd_use hE50 hG
    exact r_iret X hr hlocks hw hS ⟨⟨hI, hK0⟩, hG.trans eRR.symm⟩ d_X2_leastHours_9
theorem d_X2_gather_0 : decode c_X2_gather 0 = .ok (.iconst 0, 1) := by decide +kernel
theorem d_X2_gather_1 : decode c_X2_gather 1 = .ok (.istore_n 2, 1) := by decide +kernel
theorem d_X2_gather_2 : decode c_X2_gather 2 = .ok (.iconst 0, 1) := by decide +kernel
theorem d_X2_gather_3 : decode c_X2_gather 3 = .ok (.istore_n 3, 1) := by decide +kernel
theorem d_X2_gather_4 : decode c_X2_gather 4 = .ok (.iload_n 3, 1) := by decide +kernel
theorem d_X2_gather_5 : decode c_X2_gather 5 = .ok (.aload_n 1, 1) := by decide +kernel
theorem d_X2_gather_6 : decode c_X2_gather 6 = .ok (.getfield 32, 3) := by decide +kernel
theorem d_X2_gather_9 : decode c_X2_gather 9 = .ok (.if_icmp .ge 87, 3) := by decide +kernel
theorem d_X2_gather_12 : decode c_X2_gather 12 = .ok (.iload_n 3, 1) := by decide +kernel
theorem d_X2_gather_13 : decode c_X2_gather 13 = .ok (.ifCond .eq 20, 3) := by decide +kernel
theorem d_X2_gather_16 : decode c_X2_gather 16 = .ok (.aload_n 1, 1) := by decide +kernel
theorem d_X2_gather_17 : decode c_X2_gather 17 = .ok (.getfield 38, 3) := by decide +kernel
theorem d_X2_gather_20 : decode c_X2_gather 20 = .ok (.iload_n 3, 1) := by decide +kernel
theorem d_X2_gather_21 : decode c_X2_gather 21 = .ok (.iaload, 1) := by decide +kernel
theorem d_X2_gather_22 : decode c_X2_gather 22 = .ok (.aload_n 1, 1) := by decide +kernel
theorem d_X2_gather_23 : decode c_X2_gather 23 = .ok (.getfield 38, 3) := by decide +kernel
theorem d_X2_gather_26 : decode c_X2_gather 26 = .ok (.iload_n 3, 1) := by decide +kernel
theorem d_X2_gather_27 : decode c_X2_gather 27 = .ok (.iconst 1, 1) := by decide +kernel
theorem d_X2_gather_28 : decode c_X2_gather 28 = .ok (.isub, 1) := by decide +kernel
theorem d_X2_gather_29 : decode c_X2_gather 29 = .ok (.iaload, 1) := by decide +kernel
theorem d_X2_gather_30 : decode c_X2_gather 30 = .ok (.if_icmp .eq 7, 3) := by decide +kernel
theorem d_X2_gather_33 : decode c_X2_gather 33 = .ok (.iconst 1, 1) := by decide +kernel
theorem d_X2_gather_34 : decode c_X2_gather 34 = .ok (.goto 4, 3) := by decide +kernel
theorem d_X2_gather_37 : decode c_X2_gather 37 = .ok (.iconst 0, 1) := by decide +kernel
theorem d_X2_gather_38 : decode c_X2_gather 38 = .ok (.istore 4, 2) := by decide +kernel
theorem d_X2_gather_40 : decode c_X2_gather 40 = .ok (.iload 4, 2) := by decide +kernel
theorem d_X2_gather_42 : decode c_X2_gather 42 = .ok (.ifCond .eq 12, 3) := by decide +kernel
theorem d_X2_gather_45 : decode c_X2_gather 45 = .ok (.iload_n 2, 1) := by decide +kernel
theorem d_X2_gather_46 : decode c_X2_gather 46 = .ok (.bipush 7, 2) := by decide +kernel
theorem d_X2_gather_48 : decode c_X2_gather 48 = .ok (.if_icmp .ne 6, 3) := by decide +kernel
theorem d_X2_gather_51 : decode c_X2_gather 51 = .ok (.goto 45, 3) := by decide +kernel
theorem d_X2_gather_54 : decode c_X2_gather 54 = .ok (.iload 4, 2) := by decide +kernel
theorem d_X2_gather_56 : decode c_X2_gather 56 = .ok (.ifCond .eq 13, 3) := by decide +kernel
theorem d_X2_gather_59 : decode c_X2_gather 59 = .ok (.aload_n 0, 1) := by decide +kernel
theorem d_X2_gather_60 : decode c_X2_gather 60 = .ok (.getfield 9, 3) := by decide +kernel
theorem d_X2_gather_63 : decode c_X2_gather 63 = .ok (.iload_n 2, 1) := by decide +kernel
theorem d_X2_gather_64 : decode c_X2_gather 64 = .ok (.iinc 2 1, 3) := by decide +kernel
theorem d_X2_gather_67 : decode c_X2_gather 67 = .ok (.iconst 0, 1) := by decide +kernel
theorem d_X2_gather_68 : decode c_X2_gather 68 = .ok (.iastore, 1) := by decide +kernel
theorem d_X2_gather_69 : decode c_X2_gather 69 = .ok (.iload_n 2, 1) := by decide +kernel
theorem d_X2_gather_70 : decode c_X2_gather 70 = .ok (.ifCond .le 20, 3) := by decide +kernel
theorem d_X2_gather_73 : decode c_X2_gather 73 = .ok (.aload_n 0, 1) := by decide +kernel
theorem d_X2_gather_74 : decode c_X2_gather 74 = .ok (.getfield 9, 3) := by decide +kernel
theorem d_X2_gather_77 : decode c_X2_gather 77 = .ok (.iload_n 2, 1) := by decide +kernel
theorem d_X2_gather_78 : decode c_X2_gather 78 = .ok (.iconst 1, 1) := by decide +kernel
theorem d_X2_gather_79 : decode c_X2_gather 79 = .ok (.isub, 1) := by decide +kernel
theorem d_X2_gather_80 : decode c_X2_gather 80 = .ok (.dup2, 1) := by decide +kernel
theorem d_X2_gather_81 : decode c_X2_gather 81 = .ok (.iaload, 1) := by decide +kernel
theorem d_X2_gather_82 : decode c_X2_gather 82 = .ok (.aload_n 1, 1) := by decide +kernel
theorem d_X2_gather_83 : decode c_X2_gather 83 = .ok (.getfield 41, 3) := by decide +kernel
theorem d_X2_gather_86 : decode c_X2_gather 86 = .ok (.iload_n 3, 1) := by decide +kernel
theorem d_X2_gather_87 : decode c_X2_gather 87 = .ok (.iaload, 1) := by decide +kernel
theorem d_X2_gather_88 : decode c_X2_gather 88 = .ok (.iadd, 1) := by decide +kernel
theorem d_X2_gather_89 : decode c_X2_gather 89 = .ok (.iastore, 1) := by decide +kernel
theorem d_X2_gather_90 : decode c_X2_gather 90 = .ok (.iinc 3 1, 3) := by decide +kernel
theorem d_X2_gather_93 : decode c_X2_gather 93 = .ok (.goto (-89), 3) := by decide +kernel
theorem d_X2_gather_96 : decode c_X2_gather 96 = .ok (.iload_n 2, 1) := by decide +kernel
theorem d_X2_gather_97 : decode c_X2_gather 97 = .ok (.ireturn, 1) := by decide +kernel
def kp_X2_gather_40_30  (a j : Nat) : Prop := a ≠ 41
def b_X2_gather_40_30_4  (rc4 : Int32 → Int32 → tV → Int32 × tV) (y2 : Int32) (y3 : Int32) (v1 : tV) : Int32 × tV := bnd (v1 30 4) fun x1 => (if x1 ≤ y3 then (y2, v1) else (if y3 = (0 : Int32) then (if y2 = (7 : Int32) then (y2, v1) else bnd (y2 + 1) fun x17 => bnd (up2 v1 41 (y2.toNatClampNeg) 0) fun v20 => bnd (x17 - (1 : Int32)) fun x26 => bnd (v20 41 x26.toNatClampNeg) fun x29 => bnd (v20 36 y3.toNatClampNeg) fun x30 => bnd (x29 + x30) fun x31 => bnd (up2 v20 41 (x26.toNatClampNeg) x31) fun v32 => bnd (y3 + 1) fun x36 => rc4 x17 x36 v32) else bnd (v1 32 y3.toNatClampNeg) fun x43 => bnd (y3 - (1 : Int32)) fun x44 => bnd (v1 32 x44.toNatClampNeg) fun x47 => (if x43 = x47 then (if y2 ≤ (0 : Int32) then bnd (y3 + 1) fun x55 => rc4 y2 x55 v1 else bnd (y2 - (1 : Int32)) fun x60 => bnd (v1 41 x60.toNatClampNeg) fun x63 => bnd (v1 36 y3.toNatClampNeg) fun x64 => bnd (x63 + x64) fun x65 => bnd (up2 v1 41 (x60.toNatClampNeg) x65) fun v66 => bnd (y3 + 1) fun x70 => rc4 y2 x70 v66) else (if y2 = (7 : Int32) then (y2, v1) else bnd (y2 + 1) fun x79 => bnd (up2 v1 41 (y2.toNatClampNeg) 0) fun v82 => bnd (x79 - (1 : Int32)) fun x88 => bnd (v82 41 x88.toNatClampNeg) fun x91 => bnd (v82 36 y3.toNatClampNeg) fun x92 => bnd (x91 + x92) fun x93 => bnd (up2 v82 41 (x88.toNatClampNeg) x93) fun v94 => bnd (y3 + 1) fun x98 => rc4 x79 x98 v94))))
def g_X2_gather_40_30_4  : Nat → Int32 → Int32 → tV → Int32 × tV
  | 0, _, _, v1 => (0, v1)
  | n + 1, y2, y3, v1 => b_X2_gather_40_30_4  (g_X2_gather_40_30_4  n) y2 y3 v1
def f_X2_gather_40_30 (v : tV)  : Int32 × tV := g_X2_gather_40_30_4  100000 0 0 v
set_option maxHeartbeats 4000000 in
set_option maxRecDepth 100000 in
theorem ct_X2_gather_40_30 (l : Launch) (D : va_G) (dA : Nat → ClassId) (ad : Nat → Nat) (v : tV) (hI : Inv v)  : Met l m_X2_gather [.code m_X2_gather c_X2_gather 5 (some .int)] ({ frames := 1, cells := 0, slots := 0, locals := 40 } : Room) (tP D dA ad v [.ref (ad 40), .ref (ad 30)]) (tQi D dA ad (fun r v' => (Inv v' ∧ Kp kp_X2_gather_40_30 v v' ∧ Rg r 0 7) ∧ (r, v') = f_X2_gather_40_30 v )) 0 0 (tA ad) := by
  refine tMet (by decide) (Nat.le_of_ble_eq_true rfl) ?_
  intro p e s m below meth c ls X hr hlocks hw hl
  have X : CX p s m ([.ref (ad 40), .ref (ad 30)] : List Value).toArray c c_X2_gather N_X2 5 D dA := X
  have hx := X.1
  have hb := X.2.1
  have hS : va_S (tA ad) s.heap s.heap [] := va_S.rf
  have hl : lv_has ls 5 [(0, .ref (ad 40)), (1, .ref (ad 30))] := hl
  obtain ⟨RR, eRR⟩ : ∃ z, f_X2_gather_40_30 v  = z := ⟨_, rfl⟩
  have LL : ∀ n : Nat, (∀ (y2 : Int32) (y3 : Int32) (v1 : tV) (H : Heap) (locs : List Loc) (ls : Array Slot), (30 - y3.toInt).toNat < n → Rg y2 0 7 → Rg y3 0 30 → Inv v1 → Kp kp_X2_gather_40_30 v v1 → g_X2_gather_40_30_4  n y2 y3 v1 = RR → tI D dA ad v1 H → va_S (tA ad) s.heap H locs → lv_has ls 5 [(0, .ref (ad 40)), (1, .ref (ad 30)), (2, .int y2), (3, .int y3)] → W p l e ({ frames := 1, cells := 0, slots := 0, locals := 40 } : Room) s m ([.ref (ad 40), .ref (ad 30)] : List Value).toArray below meth c H locs 0 0 (MQ below (tQi D dA ad (fun r v' => (Inv v' ∧ Kp kp_X2_gather_40_30 v v' ∧ Rg r 0 7) ∧ (r, v') = f_X2_gather_40_30 v )) ([.ref (ad 40), .ref (ad 30)] : List Value).toArray s 0 0 (tA ad)) (F0 m 4 ls [])) := by
    intro n
    induction n with
    | zero => intros; omega
    | succ n ih =>
      have ih0 := ih
      intro y2 y3 v1 H locs ls hmu r_y2 r_y3 hI1 hK1 hG hw hS hl
      have hG : b_X2_gather_40_30_4  (g_X2_gather_40_30_4  n) y2 y3 v1 = RR := hG
      unfold b_X2_gather_40_30_4 at hG
      refine lv_iload_n hx hb d_X2_gather_4 rfl (lv_at hl 3 rfl) ?_
      refine lv_aload_n hx hb d_X2_gather_5 rfl (lv_at hl 1 rfl) ?_
      refine r_geti X hw FL_X2_32 (rfl : KD 30 = _) rfl d_X2_gather_6 ?_
      refine lv_topi (fun x1 ex1 => ?_)
      have hG := bnd_use ex1 hG
      have r2 : Rg x1 0 30 := by rw [ex1]; exact hI1 _ _ _ _ rfl
      have hm3 : v1 30 4 = x1 := ex1.symm
      refine lv_icmp_ge (tgt := 96) hx hb d_X2_gather_9 (by decide) (fun c4 => ?_) (fun c4 => ?_)
      · have f5 := i_le c4
        have hG := g_pos c4 hG
        refine lv_iload_n hx hb d_X2_gather_96 rfl (lv_at hl 2 rfl) ?_
        exact r_iret X hr hlocks hw hS ⟨⟨hI1, hK1, r_y2⟩, hG.trans eRR.symm⟩ d_X2_gather_97
      · have f6 := i_nle c4
        have r7 : Rg y3 0 29 := by obtain ⟨a1, a2⟩ := r_y3; obtain ⟨b1, b2⟩ := r2; have f := i_nle c4; exact ⟨by omega, by omega⟩
        have r8 : Rg x1 1 30 := by obtain ⟨a1, a2⟩ := r_y3; obtain ⟨b1, b2⟩ := r2; have f := i_nle c4; exact ⟨by omega, by omega⟩
        have hG := g_neg c4 hG
        refine lv_iload_n hx hb d_X2_gather_12 rfl (lv_at hl 3 rfl) ?_
        refine lv_if_eq (tgt := 33) hx hb d_X2_gather_13 (by decide) (fun c9 => ?_) (fun c9 => ?_)
        · have f10 := i_eq c9
          have r11 : Rg y3 0 0 := by obtain ⟨a1, a2⟩ := r7; obtain ⟨b1, b2⟩ := (⟨by decide, by decide⟩ : Rg 0 0 0); have f := i_eq c9; exact ⟨by omega, by omega⟩
          have hG := g_pos c9 hG
          refine lv_iconst (v := 1) hx hb d_X2_gather_33 (by decide) ?_
          refine lv_goto (tgt := 38) hx hb d_X2_gather_34 (by decide) ?_
          refine lv_istore (lv' := [(4, .int 1), (0, .ref (ad 40)), (1, .ref (ad 30)), (2, .int y2), (3, .int y3)]) hx hb d_X2_gather_38 hl (by decide) rfl (fun ls hl => ?_)
          refine lv_iload hx hb d_X2_gather_40 (lv_at hl 0 rfl) ?_
          refine lv_if_eq (tgt := 54) hx hb d_X2_gather_42 (by decide) (fun c12 => ?_) (fun c12 => ?_)
          · exact absurd c12 (by decide)
          · refine lv_iload_n hx hb d_X2_gather_45 rfl (lv_at hl 3 rfl) ?_
            refine lv_bipush (v := 7) hx hb d_X2_gather_46 (by decide) ?_
            refine lv_icmp_ne (tgt := 54) hx hb d_X2_gather_48 (by decide) (fun c13 => ?_) (fun c13 => ?_)
            · have f14 := i_ne c13
              have r15 : Rg y2 0 6 := by obtain ⟨a1, a2⟩ := r_y2; obtain ⟨b1, b2⟩ := (⟨by decide, by decide⟩ : Rg 7 7 7); have f := i_ne c13; exact ⟨by omega, by omega⟩
              have hG := g_neg c13 hG
              refine lv_iload hx hb d_X2_gather_54 (lv_at hl 0 rfl) ?_
              refine lv_if_eq (tgt := 69) hx hb d_X2_gather_56 (by decide) (fun c16 => ?_) (fun c16 => ?_)
              · exact absurd c16 (by decide)
              · refine lv_aload_n hx hb d_X2_gather_59 rfl (lv_at hl 1 rfl) ?_
                refine r_getr (r := 41) X hw FL_X2_9 (rfl : KD 40 = _) rfl d_X2_gather_60 ?_
                refine lv_iload_n hx hb d_X2_gather_63 rfl (lv_at hl 3 rfl) ?_
                obtain ⟨x17, ex17⟩ : ∃ y : Int32, y = y2 + 1 := ⟨_, rfl⟩
                have hG := bnd_use ex17 hG
                refine lv_iinc (v := x17) (lv' := [(2, .int x17), (4, .int 1), (0, .ref (ad 40)), (1, .ref (ad 30)), (3, .int y3)]) hx hb d_X2_gather_64 hl (k := 3) rfl (by rw [ex17]; rfl) (by decide) rfl (fun ls hl => ?_)
                have r18 : Rg x17 1 7 := rg_add ex17 r15 (⟨by decide, by decide⟩ : Rg 1 1 1) (by decide) (by decide)
                have s19 : x17.toInt = y2.toInt + (1 : Int32).toInt := by rw [ex17]; exact i_add (by obtain ⟨_, _⟩ := r15; obtain ⟨_, _⟩ := (⟨by decide, by decide⟩ : Rg 1 1 1); omega) (by obtain ⟨_, _⟩ := r15; obtain ⟨_, _⟩ := (⟨by decide, by decide⟩ : Rg 1 1 1); omega)
                have s19l : (1 : Int32).toInt = 1 := rfl
                refine lv_iconst (v := 0) hx hb d_X2_gather_67 (by decide) ?_
                refine r_iast X hw hS (rfl : KD 41 = _) (Rg.vp (b := 6) r15 (by decide)) rfl d_X2_gather_68 (fun H locs hw hS => ?_)
                obtain ⟨v20, ev20⟩ : ∃ z, z = up2 v1 41 y2.toNatClampNeg 0 := ⟨_, rfl⟩
                rw [← ev20] at hw
                have hG := bnd_use ev20 hG
                have hI21 : Inv v20 := by rw [ev20]; exact Inv.put0 hI1 _ rfl
                have hK22 : Kp kp_X2_gather_40_30 v v20 := by rw [ev20]; exact Kp.put hK1 _ (by unfold kp_X2_gather_40_30; omega)
                have hm23 : v20 30 4 = x1 := by rw [ev20, up2_n _ _ (by omega)]; exact hm3
                refine lv_iload_n hx hb d_X2_gather_69 rfl (lv_at hl 0 rfl) ?_
                refine lv_if_le (tgt := 90) hx hb d_X2_gather_70 (by decide) (fun c24 => ?_) (fun c24 => ?_)
                · exfalso
                  obtain ⟨a1, a2⟩ := r18; obtain ⟨b1, b2⟩ := (⟨by decide, by decide⟩ : Rg 0 0 0); have f := i_le c24; omega
                · have f25 := i_nle c24
                  refine lv_aload_n hx hb d_X2_gather_73 rfl (lv_at hl 2 rfl) ?_
                  refine r_getr (r := 41) X hw FL_X2_9 (rfl : KD 40 = _) rfl d_X2_gather_74 ?_
                  refine lv_iload_n hx hb d_X2_gather_77 rfl (lv_at hl 0 rfl) ?_
                  refine lv_iconst (v := 1) hx hb d_X2_gather_78 (by decide) ?_
                  refine lv_isub hx hb d_X2_gather_79 ?_
                  refine lv_topi (fun x26 ex26 => ?_)
                  have hG := bnd_use ex26 hG
                  have r27 : Rg x26 0 6 := rg_sub ex26 r18 (⟨by decide, by decide⟩ : Rg 1 1 1) (by decide) (by decide)
                  have s28 : x26.toInt = x17.toInt - (1 : Int32).toInt := by rw [ex26]; exact i_sub (by obtain ⟨_, _⟩ := r18; obtain ⟨_, _⟩ := (⟨by decide, by decide⟩ : Rg 1 1 1); omega) (by obtain ⟨_, _⟩ := r18; obtain ⟨_, _⟩ := (⟨by decide, by decide⟩ : Rg 1 1 1); omega)
                  have s28l : (1 : Int32).toInt = 1 := rfl
                  refine lv_dup2_11 hx hb d_X2_gather_80 rfl rfl ?_
                  refine r_iald X hw (rfl : KD 41 = _) (Rg.vp (b := 6) r27 (by decide)) rfl d_X2_gather_81 ?_
                  refine lv_topi (fun x29 ex29 => ?_)
                  have hG := bnd_use ex29 hG
                  refine lv_aload_n hx hb d_X2_gather_82 rfl (lv_at hl 3 rfl) ?_
                  refine r_getr (r := 36) X hw FL_X2_41 (rfl : KD 30 = _) rfl d_X2_gather_83 ?_
                  refine lv_iload_n hx hb d_X2_gather_86 rfl (lv_at hl 4 rfl) ?_
                  refine r_iald X hw (rfl : KD 36 = _) (Rg.vp (b := 0) r11 (by decide)) rfl d_X2_gather_87 ?_
                  refine lv_topi (fun x30 ex30 => ?_)
                  have hG := bnd_use ex30 hG
                  refine lv_iadd hx hb d_X2_gather_88 ?_
                  refine lv_topi (fun x31 ex31 => ?_)
                  have hG := bnd_use ex31 hG
                  refine r_iast X hw hS (rfl : KD 41 = _) (Rg.vp (b := 6) r27 (by decide)) rfl d_X2_gather_89 (fun H locs hw hS => ?_)
                  obtain ⟨v32, ev32⟩ : ∃ z, z = up2 v20 41 x26.toNatClampNeg x31 := ⟨_, rfl⟩
                  rw [← ev32] at hw
                  have hG := bnd_use ev32 hG
                  have hI33 : Inv v32 := by rw [ev32]; exact Inv.put0 hI21 _ rfl
                  have hK34 : Kp kp_X2_gather_40_30 v v32 := by rw [ev32]; exact Kp.put hK22 _ (by unfold kp_X2_gather_40_30; omega)
                  have hm35 : v32 30 4 = x1 := by rw [ev32, up2_n _ _ (by omega)]; exact hm23
                  obtain ⟨x36, ex36⟩ : ∃ y : Int32, y = y3 + 1 := ⟨_, rfl⟩
                  have hG := bnd_use ex36 hG
                  refine lv_iinc (v := x36) (lv' := [(3, .int x36), (2, .int x17), (4, .int 1), (0, .ref (ad 40)), (1, .ref (ad 30))]) hx hb d_X2_gather_90 hl (k := 4) rfl (by rw [ex36]; rfl) (by decide) rfl (fun ls hl => ?_)
                  have r37 : Rg x36 1 1 := rg_add ex36 r11 (⟨by decide, by decide⟩ : Rg 1 1 1) (by decide) (by decide)
                  have s38 : x36.toInt = y3.toInt + (1 : Int32).toInt := by rw [ex36]; exact i_add (by obtain ⟨_, _⟩ := r11; obtain ⟨_, _⟩ := (⟨by decide, by decide⟩ : Rg 1 1 1); omega) (by obtain ⟨_, _⟩ := r11; obtain ⟨_, _⟩ := (⟨by decide, by decide⟩ : Rg 1 1 1); omega)
                  have s38l : (1 : Int32).toInt = 1 := rfl
                  refine lv_goto (tgt := 4) hx hb d_X2_gather_93 (by decide) ?_
                  exact ih0 x17 x36 v32 _ _ _ (by have q_ := r15; obtain ⟨_, _⟩ := q_; have q_ := r11; obtain ⟨_, _⟩ := q_; have q_ := r8; obtain ⟨_, _⟩ := q_; have q_ := r18; obtain ⟨_, _⟩ := q_; have q_ := r27; obtain ⟨_, _⟩ := q_; have q_ := r37; obtain ⟨_, _⟩ := q_; omega) (rg_w r18 (by decide) (by decide)) (rg_w r37 (by decide) (by decide)) hI33 hK34 hG hw hS (lv_sub hl [3, 4, 1, 0] rfl)
            · have f39 := i_eq c13
              have r40 : Rg y2 7 7 := by obtain ⟨a1, a2⟩ := r_y2; obtain ⟨b1, b2⟩ := (⟨by decide, by decide⟩ : Rg 7 7 7); have f := i_eq c13; exact ⟨by omega, by omega⟩
              have hG := g_pos c13 hG
              refine lv_goto (tgt := 96) hx hb d_X2_gather_51 (by decide) ?_
              refine lv_iload_n hx hb d_X2_gather_96 rfl (lv_at hl 3 rfl) ?_
              exact r_iret X hr hlocks hw hS ⟨⟨hI1, hK1, (rg_w r40 (by decide) (by decide))⟩, hG.trans eRR.symm⟩ d_X2_gather_97
        · have f41 := i_ne c9
          have r42 : Rg y3 1 29 := by obtain ⟨a1, a2⟩ := r7; obtain ⟨b1, b2⟩ := (⟨by decide, by decide⟩ : Rg 0 0 0); have f := i_ne c9; exact ⟨by omega, by omega⟩
          have hG := g_neg c9 hG
          refine lv_aload_n hx hb d_X2_gather_16 rfl (lv_at hl 1 rfl) ?_
          refine r_getr (r := 32) X hw FL_X2_38 (rfl : KD 30 = _) rfl d_X2_gather_17 ?_
          refine lv_iload_n hx hb d_X2_gather_20 rfl (lv_at hl 3 rfl) ?_
          refine r_iald X hw (rfl : KD 32 = _) (Rg.vp (b := 29) (rg_w r42 (by decide) (by decide)) (by decide)) rfl d_X2_gather_21 ?_
          refine lv_topi (fun x43 ex43 => ?_)
          have hG := bnd_use ex43 hG
          refine lv_aload_n hx hb d_X2_gather_22 rfl (lv_at hl 1 rfl) ?_
          refine r_getr (r := 32) X hw FL_X2_38 (rfl : KD 30 = _) rfl d_X2_gather_23 ?_
          refine lv_iload_n hx hb d_X2_gather_26 rfl (lv_at hl 3 rfl) ?_
          refine lv_iconst (v := 1) hx hb d_X2_gather_27 (by decide) ?_
          refine lv_isub hx hb d_X2_gather_28 ?_
          refine lv_topi (fun x44 ex44 => ?_)
          have hG := bnd_use ex44 hG
          have r45 : Rg x44 0 28 := rg_sub ex44 r42 (⟨by decide, by decide⟩ : Rg 1 1 1) (by decide) (by decide)
          have s46 : x44.toInt = y3.toInt - (1 : Int32).toInt := by rw [ex44]; exact i_sub (by obtain ⟨_, _⟩ := r42; obtain ⟨_, _⟩ := (⟨by decide, by decide⟩ : Rg 1 1 1); omega) (by obtain ⟨_, _⟩ := r42; obtain ⟨_, _⟩ := (⟨by decide, by decide⟩ : Rg 1 1 1); omega)
          have s46l : (1 : Int32).toInt = 1 := rfl
          refine r_iald X hw (rfl : KD 32 = _) (Rg.vp (b := 28) r45 (by decide)) rfl d_X2_gather_29 ?_
          refine lv_topi (fun x47 ex47 => ?_)
          have hG := bnd_use ex47 hG
          refine lv_icmp_eq (tgt := 37) hx hb d_X2_gather_30 (by decide) (fun c48 => ?_) (fun c48 => ?_)
          · have f49 := i_eq c48
            have hG := g_pos c48 hG
            refine lv_iconst (v := 0) hx hb d_X2_gather_37 (by decide) ?_
            refine lv_istore (lv' := [(4, .int 0), (0, .ref (ad 40)), (1, .ref (ad 30)), (2, .int y2), (3, .int y3)]) hx hb d_X2_gather_38 hl (by decide) rfl (fun ls hl => ?_)
            refine lv_iload hx hb d_X2_gather_40 (lv_at hl 0 rfl) ?_
            refine lv_if_eq (tgt := 54) hx hb d_X2_gather_42 (by decide) (fun c50 => ?_) (fun c50 => ?_)
            · refine lv_iload hx hb d_X2_gather_54 (lv_at hl 0 rfl) ?_
              refine lv_if_eq (tgt := 69) hx hb d_X2_gather_56 (by decide) (fun c51 => ?_) (fun c51 => ?_)
              · refine lv_iload_n hx hb d_X2_gather_69 rfl (lv_at hl 3 rfl) ?_
                refine lv_if_le (tgt := 90) hx hb d_X2_gather_70 (by decide) (fun c52 => ?_) (fun c52 => ?_)
                · have f53 := i_le c52
                  have r54 : Rg y2 0 0 := by obtain ⟨a1, a2⟩ := r_y2; obtain ⟨b1, b2⟩ := (⟨by decide, by decide⟩ : Rg 0 0 0); have f := i_le c52; exact ⟨by omega, by omega⟩
                  have hG := g_pos c52 hG
                  obtain ⟨x55, ex55⟩ : ∃ y : Int32, y = y3 + 1 := ⟨_, rfl⟩
                  have hG := bnd_use ex55 hG
                  refine lv_iinc (v := x55) (lv' := [(3, .int x55), (4, .int 0), (0, .ref (ad 40)), (1, .ref (ad 30)), (2, .int y2)]) hx hb d_X2_gather_90 hl (k := 4) rfl (by rw [ex55]; rfl) (by decide) rfl (fun ls hl => ?_)
                  have r56 : Rg x55 2 30 := rg_add ex55 r42 (⟨by decide, by decide⟩ : Rg 1 1 1) (by decide) (by decide)
                  have s57 : x55.toInt = y3.toInt + (1 : Int32).toInt := by rw [ex55]; exact i_add (by obtain ⟨_, _⟩ := r42; obtain ⟨_, _⟩ := (⟨by decide, by decide⟩ : Rg 1 1 1); omega) (by obtain ⟨_, _⟩ := r42; obtain ⟨_, _⟩ := (⟨by decide, by decide⟩ : Rg 1 1 1); omega)
                  have s57l : (1 : Int32).toInt = 1 := rfl
                  refine lv_goto (tgt := 4) hx hb d_X2_gather_93 (by decide) ?_
                  exact ih0 y2 x55 v1 _ _ _ (by have q_ := r54; obtain ⟨_, _⟩ := q_; have q_ := r42; obtain ⟨_, _⟩ := q_; have q_ := r8; obtain ⟨_, _⟩ := q_; have q_ := r45; obtain ⟨_, _⟩ := q_; have q_ := r56; obtain ⟨_, _⟩ := q_; omega) (rg_w r54 (by decide) (by decide)) (rg_w r56 (by decide) (by decide)) hI1 hK1 hG hw hS (lv_sub hl [2, 3, 4, 0] rfl)
                · have f58 := i_nle c52
                  have r59 : Rg y2 1 7 := by obtain ⟨a1, a2⟩ := r_y2; obtain ⟨b1, b2⟩ := (⟨by decide, by decide⟩ : Rg 0 0 0); have f := i_nle c52; exact ⟨by omega, by omega⟩
                  have hG := g_neg c52 hG
                  refine lv_aload_n hx hb d_X2_gather_73 rfl (lv_at hl 1 rfl) ?_
                  refine r_getr (r := 41) X hw FL_X2_9 (rfl : KD 40 = _) rfl d_X2_gather_74 ?_
                  refine lv_iload_n hx hb d_X2_gather_77 rfl (lv_at hl 3 rfl) ?_
                  refine lv_iconst (v := 1) hx hb d_X2_gather_78 (by decide) ?_
                  refine lv_isub hx hb d_X2_gather_79 ?_
                  refine lv_topi (fun x60 ex60 => ?_)
                  have hG := bnd_use ex60 hG
                  have r61 : Rg x60 0 6 := rg_sub ex60 r59 (⟨by decide, by decide⟩ : Rg 1 1 1) (by decide) (by decide)
                  have s62 : x60.toInt = y2.toInt - (1 : Int32).toInt := by rw [ex60]; exact i_sub (by obtain ⟨_, _⟩ := r59; obtain ⟨_, _⟩ := (⟨by decide, by decide⟩ : Rg 1 1 1); omega) (by obtain ⟨_, _⟩ := r59; obtain ⟨_, _⟩ := (⟨by decide, by decide⟩ : Rg 1 1 1); omega)
                  have s62l : (1 : Int32).toInt = 1 := rfl
                  refine lv_dup2_11 hx hb d_X2_gather_80 rfl rfl ?_
                  refine r_iald X hw (rfl : KD 41 = _) (Rg.vp (b := 6) r61 (by decide)) rfl d_X2_gather_81 ?_
                  refine lv_topi (fun x63 ex63 => ?_)
                  have hG := bnd_use ex63 hG
                  refine lv_aload_n hx hb d_X2_gather_82 rfl (lv_at hl 2 rfl) ?_
                  refine r_getr (r := 36) X hw FL_X2_41 (rfl : KD 30 = _) rfl d_X2_gather_83 ?_
                  refine lv_iload_n hx hb d_X2_gather_86 rfl (lv_at hl 4 rfl) ?_
                  refine r_iald X hw (rfl : KD 36 = _) (Rg.vp (b := 29) (rg_w r42 (by decide) (by decide)) (by decide)) rfl d_X2_gather_87 ?_
                  refine lv_topi (fun x64 ex64 => ?_)
                  have hG := bnd_use ex64 hG
                  refine lv_iadd hx hb d_X2_gather_88 ?_
                  refine lv_topi (fun x65 ex65 => ?_)
                  have hG := bnd_use ex65 hG
                  refine r_iast X hw hS (rfl : KD 41 = _) (Rg.vp (b := 6) r61 (by decide)) rfl d_X2_gather_89 (fun H locs hw hS => ?_)
                  obtain ⟨v66, ev66⟩ : ∃ z, z = up2 v1 41 x60.toNatClampNeg x65 := ⟨_, rfl⟩
                  rw [← ev66] at hw
                  have hG := bnd_use ev66 hG
                  have hI67 : Inv v66 := by rw [ev66]; exact Inv.put0 hI1 _ rfl
                  have hK68 : Kp kp_X2_gather_40_30 v v66 := by rw [ev66]; exact Kp.put hK1 _ (by unfold kp_X2_gather_40_30; omega)
                  have hm69 : v66 30 4 = x1 := by rw [ev66, up2_n _ _ (by omega)]; exact hm3
                  obtain ⟨x70, ex70⟩ : ∃ y : Int32, y = y3 + 1 := ⟨_, rfl⟩
                  have hG := bnd_use ex70 hG
                  refine lv_iinc (v := x70) (lv' := [(3, .int x70), (4, .int 0), (0, .ref (ad 40)), (1, .ref (ad 30)), (2, .int y2)]) hx hb d_X2_gather_90 hl (k := 4) rfl (by rw [ex70]; rfl) (by decide) rfl (fun ls hl => ?_)
                  have r71 : Rg x70 2 30 := rg_add ex70 r42 (⟨by decide, by decide⟩ : Rg 1 1 1) (by decide) (by decide)
                  have s72 : x70.toInt = y3.toInt + (1 : Int32).toInt := by rw [ex70]; exact i_add (by obtain ⟨_, _⟩ := r42; obtain ⟨_, _⟩ := (⟨by decide, by decide⟩ : Rg 1 1 1); omega) (by obtain ⟨_, _⟩ := r42; obtain ⟨_, _⟩ := (⟨by decide, by decide⟩ : Rg 1 1 1); omega)
                  have s72l : (1 : Int32).toInt = 1 := rfl
                  refine lv_goto (tgt := 4) hx hb d_X2_gather_93 (by decide) ?_
                  exact ih0 y2 x70 v66 _ _ _ (by have q_ := r59; obtain ⟨_, _⟩ := q_; have q_ := r42; obtain ⟨_, _⟩ := q_; have q_ := r8; obtain ⟨_, _⟩ := q_; have q_ := r45; obtain ⟨_, _⟩ := q_; have q_ := r61; obtain ⟨_, _⟩ := q_; have q_ := r71; obtain ⟨_, _⟩ := q_; omega) (rg_w r59 (by decide) (by decide)) (rg_w r71 (by decide) (by decide)) hI67 hK68 hG hw hS (lv_sub hl [2, 3, 4, 0] rfl)
              · exact absurd c51 (by decide)
            · exact absurd c50 (by decide)
          · have f73 := i_ne c48
            have hG := g_neg c48 hG
            refine lv_iconst (v := 1) hx hb d_X2_gather_33 (by decide) ?_
            refine lv_goto (tgt := 38) hx hb d_X2_gather_34 (by decide) ?_
            refine lv_istore (lv' := [(4, .int 1), (0, .ref (ad 40)), (1, .ref (ad 30)), (2, .int y2), (3, .int y3)]) hx hb d_X2_gather_38 hl (by decide) rfl (fun ls hl => ?_)
            refine lv_iload hx hb d_X2_gather_40 (lv_at hl 0 rfl) ?_
            refine lv_if_eq (tgt := 54) hx hb d_X2_gather_42 (by decide) (fun c74 => ?_) (fun c74 => ?_)
            · exact absurd c74 (by decide)
            · refine lv_iload_n hx hb d_X2_gather_45 rfl (lv_at hl 3 rfl) ?_
              refine lv_bipush (v := 7) hx hb d_X2_gather_46 (by decide) ?_
              refine lv_icmp_ne (tgt := 54) hx hb d_X2_gather_48 (by decide) (fun c75 => ?_) (fun c75 => ?_)
              · have f76 := i_ne c75
                have r77 : Rg y2 0 6 := by obtain ⟨a1, a2⟩ := r_y2; obtain ⟨b1, b2⟩ := (⟨by decide, by decide⟩ : Rg 7 7 7); have f := i_ne c75; exact ⟨by omega, by omega⟩
                have hG := g_neg c75 hG
                refine lv_iload hx hb d_X2_gather_54 (lv_at hl 0 rfl) ?_
                refine lv_if_eq (tgt := 69) hx hb d_X2_gather_56 (by decide) (fun c78 => ?_) (fun c78 => ?_)
                · exact absurd c78 (by decide)
                · refine lv_aload_n hx hb d_X2_gather_59 rfl (lv_at hl 1 rfl) ?_
                  refine r_getr (r := 41) X hw FL_X2_9 (rfl : KD 40 = _) rfl d_X2_gather_60 ?_
                  refine lv_iload_n hx hb d_X2_gather_63 rfl (lv_at hl 3 rfl) ?_
                  obtain ⟨x79, ex79⟩ : ∃ y : Int32, y = y2 + 1 := ⟨_, rfl⟩
                  have hG := bnd_use ex79 hG
                  refine lv_iinc (v := x79) (lv' := [(2, .int x79), (4, .int 1), (0, .ref (ad 40)), (1, .ref (ad 30)), (3, .int y3)]) hx hb d_X2_gather_64 hl (k := 3) rfl (by rw [ex79]; rfl) (by decide) rfl (fun ls hl => ?_)
                  have r80 : Rg x79 1 7 := rg_add ex79 r77 (⟨by decide, by decide⟩ : Rg 1 1 1) (by decide) (by decide)
                  have s81 : x79.toInt = y2.toInt + (1 : Int32).toInt := by rw [ex79]; exact i_add (by obtain ⟨_, _⟩ := r77; obtain ⟨_, _⟩ := (⟨by decide, by decide⟩ : Rg 1 1 1); omega) (by obtain ⟨_, _⟩ := r77; obtain ⟨_, _⟩ := (⟨by decide, by decide⟩ : Rg 1 1 1); omega)
                  have s81l : (1 : Int32).toInt = 1 := rfl
                  refine lv_iconst (v := 0) hx hb d_X2_gather_67 (by decide) ?_
                  refine r_iast X hw hS (rfl : KD 41 = _) (Rg.vp (b := 6) r77 (by decide)) rfl d_X2_gather_68 (fun H locs hw hS => ?_)
                  obtain ⟨v82, ev82⟩ : ∃ z, z = up2 v1 41 y2.toNatClampNeg 0 := ⟨_, rfl⟩
                  rw [← ev82] at hw
                  have hG := bnd_use ev82 hG
                  have hI83 : Inv v82 := by rw [ev82]; exact Inv.put0 hI1 _ rfl
                  have hK84 : Kp kp_X2_gather_40_30 v v82 := by rw [ev82]; exact Kp.put hK1 _ (by unfold kp_X2_gather_40_30; omega)
                  have hm85 : v82 30 4 = x1 := by rw [ev82, up2_n _ _ (by omega)]; exact hm3
                  refine lv_iload_n hx hb d_X2_gather_69 rfl (lv_at hl 0 rfl) ?_
                  refine lv_if_le (tgt := 90) hx hb d_X2_gather_70 (by decide) (fun c86 => ?_) (fun c86 => ?_)
                  · exfalso
                    obtain ⟨a1, a2⟩ := r80; obtain ⟨b1, b2⟩ := (⟨by decide, by decide⟩ : Rg 0 0 0); have f := i_le c86; omega
                  · have f87 := i_nle c86
                    refine lv_aload_n hx hb d_X2_gather_73 rfl (lv_at hl 2 rfl) ?_
                    refine r_getr (r := 41) X hw FL_X2_9 (rfl : KD 40 = _) rfl d_X2_gather_74 ?_
                    refine lv_iload_n hx hb d_X2_gather_77 rfl (lv_at hl 0 rfl) ?_
                    refine lv_iconst (v := 1) hx hb d_X2_gather_78 (by decide) ?_
                    refine lv_isub hx hb d_X2_gather_79 ?_
                    refine lv_topi (fun x88 ex88 => ?_)
                    have hG := bnd_use ex88 hG
                    have r89 : Rg x88 0 6 := rg_sub ex88 r80 (⟨by decide, by decide⟩ : Rg 1 1 1) (by decide) (by decide)
                    have s90 : x88.toInt = x79.toInt - (1 : Int32).toInt := by rw [ex88]; exact i_sub (by obtain ⟨_, _⟩ := r80; obtain ⟨_, _⟩ := (⟨by decide, by decide⟩ : Rg 1 1 1); omega) (by obtain ⟨_, _⟩ := r80; obtain ⟨_, _⟩ := (⟨by decide, by decide⟩ : Rg 1 1 1); omega)
                    have s90l : (1 : Int32).toInt = 1 := rfl
                    refine lv_dup2_11 hx hb d_X2_gather_80 rfl rfl ?_
                    refine r_iald X hw (rfl : KD 41 = _) (Rg.vp (b := 6) r89 (by decide)) rfl d_X2_gather_81 ?_
                    refine lv_topi (fun x91 ex91 => ?_)
                    have hG := bnd_use ex91 hG
                    refine lv_aload_n hx hb d_X2_gather_82 rfl (lv_at hl 3 rfl) ?_
                    refine r_getr (r := 36) X hw FL_X2_41 (rfl : KD 30 = _) rfl d_X2_gather_83 ?_
                    refine lv_iload_n hx hb d_X2_gather_86 rfl (lv_at hl 4 rfl) ?_
                    refine r_iald X hw (rfl : KD 36 = _) (Rg.vp (b := 29) (rg_w r42 (by decide) (by decide)) (by decide)) rfl d_X2_gather_87 ?_
                    refine lv_topi (fun x92 ex92 => ?_)
                    have hG := bnd_use ex92 hG
                    refine lv_iadd hx hb d_X2_gather_88 ?_
                    refine lv_topi (fun x93 ex93 => ?_)
                    have hG := bnd_use ex93 hG
                    refine r_iast X hw hS (rfl : KD 41 = _) (Rg.vp (b := 6) r89 (by decide)) rfl d_X2_gather_89 (fun H locs hw hS => ?_)
                    obtain ⟨v94, ev94⟩ : ∃ z, z = up2 v82 41 x88.toNatClampNeg x93 := ⟨_, rfl⟩
                    rw [← ev94] at hw
                    have hG := bnd_use ev94 hG
                    have hI95 : Inv v94 := by rw [ev94]; exact Inv.put0 hI83 _ rfl
                    have hK96 : Kp kp_X2_gather_40_30 v v94 := by rw [ev94]; exact Kp.put hK84 _ (by unfold kp_X2_gather_40_30; omega)
                    have hm97 : v94 30 4 = x1 := by rw [ev94, up2_n _ _ (by omega)]; exact hm85
                    obtain ⟨x98, ex98⟩ : ∃ y : Int32, y = y3 + 1 := ⟨_, rfl⟩
                    have hG := bnd_use ex98 hG
                    refine lv_iinc (v := x98) (lv' := [(3, .int x98), (2, .int x79), (4, .int 1), (0, .ref (ad 40)), (1, .ref (ad 30))]) hx hb d_X2_gather_90 hl (k := 4) rfl (by rw [ex98]; rfl) (by decide) rfl (fun ls hl => ?_)
                    have r99 : Rg x98 2 30 := rg_add ex98 r42 (⟨by decide, by decide⟩ : Rg 1 1 1) (by decide) (by decide)
                    have s100 : x98.toInt = y3.toInt + (1 : Int32).toInt := by rw [ex98]; exact i_add (by obtain ⟨_, _⟩ := r42; obtain ⟨_, _⟩ := (⟨by decide, by decide⟩ : Rg 1 1 1); omega) (by obtain ⟨_, _⟩ := r42; obtain ⟨_, _⟩ := (⟨by decide, by decide⟩ : Rg 1 1 1); omega)
                    have s100l : (1 : Int32).toInt = 1 := rfl
                    refine lv_goto (tgt := 4) hx hb d_X2_gather_93 (by decide) ?_
                    exact ih0 x79 x98 v94 _ _ _ (by have q_ := r77; obtain ⟨_, _⟩ := q_; have q_ := r42; obtain ⟨_, _⟩ := q_; have q_ := r8; obtain ⟨_, _⟩ := q_; have q_ := r45; obtain ⟨_, _⟩ := q_; have q_ := r80; obtain ⟨_, _⟩ := q_; have q_ := r89; obtain ⟨_, _⟩ := q_; have q_ := r99; obtain ⟨_, _⟩ := q_; omega) (rg_w r80 (by decide) (by decide)) (rg_w r99 (by decide) (by decide)) hI95 hK96 hG hw hS (lv_sub hl [3, 4, 1, 0] rfl)
              · have f101 := i_eq c75
                have r102 : Rg y2 7 7 := by obtain ⟨a1, a2⟩ := r_y2; obtain ⟨b1, b2⟩ := (⟨by decide, by decide⟩ : Rg 7 7 7); have f := i_eq c75; exact ⟨by omega, by omega⟩
                have hG := g_pos c75 hG
                refine lv_goto (tgt := 96) hx hb d_X2_gather_51 (by decide) ?_
                refine lv_iload_n hx hb d_X2_gather_96 rfl (lv_at hl 3 rfl) ?_
                exact r_iret X hr hlocks hw hS ⟨⟨hI1, hK1, (rg_w r102 (by decide) (by decide))⟩, hG.trans eRR.symm⟩ d_X2_gather_97
  have ih0 := LL 100000
  have hK0 : Kp kp_X2_gather_40_30 v v := Kp.rf _ v
  have hG := eRR
  unfold f_X2_gather_40_30 at hG
  refine lv_iconst (v := 0) hx hb d_X2_gather_0 (by decide) ?_
  refine lv_istore_n (lv' := [(2, .int 0), (0, .ref (ad 40)), (1, .ref (ad 30))]) hx hb d_X2_gather_1 rfl hl (by decide) rfl (fun ls hl => ?_)
  refine lv_iconst (v := 0) hx hb d_X2_gather_2 (by decide) ?_
  refine lv_istore_n (lv' := [(3, .int 0), (2, .int 0), (0, .ref (ad 40)), (1, .ref (ad 30))]) hx hb d_X2_gather_3 rfl hl (by decide) rfl (fun ls hl => ?_)
  exact ih0 0 0 v _ _ _ (by have q_ : (0 : Int32).toInt = 0 := rfl; have q_ : (0 : Int32).toInt = 0 := rfl; omega) (rg_w (⟨by decide, by decide⟩ : Rg 0 0 0) (by decide) (by decide)) (rg_w (⟨by decide, by decide⟩ : Rg 0 0 0) (by decide) (by decide)) hI hK0 hG hw hS (lv_sub hl [2, 3, 1, 0] rfl)
theorem d_X2_hours_0 : decode c_X2_hours 0 = .ok (.aload_n 0, 1) := by decide +kernel
theorem d_X2_hours_1 : decode c_X2_hours 1 = .ok (.aload_n 1, 1) := by decide +kernel
theorem d_X2_hours_2 : decode c_X2_hours 2 = .ok (.invokevirtual 18, 3) := by decide +kernel
theorem d_X2_hours_5 : decode c_X2_hours 5 = .ok (.istore_n 3, 1) := by decide +kernel
theorem d_X2_hours_6 : decode c_X2_hours 6 = .ok (.iconst 0, 1) := by decide +kernel
theorem d_X2_hours_7 : decode c_X2_hours 7 = .ok (.istore 4, 2) := by decide +kernel
theorem d_X2_hours_9 : decode c_X2_hours 9 = .ok (.iconst 0, 1) := by decide +kernel
theorem d_X2_hours_10 : decode c_X2_hours 10 = .ok (.istore 5, 2) := by decide +kernel
theorem d_X2_hours_12 : decode c_X2_hours 12 = .ok (.iload 5, 2) := by decide +kernel
theorem d_X2_hours_14 : decode c_X2_hours 14 = .ok (.iload_n 3, 1) := by decide +kernel
theorem d_X2_hours_15 : decode c_X2_hours 15 = .ok (.if_icmp .ge 41, 3) := by decide +kernel
theorem d_X2_hours_18 : decode c_X2_hours 18 = .ok (.aload_n 0, 1) := by decide +kernel
theorem d_X2_hours_19 : decode c_X2_hours 19 = .ok (.getfield 9, 3) := by decide +kernel
theorem d_X2_hours_22 : decode c_X2_hours 22 = .ok (.iload 5, 2) := by decide +kernel
theorem d_X2_hours_24 : decode c_X2_hours 24 = .ok (.aload_n 0, 1) := by decide +kernel
theorem d_X2_hours_25 : decode c_X2_hours 25 = .ok (.getfield 9, 3) := by decide +kernel
theorem d_X2_hours_28 : decode c_X2_hours 28 = .ok (.iload 5, 2) := by decide +kernel
theorem d_X2_hours_30 : decode c_X2_hours 30 = .ok (.iaload, 1) := by decide +kernel
theorem d_X2_hours_31 : decode c_X2_hours 31 = .ok (.bipush 9, 2) := by decide +kernel
theorem d_X2_hours_33 : decode c_X2_hours 33 = .ok (.iadd, 1) := by decide +kernel
theorem d_X2_hours_34 : decode c_X2_hours 34 = .ok (.bipush 10, 2) := by decide +kernel
theorem d_X2_hours_36 : decode c_X2_hours 36 = .ok (.idiv, 1) := by decide +kernel
theorem d_X2_hours_37 : decode c_X2_hours 37 = .ok (.iastore, 1) := by decide +kernel
theorem d_X2_hours_38 : decode c_X2_hours 38 = .ok (.iload 4, 2) := by decide +kernel
theorem d_X2_hours_40 : decode c_X2_hours 40 = .ok (.aload_n 0, 1) := by decide +kernel
theorem d_X2_hours_41 : decode c_X2_hours 41 = .ok (.getfield 9, 3) := by decide +kernel
theorem d_X2_hours_44 : decode c_X2_hours 44 = .ok (.iload 5, 2) := by decide +kernel
theorem d_X2_hours_46 : decode c_X2_hours 46 = .ok (.iaload, 1) := by decide +kernel
theorem d_X2_hours_47 : decode c_X2_hours 47 = .ok (.iadd, 1) := by decide +kernel
theorem d_X2_hours_48 : decode c_X2_hours 48 = .ok (.istore 4, 2) := by decide +kernel
theorem d_X2_hours_50 : decode c_X2_hours 50 = .ok (.iinc 5 1, 3) := by decide +kernel
theorem d_X2_hours_53 : decode c_X2_hours 53 = .ok (.goto (-41), 3) := by decide +kernel
theorem d_X2_hours_56 : decode c_X2_hours 56 = .ok (.aload_n 0, 1) := by decide +kernel
theorem d_X2_hours_57 : decode c_X2_hours 57 = .ok (.getfield 15, 3) := by decide +kernel
theorem d_X2_hours_60 : decode c_X2_hours 60 = .ok (.iconst 0, 1) := by decide +kernel
theorem d_X2_hours_61 : decode c_X2_hours 61 = .ok (.invokestatic 22, 3) := by decide +kernel
theorem d_X2_hours_64 : decode c_X2_hours 64 = .ok (.aload_n 0, 1) := by decide +kernel
theorem d_X2_hours_65 : decode c_X2_hours 65 = .ok (.getfield 9, 3) := by decide +kernel
theorem d_X2_hours_68 : decode c_X2_hours 68 = .ok (.iload_n 3, 1) := by decide +kernel
theorem d_X2_hours_69 : decode c_X2_hours 69 = .ok (.aload_n 0, 1) := by decide +kernel
theorem d_X2_hours_70 : decode c_X2_hours 70 = .ok (.getfield 15, 3) := by decide +kernel
theorem d_X2_hours_73 : decode c_X2_hours 73 = .ok (.iload_n 2, 1) := by decide +kernel
theorem d_X2_hours_74 : decode c_X2_hours 74 = .ok (.iload 4, 2) := by decide +kernel
theorem d_X2_hours_76 : decode c_X2_hours 76 = .ok (.invokestatic 28, 3) := by decide +kernel
theorem d_X2_hours_79 : decode c_X2_hours 79 = .ok (.ireturn, 1) := by decide +kernel
def kp_X2_hours_40_30 (gg : Int32) (a j : Nat) : Prop := a ≠ 41 ∧ a ≠ 42
def b_X2_hours_40_30_12 (gg : Int32) (rc12 : Int32 → Int32 → Int32 → tV → Int32 × tV) (y3 : Int32) (y4 : Int32) (y5 : Int32) (v1 : tV) : Int32 × tV := (if y3 ≤ y5 then bnd (f_J7_fill_53178_42 v1 (0 : Int32)) fun v4 => bnd2 (f_X2_leastHours_7 v4 y3 gg y4) fun x10 v11 => (x10, v11) else bnd (v1 41 y5.toNatClampNeg) fun x19 => bnd (x19 + (9 : Int32)) fun x20 => bnd (x20 / (10 : Int32)) fun x21 => bnd (up2 v1 41 (y5.toNatClampNeg) x21) fun v22 => bnd (v22 41 y5.toNatClampNeg) fun x25 => bnd (y4 + x25) fun x26 => bnd (y5 + 1) fun x27 => rc12 y3 x26 x27 v22)
def g_X2_hours_40_30_12 (gg : Int32) : Nat → Int32 → Int32 → Int32 → tV → Int32 × tV
  | 0, _, _, _, v1 => (0, v1)
  | n + 1, y3, y4, y5, v1 => b_X2_hours_40_30_12 gg (g_X2_hours_40_30_12 gg n) y3 y4 y5 v1
def f_X2_hours_40_30 (v : tV) (gg : Int32) : Int32 × tV := bnd2 (f_X2_gather_40_30 v ) fun x31 v32 => g_X2_hours_40_30_12 gg 100000 x31 0 0 v32
set_option maxHeartbeats 4000000 in
set_option maxRecDepth 100000 in
theorem ct_X2_hours_40_30 (l : Launch) (D : va_G) (dA : Nat → ClassId) (ad : Nat → Nat) (v : tV) (hI : Inv v) (gg : Int32) (r_gg : Rg gg 1 3) : Met l m_X2_hours [.code m_X2_hours c_X2_hours 6 (some .int)] ({ frames := 10, cells := 0, slots := 0, locals := 279 } : Room) (tP D dA ad v [.ref (ad 40), .ref (ad 30), .int gg]) (tQi D dA ad (fun r v' => (Inv v' ∧ Kp (kp_X2_hours_40_30 gg) v v') ∧ (r, v') = f_X2_hours_40_30 v gg)) 0 0 (tA ad) := by
  refine tMet (by decide) (Nat.le_of_ble_eq_true rfl) ?_
  intro p e s m below meth c ls X hr hlocks hw hl
  have X : CX p s m ([.ref (ad 40), .ref (ad 30), .int gg] : List Value).toArray c c_X2_hours N_X2 6 D dA := X
  have hx := X.1
  have hb := X.2.1
  have hS : va_S (tA ad) s.heap s.heap [] := va_S.rf
  have hl : lv_has ls 6 [(0, .ref (ad 40)), (1, .ref (ad 30)), (2, .int gg)] := hl
  obtain ⟨RR, eRR⟩ : ∃ z, f_X2_hours_40_30 v gg = z := ⟨_, rfl⟩
  have LL : ∀ n : Nat, (∀ (y3 : Int32) (y4 : Int32) (y5 : Int32) (v1 : tV) (H : Heap) (locs : List Loc) (ls : Array Slot), (7 - y5.toInt).toNat < n → Rg y3 0 7 → Rg y5 0 7 → Inv v1 → Kp (kp_X2_hours_40_30 gg) v v1 → g_X2_hours_40_30_12 gg n y3 y4 y5 v1 = RR → tI D dA ad v1 H → va_S (tA ad) s.heap H locs → lv_has ls 6 [(0, .ref (ad 40)), (1, .ref (ad 30)), (2, .int gg), (3, .int y3), (4, .int y4), (5, .int y5)] → W p l e ({ frames := 10, cells := 0, slots := 0, locals := 279 } : Room) s m ([.ref (ad 40), .ref (ad 30), .int gg] : List Value).toArray below meth c H locs 0 0 (MQ below (tQi D dA ad (fun r v' => (Inv v' ∧ Kp (kp_X2_hours_40_30 gg) v v') ∧ (r, v') = f_X2_hours_40_30 v gg)) ([.ref (ad 40), .ref (ad 30), .int gg] : List Value).toArray s 0 0 (tA ad)) (F0 m 12 ls [])) := by
    intro n
    induction n with
    | zero => intros; omega
    | succ n ih =>
      have ih0 := ih
      intro y3 y4 y5 v1 H locs ls hmu r_y3 r_y5 hI1 hK1 hG hw hS hl
      have hG : b_X2_hours_40_30_12 gg (g_X2_hours_40_30_12 gg n) y3 y4 y5 v1 = RR := hG
      unfold b_X2_hours_40_30_12 at hG
      refine lv_iload hx hb d_X2_hours_12 (lv_at hl 5 rfl) ?_
      refine lv_iload_n hx hb d_X2_hours_14 rfl (lv_at hl 3 rfl) ?_
      refine lv_icmp_ge (tgt := 56) hx hb d_X2_hours_15 (by decide) (fun c1 => ?_) (fun c1 => ?_)
      · have f2 := i_le c1
        have hG := g_pos c1 hG
        refine lv_aload_n hx hb d_X2_hours_56 rfl (lv_at hl 0 rfl) ?_
        refine r_getr (r := 42) X hw FL_X2_15 (rfl : KD 40 = _) rfl d_X2_hours_57 ?_
        refine lv_iconst (v := 0) hx hb d_X2_hours_60 (by decide) ?_
        refine r_cv (r_runS2 (n := 2) (As := [.ref (ad 42), .int 0]) (rest := []) X hw (ct_J7_fill_53178_42 l D dA ad v1 hI1 0) gc_X2_22 (by decide +kernel) ⟨rfl, rfl, Nat.le_of_ble_eq_true rfl, Nat.le_of_ble_eq_true rfl⟩ rfl hl.1 rfl (Nat.le_of_ble_eq_true rfl) ⟨Nat.zero_le _, Nat.zero_le _⟩ d_X2_hours_61) hS (fun v4 H locs hp3 hw hS => ?_)
        obtain ⟨hp3, hE5⟩ := hp3
        obtain ⟨hI6, hK7⟩ := hp3
        have hK8 : Kp (kp_X2_hours_40_30 gg) v v4 := Kp.tr hK1 hK7 (by have z0 : (0 : Int32).toInt = 0 := rfl; intro a j; unfold kp_X2_hours_40_30 kp_J7_fill_53178_42; omega)
        have hG := bnd_use hE5 hG
        refine lv_aload_n hx hb d_X2_hours_64 rfl (lv_at hl 0 rfl) ?_
        refine r_getr (r := 41) X hw FL_X2_9 (rfl : KD 40 = _) rfl d_X2_hours_65 ?_
        refine lv_iload_n hx hb d_X2_hours_68 rfl (lv_at hl 3 rfl) ?_
        refine lv_aload_n hx hb d_X2_hours_69 rfl (lv_at hl 0 rfl) ?_
        refine r_getr (r := 42) X hw FL_X2_15 (rfl : KD 40 = _) rfl d_X2_hours_70 ?_
        refine lv_iload_n hx hb d_X2_hours_73 rfl (lv_at hl 2 rfl) ?_
        refine lv_iload hx hb d_X2_hours_74 (lv_at hl 4 rfl) ?_
        refine r_ci (r_runS (n := 5) (As := [.ref (ad 41), .int y3, .ref (ad 42), .int gg, .int y4]) (rest := []) X hw (ct_X2_leastHours_7 l D dA ad v4 hI6 y3 gg y4 r_y3 r_gg) gc_X2_28 (by decide +kernel) ⟨rfl, rfl, Nat.le_of_ble_eq_true rfl, Nat.le_of_ble_eq_true rfl⟩ rfl hl.1 rfl (Nat.le_of_ble_eq_true rfl) ⟨Nat.zero_le _, Nat.zero_le _⟩ d_X2_hours_76) hS (fun x10 v11 H locs hp9 hw hS => ?_)
        obtain ⟨hp9, hE12⟩ := hp9
        obtain ⟨hI13, hK14⟩ := hp9
        have hK15 : Kp (kp_X2_hours_40_30 gg) v v11 := Kp.tr hK8 hK14 (by have z0 : (0 : Int32).toInt = 0 := rfl; intro a j; unfold kp_X2_hours_40_30 kp_X2_leastHours_7; omega)
        have hG := bnd2_use hE12 hG
        exact r_iret X hr hlocks hw hS ⟨⟨hI13, hK15⟩, hG.trans eRR.symm⟩ d_X2_hours_79
      · have f16 := i_nle c1
        have r17 : Rg y5 0 6 := by obtain ⟨a1, a2⟩ := r_y5; obtain ⟨b1, b2⟩ := r_y3; have f := i_nle c1; exact ⟨by omega, by omega⟩
        have r18 : Rg y3 1 7 := by obtain ⟨a1, a2⟩ := r_y5; obtain ⟨b1, b2⟩ := r_y3; have f := i_nle c1; exact ⟨by omega, by omega⟩
        have hG := g_neg c1 hG
        refine lv_aload_n hx hb d_X2_hours_18 rfl (lv_at hl 0 rfl) ?_
        refine r_getr (r := 41) X hw FL_X2_9 (rfl : KD 40 = _) rfl d_X2_hours_19 ?_
        refine lv_iload hx hb d_X2_hours_22 (lv_at hl 5 rfl) ?_
        refine lv_aload_n hx hb d_X2_hours_24 rfl (lv_at hl 0 rfl) ?_
        refine r_getr (r := 41) X hw FL_X2_9 (rfl : KD 40 = _) rfl d_X2_hours_25 ?_
        refine lv_iload hx hb d_X2_hours_28 (lv_at hl 5 rfl) ?_
        refine r_iald X hw (rfl : KD 41 = _) (Rg.vp (b := 6) r17 (by decide)) rfl d_X2_hours_30 ?_
        refine lv_topi (fun x19 ex19 => ?_)
        have hG := bnd_use ex19 hG
        refine lv_bipush (v := 9) hx hb d_X2_hours_31 (by decide) ?_
        refine lv_iadd hx hb d_X2_hours_33 ?_
        refine lv_topi (fun x20 ex20 => ?_)
        have hG := bnd_use ex20 hG
        refine lv_bipush (v := 10) hx hb d_X2_hours_34 (by decide) ?_
        refine lv_idiv hx hb d_X2_hours_36 (by decide) ?_
        refine lv_topi (fun x21 ex21 => ?_)
        have hG := bnd_use ex21 hG
        refine r_iast X hw hS (rfl : KD 41 = _) (Rg.vp (b := 6) r17 (by decide)) rfl d_X2_hours_37 (fun H locs hw hS => ?_)
        obtain ⟨v22, ev22⟩ : ∃ z, z = up2 v1 41 y5.toNatClampNeg x21 := ⟨_, rfl⟩
        rw [← ev22] at hw
        have hG := bnd_use ev22 hG
        have hI23 : Inv v22 := by rw [ev22]; exact Inv.put0 hI1 _ rfl
        have hK24 : Kp (kp_X2_hours_40_30 gg) v v22 := by rw [ev22]; exact Kp.put hK1 _ (by unfold kp_X2_hours_40_30; omega)
        refine lv_iload hx hb d_X2_hours_38 (lv_at hl 4 rfl) ?_
        refine lv_aload_n hx hb d_X2_hours_40 rfl (lv_at hl 0 rfl) ?_
        refine r_getr (r := 41) X hw FL_X2_9 (rfl : KD 40 = _) rfl d_X2_hours_41 ?_
        refine lv_iload hx hb d_X2_hours_44 (lv_at hl 5 rfl) ?_
        refine r_iald X hw (rfl : KD 41 = _) (Rg.vp (b := 6) r17 (by decide)) rfl d_X2_hours_46 ?_
        refine lv_topi (fun x25 ex25 => ?_)
        have hG := bnd_use ex25 hG
        refine lv_iadd hx hb d_X2_hours_47 ?_
        refine lv_topi (fun x26 ex26 => ?_)
        have hG := bnd_use ex26 hG
        refine lv_istore (lv' := [(4, .int x26), (0, .ref (ad 40)), (1, .ref (ad 30)), (2, .int gg), (3, .int y3), (5, .int y5)]) hx hb d_X2_hours_48 hl (by decide) rfl (fun ls hl => ?_)
        obtain ⟨x27, ex27⟩ : ∃ y : Int32, y = y5 + 1 := ⟨_, rfl⟩
        have hG := bnd_use ex27 hG
        refine lv_iinc (v := x27) (lv' := [(5, .int x27), (4, .int x26), (0, .ref (ad 40)), (1, .ref (ad 30)), (2, .int gg), (3, .int y3)]) hx hb d_X2_hours_50 hl (k := 5) rfl (by rw [ex27]; rfl) (by decide) rfl (fun ls hl => ?_)
        have r28 : Rg x27 1 7 := rg_add ex27 r17 (⟨by decide, by decide⟩ : Rg 1 1 1) (by decide) (by decide)
        have s29 : x27.toInt = y5.toInt + (1 : Int32).toInt := by rw [ex27]; exact i_add (by obtain ⟨_, _⟩ := r17; obtain ⟨_, _⟩ := (⟨by decide, by decide⟩ : Rg 1 1 1); omega) (by obtain ⟨_, _⟩ := r17; obtain ⟨_, _⟩ := (⟨by decide, by decide⟩ : Rg 1 1 1); omega)
        have s29l : (1 : Int32).toInt = 1 := rfl
        refine lv_goto (tgt := 12) hx hb d_X2_hours_53 (by decide) ?_
        exact ih0 y3 x26 x27 v22 _ _ _ (by have q_ := r_gg; obtain ⟨_, _⟩ := q_; have q_ := r18; obtain ⟨_, _⟩ := q_; have q_ := r17; obtain ⟨_, _⟩ := q_; have q_ := r28; obtain ⟨_, _⟩ := q_; have q_ := rg_any x26; obtain ⟨_, _⟩ := q_; omega) (rg_w r18 (by decide) (by decide)) (rg_w r28 (by decide) (by decide)) hI23 hK24 hG hw hS (lv_sub hl [2, 3, 4, 5, 1, 0] rfl)
  have ih0 := LL 100000
  have hK0 : Kp (kp_X2_hours_40_30 gg) v v := Kp.rf _ v
  have hG := eRR
  unfold f_X2_hours_40_30 at hG
  refine lv_aload_n hx hb d_X2_hours_0 rfl (lv_at hl 0 rfl) ?_
  refine lv_aload_n hx hb d_X2_hours_1 rfl (lv_at hl 1 rfl) ?_
  refine r_ci (r_runV (n := 1) (As := [.ref (ad 30)]) (rest := []) X hw (ct_X2_gather_40_30 l D dA ad v hI) gc_X2_18 (rfl : KD 40 = _) (by decide) rfl (by decide +kernel) ⟨rfl, rfl, Nat.le_of_ble_eq_true rfl, Nat.le_of_ble_eq_true rfl⟩ rfl hl.1 rfl (Nat.le_of_ble_eq_true rfl) ⟨Nat.zero_le _, Nat.zero_le _⟩ d_X2_hours_2) hS (fun x31 v32 H locs hp30 hw hS => ?_)
  obtain ⟨hp30, hE33⟩ := hp30
  obtain ⟨hI34, hK35, hp30⟩ := hp30
  have hK36 : Kp (kp_X2_hours_40_30 gg) v v32 := Kp.tr hK0 hK35 (by have z0 : (0 : Int32).toInt = 0 := rfl; intro a j; unfold kp_X2_hours_40_30 kp_X2_gather_40_30; omega)
  have hG := bnd2_use hE33 hG
  refine lv_istore_n (lv' := [(3, .int x31), (0, .ref (ad 40)), (1, .ref (ad 30)), (2, .int gg)]) hx hb d_X2_hours_5 rfl hl (by decide) rfl (fun ls hl => ?_)
  refine lv_iconst (v := 0) hx hb d_X2_hours_6 (by decide) ?_
  refine lv_istore (lv' := [(4, .int 0), (3, .int x31), (0, .ref (ad 40)), (1, .ref (ad 30)), (2, .int gg)]) hx hb d_X2_hours_7 hl (by decide) rfl (fun ls hl => ?_)
  refine lv_iconst (v := 0) hx hb d_X2_hours_9 (by decide) ?_
  refine lv_istore (lv' := [(5, .int 0), (4, .int 0), (3, .int x31), (0, .ref (ad 40)), (1, .ref (ad 30)), (2, .int gg)]) hx hb d_X2_hours_10 hl (by decide) rfl (fun ls hl => ?_)
  exact ih0 x31 0 0 v32 _ _ _ (by have q_ := r_gg; obtain ⟨_, _⟩ := q_; have q_ := hp30; obtain ⟨_, _⟩ := q_; have q_ : (0 : Int32).toInt = 0 := rfl; have q_ : (0 : Int32).toInt = 0 := rfl; omega) hp30 (rg_w (⟨by decide, by decide⟩ : Rg 0 0 0) (by decide) (by decide)) hI34 hK36 hG hw hS (lv_sub hl [3, 4, 5, 2, 1, 0] rfl)
theorem d_X10_clear_0 : decode c_X10_clear 0 = .ok (.iload_n 1, 1) := by decide +kernel
theorem d_X10_clear_1 : decode c_X10_clear 1 = .ok (.iconst 1, 1) := by decide +kernel
theorem d_X10_clear_2 : decode c_X10_clear 2 = .ok (.iconst 3, 1) := by decide +kernel
theorem d_X10_clear_3 : decode c_X10_clear 3 = .ok (.invokestatic 74, 3) := by decide +kernel
theorem d_X10_clear_6 : decode c_X10_clear 6 = .ok (.ifCond .ne 6, 3) := by decide +kernel
theorem d_X10_clear_9 : decode c_X10_clear 9 = .ok (.bipush (-2), 2) := by decide +kernel
theorem d_X10_clear_11 : decode c_X10_clear 11 = .ok (.ireturn, 1) := by decide +kernel
theorem d_X10_clear_12 : decode c_X10_clear 12 = .ok (.aload_n 0, 1) := by decide +kernel
theorem d_X10_clear_13 : decode c_X10_clear 13 = .ok (.getfield 45, 3) := by decide +kernel
theorem d_X10_clear_16 : decode c_X10_clear 16 = .ok (.aload_n 0, 1) := by decide +kernel
theorem d_X10_clear_17 : decode c_X10_clear 17 = .ok (.getfield 35, 3) := by decide +kernel
theorem d_X10_clear_20 : decode c_X10_clear 20 = .ok (.iload_n 1, 1) := by decide +kernel
theorem d_X10_clear_21 : decode c_X10_clear 21 = .ok (.invokevirtual 234, 3) := by decide +kernel
theorem d_X10_clear_24 : decode c_X10_clear 24 = .ok (.ireturn, 1) := by decide +kernel
def kp_X10_clear_0 (gg : Int32) (a j : Nat) : Prop := a ≠ 41 ∧ a ≠ 42
def f_X10_clear_0 (v : tV) (gg : Int32) : Int32 × tV := (if (1 : Int32).toInt ≤ gg.toInt ∧ gg.toInt ≤ (3 : Int32).toInt then bnd2 (f_X2_hours_40_30 v gg) fun x8 v9 => (x8, v9) else ((-2 : Int32), v))
set_option maxHeartbeats 4000000 in
set_option maxRecDepth 100000 in
theorem ct_X10_clear_0 (l : Launch) (D : va_G) (dA : Nat → ClassId) (ad : Nat → Nat) (v : tV) (hI : Inv v) (gg : Int32) : Met l m_X10_clear [.code m_X10_clear c_X10_clear 2 (some .int)] ({ frames := 11, cells := 0, slots := 0, locals := 304 } : Room) (tP D dA ad v [.ref (ad 0), .int gg]) (tQi D dA ad (fun r v' => (Inv v' ∧ Kp (kp_X10_clear_0 gg) v v') ∧ (r, v') = f_X10_clear_0 v gg)) 0 0 (tA ad) := by
  refine tMet (by decide) (Nat.le_of_ble_eq_true rfl) ?_
  intro p e s m below meth c ls X hr hlocks hw hl
  have X : CX p s m ([.ref (ad 0), .int gg] : List Value).toArray c c_X10_clear N_X10 2 D dA := X
  have hx := X.1
  have hb := X.2.1
  have hS : va_S (tA ad) s.heap s.heap [] := va_S.rf
  have hl : lv_has ls 2 [(0, .ref (ad 0)), (1, .int gg)] := hl
  obtain ⟨RR, eRR⟩ : ∃ z, f_X10_clear_0 v gg = z := ⟨_, rfl⟩
  have hK0 : Kp (kp_X10_clear_0 gg) v v := Kp.rf _ v
  have hG := eRR
  unfold f_X10_clear_0 at hG
  refine lv_iload_n hx hb d_X10_clear_0 rfl (lv_at hl 1 rfl) ?_
  refine lv_iconst (v := 1) hx hb d_X10_clear_1 (by decide) ?_
  refine lv_iconst (v := 3) hx hb d_X10_clear_2 (by decide) ?_
  refine r_ci (r_runS (n := 3) (As := [.int gg, .int 1, .int 3]) (rest := []) X hw (ct_X10_within l D dA ad v hI gg 1 3) gc_X10_74 (by decide +kernel) ⟨rfl, rfl, Nat.le_of_ble_eq_true rfl, Nat.le_of_ble_eq_true rfl⟩ rfl hl.1 rfl (Nat.le_of_ble_eq_true rfl) ⟨Nat.zero_le _, Nat.zero_le _⟩ d_X10_clear_3) hS (fun x2 v3 H locs hp1 hw hS => ?_)
  obtain ⟨ev3, hp1⟩ := hp1
  rw [ev3] at hw
  rcases hp1 with ⟨rfl, w4a, w4b⟩ | ⟨rfl, w4n⟩
  · skip
    have hG := g_pos ⟨w4a, w4b⟩ hG
    have r5 : Rg gg 1 3 := by obtain ⟨_, _⟩ := (rg_any gg); have : (1 : Int32).toInt = 1 := rfl; have : (3 : Int32).toInt = 3 := rfl; exact ⟨by omega, by omega⟩
    refine lv_if_ne (tgt := 12) hx hb d_X10_clear_6 (by decide) (fun c6 => ?_) (fun c6 => ?_)
    · refine lv_aload_n hx hb d_X10_clear_12 rfl (lv_at hl 0 rfl) ?_
      refine r_getr (r := 40) X hw FL_X10_45 (rfl : KD 0 = _) rfl d_X10_clear_13 ?_
      refine lv_aload_n hx hb d_X10_clear_16 rfl (lv_at hl 0 rfl) ?_
      refine r_getr (r := 30) X hw FL_X10_35 (rfl : KD 0 = _) rfl d_X10_clear_17 ?_
      refine lv_iload_n hx hb d_X10_clear_20 rfl (lv_at hl 1 rfl) ?_
      refine r_ci (r_runV (n := 2) (As := [.ref (ad 30), .int gg]) (rest := []) X hw (ct_X2_hours_40_30 l D dA ad v hI gg r5) gc_X10_234 (rfl : KD 40 = _) (by decide) rfl (by decide +kernel) ⟨rfl, rfl, Nat.le_of_ble_eq_true rfl, Nat.le_of_ble_eq_true rfl⟩ rfl hl.1 rfl (Nat.le_of_ble_eq_true rfl) ⟨Nat.zero_le _, Nat.zero_le _⟩ d_X10_clear_21) hS (fun x8 v9 H locs hp7 hw hS => ?_)
      obtain ⟨hp7, hE10⟩ := hp7
      obtain ⟨hI11, hK12⟩ := hp7
      have hK13 : Kp (kp_X10_clear_0 gg) v v9 := Kp.tr hK0 hK12 (by have z0 : (0 : Int32).toInt = 0 := rfl; intro a j; unfold kp_X10_clear_0 kp_X2_hours_40_30; omega)
      have hG := bnd2_use hE10 hG
      exact r_iret X hr hlocks hw hS ⟨⟨hI11, hK13⟩, hG.trans eRR.symm⟩ d_X10_clear_24
    · exact absurd c6 (by decide)
  · skip
    have hG := g_neg w4n hG
    refine lv_if_ne (tgt := 12) hx hb d_X10_clear_6 (by decide) (fun c14 => ?_) (fun c14 => ?_)
    · exact absurd c14 (by decide)
    · refine lv_bipush (v := -2) hx hb d_X10_clear_9 (by decide) ?_
      exact r_iret X hr hlocks hw hS ⟨⟨hI, hK0⟩, hG.trans eRR.symm⟩ d_X10_clear_11
