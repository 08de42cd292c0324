def lw_P (b : Addr) (xs : List Int32) (args : Array Value) (s : State) : Prop := args = #[.ref b] ∧ s.IntsAt b xs ∧ xs.length ≤ 3584 ∧ (Jvm.Cond.and given_1 narrow_1).before args s = true
def lw_Q (_ : Array Value) (s : State) (o : Outcome) (t : State) : Prop := o = .returned (some (.int 1)) ∧ Framed s o t [] 600000 7302250
def lw_Z (below : List Frame) (a : Array Value) (s : State) : State → Prop := fun t => ∃ o, t.status = .running ∧ Ended t below o ∧ lw_Q a s o t
/-- the law's own end, with 1 on the stack, nothing written that was there before, its room as the claim has it -/
theorem lw_ret {p : Program} {l : Launch} {e : Env} {s : State} {m : MethodId} {below : List Frame} {meth : Method} {c : Code} {b : Nat} (hx : p.tables.exec = Jvm.exec) (hb : c.code = code) (hr : meth.sig.returnType = ret) (hlocks : meth.locks = false) {pc : Nat} {H : Heap} {ls : Array Slot} (hdg : decode code pc = .ok (.ireturn, 1)) : W p l e room_1 s m #[Value.ref b] below meth c H [] 600000 7302250 (lw_Z below #[Value.ref b] s) (F0 m pc ls [.int 1]) := by
  intro T hT X
  obtain ⟨fs, hret, hrun, hended, hW, hframe⟩ := X.leave (v := some (.int 1)) (hlocks := hlocks) (fun h => by rw [hr] at h; cases h)
  have hmeth' : T.vm.method? m = some meth := X.method'
  refine ⟨T.setFrames fs, ?_, .returned (some (.int 1)), hrun, hended, rfl, ⟨_, rfl⟩, hW, hframe⟩
  jvm_step X.here [X.here.top, hx, hb, hdg, hmeth', hr, ret, narrow_b1]
  (try refine ⟨rfl, ?_⟩); (try refine ⟨rfl, ?_⟩)
  first | (intro acts; rw [hret _ acts rfl rfl rfl]) | rw [hret _ _ rfl rfl rfl]
  exact Steps.refl _
/-- what holds at the law's entry: the machine, the code, the tables' words (any of lw_tbl by 'hts w (by decide +kernel)'), the script of L ints xs at the cell b, what the Statement gives of the start (any of its parts by flat_of_before) -/
def lw_At (p : Program) (s : State) (m : MethodId) (meth : Method) (c : Code) (b L : Nat) (xs : Nat → Int32) : Prop :=
  p.tables.exec = Jvm.exec ∧ c.code = code ∧ meth.sig.returnType = ret ∧ c.maxLocals = 4 ∧ s.vm.findClass R_law = some m.cls ∧ (∀ w ∈ lw_tbl, w.before #[Value.ref b] s = true) ∧ va_X b L xs s s.heap ∧ b < s.heap.size ∧ meth.locks = false ∧ (Jvm.Cond.and given_1 narrow_1).before #[Value.ref b] s = true
set_option maxHeartbeats 4000000 in
set_option maxRecDepth 100000 in
theorem law_loop {p : Program} {l : Launch} {e : Env} {s : State} {m : MethodId} {below : List Frame} {meth : Method} {c : Code} {b L : Nat} {xs : Nat → Int32} {D : va_G} {dA : Nat → ClassId} {ad sa : Nat → Nat} (Y : LX p s m c b L xs D dA ad sa) (hr : meth.sig.returnType = ret) (hlocks : meth.locks = false) (had : ∀ k, s.heap.size ≤ ad k) :
    ∀ (n : Nat) (v : tV) (H : Heap) (locs : List Loc) (ls : Array Slot) (x3 : Int32), (3584 - x3.toInt).toNat < n → Inv v → RelS v → tI D dA ad v H → va_S (tA ad) s.heap H locs → lv_has ls 4 [(0, .ref b), (1, .ref (ad 0)), (2, .ref (ad 400)), (3, .int x3)] → 0 ≤ x3.toInt → x3.toInt ≤ 3584 → W p l e room_1 s m #[Value.ref b] below meth c H locs 600000 7302250 (lw_Z below #[Value.ref b] s) (F0 m 18 ls []) := by
  intro n
  induction n with
  | zero => intros; omega
  | succ n ih =>
    intro v H locs ls x3 hmu hI hR hw hS hl h0 h84
    obtain ⟨X, hsx, hbl, hbA, hSC, hL⟩ := id Y
    have hx := X.1
    have hb := X.2.1
    have eL : (Int32.ofNat L).toInt = (L : Int) := nI_toInt (n := L) (by omega)
    have e7 : (7 : Int32).toInt = 7 := rfl
    refine lv_iload_n hx hb d_L_law_18 rfl (lv_at hl 3 rfl) ?_
    refine lv_aload_n hx hb d_L_law_19 rfl (lv_at hl 0 rfl) ?_
    refine va_slen hx hb hsx hbl hbA hS d_L_law_20 ?_
    refine lv_bipush (v := 7) hx hb d_L_law_21 (by decide) ?_
    refine lv_isub hx hb d_L_law_23 ?_
    refine lv_topi (fun y ey => ?_)
    have hy : y.toInt = (L : Int) - 7 := by rw [ey, i_sub (by omega) (by omega)]; omega
    refine lv_icmp_gt (tgt := 1071) hx hb d_L_law_24 (by decide) (fun c1 => ?_) (fun c1 => ?_)
    · refine lv_iconst (v := 1) hx hb d_L_law_1071 (by decide) ?_
      refine va_forget (fun q hq => ?_) ?_
      · obtain ⟨k, kn, -, e1⟩ := hS.2.2 q hq
        rw [e1]
        exact had k
      · exact lw_ret hx hb hr hlocks d_L_law_1072
    · have h7 : x3.toInt + 7 ≤ (L : Int) := by have := i_nlt c1; omega
      have K : ∀ (v' : tV) (H : Heap) (locs : List Loc), Inv v' → RelS v' → tI D dA ad v' H → va_S (tA ad) s.heap H locs → W p l e room_1 s m #[Value.ref b] below meth c H locs 600000 7302250 (lw_Z below #[Value.ref b] s) (F0 m 1065 ls []) := by
        intro v' H locs hI hR hw hS
        obtain ⟨x, ex⟩ : ∃ z : Int32, z = x3 + 7 := ⟨_, rfl⟩
        have hxx : x.toInt = x3.toInt + 7 := by rw [ex, i_add (by omega) (by omega)]; omega
        refine lv_iinc (v := x) (lv' := [(3, .int x), (0, .ref b), (1, .ref (ad 0)), (2, .ref (ad 400))]) hx hb d_L_law_1065 hl (k := 3) rfl (by rw [ex]; rfl) (by decide) rfl (fun ls hl => ?_)
        refine lv_goto (tgt := 18) hx hb d_L_law_1068 (by decide) ?_
        exact ih v' H locs ls x (by omega) hI hR hw hS (lv_sub hl [1, 2, 3, 0] rfl) (by omega) (by omega)
      refine lv_aload_n hx hb d_L_law_27 rfl (lv_at hl 0 rfl) ?_
      refine lv_iload_n hx hb d_L_law_28 rfl (lv_at hl 3 rfl) ?_
      refine va_sld hx hb hsx hbl hbA hS (vp_in_iff.mpr ⟨by omega, by omega⟩) d_L_law_29 ?_
      refine lv_topi (fun z ez => ?_)
      refine lv_bipush (v := 31) hx hb d_L_law_30 (by decide) ?_
      refine lv_iand hx hb d_L_law_32 ?_
      refine lv_topi (fun a ea => ?_)
      by_cases c2 : a.toInt < 0 ∨ 24 < a.toInt
      · refine lv_tableOut (tgt := 1065) hx hb d_L_law_33 c2 (by decide) ?_
        exact K v H locs hI hR hw hS
      · have c3 : a.toInt = 0 ∨ a.toInt = 1 ∨ a.toInt = 2 ∨ a.toInt = 3 ∨ a.toInt = 4 ∨ a.toInt = 5 ∨ a.toInt = 6 ∨ a.toInt = 7 ∨ a.toInt = 8 ∨ a.toInt = 9 ∨ a.toInt = 10 ∨ a.toInt = 11 ∨ a.toInt = 12 ∨ a.toInt = 13 ∨ a.toInt = 14 ∨ a.toInt = 15 ∨ a.toInt = 16 ∨ a.toInt = 17 ∨ a.toInt = 18 ∨ a.toInt = 19 ∨ a.toInt = 20 ∨ a.toInt = 21 ∨ a.toInt = 22 ∨ a.toInt = 23 ∨ a.toInt = 24 := by omega
        rcases c3 with c4 | c4 | c4 | c4 | c4 | c4 | c4 | c4 | c4 | c4 | c4 | c4 | c4 | c4 | c4 | c4 | c4 | c4 | c4 | c4 | c4 | c4 | c4 | c4 | c4
        · exact lv_tableIn (off := 115) (tgt := 148) hx hb d_L_law_33 (by omega) (by omega) (by rw [c4]; rfl) (by decide) (lc_0 Y hI hR hw hS hl h0 h7 K)
        · exact lv_tableIn (off := 190) (tgt := 223) hx hb d_L_law_33 (by omega) (by omega) (by rw [c4]; rfl) (by decide) (lc_1 Y hI hR hw hS hl h0 h7 K)
        · exact lv_tableIn (off := 223) (tgt := 256) hx hb d_L_law_33 (by omega) (by omega) (by rw [c4]; rfl) (by decide) (lc_2 Y hI hR hw hS hl h0 h7 K)
        · exact lv_tableIn (off := 256) (tgt := 289) hx hb d_L_law_33 (by omega) (by omega) (by rw [c4]; rfl) (by decide) (lc_3 Y hI hR hw hS hl h0 h7 K)
        · exact lv_tableIn (off := 279) (tgt := 312) hx hb d_L_law_33 (by omega) (by omega) (by rw [c4]; rfl) (by decide) (lc_4 Y hI hR hw hS hl h0 h7 K)
        · exact lv_tableIn (off := 332) (tgt := 365) hx hb d_L_law_33 (by omega) (by omega) (by rw [c4]; rfl) (by decide) (lc_5 Y hI hR hw hS hl h0 h7 K)
        · exact lv_tableIn (off := 375) (tgt := 408) hx hb d_L_law_33 (by omega) (by omega) (by rw [c4]; rfl) (by decide) (lc_6 Y hI hR hw hS hl h0 h7 K)
        · exact lv_tableIn (off := 418) (tgt := 451) hx hb d_L_law_33 (by omega) (by omega) (by rw [c4]; rfl) (by decide) (lc_7 Y hI hR hw hS hl h0 h7 K)
        · exact lv_tableIn (off := 451) (tgt := 484) hx hb d_L_law_33 (by omega) (by omega) (by rw [c4]; rfl) (by decide) (lc_8 Y hI hR hw hS hl h0 h7 K)
        · exact lv_tableIn (off := 514) (tgt := 547) hx hb d_L_law_33 (by omega) (by omega) (by rw [c4]; rfl) (by decide) (lc_9 Y hI hR hw hS hl h0 h7 K)
        · exact lv_tableIn (off := 537) (tgt := 570) hx hb d_L_law_33 (by omega) (by omega) (by rw [c4]; rfl) (by decide) (lc_10 Y hI hR hw hS hl h0 h7 K)
        · exact lv_tableIn (off := 560) (tgt := 593) hx hb d_L_law_33 (by omega) (by omega) (by rw [c4]; rfl) (by decide) (lc_11 Y hI hR hw hS hl h0 h7 K)
        · exact lv_tableIn (off := 593) (tgt := 626) hx hb d_L_law_33 (by omega) (by omega) (by rw [c4]; rfl) (by decide) (lc_12 Y hI hR hw hS hl h0 h7 K)
        · exact lv_tableIn (off := 616) (tgt := 649) hx hb d_L_law_33 (by omega) (by omega) (by rw [c4]; rfl) (by decide) (lc_13 Y hI hR hw hS hl h0 h7 K)
        · exact lv_tableIn (off := 659) (tgt := 692) hx hb d_L_law_33 (by omega) (by omega) (by rw [c4]; rfl) (by decide) (lc_14 Y hI hR hw hS hl h0 h7 K)
        · exact lv_tableIn (off := 692) (tgt := 725) hx hb d_L_law_33 (by omega) (by omega) (by rw [c4]; rfl) (by decide) (lc_15 Y hI hR hw hS hl h0 h7 K)
        · exact lv_tableIn (off := 725) (tgt := 758) hx hb d_L_law_33 (by omega) (by omega) (by rw [c4]; rfl) (by decide) (lc_16 Y hI hR hw hS hl h0 h7 K)
        · exact lv_tableIn (off := 748) (tgt := 781) hx hb d_L_law_33 (by omega) (by omega) (by rw [c4]; rfl) (by decide) (lc_17 Y hI hR hw hS hl h0 h7 K)
        · exact lv_tableIn (off := 771) (tgt := 804) hx hb d_L_law_33 (by omega) (by omega) (by rw [c4]; rfl) (by decide) (lc_18 Y hI hR hw hS hl h0 h7 K)
        · exact lv_tableIn (off := 804) (tgt := 837) hx hb d_L_law_33 (by omega) (by omega) (by rw [c4]; rfl) (by decide) (lc_19 Y hI hR hw hS hl h0 h7 K)
        · exact lv_tableIn (off := 857) (tgt := 890) hx hb d_L_law_33 (by omega) (by omega) (by rw [c4]; rfl) (by decide) (lc_20 Y hI hR hw hS hl h0 h7 K)
        · exact lv_tableIn (off := 890) (tgt := 923) hx hb d_L_law_33 (by omega) (by omega) (by rw [c4]; rfl) (by decide) (lc_21 Y hI hR hw hS hl h0 h7 K)
        · exact lv_tableIn (off := 923) (tgt := 956) hx hb d_L_law_33 (by omega) (by omega) (by rw [c4]; rfl) (by decide) (lc_22 Y hI hR hw hS hl h0 h7 K)
        · exact lv_tableIn (off := 986) (tgt := 1019) hx hb d_L_law_33 (by omega) (by omega) (by rw [c4]; rfl) (by decide) (lc_23 Y hI hR hw hS hl h0 h7 K)
        · exact lv_tableIn (off := 1009) (tgt := 1042) hx hb d_L_law_33 (by omega) (by omega) (by rw [c4]; rfl) (by decide) (lc_24 Y hI hR hw hS hl h0 h7 K)
theorem whole_start {p : Program} {e : Env} {s : State} {m : MethodId} {below : List Frame} {meth : Method} {c : Code} (l : Launch) {b L : Nat} {xs : Nat → Int32} (hL : L ≤ 3584) (C0 : lw_At p s m meth c b L xs) : W p l e room_1 s m #[Value.ref b] below meth c s.heap [] 0 0 (lw_Z below #[Value.ref b] s) (entryFrame m ([Value.ref b] : List Value).toArray 4) := by
  obtain ⟨hx, hb, hr, hml, hown, hts, hX, hbl, hlocks, hgv⟩ := id C0
  have hTB : TB s := tb_of hts
  have hB : ∀ w ∈ BIG, w.before #[Value.ref b] s = true := tb_args hTB
  obtain ⟨D, dA, hK⟩ := law_K hB hts
  have hO : AO s := ⟨va_AO.of (hts _ (List.mem_of_getElem? (i := 71) (by decide +kernel))), va_AO.of (hts _ (List.mem_of_getElem? (i := 73) (by decide +kernel))), va_AO.of (hts _ (List.mem_of_getElem? (i := 75) (by decide +kernel))), va_AO.of (hts _ (List.mem_of_getElem? (i := 294) (by decide +kernel)))⟩
  obtain ⟨sz, esz⟩ : ∃ z, z = s.heap.size := ⟨_, rfl⟩
  have hge : ∀ q, tA (AD sz) q → sz ≤ q := fun q h => by
    obtain ⟨k, kn, -, e1⟩ := h
    rw [e1]; unfold AD; omega
  have hbA : ¬ tA (AD sz) b := fun h => by have := hge b h; omega
  obtain ⟨sa, hSC⟩ := law_SC (A := tA (AD sz)) hts hgv (fun a ha h => by have := hge a h; omega)
  have X : CX p s m #[Value.ref b] c code R_law 4 D dA := ⟨hx, hb, hml, hown, hB, hK, hTB⟩
  have Y : LX p s m c b L xs D dA (AD sz) sa := ⟨X, hX, hbl, hbA, hSC, hL⟩
  have hw : tw_W CLS D dA (KDn 0) (AD sz) (fun _ _ => .null) s.heap := ⟨fun k kn h => absurd (KDn_of h).1 (Nat.not_lt_zero _), fun j k x y h => absurd (KDn_of h).1 (Nat.not_lt_zero _)⟩
  have hz : s.heap.size = sz + 0 := by omega
  have hS : va_S (CA sz) s.heap s.heap [] := va_S.rf
  have hl := lv_entry ([.ref b]) (n := 4) (Nat.le_of_ble_eq_true rfl)
  rw [lg_entry_eq]
  generalize (lg_sl ([.ref b]) ++ List.replicate (4 - (lg_sl ([.ref b])).length) Slot.unset).toArray = ls at hl ⊢
  have hl : lv_has ls 4 [(0, .ref b)] := hl
  refine cw_new (k := 0) (n := 0) X hw hz hS (ci := 10) (N := 13) rfl (by decide) uw_X10 y_X10 ty_X10 kl_L_7 in_X10 ii_X10 (rfl : KD 0 = _) rfl (Nat.le_of_ble_eq_true rfl) (Nat.le_of_ble_eq_true rfl) d_L_law_0 (fun H hw hz hS => ?_)
  refine lv_dup hx hb d_L_law_3 rfl ?_
  refine c_cv (c_runI (n := 1) (k := 0) (rest := [.ref (AD sz 0)]) X hw hz hO (ci_desk l D dA sz _ (fun j _ => by rw [t_row_s])) gi_L_9 rfl (by decide +kernel) ⟨rfl, rfl, Nat.le_of_ble_eq_true rfl, Nat.le_of_ble_eq_true rfl⟩ hl.1 rfl (Nat.le_of_ble_eq_true rfl) ⟨Nat.le_of_ble_eq_true rfl, Nat.le_of_ble_eq_true rfl⟩ d_L_law_4) hS (fun u1 H locs hp hw hz hS => ?_)
  obtain ⟨-, hF1⟩ := hp
  refine lv_astore_n (lv' := [(1, .ref (AD sz 0)), (0, .ref b)]) hx hb d_L_law_7 rfl hl (by decide) rfl (fun ls hl => ?_)
  refine cw_new (k := 400) (n := 198) X hw hz hS (ci := 11) (N := 67) rfl (by decide) uw_X11 y_X11 ty_X11 kl_L_10 in_X11 ii_X11 (rfl : KD 400 = _) rfl (Nat.le_of_ble_eq_true rfl) (Nat.le_of_ble_eq_true rfl) d_L_law_8 (fun H hw hz hS => ?_)
  refine lv_dup hx hb d_L_law_11 rfl ?_
  refine c_cv (c_runI (n := 199) (k := 400) (rest := [.ref (AD sz 400)]) X hw hz hO (ci_model l D dA sz _ (fun j _ => by rw [t_row_s])) gi_L_12 rfl (by decide +kernel) ⟨rfl, rfl, Nat.le_of_ble_eq_true rfl, Nat.le_of_ble_eq_true rfl⟩ hl.1 rfl (Nat.le_of_ble_eq_true rfl) ⟨Nat.le_of_ble_eq_true rfl, Nat.le_of_ble_eq_true rfl⟩ d_L_law_12) hS (fun u2 H locs hp hw hz hS => ?_)
  obtain ⟨hp1, hF2⟩ := hp
  have o4 : ordN 400 = 198 := rfl
  have hF : FN sz 0 246 u2 := by
    have q1 : FN sz 0 198 u2 := hF1.keep (fun x _ h2 => by
      have hne : x ≠ 400 := by intro z; rw [z] at h2; omega
      rw [hp1 x hne (by omega), t_row_o hne])
    have q2 : FN sz 198 246 u2 := hF2
    exact q1.app q2
  refine lv_astore_n (lv' := [(2, .ref (AD sz 400)), (1, .ref (AD sz 0)), (0, .ref b)]) hx hb d_L_law_15 rfl hl (by decide) rfl (fun ls hl => ?_)
  refine lv_iconst (v := 0) hx hb d_L_law_16 (by decide) ?_
  refine lv_istore_n (lv' := [(3, .int 0), (2, .ref (AD sz 400)), (1, .ref (AD sz 0)), (0, .ref b)]) hx hb d_L_law_17 rfl hl (by decide) rfl (fun ls hl => ?_)
  refine W.widen (k := 600000) (n := 7302250) (Nat.le_of_ble_eq_true rfl) (Nat.le_of_ble_eq_true rfl) ?_
  refine va_forget (fun q hq => by have h9 : sz ≤ q.base := hS.2.2 q hq; omega) ?_
  have hS2 : va_S (tA (AD sz)) s.heap H [] := ⟨hS.1, fun q h1 _ => hS.2.1 q h1 (fun h9 => by have h8 : sz ≤ q := h9; omega), fun q hq => by cases hq⟩
  have z0 : (0 : Int32).toInt = 0 := rfl
  exact law_loop Y hr hlocks (fun k => by unfold AD; omega) 10000 v0 H [] ls 0 (by omega) inv_v0 rel_v0 (tI_made hw hF) hS2 (lv_sub hl [3, 2, 1, 0] rfl) (by omega) (by omega)
set_option maxHeartbeats 4000000 in
theorem lw_walk (l : Launch) (b : Addr) (xs : List Int32) : MetFree l x (headSpec (Jvm.Cond.code x code maxLocals ret :: tables_1) room_1) (lw_P b xs) (fun _ _ _ _ _ => True) lw_Q := by
  refine MetFree.of_bodyS (code := code) (maxLocals := maxLocals) (ret := ret) (by decide) ?_ ?_
  · intro args s m h hn
    obtain ⟨meth, c, h1, h2, h3, h4, h5, h6, -, -⟩ := Cond.code_spec hn (atoms_spec (ws := Jvm.Cond.code x code maxLocals ret :: tables_1) h _ List.mem_cons_self)
    exact ⟨meth, c, h1, h2, h3, h4, h5, h6⟩
  · intro p e s m args below meth c s₁ B hml0 hP _
    obtain ⟨rfl, hx, hbd, hgv⟩ := hP
    obtain ⟨scr, harrAt, hlist, hof, hsmall⟩ := hx
    obtain ⟨hcb, hkn, -, -⟩ := State.arrayAt?_spec harrAt
    have hown : s.vm.findClass R_law = some m.cls := findClass_of_methodNamed B.named
    have hts0 : ∀ c ∈ (Jvm.Cond.code x code maxLocals ret :: tables_1), c.before #[Value.ref b] s = true := atoms_spec (ws := Jvm.Cond.code x code maxLocals ret :: tables_1) B.pre
    have hts : ∀ w ∈ lw_tbl, w.before #[Value.ref b] s = true := k2_hts_sels lw_privs (fun w hw => hts0 w (List.mem_cons_of_mem _ hw)) lw_privs_ok
    have hml : c.maxLocals = 4 := B.maxLocals_eq (hts0 _ List.mem_cons_self)
    have X₀ : Stand p l e room_1 s m #[Value.ref b] below meth c s₁ [] 0 0 := Stand.of_body B
    have hh0 : s₁.heap = s.heap := by rw [B.state]; rfl
    have hsz : scr.slots.size = xs.length := by rw [← Array.length_toList, hlist, List.length_map]
    have hval : ∀ j : Nat, j < xs.length → scr.slots[j]? = some (.int (xs.getD j 0)) := fun j hj => by
      rw [← Array.getElem?_toList, hlist]
      simp [hj]
    have hbl : b < s.heap.size := (Array.getElem?_eq_some_iff.mp hcb).1
    have hX : va_X b xs.length (fun j => xs.getD j 0) s s.heap := ⟨scr, hcb, hof, hkn, hsz, hval⟩
    have K : W p l e room_1 s m #[Value.ref b] below meth c s₁.heap [] 0 0 (lw_Z below #[Value.ref b] s) (entryFrame m ([Value.ref b] : List Value).toArray 4) := by
      rw [hh0]
      exact whole_start l hbd ⟨B.exec, B.bytes, B.returns, hml, hown, hts, hX, hbl, B.notSynchronized, hgv⟩
    obtain ⟨t, a1, o, b1, b2, b3⟩ := K s₁ rfl X₀
    exact ⟨t, o, a1, b1, b2, b3⟩
theorem lw_pre_spec {args : Array Value} {s : State} (h : (Jvm.Cond.and given_1 narrow_1).before args s = true) (hr : rest_1_c.before args s = true) : ∃ (b : Addr) (xs : List Int32), lw_P b xs args s := by
  have hs := flat_of_before _ h
  have hq := flat_of_before _ hr
  have hc : (Cond.count 1).before args s = true := hs _ (by decide +kernel)
  have harr : (Cond.arrayOf (.arg 0) .int).before args s = true := hs _ (by decide +kernel)
  have hle : (Cond.le (.length (.arg 0)) (.int 3584)).before args s = true := hs _ (by decide +kernel)
  have hlen : (Cond.isInt (.length (.arg 0))).before args s = true := hq _ (by decide +kernel)
  have hall : (Cond.all (.arg 0) (.isInt (.elem (.arg 0) (.index 0)))).before args s = true := hq _ (by decide +kernel)
  obtain ⟨b, xs, hb, hx⟩ := State.ints_of_pre rfl harr hlen hall
  have hsm : xs.length < 2 ^ 31 := hx.choose_spec.2.2.2
  have hev : (Term.length (.arg 0)).eval args s none [] s = some (.int xs.length.toInt32) := hx.length_eval hb
  have hv := Cond.le_ints hev (show (Term.int 3584).eval args s none [] s = some (.int 3584) from rfl)
  have hd : xs.length.toInt32 ≤ 3584 := by
    simpa [Cond.before, Cond.holds, hv] using hle
  have hN : xs.length ≤ 3584 := (Int32.ofNat_le_ofNat hsm (by decide)).mp (show Int32.ofNat xs.length ≤ Int32.ofNat 3584 from hd)
  exact ⟨b, xs, Cond.one_arg hc (show args[0]? = some (.ref b) from hb), hx, hN, h⟩
theorem lw_comes (l : Launch) : Comes l x (Jvm.Cond.code x code maxLocals ret :: tables_1) room_1 (fun tb e args s => Calls_1 tb e args s ∧ rest_1 tb e args s ∧ Pre_1 tb e args s)
    (fun _ _ args s o t => lw_Q args s o t) := by
  intro p e ha hc hk s m args below hf hfit hheap happ hpre
  obtain ⟨b, xs, hP⟩ := lw_pre_spec hpre.2.2 hpre.2.1
  obtain ⟨k, o, h1, h2, h3, hQ⟩ := lw_walk l b xs p e ha hc hk s m args below hf ((Spec.applies_iff_loose hf).mp happ).1 hP trivial
  exact ⟨k, o, h1, h2, h3, hQ⟩
theorem lw_frame {s t : State} {o : Outcome} {args : Array Value} (h : Framed s o t [] 600000 7302250) :
    Framed s o t (fieldLocs frame_1_writes args s ++ arrayLocs frame_1_arrays args s ++ staticLocs frame_1_statics s) 600000 7302250 := h
theorem lw_limb (L : Cond) (hL : ∀ (args : Array Value) (s t : State), L.after args s (.returned (some (.int 1))) t = true) :
    ArmFor flags0 classFile x code maxLocals ret World_1 tables_1 room_1 Calls_1 rest_1 Pre_1
      (fun tb e a s o t => postC L tb e a s o t ∧ Framed s o t (fieldLocs frame_1_writes a s ++ arrayLocs frame_1_arrays a s ++ staticLocs frame_1_statics s) 600000 7302250) := by
  intro l _ _ _ p e ha hc hk s m args below hf hfit hheap happ hpre
  obtain ⟨k, o, h1, h2, h3, rfl, hF⟩ := lw_comes l p e ha hc hk s m args below hf hfit hheap happ hpre
  exact ⟨k, _, h1, h2, h3, hL args s _, lw_frame hF⟩
theorem i_vc : Claimed_1_1 ∧ Claimed_1_2 := ⟨lw_limb limb_1_1 (fun args s t => by simp [limb_1_1, Cond.after, Cond.holds, Cond.value]), lw_limb limb_1_2 (fun args s t => Cond.after_iff.mpr (by
  first | (rw [show limb_1_2 = Cond.eq .result (.int 1) from rfl, Cond.eq_ints (x := 1) (y := 1) rfl rfl]; simp; done) | (simp [limb_1_2, Cond.value, Term.eval]; done)))⟩
