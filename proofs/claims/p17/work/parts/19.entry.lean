theorem arrV_congr (cI : ClassId) (N : Nat) {f g : Nat → Value} (h : ∀ j, j < N → f j = g j) : arrV cI N f = arrV cI N g := by
  unfold arrV
  congr 1
  apply Array.ext
  · simp
  · intro i h1 h2
    simp at h1
    simp [h i h1]
set_option maxRecDepth 100000 in
theorem ord_all : ∀ j, j < 466 → (KD j).isSome = true → ordN j < 246 := by decide +kernel
set_option maxRecDepth 100000 in
theorem kind_all : ∀ j, j < 466 → ∀ kn, KD j = some kn → kn.1 < 12 → ∃ r : vw_C, CLS[kn.1]? = some r ∧ wd kn = r.2.2 := by
  intro j _ kn _ h
  obtain ⟨a, b⟩ := kn
  have h : a < 12 := h
  match a, h with
  | 0, _ => exact ⟨(N_X0, T_X0, 4), rfl, rfl⟩
  | 1, _ => exact ⟨(N_X1, T_X1, 7), rfl, rfl⟩
  | 2, _ => exact ⟨(N_X2, T_X2, 2), rfl, rfl⟩
  | 3, _ => exact ⟨(N_X3, T_X3, 7), rfl, rfl⟩
  | 4, _ => exact ⟨(N_X4, T_X4, 3), rfl, rfl⟩
  | 5, _ => exact ⟨(N_X5, T_X5, 3), rfl, rfl⟩
  | 6, _ => exact ⟨(N_X6, T_X6, 7), rfl, rfl⟩
  | 7, _ => exact ⟨(N_X7, T_X7, 13), rfl, rfl⟩
  | 8, _ => exact ⟨(N_X8, T_X8, 3), rfl, rfl⟩
  | 9, _ => exact ⟨(N_X9, T_X9, 5), rfl, rfl⟩
  | 10, _ => exact ⟨(N_X10, T_X10, 13), rfl, rfl⟩
  | 11, _ => exact ⟨(N_X11, T_X11, 67), rfl, rfl⟩
theorem wd_arr {kn : Nat × Nat} (h : 12 ≤ kn.1) : wd kn = kn.2 := by
  obtain ⟨a, b⟩ := kn
  have h : 12 ≤ a := h
  obtain ⟨d, rfl⟩ : ∃ d, a = d + 12 := ⟨a - 12, by omega⟩
  rfl
/-- all cells are made: the world stands -/
theorem tI_made {D : va_G} {dA : Nat → ClassId} {sz : Nat} {u : tU} {H : Heap} (hw : tw_W CLS D dA (KDn 246) (AD sz) u H) (hF : FN sz 0 246 u) : tI D dA (AD sz) v0 H := by
  refine ⟨fun k kn hk => ?_, fun j k x y hj hk e => ord_inj hj hk (by unfold AD at e; omega)⟩
  have ho : ordN k < 246 := ord_all k (KD_lt hk) (by rw [hk]; rfl)
  have hf := hF k kn hk (Nat.zero_le _) ho
  rcases hw.1 k kn (KDn_in hk ho) with ⟨h12, r, h1, cell, q1, q2, q3, q4⟩ | ⟨h12, h1⟩
  · obtain ⟨r', e1, e2⟩ := kind_all k (KD_lt hk) kn hk h12
    have er : r' = r := Option.some.inj (e1.symm.trans h1)
    rw [er] at e2
    exact Or.inl ⟨h12, r, h1, cell, q1, q2, q3, fun j hj => by rw [q4 j hj, hf j (by omega)]⟩
  · rw [wd_arr h12] at hf
    exact Or.inr ⟨h12, by rw [h1, arrV_congr _ _ hf]⟩
theorem RG_zero {k j : Nat} {lo hi : Int} (h : RG k j = some (lo, hi)) : lo = 0 ∧ 0 ≤ hi := by
  unfold RG RG0 RGM at h
  repeat' (split at h)
  all_goals first
    | (cases h; done)
    | (simp only [Option.some.injEq, Prod.mk.injEq] at h; omega)
theorem inv_v0 : Inv v0 := by
  intro k j lo hi h
  obtain ⟨h1, h2⟩ := RG_zero h
  have hz : (0 : Int32).toInt = 0 := rfl
  have hn : v0 k j = 0 ∨ (v0 k j = 99 ∧ hi = 99) := by
    by_cases q1 : k = 1 ∨ k = 2 ∨ k = 3
    · by_cases q2 : j = 6
      · exfalso
        rcases q1 with rfl | rfl | rfl <;> (subst q2; cases h)
      · left; unfold v0; rw [if_pos q1, if_neg q2]
    · by_cases q3 : 60 ≤ k ∧ k < 69
      · by_cases q2 : j = 4
        · right
          have h9 := RG_order4 (k := k) (by omega) (by omega)
          rw [q2] at h
          rw [h9] at h
          refine ⟨?_, ?_⟩
          · unfold v0; rw [if_neg q1, if_pos q3, if_pos q2]
          · cases h; rfl
        · left; unfold v0; rw [if_neg q1, if_pos q3, if_neg q2]
      · by_cases q4 : k = 0
        · subst q4
          by_cases q5 : j = 11
          · exfalso; subst q5; cases h
          · by_cases q6 : j = 12
            · exfalso; subst q6; cases h
            · left; unfold v0; rw [if_neg q1, if_neg q3, if_pos rfl, if_neg q5, if_neg q6]
        · by_cases q7 : k = 400
          · subst q7
            by_cases q5 : j = 26
            · exfalso; subst q5; cases h
            · by_cases q6 : j = 65
              · exfalso; subst q6; cases h
              · by_cases q8 : j = 66
                · exfalso; subst q8; cases h
                · left; unfold v0; rw [if_neg q1, if_neg q3, if_neg q4, if_pos rfl, if_neg q5, if_neg q6, if_neg q8]
          · left; unfold v0; rw [if_neg q1, if_neg q3, if_neg q4, if_neg q7]
  rcases hn with e | ⟨e, e2⟩
  · rw [e]; exact ⟨by rw [hz]; omega, by rw [hz]; omega⟩
  · have h99 : (99 : Int32).toInt = 99 := rfl
    rw [e]; exact ⟨by rw [h99]; omega, by rw [h99]; omega⟩
/-- the classes -/
theorem law_K {s : State} {A : Array Value} (hB : ∀ w ∈ BIG, w.before A s = true) (hts : ∀ w ∈ lw_tbl, w.before A s = true) : ∃ (D : va_G) (dA : Nat → ClassId), va_K D CLS (tysA dA) s := by
  have h : ∀ k : Nat, ∃ q : ClassId × (Nat → Nat), ∀ r : vw_C, CLS[k]? = some r → u_Kn s r.1 r.2.1 r.2.2 q.1 q.2 := by
    intro k
    obtain ⟨c0, i0, h0⟩ := u_known (C := N_X0) (T := T_X0) (N := 4) (n := 4) hB uw_X0 (hB _ in_X0)
    obtain ⟨c1, i1, h1⟩ := u_known (C := N_X1) (T := T_X1) (N := 7) (n := 7) hB uw_X1 (hB _ in_X1)
    obtain ⟨c2, i2, h2⟩ := u_known (C := N_X2) (T := T_X2) (N := 2) (n := 2) hB uw_X2 (hB _ in_X2)
    obtain ⟨c3, i3, h3⟩ := u_known (C := N_X3) (T := T_X3) (N := 7) (n := 7) hB uw_X3 (hB _ in_X3)
    obtain ⟨c4, i4, h4⟩ := u_known (C := N_X4) (T := T_X4) (N := 3) (n := 3) hB uw_X4 (hB _ in_X4)
    obtain ⟨c5, i5, h5⟩ := u_known (C := N_X5) (T := T_X5) (N := 3) (n := 3) hB uw_X5 (hB _ in_X5)
    obtain ⟨c6, i6, h6⟩ := u_known (C := N_X6) (T := T_X6) (N := 7) (n := 7) hB uw_X6 (hB _ in_X6)
    obtain ⟨c7, i7, h7⟩ := u_known (C := N_X7) (T := T_X7) (N := 13) (n := 13) hB uw_X7 (hB _ in_X7)
    obtain ⟨c8, i8, h8⟩ := u_known (C := N_X8) (T := T_X8) (N := 3) (n := 3) hB uw_X8 (hB _ in_X8)
    obtain ⟨c9, i9, h9⟩ := u_known (C := N_X9) (T := T_X9) (N := 5) (n := 5) hB uw_X9 (hB _ in_X9)
    obtain ⟨c10, i10, h10⟩ := u_known (C := N_X10) (T := T_X10) (N := 13) (n := 13) hB uw_X10 (hB _ in_X10)
    obtain ⟨c11, i11, h11⟩ := u_known (C := N_X11) (T := T_X11) (N := 67) (n := 67) hB uw_X11 (hB _ in_X11)
    match k with
    | 0 => exact ⟨(c0, i0), fun r hr => by cases hr; exact h0⟩
    | 1 => exact ⟨(c1, i1), fun r hr => by cases hr; exact h1⟩
    | 2 => exact ⟨(c2, i2), fun r hr => by cases hr; exact h2⟩
    | 3 => exact ⟨(c3, i3), fun r hr => by cases hr; exact h3⟩
    | 4 => exact ⟨(c4, i4), fun r hr => by cases hr; exact h4⟩
    | 5 => exact ⟨(c5, i5), fun r hr => by cases hr; exact h5⟩
    | 6 => exact ⟨(c6, i6), fun r hr => by cases hr; exact h6⟩
    | 7 => exact ⟨(c7, i7), fun r hr => by cases hr; exact h7⟩
    | 8 => exact ⟨(c8, i8), fun r hr => by cases hr; exact h8⟩
    | 9 => exact ⟨(c9, i9), fun r hr => by cases hr; exact h9⟩
    | 10 => exact ⟨(c10, i10), fun r hr => by cases hr; exact h10⟩
    | 11 => exact ⟨(c11, i11), fun r hr => by cases hr; exact h11⟩
    | k + 12 => exact ⟨(c0, i0), fun r hr => by simp [CLS] at hr⟩
  obtain ⟨f, hf⟩ := Classical.axiomOfChoice h
  obtain ⟨a12, k12, m12, f12, g12, e12⟩ := Cond.arrayClass_spec (hB _ ac_int)
  obtain ⟨a13, k13, m13, f13, g13, e13⟩ := Cond.arrayClass_spec (hB _ ac_byte)
  obtain ⟨a14, k14, m14, f14, g14, e14⟩ := Cond.arrayClass_spec (hB _ ac_bool)
  obtain ⟨m15, a15, k15, z15, -, g15, e15, f15⟩ := Cond.arrayOver_spec (n := N_X7) (hts _ (List.mem_of_getElem? (i := 71) (by decide +kernel)))
  obtain ⟨m16, a16, k16, z16, -, g16, e16, f16⟩ := Cond.arrayOver_spec (n := N_X0) (hts _ (List.mem_of_getElem? (i := 73) (by decide +kernel)))
  obtain ⟨m17, a17, k17, z17, -, g17, e17, f17⟩ := Cond.arrayOver_spec (n := N_X9) (hts _ (List.mem_of_getElem? (i := 75) (by decide +kernel)))
  obtain ⟨m18, a18, k18, z18, -, g18, e18, f18⟩ := Cond.arrayOver_spec (n := N_X3) (hts _ (List.mem_of_getElem? (i := 294) (by decide +kernel)))
  refine ⟨(fun k => (f k).1, fun k => (f k).2), fun k => if k = 12 then a12 else if k = 13 then a13 else if k = 14 then a14 else if k = 15 then a15 else if k = 16 then a16 else if k = 17 then a17 else a18, fun k r hr => hf k r hr, ?_⟩
  intro k q hq
  match k, hq with
  | 0, hq => cases hq; exact ⟨fun n z => ⟨fun k h => (by cases h), k12, g12, m12, e12⟩, f12⟩
  | 1, hq => cases hq; exact ⟨fun n z => ⟨fun k h => (by cases h), k13, g13, m13, e13⟩, f13⟩
  | 2, hq => cases hq; exact ⟨fun n z => ⟨fun k h => (by cases h), k14, g14, m14, e14⟩, f14⟩
  | 3, hq => cases hq; exact ⟨fun n z => ⟨fun k h => (by cases h), k15, g15, m15, e15⟩, ⟨k15, m15, g15, e15, z15, f15⟩⟩
  | 4, hq => cases hq; exact ⟨fun n z => ⟨fun k h => (by cases h), k16, g16, m16, e16⟩, ⟨k16, m16, g16, e16, z16, f16⟩⟩
  | 5, hq => cases hq; exact ⟨fun n z => ⟨fun k h => (by cases h), k17, g17, m17, e17⟩, ⟨k17, m17, g17, e17, z17, f17⟩⟩
  | 6, hq => cases hq; exact ⟨fun n z => ⟨fun k h => (by cases h), k18, g18, m18, e18⟩, ⟨k18, m18, g18, e18, z18, f18⟩⟩
  | k + 7, hq => simp [tysA] at hq
/-- one String constant -/
theorem so_of {args : Array Value} {s : State} {own tx : String} {k L : Nat} {A : Nat → Prop} (g : Nat → Int32) (hL : L < 2 ^ 31) (h1 : (Cond.exactly (.string own k) "java/lang/String").before args s = true) (h2 : (Cond.eq (.field (.string own k) "java/lang/String" "coder" "B") (.int 0)).before args s = true)
    (h3 : (Cond.arrayOf (.field (.string own k) "java/lang/String" "value" "[B") .byte).before args s = true) (h4 : (Cond.eq (.length (.field (.string own k) "java/lang/String" "value" "[B")) (.int (Int32.ofNat L))).before args s = true)
    (h5 : ∀ j : Nat, j < L → (Cond.eq (.elem (.field (.string own k) "java/lang/String" "value" "[B") (.int (Int32.ofNat j))) (.int (g j))).before args s = true) (h6 : (Cond.stringRef own k tx).before args s = true) (hA : ∀ a : Nat, a < s.heap.size → ¬ A a) : ∃ q : Nat, vk_R own k tx q s ∧ SO A q L g s s.heap := by
  obtain ⟨a, c, cA, kA, q1, q2, q3, q4, q5, q6, -⟩ := Cond.exactly_spec (args := args) (first := s) (o := none) (s := s) (idx := []) (t := .string own k) (cls := "java/lang/String") h1
  obtain ⟨t, ht, hT⟩ := va_Tof (f := fun j => .int (g j)) (A := A) hL h3 (va_eqt h4) (fun j hj => va_eqt (h5 j hj)) hA
  exact ⟨a, vk_R.of h6 q1, ⟨cA, q3, q5, by rw [q6]; exact q2, hA a (Array.getElem?_eq_some_iff.mp q3).1⟩, vk_OFof q1 (va_eqt h2) hA, t, vk_OFof q1 ht hA, hT⟩
theorem st_key : ∀ x : Nat × String × Nat, x ∈ STAB → ∀ y : Nat × String × Nat, y ∈ STAB → x.1 = y.1 → x = y := by decide +kernel
set_option maxHeartbeats 4000000 in
set_option maxRecDepth 100000 in
theorem law_SC {s : State} {args : Array Value} {A : Nat → Prop} (hts : ∀ w ∈ lw_tbl, w.before args s = true) (hgv : (Jvm.Cond.and given_1 narrow_1).before args s = true) (hA : ∀ a : Nat, a < s.heap.size → ¬ A a) : ∃ sa : Nat → Nat, SC sa A s s.heap := by
  have hs := flat_of_before _ hgv
  have h0 : ∀ x : Nat × String × Nat, x ∈ STAB → ∃ q : Nat, vk_R N_X8 x.1 x.2.1 q s ∧ SO A q x.2.2 (CH x.1) s s.heap := by
    have t27 : ∃ q : Nat, vk_R N_X8 27 "turn " q s ∧ SO A q 5 (CH 27) s s.heap := by
      refine so_of (args := args) (fun j => ([116, 117, 114, 110, 32] : List Int32).getD j 0) (by decide) (hs _ (by decide +kernel)) (hs _ (by decide +kernel)) (hs _ (by decide +kernel)) (hs _ (by decide +kernel)) ?_ (hts _ (List.mem_of_getElem? (i := 488) (by decide +kernel))) hA
      intro j hj
      have hj2 : j = 0 ∨ j = 1 ∨ j = 2 ∨ j = 3 ∨ j = 4 := by omega
      rcases hj2 with rfl | rfl | rfl | rfl | rfl <;> exact hs _ (by decide +kernel)
    have t41 : ∃ q : Nat, vk_R N_X8 41 "a" q s ∧ SO A q 1 (CH 41) s s.heap := by
      refine so_of (args := args) (fun j => ([97] : List Int32).getD j 0) (by decide) (hs _ (by decide +kernel)) (hs _ (by decide +kernel)) (hs _ (by decide +kernel)) (hs _ (by decide +kernel)) ?_ (hts _ (List.mem_of_getElem? (i := 545) (by decide +kernel))) hA
      intro j hj
      have hj2 : j = 0 := by omega
      subst hj2
      exact hs _ (by decide +kernel)
    have t45 : ∃ q : Nat, vk_R N_X8 45 "sk" q s ∧ SO A q 2 (CH 45) s s.heap := by
      refine so_of (args := args) (fun j => ([115, 107] : List Int32).getD j 0) (by decide) (hs _ (by decide +kernel)) (hs _ (by decide +kernel)) (hs _ (by decide +kernel)) (hs _ (by decide +kernel)) ?_ (hts _ (List.mem_of_getElem? (i := 546) (by decide +kernel))) hA
      intro j hj
      have hj2 : j = 0 ∨ j = 1 := by omega
      rcases hj2 with rfl | rfl <;> exact hs _ (by decide +kernel)
    have t47 : ∃ q : Nat, vk_R N_X8 47 "e" q s ∧ SO A q 1 (CH 47) s s.heap := by
      refine so_of (args := args) (fun j => ([101] : List Int32).getD j 0) (by decide) (hs _ (by decide +kernel)) (hs _ (by decide +kernel)) (hs _ (by decide +kernel)) (hs _ (by decide +kernel)) ?_ (hts _ (List.mem_of_getElem? (i := 547) (by decide +kernel))) hA
      intro j hj
      have hj2 : j = 0 := by omega
      subst hj2
      exact hs _ (by decide +kernel)
    have t49 : ∃ q : Nat, vk_R N_X8 49 "ntry" q s ∧ SO A q 4 (CH 49) s s.heap := by
      refine so_of (args := args) (fun j => ([110, 116, 114, 121] : List Int32).getD j 0) (by decide) (hs _ (by decide +kernel)) (hs _ (by decide +kernel)) (hs _ (by decide +kernel)) (hs _ (by decide +kernel)) ?_ (hts _ (List.mem_of_getElem? (i := 548) (by decide +kernel))) hA
      intro j hj
      have hj2 : j = 0 ∨ j = 1 ∨ j = 2 ∨ j = 3 := by omega
      rcases hj2 with rfl | rfl | rfl | rfl <;> exact hs _ (by decide +kernel)
    have t51 : ∃ q : Nat, vk_R N_X8 51 "lo" q s ∧ SO A q 2 (CH 51) s s.heap := by
      refine so_of (args := args) (fun j => ([108, 111] : List Int32).getD j 0) (by decide) (hs _ (by decide +kernel)) (hs _ (by decide +kernel)) (hs _ (by decide +kernel)) (hs _ (by decide +kernel)) ?_ (hts _ (List.mem_of_getElem? (i := 549) (by decide +kernel))) hA
      intro j hj
      have hj2 : j = 0 ∨ j = 1 := by omega
      rcases hj2 with rfl | rfl <;> exact hs _ (by decide +kernel)
    have t53 : ∃ q : Nat, vk_R N_X8 53 "t" q s ∧ SO A q 1 (CH 53) s s.heap := by
      refine so_of (args := args) (fun j => ([116] : List Int32).getD j 0) (by decide) (hs _ (by decide +kernel)) (hs _ (by decide +kernel)) (hs _ (by decide +kernel)) (hs _ (by decide +kernel)) ?_ (hts _ (List.mem_of_getElem? (i := 550) (by decide +kernel))) hA
      intro j hj
      have hj2 : j = 0 := by omega
      subst hj2
      exact hs _ (by decide +kernel)
    have t55 : ∃ q : Nat, vk_R N_X8 55 "ad" q s ∧ SO A q 2 (CH 55) s s.heap := by
      refine so_of (args := args) (fun j => ([97, 100] : List Int32).getD j 0) (by decide) (hs _ (by decide +kernel)) (hs _ (by decide +kernel)) (hs _ (by decide +kernel)) (hs _ (by decide +kernel)) ?_ (hts _ (List.mem_of_getElem? (i := 551) (by decide +kernel))) hA
      intro j hj
      have hj2 : j = 0 ∨ j = 1 := by omega
      rcases hj2 with rfl | rfl <;> exact hs _ (by decide +kernel)
    have t37 : ∃ q : Nat, vk_R N_X8 37 ";sell " q s ∧ SO A q 6 (CH 37) s s.heap := by
      refine so_of (args := args) (fun j => ([59, 115, 101, 108, 108, 32] : List Int32).getD j 0) (by decide) (hs _ (by decide +kernel)) (hs _ (by decide +kernel)) (hs _ (by decide +kernel)) (hs _ (by decide +kernel)) ?_ (hts _ (List.mem_of_getElem? (i := 552) (by decide +kernel))) hA
      intro j hj
      have hj2 : j = 0 ∨ j = 1 ∨ j = 2 ∨ j = 3 ∨ j = 4 ∨ j = 5 := by omega
      rcases hj2 with rfl | rfl | rfl | rfl | rfl | rfl <;> exact hs _ (by decide +kernel)
    have t68 : ∃ q : Nat, vk_R N_X8 68 " at " q s ∧ SO A q 4 (CH 68) s s.heap := by
      refine so_of (args := args) (fun j => ([32, 97, 116, 32] : List Int32).getD j 0) (by decide) (hs _ (by decide +kernel)) (hs _ (by decide +kernel)) (hs _ (by decide +kernel)) (hs _ (by decide +kernel)) ?_ (hts _ (List.mem_of_getElem? (i := 569) (by decide +kernel))) hA
      intro j hj
      have hj2 : j = 0 ∨ j = 1 ∨ j = 2 ∨ j = 3 := by omega
      rcases hj2 with rfl | rfl | rfl | rfl <;> exact hs _ (by decide +kernel)
    have t70 : ∃ q : Nat, vk_R N_X8 70 "<" q s ∧ SO A q 1 (CH 70) s s.heap := by
      refine so_of (args := args) (fun j => ([60] : List Int32).getD j 0) (by decide) (hs _ (by decide +kernel)) (hs _ (by decide +kernel)) (hs _ (by decide +kernel)) (hs _ (by decide +kernel)) ?_ (hts _ (List.mem_of_getElem? (i := 570) (by decide +kernel))) hA
      intro j hj
      have hj2 : j = 0 := by omega
      subst hj2
      exact hs _ (by decide +kernel)
    have t72 : ∃ q : Nat, vk_R N_X8 72 ">" q s ∧ SO A q 1 (CH 72) s s.heap := by
      refine so_of (args := args) (fun j => ([62] : List Int32).getD j 0) (by decide) (hs _ (by decide +kernel)) (hs _ (by decide +kernel)) (hs _ (by decide +kernel)) (hs _ (by decide +kernel)) ?_ (hts _ (List.mem_of_getElem? (i := 571) (by decide +kernel))) hA
      intro j hj
      have hj2 : j = 0 := by omega
      subst hj2
      exact hs _ (by decide +kernel)
    have t78 : ∃ q : Nat, vk_R N_X8 78 "," q s ∧ SO A q 1 (CH 78) s s.heap := by
      refine so_of (args := args) (fun j => ([44] : List Int32).getD j 0) (by decide) (hs _ (by decide +kernel)) (hs _ (by decide +kernel)) (hs _ (by decide +kernel)) (hs _ (by decide +kernel)) ?_ (hts _ (List.mem_of_getElem? (i := 576) (by decide +kernel))) hA
      intro j hj
      have hj2 : j = 0 := by omega
      subst hj2
      exact hs _ (by decide +kernel)
    intro x hx
    simp only [STAB, List.mem_cons, List.not_mem_nil, or_false] at hx
    rcases hx with rfl | rfl | rfl | rfl | rfl | rfl | rfl | rfl | rfl | rfl | rfl | rfl | rfl
    · exact t27
    · exact t41
    · exact t45
    · exact t47
    · exact t49
    · exact t51
    · exact t53
    · exact t55
    · exact t37
    · exact t68
    · exact t70
    · exact t72
    · exact t78
  have h1 : ∀ k : Nat, ∃ q : Nat, ∀ x : Nat × String × Nat, x ∈ STAB → x.1 = k → vk_R N_X8 x.1 x.2.1 q s ∧ SO A q x.2.2 (CH x.1) s s.heap := by
    intro k
    by_cases hk : ∃ x : Nat × String × Nat, x ∈ STAB ∧ x.1 = k
    · obtain ⟨x, hx, e⟩ := hk
      obtain ⟨q, hq⟩ := h0 x hx
      exact ⟨q, fun y hy e2 => by rw [st_key y hy x hx (e2.trans e.symm)]; exact hq⟩
    · exact ⟨0, fun y hy e2 => absurd ⟨y, hy, e2⟩ hk⟩
  obtain ⟨sa, hsa⟩ := Classical.axiomOfChoice h1
  refine ⟨sa, ⟨va_Zof (hts _ (List.mem_of_getElem? (i := 502) (by decide +kernel))) (hts _ (List.mem_of_getElem? (i := 49) (by decide +kernel))) (va_eqt (hs _ (by decide +kernel))) hA, ?_⟩, fun x hx => hsa x.1 x hx rfl⟩
  have hq := va_Zqof (A := A) (hts (.laysStatic "jdk/internal/util/Preconditions" "SIOOBE_FORMATTER" "Ljava/util/function/BiFunction;") (List.mem_of_getElem? (i := 518) (by decide +kernel))) (hts _ (List.mem_of_getElem? (i := 51) (by decide +kernel))) (hs _ (by decide +kernel)) hA
  rcases hq with hq | ⟨t, hq⟩
  · exact ⟨.null, rfl, hq⟩
  · exact ⟨.ref t, rfl, hq⟩
