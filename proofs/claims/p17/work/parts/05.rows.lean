abbrev tV : Type := Nat → Nat → Int32
abbrev tysA (dA : Nat → ClassId) : List (ClassId × FieldType) := [(dA 12, .int), (dA 13, .byte), (dA 14, .boolean), (dA 15, .object N_X7), (dA 16, .object N_X0), (dA 17, .object N_X9), (dA 18, .object N_X3)]
def tw_u (ad : Nat → Nat) (v : tV) : tU := fun k j => match SH k j with
  | some r => .ref (ad r)
  | none => .int (v k j)
def up2 (v : tV) (k j : Nat) (x : Int32) : tV := fun a b => if a = k ∧ b = j then x else v a b
def tI (D : va_G) (dA : Nat → ClassId) (ad : Nat → Nat) (v : tV) (H : Heap) : Prop := tw_W CLS D dA KD ad (tw_u ad v) H
abbrev tA (ad : Nat → Nat) : Nat → Prop := tw_A KD ad
def tK (D : va_G) (dA : Nat → ClassId) (U : State) : Prop := va_K D CLS (tysA dA) U ∧ TB U
theorem tK.warm {D : va_G} {dA : Nat → ClassId} {s U : State} (hW : s.WarmedH U.vm) (h : tK D dA s) : tK D dA U := ⟨va_K.moved hW.alike h.1, tb_warm hW h.2⟩
theorem tw_u_int {ad : Nat → Nat} {v : tV} {k j : Nat} (h : SH k j = none) : tw_u ad v k j = .int (v k j) := by
  unfold tw_u
  rw [h]
theorem tw_u_ref {ad : Nat → Nat} {v : tV} {k j r : Nat} (h : SH k j = some r) : tw_u ad v k j = .ref (ad r) := by
  unfold tw_u
  rw [h]
theorem tw_u_up {ad : Nat → Nat} {v : tV} {k j : Nat} {x : Int32} (h : SH k j = none) : t_up (tw_u ad v) k j (.int x) = tw_u ad (up2 v k j x) := by
  funext a b
  unfold t_up tw_u up2
  by_cases hab : a = k ∧ b = j
  · obtain ⟨rfl, rfl⟩ := hab
    simp [h]
  · simp [hab]
theorem up2_s (v : tV) (k j : Nat) (x : Int32) : up2 v k j x k j = x := by simp [up2]
theorem up2_n (v : tV) {k j a b : Nat} (x : Int32) (h : ¬ (a = k ∧ b = j)) : up2 v k j x a b = v a b := by simp [up2, h]
/-- what is known in a method's body -/
def CX (p : Program) (s : State) (m : MethodId) (args : Array Value) (c : Code) (cc : ByteArray) (own : String) (nL : Nat) (D : va_G) (dA : Nat → ClassId) : Prop :=
  p.tables.exec = Jvm.exec ∧ c.code = cc ∧ c.maxLocals = nL ∧ s.vm.findClass own = some m.cls ∧ (∀ w ∈ BIG, w.before args s = true) ∧ tK D dA s
/-- a field by its link -/
def FL (own : String) (index ci j : Nat) : Prop := ∃ (C : String) (T : u_T) (N : Nat), CLS[ci]? = some (C, T, N) ∧ ci < 12 ∧ (∀ w ∈ u_ws C T N, w ∈ BIG) ∧ j < N ∧ Cond.fieldLink own index (T j).1 (T j).2.1 (T j).2.2.1 ∈ BIG
def FP (own : String) (index ci j : Nat) (ty : FieldType) : Prop := ∃ (C : String) (T : u_T) (N : Nat) (ty0 : Nat → FieldType), CLS[ci]? = some (C, T, N) ∧ ci < 12 ∧ (∀ w ∈ u_ws C T N, w ∈ BIG) ∧ j < N ∧ Cond.fieldLink own index (T j).1 (T j).2.1 (T j).2.2.1 ∈ BIG ∧ (∀ k, k < N → parseFieldDescriptor (T k).2.2.1 = some (ty0 k)) ∧ (∀ a, a < N → ∀ b, b < N → a ≠ b → (T a).2.1 ≠ (T b).2.1) ∧ (T j).2.2.2 = false ∧ parseFieldDescriptor (T j).2.2.1 = some ty
def tP (D : va_G) (dA : Nat → ClassId) (ad : Nat → Nat) (v : tV) (av : List Value) : Array Value → State → Prop := va_Pc av (fun U => tI D dA ad v U.heap ∧ tK D dA U)
def tQi (D : va_G) (dA : Nat → ClassId) (ad : Nat → Nat) (post : Int32 → tV → Prop) : Array Value → State → Outcome → State → Prop := va_Qi post (fun v t => tI D dA ad v t.heap) (tA ad)
def tQv (D : va_G) (dA : Nat → ClassId) (ad : Nat → Nat) (post : tV → Prop) : Array Value → State → Outcome → State → Prop := va_Qv post (fun v t => tI D dA ad v t.heap) (tA ad)
/-- an answer that is a cell: its code -/
def tQr (D : va_G) (dA : Nat → ClassId) (ad : Nat → Nat) (post : Nat → tV → Prop) : Array Value → State → Outcome → State → Prop := va_Qr (S := Nat × tV) (fun u => post u.1 u.2) (fun u a t => a = ad u.1 ∧ tI D dA ad u.2 t.heap) (tA ad)
theorem tP.blind {D : va_G} {dA : Nat → ClassId} {ad : Nat → Nat} {v : tV} {av : List Value} : FrameBlind (tP D dA ad v av) := by
  intro a U g mk h
  obtain ⟨h1, h2, h3⟩ := h
  exact ⟨h1, h2, va_K.moved (u := U) (U := U.calling g mk a) (Vm.Alike.refl U.vm) h3.1, tb_vm (u := U) (U := U.calling g mk a) rfl h3.2⟩
section R5
variable {p : Program} {l : Launch} {e : Env} {R : Room} {s : State} {m : MethodId} {args : Array Value} {below : List Frame} {meth : Method} {c : Code} {H : Heap} {locs : List Loc} {cells slots : Nat} {Q : State → Prop}
variable {cc : ByteArray} {pc : Nat} {ls : Array Slot} {rest st0 : List Value} {D : va_G} {dA : Nat → ClassId} {ad : Nat → Nat} {v : tV} {own : String} {nL : Nat}
theorem r_geti (X : CX p s m args c cc own nL D dA) (hw : tI D dA ad v H) {k ci n0 index j : Nat} (F : FL own index ci j) (hk : KD k = some (ci, n0)) (hs : SH k j = none) (hd : decode cc pc = .ok (.getfield index, 3))
    (kk : W p l e R s m args below meth c H locs cells slots Q (F0 m (pc + 3) ls (.int (v k j) :: rest))) : W p l e R s m args below meth c H locs cells slots Q (F0 m pc ls (.ref (ad k) :: rest)) := by
  obtain ⟨hx, hb, hml, hown, hts, hK, hB⟩ := X
  obtain ⟨C, T, N, f1, f2, f3, f4, f5⟩ := F
  refine tw_get hx hb hts f3 hown hK hw hk f2 f1 j f4 (hts _ f5) rfl hd ?_
  rw [tw_u_int hs]
  exact kk
theorem r_getr (X : CX p s m args c cc own nL D dA) (hw : tI D dA ad v H) {k ci n0 index j r : Nat} (F : FL own index ci j) (hk : KD k = some (ci, n0)) (hs : SH k j = some r) (hd : decode cc pc = .ok (.getfield index, 3))
    (kk : W p l e R s m args below meth c H locs cells slots Q (F0 m (pc + 3) ls (.ref (ad r) :: rest))) : W p l e R s m args below meth c H locs cells slots Q (F0 m pc ls (.ref (ad k) :: rest)) := by
  obtain ⟨hx, hb, hml, hown, hts, hK, hB⟩ := X
  obtain ⟨C, T, N, f1, f2, f3, f4, f5⟩ := F
  refine tw_get hx hb hts f3 hown hK hw hk f2 f1 j f4 (hts _ f5) rfl hd ?_
  rw [tw_u_ref hs]
  exact kk
theorem r_put (X : CX p s m args c cc own nL D dA) (hw : tI D dA ad v H) (hS : va_S (tA ad) s.heap H locs) {k ci n0 index j : Nat} {ty : FieldType} {x : Int32} (F : FP own index ci j ty) (hk : KD k = some (ci, n0)) (hs : SH k j = none) (hn : narrow ty (.int x) = .int x ∧ fits ty (.int x) = true) (hd : decode cc pc = .ok (.putfield index, 3))
    (kk : ∀ (H1 : Heap) (locs1 : List Loc), tI D dA ad (up2 v k j x) H1 → va_S (tA ad) s.heap H1 locs1 → W p l e R s m args below meth c H1 locs1 cells slots Q (F0 m (pc + 3) ls rest)) : W p l e R s m args below meth c H locs cells slots Q (F0 m pc ls (.int x :: .ref (ad k) :: rest)) := by
  obtain ⟨hx, hb, hml, hown, hts, hK, hB⟩ := X
  obtain ⟨C, T, N, ty0, f1, f2, f3, f4, f5, f6, f7, f8, f9⟩ := F
  refine tw_put hx hb hts f3 ty0 f6 f7 hown hK hw (fun _ h => h) hS hk f2 f1 j f4 (hts _ f5) rfl f8 f9 hn.1 hn.2 hd (fun H1 locs1 h1 h2 => ?_)
  rw [tw_u_up hs] at h1
  exact kk H1 locs1 h1 h2
theorem r_iald (X : CX p s m args c cc own nL D dA) (hw : tI D dA ad v H) {k n : Nat} (hk : KD k = some (12, n)) {i : Int32} (hin : vp_in i n) (hs : SH k i.toNatClampNeg = none) (hd : decode cc pc = .ok (.iaload, 1))
    (kk : W p l e R s m args below meth c H locs cells slots Q (F0 m (pc + 1) ls (.int (v k i.toNatClampNeg) :: rest))) : W p l e R s m args below meth c H locs cells slots Q (F0 m pc ls (.int i :: .ref (ad k) :: rest)) := by
  obtain ⟨hx, hb, hml, hown, hts, hK, hB⟩ := X
  refine tw_iald hx hb hK hw hk (by decide) 0 rfl hin hd ?_
  rw [tw_u_int hs]
  exact kk
theorem r_bald (X : CX p s m args c cc own nL D dA) (hw : tI D dA ad v H) {k n : Nat} (hk : KD k = some (13, n)) {i : Int32} (hin : vp_in i n) (hs : SH k i.toNatClampNeg = none) (hd : decode cc pc = .ok (.baload, 1))
    (kk : W p l e R s m args below meth c H locs cells slots Q (F0 m (pc + 1) ls (.int (v k i.toNatClampNeg) :: rest))) : W p l e R s m args below meth c H locs cells slots Q (F0 m pc ls (.int i :: .ref (ad k) :: rest)) := by
  obtain ⟨hx, hb, hml, hown, hts, hK, hB⟩ := X
  refine tw_bald hx hb hK hw hk (by decide) 1 rfl hin hd ?_
  rw [tw_u_int hs]
  exact kk
theorem r_zald (X : CX p s m args c cc own nL D dA) (hw : tI D dA ad v H) {k n : Nat} (hk : KD k = some (14, n)) {i : Int32} (hin : vp_in i n) (hs : SH k i.toNatClampNeg = none) (hd : decode cc pc = .ok (.baload, 1))
    (kk : W p l e R s m args below meth c H locs cells slots Q (F0 m (pc + 1) ls (.int (v k i.toNatClampNeg) :: rest))) : W p l e R s m args below meth c H locs cells slots Q (F0 m pc ls (.int i :: .ref (ad k) :: rest)) := by
  obtain ⟨hx, hb, hml, hown, hts, hK, hB⟩ := X
  refine tw_zald hx hb hK hw hk (by decide) 2 rfl hin hd ?_
  rw [tw_u_int hs]
  exact kk
theorem r_aald (X : CX p s m args c cc own nL D dA) (hw : tI D dA ad v H) {k t n r : Nat} (hk : KD k = some (t, n)) (ht : t = 15 ∨ t = 16 ∨ t = 17 ∨ t = 18) {i : Int32} (hin : vp_in i n) (hs : SH k i.toNatClampNeg = some r) (hd : decode cc pc = .ok (.aaload, 1))
    (kk : W p l e R s m args below meth c H locs cells slots Q (F0 m (pc + 1) ls (.ref (ad r) :: rest))) : W p l e R s m args below meth c H locs cells slots Q (F0 m pc ls (.int i :: .ref (ad k) :: rest)) := by
  obtain ⟨hx, hb, hml, hown, hts, hK, hB⟩ := X
  have kk' : W p l e R s m args below meth c H locs cells slots Q (F0 m (pc + 1) ls (tw_u ad v k i.toNatClampNeg :: rest)) := by
    rw [tw_u_ref hs]
    exact kk
  rcases ht with rfl | rfl | rfl | rfl
  · exact tw_aald hx hb hK hw hk (by decide) 3 rfl hin hd kk'
  · exact tw_aald hx hb hK hw hk (by decide) 4 rfl hin hd kk'
  · exact tw_aald hx hb hK hw hk (by decide) 5 rfl hin hd kk'
  · exact tw_aald hx hb hK hw hk (by decide) 6 rfl hin hd kk'
theorem r_iast (X : CX p s m args c cc own nL D dA) (hw : tI D dA ad v H) (hS : va_S (tA ad) s.heap H locs) {k n : Nat} (hk : KD k = some (12, n)) {i x : Int32} (hin : vp_in i n) (hs : SH k i.toNatClampNeg = none) (hd : decode cc pc = .ok (.iastore, 1))
    (kk : ∀ (H1 : Heap) (locs1 : List Loc), tI D dA ad (up2 v k i.toNatClampNeg x) H1 → va_S (tA ad) s.heap H1 locs1 → W p l e R s m args below meth c H1 locs1 cells slots Q (F0 m (pc + 1) ls rest)) : W p l e R s m args below meth c H locs cells slots Q (F0 m pc ls (.int x :: .int i :: .ref (ad k) :: rest)) := by
  obtain ⟨hx, hb, hml, hown, hts, hK, hB⟩ := X
  refine tw_iast hx hb hK hw (fun _ h => h) hS hk (by decide) 0 rfl hin hd (fun H1 locs1 h1 h2 => ?_)
  rw [tw_u_up hs] at h1
  exact kk H1 locs1 h1 h2
theorem r_bast (X : CX p s m args c cc own nL D dA) (hw : tI D dA ad v H) (hS : va_S (tA ad) s.heap H locs) {k n : Nat} (hk : KD k = some (13, n)) {i x y : Int32} (hin : vp_in i n) (hs : SH k i.toNatClampNeg = none) (hy : narrow .byte (.int x) = .int y) (hd : decode cc pc = .ok (.bastore, 1))
    (kk : ∀ (H1 : Heap) (locs1 : List Loc), tI D dA ad (up2 v k i.toNatClampNeg y) H1 → va_S (tA ad) s.heap H1 locs1 → W p l e R s m args below meth c H1 locs1 cells slots Q (F0 m (pc + 1) ls rest)) : W p l e R s m args below meth c H locs cells slots Q (F0 m pc ls (.int x :: .int i :: .ref (ad k) :: rest)) := by
  obtain ⟨hx, hb, hml, hown, hts, hK, hB⟩ := X
  refine tw_bast hx hb hK hw (fun _ h => h) hS hk (by decide) 1 rfl hin hd (fun H1 locs1 h1 h2 => ?_)
  rw [hy, tw_u_up hs] at h1
  exact kk H1 locs1 h1 h2
theorem r_zast (X : CX p s m args c cc own nL D dA) (hw : tI D dA ad v H) (hS : va_S (tA ad) s.heap H locs) {k n : Nat} (hk : KD k = some (14, n)) {i x y : Int32} (hin : vp_in i n) (hs : SH k i.toNatClampNeg = none) (hy : narrow .boolean (.int x) = .int y) (hd : decode cc pc = .ok (.bastore, 1))
    (kk : ∀ (H1 : Heap) (locs1 : List Loc), tI D dA ad (up2 v k i.toNatClampNeg y) H1 → va_S (tA ad) s.heap H1 locs1 → W p l e R s m args below meth c H1 locs1 cells slots Q (F0 m (pc + 1) ls rest)) : W p l e R s m args below meth c H locs cells slots Q (F0 m pc ls (.int x :: .int i :: .ref (ad k) :: rest)) := by
  obtain ⟨hx, hb, hml, hown, hts, hK, hB⟩ := X
  refine tw_zast hx hb hK hw (fun _ h => h) hS hk (by decide) 2 rfl hin hd (fun H1 locs1 h1 h2 => ?_)
  rw [hy, tw_u_up hs] at h1
  exact kk H1 locs1 h1 h2
/-- the receiver of a call -/
theorem r_recv (X : CX p s m args c cc own nL D dA) (hw : tI D dA ad v H) {k ci n0 : Nat} (hk : KD k = some (ci, n0)) (h12 : ci < 12) {C : String} {T : u_T} {N : Nat} (hc : CLS[ci]? = some (C, T, N)) : ∃ cellB : Cell, H[ad k]? = some cellB ∧ cellB.vm.isStatics = false ∧ s.vm.findClass C = some cellB.cls := by
  obtain ⟨hx, hb, hml, hown, hts, hK, hB⟩ := X
  rcases hw.1 k _ hk with ⟨_, r, h1, cell, q1, q2, q3, q4⟩ | ⟨h, -⟩
  · exact ⟨cell, q1, by rw [q3]; rfl, by rw [q2]; exact (hK.1 ci _ hc).2.1⟩
  · exact absurd h12 (Nat.not_lt.mpr h)
/-- words of a call of an instance method, of a static one -/
def CV (own : String) (index : Nat) (C : String) (y : MethodName) (bytes : ByteArray) (maxL : Nat) (ret : Option FieldType) : Prop := GoodIn BIG [.methodLink own index y, .instanceMethod y, .selects C y y, .initialized C, .code y bytes maxL ret]
def CS (own : String) (index : Nat) (y : MethodName) (bytes : ByteArray) (maxL : Nat) (ret : Option FieldType) : Prop := GoodIn BIG [.methodLink own index y, .static y, .initialized own, .code y bytes maxL ret]
def RmOk (R rm : Room) (maxL : Nat) : Prop := rm.cells = 0 ∧ rm.slots = 0 ∧ rm.frames + 1 ≤ R.frames ∧ 8 + (maxL + 11) + rm.locals ≤ R.locals
theorem r_runV (X : CX p s m args c cc own nL D dA) (hw : tI D dA ad v H) {y : MethodName} {bytes : ByteArray} {maxL index k ci n0 n N : Nat} {ret : Option FieldType} {rm : Room} {C : String} {T : u_T} {As : List Value} {Qc : Array Value → State → Outcome → State → Prop}
    (hM : Met l y [.code y bytes maxL ret] rm (tP D dA ad v (.ref (ad k) :: As)) Qc 0 0 (tA ad)) (hG : CV own index C y bytes maxL ret) (hk : KD k = some (ci, n0)) (h12 : ci < 12) (hc : CLS[ci]? = some (C, T, N))
    (hy : y.cls = C ∧ y.cls ≠ "java/lang/invoke/MethodHandle" ∧ y.cls ≠ "java/lang/invoke/VarHandle" ∧ (parseMethodDescriptor y.desc).map (fun d => d.parameters.length) = some n) (hrm : RmOk R rm maxL) (hn : As.length = n) (hsz : ls.size = nL) (hst : st0 = As.reverse ++ .ref (ad k) :: rest) (hroom : (rest.map fun v => v.category).sum ≤ 8) (hcap : cells ≤ R.cells ∧ slots ≤ R.slots) (hd : decode cc pc = .ok (.invokevirtual index, 3)) :
    va_Run p l e R s m args below meth c H locs cells slots 0 0 (F0 m pc ls st0) rest (Qc (Value.ref (ad k) :: As).toArray) (tA ad) := by
  have hrc := r_recv X hw hk h12 hc
  obtain ⟨hx, hb, hml, hown, hts, hK⟩ := X
  exact va_runV (As := As) (rest := rest) ⟨hx, hb, hml, hown, hts⟩ hM (cwV n hts hG rfl hrm.1 hrm.2.1 hy ⟨hrm.2.2.1, hrm.2.2.2⟩) ⟨tP.blind, hrc, fun U hU hW => ⟨rfl, by rw [hU]; exact hw, hK.warm hW⟩⟩ rfl hn hsz hst (lv_room hroom) hd hcap
theorem r_runS (X : CX p s m args c cc own nL D dA) (hw : tI D dA ad v H) {y : MethodName} {bytes : ByteArray} {maxL index n : Nat} {ret : Option FieldType} {rm : Room} {As : List Value} {Qc : Array Value → State → Outcome → State → Prop}
    (hM : Met l y [.code y bytes maxL ret] rm (tP D dA ad v As) Qc 0 0 (tA ad)) (hG : CS own index y bytes maxL ret)
    (hy : y.cls = own ∧ y.cls ≠ "java/lang/invoke/MethodHandle" ∧ y.cls ≠ "java/lang/invoke/VarHandle" ∧ (parseMethodDescriptor y.desc).map (fun d => d.parameters.length) = some n) (hrm : RmOk R rm maxL) (hn : As.length = n) (hsz : ls.size = nL) (hst : st0 = As.reverse ++ rest) (hroom : (rest.map fun v => v.category).sum ≤ 8) (hcap : cells ≤ R.cells ∧ slots ≤ R.slots) (hd : decode cc pc = .ok (.invokestatic index, 3)) :
    va_Run p l e R s m args below meth c H locs cells slots 0 0 (F0 m pc ls st0) rest (Qc As.toArray) (tA ad) := by
  obtain ⟨hx, hb, hml, hown, hts, hK⟩ := X
  exact va_runS (As := As) (rest := rest) ⟨hx, hb, hml, hown, hts⟩ hM (cwS n hts hG rfl hrm.1 hrm.2.1 hy ⟨hrm.2.2.1, hrm.2.2.2⟩) ⟨tP.blind, fun U hU hW => ⟨rfl, by rw [hU]; exact hw, hK.warm hW⟩⟩ rfl hn hsz hst (lv_room hroom) hd hcap
theorem r_runSN (X : CX p s m args c cc own nL D dA) (hw : tI D dA ad v H) {y : MethodName} {bytes : ByteArray} {maxL index n : Nat} {ret : Option FieldType} {rm : Room} {host : String} {As : List Value} {Qc : Array Value → State → Outcome → State → Prop}
    (hM : Met l y [.code y bytes maxL ret] rm (tP D dA ad v As) Qc 0 0 (tA ad)) (hN : Cond.methodLinkNest own index y host ∈ BIG) (hG : GoodIn BIG [.static y, .initialized y.cls, .code y bytes maxL ret])
    (hy : y.cls ≠ "java/lang/invoke/MethodHandle" ∧ y.cls ≠ "java/lang/invoke/VarHandle" ∧ (parseMethodDescriptor y.desc).map (fun d => d.parameters.length) = some n) (hrm : RmOk R rm maxL) (hn : As.length = n) (hsz : ls.size = nL) (hst : st0 = As.reverse ++ rest) (hroom : (rest.map fun v => v.category).sum ≤ 8) (hcap : cells ≤ R.cells ∧ slots ≤ R.slots) (hd : decode cc pc = .ok (.invokestatic index, 3)) :
    va_Run p l e R s m args below meth c H locs cells slots 0 0 (F0 m pc ls st0) rest (Qc As.toArray) (tA ad) := by
  obtain ⟨hx, hb, hml, hown, hts, hK⟩ := X
  have h1 : GoodIn BIG [.code y bytes maxL ret] := fun w hw => hG w (by simp only [List.mem_singleton] at hw; subst hw; simp)
  exact va_runSN (As := As) (rest := rest) ⟨hx, hb, hml, hown, hts⟩ hM ⟨va_cnB n hts h1 rfl hrm.1 hrm.2.1 (va_Nw.of rfl (hts _ hN)) (hts _ (hG _ (by simp)).1) hy ⟨hrm.2.2.1, hrm.2.2.2⟩, hts _ (hG _ (by simp)).1, trivial⟩ ⟨tP.blind, fun U hU hW => ⟨rfl, by rw [hU]; exact hw, hK.warm hW⟩⟩ rfl hn hsz hst (lv_room hroom) hd hcap
theorem r_ci {a : Array Value} {post : Int32 → tV → Prop} (hr : va_Run p l e R s m args below meth c H locs cells slots 0 0 (F0 m pc ls st0) rest (tQi D dA ad post a) (tA ad)) (hS : va_S (tA ad) s.heap H locs)
    (kk : ∀ (r : Int32) (v' : tV) (H1 : Heap) (locs1 : List Loc), post r v' → tI D dA ad v' H1 → va_S (tA ad) s.heap H1 locs1 → W p l e R s m args below meth c H1 locs1 cells slots Q (F0 m (pc + 3) ls (.int r :: rest))) : W p l e R s m args below meth c H locs cells slots Q (F0 m pc ls st0) :=
  va_calli hr hS (fun _ _ h => h) (fun _ h => h) (fun r u t H1 locs1 ht _ hp hB _ _ hS1 => kk r u H1 locs1 hp (by rw [← ht]; exact hB) hS1)
theorem r_cv {a : Array Value} {post : tV → Prop} (hr : va_Run p l e R s m args below meth c H locs cells slots 0 0 (F0 m pc ls st0) rest (tQv D dA ad post a) (tA ad)) (hS : va_S (tA ad) s.heap H locs)
    (kk : ∀ (v' : tV) (H1 : Heap) (locs1 : List Loc), post v' → tI D dA ad v' H1 → va_S (tA ad) s.heap H1 locs1 → W p l e R s m args below meth c H1 locs1 cells slots Q (F0 m (pc + 3) ls rest)) : W p l e R s m args below meth c H locs cells slots Q (F0 m pc ls st0) :=
  va_callv hr hS (fun _ _ h => h) (fun _ h => h) (fun u t H1 locs1 ht _ hp hB _ _ hS1 => kk u H1 locs1 hp (by rw [← ht]; exact hB) hS1)
theorem r_cr {a : Array Value} {post : Nat → tV → Prop} (hr : va_Run p l e R s m args below meth c H locs cells slots 0 0 (F0 m pc ls st0) rest (tQr D dA ad post a) (tA ad)) (hS : va_S (tA ad) s.heap H locs)
    (kk : ∀ (r : Nat) (v' : tV) (H1 : Heap) (locs1 : List Loc), post r v' → tI D dA ad v' H1 → va_S (tA ad) s.heap H1 locs1 → W p l e R s m args below meth c H1 locs1 cells slots Q (F0 m (pc + 3) ls (.ref (ad r) :: rest))) : W p l e R s m args below meth c H locs cells slots Q (F0 m pc ls st0) :=
  va_callr hr hS (fun _ _ h => h) (fun _ h => h) (fun u ra t H1 locs1 ht _ hp hB _ _ hS1 => by
    obtain ⟨e1, e2⟩ := hB
    subst e1
    exact kk u.1 u.2 H1 locs1 hp (by rw [← ht]; exact e2) hS1)
theorem r_iret {post : Int32 → tV → Prop} (X : CX p s m args c cc own nL D dA) (hr : meth.sig.returnType = some .int) (hlocks : meth.locks = false) (hw : tI D dA ad v H) (hS : va_S (tA ad) s.heap H locs) {x : Int32} (hp : post x v) (hd : decode cc pc = .ok (.ireturn, 1)) : W p l e R s m args below meth c H locs cells slots (MQ below (tQi D dA ad post) args s cells slots (tA ad)) (F0 m pc ls [.int x]) :=
  W.iret X.1 X.2.1 hr (fun t ht hW => ⟨⟨x, v, rfl, hp, by show tI D dA ad v t.heap; rw [ht]; exact hw⟩, hS.F ht⟩) hS.2.2 hd hlocks
theorem r_zret {post : Int32 → tV → Prop} (X : CX p s m args c cc own nL D dA) (hr : meth.sig.returnType = some .boolean) (hlocks : meth.locks = false) (hw : tI D dA ad v H) (hS : va_S (tA ad) s.heap H locs) {x : Int32} (hn : narrow .boolean (.int x) = .int x) (hp : post x v) (hd : decode cc pc = .ok (.ireturn, 1)) : W p l e R s m args below meth c H locs cells slots (MQ below (tQi D dA ad post) args s cells slots (tA ad)) (F0 m pc ls [.int x]) :=
  W.zret X.1 X.2.1 hr hn (fun t ht hW => ⟨⟨x, v, rfl, hp, by show tI D dA ad v t.heap; rw [ht]; exact hw⟩, hS.F ht⟩) hS.2.2 hd hlocks
theorem r_vret {post : tV → Prop} (X : CX p s m args c cc own nL D dA) (hr : meth.sig.returnType = none) (hlocks : meth.locks = false) (hw : tI D dA ad v H) (hS : va_S (tA ad) s.heap H locs) (hp : post v) (hd : decode cc pc = .ok (.return_, 1)) : W p l e R s m args below meth c H locs cells slots (MQ below (tQv D dA ad post) args s cells slots (tA ad)) (F0 m pc ls []) :=
  W.vret X.1 X.2.1 hr (fun t ht hW => ⟨⟨v, rfl, hp, by show tI D dA ad v t.heap; rw [ht]; exact hw⟩, hS.F ht⟩) hS.2.2 hd hlocks
theorem r_aret {post : Nat → tV → Prop} (X : CX p s m args c cc own nL D dA) {C : String} (hr : meth.sig.returnType = some (.object C)) (hlocks : meth.locks = false) (hw : tI D dA ad v H) (hS : va_S (tA ad) s.heap H locs) {k : Nat} (hp : post k v) (hd : decode cc pc = .ok (.areturn, 1)) : W p l e R s m args below meth c H locs cells slots (MQ below (tQr D dA ad post) args s cells slots (tA ad)) (F0 m pc ls [.ref (ad k)]) :=
  W.aret X.1 X.2.1 hr (Or.inl ⟨_, rfl⟩) (Or.inr ⟨_, rfl⟩) (fun t ht hW => ⟨⟨(k, v), ad k, rfl, hp, rfl, by show tI D dA ad v t.heap; rw [ht]; exact hw⟩, hS.F ht⟩) hS.2.2 hd hlocks
end R5
/-- a method's body, from its entry -/
theorem tMet {l : Launch} {y : MethodName} {cc : ByteArray} {maxL : Nat} {ret : Option FieldType} {rm : Room} {D : va_G} {dA : Nat → ClassId} {ad : Nat → Nat} {v : tV} {av : List Value} {Qc : Array Value → State → Outcome → State → Prop} (hy : plainName y.cls = true) (hlen : (lg_sl av).length ≤ maxL)
    (body : ∀ (p : Program) (e : Env) (s : State) (m : MethodId) (below : List Frame) (meth : Method) (c : Code) (ls : Array Slot), CX p s m av.toArray c cc y.cls maxL D dA → meth.sig.returnType = ret → meth.locks = false → tI D dA ad v s.heap → lv_has ls maxL (lv_args 0 av) →
      W p l e rm s m av.toArray below meth c s.heap [] 0 0 (MQ below Qc av.toArray s 0 0 (tA ad)) (F0 m 0 ls [])) : Met l y [.code y cc maxL ret] rm (tP D dA ad v av) Qc 0 0 (tA ad) := by
  refine Met.ofW (cc := cc) (maxL := maxL) (ret := ret) hy rfl ?_
  intro p e s m args below meth c s₁ B hml hv
  obtain ⟨rfl, hw, hK⟩ := hv
  have hl := lv_entry av (n := maxL) hlen
  rw [lg_entry_eq]
  exact body p e s m below meth c _ ⟨B.exec, B.bytes, hml, findClass_of_methodNamed B.named, tb_args hK.2, hK⟩ B.returns B.notSynchronized hw hl
