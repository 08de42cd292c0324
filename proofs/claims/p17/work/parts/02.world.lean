/-! THE WORLD BY CODES: a cell is named by a code k; kd k: its kind (class number, places); ad k: its address; u k: what it holds -/
abbrev tKd : Type := Nat → Option (Nat × Nat)
abbrev tU : Type := Nat → Nat → Value
def t_up (u : tU) (k j : Nat) (x : Value) : tU := fun a b => if a = k ∧ b = j then x else u a b
def tw_at (cl : List vw_C) (D : va_G) (dA : Nat → ClassId) (a : Nat) (kn : Nat × Nat) (f : Nat → Value) (H : Heap) : Prop :=
  (kn.1 < 12 ∧ ∃ r : vw_C, cl[kn.1]? = some r ∧ t_OB a (D.1 kn.1) r.2.2 (D.2 kn.1) H f) ∨ (12 ≤ kn.1 ∧ H[a]? = some (arrV (dA kn.1) kn.2 f))
def tw_W (cl : List vw_C) (D : va_G) (dA : Nat → ClassId) (kd : tKd) (ad : Nat → Nat) (u : tU) (H : Heap) : Prop :=
  (∀ k kn, kd k = some kn → tw_at cl D dA (ad k) kn (u k) H) ∧ (∀ j k x y, kd j = some x → kd k = some y → ad j = ad k → j = k)
def tw_A (kd : tKd) (ad : Nat → Nat) : Nat → Prop := fun q => ∃ k kn, kd k = some kn ∧ q = ad k
theorem tw_at.kept {cl : List vw_C} {D : va_G} {dA : Nat → ClassId} {a : Nat} {kn : Nat × Nat} {f : Nat → Value} {H H1 : Heap} (h : tw_at cl D dA a kn f H) (hq : H1[a]? = H[a]?) : tw_at cl D dA a kn f H1 := by
  rcases h with ⟨h0, r, h1, h2⟩ | ⟨h0, h1⟩
  · exact Or.inl ⟨h0, r, h1, h2.kept hq⟩
  · exact Or.inr ⟨h0, hq.trans h1⟩
/-- one cell has changed -/
theorem tw_W.set {cl : List vw_C} {D : va_G} {dA : Nat → ClassId} {kd : tKd} {ad : Nat → Nat} {u : tU} {H H1 : Heap} (hw : tw_W cl D dA kd ad u H) {k : Nat} {kn : Nat × Nat} (hk : kd k = some kn) {j : Nat} {x : Value}
    (h1 : tw_at cl D dA (ad k) kn (updV (u k) j x) H1) (ho : ∀ q, q ≠ ad k → H1[q]? = H[q]?) : tw_W cl D dA kd ad (t_up u k j x) H1 := by
  refine ⟨fun a an ha => ?_, hw.2⟩
  by_cases hak : a = k
  · subst hak
    have e : an = kn := Option.some.inj (ha.symm.trans hk)
    subst e
    have e2 : t_up u a j x a = updV (u a) j x := by
      funext b
      simp [t_up, updV]
    rw [e2]
    exact h1
  · have e2 : t_up u k j x a = u a := by
      funext b
      simp [t_up, hak]
    rw [e2]
    exact (hw.1 a an ha).kept (ho _ (fun q => hak (hw.2 a k an kn ha hk q)))
section TR
variable {p : Program} {l : Launch} {e : Env} {R : Room} {s : State} {m : MethodId} {args : Array Value} {below : List Frame} {meth : Method} {c : Code} {H : Heap} {locs : List Loc} {cells slots : Nat} {Q : State → Prop}
variable {cc : ByteArray} {pc : Nat} {ls : Array Slot} {rest : List Value} {D : va_G} {cl : List vw_C} {dA : Nat → ClassId} {kd : tKd} {ad : Nat → Nat} {u : tU} {A : Nat → Prop} {tys : List (ClassId × FieldType)} {H0 : Heap}
theorem tw_get (hexec : p.tables.exec = Jvm.exec) (hb : c.code = cc) {own ref C : String} {T : u_T} {N ci n0 index : Nat} {Ts : List Cond} (hts : ∀ w ∈ Ts, w.before args s = true) (hin : ∀ w ∈ u_ws C T N, w ∈ Ts) (hown : s.vm.findClass own = some m.cls) (hK : va_K D cl tys s) (hw : tw_W cl D dA kd ad u H) {k : Nat} (hk : kd k = some (ci, n0)) (h12 : ci < 12) (hc : cl[ci]? = some (C, T, N)) (j : Nat) (hj : j < N)
    (hlink : (Cond.fieldLink own index ref (T j).2.1 (T j).2.2.1).before args s = true) (hsame : (T j).1 = ref) (hdg : decode cc pc = .ok (.getfield index, 3))
    (kk : W p l e R s m args below meth c H locs cells slots Q (F0 m (pc + 3) ls (u k j :: rest))) : W p l e R s m args below meth c H locs cells slots Q (F0 m pc ls (.ref (ad k) :: rest)) := by
  subst hsame
  rcases hw.1 k _ hk with ⟨_, r, h1, cell, q1, q2, q3, q4⟩ | ⟨h, -⟩
  · have hr : r = (C, T, N) := Option.some.inj (h1.symm.trans hc)
    subst hr
    obtain ⟨hS, hfc, kC, hkC, hkind⟩ := hK.1 ci _ hc
    obtain ⟨cf, kf, fi, f, hi, hsl⟩ := hS j hj
    refine W.getf hexec hb hown hlink hi (u_facts hfc hkC (u_lays hts hin hj) hi).1 q1 (by rw [q3]; exact fun h => by cases h) (v := u k j) ?_ rfl rfl hdg kk
    rw [hsl, q4 j hj]
  · exact absurd h12 (Nat.not_lt.mpr h)
theorem tw_put (hexec : p.tables.exec = Jvm.exec) (hb : c.code = cc) {own ref C : String} {T : u_T} {N ci n0 index : Nat} {Ts : List Cond} (hts : ∀ w ∈ Ts, w.before args s = true) (hin : ∀ w ∈ u_ws C T N, w ∈ Ts) (ty0 : Nat → FieldType) (hty : ∀ k, k < N → parseFieldDescriptor (T k).2.2.1 = some (ty0 k)) (hnm : ∀ a, a < N → ∀ b, b < N → a ≠ b → (T a).2.1 ≠ (T b).2.1) (hown : s.vm.findClass own = some m.cls) (hK : va_K D cl tys s) (hw : tw_W cl D dA kd ad u H) (hA : ∀ q, tw_A kd ad q → A q) (hS0 : va_S A H0 H locs) {k : Nat} (hk : kd k = some (ci, n0)) (h12 : ci < 12) (hc : cl[ci]? = some (C, T, N)) (j : Nat) (hj : j < N)
    (hlink : (Cond.fieldLink own index ref (T j).2.1 (T j).2.2.1).before args s = true) (hsame : (T j).1 = ref) (hfin : (T j).2.2.2 = false) {ty : FieldType} {v : Value} (hd : parseFieldDescriptor (T j).2.2.1 = some ty) (hn : narrow ty v = v) (hfit : fits ty v = true) (hdg : decode cc pc = .ok (.putfield index, 3))
    (kk : ∀ (H1 : Heap) (locs1 : List Loc), tw_W cl D dA kd ad (t_up u k j v) H1 → va_S A H0 H1 locs1 → W p l e R s m args below meth c H1 locs1 cells slots Q (F0 m (pc + 3) ls rest)) : W p l e R s m args below meth c H locs cells slots Q (F0 m pc ls (v :: .ref (ad k) :: rest)) := by
  subst hsame
  have hap := va_apart (own := own) hts hin ty0 hty hnm hK hc
  rcases hw.1 k _ hk with ⟨_, r, h1, cell, q1, q2, q3, q4⟩ | ⟨h, -⟩
  · have hr : r = (C, T, N) := Option.some.inj (h1.symm.trans hc)
    subst hr
    obtain ⟨hS, hfc, kC, hkC, hkind⟩ := hK.1 ci _ hc
    obtain ⟨cf, kf, fi, f, hi, hsl⟩ := hS j hj
    have hlay := hts _ (hin _ (u_in_lay hj))
    unfold u_lay at hlay
    rw [if_neg (by rw [hfin]; decide)] at hlay
    have hst := (u_facts hfc hkC (u_lays hts hin hj) hi).1
    have h6 := u_store hfc hkC hkind hlay hi hd hn hfit
    refine W.putK hexec hb (f := f) ⟨hown, hlink, ⟨_, _, _, hi⟩, hst⟩ (by rw [q2]; exact h6) q1 q3 (by rw [hsl]; exact k2_hasslot (q4 j hj)) rfl rfl hdg fun H' e1 e2 e3 => ?_
    rw [hsl] at e1 ⊢
    exact kk H' _ (hw.set hk (Or.inl ⟨h12, _, hc, _, e1, q2, q3, t_set q4 hap hj v⟩) e3) (hS0.put e2 e3 (hA _ ⟨k, _, hk, rfl⟩))
  · exact absurd h12 (Nat.not_lt.mpr h)
/-- an array's cell -/
theorem tw_arr (hw : tw_W cl D dA kd ad u H) {k t n : Nat} (hk : kd k = some (t, n)) (ht : 12 ≤ t) : H[ad k]? = some (arrV (dA t) n (u k)) := by
  rcases hw.1 k _ hk with ⟨h, -⟩ | ⟨-, h⟩
  · exact absurd h (Nat.not_lt.mpr ht)
  · exact h
theorem tw_iald (hexec : p.tables.exec = Jvm.exec) (hb : c.code = cc) (hK : va_K D cl tys s) (hw : tw_W cl D dA kd ad u H) {k t n : Nat} (hk : kd k = some (t, n)) (h12 : 12 ≤ t) (t0 : Nat) (ht : tys[t0]? = some (dA t, .int)) {i : Int32} (hin : vp_in i n) (hdg : decode cc pc = .ok (.iaload, 1))
    (kk : W p l e R s m args below meth c H locs cells slots Q (F0 m (pc + 1) ls (u k i.toNatClampNeg :: rest))) : W p l e R s m args below meth c H locs cells slots Q (F0 m pc ls (.int i :: .ref (ad k) :: rest)) := by
  have hlt : i.toNatClampNeg < n := Nat.not_le.mp fun q => hin (Or.inr q)
  exact W.iald (v := u k i.toNatClampNeg) hexec hb (tw_arr hw hk h12) ((hK.2 t0 _ ht).1 n (u k)) (fun q => by cases q) (by rw [arrV_size]; exact hin) (by rw [arrV_read _ _ hlt]) rfl rfl hdg kk
theorem tw_bald (hexec : p.tables.exec = Jvm.exec) (hb : c.code = cc) (hK : va_K D cl tys s) (hw : tw_W cl D dA kd ad u H) {k t n : Nat} (hk : kd k = some (t, n)) (h12 : 12 ≤ t) (t0 : Nat) (ht : tys[t0]? = some (dA t, .byte)) {i : Int32} (hin : vp_in i n) (hdg : decode cc pc = .ok (.baload, 1))
    (kk : W p l e R s m args below meth c H locs cells slots Q (F0 m (pc + 1) ls (u k i.toNatClampNeg :: rest))) : W p l e R s m args below meth c H locs cells slots Q (F0 m pc ls (.int i :: .ref (ad k) :: rest)) := by
  have hlt : i.toNatClampNeg < n := Nat.not_le.mp fun q => hin (Or.inr q)
  exact W.bald (v := u k i.toNatClampNeg) hexec hb (tw_arr hw hk h12) ((hK.2 t0 _ ht).1 n (u k)) (fun q => by cases q) (by rw [arrV_size]; exact hin) (by rw [arrV_read _ _ hlt]) rfl rfl hdg kk
theorem tw_zald (hexec : p.tables.exec = Jvm.exec) (hb : c.code = cc) (hK : va_K D cl tys s) (hw : tw_W cl D dA kd ad u H) {k t n : Nat} (hk : kd k = some (t, n)) (h12 : 12 ≤ t) (t0 : Nat) (ht : tys[t0]? = some (dA t, .boolean)) {i : Int32} (hin : vp_in i n) (hdg : decode cc pc = .ok (.baload, 1))
    (kk : W p l e R s m args below meth c H locs cells slots Q (F0 m (pc + 1) ls (u k i.toNatClampNeg :: rest))) : W p l e R s m args below meth c H locs cells slots Q (F0 m pc ls (.int i :: .ref (ad k) :: rest)) := by
  have hlt : i.toNatClampNeg < n := Nat.not_le.mp fun q => hin (Or.inr q)
  exact W.zald (v := u k i.toNatClampNeg) hexec hb (tw_arr hw hk h12) ((hK.2 t0 _ ht).1 n (u k)) (fun q => by cases q) (by rw [arrV_size]; exact hin) (by rw [arrV_read _ _ hlt]) rfl rfl hdg kk
theorem tw_aald (hexec : p.tables.exec = Jvm.exec) (hb : c.code = cc) (hK : va_K D cl tys s) (hw : tw_W cl D dA kd ad u H) {k t n : Nat} (hk : kd k = some (t, n)) (h12 : 12 ≤ t) (t0 : Nat) {C : String} (ht : tys[t0]? = some (dA t, .object C)) {i : Int32} (hin : vp_in i n) (hdg : decode cc pc = .ok (.aaload, 1))
    (kk : W p l e R s m args below meth c H locs cells slots Q (F0 m (pc + 1) ls (u k i.toNatClampNeg :: rest))) : W p l e R s m args below meth c H locs cells slots Q (F0 m pc ls (.int i :: .ref (ad k) :: rest)) := by
  have hlt : i.toNatClampNeg < n := Nat.not_le.mp fun q => hin (Or.inr q)
  exact W.aald (v := u k i.toNatClampNeg) (ty := .object C) hexec hb (tw_arr hw hk h12) ((hK.2 t0 _ ht).1 n (u k)) rfl (fun q => by cases q) (by rw [arrV_size]; exact hin) (by rw [arrV_read _ _ hlt]) rfl rfl hdg kk
theorem tw_iast (hexec : p.tables.exec = Jvm.exec) (hb : c.code = cc) (hK : va_K D cl tys s) (hw : tw_W cl D dA kd ad u H) (hA : ∀ q, tw_A kd ad q → A q) (hS : va_S A H0 H locs) {k t n : Nat} (hk : kd k = some (t, n)) (h12 : 12 ≤ t) (t0 : Nat) (ht : tys[t0]? = some (dA t, .int)) {i x : Int32} (hin : vp_in i n) (hdg : decode cc pc = .ok (.iastore, 1))
    (kk : ∀ (H1 : Heap) (locs1 : List Loc), tw_W cl D dA kd ad (t_up u k i.toNatClampNeg (.int x)) H1 → va_S A H0 H1 locs1 → W p l e R s m args below meth c H1 locs1 cells slots Q (F0 m (pc + 1) ls rest)) : W p l e R s m args below meth c H locs cells slots Q (F0 m pc ls (.int x :: .int i :: .ref (ad k) :: rest)) := by
  refine W.iast hexec hb (tw_arr hw hk h12) ((hK.2 t0 _ ht).1 n (u k)) (fun q => by cases q) (by rw [arrV_size]; exact hin) rfl rfl hdg fun H1 e z oq => ?_
  exact kk H1 _ (hw.set hk (Or.inr ⟨h12, by rw [e, arrV_store]⟩) oq) (hS.put z oq (hA _ ⟨k, _, hk, rfl⟩))
theorem tw_bast (hexec : p.tables.exec = Jvm.exec) (hb : c.code = cc) (hK : va_K D cl tys s) (hw : tw_W cl D dA kd ad u H) (hA : ∀ q, tw_A kd ad q → A q) (hS : va_S A H0 H locs) {k t n : Nat} (hk : kd k = some (t, n)) (h12 : 12 ≤ t) (t0 : Nat) (ht : tys[t0]? = some (dA t, .byte)) {i x : Int32} (hin : vp_in i n) (hdg : decode cc pc = .ok (.bastore, 1))
    (kk : ∀ (H1 : Heap) (locs1 : List Loc), tw_W cl D dA kd ad (t_up u k i.toNatClampNeg (narrow .byte (.int x))) H1 → va_S A H0 H1 locs1 → W p l e R s m args below meth c H1 locs1 cells slots Q (F0 m (pc + 1) ls rest)) : W p l e R s m args below meth c H locs cells slots Q (F0 m pc ls (.int x :: .int i :: .ref (ad k) :: rest)) := by
  refine W.bast hexec hb (tw_arr hw hk h12) ((hK.2 t0 _ ht).1 n (u k)) (fun q => by cases q) (by rw [arrV_size]; exact hin) rfl rfl hdg fun H1 e z oq => ?_
  exact kk H1 _ (hw.set hk (Or.inr ⟨h12, by rw [e, arrV_store]⟩) oq) (hS.put z oq (hA _ ⟨k, _, hk, rfl⟩))
theorem tw_zast (hexec : p.tables.exec = Jvm.exec) (hb : c.code = cc) (hK : va_K D cl tys s) (hw : tw_W cl D dA kd ad u H) (hA : ∀ q, tw_A kd ad q → A q) (hS : va_S A H0 H locs) {k t n : Nat} (hk : kd k = some (t, n)) (h12 : 12 ≤ t) (t0 : Nat) (ht : tys[t0]? = some (dA t, .boolean)) {i x : Int32} (hin : vp_in i n) (hdg : decode cc pc = .ok (.bastore, 1))
    (kk : ∀ (H1 : Heap) (locs1 : List Loc), tw_W cl D dA kd ad (t_up u k i.toNatClampNeg (narrow .boolean (.int x))) H1 → va_S A H0 H1 locs1 → W p l e R s m args below meth c H1 locs1 cells slots Q (F0 m (pc + 1) ls rest)) : W p l e R s m args below meth c H locs cells slots Q (F0 m pc ls (.int x :: .int i :: .ref (ad k) :: rest)) := by
  refine W.zast hexec hb (tw_arr hw hk h12) ((hK.2 t0 _ ht).1 n (u k)) (fun q => by cases q) (by rw [arrV_size]; exact hin) rfl rfl hdg fun H1 e z oq => ?_
  exact kk H1 _ (hw.set hk (Or.inr ⟨h12, by rw [e, arrV_store]⟩) oq) (hS.put z oq (hA _ ⟨k, _, hk, rfl⟩))
end TR
