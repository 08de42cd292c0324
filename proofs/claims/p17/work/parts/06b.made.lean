/-! MAKING: cells come one after the other from sz on -/
def ord0 : Nat → Nat := fun k => match k with
  | 0 => 0
  | 1 => 1
  | 10 => 2
  | 13 => 3
  | 16 => 4
  | 2 => 47
  | 11 => 48
  | 14 => 49
  | 17 => 50
  | 3 => 93
  | 12 => 94
  | 15 => 95
  | 18 => 96
  | 20 => 139
  | 22 => 140
  | 24 => 141
  | 21 => 142
  | 23 => 143
  | 25 => 144
  | 30 => 145
  | 32 => 146
  | 34 => 147
  | 36 => 148
  | 38 => 149
  | 31 => 150
  | 33 => 151
  | 35 => 152
  | 37 => 153
  | 39 => 154
  | 40 => 155
  | 41 => 156
  | 42 => 157
  | 50 => 158
  | 51 => 159
  | 55 => 196
  | 56 => 197
  | _ => 0
def ordM : Nat → Nat := fun k => match k with
  | 400 => 198
  | 403 => 199
  | 404 => 200
  | 405 => 201
  | 406 => 202
  | 407 => 203
  | 408 => 204
  | 409 => 205
  | 410 => 206
  | 411 => 207
  | 412 => 208
  | 413 => 209
  | 414 => 210
  | 415 => 211
  | 417 => 212
  | 418 => 213
  | 419 => 214
  | 420 => 215
  | 421 => 216
  | 422 => 217
  | 423 => 218
  | 424 => 219
  | 425 => 220
  | 429 => 221
  | 430 => 222
  | 431 => 223
  | 432 => 224
  | 433 => 225
  | 436 => 226
  | 437 => 227
  | 438 => 228
  | 439 => 229
  | 440 => 230
  | 441 => 231
  | 442 => 232
  | 446 => 233
  | 447 => 234
  | 448 => 235
  | 449 => 236
  | 450 => 237
  | 451 => 238
  | 452 => 239
  | 453 => 240
  | 461 => 241
  | 462 => 242
  | 463 => 243
  | 464 => 244
  | 465 => 245
  | _ => 0
def ordN : Nat → Nat := fun k =>
  if k < 60 then ord0 k else if k < 68 then 164 + 4 * (k - 60) else if k < 69 then 160 else if k < 70 then 0 else if k < 78 then 165 + 4 * (k - 70) else if k < 79 then 161 else if k < 80 then 0 else if k < 88 then 166 + 4 * (k - 80) else if k < 89 then 162 else if k < 90 then 0 else if k < 98 then 167 + 4 * (k - 90) else if k < 99 then 163 else if k < 100 then 0
  else if k < 160 then 46 * ((k - 100) / 20) + 5 + (k - 100) % 20 else if k < 200 then 0 else if k < 230 then 46 * ((k - 200) / 10) + 25 + (k - 200) % 10 else if k < 300 then 0 else if k < 318 then 46 * ((k - 300) / 6) + 35 + 2 * ((k - 300) % 6) else if k < 320 then 0 else if k < 338 then 46 * ((k - 320) / 6) + 36 + 2 * ((k - 320) % 6) else if k < 400 then 0 else ordM k
def codL : List Nat := [0, 1, 10, 13, 16, 100, 101, 102, 103, 104, 105, 106, 107, 108, 109, 110, 111, 112, 113, 114, 115, 116, 117, 118, 119, 200, 201, 202, 203, 204, 205, 206, 207, 208, 209, 300, 320, 301, 321, 302, 322, 303, 323, 304, 324, 305, 325, 2, 11, 14, 17, 120, 121, 122, 123, 124, 125, 126, 127, 128, 129, 130, 131, 132, 133, 134, 135, 136, 137, 138, 139, 210, 211, 212, 213, 214, 215, 216, 217, 218, 219, 306, 326, 307, 327, 308, 328, 309, 329, 310, 330, 311, 331, 3, 12, 15, 18, 140, 141, 142, 143, 144, 145, 146, 147, 148, 149, 150, 151, 152, 153, 154, 155, 156, 157, 158, 159, 220, 221, 222, 223, 224, 225, 226, 227, 228, 229, 312, 332, 313, 333, 314, 334, 315, 335, 316, 336, 317, 337, 20, 22, 24, 21, 23, 25, 30, 32, 34, 36, 38, 31, 33, 35, 37, 39, 40, 41, 42, 50, 51, 68, 78, 88, 98, 60, 70, 80, 90, 61, 71, 81, 91, 62, 72, 82, 92, 63, 73, 83, 93, 64, 74, 84, 94, 65, 75, 85, 95, 66, 76, 86, 96, 67, 77, 87, 97, 55, 56, 400, 403, 404, 405, 406, 407, 408, 409, 410, 411, 412, 413, 414, 415, 417, 418, 419, 420, 421, 422, 423, 424, 425, 429, 430, 431, 432, 433, 436, 437, 438, 439, 440, 441, 442, 446, 447, 448, 449, 450, 451, 452, 453, 461, 462, 463, 464, 465]
set_option maxRecDepth 100000 in
theorem cod_ok : ∀ j, j < 466 → (KD j).isSome = true → codL.getD (ordN j) 0 = j := by decide +kernel
theorem KD_lt {k : Nat} {kn : Nat × Nat} (h : KD k = some kn) : k < 466 := by
  apply Nat.not_le.mp
  intro hk
  unfold KD at h
  repeat (first | rw [if_pos (by omega)] at h | rw [if_neg (by omega)] at h)
  unfold KDM at h
  split at h <;> first | omega | cases h
theorem ord_inj {j k : Nat} {x y : Nat × Nat} (hj : KD j = some x) (hk : KD k = some y) (h : ordN j = ordN k) : j = k := by
  have h1 := cod_ok j (KD_lt hj) (by rw [hj]; rfl)
  have h2 := cod_ok k (KD_lt hk) (by rw [hk]; rfl)
  rw [← h1, h, h2]
def AD (sz : Nat) : Nat → Nat := fun k => sz + ordN k
def KDn (n : Nat) : tKd := fun k => if ordN k < n then KD k else none
def CA (sz : Nat) : Nat → Prop := fun q => sz ≤ q
def t_row (u : tU) (k : Nat) (f : Nat → Value) : tU := fun a => if a = k then f else u a
theorem KDn_of {n k : Nat} {kn : Nat × Nat} (h : KDn n k = some kn) : ordN k < n ∧ KD k = some kn := by
  unfold KDn at h
  by_cases q : ordN k < n
  · rw [if_pos q] at h
    exact ⟨q, h⟩
  · rw [if_neg q] at h
    cases h
theorem KDn_in {n k : Nat} {kn : Nat × Nat} (h : KD k = some kn) (ho : ordN k < n) : KDn n k = some kn := by
  unfold KDn
  rw [if_pos ho]
  exact h
theorem cw_grow {D : va_G} {dA : Nat → ClassId} {sz n : Nat} {u : tU} {H H1 : Heap} (hw : tw_W CLS D dA (KDn n) (AD sz) u H) (hz : H.size = sz + n) {k : Nat} {kn : Nat × Nat} (hk : KD k = some kn) (ho : ordN k = n) {f : Nat → Value} (o1 : ∀ q, q < H.size → H1[q]? = H[q]?) (hnew : tw_at CLS D dA (AD sz k) kn f H1) : tw_W CLS D dA (KDn (n + 1)) (AD sz) (t_row u k f) H1 := by
  refine ⟨fun a an ha => ?_, fun i j x y hi hj e => ord_inj (KDn_of hi).2 (KDn_of hj).2 (by unfold AD at e; omega)⟩
  obtain ⟨h1, h2⟩ := KDn_of ha
  by_cases q : a = k
  · subst q
    have e : an = kn := Option.some.inj (h2.symm.trans hk)
    subst e
    have e2 : t_row u a f a = f := by simp [t_row]
    rw [e2]
    exact hnew
  · have hne : ordN a ≠ n := fun z => q (ord_inj h2 hk (z.trans ho.symm))
    have e2 : t_row u k f a = u a := by simp [t_row, q]
    rw [e2]
    exact (hw.1 a an (KDn_in h2 (by omega))).kept (o1 _ (by unfold AD; omega))
theorem CA_in {sz n : Nat} {q : Nat} (h : tw_A (KDn n) (AD sz) q) : CA sz q := by
  obtain ⟨k, kn, -, rfl⟩ := h
  unfold CA AD
  omega
section R19
variable {p : Program} {l : Launch} {e : Env} {R : Room} {s : State} {m : MethodId} {args : Array Value} {below : List Frame} {meth : Method} {c : Code} {H : Heap} {locs : List Loc} {cells slots : Nat} {Q : State → Prop}
variable {cc : ByteArray} {pc : Nat} {ls : Array Slot} {rest : List Value} {D : va_G} {dA : Nat → ClassId} {sz n : Nat} {u : tU} {own : String} {nL : Nat} {H0 : Heap}
theorem cw_S {H1 : Heap} (hz : H.size = sz + n) (hS : va_S (CA sz) H0 H locs) (z1 : H1.size = H.size + 1) (o1 : ∀ q, q < H.size → H1[q]? = H[q]?) : va_S (CA sz) H0 H1 locs :=
  ⟨Nat.le_trans hS.1 (by omega), fun x h1 h2 => (o1 x (Nat.lt_of_lt_of_le h1 hS.1)).trans (hS.2.1 x h1 h2), hS.2.2⟩
theorem cw_new (X : CX p s m args c cc own nL D dA) (hw : tw_W CLS D dA (KDn n) (AD sz) u H) (hz : H.size = sz + n) (hS : va_S (CA sz) H0 H locs) {k ci N index : Nat} {C : String} {T : u_T} (hc : CLS[ci]? = some (C, T, N)) (h12 : ci < 12) (hu : ∀ w ∈ u_ws C T N, w ∈ BIG) (ty : Nat → FieldType) (hty : ∀ k, k < N → parseFieldDescriptor (T k).2.2.1 = some (ty k))
    (hcl : Cond.classLink own index C ∈ BIG) (hin : Cond.instantiable C N ∈ BIG) (hini : Cond.initialized C ∈ BIG) (hk : KD k = some (ci, 0)) (ho : ordN k = n) (hcells : cells + 1 ≤ R.cells) (hslots : slots + N ≤ R.slots) (hd : decode cc pc = .ok (.new index, 3))
    (kk : ∀ H1 : Heap, tw_W CLS D dA (KDn (n + 1)) (AD sz) (t_row u k (fun j => defaultValue (ty j))) H1 → H1.size = sz + (n + 1) → va_S (CA sz) H0 H1 locs → W p l e R s m args below meth c H1 locs (cells + 1) (slots + N) Q (F0 m (pc + 3) ls (.ref (AD sz k) :: rest))) : W p l e R s m args below meth c H locs cells slots Q (F0 m pc ls rest) := by
  obtain ⟨hx, hb, hml, hown, hts, hK, hB⟩ := X
  have hKn := hK.1 ci _ hc
  have ha : AD sz k = H.size := by unfold AD; omega
  refine W.newcK hx hb hown (hts _ hcl) (hts _ hin) (hts _ hini) rfl hd hcells hslots hKn.2.1 rfl fun H1 kC hkC e1 z1 o1 => ?_
  have h1 := kk H1 (cw_grow hw hz hk ho o1 (Or.inl ⟨h12, _, hc, by rw [ha]; exact u_born ty hts hu hKn hkC e1 hty⟩)) (by omega) (cw_S hz hS z1 o1)
  rw [ha] at h1
  exact h1
theorem cw_newa (X : CX p s m args c cc own nL D dA) (hw : tw_W CLS D dA (KDn n) (AD sz) u H) (hz : H.size = sz + n) (hS : va_S (CA sz) H0 H locs) {k t t0 N : Nat} {atype : ArrayType} (harr : Cond.arrayClass (newarray.typeOf atype) ∈ BIG) (h12 : 12 ≤ t) (ht : (tysA dA)[t0]? = some (dA t, newarray.typeOf atype)) {x : Int32} (hn : ¬ x < 0) (hN : x.toNatClampNeg = N) (hby : N * componentBytes (newarray.typeOf atype) ≤ 536870912)
    (hk : KD k = some (t, N)) (ho : ordN k = n) (hcells : cells + 1 ≤ R.cells) (hslots : slots + N ≤ R.slots) (hd : decode cc pc = .ok (.newarray atype, 2))
    (kk : ∀ H1 : Heap, tw_W CLS D dA (KDn (n + 1)) (AD sz) (t_row u k (fun _ => defaultValue (newarray.typeOf atype))) H1 → H1.size = sz + (n + 1) → va_S (CA sz) H0 H1 locs → W p l e R s m args below meth c H1 locs (cells + 1) (slots + N) Q (F0 m (pc + 2) ls (.ref (AD sz k) :: rest))) : W p l e R s m args below meth c H locs cells slots Q (F0 m pc ls (.int x :: rest)) := by
  obtain ⟨hx, hb, hml, hown, hts, hK, hB⟩ := X
  have ha : AD sz k = H.size := by unfold AD; omega
  refine va_newaK hx hb (hts _ harr) rfl hd rfl hn hN hby hcells hslots rfl fun H1 cA e1 z1 o1 hAr hNm => ?_
  have hcA : cA = dA t := by
    have h1 := (hK.2 t0 _ ht).2
    have h2 : s.vm.findClass ("[" ++ (newarray.typeOf atype).toString) = some (dA t) := by cases atype <;> exact h1
    exact Option.some.inj (hNm.symm.trans h2)
  have h1 := kk H1 (cw_grow hw hz hk ho o1 (Or.inr ⟨h12, by rw [ha, ← hcA]; exact e1⟩)) (by omega) (cw_S hz hS z1 o1)
  rw [ha] at h1
  exact h1
theorem cw_newq (X : CX p s m args c cc own nL D dA) (hw : tw_W CLS D dA (KDn n) (AD sz) u H) (hz : H.size = sz + n) (hS : va_S (CA sz) H0 H locs) {k t t0 N index : Nat} {C : String} (hover : va_AO C s) (hcl : Cond.classLink own index C ∈ BIG) (h12 : 12 ≤ t) (ht : (tysA dA)[t0]? = some (dA t, .object C)) {x : Int32} (hn : ¬ x < 0) (hN : x.toNatClampNeg = N) (hby : N * 4 ≤ 536870912)
    (hk : KD k = some (t, N)) (ho : ordN k = n) (hcells : cells + 1 ≤ R.cells) (hslots : slots + N ≤ R.slots) (hd : decode cc pc = .ok (.anewarray index, 3))
    (kk : ∀ H1 : Heap, tw_W CLS D dA (KDn (n + 1)) (AD sz) (t_row u k (fun _ => .null)) H1 → H1.size = sz + (n + 1) → va_S (CA sz) H0 H1 locs → W p l e R s m args below meth c H1 locs (cells + 1) (slots + N) Q (F0 m (pc + 3) ls (.ref (AD sz k) :: rest))) : W p l e R s m args below meth c H locs cells slots Q (F0 m pc ls (.int x :: rest)) := by
  obtain ⟨hx, hb, hml, hown, hts, hK, hB⟩ := X
  have ha : AD sz k = H.size := by unfold AD; omega
  subst hN
  refine W.anew hx hb hown (hts _ hcl) (va_AO.use hover) rfl hd rfl hn hby hcells hslots fun cA kA comp f1 f2 f3 f4 => ?_
  generalize hH1 : H.push ({ cls := cA, slots := Array.replicate x.toNatClampNeg .null, vm := .none } : Cell) = H1
  have z1 : H1.size = H.size + 1 := by rw [← hH1, Array.size_push]
  have e1 : H1[H.size]? = some (arrV cA x.toNatClampNeg (fun _ => .null)) := by rw [← hH1, Array.getElem?_push_size, ← arrV_new]
  have o1 : ∀ q : Nat, q < H.size → H1[q]? = H[q]? := fun q hq => by rw [← hH1, Array.getElem?_push, if_neg (Nat.ne_of_lt hq)]
  have hcA : cA = dA t := by
    obtain ⟨_, _, _, _, _, h2⟩ := (hK.2 t0 _ ht).2
    exact Option.some.inj (f1.symm.trans h2)
  have h1 := kk H1 (cw_grow hw hz hk ho o1 (Or.inr ⟨h12, by rw [ha, ← hcA]; exact e1⟩)) (by omega) (cw_S hz hS z1 o1)
  rw [ha] at h1
  exact h1
theorem cw_put (X : CX p s m args c cc own nL D dA) (hw : tw_W CLS D dA (KDn n) (AD sz) u H) (hz : H.size = sz + n) (hS : va_S (CA sz) H0 H locs) {k ci n0 index j : Nat} {ty : FieldType} {v : Value} (F : FP own index ci j ty) (hk : KD k = some (ci, n0)) (ho : ordN k < n) (hn : narrow ty v = v ∧ fits ty v = true) (hd : decode cc pc = .ok (.putfield index, 3))
    (kk : ∀ (H1 : Heap) (locs1 : List Loc), tw_W CLS D dA (KDn n) (AD sz) (t_up u k j v) H1 → H1.size = sz + n → va_S (CA sz) H0 H1 locs1 → W p l e R s m args below meth c H1 locs1 cells slots Q (F0 m (pc + 3) ls rest)) : W p l e R s m args below meth c H locs cells slots Q (F0 m pc ls (v :: .ref (AD sz k) :: rest)) := by
  obtain ⟨hx, hb, hml, hown, hts, hK, hB⟩ := X
  obtain ⟨C, T, N, ty0, hc, h12, hin, hj, f5, hty, hnm, hfin, hd9⟩ := F
  have hkn := KDn_in hk ho
  have hap := va_apart (own := own) hts hin ty0 hty hnm hK hc
  rcases hw.1 k _ hkn with ⟨_, r, h1, cell, q1, q2, q3, q4⟩ | ⟨h, -⟩
  · have hr : r = (C, T, N) := Option.some.inj (h1.symm.trans hc)
    subst hr
    obtain ⟨hSs, hfc, kC, hkC, hkind⟩ := hK.1 ci _ hc
    obtain ⟨cf, kf, fi, f, hi, hsl⟩ := hSs j hj
    have hlay := hts _ (hin _ (u_in_lay hj))
    unfold u_lay at hlay
    rw [if_neg (by rw [hfin]; decide)] at hlay
    have hst := (u_facts hfc hkC (u_lays hts hin hj) hi).1
    have h6 := u_store hfc hkC hkind hlay hi hd9 hn.1 hn.2
    refine W.putK hx hb (f := f) ⟨hown, hts _ f5, ⟨_, _, _, hi⟩, hst⟩ (by rw [q2]; exact h6) q1 q3 (by rw [hsl]; exact k2_hasslot (q4 j hj)) rfl rfl hd fun H' e1 e2 e3 => ?_
    rw [hsl] at e1 ⊢
    exact kk H' _ (hw.set hkn (Or.inl ⟨h12, _, hc, _, e1, q2, q3, t_set q4 hap hj v⟩) e3) (e2.trans hz) (hS.put e2 e3 (CA_in ⟨k, _, hkn, rfl⟩))
  · exact absurd h12 (Nat.not_lt.mpr h)
/-- a final field, in its own constructor -/
def FQ (own : String) (index ci j : Nat) (ty : FieldType) : Prop := ∃ (C : String) (T : u_T) (N : Nat) (ty0 : Nat → FieldType), CLS[ci]? = some (C, T, N) ∧ ci < 12 ∧ (∀ w ∈ u_ws C T N, w ∈ BIG) ∧ j < N ∧ Cond.fieldLink own index (T j).1 (T j).2.1 (T j).2.2.1 ∈ BIG ∧ (∀ k, k < N → parseFieldDescriptor (T k).2.2.1 = some (ty0 k)) ∧ (∀ a, a < N → ∀ b, b < N → a ≠ b → (T a).2.1 ≠ (T b).2.1) ∧ (T j).2.2.2 = true ∧ parseFieldDescriptor (T j).2.2.1 = some ty ∧ (T j).1 = own
theorem cw_putF (X : CX p s m args c cc own nL D dA) (hnm2 : meth.name = "<init>") (hw : tw_W CLS D dA (KDn n) (AD sz) u H) (hz : H.size = sz + n) (hS : va_S (CA sz) H0 H locs) {k ci n0 index j : Nat} {ty : FieldType} {v : Value} (F : FQ own index ci j ty) (hk : KD k = some (ci, n0)) (ho : ordN k < n) (hn : narrow ty v = v ∧ fits ty v = true) (hd : decode cc pc = .ok (.putfield index, 3))
    (kk : ∀ (H1 : Heap) (locs1 : List Loc), tw_W CLS D dA (KDn n) (AD sz) (t_up u k j v) H1 → H1.size = sz + n → va_S (CA sz) H0 H1 locs1 → W p l e R s m args below meth c H1 locs1 cells slots Q (F0 m (pc + 3) ls rest)) : W p l e R s m args below meth c H locs cells slots Q (F0 m pc ls (v :: .ref (AD sz k) :: rest)) := by
  obtain ⟨hx, hb, hml, hown, hts, hK, hB⟩ := X
  obtain ⟨C, T, N, ty0, hc, h12, hin, hj, f5, hty, hnm, hfin, hd9, hdecl⟩ := F
  have hkn := KDn_in hk ho
  have hap := va_apart (own := own) hts hin ty0 hty hnm hK hc
  rcases hw.1 k _ hkn with ⟨_, r, h1, cell, q1, q2, q3, q4⟩ | ⟨h, -⟩
  · have hr : r = (C, T, N) := Option.some.inj (h1.symm.trans hc)
    subst hr
    obtain ⟨hSs, hfc, kC, hkC, hkind⟩ := hK.1 ci _ hc
    obtain ⟨cf, kf, fi, f, hi, hsl⟩ := hSs j hj
    have hlay := hts _ (hin _ (u_in_lay hj))
    unfold u_lay at hlay
    rw [if_pos hfin] at hlay
    have hst := (u_facts hfc hkC (u_lays hts hin hj) hi).1
    have hcf : m.cls = cf := by
      obtain ⟨_, _, c', _, _, _, -, -, hf', -, -, -, hown2, -⟩ := Cond.laysFinal_spec hlay
      have e1 : c' = cf := by have := hi.symm.trans hf'; simp at this; exact this.1.symm
      rw [hdecl] at hown2
      rw [← e1]; exact Option.some.inj (hown.symm.trans hown2)
    have h6 := u_fits hfc hkC hkind (Or.inr hlay) hi hd9 hn.1 hn.2
    refine W.putFinK hx hb hown (hts _ f5) hi hst hcf hnm2 (by rw [q2]; exact h6) q1 q3 (by rw [hsl]; exact k2_hasslot (q4 j hj)) rfl rfl hd fun H' e1 e2 e3 => ?_
    rw [hsl] at e1 ⊢
    exact kk H' _ (hw.set hkn (Or.inl ⟨h12, _, hc, _, e1, q2, q3, t_set q4 hap hj v⟩) e3) (e2.trans hz) (hS.put e2 e3 (CA_in ⟨k, _, hkn, rfl⟩))
  · exact absurd h12 (Nat.not_lt.mpr h)
end R19

