section R21
variable {p : Program} {l : Launch} {e : Env} {R : Room} {s : State} {m : MethodId} {args : Array Value} {below : List Frame} {meth : Method} {c : Code} {H : Heap} {locs : List Loc} {cells slots : Nat} {Q : State → Prop}
variable {cc : ByteArray} {pc : Nat} {ls : Array Slot} {rest st0 : List Value} {D : va_G} {dA : Nat → ClassId} {sz n : Nat} {u : tU} {own : String} {nL : Nat} {H0 : Heap}
theorem cw_get (X : CX p s m args c cc own nL D dA) (hw : tw_W CLS D dA (KDn n) (AD sz) u H) {k ci n0 index j : Nat} {val : Value} (F : FL own index ci j) (hk : KD k = some (ci, n0)) (ho : ordN k < n) (hv : u k j = val) (hd : decode cc pc = .ok (.getfield index, 3))
    (kk : W p l e R s m args below meth c H locs cells slots Q (F0 m (pc + 3) ls (val :: rest))) : W p l e R s m args below meth c H locs cells slots Q (F0 m pc ls (.ref (AD sz k) :: rest)) := by
  obtain ⟨hx, hb, hml, hown, hts, hK, hB⟩ := X
  obtain ⟨C, T, N, f1, f2, f3, f4, f5⟩ := F
  refine tw_get hx hb hts f3 hown hK hw (KDn_in hk ho) f2 f1 j f4 (hts _ f5) rfl hd ?_
  rw [hv]
  exact kk
theorem cw_aast (X : CX p s m args c cc own nL D dA) (hw : tw_W CLS D dA (KDn n) (AD sz) u H) (hz : H.size = sz + n) (hS : va_S (CA sz) H0 H locs) {ka t N t0 k ci Nf i : Nat} {C : String} {T : u_T} (hka : KD ka = some (t, N)) (hoa : ordN ka < n) (h12t : 12 ≤ t) (ht : (tysA dA)[t0]? = some (dA t, .object C)) (hk : KD k = some (ci, 0)) (hok : ordN k < n) (h12 : ci < 12) (hc : CLS[ci]? = some (C, T, Nf)) (hi : i < N) (hN : N < 2 ^ 31) (hd : decode cc pc = .ok (.aastore, 1))
    (kk : ∀ (H1 : Heap) (locs1 : List Loc), tw_W CLS D dA (KDn n) (AD sz) (t_up u ka i (.ref (AD sz k))) H1 → H1.size = sz + n → va_S (CA sz) H0 H1 locs1 → W p l e R s m args below meth c H1 locs1 cells slots Q (F0 m (pc + 1) ls rest)) : W p l e R s m args below meth c H locs cells slots Q (F0 m pc ls (.ref (AD sz k) :: .int (nI i) :: .ref (AD sz ka) :: rest)) := by
  obtain ⟨hx, hb, hml, hown, hts, hK, hB⟩ := X
  have hkn := KDn_in hka hoa
  have hcl : (nI i).toNatClampNeg = i := nI_clamp (by omega)
  rcases hw.1 k _ (KDn_in hk hok) with ⟨_, r, h1, cellV, g1, g2, g3, -⟩ | ⟨h, -⟩
  · have hcls := (hK.1 ci _ hc).2
    obtain ⟨kA, comp, k1, k2, k3, -⟩ := (hK.2 t0 _ ht).2
    have hcomp : comp = D.1 ci := Option.some.inj (k3.symm.trans hcls.1)
    subst hcomp
    obtain ⟨kC, hkC, -⟩ := hcls.2
    refine W.aast hx hb (tw_arr hw hkn h12t) (fun q h => by cases h) (fun h => by cases h) k1 k2 rfl hkC ⟨nI_pos (by omega), by rw [arrV_size, hcl]; exact hi⟩ g1 (fun q h => by rw [g3] at h; cases h) (by rw [g2]; exact hkC) (by rw [g2]; exact va_assign hcls) rfl rfl hd fun H1 e z oq => ?_
    rw [hcl] at e ⊢
    exact kk H1 _ (hw.set hkn (Or.inr ⟨h12t, by rw [e, arrV_store]⟩) oq) (z.trans hz) (hS.put z oq (CA_in ⟨ka, _, hkn, rfl⟩))
  · exact absurd h12 (Nat.not_lt.mpr h)
end R21
theorem kl_X10_7 : Cond.classLink N_X10 7 N_X6 ∈ BIG := tb_in 64 (by decide +kernel) rfl
set_option maxRecDepth 1000000 in
theorem gi_X10_9 : GoodIn BIG [.methodLink N_X10 9 m_X6_init, .instanceMethod m_X6_init, .initialized m_X6_init.cls, .code m_X6_init c_X6_init 2 none] := tb_good5 [66, 67, 38, 68] rfl (by decide +kernel) (by decide +kernel)
theorem kl_X10_22 : Cond.classLink N_X10 22 N_X5 ∈ BIG := tb_in 219 (by decide +kernel) rfl
theorem ni_X10_24 : Cond.methodLinkNest N_X10 24 m_X5_init "CoalTurns" ∈ BIG := tb_in 221 (by decide +kernel) rfl
set_option maxRecDepth 1000000 in
theorem gi_X10_24 : GoodIn BIG [.instanceMethod m_X5_init, .initialized m_X5_init.cls, .code m_X5_init c_X5_init 1 none] := tb_good5 [222, 42, 223] rfl (by decide +kernel) (by decide +kernel)
theorem kl_X10_32 : Cond.classLink N_X10 32 N_X1 ∈ BIG := tb_in 239 (by decide +kernel) rfl
theorem ni_X10_34 : Cond.methodLinkNest N_X10 34 m_X1_init "CoalTurns" ∈ BIG := tb_in 241 (by decide +kernel) rfl
set_option maxRecDepth 1000000 in
theorem gi_X10_34 : GoodIn BIG [.instanceMethod m_X1_init, .initialized m_X1_init.cls, .code m_X1_init c_X1_init 1 none] := tb_good5 [242, 43, 243] rfl (by decide +kernel) (by decide +kernel)
theorem kl_X10_42 : Cond.classLink N_X10 42 N_X2 ∈ BIG := tb_in 274 (by decide +kernel) rfl
theorem ni_X10_44 : Cond.methodLinkNest N_X10 44 m_X2_init "CoalTurns" ∈ BIG := tb_in 276 (by decide +kernel) rfl
set_option maxRecDepth 1000000 in
theorem gi_X10_44 : GoodIn BIG [.instanceMethod m_X2_init, .initialized m_X2_init.cls, .code m_X2_init c_X2_init 1 none] := tb_good5 [277, 44, 278] rfl (by decide +kernel) (by decide +kernel)
theorem kl_X10_49 : Cond.classLink N_X10 49 N_X4 ∈ BIG := tb_in 287 (by decide +kernel) rfl
set_option maxRecDepth 1000000 in
theorem gi_X10_51 : GoodIn BIG [.methodLink N_X10 51 m_X4_init, .instanceMethod m_X4_init, .initialized m_X4_init.cls, .code m_X4_init c_X4_init 2 none] := tb_good5 [289, 290, 45, 291] rfl (by decide +kernel) (by decide +kernel)
theorem kl_X10_56 : Cond.classLink N_X10 56 N_X8 ∈ BIG := tb_in 340 (by decide +kernel) rfl
theorem ni_X10_58 : Cond.methodLinkNest N_X10 58 m_X8_init "CoalTurns" ∈ BIG := tb_in 342 (by decide +kernel) rfl
set_option maxRecDepth 1000000 in
theorem gi_X10_58 : GoodIn BIG [.instanceMethod m_X8_init, .initialized m_X8_init.cls, .code m_X8_init c_X8_init 1 none] := tb_good5 [343, 47, 344] rfl (by decide +kernel) (by decide +kernel)
theorem kl_X4_9 : Cond.classLink N_X4 9 N_X3 ∈ BIG := tb_in 293 (by decide +kernel) rfl
theorem ni_X4_17 : Cond.methodLinkNest N_X4 17 m_X3_init "CoalTurns" ∈ BIG := tb_in 296 (by decide +kernel) rfl
set_option maxRecDepth 1000000 in
theorem gi_X4_17 : GoodIn BIG [.instanceMethod m_X3_init, .initialized m_X3_init.cls, .code m_X3_init c_X3_init 1 none] := tb_good5 [297, 46, 298] rfl (by decide +kernel) (by decide +kernel)
theorem kl_X6_9 : Cond.classLink N_X6 9 N_X7 ∈ BIG := tb_in 70 (by decide +kernel) rfl
theorem kl_X6_17 : Cond.classLink N_X6 17 N_X0 ∈ BIG := tb_in 72 (by decide +kernel) rfl
theorem kl_X6_23 : Cond.classLink N_X6 23 N_X9 ∈ BIG := tb_in 74 (by decide +kernel) rfl
theorem ni_X6_42 : Cond.methodLinkNest N_X6 42 m_X7_init "CoalTurns" ∈ BIG := tb_in 77 (by decide +kernel) rfl
set_option maxRecDepth 1000000 in
theorem gi_X6_42 : GoodIn BIG [.instanceMethod m_X7_init, .initialized m_X7_init.cls, .code m_X7_init c_X7_init 1 none] := tb_good5 [78, 39, 79] rfl (by decide +kernel) (by decide +kernel)
theorem ni_X6_43 : Cond.methodLinkNest N_X6 43 m_X0_init "CoalTurns" ∈ BIG := tb_in 139 (by decide +kernel) rfl
set_option maxRecDepth 1000000 in
theorem gi_X6_43 : GoodIn BIG [.instanceMethod m_X0_init, .initialized m_X0_init.cls, .code m_X0_init c_X0_init 1 none] := tb_good5 [140, 40, 141] rfl (by decide +kernel) (by decide +kernel)
theorem ni_X6_44 : Cond.methodLinkNest N_X6 44 m_X9_init "CoalTurns" ∈ BIG := tb_in 162 (by decide +kernel) rfl
set_option maxRecDepth 1000000 in
theorem gi_X6_44 : GoodIn BIG [.instanceMethod m_X9_init, .initialized m_X9_init.cls, .code m_X9_init c_X9_init 1 none] := tb_good5 [163, 41, 164] rfl (by decide +kernel) (by decide +kernel)
theorem in_X0 : Cond.instantiable N_X0 4 ∈ BIG := tb_in 138 (by decide +kernel) rfl
theorem ii_X0 : Cond.initialized N_X0 ∈ BIG := tb_in 40 (by decide +kernel) rfl
theorem in_X1 : Cond.instantiable N_X1 7 ∈ BIG := tb_in 240 (by decide +kernel) rfl
theorem ii_X1 : Cond.initialized N_X1 ∈ BIG := tb_in 43 (by decide +kernel) rfl
theorem in_X2 : Cond.instantiable N_X2 2 ∈ BIG := tb_in 275 (by decide +kernel) rfl
theorem ii_X2 : Cond.initialized N_X2 ∈ BIG := tb_in 44 (by decide +kernel) rfl
theorem in_X3 : Cond.instantiable N_X3 7 ∈ BIG := tb_in 295 (by decide +kernel) rfl
theorem ii_X3 : Cond.initialized N_X3 ∈ BIG := tb_in 46 (by decide +kernel) rfl
theorem in_X4 : Cond.instantiable N_X4 3 ∈ BIG := tb_in 288 (by decide +kernel) rfl
theorem ii_X4 : Cond.initialized N_X4 ∈ BIG := tb_in 45 (by decide +kernel) rfl
theorem in_X5 : Cond.instantiable N_X5 3 ∈ BIG := tb_in 220 (by decide +kernel) rfl
theorem ii_X5 : Cond.initialized N_X5 ∈ BIG := tb_in 42 (by decide +kernel) rfl
theorem in_X6 : Cond.instantiable N_X6 7 ∈ BIG := tb_in 65 (by decide +kernel) rfl
theorem ii_X6 : Cond.initialized N_X6 ∈ BIG := tb_in 38 (by decide +kernel) rfl
theorem in_X7 : Cond.instantiable N_X7 13 ∈ BIG := tb_in 76 (by decide +kernel) rfl
theorem ii_X7 : Cond.initialized N_X7 ∈ BIG := tb_in 39 (by decide +kernel) rfl
theorem in_X8 : Cond.instantiable N_X8 3 ∈ BIG := tb_in 341 (by decide +kernel) rfl
theorem ii_X8 : Cond.initialized N_X8 ∈ BIG := tb_in 47 (by decide +kernel) rfl
theorem in_X9 : Cond.instantiable N_X9 5 ∈ BIG := tb_in 161 (by decide +kernel) rfl
theorem ii_X9 : Cond.initialized N_X9 ∈ BIG := tb_in 41 (by decide +kernel) rfl
theorem in_X10 : Cond.instantiable N_X10 13 ∈ BIG := tb_in 57 (by decide +kernel) rfl
theorem ii_X10 : Cond.initialized N_X10 ∈ BIG := tb_in 37 (by decide +kernel) rfl
theorem in_X11 : Cond.instantiable N_X11 67 ∈ BIG := tb_in 817 (by decide +kernel) rfl
theorem ii_X11 : Cond.initialized N_X11 ∈ BIG := tb_in 48 (by decide +kernel) rfl
theorem d_X11_init_0 : decode c_X11_init 0 = .ok (.aload_n 0, 1) := by decide +kernel
theorem d_X11_init_1 : decode c_X11_init 1 = .ok (.invokespecial 1, 3) := by decide +kernel
theorem d_X11_init_4 : decode c_X11_init 4 = .ok (.aload_n 0, 1) := by decide +kernel
theorem d_X11_init_5 : decode c_X11_init 5 = .ok (.bipush 20, 2) := by decide +kernel
theorem d_X11_init_7 : decode c_X11_init 7 = .ok (.newarray .int, 2) := by decide +kernel
theorem d_X11_init_9 : decode c_X11_init 9 = .ok (.putfield 7, 3) := by decide +kernel
theorem d_X11_init_12 : decode c_X11_init 12 = .ok (.aload_n 0, 1) := by decide +kernel
theorem d_X11_init_13 : decode c_X11_init 13 = .ok (.bipush 20, 2) := by decide +kernel
theorem d_X11_init_15 : decode c_X11_init 15 = .ok (.newarray .int, 2) := by decide +kernel
theorem d_X11_init_17 : decode c_X11_init 17 = .ok (.putfield 13, 3) := by decide +kernel
theorem d_X11_init_20 : decode c_X11_init 20 = .ok (.aload_n 0, 1) := by decide +kernel
theorem d_X11_init_21 : decode c_X11_init 21 = .ok (.bipush 20, 2) := by decide +kernel
theorem d_X11_init_23 : decode c_X11_init 23 = .ok (.newarray .int, 2) := by decide +kernel
theorem d_X11_init_25 : decode c_X11_init 25 = .ok (.putfield 16, 3) := by decide +kernel
theorem d_X11_init_28 : decode c_X11_init 28 = .ok (.aload_n 0, 1) := by decide +kernel
theorem d_X11_init_29 : decode c_X11_init 29 = .ok (.bipush 20, 2) := by decide +kernel
theorem d_X11_init_31 : decode c_X11_init 31 = .ok (.newarray .int, 2) := by decide +kernel
theorem d_X11_init_33 : decode c_X11_init 33 = .ok (.putfield 19, 3) := by decide +kernel
theorem d_X11_init_36 : decode c_X11_init 36 = .ok (.aload_n 0, 1) := by decide +kernel
theorem d_X11_init_37 : decode c_X11_init 37 = .ok (.bipush 20, 2) := by decide +kernel
theorem d_X11_init_39 : decode c_X11_init 39 = .ok (.newarray .int, 2) := by decide +kernel
theorem d_X11_init_41 : decode c_X11_init 41 = .ok (.putfield 22, 3) := by decide +kernel
theorem d_X11_init_44 : decode c_X11_init 44 = .ok (.aload_n 0, 1) := by decide +kernel
theorem d_X11_init_45 : decode c_X11_init 45 = .ok (.bipush 20, 2) := by decide +kernel
theorem d_X11_init_47 : decode c_X11_init 47 = .ok (.newarray .int, 2) := by decide +kernel
theorem d_X11_init_49 : decode c_X11_init 49 = .ok (.putfield 25, 3) := by decide +kernel
theorem d_X11_init_52 : decode c_X11_init 52 = .ok (.aload_n 0, 1) := by decide +kernel
theorem d_X11_init_53 : decode c_X11_init 53 = .ok (.bipush 20, 2) := by decide +kernel
theorem d_X11_init_55 : decode c_X11_init 55 = .ok (.newarray .int, 2) := by decide +kernel
theorem d_X11_init_57 : decode c_X11_init 57 = .ok (.putfield 28, 3) := by decide +kernel
theorem d_X11_init_60 : decode c_X11_init 60 = .ok (.aload_n 0, 1) := by decide +kernel
theorem d_X11_init_61 : decode c_X11_init 61 = .ok (.bipush 20, 2) := by decide +kernel
theorem d_X11_init_63 : decode c_X11_init 63 = .ok (.newarray .int, 2) := by decide +kernel
theorem d_X11_init_65 : decode c_X11_init 65 = .ok (.putfield 31, 3) := by decide +kernel
theorem d_X11_init_68 : decode c_X11_init 68 = .ok (.aload_n 0, 1) := by decide +kernel
theorem d_X11_init_69 : decode c_X11_init 69 = .ok (.bipush 20, 2) := by decide +kernel
theorem d_X11_init_71 : decode c_X11_init 71 = .ok (.newarray .int, 2) := by decide +kernel
theorem d_X11_init_73 : decode c_X11_init 73 = .ok (.putfield 34, 3) := by decide +kernel
theorem d_X11_init_76 : decode c_X11_init 76 = .ok (.aload_n 0, 1) := by decide +kernel
theorem d_X11_init_77 : decode c_X11_init 77 = .ok (.bipush 20, 2) := by decide +kernel
theorem d_X11_init_79 : decode c_X11_init 79 = .ok (.newarray .int, 2) := by decide +kernel
theorem d_X11_init_81 : decode c_X11_init 81 = .ok (.putfield 37, 3) := by decide +kernel
theorem d_X11_init_84 : decode c_X11_init 84 = .ok (.aload_n 0, 1) := by decide +kernel
theorem d_X11_init_85 : decode c_X11_init 85 = .ok (.bipush 20, 2) := by decide +kernel
theorem d_X11_init_87 : decode c_X11_init 87 = .ok (.newarray .int, 2) := by decide +kernel
theorem d_X11_init_89 : decode c_X11_init 89 = .ok (.putfield 40, 3) := by decide +kernel
theorem d_X11_init_92 : decode c_X11_init 92 = .ok (.aload_n 0, 1) := by decide +kernel
theorem d_X11_init_93 : decode c_X11_init 93 = .ok (.bipush 20, 2) := by decide +kernel
theorem d_X11_init_95 : decode c_X11_init 95 = .ok (.newarray .int, 2) := by decide +kernel
theorem d_X11_init_97 : decode c_X11_init 97 = .ok (.putfield 43, 3) := by decide +kernel
theorem d_X11_init_100 : decode c_X11_init 100 = .ok (.aload_n 0, 1) := by decide +kernel
theorem d_X11_init_101 : decode c_X11_init 101 = .ok (.bipush 20, 2) := by decide +kernel
theorem d_X11_init_103 : decode c_X11_init 103 = .ok (.newarray .int, 2) := by decide +kernel
theorem d_X11_init_105 : decode c_X11_init 105 = .ok (.putfield 46, 3) := by decide +kernel
theorem d_X11_init_108 : decode c_X11_init 108 = .ok (.aload_n 0, 1) := by decide +kernel
theorem d_X11_init_109 : decode c_X11_init 109 = .ok (.bipush 10, 2) := by decide +kernel
theorem d_X11_init_111 : decode c_X11_init 111 = .ok (.newarray .int, 2) := by decide +kernel
theorem d_X11_init_113 : decode c_X11_init 113 = .ok (.putfield 49, 3) := by decide +kernel
theorem d_X11_init_116 : decode c_X11_init 116 = .ok (.aload_n 0, 1) := by decide +kernel
theorem d_X11_init_117 : decode c_X11_init 117 = .ok (.bipush 10, 2) := by decide +kernel
theorem d_X11_init_119 : decode c_X11_init 119 = .ok (.newarray .int, 2) := by decide +kernel
theorem d_X11_init_121 : decode c_X11_init 121 = .ok (.putfield 52, 3) := by decide +kernel
theorem d_X11_init_124 : decode c_X11_init 124 = .ok (.aload_n 0, 1) := by decide +kernel
theorem d_X11_init_125 : decode c_X11_init 125 = .ok (.bipush 10, 2) := by decide +kernel
theorem d_X11_init_127 : decode c_X11_init 127 = .ok (.newarray .int, 2) := by decide +kernel
theorem d_X11_init_129 : decode c_X11_init 129 = .ok (.putfield 55, 3) := by decide +kernel
theorem d_X11_init_132 : decode c_X11_init 132 = .ok (.aload_n 0, 1) := by decide +kernel
theorem d_X11_init_133 : decode c_X11_init 133 = .ok (.bipush 10, 2) := by decide +kernel
theorem d_X11_init_135 : decode c_X11_init 135 = .ok (.newarray .int, 2) := by decide +kernel
theorem d_X11_init_137 : decode c_X11_init 137 = .ok (.putfield 58, 3) := by decide +kernel
theorem d_X11_init_140 : decode c_X11_init 140 = .ok (.aload_n 0, 1) := by decide +kernel
theorem d_X11_init_141 : decode c_X11_init 141 = .ok (.bipush 6, 2) := by decide +kernel
theorem d_X11_init_143 : decode c_X11_init 143 = .ok (.newarray .int, 2) := by decide +kernel
theorem d_X11_init_145 : decode c_X11_init 145 = .ok (.putfield 61, 3) := by decide +kernel
theorem d_X11_init_148 : decode c_X11_init 148 = .ok (.aload_n 0, 1) := by decide +kernel
theorem d_X11_init_149 : decode c_X11_init 149 = .ok (.bipush 6, 2) := by decide +kernel
theorem d_X11_init_151 : decode c_X11_init 151 = .ok (.newarray .int, 2) := by decide +kernel
theorem d_X11_init_153 : decode c_X11_init 153 = .ok (.putfield 64, 3) := by decide +kernel
theorem d_X11_init_156 : decode c_X11_init 156 = .ok (.aload_n 0, 1) := by decide +kernel
theorem d_X11_init_157 : decode c_X11_init 157 = .ok (.bipush 6, 2) := by decide +kernel
theorem d_X11_init_159 : decode c_X11_init 159 = .ok (.newarray .int, 2) := by decide +kernel
theorem d_X11_init_161 : decode c_X11_init 161 = .ok (.putfield 67, 3) := by decide +kernel
theorem d_X11_init_164 : decode c_X11_init 164 = .ok (.aload_n 0, 1) := by decide +kernel
theorem d_X11_init_165 : decode c_X11_init 165 = .ok (.bipush 6, 2) := by decide +kernel
theorem d_X11_init_167 : decode c_X11_init 167 = .ok (.newarray .int, 2) := by decide +kernel
theorem d_X11_init_169 : decode c_X11_init 169 = .ok (.putfield 70, 3) := by decide +kernel
theorem d_X11_init_172 : decode c_X11_init 172 = .ok (.aload_n 0, 1) := by decide +kernel
theorem d_X11_init_173 : decode c_X11_init 173 = .ok (.bipush 30, 2) := by decide +kernel
theorem d_X11_init_175 : decode c_X11_init 175 = .ok (.newarray .int, 2) := by decide +kernel
theorem d_X11_init_177 : decode c_X11_init 177 = .ok (.putfield 73, 3) := by decide +kernel
theorem d_X11_init_180 : decode c_X11_init 180 = .ok (.aload_n 0, 1) := by decide +kernel
theorem d_X11_init_181 : decode c_X11_init 181 = .ok (.bipush 30, 2) := by decide +kernel
theorem d_X11_init_183 : decode c_X11_init 183 = .ok (.putfield 76, 3) := by decide +kernel
theorem d_X11_init_186 : decode c_X11_init 186 = .ok (.aload_n 0, 1) := by decide +kernel
theorem d_X11_init_187 : decode c_X11_init 187 = .ok (.sipush 200, 3) := by decide +kernel
theorem d_X11_init_190 : decode c_X11_init 190 = .ok (.newarray .int, 2) := by decide +kernel
theorem d_X11_init_192 : decode c_X11_init 192 = .ok (.putfield 80, 3) := by decide +kernel
theorem d_X11_init_195 : decode c_X11_init 195 = .ok (.aload_n 0, 1) := by decide +kernel
theorem d_X11_init_196 : decode c_X11_init 196 = .ok (.sipush 200, 3) := by decide +kernel
theorem d_X11_init_199 : decode c_X11_init 199 = .ok (.newarray .int, 2) := by decide +kernel
theorem d_X11_init_201 : decode c_X11_init 201 = .ok (.putfield 83, 3) := by decide +kernel
theorem d_X11_init_204 : decode c_X11_init 204 = .ok (.aload_n 0, 1) := by decide +kernel
theorem d_X11_init_205 : decode c_X11_init 205 = .ok (.sipush 200, 3) := by decide +kernel
theorem d_X11_init_208 : decode c_X11_init 208 = .ok (.newarray .int, 2) := by decide +kernel
theorem d_X11_init_210 : decode c_X11_init 210 = .ok (.putfield 86, 3) := by decide +kernel
theorem d_X11_init_213 : decode c_X11_init 213 = .ok (.aload_n 0, 1) := by decide +kernel
theorem d_X11_init_214 : decode c_X11_init 214 = .ok (.sipush 200, 3) := by decide +kernel
theorem d_X11_init_217 : decode c_X11_init 217 = .ok (.newarray .int, 2) := by decide +kernel
theorem d_X11_init_219 : decode c_X11_init 219 = .ok (.putfield 89, 3) := by decide +kernel
theorem d_X11_init_222 : decode c_X11_init 222 = .ok (.aload_n 0, 1) := by decide +kernel
theorem d_X11_init_223 : decode c_X11_init 223 = .ok (.bipush 120, 2) := by decide +kernel
theorem d_X11_init_225 : decode c_X11_init 225 = .ok (.newarray .byte, 2) := by decide +kernel
theorem d_X11_init_227 : decode c_X11_init 227 = .ok (.putfield 92, 3) := by decide +kernel
theorem d_X11_init_230 : decode c_X11_init 230 = .ok (.aload_n 0, 1) := by decide +kernel
theorem d_X11_init_231 : decode c_X11_init 231 = .ok (.bipush 8, 2) := by decide +kernel
theorem d_X11_init_233 : decode c_X11_init 233 = .ok (.newarray .int, 2) := by decide +kernel
theorem d_X11_init_235 : decode c_X11_init 235 = .ok (.putfield 96, 3) := by decide +kernel
theorem d_X11_init_238 : decode c_X11_init 238 = .ok (.aload_n 0, 1) := by decide +kernel
theorem d_X11_init_239 : decode c_X11_init 239 = .ok (.bipush 8, 2) := by decide +kernel
theorem d_X11_init_241 : decode c_X11_init 241 = .ok (.newarray .int, 2) := by decide +kernel
theorem d_X11_init_243 : decode c_X11_init 243 = .ok (.putfield 99, 3) := by decide +kernel
theorem d_X11_init_246 : decode c_X11_init 246 = .ok (.aload_n 0, 1) := by decide +kernel
theorem d_X11_init_247 : decode c_X11_init 247 = .ok (.bipush 8, 2) := by decide +kernel
theorem d_X11_init_249 : decode c_X11_init 249 = .ok (.newarray .int, 2) := by decide +kernel
theorem d_X11_init_251 : decode c_X11_init 251 = .ok (.putfield 102, 3) := by decide +kernel
theorem d_X11_init_254 : decode c_X11_init 254 = .ok (.aload_n 0, 1) := by decide +kernel
theorem d_X11_init_255 : decode c_X11_init 255 = .ok (.bipush 24, 2) := by decide +kernel
theorem d_X11_init_257 : decode c_X11_init 257 = .ok (.newarray .int, 2) := by decide +kernel
theorem d_X11_init_259 : decode c_X11_init 259 = .ok (.putfield 105, 3) := by decide +kernel
theorem d_X11_init_262 : decode c_X11_init 262 = .ok (.aload_n 0, 1) := by decide +kernel
theorem d_X11_init_263 : decode c_X11_init 263 = .ok (.bipush 24, 2) := by decide +kernel
theorem d_X11_init_265 : decode c_X11_init 265 = .ok (.newarray .boolean, 2) := by decide +kernel
theorem d_X11_init_267 : decode c_X11_init 267 = .ok (.putfield 108, 3) := by decide +kernel
theorem d_X11_init_270 : decode c_X11_init 270 = .ok (.aload_n 0, 1) := by decide +kernel
theorem d_X11_init_271 : decode c_X11_init 271 = .ok (.bipush 24, 2) := by decide +kernel
theorem d_X11_init_273 : decode c_X11_init 273 = .ok (.newarray .int, 2) := by decide +kernel
theorem d_X11_init_275 : decode c_X11_init 275 = .ok (.putfield 112, 3) := by decide +kernel
theorem d_X11_init_278 : decode c_X11_init 278 = .ok (.aload_n 0, 1) := by decide +kernel
theorem d_X11_init_279 : decode c_X11_init 279 = .ok (.bipush 8, 2) := by decide +kernel
theorem d_X11_init_281 : decode c_X11_init 281 = .ok (.newarray .int, 2) := by decide +kernel
theorem d_X11_init_283 : decode c_X11_init 283 = .ok (.putfield 115, 3) := by decide +kernel
theorem d_X11_init_286 : decode c_X11_init 286 = .ok (.aload_n 0, 1) := by decide +kernel
theorem d_X11_init_287 : decode c_X11_init 287 = .ok (.bipush 20, 2) := by decide +kernel
theorem d_X11_init_289 : decode c_X11_init 289 = .ok (.newarray .int, 2) := by decide +kernel
theorem d_X11_init_291 : decode c_X11_init 291 = .ok (.putfield 118, 3) := by decide +kernel
theorem d_X11_init_294 : decode c_X11_init 294 = .ok (.aload_n 0, 1) := by decide +kernel
theorem d_X11_init_295 : decode c_X11_init 295 = .ok (.sipush 180, 3) := by decide +kernel
theorem d_X11_init_298 : decode c_X11_init 298 = .ok (.newarray .int, 2) := by decide +kernel
theorem d_X11_init_300 : decode c_X11_init 300 = .ok (.putfield 121, 3) := by decide +kernel
theorem d_X11_init_303 : decode c_X11_init 303 = .ok (.aload_n 0, 1) := by decide +kernel
theorem d_X11_init_304 : decode c_X11_init 304 = .ok (.bipush 43, 2) := by decide +kernel
theorem d_X11_init_306 : decode c_X11_init 306 = .ok (.newarray .int, 2) := by decide +kernel
theorem d_X11_init_308 : decode c_X11_init 308 = .ok (.putfield 124, 3) := by decide +kernel
theorem d_X11_init_311 : decode c_X11_init 311 = .ok (.aload_n 0, 1) := by decide +kernel
theorem d_X11_init_312 : decode c_X11_init 312 = .ok (.sipush 800, 3) := by decide +kernel
theorem d_X11_init_315 : decode c_X11_init 315 = .ok (.newarray .int, 2) := by decide +kernel
theorem d_X11_init_317 : decode c_X11_init 317 = .ok (.putfield 127, 3) := by decide +kernel
theorem d_X11_init_320 : decode c_X11_init 320 = .ok (.aload_n 0, 1) := by decide +kernel
theorem d_X11_init_321 : decode c_X11_init 321 = .ok (.bipush 80, 2) := by decide +kernel
theorem d_X11_init_323 : decode c_X11_init 323 = .ok (.newarray .int, 2) := by decide +kernel
theorem d_X11_init_325 : decode c_X11_init 325 = .ok (.putfield 130, 3) := by decide +kernel
theorem d_X11_init_328 : decode c_X11_init 328 = .ok (.aload_n 0, 1) := by decide +kernel
theorem d_X11_init_329 : decode c_X11_init 329 = .ok (.bipush 10, 2) := by decide +kernel
theorem d_X11_init_331 : decode c_X11_init 331 = .ok (.newarray .int, 2) := by decide +kernel
theorem d_X11_init_333 : decode c_X11_init 333 = .ok (.putfield 133, 3) := by decide +kernel
theorem d_X11_init_336 : decode c_X11_init 336 = .ok (.aload_n 0, 1) := by decide +kernel
theorem d_X11_init_337 : decode c_X11_init 337 = .ok (.bipush 10, 2) := by decide +kernel
theorem d_X11_init_339 : decode c_X11_init 339 = .ok (.newarray .int, 2) := by decide +kernel
theorem d_X11_init_341 : decode c_X11_init 341 = .ok (.putfield 136, 3) := by decide +kernel
theorem d_X11_init_344 : decode c_X11_init 344 = .ok (.aload_n 0, 1) := by decide +kernel
theorem d_X11_init_345 : decode c_X11_init 345 = .ok (.bipush 20, 2) := by decide +kernel
theorem d_X11_init_347 : decode c_X11_init 347 = .ok (.newarray .int, 2) := by decide +kernel
theorem d_X11_init_349 : decode c_X11_init 349 = .ok (.putfield 139, 3) := by decide +kernel
theorem d_X11_init_352 : decode c_X11_init 352 = .ok (.aload_n 0, 1) := by decide +kernel
theorem d_X11_init_353 : decode c_X11_init 353 = .ok (.bipush 7, 2) := by decide +kernel
theorem d_X11_init_355 : decode c_X11_init 355 = .ok (.newarray .int, 2) := by decide +kernel
theorem d_X11_init_357 : decode c_X11_init 357 = .ok (.putfield 142, 3) := by decide +kernel
theorem d_X11_init_360 : decode c_X11_init 360 = .ok (.aload_n 0, 1) := by decide +kernel
theorem d_X11_init_361 : decode c_X11_init 361 = .ok (.iconst 3, 1) := by decide +kernel
theorem d_X11_init_362 : decode c_X11_init 362 = .ok (.newarray .int, 2) := by decide +kernel
theorem d_X11_init_364 : decode c_X11_init 364 = .ok (.putfield 145, 3) := by decide +kernel
theorem d_X11_init_367 : decode c_X11_init 367 = .ok (.aload_n 0, 1) := by decide +kernel
theorem d_X11_init_368 : decode c_X11_init 368 = .ok (.bipush 20, 2) := by decide +kernel
theorem d_X11_init_370 : decode c_X11_init 370 = .ok (.newarray .boolean, 2) := by decide +kernel
theorem d_X11_init_372 : decode c_X11_init 372 = .ok (.putfield 148, 3) := by decide +kernel
theorem d_X11_init_375 : decode c_X11_init 375 = .ok (.aload_n 0, 1) := by decide +kernel
theorem d_X11_init_376 : decode c_X11_init 376 = .ok (.bipush 20, 2) := by decide +kernel
theorem d_X11_init_378 : decode c_X11_init 378 = .ok (.newarray .int, 2) := by decide +kernel
theorem d_X11_init_380 : decode c_X11_init 380 = .ok (.putfield 151, 3) := by decide +kernel
theorem d_X11_init_383 : decode c_X11_init 383 = .ok (.aload_n 0, 1) := by decide +kernel
theorem d_X11_init_384 : decode c_X11_init 384 = .ok (.bipush 10, 2) := by decide +kernel
theorem d_X11_init_386 : decode c_X11_init 386 = .ok (.newarray .int, 2) := by decide +kernel
theorem d_X11_init_388 : decode c_X11_init 388 = .ok (.putfield 154, 3) := by decide +kernel
theorem d_X11_init_391 : decode c_X11_init 391 = .ok (.aload_n 0, 1) := by decide +kernel
theorem d_X11_init_392 : decode c_X11_init 392 = .ok (.bipush 20, 2) := by decide +kernel
theorem d_X11_init_394 : decode c_X11_init 394 = .ok (.putfield 157, 3) := by decide +kernel
theorem d_X11_init_397 : decode c_X11_init 397 = .ok (.aload_n 0, 1) := by decide +kernel
theorem d_X11_init_398 : decode c_X11_init 398 = .ok (.bipush 28, 2) := by decide +kernel
theorem d_X11_init_400 : decode c_X11_init 400 = .ok (.putfield 160, 3) := by decide +kernel
theorem d_X11_init_403 : decode c_X11_init 403 = .ok (.return_, 1) := by decide +kernel
