theorem d_X11_findTurns_0 : decode c_X11_findTurns 0 = .ok (.aload_n 0, 1) := by decide +kernel
theorem d_X11_findTurns_1 : decode c_X11_findTurns 1 = .ok (.iconst 0, 1) := by decide +kernel
theorem d_X11_findTurns_2 : decode c_X11_findTurns 2 = .ok (.putfield 233, 3) := by decide +kernel
theorem d_X11_findTurns_5 : decode c_X11_findTurns 5 = .ok (.iconst 0, 1) := by decide +kernel
theorem d_X11_findTurns_6 : decode c_X11_findTurns 6 = .ok (.istore_n 2, 1) := by decide +kernel
theorem d_X11_findTurns_7 : decode c_X11_findTurns 7 = .ok (.iload_n 2, 1) := by decide +kernel
theorem d_X11_findTurns_8 : decode c_X11_findTurns 8 = .ok (.aload_n 0, 1) := by decide +kernel
theorem d_X11_findTurns_9 : decode c_X11_findTurns 9 = .ok (.getfield 166, 3) := by decide +kernel
theorem d_X11_findTurns_12 : decode c_X11_findTurns 12 = .ok (.if_icmp .ge 105, 3) := by decide +kernel
theorem d_X11_findTurns_15 : decode c_X11_findTurns 15 = .ok (.aload_n 0, 1) := by decide +kernel
theorem d_X11_findTurns_16 : decode c_X11_findTurns 16 = .ok (.getfield 7, 3) := by decide +kernel
theorem d_X11_findTurns_19 : decode c_X11_findTurns 19 = .ok (.iload_n 2, 1) := by decide +kernel
theorem d_X11_findTurns_20 : decode c_X11_findTurns 20 = .ok (.iaload, 1) := by decide +kernel
theorem d_X11_findTurns_21 : decode c_X11_findTurns 21 = .ok (.iconst 1, 1) := by decide +kernel
theorem d_X11_findTurns_22 : decode c_X11_findTurns 22 = .ok (.if_icmp .gt 89, 3) := by decide +kernel
theorem d_X11_findTurns_25 : decode c_X11_findTurns 25 = .ok (.aload_n 0, 1) := by decide +kernel
theorem d_X11_findTurns_26 : decode c_X11_findTurns 26 = .ok (.getfield 31, 3) := by decide +kernel
theorem d_X11_findTurns_29 : decode c_X11_findTurns 29 = .ok (.iload_n 2, 1) := by decide +kernel
theorem d_X11_findTurns_30 : decode c_X11_findTurns 30 = .ok (.iaload, 1) := by decide +kernel
theorem d_X11_findTurns_31 : decode c_X11_findTurns 31 = .ok (.iconst 1, 1) := by decide +kernel
theorem d_X11_findTurns_32 : decode c_X11_findTurns 32 = .ok (.if_icmp .eq 16, 3) := by decide +kernel
theorem d_X11_findTurns_35 : decode c_X11_findTurns 35 = .ok (.aload_n 0, 1) := by decide +kernel
theorem d_X11_findTurns_36 : decode c_X11_findTurns 36 = .ok (.getfield 31, 3) := by decide +kernel
theorem d_X11_findTurns_39 : decode c_X11_findTurns 39 = .ok (.iload_n 2, 1) := by decide +kernel
theorem d_X11_findTurns_40 : decode c_X11_findTurns 40 = .ok (.iaload, 1) := by decide +kernel
theorem d_X11_findTurns_41 : decode c_X11_findTurns 41 = .ok (.iconst 2, 1) := by decide +kernel
theorem d_X11_findTurns_42 : decode c_X11_findTurns 42 = .ok (.if_icmp .eq 6, 3) := by decide +kernel
theorem d_X11_findTurns_45 : decode c_X11_findTurns 45 = .ok (.goto 66, 3) := by decide +kernel
theorem d_X11_findTurns_48 : decode c_X11_findTurns 48 = .ok (.aload_n 0, 1) := by decide +kernel
theorem d_X11_findTurns_49 : decode c_X11_findTurns 49 = .ok (.getfield 233, 3) := by decide +kernel
theorem d_X11_findTurns_52 : decode c_X11_findTurns 52 = .ok (.istore_n 3, 1) := by decide +kernel
theorem d_X11_findTurns_53 : decode c_X11_findTurns 53 = .ok (.iload_n 3, 1) := by decide +kernel
theorem d_X11_findTurns_54 : decode c_X11_findTurns 54 = .ok (.ifCond .le 40, 3) := by decide +kernel
theorem d_X11_findTurns_57 : decode c_X11_findTurns 57 = .ok (.aload_n 0, 1) := by decide +kernel
theorem d_X11_findTurns_58 : decode c_X11_findTurns 58 = .ok (.iload_n 2, 1) := by decide +kernel
theorem d_X11_findTurns_59 : decode c_X11_findTurns 59 = .ok (.aload_n 0, 1) := by decide +kernel
theorem d_X11_findTurns_60 : decode c_X11_findTurns 60 = .ok (.getfield 118, 3) := by decide +kernel
theorem d_X11_findTurns_63 : decode c_X11_findTurns 63 = .ok (.iload_n 3, 1) := by decide +kernel
theorem d_X11_findTurns_64 : decode c_X11_findTurns 64 = .ok (.iconst 1, 1) := by decide +kernel
theorem d_X11_findTurns_65 : decode c_X11_findTurns 65 = .ok (.isub, 1) := by decide +kernel
theorem d_X11_findTurns_66 : decode c_X11_findTurns 66 = .ok (.iaload, 1) := by decide +kernel
theorem d_X11_findTurns_67 : decode c_X11_findTurns 67 = .ok (.iload_n 1, 1) := by decide +kernel
theorem d_X11_findTurns_68 : decode c_X11_findTurns 68 = .ok (.invokevirtual 236, 3) := by decide +kernel
theorem d_X11_findTurns_71 : decode c_X11_findTurns 71 = .ok (.ifCond .eq 23, 3) := by decide +kernel
theorem d_X11_findTurns_74 : decode c_X11_findTurns 74 = .ok (.aload_n 0, 1) := by decide +kernel
theorem d_X11_findTurns_75 : decode c_X11_findTurns 75 = .ok (.getfield 118, 3) := by decide +kernel
theorem d_X11_findTurns_78 : decode c_X11_findTurns 78 = .ok (.iload_n 3, 1) := by decide +kernel
theorem d_X11_findTurns_79 : decode c_X11_findTurns 79 = .ok (.aload_n 0, 1) := by decide +kernel
theorem d_X11_findTurns_80 : decode c_X11_findTurns 80 = .ok (.getfield 118, 3) := by decide +kernel
theorem d_X11_findTurns_83 : decode c_X11_findTurns 83 = .ok (.iload_n 3, 1) := by decide +kernel
theorem d_X11_findTurns_84 : decode c_X11_findTurns 84 = .ok (.iconst 1, 1) := by decide +kernel
theorem d_X11_findTurns_85 : decode c_X11_findTurns 85 = .ok (.isub, 1) := by decide +kernel
theorem d_X11_findTurns_86 : decode c_X11_findTurns 86 = .ok (.iaload, 1) := by decide +kernel
theorem d_X11_findTurns_87 : decode c_X11_findTurns 87 = .ok (.iastore, 1) := by decide +kernel
theorem d_X11_findTurns_88 : decode c_X11_findTurns 88 = .ok (.iinc 3 (-1), 3) := by decide +kernel
theorem d_X11_findTurns_91 : decode c_X11_findTurns 91 = .ok (.goto (-38), 3) := by decide +kernel
theorem d_X11_findTurns_94 : decode c_X11_findTurns 94 = .ok (.aload_n 0, 1) := by decide +kernel
theorem d_X11_findTurns_95 : decode c_X11_findTurns 95 = .ok (.getfield 118, 3) := by decide +kernel
theorem d_X11_findTurns_98 : decode c_X11_findTurns 98 = .ok (.iload_n 3, 1) := by decide +kernel
theorem d_X11_findTurns_99 : decode c_X11_findTurns 99 = .ok (.iload_n 2, 1) := by decide +kernel
theorem d_X11_findTurns_100 : decode c_X11_findTurns 100 = .ok (.iastore, 1) := by decide +kernel
theorem d_X11_findTurns_101 : decode c_X11_findTurns 101 = .ok (.aload_n 0, 1) := by decide +kernel
theorem d_X11_findTurns_102 : decode c_X11_findTurns 102 = .ok (.dup, 1) := by decide +kernel
theorem d_X11_findTurns_103 : decode c_X11_findTurns 103 = .ok (.getfield 233, 3) := by decide +kernel
theorem d_X11_findTurns_106 : decode c_X11_findTurns 106 = .ok (.iconst 1, 1) := by decide +kernel
theorem d_X11_findTurns_107 : decode c_X11_findTurns 107 = .ok (.iadd, 1) := by decide +kernel
theorem d_X11_findTurns_108 : decode c_X11_findTurns 108 = .ok (.putfield 233, 3) := by decide +kernel
theorem d_X11_findTurns_111 : decode c_X11_findTurns 111 = .ok (.iinc 2 1, 3) := by decide +kernel
theorem d_X11_findTurns_114 : decode c_X11_findTurns 114 = .ok (.goto (-107), 3) := by decide +kernel
theorem d_X11_findTurns_117 : decode c_X11_findTurns 117 = .ok (.aload_n 0, 1) := by decide +kernel
theorem d_X11_findTurns_118 : decode c_X11_findTurns 118 = .ok (.iload_n 1, 1) := by decide +kernel
theorem d_X11_findTurns_119 : decode c_X11_findTurns 119 = .ok (.aload_n 0, 1) := by decide +kernel
theorem d_X11_findTurns_120 : decode c_X11_findTurns 120 = .ok (.getfield 76, 3) := by decide +kernel
theorem d_X11_findTurns_123 : decode c_X11_findTurns 123 = .ok (.invokevirtual 223, 3) := by decide +kernel
theorem d_X11_findTurns_126 : decode c_X11_findTurns 126 = .ok (.istore_n 2, 1) := by decide +kernel
theorem d_X11_findTurns_127 : decode c_X11_findTurns 127 = .ok (.aload_n 0, 1) := by decide +kernel
theorem d_X11_findTurns_128 : decode c_X11_findTurns 128 = .ok (.aload_n 0, 1) := by decide +kernel
theorem d_X11_findTurns_129 : decode c_X11_findTurns 129 = .ok (.getfield 233, 3) := by decide +kernel
theorem d_X11_findTurns_132 : decode c_X11_findTurns 132 = .ok (.iload_n 2, 1) := by decide +kernel
theorem d_X11_findTurns_133 : decode c_X11_findTurns 133 = .ok (.if_icmp .ge 10, 3) := by decide +kernel
theorem d_X11_findTurns_136 : decode c_X11_findTurns 136 = .ok (.aload_n 0, 1) := by decide +kernel
theorem d_X11_findTurns_137 : decode c_X11_findTurns 137 = .ok (.getfield 233, 3) := by decide +kernel
theorem d_X11_findTurns_140 : decode c_X11_findTurns 140 = .ok (.goto 4, 3) := by decide +kernel
theorem d_X11_findTurns_143 : decode c_X11_findTurns 143 = .ok (.iload_n 2, 1) := by decide +kernel
theorem d_X11_findTurns_144 : decode c_X11_findTurns 144 = .ok (.putfield 233, 3) := by decide +kernel
theorem d_X11_findTurns_147 : decode c_X11_findTurns 147 = .ok (.iconst 0, 1) := by decide +kernel
theorem d_X11_findTurns_148 : decode c_X11_findTurns 148 = .ok (.istore_n 3, 1) := by decide +kernel
theorem d_X11_findTurns_149 : decode c_X11_findTurns 149 = .ok (.iload_n 3, 1) := by decide +kernel
theorem d_X11_findTurns_150 : decode c_X11_findTurns 150 = .ok (.aload_n 0, 1) := by decide +kernel
theorem d_X11_findTurns_151 : decode c_X11_findTurns 151 = .ok (.getfield 166, 3) := by decide +kernel
theorem d_X11_findTurns_154 : decode c_X11_findTurns 154 = .ok (.if_icmp .ge 52, 3) := by decide +kernel
theorem d_X11_findTurns_157 : decode c_X11_findTurns 157 = .ok (.aload_n 0, 1) := by decide +kernel
theorem d_X11_findTurns_158 : decode c_X11_findTurns 158 = .ok (.getfield 7, 3) := by decide +kernel
theorem d_X11_findTurns_161 : decode c_X11_findTurns 161 = .ok (.iload_n 3, 1) := by decide +kernel
theorem d_X11_findTurns_162 : decode c_X11_findTurns 162 = .ok (.iaload, 1) := by decide +kernel
theorem d_X11_findTurns_163 : decode c_X11_findTurns 163 = .ok (.iconst 2, 1) := by decide +kernel
theorem d_X11_findTurns_164 : decode c_X11_findTurns 164 = .ok (.if_icmp .ne 36, 3) := by decide +kernel
theorem d_X11_findTurns_167 : decode c_X11_findTurns 167 = .ok (.aload_n 0, 1) := by decide +kernel
theorem d_X11_findTurns_168 : decode c_X11_findTurns 168 = .ok (.getfield 31, 3) := by decide +kernel
theorem d_X11_findTurns_171 : decode c_X11_findTurns 171 = .ok (.iload_n 3, 1) := by decide +kernel
theorem d_X11_findTurns_172 : decode c_X11_findTurns 172 = .ok (.iaload, 1) := by decide +kernel
theorem d_X11_findTurns_173 : decode c_X11_findTurns 173 = .ok (.iconst 1, 1) := by decide +kernel
theorem d_X11_findTurns_174 : decode c_X11_findTurns 174 = .ok (.if_icmp .eq 6, 3) := by decide +kernel
theorem d_X11_findTurns_177 : decode c_X11_findTurns 177 = .ok (.goto 23, 3) := by decide +kernel
theorem d_X11_findTurns_180 : decode c_X11_findTurns 180 = .ok (.aload_n 0, 1) := by decide +kernel
theorem d_X11_findTurns_181 : decode c_X11_findTurns 181 = .ok (.getfield 118, 3) := by decide +kernel
theorem d_X11_findTurns_184 : decode c_X11_findTurns 184 = .ok (.aload_n 0, 1) := by decide +kernel
theorem d_X11_findTurns_185 : decode c_X11_findTurns 185 = .ok (.getfield 233, 3) := by decide +kernel
theorem d_X11_findTurns_188 : decode c_X11_findTurns 188 = .ok (.iload_n 3, 1) := by decide +kernel
theorem d_X11_findTurns_189 : decode c_X11_findTurns 189 = .ok (.iastore, 1) := by decide +kernel
theorem d_X11_findTurns_190 : decode c_X11_findTurns 190 = .ok (.aload_n 0, 1) := by decide +kernel
theorem d_X11_findTurns_191 : decode c_X11_findTurns 191 = .ok (.dup, 1) := by decide +kernel
theorem d_X11_findTurns_192 : decode c_X11_findTurns 192 = .ok (.getfield 233, 3) := by decide +kernel
theorem d_X11_findTurns_195 : decode c_X11_findTurns 195 = .ok (.iconst 1, 1) := by decide +kernel
theorem d_X11_findTurns_196 : decode c_X11_findTurns 196 = .ok (.iadd, 1) := by decide +kernel
theorem d_X11_findTurns_197 : decode c_X11_findTurns 197 = .ok (.putfield 233, 3) := by decide +kernel
theorem d_X11_findTurns_200 : decode c_X11_findTurns 200 = .ok (.iinc 3 1, 3) := by decide +kernel
theorem d_X11_findTurns_203 : decode c_X11_findTurns 203 = .ok (.goto (-54), 3) := by decide +kernel
theorem d_X11_findTurns_206 : decode c_X11_findTurns 206 = .ok (.return_, 1) := by decide +kernel
def kp_X11_findTurns_400 (od : Int32) (a j : Nat) : Prop := (a ≠ 400 ∨ (j ≠ 44)) ∧ a ≠ 446
def b_X11_findTurns_400_7 (od : Int32) (rc7 : Int32 → tV → tV) (rc53 : Int32 → Int32 → tV → tV) (rc149 : Int32 → tV → tV) (y2 : Int32) (v1 : tV) : tV := bnd (v1 400 44) fun m0 => bnd (v1 400 27) fun g0 => bnd (v1 400 1) fun x1 => (if x1 ≤ y2 then bnd (v1 400 26) fun x6 => bnd (f_X11_manyBy_400 v1 od x6) fun x8 => (if x8 ≤ m0 then bnd (up2 v1 400 44 x8) fun v14 => rc149 0 v14 else bnd (up2 v1 400 44 m0) fun v22 => rc149 0 v22) else bnd (v1 403 y2.toNatClampNeg) fun x31 => (if (1 : Int32) < x31 then bnd (y2 + 1) fun x36 => rc7 x36 v1 else bnd (v1 410 y2.toNatClampNeg) fun x41 => (if x41 = (1 : Int32) then rc53 y2 m0 v1 else bnd (v1 410 y2.toNatClampNeg) fun x47 => (if x47 = (2 : Int32) then rc53 y2 m0 v1 else bnd (y2 + 1) fun x53 => rc7 x53 v1))))
def b_X11_findTurns_400_53 (od : Int32) (rc7 : Int32 → tV → tV) (rc53 : Int32 → Int32 → tV → tV) (y2 : Int32) (y3 : Int32) (v1 : tV) : tV := bnd (v1 400 44) fun m0 => bnd (v1 400 27) fun g0 => (if y3 ≤ (0 : Int32) then bnd (up2 v1 446 (y3.toNatClampNeg) y2) fun v59 => bnd (m0 + (1 : Int32)) fun x64 => bnd (up2 v59 400 44 x64) fun v67 => bnd (y2 + 1) fun x72 => rc7 x72 v67 else bnd (y3 - (1 : Int32)) fun x77 => bnd (v1 446 x77.toNatClampNeg) fun x80 => bnd (f_X11_isAhead_400 v1 y2 x80 od) fun x83 => (if x83 = (0 : Int32) then bnd (up2 v1 446 (y3.toNatClampNeg) y2) fun v89 => bnd (m0 + (1 : Int32)) fun x94 => bnd (up2 v89 400 44 x94) fun v97 => bnd (y2 + 1) fun x102 => rc7 x102 v97 else bnd (y3 - (1 : Int32)) fun x107 => bnd (v1 446 x107.toNatClampNeg) fun x110 => bnd (up2 v1 446 (y3.toNatClampNeg) x110) fun v112 => bnd (y3 + -1) fun x117 => rc53 y2 x117 v112))
def b_X11_findTurns_400_149 (od : Int32) (rc149 : Int32 → tV → tV) (y3 : Int32) (v1 : tV) : tV := bnd (v1 400 44) fun m0 => bnd (v1 400 27) fun g0 => bnd (v1 400 1) fun x120 => (if x120 ≤ y3 then v1 else bnd (v1 403 y3.toNatClampNeg) fun x128 => (if x128 = (2 : Int32) then bnd (v1 410 y3.toNatClampNeg) fun x137 => (if x137 = (1 : Int32) then bnd (up2 v1 446 (m0.toNatClampNeg) y3) fun v142 => bnd (m0 + (1 : Int32)) fun x149 => bnd (up2 v142 400 44 x149) fun v152 => bnd (y3 + 1) fun x159 => rc149 x159 v152 else bnd (y3 + 1) fun x163 => rc149 x163 v1) else bnd (y3 + 1) fun x132 => rc149 x132 v1))
def g_X11_findTurns_400_149 (od : Int32) : Nat → Int32 → tV → tV
  | 0, _, v1 => v1
  | n + 1, y3, v1 => b_X11_findTurns_400_149 od (g_X11_findTurns_400_149 od n) y3 v1
def g_X11_findTurns_400 (od : Int32) : Nat → Nat → Int32 → Int32 → tV → tV
  | 0, _, _, _, v1 => v1
  | n + 1, 0, y2, _, v1 => b_X11_findTurns_400_7 od (fun y2 w1 => g_X11_findTurns_400 od n 0 y2 0 w1) (fun y2 y3 w1 => g_X11_findTurns_400 od n 1 y2 y3 w1) (g_X11_findTurns_400_149 od n) y2 v1
  | n + 1, _, y2, y3, v1 => b_X11_findTurns_400_53 od (fun y2 w1 => g_X11_findTurns_400 od n 0 y2 0 w1) (fun y2 y3 w1 => g_X11_findTurns_400 od n 1 y2 y3 w1) y2 y3 v1
def g_X11_findTurns_400_7 (od : Int32) (n : Nat) : Int32 → tV → tV := (fun y2 w1 => g_X11_findTurns_400 od n 0 y2 0 w1)
def g_X11_findTurns_400_53 (od : Int32) (n : Nat) : Int32 → Int32 → tV → tV := (fun y2 y3 w1 => g_X11_findTurns_400 od n 1 y2 y3 w1)
def f_X11_findTurns_400 (v : tV) (od : Int32) : tV := bnd (v 400 27) fun g0 => bnd (up2 v 400 44 0) fun v166 => g_X11_findTurns_400_7 od 100000 0 v166
set_option maxHeartbeats 4000000 in
set_option maxRecDepth 100000 in
theorem ct_X11_findTurns_400 (l : Launch) (D : va_G) (dA : Nat → ClassId) (ad : Nat → Nat) (v : tV) (hI : Inv v) (od : Int32) (r_od : Rg od (-1) 7) : Met l m_X11_findTurns [.code m_X11_findTurns c_X11_findTurns 4 none] ({ frames := 3, cells := 0, slots := 0, locals := 87 } : Room) (tP D dA ad v [.ref (ad 400), .int od]) (tQv D dA ad (fun v' => (Inv v' ∧ Kp (kp_X11_findTurns_400 od) v v' ∧ v' 400 27 = v 400 27) ∧ v' = f_X11_findTurns_400 v od)) 0 0 (tA ad) := by
  refine tMet (by decide) (Nat.le_of_ble_eq_true rfl) ?_
  intro p e s m below meth c ls X hr hlocks hw hl
  have X : CX p s m ([.ref (ad 400), .int od] : List Value).toArray c c_X11_findTurns N_X11 4 D dA := X
  have hx := X.1
  have hb := X.2.1
  have hS : va_S (tA ad) s.heap s.heap [] := va_S.rf
  have hl : lv_has ls 4 [(0, .ref (ad 400)), (1, .int od)] := hl
  obtain ⟨g0, hg0⟩ : ∃ g, v 400 27 = g := ⟨_, rfl⟩
  have r_g0 : Rg g0 0 200 := by rw [← hg0]; exact hI 400 27 _ _ rfl
  obtain ⟨RR, eRR⟩ : ∃ z, f_X11_findTurns_400 v od = z := ⟨_, rfl⟩
  have LL : ∀ n : Nat, (∀ (y2 : Int32) (m0 : Int32) (v1 : tV) (H : Heap) (locs : List Loc) (ls : Array Slot), (20 - y2.toInt).toNat * 100 + 10050 < n → Rg y2 0 20 → Rg m0 0 20 → Inv v1 → Kp (kp_X11_findTurns_400 od) v v1 → v1 400 44 = m0 → v1 400 27 = g0 → m0.toInt ≤ (cKa (v 403) y2.toNatClampNeg : Int) → g_X11_findTurns_400_7 od n y2 v1 = RR → tI D dA ad v1 H → va_S (tA ad) s.heap H locs → lv_has ls 4 [(0, .ref (ad 400)), (1, .int od), (2, .int y2)] → W p l e ({ frames := 3, cells := 0, slots := 0, locals := 87 } : Room) s m ([.ref (ad 400), .int od] : List Value).toArray below meth c H locs 0 0 (MQ below (tQv D dA ad (fun v' => (Inv v' ∧ Kp (kp_X11_findTurns_400 od) v v' ∧ v' 400 27 = v 400 27) ∧ v' = f_X11_findTurns_400 v od)) ([.ref (ad 400), .int od] : List Value).toArray s 0 0 (tA ad)) (F0 m 7 ls [])) ∧ (∀ (y2 : Int32) (y3 : Int32) (m0 : Int32) (v1 : tV) (H : Heap) (locs : List Loc) (ls : Array Slot), (20 - y2.toInt).toNat * 100 + 10000 + y3.toInt.toNat < n → Rg y2 0 19 → Rg y3 0 19 → Rg m0 0 19 → Inv v1 → Kp (kp_X11_findTurns_400 od) v v1 → v1 400 44 = m0 → v1 400 27 = g0 → m0.toInt + 1 ≤ (cKa (v 403) (y2.toNatClampNeg + 1) : Int) → g_X11_findTurns_400_53 od n y2 y3 v1 = RR → tI D dA ad v1 H → va_S (tA ad) s.heap H locs → lv_has ls 4 [(0, .ref (ad 400)), (1, .int od), (2, .int y2), (3, .int y3)] → W p l e ({ frames := 3, cells := 0, slots := 0, locals := 87 } : Room) s m ([.ref (ad 400), .int od] : List Value).toArray below meth c H locs 0 0 (MQ below (tQv D dA ad (fun v' => (Inv v' ∧ Kp (kp_X11_findTurns_400 od) v v' ∧ v' 400 27 = v 400 27) ∧ v' = f_X11_findTurns_400 v od)) ([.ref (ad 400), .int od] : List Value).toArray s 0 0 (tA ad)) (F0 m 53 ls [])) ∧ (∀ (y3 : Int32) (m0 : Int32) (v1 : tV) (H : Heap) (locs : List Loc) (ls : Array Slot), (20 - y3.toInt).toNat < n → Rg y3 0 20 → Rg m0 0 20 → Inv v1 → Kp (kp_X11_findTurns_400 od) v v1 → v1 400 44 = m0 → v1 400 27 = g0 → m0.toInt ≤ (cKa (v 403) 20 : Int) + (cKb (v 403) y3.toNatClampNeg : Int) → g_X11_findTurns_400_149 od n y3 v1 = RR → tI D dA ad v1 H → va_S (tA ad) s.heap H locs → lv_has ls 4 [(0, .ref (ad 400)), (3, .int y3)] → W p l e ({ frames := 3, cells := 0, slots := 0, locals := 87 } : Room) s m ([.ref (ad 400), .int od] : List Value).toArray below meth c H locs 0 0 (MQ below (tQv D dA ad (fun v' => (Inv v' ∧ Kp (kp_X11_findTurns_400 od) v v' ∧ v' 400 27 = v 400 27) ∧ v' = f_X11_findTurns_400 v od)) ([.ref (ad 400), .int od] : List Value).toArray s 0 0 (tA ad)) (F0 m 149 ls [])) := by
    intro n
    induction n with
    | zero => refine ⟨?_, ?_, ?_⟩ <;> (intros; omega)
    | succ n ih =>
      obtain ⟨ih0, ih1, ih2⟩ := ih
      refine ⟨?_, ?_, ?_⟩
      · intro y2 m0 v1 H locs ls hmu r_y2 r_m0 hI1 hK1 h_m0 hfx0 hex hG hw hS hl
        have hG : b_X11_findTurns_400_7 od (g_X11_findTurns_400_7 od n) (g_X11_findTurns_400_53 od n) (g_X11_findTurns_400_149 od n) y2 v1 = RR := hG
        unfold b_X11_findTurns_400_7 at hG
        have hG := bnd_use h_m0.symm hG
        have hG := bnd_use hfx0.symm hG
        refine lv_iload_n hx hb d_X11_findTurns_7 rfl (lv_at hl 2 rfl) ?_
        refine lv_aload_n hx hb d_X11_findTurns_8 rfl (lv_at hl 0 rfl) ?_
        refine r_geti X hw FL_X11_166 (rfl : KD 400 = _) rfl d_X11_findTurns_9 ?_
        refine lv_topi (fun x1 ex1 => ?_)
        have hG := bnd_use ex1 hG
        have r2 : Rg x1 0 20 := by rw [ex1]; exact hI1 _ _ _ _ rfl
        have hm3 : v1 400 1 = x1 := ex1.symm
        refine lv_icmp_ge (tgt := 117) hx hb d_X11_findTurns_12 (by decide) (fun c4 => ?_) (fun c4 => ?_)
        · have f5 := i_le c4
          have hG := g_pos c4 hG
          refine lv_aload_n hx hb d_X11_findTurns_117 rfl (lv_at hl 0 rfl) ?_
          refine lv_iload_n hx hb d_X11_findTurns_118 rfl (lv_at hl 1 rfl) ?_
          refine lv_aload_n hx hb d_X11_findTurns_119 rfl (lv_at hl 0 rfl) ?_
          refine r_geti X hw FL_X11_76 (rfl : KD 400 = _) rfl d_X11_findTurns_120 ?_
          refine lv_topi (fun x6 ex6 => ?_)
          have hG := bnd_use ex6 hG
          refine r_ci (r_runV (n := 2) (As := [.int od, .int x6]) (rest := []) X hw (ct_X11_manyBy_400 l D dA ad v1 hI1 od x6 r_od) gc_X11_223 (rfl : KD 400 = _) (by decide) rfl (by decide +kernel) ⟨rfl, rfl, Nat.le_of_ble_eq_true rfl, Nat.le_of_ble_eq_true rfl⟩ rfl hl.1 rfl (Nat.le_of_ble_eq_true rfl) ⟨Nat.zero_le _, Nat.zero_le _⟩ d_X11_findTurns_123) hS (fun x8 v9 H locs hp7 hw hS => ?_)
          obtain ⟨hp7, hE10⟩ := hp7
          obtain ⟨ev9, hp7⟩ := hp7
          rw [ev9] at hw
          have hG := bnd_use hE10 hG
          refine lv_istore_n (lv' := [(2, .int x8), (0, .ref (ad 400)), (1, .int od)]) hx hb d_X11_findTurns_126 rfl hl (by decide) rfl (fun ls hl => ?_)
          refine lv_aload_n hx hb d_X11_findTurns_127 rfl (lv_at hl 1 rfl) ?_
          refine lv_aload_n hx hb d_X11_findTurns_128 rfl (lv_at hl 1 rfl) ?_
          refine r_geti X hw FL_X11_233 (rfl : KD 400 = _) rfl d_X11_findTurns_129 ?_
          refine lv_seti h_m0 ?_
          refine lv_iload_n hx hb d_X11_findTurns_132 rfl (lv_at hl 0 rfl) ?_
          refine lv_icmp_ge (tgt := 143) hx hb d_X11_findTurns_133 (by decide) (fun c11 => ?_) (fun c11 => ?_)
          · have f12 := i_le c11
            have r13 : Rg x8 0 20 := by obtain ⟨a1, a2⟩ := r_m0; obtain ⟨b1, b2⟩ := hp7; have f := i_le c11; exact ⟨by omega, by omega⟩
            have hG := g_pos c11 hG
            refine lv_iload_n hx hb d_X11_findTurns_143 rfl (lv_at hl 0 rfl) ?_
            refine r_put X hw hS FP_X11_233 (rfl : KD 400 = _) rfl ⟨rfl, rfl⟩ d_X11_findTurns_144 (fun H locs hw hS => ?_)
            obtain ⟨v14, ev14⟩ : ∃ z, z = up2 v1 400 44 x8 := ⟨_, rfl⟩
            rw [← ev14] at hw
            have hG := bnd_use ev14 hG
            have hI15 : Inv v14 := by rw [ev14]; exact Inv.putr hI1 rfl r13
            have hK16 : Kp (kp_X11_findTurns_400 od) v v14 := by rw [ev14]; exact Kp.put hK1 _ (by unfold kp_X11_findTurns_400; omega)
            have hm17 : v14 400 27 = g0 := by rw [ev14, up2_n _ _ (by omega)]; exact hfx0
            have hm18 : v14 400 1 = x1 := by rw [ev14, up2_n _ _ (by omega)]; exact hm3
            have hm19 : v14 400 44 = x8 := by rw [ev14, up2_s]
            refine lv_iconst (v := 0) hx hb d_X11_findTurns_147 (by decide) ?_
            refine lv_istore_n (lv' := [(3, .int 0), (2, .int x8), (0, .ref (ad 400)), (1, .int od)]) hx hb d_X11_findTurns_148 rfl hl (by decide) rfl (fun ls hl => ?_)
            exact ih2 0 x8 v14 _ _ _ (by have q_ := r_od; obtain ⟨_, _⟩ := q_; have q_ := r_g0; obtain ⟨_, _⟩ := q_; have q_ := r_y2; obtain ⟨_, _⟩ := q_; have q_ := r_m0; obtain ⟨_, _⟩ := q_; have q_ := r2; obtain ⟨_, _⟩ := q_; have q_ := r13; obtain ⟨_, _⟩ := q_; have q_ : (0 : Int32).toInt = 0 := rfl; omega) (rg_w (⟨by decide, by decide⟩ : Rg 0 0 0) (by decide) (by decide)) r13 hI15 hK16 hm19 hm17 (by have q_ := r_od; obtain ⟨_, _⟩ := q_; have q_ := r_g0; obtain ⟨_, _⟩ := q_; have q_ := r_y2; obtain ⟨_, _⟩ := q_; have q_ := r_m0; obtain ⟨_, _⟩ := q_; have q_ := r2; obtain ⟨_, _⟩ := q_; have q_ := r13; obtain ⟨_, _⟩ := q_; have q := cKa_up (v 403) (a := y2.toNatClampNeg) (b := 20) (by have := Rg.nat (b := 20) r_y2; omega); omega) hG hw hS (lv_sub hl [2, 0] rfl)
          · have f20 := i_nle c11
            have r21 : Rg x8 1 99 := by obtain ⟨a1, a2⟩ := r_m0; obtain ⟨b1, b2⟩ := hp7; have f := i_nle c11; exact ⟨by omega, by omega⟩
            have hG := g_neg c11 hG
            refine lv_aload_n hx hb d_X11_findTurns_136 rfl (lv_at hl 1 rfl) ?_
            refine r_geti X hw FL_X11_233 (rfl : KD 400 = _) rfl d_X11_findTurns_137 ?_
            refine lv_seti h_m0 ?_
            refine lv_goto (tgt := 144) hx hb d_X11_findTurns_140 (by decide) ?_
            refine r_put X hw hS FP_X11_233 (rfl : KD 400 = _) rfl ⟨rfl, rfl⟩ d_X11_findTurns_144 (fun H locs hw hS => ?_)
            obtain ⟨v22, ev22⟩ : ∃ z, z = up2 v1 400 44 m0 := ⟨_, rfl⟩
            rw [← ev22] at hw
            have hG := bnd_use ev22 hG
            have hI23 : Inv v22 := by rw [ev22]; exact Inv.putr hI1 rfl r_m0
            have hK24 : Kp (kp_X11_findTurns_400 od) v v22 := by rw [ev22]; exact Kp.put hK1 _ (by unfold kp_X11_findTurns_400; omega)
            have hm25 : v22 400 27 = g0 := by rw [ev22, up2_n _ _ (by omega)]; exact hfx0
            have hm26 : v22 400 1 = x1 := by rw [ev22, up2_n _ _ (by omega)]; exact hm3
            have hm27 : v22 400 44 = m0 := by rw [ev22, up2_s]
            refine lv_iconst (v := 0) hx hb d_X11_findTurns_147 (by decide) ?_
            refine lv_istore_n (lv' := [(3, .int 0), (2, .int x8), (0, .ref (ad 400)), (1, .int od)]) hx hb d_X11_findTurns_148 rfl hl (by decide) rfl (fun ls hl => ?_)
            exact ih2 0 m0 v22 _ _ _ (by have q_ := r_od; obtain ⟨_, _⟩ := q_; have q_ := r_g0; obtain ⟨_, _⟩ := q_; have q_ := r_y2; obtain ⟨_, _⟩ := q_; have q_ := r_m0; obtain ⟨_, _⟩ := q_; have q_ := r2; obtain ⟨_, _⟩ := q_; have q_ := r21; obtain ⟨_, _⟩ := q_; have q_ : (0 : Int32).toInt = 0 := rfl; omega) (rg_w (⟨by decide, by decide⟩ : Rg 0 0 0) (by decide) (by decide)) r_m0 hI23 hK24 hm27 hm25 (by have q_ := r_od; obtain ⟨_, _⟩ := q_; have q_ := r_g0; obtain ⟨_, _⟩ := q_; have q_ := r_y2; obtain ⟨_, _⟩ := q_; have q_ := r_m0; obtain ⟨_, _⟩ := q_; have q_ := r2; obtain ⟨_, _⟩ := q_; have q_ := r21; obtain ⟨_, _⟩ := q_; have q := cKa_up (v 403) (a := y2.toNatClampNeg) (b := 20) (by have := Rg.nat (b := 20) r_y2; omega); omega) hG hw hS (lv_sub hl [2, 0] rfl)
        · have f28 := i_nle c4
          have r29 : Rg y2 0 19 := by obtain ⟨a1, a2⟩ := r_y2; obtain ⟨b1, b2⟩ := r2; have f := i_nle c4; exact ⟨by omega, by omega⟩
          have r30 : Rg x1 1 20 := by obtain ⟨a1, a2⟩ := r_y2; obtain ⟨b1, b2⟩ := r2; have f := i_nle c4; exact ⟨by omega, by omega⟩
          have hG := g_neg c4 hG
          refine lv_aload_n hx hb d_X11_findTurns_15 rfl (lv_at hl 0 rfl) ?_
          refine r_getr (r := 403) X hw FL_X11_7 (rfl : KD 400 = _) rfl d_X11_findTurns_16 ?_
          refine lv_iload_n hx hb d_X11_findTurns_19 rfl (lv_at hl 2 rfl) ?_
          refine r_iald X hw (rfl : KD 403 = _) (Rg.vp (b := 19) r29 (by decide)) rfl d_X11_findTurns_20 ?_
          refine lv_topi (fun x31 ex31 => ?_)
          have hG := bnd_use ex31 hG
          have hm32 : v1 403 y2.toNatClampNeg = x31 := ex31.symm
          refine lv_iconst (v := 1) hx hb d_X11_findTurns_21 (by decide) ?_
          refine lv_icmp_gt (tgt := 111) hx hb d_X11_findTurns_22 (by decide) (fun c33 => ?_) (fun c33 => ?_)
          · have f34 := i_lt c33
            have r35 : Rg x31 2 2147483647 := by obtain ⟨a1, a2⟩ := (rg_any x31); obtain ⟨b1, b2⟩ := (⟨by decide, by decide⟩ : Rg 1 1 1); have f := i_lt c33; exact ⟨by omega, by omega⟩
            have hG := g_pos c33 hG
            obtain ⟨x36, ex36⟩ : ∃ y : Int32, y = y2 + 1 := ⟨_, rfl⟩
            have hG := bnd_use ex36 hG
            refine lv_iinc (v := x36) (lv' := [(2, .int x36), (0, .ref (ad 400)), (1, .int od)]) hx hb d_X11_findTurns_111 hl (k := 2) rfl (by rw [ex36]; rfl) (by decide) rfl (fun ls hl => ?_)
            have r37 : Rg x36 1 20 := rg_add ex36 r29 (⟨by decide, by decide⟩ : Rg 1 1 1) (by decide) (by decide)
            have s38 : x36.toInt = y2.toInt + (1 : Int32).toInt := by rw [ex36]; exact i_add (by obtain ⟨_, _⟩ := r29; obtain ⟨_, _⟩ := (⟨by decide, by decide⟩ : Rg 1 1 1); omega) (by obtain ⟨_, _⟩ := r29; obtain ⟨_, _⟩ := (⟨by decide, by decide⟩ : Rg 1 1 1); omega)
            have s38l : (1 : Int32).toInt = 1 := rfl
            refine lv_goto (tgt := 7) hx hb d_X11_findTurns_114 (by decide) ?_
            exact ih0 x36 m0 v1 _ _ _ (by have q_ := r_od; obtain ⟨_, _⟩ := q_; have q_ := r_g0; obtain ⟨_, _⟩ := q_; have q_ := r29; obtain ⟨_, _⟩ := q_; have q_ := r_m0; obtain ⟨_, _⟩ := q_; have q_ := r30; obtain ⟨_, _⟩ := q_; have q_ := r35; obtain ⟨_, _⟩ := q_; have q_ := r37; obtain ⟨_, _⟩ := q_; omega) (rg_w r37 (by decide) (by decide)) r_m0 hI1 hK1 h_m0 hfx0 (by have q_ := r_od; obtain ⟨_, _⟩ := q_; have q_ := r_g0; obtain ⟨_, _⟩ := q_; have q_ := r29; obtain ⟨_, _⟩ := q_; have q_ := r_m0; obtain ⟨_, _⟩ := q_; have q_ := r30; obtain ⟨_, _⟩ := q_; have q_ := r35; obtain ⟨_, _⟩ := q_; have q_ := r37; obtain ⟨_, _⟩ := q_; have en : x36.toNatClampNeg = y2.toNatClampNeg + 1 := (by have q1 := Rg.clamp (b := 20) (rg_w r37 (by decide) (by decide)); have q2 := Rg.clamp (b := 20) (rg_w r29 (by decide) (by decide)); omega); have q3 := cKa_up (v 403) (a := y2.toNatClampNeg) (b := y2.toNatClampNeg + 1) (by omega); rw [en]; omega) hG hw hS (lv_sub hl [1, 2, 0] rfl)
          · have f39 := i_nlt c33
            have r40 : Rg x31 (-2147483648) 1 := by obtain ⟨a1, a2⟩ := (rg_any x31); obtain ⟨b1, b2⟩ := (⟨by decide, by decide⟩ : Rg 1 1 1); have f := i_nlt c33; exact ⟨by omega, by omega⟩
            have hG := g_neg c33 hG
            refine lv_aload_n hx hb d_X11_findTurns_25 rfl (lv_at hl 0 rfl) ?_
            refine r_getr (r := 410) X hw FL_X11_31 (rfl : KD 400 = _) rfl d_X11_findTurns_26 ?_
            refine lv_iload_n hx hb d_X11_findTurns_29 rfl (lv_at hl 2 rfl) ?_
            refine r_iald X hw (rfl : KD 410 = _) (Rg.vp (b := 19) r29 (by decide)) rfl d_X11_findTurns_30 ?_
            refine lv_topi (fun x41 ex41 => ?_)
            have hG := bnd_use ex41 hG
            refine lv_iconst (v := 1) hx hb d_X11_findTurns_31 (by decide) ?_
            refine lv_icmp_eq (tgt := 48) hx hb d_X11_findTurns_32 (by decide) (fun c42 => ?_) (fun c42 => ?_)
            · have f43 := i_eq c42
              have r44 : Rg x41 1 1 := by obtain ⟨a1, a2⟩ := (rg_any x41); obtain ⟨b1, b2⟩ := (⟨by decide, by decide⟩ : Rg 1 1 1); have f := i_eq c42; exact ⟨by omega, by omega⟩
              have hG := g_pos c42 hG
              have q9 := cKa_s (v 403) y2.toNatClampNeg (by rw [← hK1 403 y2.toNatClampNeg (by unfold kp_X11_findTurns_400; omega), hm32]; exact (r40).2)
              have q8 := cKa_le (v 403) (y2.toNatClampNeg + 1)
              have hq53 : m0.toInt + 1 ≤ (cKa (v 403) (y2.toNatClampNeg + 1) : Int) := by omega
              have r45 : Rg m0 0 19 := by have q1 := Rg.nat (b := 19) r29; obtain ⟨_, _⟩ := r_m0; exact ⟨by omega, by omega⟩
              refine lv_aload_n hx hb d_X11_findTurns_48 rfl (lv_at hl 0 rfl) ?_
              refine r_geti X hw FL_X11_233 (rfl : KD 400 = _) rfl d_X11_findTurns_49 ?_
              refine lv_seti h_m0 ?_
              refine lv_istore_n (lv' := [(3, .int m0), (0, .ref (ad 400)), (1, .int od), (2, .int y2)]) hx hb d_X11_findTurns_52 rfl hl (by decide) rfl (fun ls hl => ?_)
              exact ih1 y2 m0 m0 v1 _ _ _ (by have q_ := r_od; obtain ⟨_, _⟩ := q_; have q_ := r_g0; obtain ⟨_, _⟩ := q_; have q_ := r29; obtain ⟨_, _⟩ := q_; have q_ := r45; obtain ⟨_, _⟩ := q_; have q_ := r30; obtain ⟨_, _⟩ := q_; have q_ := r40; obtain ⟨_, _⟩ := q_; have q_ := r44; obtain ⟨_, _⟩ := q_; omega) r29 r45 r45 hI1 hK1 h_m0 hfx0 (by have q_ := r_od; obtain ⟨_, _⟩ := q_; have q_ := r_g0; obtain ⟨_, _⟩ := q_; have q_ := r29; obtain ⟨_, _⟩ := q_; have q_ := r45; obtain ⟨_, _⟩ := q_; have q_ := r30; obtain ⟨_, _⟩ := q_; have q_ := r40; obtain ⟨_, _⟩ := q_; have q_ := r44; obtain ⟨_, _⟩ := q_; first | exact hq53 | exact hex) hG hw hS (lv_sub hl [1, 2, 3, 0] rfl)
            · have f46 := i_ne c42
              have hG := g_neg c42 hG
              refine lv_aload_n hx hb d_X11_findTurns_35 rfl (lv_at hl 0 rfl) ?_
              refine r_getr (r := 410) X hw FL_X11_31 (rfl : KD 400 = _) rfl d_X11_findTurns_36 ?_
              refine lv_iload_n hx hb d_X11_findTurns_39 rfl (lv_at hl 2 rfl) ?_
              refine r_iald X hw (rfl : KD 410 = _) (Rg.vp (b := 19) r29 (by decide)) rfl d_X11_findTurns_40 ?_
              refine lv_topi (fun x47 ex47 => ?_)
              have hG := bnd_use ex47 hG
              refine lv_iconst (v := 2) hx hb d_X11_findTurns_41 (by decide) ?_
              refine lv_icmp_eq (tgt := 48) hx hb d_X11_findTurns_42 (by decide) (fun c48 => ?_) (fun c48 => ?_)
              · have f49 := i_eq c48
                have r50 : Rg x47 2 2 := by obtain ⟨a1, a2⟩ := (rg_any x47); obtain ⟨b1, b2⟩ := (⟨by decide, by decide⟩ : Rg 2 2 2); have f := i_eq c48; exact ⟨by omega, by omega⟩
                have hG := g_pos c48 hG
                have q9 := cKa_s (v 403) y2.toNatClampNeg (by rw [← hK1 403 y2.toNatClampNeg (by unfold kp_X11_findTurns_400; omega), hm32]; exact (r40).2)
                have q8 := cKa_le (v 403) (y2.toNatClampNeg + 1)
                have hq53 : m0.toInt + 1 ≤ (cKa (v 403) (y2.toNatClampNeg + 1) : Int) := by omega
                have r51 : Rg m0 0 19 := by have q1 := Rg.nat (b := 19) r29; obtain ⟨_, _⟩ := r_m0; exact ⟨by omega, by omega⟩
                refine lv_aload_n hx hb d_X11_findTurns_48 rfl (lv_at hl 0 rfl) ?_
                refine r_geti X hw FL_X11_233 (rfl : KD 400 = _) rfl d_X11_findTurns_49 ?_
                refine lv_seti h_m0 ?_
                refine lv_istore_n (lv' := [(3, .int m0), (0, .ref (ad 400)), (1, .int od), (2, .int y2)]) hx hb d_X11_findTurns_52 rfl hl (by decide) rfl (fun ls hl => ?_)
                exact ih1 y2 m0 m0 v1 _ _ _ (by have q_ := r_od; obtain ⟨_, _⟩ := q_; have q_ := r_g0; obtain ⟨_, _⟩ := q_; have q_ := r29; obtain ⟨_, _⟩ := q_; have q_ := r51; obtain ⟨_, _⟩ := q_; have q_ := r30; obtain ⟨_, _⟩ := q_; have q_ := r40; obtain ⟨_, _⟩ := q_; have q_ := r50; obtain ⟨_, _⟩ := q_; omega) r29 r51 r51 hI1 hK1 h_m0 hfx0 (by have q_ := r_od; obtain ⟨_, _⟩ := q_; have q_ := r_g0; obtain ⟨_, _⟩ := q_; have q_ := r29; obtain ⟨_, _⟩ := q_; have q_ := r51; obtain ⟨_, _⟩ := q_; have q_ := r30; obtain ⟨_, _⟩ := q_; have q_ := r40; obtain ⟨_, _⟩ := q_; have q_ := r50; obtain ⟨_, _⟩ := q_; first | exact hq53 | exact hex) hG hw hS (lv_sub hl [1, 2, 3, 0] rfl)
              · have f52 := i_ne c48
                have hG := g_neg c48 hG
                refine lv_goto (tgt := 111) hx hb d_X11_findTurns_45 (by decide) ?_
                obtain ⟨x53, ex53⟩ : ∃ y : Int32, y = y2 + 1 := ⟨_, rfl⟩
                have hG := bnd_use ex53 hG
                refine lv_iinc (v := x53) (lv' := [(2, .int x53), (0, .ref (ad 400)), (1, .int od)]) hx hb d_X11_findTurns_111 hl (k := 2) rfl (by rw [ex53]; rfl) (by decide) rfl (fun ls hl => ?_)
                have r54 : Rg x53 1 20 := rg_add ex53 r29 (⟨by decide, by decide⟩ : Rg 1 1 1) (by decide) (by decide)
                have s55 : x53.toInt = y2.toInt + (1 : Int32).toInt := by rw [ex53]; exact i_add (by obtain ⟨_, _⟩ := r29; obtain ⟨_, _⟩ := (⟨by decide, by decide⟩ : Rg 1 1 1); omega) (by obtain ⟨_, _⟩ := r29; obtain ⟨_, _⟩ := (⟨by decide, by decide⟩ : Rg 1 1 1); omega)
                have s55l : (1 : Int32).toInt = 1 := rfl
                refine lv_goto (tgt := 7) hx hb d_X11_findTurns_114 (by decide) ?_
                exact ih0 x53 m0 v1 _ _ _ (by have q_ := r_od; obtain ⟨_, _⟩ := q_; have q_ := r_g0; obtain ⟨_, _⟩ := q_; have q_ := r29; obtain ⟨_, _⟩ := q_; have q_ := r_m0; obtain ⟨_, _⟩ := q_; have q_ := r30; obtain ⟨_, _⟩ := q_; have q_ := r40; obtain ⟨_, _⟩ := q_; have q_ := r54; obtain ⟨_, _⟩ := q_; omega) (rg_w r54 (by decide) (by decide)) r_m0 hI1 hK1 h_m0 hfx0 (by have q_ := r_od; obtain ⟨_, _⟩ := q_; have q_ := r_g0; obtain ⟨_, _⟩ := q_; have q_ := r29; obtain ⟨_, _⟩ := q_; have q_ := r_m0; obtain ⟨_, _⟩ := q_; have q_ := r30; obtain ⟨_, _⟩ := q_; have q_ := r40; obtain ⟨_, _⟩ := q_; have q_ := r54; obtain ⟨_, _⟩ := q_; have en : x53.toNatClampNeg = y2.toNatClampNeg + 1 := (by have q1 := Rg.clamp (b := 20) (rg_w r54 (by decide) (by decide)); have q2 := Rg.clamp (b := 20) (rg_w r29 (by decide) (by decide)); omega); have q3 := cKa_up (v 403) (a := y2.toNatClampNeg) (b := y2.toNatClampNeg + 1) (by omega); rw [en]; omega) hG hw hS (lv_sub hl [1, 2, 0] rfl)
      · intro y2 y3 m0 v1 H locs ls hmu r_y2 r_y3 r_m0 hI1 hK1 h_m0 hfx0 hex hG hw hS hl
        have hG : b_X11_findTurns_400_53 od (g_X11_findTurns_400_7 od n) (g_X11_findTurns_400_53 od n) y2 y3 v1 = RR := hG
        unfold b_X11_findTurns_400_53 at hG
        have hG := bnd_use h_m0.symm hG
        have hG := bnd_use hfx0.symm hG
        refine lv_iload_n hx hb d_X11_findTurns_53 rfl (lv_at hl 3 rfl) ?_
        refine lv_if_le (tgt := 94) hx hb d_X11_findTurns_54 (by decide) (fun c56 => ?_) (fun c56 => ?_)
        · have f57 := i_le c56
          have r58 : Rg y3 0 0 := by obtain ⟨a1, a2⟩ := r_y3; obtain ⟨b1, b2⟩ := (⟨by decide, by decide⟩ : Rg 0 0 0); have f := i_le c56; exact ⟨by omega, by omega⟩
          have hG := g_pos c56 hG
          refine lv_aload_n hx hb d_X11_findTurns_94 rfl (lv_at hl 0 rfl) ?_
          refine r_getr (r := 446) X hw FL_X11_118 (rfl : KD 400 = _) rfl d_X11_findTurns_95 ?_
          refine lv_iload_n hx hb d_X11_findTurns_98 rfl (lv_at hl 3 rfl) ?_
          refine lv_iload_n hx hb d_X11_findTurns_99 rfl (lv_at hl 2 rfl) ?_
          refine r_iast X hw hS (rfl : KD 446 = _) (Rg.vp (b := 0) r58 (by decide)) rfl d_X11_findTurns_100 (fun H locs hw hS => ?_)
          obtain ⟨v59, ev59⟩ : ∃ z, z = up2 v1 446 y3.toNatClampNeg y2 := ⟨_, rfl⟩
          rw [← ev59] at hw
          have hG := bnd_use ev59 hG
          have hI60 : Inv v59 := by rw [ev59]; exact Inv.putr hI1 rfl r_y2
          have hK61 : Kp (kp_X11_findTurns_400 od) v v59 := by rw [ev59]; exact Kp.put hK1 _ (by unfold kp_X11_findTurns_400; omega)
          have hm62 : v59 400 44 = m0 := by rw [ev59, up2_n _ _ (by omega)]; exact h_m0
          have hm63 : v59 400 27 = g0 := by rw [ev59, up2_n _ _ (by omega)]; exact hfx0
          refine lv_aload_n hx hb d_X11_findTurns_101 rfl (lv_at hl 0 rfl) ?_
          refine lv_dup hx hb d_X11_findTurns_102 rfl ?_
          refine r_geti X hw FL_X11_233 (rfl : KD 400 = _) rfl d_X11_findTurns_103 ?_
          refine lv_seti hm62 ?_
          refine lv_iconst (v := 1) hx hb d_X11_findTurns_106 (by decide) ?_
          refine lv_iadd hx hb d_X11_findTurns_107 ?_
          refine lv_topi (fun x64 ex64 => ?_)
          have hG := bnd_use ex64 hG
          have r65 : Rg x64 1 20 := rg_add ex64 r_m0 (⟨by decide, by decide⟩ : Rg 1 1 1) (by decide) (by decide)
          have s66 : x64.toInt = m0.toInt + (1 : Int32).toInt := by rw [ex64]; exact i_add (by obtain ⟨_, _⟩ := r_m0; obtain ⟨_, _⟩ := (⟨by decide, by decide⟩ : Rg 1 1 1); omega) (by obtain ⟨_, _⟩ := r_m0; obtain ⟨_, _⟩ := (⟨by decide, by decide⟩ : Rg 1 1 1); omega)
          have s66l : (1 : Int32).toInt = 1 := rfl
          refine r_put X hw hS FP_X11_233 (rfl : KD 400 = _) rfl ⟨rfl, rfl⟩ d_X11_findTurns_108 (fun H locs hw hS => ?_)
          obtain ⟨v67, ev67⟩ : ∃ z, z = up2 v59 400 44 x64 := ⟨_, rfl⟩
          rw [← ev67] at hw
          have hG := bnd_use ev67 hG
          have hI68 : Inv v67 := by rw [ev67]; exact Inv.putr hI60 rfl (rg_w r65 (by decide) (by decide))
          have hK69 : Kp (kp_X11_findTurns_400 od) v v67 := by rw [ev67]; exact Kp.put hK61 _ (by unfold kp_X11_findTurns_400; omega)
          have hm70 : v67 400 27 = g0 := by rw [ev67, up2_n _ _ (by omega)]; exact hm63
          have hm71 : v67 400 44 = x64 := by rw [ev67, up2_s]
          obtain ⟨x72, ex72⟩ : ∃ y : Int32, y = y2 + 1 := ⟨_, rfl⟩
          have hG := bnd_use ex72 hG
          refine lv_iinc (v := x72) (lv' := [(2, .int x72), (0, .ref (ad 400)), (1, .int od), (3, .int y3)]) hx hb d_X11_findTurns_111 hl (k := 2) rfl (by rw [ex72]; rfl) (by decide) rfl (fun ls hl => ?_)
          have r73 : Rg x72 1 20 := rg_add ex72 r_y2 (⟨by decide, by decide⟩ : Rg 1 1 1) (by decide) (by decide)
          have s74 : x72.toInt = y2.toInt + (1 : Int32).toInt := by rw [ex72]; exact i_add (by obtain ⟨_, _⟩ := r_y2; obtain ⟨_, _⟩ := (⟨by decide, by decide⟩ : Rg 1 1 1); omega) (by obtain ⟨_, _⟩ := r_y2; obtain ⟨_, _⟩ := (⟨by decide, by decide⟩ : Rg 1 1 1); omega)
          have s74l : (1 : Int32).toInt = 1 := rfl
          refine lv_goto (tgt := 7) hx hb d_X11_findTurns_114 (by decide) ?_
          exact ih0 x72 x64 v67 _ _ _ (by have q_ := r_od; obtain ⟨_, _⟩ := q_; have q_ := r_g0; obtain ⟨_, _⟩ := q_; have q_ := r_y2; obtain ⟨_, _⟩ := q_; have q_ := r58; obtain ⟨_, _⟩ := q_; have q_ := r_m0; obtain ⟨_, _⟩ := q_; have q_ := r65; obtain ⟨_, _⟩ := q_; have q_ := r73; obtain ⟨_, _⟩ := q_; omega) (rg_w r73 (by decide) (by decide)) (rg_w r65 (by decide) (by decide)) hI68 hK69 hm71 hm70 (by have q_ := r_od; obtain ⟨_, _⟩ := q_; have q_ := r_g0; obtain ⟨_, _⟩ := q_; have q_ := r_y2; obtain ⟨_, _⟩ := q_; have q_ := r58; obtain ⟨_, _⟩ := q_; have q_ := r_m0; obtain ⟨_, _⟩ := q_; have q_ := r65; obtain ⟨_, _⟩ := q_; have q_ := r73; obtain ⟨_, _⟩ := q_; have en : x72.toNatClampNeg = y2.toNatClampNeg + 1 := (by have q1 := Rg.clamp (b := 20) (rg_w r73 (by decide) (by decide)); have q2 := Rg.clamp (b := 20) (rg_w r_y2 (by decide) (by decide)); omega); have q3 := cKa_up (v 403) (a := y2.toNatClampNeg) (b := y2.toNatClampNeg + 1) (by omega); rw [en]; omega) hG hw hS (lv_sub hl [1, 2, 0] rfl)
        · have f75 := i_nle c56
          have r76 : Rg y3 1 19 := by obtain ⟨a1, a2⟩ := r_y3; obtain ⟨b1, b2⟩ := (⟨by decide, by decide⟩ : Rg 0 0 0); have f := i_nle c56; exact ⟨by omega, by omega⟩
          have hG := g_neg c56 hG
          refine lv_aload_n hx hb d_X11_findTurns_57 rfl (lv_at hl 0 rfl) ?_
          refine lv_iload_n hx hb d_X11_findTurns_58 rfl (lv_at hl 2 rfl) ?_
          refine lv_aload_n hx hb d_X11_findTurns_59 rfl (lv_at hl 0 rfl) ?_
          refine r_getr (r := 446) X hw FL_X11_118 (rfl : KD 400 = _) rfl d_X11_findTurns_60 ?_
          refine lv_iload_n hx hb d_X11_findTurns_63 rfl (lv_at hl 3 rfl) ?_
          refine lv_iconst (v := 1) hx hb d_X11_findTurns_64 (by decide) ?_
          refine lv_isub hx hb d_X11_findTurns_65 ?_
          refine lv_topi (fun x77 ex77 => ?_)
          have hG := bnd_use ex77 hG
          have r78 : Rg x77 0 18 := rg_sub ex77 r76 (⟨by decide, by decide⟩ : Rg 1 1 1) (by decide) (by decide)
          have s79 : x77.toInt = y3.toInt - (1 : Int32).toInt := by rw [ex77]; exact i_sub (by obtain ⟨_, _⟩ := r76; obtain ⟨_, _⟩ := (⟨by decide, by decide⟩ : Rg 1 1 1); omega) (by obtain ⟨_, _⟩ := r76; obtain ⟨_, _⟩ := (⟨by decide, by decide⟩ : Rg 1 1 1); omega)
          have s79l : (1 : Int32).toInt = 1 := rfl
          refine r_iald X hw (rfl : KD 446 = _) (Rg.vp (b := 18) r78 (by decide)) rfl d_X11_findTurns_66 ?_
          refine lv_topi (fun x80 ex80 => ?_)
          have hG := bnd_use ex80 hG
          have r81 : Rg x80 0 19 := by rw [ex80]; exact hI1 _ _ _ _ rfl
          refine lv_iload_n hx hb d_X11_findTurns_67 rfl (lv_at hl 1 rfl) ?_
          refine r_ci (r_runV (n := 3) (As := [.int y2, .int x80, .int od]) (rest := []) X hw (ct_X11_isAhead_400 l D dA ad v1 hI1 y2 x80 od r_y2 r81 r_od) gc_X11_236 (rfl : KD 400 = _) (by decide) rfl (by decide +kernel) ⟨rfl, rfl, Nat.le_of_ble_eq_true rfl, Nat.le_of_ble_eq_true rfl⟩ rfl hl.1 rfl (Nat.le_of_ble_eq_true rfl) ⟨Nat.zero_le _, Nat.zero_le _⟩ d_X11_findTurns_68) hS (fun x83 v84 H locs hp82 hw hS => ?_)
          obtain ⟨hp82, hE85⟩ := hp82
          obtain ⟨ev84, hp82⟩ := hp82
          rw [ev84] at hw
          have hG := bnd_use hE85 hG
          refine lv_if_eq (tgt := 94) hx hb d_X11_findTurns_71 (by decide) (fun c86 => ?_) (fun c86 => ?_)
          · have f87 := i_eq c86
            have r88 : Rg x83 0 0 := by obtain ⟨a1, a2⟩ := hp82; obtain ⟨b1, b2⟩ := (⟨by decide, by decide⟩ : Rg 0 0 0); have f := i_eq c86; exact ⟨by omega, by omega⟩
            have hG := g_pos c86 hG
            refine lv_aload_n hx hb d_X11_findTurns_94 rfl (lv_at hl 0 rfl) ?_
            refine r_getr (r := 446) X hw FL_X11_118 (rfl : KD 400 = _) rfl d_X11_findTurns_95 ?_
            refine lv_iload_n hx hb d_X11_findTurns_98 rfl (lv_at hl 3 rfl) ?_
            refine lv_iload_n hx hb d_X11_findTurns_99 rfl (lv_at hl 2 rfl) ?_
            refine r_iast X hw hS (rfl : KD 446 = _) (Rg.vp (b := 19) (rg_w r76 (by decide) (by decide)) (by decide)) rfl d_X11_findTurns_100 (fun H locs hw hS => ?_)
            obtain ⟨v89, ev89⟩ : ∃ z, z = up2 v1 446 y3.toNatClampNeg y2 := ⟨_, rfl⟩
            rw [← ev89] at hw
            have hG := bnd_use ev89 hG
            have hI90 : Inv v89 := by rw [ev89]; exact Inv.putr hI1 rfl r_y2
            have hK91 : Kp (kp_X11_findTurns_400 od) v v89 := by rw [ev89]; exact Kp.put hK1 _ (by unfold kp_X11_findTurns_400; omega)
            have hm92 : v89 400 44 = m0 := by rw [ev89, up2_n _ _ (by omega)]; exact h_m0
            have hm93 : v89 400 27 = g0 := by rw [ev89, up2_n _ _ (by omega)]; exact hfx0
            refine lv_aload_n hx hb d_X11_findTurns_101 rfl (lv_at hl 0 rfl) ?_
            refine lv_dup hx hb d_X11_findTurns_102 rfl ?_
            refine r_geti X hw FL_X11_233 (rfl : KD 400 = _) rfl d_X11_findTurns_103 ?_
            refine lv_seti hm92 ?_
            refine lv_iconst (v := 1) hx hb d_X11_findTurns_106 (by decide) ?_
            refine lv_iadd hx hb d_X11_findTurns_107 ?_
            refine lv_topi (fun x94 ex94 => ?_)
            have hG := bnd_use ex94 hG
            have r95 : Rg x94 1 20 := rg_add ex94 r_m0 (⟨by decide, by decide⟩ : Rg 1 1 1) (by decide) (by decide)
            have s96 : x94.toInt = m0.toInt + (1 : Int32).toInt := by rw [ex94]; exact i_add (by obtain ⟨_, _⟩ := r_m0; obtain ⟨_, _⟩ := (⟨by decide, by decide⟩ : Rg 1 1 1); omega) (by obtain ⟨_, _⟩ := r_m0; obtain ⟨_, _⟩ := (⟨by decide, by decide⟩ : Rg 1 1 1); omega)
            have s96l : (1 : Int32).toInt = 1 := rfl
            refine r_put X hw hS FP_X11_233 (rfl : KD 400 = _) rfl ⟨rfl, rfl⟩ d_X11_findTurns_108 (fun H locs hw hS => ?_)
            obtain ⟨v97, ev97⟩ : ∃ z, z = up2 v89 400 44 x94 := ⟨_, rfl⟩
            rw [← ev97] at hw
            have hG := bnd_use ev97 hG
            have hI98 : Inv v97 := by rw [ev97]; exact Inv.putr hI90 rfl (rg_w r95 (by decide) (by decide))
            have hK99 : Kp (kp_X11_findTurns_400 od) v v97 := by rw [ev97]; exact Kp.put hK91 _ (by unfold kp_X11_findTurns_400; omega)
            have hm100 : v97 400 27 = g0 := by rw [ev97, up2_n _ _ (by omega)]; exact hm93
            have hm101 : v97 400 44 = x94 := by rw [ev97, up2_s]
            obtain ⟨x102, ex102⟩ : ∃ y : Int32, y = y2 + 1 := ⟨_, rfl⟩
            have hG := bnd_use ex102 hG
            refine lv_iinc (v := x102) (lv' := [(2, .int x102), (0, .ref (ad 400)), (1, .int od), (3, .int y3)]) hx hb d_X11_findTurns_111 hl (k := 2) rfl (by rw [ex102]; rfl) (by decide) rfl (fun ls hl => ?_)
            have r103 : Rg x102 1 20 := rg_add ex102 r_y2 (⟨by decide, by decide⟩ : Rg 1 1 1) (by decide) (by decide)
            have s104 : x102.toInt = y2.toInt + (1 : Int32).toInt := by rw [ex102]; exact i_add (by obtain ⟨_, _⟩ := r_y2; obtain ⟨_, _⟩ := (⟨by decide, by decide⟩ : Rg 1 1 1); omega) (by obtain ⟨_, _⟩ := r_y2; obtain ⟨_, _⟩ := (⟨by decide, by decide⟩ : Rg 1 1 1); omega)
            have s104l : (1 : Int32).toInt = 1 := rfl
            refine lv_goto (tgt := 7) hx hb d_X11_findTurns_114 (by decide) ?_
            exact ih0 x102 x94 v97 _ _ _ (by have q_ := r_od; obtain ⟨_, _⟩ := q_; have q_ := r_g0; obtain ⟨_, _⟩ := q_; have q_ := r_y2; obtain ⟨_, _⟩ := q_; have q_ := r76; obtain ⟨_, _⟩ := q_; have q_ := r_m0; obtain ⟨_, _⟩ := q_; have q_ := r78; obtain ⟨_, _⟩ := q_; have q_ := r81; obtain ⟨_, _⟩ := q_; have q_ := r88; obtain ⟨_, _⟩ := q_; have q_ := r95; obtain ⟨_, _⟩ := q_; have q_ := r103; obtain ⟨_, _⟩ := q_; omega) (rg_w r103 (by decide) (by decide)) (rg_w r95 (by decide) (by decide)) hI98 hK99 hm101 hm100 (by have q_ := r_od; obtain ⟨_, _⟩ := q_; have q_ := r_g0; obtain ⟨_, _⟩ := q_; have q_ := r_y2; obtain ⟨_, _⟩ := q_; have q_ := r76; obtain ⟨_, _⟩ := q_; have q_ := r_m0; obtain ⟨_, _⟩ := q_; have q_ := r78; obtain ⟨_, _⟩ := q_; have q_ := r81; obtain ⟨_, _⟩ := q_; have q_ := r88; obtain ⟨_, _⟩ := q_; have q_ := r95; obtain ⟨_, _⟩ := q_; have q_ := r103; obtain ⟨_, _⟩ := q_; have en : x102.toNatClampNeg = y2.toNatClampNeg + 1 := (by have q1 := Rg.clamp (b := 20) (rg_w r103 (by decide) (by decide)); have q2 := Rg.clamp (b := 20) (rg_w r_y2 (by decide) (by decide)); omega); have q3 := cKa_up (v 403) (a := y2.toNatClampNeg) (b := y2.toNatClampNeg + 1) (by omega); rw [en]; omega) hG hw hS (lv_sub hl [1, 2, 0] rfl)
          · have f105 := i_ne c86
            have r106 : Rg x83 1 1 := by obtain ⟨a1, a2⟩ := hp82; obtain ⟨b1, b2⟩ := (⟨by decide, by decide⟩ : Rg 0 0 0); have f := i_ne c86; exact ⟨by omega, by omega⟩
            have hG := g_neg c86 hG
            refine lv_aload_n hx hb d_X11_findTurns_74 rfl (lv_at hl 0 rfl) ?_
            refine r_getr (r := 446) X hw FL_X11_118 (rfl : KD 400 = _) rfl d_X11_findTurns_75 ?_
            refine lv_iload_n hx hb d_X11_findTurns_78 rfl (lv_at hl 3 rfl) ?_
            refine lv_aload_n hx hb d_X11_findTurns_79 rfl (lv_at hl 0 rfl) ?_
            refine r_getr (r := 446) X hw FL_X11_118 (rfl : KD 400 = _) rfl d_X11_findTurns_80 ?_
            refine lv_iload_n hx hb d_X11_findTurns_83 rfl (lv_at hl 3 rfl) ?_
            refine lv_iconst (v := 1) hx hb d_X11_findTurns_84 (by decide) ?_
            refine lv_isub hx hb d_X11_findTurns_85 ?_
            refine lv_topi (fun x107 ex107 => ?_)
            have hG := bnd_use ex107 hG
            have r108 : Rg x107 0 18 := rg_sub ex107 r76 (⟨by decide, by decide⟩ : Rg 1 1 1) (by decide) (by decide)
            have s109 : x107.toInt = y3.toInt - (1 : Int32).toInt := by rw [ex107]; exact i_sub (by obtain ⟨_, _⟩ := r76; obtain ⟨_, _⟩ := (⟨by decide, by decide⟩ : Rg 1 1 1); omega) (by obtain ⟨_, _⟩ := r76; obtain ⟨_, _⟩ := (⟨by decide, by decide⟩ : Rg 1 1 1); omega)
            have s109l : (1 : Int32).toInt = 1 := rfl
            refine r_iald X hw (rfl : KD 446 = _) (Rg.vp (b := 18) r108 (by decide)) rfl d_X11_findTurns_86 ?_
            refine lv_topi (fun x110 ex110 => ?_)
            have hG := bnd_use ex110 hG
            have r111 : Rg x110 0 19 := by rw [ex110]; exact hI1 _ _ _ _ rfl
            refine r_iast X hw hS (rfl : KD 446 = _) (Rg.vp (b := 19) (rg_w r76 (by decide) (by decide)) (by decide)) rfl d_X11_findTurns_87 (fun H locs hw hS => ?_)
            obtain ⟨v112, ev112⟩ : ∃ z, z = up2 v1 446 y3.toNatClampNeg x110 := ⟨_, rfl⟩
            rw [← ev112] at hw
            have hG := bnd_use ev112 hG
            have hI113 : Inv v112 := by rw [ev112]; exact Inv.putr hI1 rfl r111
            have hK114 : Kp (kp_X11_findTurns_400 od) v v112 := by rw [ev112]; exact Kp.put hK1 _ (by unfold kp_X11_findTurns_400; omega)
            have hm115 : v112 400 44 = m0 := by rw [ev112, up2_n _ _ (by omega)]; exact h_m0
            have hm116 : v112 400 27 = g0 := by rw [ev112, up2_n _ _ (by omega)]; exact hfx0
            obtain ⟨x117, ex117⟩ : ∃ y : Int32, y = y3 + -1 := ⟨_, rfl⟩
            have hG := bnd_use ex117 hG
            refine lv_iinc (v := x117) (lv' := [(3, .int x117), (0, .ref (ad 400)), (1, .int od), (2, .int y2)]) hx hb d_X11_findTurns_88 hl (k := 3) rfl (by rw [ex117]; rfl) (by decide) rfl (fun ls hl => ?_)
            have r118 : Rg x117 0 18 := rg_add ex117 r76 (⟨by decide, by decide⟩ : Rg (-1) (-1) (-1)) (by decide) (by decide)
            have s119 : x117.toInt = y3.toInt + (-1 : Int32).toInt := by rw [ex117]; exact i_add (by obtain ⟨_, _⟩ := r76; obtain ⟨_, _⟩ := (⟨by decide, by decide⟩ : Rg (-1) (-1) (-1)); omega) (by obtain ⟨_, _⟩ := r76; obtain ⟨_, _⟩ := (⟨by decide, by decide⟩ : Rg (-1) (-1) (-1)); omega)
            have s119l : (-1 : Int32).toInt = (-1) := rfl
            refine lv_goto (tgt := 53) hx hb d_X11_findTurns_91 (by decide) ?_
            exact ih1 y2 x117 m0 v112 _ _ _ (by have q_ := r_od; obtain ⟨_, _⟩ := q_; have q_ := r_g0; obtain ⟨_, _⟩ := q_; have q_ := r_y2; obtain ⟨_, _⟩ := q_; have q_ := r76; obtain ⟨_, _⟩ := q_; have q_ := r_m0; obtain ⟨_, _⟩ := q_; have q_ := r78; obtain ⟨_, _⟩ := q_; have q_ := r81; obtain ⟨_, _⟩ := q_; have q_ := r106; obtain ⟨_, _⟩ := q_; have q_ := r108; obtain ⟨_, _⟩ := q_; have q_ := r111; obtain ⟨_, _⟩ := q_; have q_ := r118; obtain ⟨_, _⟩ := q_; omega) r_y2 (rg_w r118 (by decide) (by decide)) r_m0 hI113 hK114 hm115 hm116 (by have q_ := r_od; obtain ⟨_, _⟩ := q_; have q_ := r_g0; obtain ⟨_, _⟩ := q_; have q_ := r_y2; obtain ⟨_, _⟩ := q_; have q_ := r76; obtain ⟨_, _⟩ := q_; have q_ := r_m0; obtain ⟨_, _⟩ := q_; have q_ := r78; obtain ⟨_, _⟩ := q_; have q_ := r81; obtain ⟨_, _⟩ := q_; have q_ := r106; obtain ⟨_, _⟩ := q_; have q_ := r108; obtain ⟨_, _⟩ := q_; have q_ := r111; obtain ⟨_, _⟩ := q_; have q_ := r118; obtain ⟨_, _⟩ := q_; first | exact hq53 | exact hex) hG hw hS (lv_sub hl [1, 2, 3, 0] rfl)
      · intro y3 m0 v1 H locs ls hmu r_y3 r_m0 hI1 hK1 h_m0 hfx0 hex hG hw hS hl
        have hG : b_X11_findTurns_400_149 od (g_X11_findTurns_400_149 od n) y3 v1 = RR := hG
        unfold b_X11_findTurns_400_149 at hG
        have hG := bnd_use h_m0.symm hG
        have hG := bnd_use hfx0.symm hG
        refine lv_iload_n hx hb d_X11_findTurns_149 rfl (lv_at hl 1 rfl) ?_
        refine lv_aload_n hx hb d_X11_findTurns_150 rfl (lv_at hl 0 rfl) ?_
        refine r_geti X hw FL_X11_166 (rfl : KD 400 = _) rfl d_X11_findTurns_151 ?_
        refine lv_topi (fun x120 ex120 => ?_)
        have hG := bnd_use ex120 hG
        have r121 : Rg x120 0 20 := by rw [ex120]; exact hI1 _ _ _ _ rfl
        have hm122 : v1 400 1 = x120 := ex120.symm
        refine lv_icmp_ge (tgt := 206) hx hb d_X11_findTurns_154 (by decide) (fun c123 => ?_) (fun c123 => ?_)
        · have f124 := i_le c123
          have hG := g_pos c123 hG
          exact r_vret X hr hlocks hw hS ⟨⟨hI1, hK1, (hfx0.trans hg0.symm)⟩, hG.trans eRR.symm⟩ d_X11_findTurns_206
        · have f125 := i_nle c123
          have r126 : Rg y3 0 19 := by obtain ⟨a1, a2⟩ := r_y3; obtain ⟨b1, b2⟩ := r121; have f := i_nle c123; exact ⟨by omega, by omega⟩
          have r127 : Rg x120 1 20 := by obtain ⟨a1, a2⟩ := r_y3; obtain ⟨b1, b2⟩ := r121; have f := i_nle c123; exact ⟨by omega, by omega⟩
          have hG := g_neg c123 hG
          refine lv_aload_n hx hb d_X11_findTurns_157 rfl (lv_at hl 0 rfl) ?_
          refine r_getr (r := 403) X hw FL_X11_7 (rfl : KD 400 = _) rfl d_X11_findTurns_158 ?_
          refine lv_iload_n hx hb d_X11_findTurns_161 rfl (lv_at hl 1 rfl) ?_
          refine r_iald X hw (rfl : KD 403 = _) (Rg.vp (b := 19) r126 (by decide)) rfl d_X11_findTurns_162 ?_
          refine lv_topi (fun x128 ex128 => ?_)
          have hG := bnd_use ex128 hG
          have hm129 : v1 403 y3.toNatClampNeg = x128 := ex128.symm
          refine lv_iconst (v := 2) hx hb d_X11_findTurns_163 (by decide) ?_
          refine lv_icmp_ne (tgt := 200) hx hb d_X11_findTurns_164 (by decide) (fun c130 => ?_) (fun c130 => ?_)
          · have f131 := i_ne c130
            have hG := g_neg c130 hG
            obtain ⟨x132, ex132⟩ : ∃ y : Int32, y = y3 + 1 := ⟨_, rfl⟩
            have hG := bnd_use ex132 hG
            refine lv_iinc (v := x132) (lv' := [(3, .int x132), (0, .ref (ad 400))]) hx hb d_X11_findTurns_200 hl (k := 1) rfl (by rw [ex132]; rfl) (by decide) rfl (fun ls hl => ?_)
            have r133 : Rg x132 1 20 := rg_add ex132 r126 (⟨by decide, by decide⟩ : Rg 1 1 1) (by decide) (by decide)
            have s134 : x132.toInt = y3.toInt + (1 : Int32).toInt := by rw [ex132]; exact i_add (by obtain ⟨_, _⟩ := r126; obtain ⟨_, _⟩ := (⟨by decide, by decide⟩ : Rg 1 1 1); omega) (by obtain ⟨_, _⟩ := r126; obtain ⟨_, _⟩ := (⟨by decide, by decide⟩ : Rg 1 1 1); omega)
            have s134l : (1 : Int32).toInt = 1 := rfl
            refine lv_goto (tgt := 149) hx hb d_X11_findTurns_203 (by decide) ?_
            exact ih2 x132 m0 v1 _ _ _ (by have q_ := r_od; obtain ⟨_, _⟩ := q_; have q_ := r_g0; obtain ⟨_, _⟩ := q_; have q_ := r126; obtain ⟨_, _⟩ := q_; have q_ := r_m0; obtain ⟨_, _⟩ := q_; have q_ := r127; obtain ⟨_, _⟩ := q_; have q_ := r133; obtain ⟨_, _⟩ := q_; omega) (rg_w r133 (by decide) (by decide)) r_m0 hI1 hK1 h_m0 hfx0 (by have q_ := r_od; obtain ⟨_, _⟩ := q_; have q_ := r_g0; obtain ⟨_, _⟩ := q_; have q_ := r126; obtain ⟨_, _⟩ := q_; have q_ := r_m0; obtain ⟨_, _⟩ := q_; have q_ := r127; obtain ⟨_, _⟩ := q_; have q_ := r133; obtain ⟨_, _⟩ := q_; have en : x132.toNatClampNeg = y3.toNatClampNeg + 1 := (by have q1 := Rg.clamp (b := 20) (rg_w r133 (by decide) (by decide)); have q2 := Rg.clamp (b := 20) (rg_w r126 (by decide) (by decide)); omega); have q4 := cKb_up (v 403) (a := y3.toNatClampNeg) (b := y3.toNatClampNeg + 1) (by omega); rw [en]; omega) hG hw hS (lv_sub hl [1, 0] rfl)
          · have f135 := i_eq c130
            have r136 : Rg x128 2 2 := by obtain ⟨a1, a2⟩ := (rg_any x128); obtain ⟨b1, b2⟩ := (⟨by decide, by decide⟩ : Rg 2 2 2); have f := i_eq c130; exact ⟨by omega, by omega⟩
            have hG := g_pos c130 hG
            refine lv_aload_n hx hb d_X11_findTurns_167 rfl (lv_at hl 0 rfl) ?_
            refine r_getr (r := 410) X hw FL_X11_31 (rfl : KD 400 = _) rfl d_X11_findTurns_168 ?_
            refine lv_iload_n hx hb d_X11_findTurns_171 rfl (lv_at hl 1 rfl) ?_
            refine r_iald X hw (rfl : KD 410 = _) (Rg.vp (b := 19) r126 (by decide)) rfl d_X11_findTurns_172 ?_
            refine lv_topi (fun x137 ex137 => ?_)
            have hG := bnd_use ex137 hG
            refine lv_iconst (v := 1) hx hb d_X11_findTurns_173 (by decide) ?_
            refine lv_icmp_eq (tgt := 180) hx hb d_X11_findTurns_174 (by decide) (fun c138 => ?_) (fun c138 => ?_)
            · have f139 := i_eq c138
              have r140 : Rg x137 1 1 := by obtain ⟨a1, a2⟩ := (rg_any x137); obtain ⟨b1, b2⟩ := (⟨by decide, by decide⟩ : Rg 1 1 1); have f := i_eq c138; exact ⟨by omega, by omega⟩
              have hG := g_pos c138 hG
              have q1 := cKab (v 403) 20
              have q2 := cKb_s (v 403) y3.toNatClampNeg (by rw [← hK1 403 y3.toNatClampNeg (by unfold kp_X11_findTurns_400; omega), hm129]; obtain ⟨_, _⟩ := r136; omega)
              have q3 := cKb_up (v 403) (a := y3.toNatClampNeg + 1) (b := 20) (by have := Rg.nat (b := 19) r126; omega)
              have r141 : Rg m0 0 19 := by obtain ⟨_, _⟩ := r_m0; exact ⟨by omega, by omega⟩
              refine lv_aload_n hx hb d_X11_findTurns_180 rfl (lv_at hl 0 rfl) ?_
              refine r_getr (r := 446) X hw FL_X11_118 (rfl : KD 400 = _) rfl d_X11_findTurns_181 ?_
              refine lv_aload_n hx hb d_X11_findTurns_184 rfl (lv_at hl 0 rfl) ?_
              refine r_geti X hw FL_X11_233 (rfl : KD 400 = _) rfl d_X11_findTurns_185 ?_
              refine lv_seti h_m0 ?_
              refine lv_iload_n hx hb d_X11_findTurns_188 rfl (lv_at hl 1 rfl) ?_
              refine r_iast X hw hS (rfl : KD 446 = _) (Rg.vp (b := 19) r141 (by decide)) rfl d_X11_findTurns_189 (fun H locs hw hS => ?_)
              obtain ⟨v142, ev142⟩ : ∃ z, z = up2 v1 446 m0.toNatClampNeg y3 := ⟨_, rfl⟩
              rw [← ev142] at hw
              have hG := bnd_use ev142 hG
              have hI143 : Inv v142 := by rw [ev142]; exact Inv.putr hI1 rfl r126
              have hK144 : Kp (kp_X11_findTurns_400 od) v v142 := by rw [ev142]; exact Kp.put hK1 _ (by unfold kp_X11_findTurns_400; omega)
              have hm145 : v142 400 44 = m0 := by rw [ev142, up2_n _ _ (by omega)]; exact h_m0
              have hm146 : v142 400 27 = g0 := by rw [ev142, up2_n _ _ (by omega)]; exact hfx0
              have hm147 : v142 400 1 = x120 := by rw [ev142, up2_n _ _ (by omega)]; exact hm122
              have hm148 : v142 403 y3.toNatClampNeg = x128 := by rw [ev142, up2_n _ _ (by omega)]; exact hm129
              refine lv_aload_n hx hb d_X11_findTurns_190 rfl (lv_at hl 0 rfl) ?_
              refine lv_dup hx hb d_X11_findTurns_191 rfl ?_
              refine r_geti X hw FL_X11_233 (rfl : KD 400 = _) rfl d_X11_findTurns_192 ?_
              refine lv_seti hm145 ?_
              refine lv_iconst (v := 1) hx hb d_X11_findTurns_195 (by decide) ?_
              refine lv_iadd hx hb d_X11_findTurns_196 ?_
              refine lv_topi (fun x149 ex149 => ?_)
              have hG := bnd_use ex149 hG
              have r150 : Rg x149 1 20 := rg_add ex149 r141 (⟨by decide, by decide⟩ : Rg 1 1 1) (by decide) (by decide)
              have s151 : x149.toInt = m0.toInt + (1 : Int32).toInt := by rw [ex149]; exact i_add (by obtain ⟨_, _⟩ := r141; obtain ⟨_, _⟩ := (⟨by decide, by decide⟩ : Rg 1 1 1); omega) (by obtain ⟨_, _⟩ := r141; obtain ⟨_, _⟩ := (⟨by decide, by decide⟩ : Rg 1 1 1); omega)
              have s151l : (1 : Int32).toInt = 1 := rfl
              refine r_put X hw hS FP_X11_233 (rfl : KD 400 = _) rfl ⟨rfl, rfl⟩ d_X11_findTurns_197 (fun H locs hw hS => ?_)
              obtain ⟨v152, ev152⟩ : ∃ z, z = up2 v142 400 44 x149 := ⟨_, rfl⟩
              rw [← ev152] at hw
              have hG := bnd_use ev152 hG
              have hI153 : Inv v152 := by rw [ev152]; exact Inv.putr hI143 rfl (rg_w r150 (by decide) (by decide))
              have hK154 : Kp (kp_X11_findTurns_400 od) v v152 := by rw [ev152]; exact Kp.put hK144 _ (by unfold kp_X11_findTurns_400; omega)
              have hm155 : v152 400 27 = g0 := by rw [ev152, up2_n _ _ (by omega)]; exact hm146
              have hm156 : v152 400 1 = x120 := by rw [ev152, up2_n _ _ (by omega)]; exact hm147
              have hm157 : v152 403 y3.toNatClampNeg = x128 := by rw [ev152, up2_n _ _ (by omega)]; exact hm148
              have hm158 : v152 400 44 = x149 := by rw [ev152, up2_s]
              obtain ⟨x159, ex159⟩ : ∃ y : Int32, y = y3 + 1 := ⟨_, rfl⟩
              have hG := bnd_use ex159 hG
              refine lv_iinc (v := x159) (lv' := [(3, .int x159), (0, .ref (ad 400))]) hx hb d_X11_findTurns_200 hl (k := 1) rfl (by rw [ex159]; rfl) (by decide) rfl (fun ls hl => ?_)
              have r160 : Rg x159 1 20 := rg_add ex159 r126 (⟨by decide, by decide⟩ : Rg 1 1 1) (by decide) (by decide)
              have s161 : x159.toInt = y3.toInt + (1 : Int32).toInt := by rw [ex159]; exact i_add (by obtain ⟨_, _⟩ := r126; obtain ⟨_, _⟩ := (⟨by decide, by decide⟩ : Rg 1 1 1); omega) (by obtain ⟨_, _⟩ := r126; obtain ⟨_, _⟩ := (⟨by decide, by decide⟩ : Rg 1 1 1); omega)
              have s161l : (1 : Int32).toInt = 1 := rfl
              refine lv_goto (tgt := 149) hx hb d_X11_findTurns_203 (by decide) ?_
              exact ih2 x159 x149 v152 _ _ _ (by have q_ := r_od; obtain ⟨_, _⟩ := q_; have q_ := r_g0; obtain ⟨_, _⟩ := q_; have q_ := r126; obtain ⟨_, _⟩ := q_; have q_ := r141; obtain ⟨_, _⟩ := q_; have q_ := r127; obtain ⟨_, _⟩ := q_; have q_ := r136; obtain ⟨_, _⟩ := q_; have q_ := r140; obtain ⟨_, _⟩ := q_; have q_ := r150; obtain ⟨_, _⟩ := q_; have q_ := r160; obtain ⟨_, _⟩ := q_; omega) (rg_w r160 (by decide) (by decide)) (rg_w r150 (by decide) (by decide)) hI153 hK154 hm158 hm155 (by have q_ := r_od; obtain ⟨_, _⟩ := q_; have q_ := r_g0; obtain ⟨_, _⟩ := q_; have q_ := r126; obtain ⟨_, _⟩ := q_; have q_ := r141; obtain ⟨_, _⟩ := q_; have q_ := r127; obtain ⟨_, _⟩ := q_; have q_ := r136; obtain ⟨_, _⟩ := q_; have q_ := r140; obtain ⟨_, _⟩ := q_; have q_ := r150; obtain ⟨_, _⟩ := q_; have q_ := r160; obtain ⟨_, _⟩ := q_; have en : x159.toNatClampNeg = y3.toNatClampNeg + 1 := (by have q1 := Rg.clamp (b := 20) (rg_w r160 (by decide) (by decide)); have q2 := Rg.clamp (b := 20) (rg_w r126 (by decide) (by decide)); omega); have q4 := cKb_up (v 403) (a := y3.toNatClampNeg) (b := y3.toNatClampNeg + 1) (by omega); rw [en]; omega) hG hw hS (lv_sub hl [1, 0] rfl)
            · have f162 := i_ne c138
              have hG := g_neg c138 hG
              refine lv_goto (tgt := 200) hx hb d_X11_findTurns_177 (by decide) ?_
              obtain ⟨x163, ex163⟩ : ∃ y : Int32, y = y3 + 1 := ⟨_, rfl⟩
              have hG := bnd_use ex163 hG
              refine lv_iinc (v := x163) (lv' := [(3, .int x163), (0, .ref (ad 400))]) hx hb d_X11_findTurns_200 hl (k := 1) rfl (by rw [ex163]; rfl) (by decide) rfl (fun ls hl => ?_)
              have r164 : Rg x163 1 20 := rg_add ex163 r126 (⟨by decide, by decide⟩ : Rg 1 1 1) (by decide) (by decide)
              have s165 : x163.toInt = y3.toInt + (1 : Int32).toInt := by rw [ex163]; exact i_add (by obtain ⟨_, _⟩ := r126; obtain ⟨_, _⟩ := (⟨by decide, by decide⟩ : Rg 1 1 1); omega) (by obtain ⟨_, _⟩ := r126; obtain ⟨_, _⟩ := (⟨by decide, by decide⟩ : Rg 1 1 1); omega)
              have s165l : (1 : Int32).toInt = 1 := rfl
              refine lv_goto (tgt := 149) hx hb d_X11_findTurns_203 (by decide) ?_
              exact ih2 x163 m0 v1 _ _ _ (by have q_ := r_od; obtain ⟨_, _⟩ := q_; have q_ := r_g0; obtain ⟨_, _⟩ := q_; have q_ := r126; obtain ⟨_, _⟩ := q_; have q_ := r_m0; obtain ⟨_, _⟩ := q_; have q_ := r127; obtain ⟨_, _⟩ := q_; have q_ := r136; obtain ⟨_, _⟩ := q_; have q_ := r164; obtain ⟨_, _⟩ := q_; omega) (rg_w r164 (by decide) (by decide)) r_m0 hI1 hK1 h_m0 hfx0 (by have q_ := r_od; obtain ⟨_, _⟩ := q_; have q_ := r_g0; obtain ⟨_, _⟩ := q_; have q_ := r126; obtain ⟨_, _⟩ := q_; have q_ := r_m0; obtain ⟨_, _⟩ := q_; have q_ := r127; obtain ⟨_, _⟩ := q_; have q_ := r136; obtain ⟨_, _⟩ := q_; have q_ := r164; obtain ⟨_, _⟩ := q_; have en : x163.toNatClampNeg = y3.toNatClampNeg + 1 := (by have q1 := Rg.clamp (b := 20) (rg_w r164 (by decide) (by decide)); have q2 := Rg.clamp (b := 20) (rg_w r126 (by decide) (by decide)); omega); have q4 := cKb_up (v 403) (a := y3.toNatClampNeg) (b := y3.toNatClampNeg + 1) (by omega); rw [en]; omega) hG hw hS (lv_sub hl [1, 0] rfl)
  obtain ⟨ih0, ih1, ih2⟩ := LL 100000
  have hK0 : Kp (kp_X11_findTurns_400 od) v v := Kp.rf _ v
  have hG := eRR
  unfold f_X11_findTurns_400 at hG
  have hG := bnd_use hg0.symm hG
  refine lv_aload_n hx hb d_X11_findTurns_0 rfl (lv_at hl 0 rfl) ?_
  refine lv_iconst (v := 0) hx hb d_X11_findTurns_1 (by decide) ?_
  refine r_put X hw hS FP_X11_233 (rfl : KD 400 = _) rfl ⟨rfl, rfl⟩ d_X11_findTurns_2 (fun H locs hw hS => ?_)
  obtain ⟨v166, ev166⟩ : ∃ z, z = up2 v 400 44 0 := ⟨_, rfl⟩
  rw [← ev166] at hw
  have hG := bnd_use ev166 hG
  have hI167 : Inv v166 := by rw [ev166]; exact Inv.putr hI rfl (rg_w (⟨by decide, by decide⟩ : Rg 0 0 0) (by decide) (by decide))
  have hK168 : Kp (kp_X11_findTurns_400 od) v v166 := by rw [ev166]; exact Kp.put hK0 _ (by unfold kp_X11_findTurns_400; omega)
  have hm169 : v166 400 27 = g0 := by rw [ev166, up2_n _ _ (by omega)]; exact hg0
  have hm170 : v166 400 44 = 0 := by rw [ev166, up2_s]
  refine lv_iconst (v := 0) hx hb d_X11_findTurns_5 (by decide) ?_
  refine lv_istore_n (lv' := [(2, .int 0), (0, .ref (ad 400)), (1, .int od)]) hx hb d_X11_findTurns_6 rfl hl (by decide) rfl (fun ls hl => ?_)
  exact ih0 0 0 v166 _ _ _ (by have q_ := r_od; obtain ⟨_, _⟩ := q_; have q_ := r_g0; obtain ⟨_, _⟩ := q_; have q_ : (0 : Int32).toInt = 0 := rfl; have q_ : (0 : Int32).toInt = 0 := rfl; omega) (rg_w (⟨by decide, by decide⟩ : Rg 0 0 0) (by decide) (by decide)) (rg_w (⟨by decide, by decide⟩ : Rg 0 0 0) (by decide) (by decide)) hI167 hK168 hm170 hm169 (by have q_ := r_od; obtain ⟨_, _⟩ := q_; have q_ := r_g0; obtain ⟨_, _⟩ := q_; have z0 : (0 : Int32).toInt = 0 := rfl; omega) hG hw hS (lv_sub hl [1, 2, 0] rfl)
theorem d_X11_turn_0 : decode c_X11_turn 0 = .ok (.aload_n 0, 1) := by decide +kernel
theorem d_X11_turn_1 : decode c_X11_turn 1 = .ok (.aload_n 0, 1) := by decide +kernel
theorem d_X11_turn_2 : decode c_X11_turn 2 = .ok (.aload_n 0, 1) := by decide +kernel
theorem d_X11_turn_3 : decode c_X11_turn 3 = .ok (.getfield 227, 3) := by decide +kernel
theorem d_X11_turn_6 : decode c_X11_turn 6 = .ok (.invokevirtual 220, 3) := by decide +kernel
theorem d_X11_turn_9 : decode c_X11_turn 9 = .ok (.invokevirtual 239, 3) := by decide +kernel
theorem d_X11_turn_12 : decode c_X11_turn 12 = .ok (.iload_n 1, 1) := by decide +kernel
theorem d_X11_turn_13 : decode c_X11_turn 13 = .ok (.iconst 0, 1) := by decide +kernel
theorem d_X11_turn_14 : decode c_X11_turn 14 = .ok (.aload_n 0, 1) := by decide +kernel
theorem d_X11_turn_15 : decode c_X11_turn 15 = .ok (.getfield 233, 3) := by decide +kernel
theorem d_X11_turn_18 : decode c_X11_turn 18 = .ok (.iconst 1, 1) := by decide +kernel
theorem d_X11_turn_19 : decode c_X11_turn 19 = .ok (.isub, 1) := by decide +kernel
theorem d_X11_turn_20 : decode c_X11_turn 20 = .ok (.invokestatic 169, 3) := by decide +kernel
theorem d_X11_turn_23 : decode c_X11_turn 23 = .ok (.ifCond .eq 12, 3) := by decide +kernel
theorem d_X11_turn_26 : decode c_X11_turn 26 = .ok (.aload_n 0, 1) := by decide +kernel
theorem d_X11_turn_27 : decode c_X11_turn 27 = .ok (.getfield 118, 3) := by decide +kernel
theorem d_X11_turn_30 : decode c_X11_turn 30 = .ok (.iload_n 1, 1) := by decide +kernel
theorem d_X11_turn_31 : decode c_X11_turn 31 = .ok (.iaload, 1) := by decide +kernel
theorem d_X11_turn_32 : decode c_X11_turn 32 = .ok (.goto 4, 3) := by decide +kernel
theorem d_X11_turn_35 : decode c_X11_turn 35 = .ok (.iconst (-1), 1) := by decide +kernel
theorem d_X11_turn_36 : decode c_X11_turn 36 = .ok (.ireturn, 1) := by decide +kernel
def kp_X11_turn_400 (ti : Int32) (a j : Nat) : Prop := (a ≠ 400 ∨ (j ≠ 44)) ∧ a ≠ 446
def f_X11_turn_400 (v : tV) (ti : Int32) : Int32 × tV := bnd (v 400 25) fun x1 => bnd (f_X11_forceOn_400 v x1) fun x3 => bnd (f_X11_findTurns_400 v x3) fun v7 => bnd (v7 400 44) fun x13 => bnd (x13 - (1 : Int32)) fun x16 => (if (0 : Int32).toInt ≤ ti.toInt ∧ ti.toInt ≤ x16.toInt then bnd (v7 446 ti.toNatClampNeg) fun x25 => (x25, v7) else ((-1 : Int32), v7))
set_option maxHeartbeats 4000000 in
set_option maxRecDepth 100000 in
theorem ct_X11_turn_400 (l : Launch) (D : va_G) (dA : Nat → ClassId) (ad : Nat → Nat) (v : tV) (hI : Inv v) (ti : Int32) : Met l m_X11_turn [.code m_X11_turn c_X11_turn 2 (some .int)] ({ frames := 4, cells := 0, slots := 0, locals := 110 } : Room) (tP D dA ad v [.ref (ad 400), .int ti]) (tQi D dA ad (fun r v' => (Inv v' ∧ Kp (kp_X11_turn_400 ti) v v') ∧ (r, v') = f_X11_turn_400 v ti)) 0 0 (tA ad) := by
  refine tMet (by decide) (Nat.le_of_ble_eq_true rfl) ?_
  intro p e s m below meth c ls X hr hlocks hw hl
  have X : CX p s m ([.ref (ad 400), .int ti] : List Value).toArray c c_X11_turn N_X11 2 D dA := X
  have hx := X.1
  have hb := X.2.1
  have hS : va_S (tA ad) s.heap s.heap [] := va_S.rf
  have hl : lv_has ls 2 [(0, .ref (ad 400)), (1, .int ti)] := hl
  obtain ⟨RR, eRR⟩ : ∃ z, f_X11_turn_400 v ti = z := ⟨_, rfl⟩
  have hK0 : Kp (kp_X11_turn_400 ti) v v := Kp.rf _ v
  have hG := eRR
  unfold f_X11_turn_400 at hG
  refine lv_aload_n hx hb d_X11_turn_0 rfl (lv_at hl 0 rfl) ?_
  refine lv_aload_n hx hb d_X11_turn_1 rfl (lv_at hl 0 rfl) ?_
  refine lv_aload_n hx hb d_X11_turn_2 rfl (lv_at hl 0 rfl) ?_
  refine r_geti X hw FL_X11_227 (rfl : KD 400 = _) rfl d_X11_turn_3 ?_
  refine lv_topi (fun x1 ex1 => ?_)
  have hG := bnd_use ex1 hG
  refine r_ci (r_runV (n := 1) (As := [.int x1]) (rest := [.ref (ad 400)]) X hw (ct_X11_forceOn_400 l D dA ad v hI x1) gc_X11_220 (rfl : KD 400 = _) (by decide) rfl (by decide +kernel) ⟨rfl, rfl, Nat.le_of_ble_eq_true rfl, Nat.le_of_ble_eq_true rfl⟩ rfl hl.1 rfl (Nat.le_of_ble_eq_true rfl) ⟨Nat.zero_le _, Nat.zero_le _⟩ d_X11_turn_6) hS (fun x3 v4 H locs hp2 hw hS => ?_)
  obtain ⟨hp2, hE5⟩ := hp2
  obtain ⟨ev4, hp2⟩ := hp2
  rw [ev4] at hw
  have hG := bnd_use hE5 hG
  refine r_cv (r_runV (n := 1) (As := [.int x3]) (rest := []) X hw (ct_X11_findTurns_400 l D dA ad v hI x3 hp2) gc_X11_239 (rfl : KD 400 = _) (by decide) rfl (by decide +kernel) ⟨rfl, rfl, Nat.le_of_ble_eq_true rfl, Nat.le_of_ble_eq_true rfl⟩ rfl hl.1 rfl (Nat.le_of_ble_eq_true rfl) ⟨Nat.zero_le _, Nat.zero_le _⟩ d_X11_turn_9) hS (fun v7 H locs hp6 hw hS => ?_)
  obtain ⟨hp6, hE8⟩ := hp6
  obtain ⟨hI9, hK10, hk11⟩ := hp6
  have hK12 : Kp (kp_X11_turn_400 ti) v v7 := Kp.tr hK0 hK10 (by have z0 : (0 : Int32).toInt = 0 := rfl; intro a j; unfold kp_X11_turn_400 kp_X11_findTurns_400; omega)
  have hG := bnd_use hE8 hG
  refine lv_iload_n hx hb d_X11_turn_12 rfl (lv_at hl 1 rfl) ?_
  refine lv_iconst (v := 0) hx hb d_X11_turn_13 (by decide) ?_
  refine lv_aload_n hx hb d_X11_turn_14 rfl (lv_at hl 0 rfl) ?_
  refine r_geti X hw FL_X11_233 (rfl : KD 400 = _) rfl d_X11_turn_15 ?_
  refine lv_topi (fun x13 ex13 => ?_)
  have hG := bnd_use ex13 hG
  have r14 : Rg x13 0 20 := by rw [ex13]; exact hI9 _ _ _ _ rfl
  have hm15 : v7 400 44 = x13 := ex13.symm
  refine lv_iconst (v := 1) hx hb d_X11_turn_18 (by decide) ?_
  refine lv_isub hx hb d_X11_turn_19 ?_
  refine lv_topi (fun x16 ex16 => ?_)
  have hG := bnd_use ex16 hG
  have r17 : Rg x16 (-1) 19 := rg_sub ex16 r14 (⟨by decide, by decide⟩ : Rg 1 1 1) (by decide) (by decide)
  have s18 : x16.toInt = x13.toInt - (1 : Int32).toInt := by rw [ex16]; exact i_sub (by obtain ⟨_, _⟩ := r14; obtain ⟨_, _⟩ := (⟨by decide, by decide⟩ : Rg 1 1 1); omega) (by obtain ⟨_, _⟩ := r14; obtain ⟨_, _⟩ := (⟨by decide, by decide⟩ : Rg 1 1 1); omega)
  have s18l : (1 : Int32).toInt = 1 := rfl
  refine r_ci (r_runS (n := 3) (As := [.int ti, .int 0, .int x16]) (rest := []) X hw (ct_X11_in l D dA ad v7 hI9 ti 0 x16) gc_X11_169 (by decide +kernel) ⟨rfl, rfl, Nat.le_of_ble_eq_true rfl, Nat.le_of_ble_eq_true rfl⟩ rfl hl.1 rfl (Nat.le_of_ble_eq_true rfl) ⟨Nat.zero_le _, Nat.zero_le _⟩ d_X11_turn_20) hS (fun x20 v21 H locs hp19 hw hS => ?_)
  obtain ⟨ev21, hp19⟩ := hp19
  rw [ev21] at hw
  rcases hp19 with ⟨rfl, w22a, w22b⟩ | ⟨rfl, w22n⟩
  · skip
    have hG := g_pos ⟨w22a, w22b⟩ hG
    have r23 : Rg ti 0 19 := by obtain ⟨_, _⟩ := (rg_any ti); have : (0 : Int32).toInt = 0 := rfl; obtain ⟨_, _⟩ := r17; exact ⟨by omega, by omega⟩
    refine lv_if_eq (tgt := 35) hx hb d_X11_turn_23 (by decide) (fun c24 => ?_) (fun c24 => ?_)
    · exact absurd c24 (by decide)
    · refine lv_aload_n hx hb d_X11_turn_26 rfl (lv_at hl 0 rfl) ?_
      refine r_getr (r := 446) X hw FL_X11_118 (rfl : KD 400 = _) rfl d_X11_turn_27 ?_
      refine lv_iload_n hx hb d_X11_turn_30 rfl (lv_at hl 1 rfl) ?_
      refine r_iald X hw (rfl : KD 446 = _) (Rg.vp (b := 19) r23 (by decide)) rfl d_X11_turn_31 ?_
      refine lv_topi (fun x25 ex25 => ?_)
      have hG := bnd_use ex25 hG
      have r26 : Rg x25 0 19 := by rw [ex25]; exact hI9 _ _ _ _ rfl
      refine lv_goto (tgt := 36) hx hb d_X11_turn_32 (by decide) ?_
      exact r_iret X hr hlocks hw hS ⟨⟨hI9, hK12⟩, hG.trans eRR.symm⟩ d_X11_turn_36
  · skip
    have hG := g_neg w22n hG
    refine lv_if_eq (tgt := 35) hx hb d_X11_turn_23 (by decide) (fun c27 => ?_) (fun c27 => ?_)
    · refine lv_iconst (v := -1) hx hb d_X11_turn_35 (by decide) ?_
      exact r_iret X hr hlocks hw hS ⟨⟨hI9, hK12⟩, hG.trans eRR.symm⟩ d_X11_turn_36
    · exact absurd c27 (by decide)
theorem d_X11_market_0 : decode c_X11_market 0 = .ok (.aload_n 0, 1) := by decide +kernel
theorem d_X11_market_1 : decode c_X11_market 1 = .ok (.iload_n 1, 1) := by decide +kernel
theorem d_X11_market_2 : decode c_X11_market 2 = .ok (.invokevirtual 239, 3) := by decide +kernel
theorem d_X11_market_5 : decode c_X11_market 5 = .ok (.iload_n 2, 1) := by decide +kernel
theorem d_X11_market_6 : decode c_X11_market 6 = .ok (.ifCond .eq 7, 3) := by decide +kernel
theorem d_X11_market_9 : decode c_X11_market 9 = .ok (.aload_n 0, 1) := by decide +kernel
theorem d_X11_market_10 : decode c_X11_market 10 = .ok (.invokevirtual 259, 3) := by decide +kernel
theorem d_X11_market_13 : decode c_X11_market 13 = .ok (.iconst 0, 1) := by decide +kernel
theorem d_X11_market_14 : decode c_X11_market 14 = .ok (.istore_n 3, 1) := by decide +kernel
theorem d_X11_market_15 : decode c_X11_market 15 = .ok (.iload_n 3, 1) := by decide +kernel
theorem d_X11_market_16 : decode c_X11_market 16 = .ok (.aload_n 0, 1) := by decide +kernel
theorem d_X11_market_17 : decode c_X11_market 17 = .ok (.getfield 233, 3) := by decide +kernel
theorem d_X11_market_20 : decode c_X11_market 20 = .ok (.if_icmp .ge 19, 3) := by decide +kernel
theorem d_X11_market_23 : decode c_X11_market 23 = .ok (.aload_n 0, 1) := by decide +kernel
theorem d_X11_market_24 : decode c_X11_market 24 = .ok (.aload_n 0, 1) := by decide +kernel
theorem d_X11_market_25 : decode c_X11_market 25 = .ok (.getfield 118, 3) := by decide +kernel
theorem d_X11_market_28 : decode c_X11_market 28 = .ok (.iload_n 3, 1) := by decide +kernel
theorem d_X11_market_29 : decode c_X11_market 29 = .ok (.iaload, 1) := by decide +kernel
theorem d_X11_market_30 : decode c_X11_market 30 = .ok (.invokevirtual 262, 3) := by decide +kernel
theorem d_X11_market_33 : decode c_X11_market 33 = .ok (.iinc 3 1, 3) := by decide +kernel
theorem d_X11_market_36 : decode c_X11_market 36 = .ok (.goto (-21), 3) := by decide +kernel
theorem d_X11_market_39 : decode c_X11_market 39 = .ok (.aload_n 0, 1) := by decide +kernel
theorem d_X11_market_40 : decode c_X11_market 40 = .ok (.getfield 246, 3) := by decide +kernel
theorem d_X11_market_43 : decode c_X11_market 43 = .ok (.ifCond .le 16, 3) := by decide +kernel
theorem d_X11_market_46 : decode c_X11_market 46 = .ok (.aload_n 0, 1) := by decide +kernel
theorem d_X11_market_47 : decode c_X11_market 47 = .ok (.aload_n 0, 1) := by decide +kernel
theorem d_X11_market_48 : decode c_X11_market 48 = .ok (.getfield 249, 3) := by decide +kernel
theorem d_X11_market_51 : decode c_X11_market 51 = .ok (.aload_n 0, 1) := by decide +kernel
theorem d_X11_market_52 : decode c_X11_market 52 = .ok (.getfield 246, 3) := by decide +kernel
theorem d_X11_market_55 : decode c_X11_market 55 = .ok (.idiv, 1) := by decide +kernel
theorem d_X11_market_56 : decode c_X11_market 56 = .ok (.putfield 76, 3) := by decide +kernel
theorem d_X11_market_59 : decode c_X11_market 59 = .ok (.return_, 1) := by decide +kernel
def kp_X11_market_400 (od : Int32) (nt : Int32) (a j : Nat) : Prop := (a ≠ 400 ∨ (j ≠ 26 ∧ j ≠ 27 ∧ j ≠ 44 ∧ j ≠ 58 ∧ j ≠ 59)) ∧ a ≠ 410 ∧ a ≠ 412 ∧ a ≠ 446 ∧ a ≠ 409 ∧ a ≠ 413 ∧ a ≠ 414 ∧ a ≠ 415 ∧ a ≠ 419 ∧ a ≠ 421 ∧ a ≠ 424 ∧ (a < 429 ∨ 433 ≤ a) ∧ (a ≠ 400 ∨ nt.toInt = 0 ∨ j < 53 ∨ 57 < j) ∧ (nt.toInt = 0 ∨ a < 450 ∨ 453 < a)
def b_X11_market_400_15 (od : Int32) (nt : Int32) (rc15 : Int32 → tV → tV) (y3 : Int32) (v1 : tV) : tV := bnd (v1 400 27) fun m0 => bnd (v1 400 44) fun x1 => (if x1 ≤ y3 then bnd (v1 400 58) fun x6 => (if x6 ≤ (0 : Int32) then v1 else bnd (v1 400 59) fun x13 => bnd (x13 / x6) fun x14 => bnd (up2 v1 400 26 x14) fun v15 => v15) else bnd (v1 446 y3.toNatClampNeg) fun x24 => bnd (f_X11_sell_400 v1 x24) fun v27 => bnd (y3 + 1) fun x33 => rc15 x33 v27)
def g_X11_market_400_15 (od : Int32) (nt : Int32) : Nat → Int32 → tV → tV
  | 0, _, v1 => v1
  | n + 1, y3, v1 => b_X11_market_400_15 od nt (g_X11_market_400_15 od nt n) y3 v1
def f_X11_market_400 (v : tV) (od : Int32) (nt : Int32) : tV := bnd (v 400 27) fun x38 => bnd (f_X11_findTurns_400 v od) fun v41 => (if nt = (0 : Int32) then g_X11_market_400_15 od nt 100000 0 v41 else bnd (f_X11_note_400 v41 ) fun v53 => g_X11_market_400_15 od nt 100000 0 v53)
set_option maxHeartbeats 4000000 in
set_option maxRecDepth 100000 in
theorem ct_X11_market_400 (l : Launch) (D : va_G) (dA : Nat → ClassId) (ad : Nat → Nat) (v : tV) (hI : Inv v) (od : Int32) (nt : Int32) (r_od : Rg od (-1) 7) (hB : (v 400 27).toInt = 0) : Met l m_X11_market [.code m_X11_market c_X11_market 4 none] ({ frames := 4, cells := 0, slots := 0, locals := 110 } : Room) (tP D dA ad v [.ref (ad 400), .int od, .int nt]) (tQv D dA ad (fun v' => (Inv v' ∧ Kp (kp_X11_market_400 od nt) v v') ∧ v' = f_X11_market_400 v od nt)) 0 0 (tA ad) := by
  refine tMet (by decide) (Nat.le_of_ble_eq_true rfl) ?_
  intro p e s m below meth c ls X hr hlocks hw hl
  have X : CX p s m ([.ref (ad 400), .int od, .int nt] : List Value).toArray c c_X11_market N_X11 4 D dA := X
  have hx := X.1
  have hb := X.2.1
  have hS : va_S (tA ad) s.heap s.heap [] := va_S.rf
  have hl : lv_has ls 4 [(0, .ref (ad 400)), (1, .int od), (2, .int nt)] := hl
  obtain ⟨RR, eRR⟩ : ∃ z, f_X11_market_400 v od nt = z := ⟨_, rfl⟩
  have LL : ∀ n : Nat, (∀ (y3 : Int32) (m0 : Int32) (v1 : tV) (H : Heap) (locs : List Loc) (ls : Array Slot), (20 - y3.toInt).toNat < n → Rg y3 0 20 → Rg m0 0 200 → Inv v1 → Kp (kp_X11_market_400 od nt) v v1 → v1 400 27 = m0 → m0.toInt ≤ 10 * y3.toInt → g_X11_market_400_15 od nt n y3 v1 = RR → tI D dA ad v1 H → va_S (tA ad) s.heap H locs → lv_has ls 4 [(0, .ref (ad 400)), (3, .int y3)] → W p l e ({ frames := 4, cells := 0, slots := 0, locals := 110 } : Room) s m ([.ref (ad 400), .int od, .int nt] : List Value).toArray below meth c H locs 0 0 (MQ below (tQv D dA ad (fun v' => (Inv v' ∧ Kp (kp_X11_market_400 od nt) v v') ∧ v' = f_X11_market_400 v od nt)) ([.ref (ad 400), .int od, .int nt] : List Value).toArray s 0 0 (tA ad)) (F0 m 15 ls [])) := by
    intro n
    induction n with
    | zero => intros; omega
    | succ n ih =>
      have ih0 := ih
      intro y3 m0 v1 H locs ls hmu r_y3 r_m0 hI1 hK1 h_m0 hex hG hw hS hl
      have hG : b_X11_market_400_15 od nt (g_X11_market_400_15 od nt n) y3 v1 = RR := hG
      unfold b_X11_market_400_15 at hG
      have hG := bnd_use h_m0.symm hG
      refine lv_iload_n hx hb d_X11_market_15 rfl (lv_at hl 1 rfl) ?_
      refine lv_aload_n hx hb d_X11_market_16 rfl (lv_at hl 0 rfl) ?_
      refine r_geti X hw FL_X11_233 (rfl : KD 400 = _) rfl d_X11_market_17 ?_
      refine lv_topi (fun x1 ex1 => ?_)
      have hG := bnd_use ex1 hG
      have r2 : Rg x1 0 20 := by rw [ex1]; exact hI1 _ _ _ _ rfl
      have hm3 : v1 400 44 = x1 := ex1.symm
      refine lv_icmp_ge (tgt := 39) hx hb d_X11_market_20 (by decide) (fun c4 => ?_) (fun c4 => ?_)
      · have f5 := i_le c4
        have hG := g_pos c4 hG
        refine lv_aload_n hx hb d_X11_market_39 rfl (lv_at hl 0 rfl) ?_
        refine r_geti X hw FL_X11_246 (rfl : KD 400 = _) rfl d_X11_market_40 ?_
        refine lv_topi (fun x6 ex6 => ?_)
        have hG := bnd_use ex6 hG
        have hm7 : v1 400 58 = x6 := ex6.symm
        refine lv_if_le (tgt := 59) hx hb d_X11_market_43 (by decide) (fun c8 => ?_) (fun c8 => ?_)
        · have f9 := i_le c8
          have r10 : Rg x6 (-2147483648) 0 := by obtain ⟨a1, a2⟩ := (rg_any x6); obtain ⟨b1, b2⟩ := (⟨by decide, by decide⟩ : Rg 0 0 0); have f := i_le c8; exact ⟨by omega, by omega⟩
          have hG := g_pos c8 hG
          exact r_vret X hr hlocks hw hS ⟨⟨hI1, hK1⟩, hG.trans eRR.symm⟩ d_X11_market_59
        · have f11 := i_nle c8
          have r12 : Rg x6 1 2147483647 := by obtain ⟨a1, a2⟩ := (rg_any x6); obtain ⟨b1, b2⟩ := (⟨by decide, by decide⟩ : Rg 0 0 0); have f := i_nle c8; exact ⟨by omega, by omega⟩
          have hG := g_neg c8 hG
          refine lv_aload_n hx hb d_X11_market_46 rfl (lv_at hl 0 rfl) ?_
          refine lv_aload_n hx hb d_X11_market_47 rfl (lv_at hl 0 rfl) ?_
          refine r_geti X hw FL_X11_249 (rfl : KD 400 = _) rfl d_X11_market_48 ?_
          refine lv_topi (fun x13 ex13 => ?_)
          have hG := bnd_use ex13 hG
          refine lv_aload_n hx hb d_X11_market_51 rfl (lv_at hl 0 rfl) ?_
          refine r_geti X hw FL_X11_246 (rfl : KD 400 = _) rfl d_X11_market_52 ?_
          refine lv_seti hm7 ?_
          refine lv_idiv hx hb d_X11_market_55 (by intro h; have := i_eq h; obtain ⟨b1, b2⟩ := r12; have z0 : (0 : Int32).toInt = 0 := rfl; omega) ?_
          refine lv_topi (fun x14 ex14 => ?_)
          have hG := bnd_use ex14 hG
          refine r_put X hw hS FP_X11_76 (rfl : KD 400 = _) rfl ⟨rfl, rfl⟩ d_X11_market_56 (fun H locs hw hS => ?_)
          obtain ⟨v15, ev15⟩ : ∃ z, z = up2 v1 400 26 x14 := ⟨_, rfl⟩
          rw [← ev15] at hw
          have hG := bnd_use ev15 hG
          have hI16 : Inv v15 := by rw [ev15]; exact Inv.put0 hI1 _ rfl
          have hK17 : Kp (kp_X11_market_400 od nt) v v15 := by rw [ev15]; exact Kp.put hK1 _ (by unfold kp_X11_market_400; omega)
          have hm18 : v15 400 27 = m0 := by rw [ev15, up2_n _ _ (by omega)]; exact h_m0
          have hm19 : v15 400 44 = x1 := by rw [ev15, up2_n _ _ (by omega)]; exact hm3
          have hm20 : v15 400 58 = x6 := by rw [ev15, up2_n _ _ (by omega)]; exact hm7
          exact r_vret X hr hlocks hw hS ⟨⟨hI16, hK17⟩, hG.trans eRR.symm⟩ d_X11_market_59
      · have f21 := i_nle c4
        have r22 : Rg y3 0 19 := by obtain ⟨a1, a2⟩ := r_y3; obtain ⟨b1, b2⟩ := r2; have f := i_nle c4; exact ⟨by omega, by omega⟩
        have r23 : Rg x1 1 20 := by obtain ⟨a1, a2⟩ := r_y3; obtain ⟨b1, b2⟩ := r2; have f := i_nle c4; exact ⟨by omega, by omega⟩
        have hG := g_neg c4 hG
        refine lv_aload_n hx hb d_X11_market_23 rfl (lv_at hl 0 rfl) ?_
        refine lv_aload_n hx hb d_X11_market_24 rfl (lv_at hl 0 rfl) ?_
        refine r_getr (r := 446) X hw FL_X11_118 (rfl : KD 400 = _) rfl d_X11_market_25 ?_
        refine lv_iload_n hx hb d_X11_market_28 rfl (lv_at hl 1 rfl) ?_
        refine r_iald X hw (rfl : KD 446 = _) (Rg.vp (b := 19) r22 (by decide)) rfl d_X11_market_29 ?_
        refine lv_topi (fun x24 ex24 => ?_)
        have hG := bnd_use ex24 hG
        have r25 : Rg x24 0 19 := by rw [ex24]; exact hI1 _ _ _ _ rfl
        refine r_cv (r_runV (n := 1) (As := [.int x24]) (rest := []) X hw (ct_X11_sell_400 l D dA ad v1 hI1 x24 r25 (by rw [h_m0]; obtain ⟨_, _⟩ := r22; omega)) gc_X11_262 (rfl : KD 400 = _) (by decide) rfl (by decide +kernel) ⟨rfl, rfl, Nat.le_of_ble_eq_true rfl, Nat.le_of_ble_eq_true rfl⟩ rfl hl.1 rfl (Nat.le_of_ble_eq_true rfl) ⟨Nat.zero_le _, Nat.zero_le _⟩ d_X11_market_30) hS (fun v27 H locs hp26 hw hS => ?_)
        obtain ⟨hp26, hE28⟩ := hp26
        obtain ⟨hI29, hK30, ha31⟩ := hp26
        have hK32 : Kp (kp_X11_market_400 od nt) v v27 := Kp.tr hK1 hK30 (by have z0 : (0 : Int32).toInt = 0 := rfl; intro a j; unfold kp_X11_market_400 kp_X11_sell_400; omega)
        have hG := bnd_use hE28 hG
        obtain ⟨x33, ex33⟩ : ∃ y : Int32, y = y3 + 1 := ⟨_, rfl⟩
        have hG := bnd_use ex33 hG
        refine lv_iinc (v := x33) (lv' := [(3, .int x33), (0, .ref (ad 400))]) hx hb d_X11_market_33 hl (k := 1) rfl (by rw [ex33]; rfl) (by decide) rfl (fun ls hl => ?_)
        have r34 : Rg x33 1 20 := rg_add ex33 r22 (⟨by decide, by decide⟩ : Rg 1 1 1) (by decide) (by decide)
        have s35 : x33.toInt = y3.toInt + (1 : Int32).toInt := by rw [ex33]; exact i_add (by obtain ⟨_, _⟩ := r22; obtain ⟨_, _⟩ := (⟨by decide, by decide⟩ : Rg 1 1 1); omega) (by obtain ⟨_, _⟩ := r22; obtain ⟨_, _⟩ := (⟨by decide, by decide⟩ : Rg 1 1 1); omega)
        have s35l : (1 : Int32).toInt = 1 := rfl
        refine lv_goto (tgt := 15) hx hb d_X11_market_36 (by decide) ?_
        obtain ⟨x36, ex36⟩ : ∃ z, v27 400 27 = z := ⟨_, rfl⟩
        have r37 : Rg x36 0 200 := by rw [← ex36]; exact hI29 _ _ _ _ rfl
        exact ih0 x33 x36 v27 _ _ _ (by have q_ := r_od; obtain ⟨_, _⟩ := q_; have q_ := r22; obtain ⟨_, _⟩ := q_; have q_ := r_m0; obtain ⟨_, _⟩ := q_; have q_ := r23; obtain ⟨_, _⟩ := q_; have q_ := r25; obtain ⟨_, _⟩ := q_; have q_ := r34; obtain ⟨_, _⟩ := q_; have q_ := r37; obtain ⟨_, _⟩ := q_; omega) (rg_w r34 (by decide) (by decide)) r37 hI29 hK32 ex36 (by have q_ := r_od; obtain ⟨_, _⟩ := q_; have q_ := r22; obtain ⟨_, _⟩ := q_; have q_ := r_m0; obtain ⟨_, _⟩ := q_; have q_ := r23; obtain ⟨_, _⟩ := q_; have q_ := r25; obtain ⟨_, _⟩ := q_; have q_ := r34; obtain ⟨_, _⟩ := q_; have q_ := r37; obtain ⟨_, _⟩ := q_; have z0 : (0 : Int32).toInt = 0 := rfl; have e0 := congrArg Int32.toInt ex36; (try have e1 := congrArg Int32.toInt h_m0); omega) hG hw hS (lv_sub hl [1, 0] rfl)
  have ih0 := LL 100000
  have hK0 : Kp (kp_X11_market_400 od nt) v v := Kp.rf _ v
  have hG := eRR
  unfold f_X11_market_400 at hG
  obtain ⟨x38, ex38⟩ : ∃ z, v 400 27 = z := ⟨_, rfl⟩
  have hG := bnd_use ex38.symm hG
  have hB0 : x38.toInt = 0 := by rw [← ex38]; exact hB
  have r39 : Rg x38 0 200 := ⟨by omega, by omega⟩
  refine lv_aload_n hx hb d_X11_market_0 rfl (lv_at hl 0 rfl) ?_
  refine lv_iload_n hx hb d_X11_market_1 rfl (lv_at hl 1 rfl) ?_
  refine r_cv (r_runV (n := 1) (As := [.int od]) (rest := []) X hw (ct_X11_findTurns_400 l D dA ad v hI od r_od) gc_X11_239 (rfl : KD 400 = _) (by decide) rfl (by decide +kernel) ⟨rfl, rfl, Nat.le_of_ble_eq_true rfl, Nat.le_of_ble_eq_true rfl⟩ rfl hl.1 rfl (Nat.le_of_ble_eq_true rfl) ⟨Nat.zero_le _, Nat.zero_le _⟩ d_X11_market_2) hS (fun v41 H locs hp40 hw hS => ?_)
  obtain ⟨hp40, hE42⟩ := hp40
  obtain ⟨hI43, hK44, hk45⟩ := hp40
  have hK46 : Kp (kp_X11_market_400 od nt) v v41 := Kp.tr hK0 hK44 (by have z0 : (0 : Int32).toInt = 0 := rfl; intro a j; unfold kp_X11_market_400 kp_X11_findTurns_400; omega)
  have hm47 : v41 400 (27) = x38 := hk45.trans ex38
  have hG := bnd_use hE42 hG
  refine lv_iload_n hx hb d_X11_market_5 rfl (lv_at hl 2 rfl) ?_
  refine lv_if_eq (tgt := 13) hx hb d_X11_market_6 (by decide) (fun c48 => ?_) (fun c48 => ?_)
  · have f49 := i_eq c48
    have r50 : Rg nt 0 0 := by obtain ⟨a1, a2⟩ := (rg_any nt); obtain ⟨b1, b2⟩ := (⟨by decide, by decide⟩ : Rg 0 0 0); have f := i_eq c48; exact ⟨by omega, by omega⟩
    have hG := g_pos c48 hG
    refine lv_iconst (v := 0) hx hb d_X11_market_13 (by decide) ?_
    refine lv_istore_n (lv' := [(3, .int 0), (0, .ref (ad 400)), (1, .int od), (2, .int nt)]) hx hb d_X11_market_14 rfl hl (by decide) rfl (fun ls hl => ?_)
    exact ih0 0 x38 v41 _ _ _ (by have q_ := r_od; obtain ⟨_, _⟩ := q_; have q_ := r39; obtain ⟨_, _⟩ := q_; have q_ := r50; obtain ⟨_, _⟩ := q_; have q_ : (0 : Int32).toInt = 0 := rfl; omega) (rg_w (⟨by decide, by decide⟩ : Rg 0 0 0) (by decide) (by decide)) r39 hI43 hK46 hm47 (by have q_ := r_od; obtain ⟨_, _⟩ := q_; have q_ := r39; obtain ⟨_, _⟩ := q_; have q_ := r50; obtain ⟨_, _⟩ := q_; have z0 : (0 : Int32).toInt = 0 := rfl; have e0 := congrArg Int32.toInt hm47; (try have e1 := congrArg Int32.toInt h_m0); omega) hG hw hS (lv_sub hl [1, 0] rfl)
  · have f51 := i_ne c48
    have hG := g_neg c48 hG
    refine lv_aload_n hx hb d_X11_market_9 rfl (lv_at hl 0 rfl) ?_
    refine r_cv (r_runV (n := 0) (As := []) (rest := []) X hw (ct_X11_note_400 l D dA ad v41 hI43) gc_X11_259 (rfl : KD 400 = _) (by decide) rfl (by decide +kernel) ⟨rfl, rfl, Nat.le_of_ble_eq_true rfl, Nat.le_of_ble_eq_true rfl⟩ rfl hl.1 rfl (Nat.le_of_ble_eq_true rfl) ⟨Nat.zero_le _, Nat.zero_le _⟩ d_X11_market_10) hS (fun v53 H locs hp52 hw hS => ?_)
    obtain ⟨hp52, hE54⟩ := hp52
    obtain ⟨hI55, hK56, hk57⟩ := hp52
    have hK58 : Kp (kp_X11_market_400 od nt) v v53 := Kp.tr hK46 hK56 (by have z0 : (0 : Int32).toInt = 0 := rfl; intro a j; unfold kp_X11_market_400 kp_X11_note_400; omega)
    have hm59 : v53 400 (27) = x38 := hk57.trans hm47
    have hG := bnd_use hE54 hG
    refine lv_iconst (v := 0) hx hb d_X11_market_13 (by decide) ?_
    refine lv_istore_n (lv' := [(3, .int 0), (0, .ref (ad 400)), (1, .int od), (2, .int nt)]) hx hb d_X11_market_14 rfl hl (by decide) rfl (fun ls hl => ?_)
    exact ih0 0 x38 v53 _ _ _ (by have q_ := r_od; obtain ⟨_, _⟩ := q_; have q_ := r39; obtain ⟨_, _⟩ := q_; have q_ : (0 : Int32).toInt = 0 := rfl; omega) (rg_w (⟨by decide, by decide⟩ : Rg 0 0 0) (by decide) (by decide)) r39 hI55 hK58 hm59 (by have q_ := r_od; obtain ⟨_, _⟩ := q_; have q_ := r39; obtain ⟨_, _⟩ := q_; have z0 : (0 : Int32).toInt = 0 := rfl; have e0 := congrArg Int32.toInt hm59; (try have e1 := congrArg Int32.toInt h_m0); omega) hG hw hS (lv_sub hl [1, 0] rfl)
theorem d_X11_go_0 : decode c_X11_go 0 = .ok (.aload_n 0, 1) := by decide +kernel
theorem d_X11_go_1 : decode c_X11_go 1 = .ok (.iconst 0, 1) := by decide +kernel
theorem d_X11_go_2 : decode c_X11_go 2 = .ok (.putfield 243, 3) := by decide +kernel
theorem d_X11_go_5 : decode c_X11_go 5 = .ok (.aload_n 0, 1) := by decide +kernel
theorem d_X11_go_6 : decode c_X11_go 6 = .ok (.iconst 0, 1) := by decide +kernel
theorem d_X11_go_7 : decode c_X11_go 7 = .ok (.putfield 246, 3) := by decide +kernel
theorem d_X11_go_10 : decode c_X11_go 10 = .ok (.aload_n 0, 1) := by decide +kernel
theorem d_X11_go_11 : decode c_X11_go 11 = .ok (.iconst 0, 1) := by decide +kernel
theorem d_X11_go_12 : decode c_X11_go 12 = .ok (.putfield 249, 3) := by decide +kernel
theorem d_X11_go_15 : decode c_X11_go 15 = .ok (.aload_n 0, 1) := by decide +kernel
theorem d_X11_go_16 : decode c_X11_go 16 = .ok (.iload_n 1, 1) := by decide +kernel
theorem d_X11_go_17 : decode c_X11_go 17 = .ok (.invokevirtual 281, 3) := by decide +kernel
theorem d_X11_go_20 : decode c_X11_go 20 = .ok (.iload_n 3, 1) := by decide +kernel
theorem d_X11_go_21 : decode c_X11_go 21 = .ok (.ifCond .ne 11, 3) := by decide +kernel
theorem d_X11_go_24 : decode c_X11_go 24 = .ok (.aload_n 0, 1) := by decide +kernel
theorem d_X11_go_25 : decode c_X11_go 25 = .ok (.iload 4, 2) := by decide +kernel
theorem d_X11_go_27 : decode c_X11_go 27 = .ok (.iload 5, 2) := by decide +kernel
theorem d_X11_go_29 : decode c_X11_go 29 = .ok (.invokevirtual 284, 3) := by decide +kernel
theorem d_X11_go_32 : decode c_X11_go 32 = .ok (.iconst 0, 1) := by decide +kernel
theorem d_X11_go_33 : decode c_X11_go 33 = .ok (.istore 6, 2) := by decide +kernel
theorem d_X11_go_35 : decode c_X11_go 35 = .ok (.iload 6, 2) := by decide +kernel
theorem d_X11_go_37 : decode c_X11_go 37 = .ok (.bipush 6, 2) := by decide +kernel
theorem d_X11_go_39 : decode c_X11_go 39 = .ok (.if_icmp .ge 99, 3) := by decide +kernel
theorem d_X11_go_42 : decode c_X11_go 42 = .ok (.aload_n 0, 1) := by decide +kernel
theorem d_X11_go_43 : decode c_X11_go 43 = .ok (.getfield 73, 3) := by decide +kernel
theorem d_X11_go_46 : decode c_X11_go 46 = .ok (.iconst 5, 1) := by decide +kernel
theorem d_X11_go_47 : decode c_X11_go 47 = .ok (.iload 6, 2) := by decide +kernel
theorem d_X11_go_49 : decode c_X11_go 49 = .ok (.imul, 1) := by decide +kernel
theorem d_X11_go_50 : decode c_X11_go 50 = .ok (.iload_n 2, 1) := by decide +kernel
theorem d_X11_go_51 : decode c_X11_go 51 = .ok (.iadd, 1) := by decide +kernel
theorem d_X11_go_52 : decode c_X11_go 52 = .ok (.iaload, 1) := by decide +kernel
theorem d_X11_go_53 : decode c_X11_go 53 = .ok (.istore 7, 2) := by decide +kernel
theorem d_X11_go_55 : decode c_X11_go 55 = .ok (.aload_n 0, 1) := by decide +kernel
theorem d_X11_go_56 : decode c_X11_go 56 = .ok (.getfield 64, 3) := by decide +kernel
theorem d_X11_go_59 : decode c_X11_go 59 = .ok (.iload 6, 2) := by decide +kernel
theorem d_X11_go_61 : decode c_X11_go 61 = .ok (.dup2, 1) := by decide +kernel
theorem d_X11_go_62 : decode c_X11_go 62 = .ok (.iaload, 1) := by decide +kernel
theorem d_X11_go_63 : decode c_X11_go 63 = .ok (.aload_n 0, 1) := by decide +kernel
theorem d_X11_go_64 : decode c_X11_go 64 = .ok (.getfield 61, 3) := by decide +kernel
theorem d_X11_go_67 : decode c_X11_go 67 = .ok (.iload 6, 2) := by decide +kernel
theorem d_X11_go_69 : decode c_X11_go 69 = .ok (.iaload, 1) := by decide +kernel
theorem d_X11_go_70 : decode c_X11_go 70 = .ok (.iload 7, 2) := by decide +kernel
theorem d_X11_go_72 : decode c_X11_go 72 = .ok (.if_icmp .ge 7, 3) := by decide +kernel
theorem d_X11_go_75 : decode c_X11_go 75 = .ok (.iconst 1, 1) := by decide +kernel
theorem d_X11_go_76 : decode c_X11_go 76 = .ok (.goto 4, 3) := by decide +kernel
theorem d_X11_go_79 : decode c_X11_go 79 = .ok (.iconst 0, 1) := by decide +kernel
theorem d_X11_go_80 : decode c_X11_go 80 = .ok (.iadd, 1) := by decide +kernel
theorem d_X11_go_81 : decode c_X11_go 81 = .ok (.iastore, 1) := by decide +kernel
theorem d_X11_go_82 : decode c_X11_go 82 = .ok (.aload_n 0, 1) := by decide +kernel
theorem d_X11_go_83 : decode c_X11_go 83 = .ok (.getfield 61, 3) := by decide +kernel
theorem d_X11_go_86 : decode c_X11_go 86 = .ok (.iload 6, 2) := by decide +kernel
theorem d_X11_go_88 : decode c_X11_go 88 = .ok (.iaload, 1) := by decide +kernel
theorem d_X11_go_89 : decode c_X11_go 89 = .ok (.iload 7, 2) := by decide +kernel
theorem d_X11_go_91 : decode c_X11_go 91 = .ok (.if_icmp .ge 13, 3) := by decide +kernel
theorem d_X11_go_94 : decode c_X11_go 94 = .ok (.aload_n 0, 1) := by decide +kernel
theorem d_X11_go_95 : decode c_X11_go 95 = .ok (.getfield 61, 3) := by decide +kernel
theorem d_X11_go_98 : decode c_X11_go 98 = .ok (.iload 6, 2) := by decide +kernel
theorem d_X11_go_100 : decode c_X11_go 100 = .ok (.iaload, 1) := by decide +kernel
theorem d_X11_go_101 : decode c_X11_go 101 = .ok (.goto 5, 3) := by decide +kernel
theorem d_X11_go_104 : decode c_X11_go 104 = .ok (.iload 7, 2) := by decide +kernel
theorem d_X11_go_106 : decode c_X11_go 106 = .ok (.istore 7, 2) := by decide +kernel
theorem d_X11_go_108 : decode c_X11_go 108 = .ok (.aload_n 0, 1) := by decide +kernel
theorem d_X11_go_109 : decode c_X11_go 109 = .ok (.getfield 61, 3) := by decide +kernel
theorem d_X11_go_112 : decode c_X11_go 112 = .ok (.iload 6, 2) := by decide +kernel
theorem d_X11_go_114 : decode c_X11_go 114 = .ok (.dup2, 1) := by decide +kernel
theorem d_X11_go_115 : decode c_X11_go 115 = .ok (.iaload, 1) := by decide +kernel
theorem d_X11_go_116 : decode c_X11_go 116 = .ok (.iload 7, 2) := by decide +kernel
theorem d_X11_go_118 : decode c_X11_go 118 = .ok (.isub, 1) := by decide +kernel
theorem d_X11_go_119 : decode c_X11_go 119 = .ok (.iastore, 1) := by decide +kernel
theorem d_X11_go_120 : decode c_X11_go 120 = .ok (.aload_n 0, 1) := by decide +kernel
theorem d_X11_go_121 : decode c_X11_go 121 = .ok (.getfield 67, 3) := by decide +kernel
theorem d_X11_go_124 : decode c_X11_go 124 = .ok (.iload 6, 2) := by decide +kernel
theorem d_X11_go_126 : decode c_X11_go 126 = .ok (.dup2, 1) := by decide +kernel
theorem d_X11_go_127 : decode c_X11_go 127 = .ok (.iaload, 1) := by decide +kernel
theorem d_X11_go_128 : decode c_X11_go 128 = .ok (.iload 7, 2) := by decide +kernel
theorem d_X11_go_130 : decode c_X11_go 130 = .ok (.iadd, 1) := by decide +kernel
theorem d_X11_go_131 : decode c_X11_go 131 = .ok (.iastore, 1) := by decide +kernel
theorem d_X11_go_132 : decode c_X11_go 132 = .ok (.iinc 6 1, 3) := by decide +kernel
theorem d_X11_go_135 : decode c_X11_go 135 = .ok (.goto (-100), 3) := by decide +kernel
theorem d_X11_go_138 : decode c_X11_go 138 = .ok (.aload_n 0, 1) := by decide +kernel
theorem d_X11_go_139 : decode c_X11_go 139 = .ok (.dup, 1) := by decide +kernel
theorem d_X11_go_140 : decode c_X11_go 140 = .ok (.getfield 227, 3) := by decide +kernel
theorem d_X11_go_143 : decode c_X11_go 143 = .ok (.iconst 1, 1) := by decide +kernel
theorem d_X11_go_144 : decode c_X11_go 144 = .ok (.iadd, 1) := by decide +kernel
theorem d_X11_go_145 : decode c_X11_go 145 = .ok (.putfield 227, 3) := by decide +kernel
theorem d_X11_go_148 : decode c_X11_go 148 = .ok (.return_, 1) := by decide +kernel
def kp_X11_go_400 (wi : Int32) (co : Int32) (fr : Int32) (od : Int32) (nt : Int32) (a j : Nat) : Prop := (a ≠ 400 ∨ (j ≠ 25 ∧ j ≠ 26 ∧ j ≠ 27 ∧ j ≠ 44 ∧ j ≠ 58 ∧ j ≠ 59)) ∧ (a < 408 ∨ 416 ≤ a) ∧ a ≠ 419 ∧ (a < 421 ∨ 425 ≤ a) ∧ (a < 429 ∨ 433 ≤ a) ∧ a ≠ 446 ∧ (a ≠ 400 ∨ nt.toInt = 0 ∨ j < 53 ∨ 57 < j) ∧ (nt.toInt = 0 ∨ a < 450 ∨ 453 < a)
def b_X11_go_400_35 (wi : Int32) (co : Int32) (fr : Int32) (od : Int32) (nt : Int32) (rc35 : Int32 → tV → tV) (y6 : Int32) (v1 : tV) : tV := (if (6 : Int32) ≤ y6 then bnd (v1 400 25) fun x4 => bnd (x4 + (1 : Int32)) fun x5 => bnd (up2 v1 400 25 x5) fun v6 => v6 else bnd ((5 : Int32) * y6) fun x11 => bnd (x11 + co) fun x14 => bnd (v1 425 x14.toNatClampNeg) fun x17 => bnd (v1 422 y6.toNatClampNeg) fun x18 => bnd (v1 421 y6.toNatClampNeg) fun x19 => (if x17 ≤ x19 then bnd (x18 + (0 : Int32)) fun x22 => bnd (up2 v1 422 (y6.toNatClampNeg) x22) fun v23 => bnd (v23 421 y6.toNatClampNeg) fun x26 => (if x17 ≤ x26 then bnd (v23 421 y6.toNatClampNeg) fun x29 => bnd (x29 - x17) fun x30 => bnd (up2 v23 421 (y6.toNatClampNeg) x30) fun v31 => bnd (v31 423 y6.toNatClampNeg) fun x34 => bnd (x34 + x17) fun x35 => bnd (up2 v31 423 (y6.toNatClampNeg) x35) fun v36 => bnd (y6 + 1) fun x39 => rc35 x39 v36 else bnd (v23 421 y6.toNatClampNeg) fun x43 => bnd (v23 421 y6.toNatClampNeg) fun x44 => bnd (x44 - x43) fun x45 => bnd (up2 v23 421 (y6.toNatClampNeg) x45) fun v46 => bnd (v46 423 y6.toNatClampNeg) fun x49 => bnd (x49 + x43) fun x50 => bnd (up2 v46 423 (y6.toNatClampNeg) x50) fun v51 => bnd (y6 + 1) fun x54 => rc35 x54 v51) else bnd (x18 + (1 : Int32)) fun x58 => bnd (up2 v1 422 (y6.toNatClampNeg) x58) fun v59 => bnd (v59 421 y6.toNatClampNeg) fun x62 => (if x17 ≤ x62 then bnd (v59 421 y6.toNatClampNeg) fun x65 => bnd (x65 - x17) fun x66 => bnd (up2 v59 421 (y6.toNatClampNeg) x66) fun v67 => bnd (v67 423 y6.toNatClampNeg) fun x70 => bnd (x70 + x17) fun x71 => bnd (up2 v67 423 (y6.toNatClampNeg) x71) fun v72 => bnd (y6 + 1) fun x75 => rc35 x75 v72 else bnd (v59 421 y6.toNatClampNeg) fun x79 => bnd (v59 421 y6.toNatClampNeg) fun x80 => bnd (x80 - x79) fun x81 => bnd (up2 v59 421 (y6.toNatClampNeg) x81) fun v82 => bnd (v82 423 y6.toNatClampNeg) fun x85 => bnd (x85 + x79) fun x86 => bnd (up2 v82 423 (y6.toNatClampNeg) x86) fun v87 => bnd (y6 + 1) fun x90 => rc35 x90 v87)))
def g_X11_go_400_35 (wi : Int32) (co : Int32) (fr : Int32) (od : Int32) (nt : Int32) : Nat → Int32 → tV → tV
  | 0, _, v1 => v1
  | n + 1, y6, v1 => b_X11_go_400_35 wi co fr od nt (g_X11_go_400_35 wi co fr od nt n) y6 v1
def f_X11_go_400 (v : tV) (wi : Int32) (co : Int32) (fr : Int32) (od : Int32) (nt : Int32) : tV := bnd (up2 v 400 27 0) fun v93 => bnd (up2 v93 400 58 0) fun v97 => bnd (up2 v97 400 59 0) fun v101 => bnd (f_X11_arrive_400 v101 wi) fun v106 => (if fr = (0 : Int32) then bnd (f_X11_market_400 v106 od nt) fun v118 => g_X11_go_400_35 wi co fr od nt 100000 0 v118 else g_X11_go_400_35 wi co fr od nt 100000 0 v106)
set_option maxHeartbeats 4000000 in
set_option maxRecDepth 100000 in
theorem ct_X11_go_400 (l : Launch) (D : va_G) (dA : Nat → ClassId) (ad : Nat → Nat) (v : tV) (hI : Inv v) (wi : Int32) (co : Int32) (fr : Int32) (od : Int32) (nt : Int32) (r_co : Rg co 0 4) (r_od : Rg od (-1) 7) : Met l m_X11_go [.code m_X11_go c_X11_go 8 none] ({ frames := 5, cells := 0, slots := 0, locals := 133 } : Room) (tP D dA ad v [.ref (ad 400), .int wi, .int co, .int fr, .int od, .int nt]) (tQv D dA ad (fun v' => (Inv v' ∧ Kp (kp_X11_go_400 wi co fr od nt) v v') ∧ v' = f_X11_go_400 v wi co fr od nt)) 0 0 (tA ad) := by
  refine tMet (by decide) (Nat.le_of_ble_eq_true rfl) ?_
  intro p e s m below meth c ls X hr hlocks hw hl
  have X : CX p s m ([.ref (ad 400), .int wi, .int co, .int fr, .int od, .int nt] : List Value).toArray c c_X11_go N_X11 8 D dA := X
  have hx := X.1
  have hb := X.2.1
  have hS : va_S (tA ad) s.heap s.heap [] := va_S.rf
  have hl : lv_has ls 8 [(0, .ref (ad 400)), (1, .int wi), (2, .int co), (3, .int fr), (4, .int od), (5, .int nt)] := hl
  obtain ⟨RR, eRR⟩ : ∃ z, f_X11_go_400 v wi co fr od nt = z := ⟨_, rfl⟩
  have LL : ∀ n : Nat, (∀ (y6 : Int32) (v1 : tV) (H : Heap) (locs : List Loc) (ls : Array Slot), (6 - y6.toInt).toNat < n → Rg y6 0 6 → Inv v1 → Kp (kp_X11_go_400 wi co fr od nt) v v1 → g_X11_go_400_35 wi co fr od nt n y6 v1 = RR → tI D dA ad v1 H → va_S (tA ad) s.heap H locs → lv_has ls 8 [(0, .ref (ad 400)), (2, .int co), (6, .int y6)] → W p l e ({ frames := 5, cells := 0, slots := 0, locals := 133 } : Room) s m ([.ref (ad 400), .int wi, .int co, .int fr, .int od, .int nt] : List Value).toArray below meth c H locs 0 0 (MQ below (tQv D dA ad (fun v' => (Inv v' ∧ Kp (kp_X11_go_400 wi co fr od nt) v v') ∧ v' = f_X11_go_400 v wi co fr od nt)) ([.ref (ad 400), .int wi, .int co, .int fr, .int od, .int nt] : List Value).toArray s 0 0 (tA ad)) (F0 m 35 ls [])) := by
    intro n
    induction n with
    | zero => intros; omega
    | succ n ih =>
      have ih0 := ih
      intro y6 v1 H locs ls hmu r_y6 hI1 hK1 hG hw hS hl
      have hG : b_X11_go_400_35 wi co fr od nt (g_X11_go_400_35 wi co fr od nt n) y6 v1 = RR := hG
      unfold b_X11_go_400_35 at hG
      refine lv_iload hx hb d_X11_go_35 (lv_at hl 2 rfl) ?_
      refine lv_bipush (v := 6) hx hb d_X11_go_37 (by decide) ?_
      refine lv_icmp_ge (tgt := 138) hx hb d_X11_go_39 (by decide) (fun c1 => ?_) (fun c1 => ?_)
      · have f2 := i_le c1
        have r3 : Rg y6 6 6 := by obtain ⟨a1, a2⟩ := r_y6; obtain ⟨b1, b2⟩ := (⟨by decide, by decide⟩ : Rg 6 6 6); have f := i_le c1; exact ⟨by omega, by omega⟩
        have hG := g_pos c1 hG
        refine lv_aload_n hx hb d_X11_go_138 rfl (lv_at hl 0 rfl) ?_
        refine lv_dup hx hb d_X11_go_139 rfl ?_
        refine r_geti X hw FL_X11_227 (rfl : KD 400 = _) rfl d_X11_go_140 ?_
        refine lv_topi (fun x4 ex4 => ?_)
        have hG := bnd_use ex4 hG
        refine lv_iconst (v := 1) hx hb d_X11_go_143 (by decide) ?_
        refine lv_iadd hx hb d_X11_go_144 ?_
        refine lv_topi (fun x5 ex5 => ?_)
        have hG := bnd_use ex5 hG
        refine r_put X hw hS FP_X11_227 (rfl : KD 400 = _) rfl ⟨rfl, rfl⟩ d_X11_go_145 (fun H locs hw hS => ?_)
        obtain ⟨v6, ev6⟩ : ∃ z, z = up2 v1 400 25 x5 := ⟨_, rfl⟩
        rw [← ev6] at hw
        have hG := bnd_use ev6 hG
        have hI7 : Inv v6 := by rw [ev6]; exact Inv.put0 hI1 _ rfl
        have hK8 : Kp (kp_X11_go_400 wi co fr od nt) v v6 := by rw [ev6]; exact Kp.put hK1 _ (by unfold kp_X11_go_400; omega)
        exact r_vret X hr hlocks hw hS ⟨⟨hI7, hK8⟩, hG.trans eRR.symm⟩ d_X11_go_148
      · have f9 := i_nle c1
        have r10 : Rg y6 0 5 := by obtain ⟨a1, a2⟩ := r_y6; obtain ⟨b1, b2⟩ := (⟨by decide, by decide⟩ : Rg 6 6 6); have f := i_nle c1; exact ⟨by omega, by omega⟩
        have hG := g_neg c1 hG
        refine lv_aload_n hx hb d_X11_go_42 rfl (lv_at hl 0 rfl) ?_
        refine r_getr (r := 425) X hw FL_X11_73 (rfl : KD 400 = _) rfl d_X11_go_43 ?_
        refine lv_iconst (v := 5) hx hb d_X11_go_46 (by decide) ?_
        refine lv_iload hx hb d_X11_go_47 (lv_at hl 2 rfl) ?_
        refine lv_imul hx hb d_X11_go_49 ?_
        refine lv_topi (fun x11 ex11 => ?_)
        have hG := bnd_use ex11 hG
        have r12 : Rg x11 0 25 := rg_mulc ex11 (⟨by decide, by decide⟩ : Rg 5 5 5) r10 (by decide) (by decide) (by decide)
        have s13 : x11.toInt = 5 * y6.toInt := rg_mule ex11 r10 rfl (by decide) (by decide)
        refine lv_iload_n hx hb d_X11_go_50 rfl (lv_at hl 1 rfl) ?_
        refine lv_iadd hx hb d_X11_go_51 ?_
        refine lv_topi (fun x14 ex14 => ?_)
        have hG := bnd_use ex14 hG
        have r15 : Rg x14 0 29 := rg_add ex14 r12 r_co (by decide) (by decide)
        have s16 : x14.toInt = x11.toInt + (co : Int32).toInt := by rw [ex14]; exact i_add (by obtain ⟨_, _⟩ := r12; obtain ⟨_, _⟩ := r_co; omega) (by obtain ⟨_, _⟩ := r12; obtain ⟨_, _⟩ := r_co; omega)
        refine r_iald X hw (rfl : KD 425 = _) (Rg.vp (b := 29) r15 (by decide)) rfl d_X11_go_52 ?_
        refine lv_topi (fun x17 ex17 => ?_)
        have hG := bnd_use ex17 hG
        refine lv_istore (lv' := [(7, .int x17), (0, .ref (ad 400)), (2, .int co), (6, .int y6)]) hx hb d_X11_go_53 hl (by decide) rfl (fun ls hl => ?_)
        refine lv_aload_n hx hb d_X11_go_55 rfl (lv_at hl 1 rfl) ?_
        refine r_getr (r := 422) X hw FL_X11_64 (rfl : KD 400 = _) rfl d_X11_go_56 ?_
        refine lv_iload hx hb d_X11_go_59 (lv_at hl 3 rfl) ?_
        refine lv_dup2_11 hx hb d_X11_go_61 rfl rfl ?_
        refine r_iald X hw (rfl : KD 422 = _) (Rg.vp (b := 5) r10 (by decide)) rfl d_X11_go_62 ?_
        refine lv_topi (fun x18 ex18 => ?_)
        have hG := bnd_use ex18 hG
        refine lv_aload_n hx hb d_X11_go_63 rfl (lv_at hl 1 rfl) ?_
        refine r_getr (r := 421) X hw FL_X11_61 (rfl : KD 400 = _) rfl d_X11_go_64 ?_
        refine lv_iload hx hb d_X11_go_67 (lv_at hl 3 rfl) ?_
        refine r_iald X hw (rfl : KD 421 = _) (Rg.vp (b := 5) r10 (by decide)) rfl d_X11_go_69 ?_
        refine lv_topi (fun x19 ex19 => ?_)
        have hG := bnd_use ex19 hG
        refine lv_iload hx hb d_X11_go_70 (lv_at hl 0 rfl) ?_
        refine lv_icmp_ge (tgt := 79) hx hb d_X11_go_72 (by decide) (fun c20 => ?_) (fun c20 => ?_)
        · have f21 := i_le c20
          have hG := g_pos c20 hG
          refine lv_iconst (v := 0) hx hb d_X11_go_79 (by decide) ?_
          refine lv_iadd hx hb d_X11_go_80 ?_
          refine lv_topi (fun x22 ex22 => ?_)
          have hG := bnd_use ex22 hG
          refine r_iast X hw hS (rfl : KD 422 = _) (Rg.vp (b := 5) r10 (by decide)) rfl d_X11_go_81 (fun H locs hw hS => ?_)
          obtain ⟨v23, ev23⟩ : ∃ z, z = up2 v1 422 y6.toNatClampNeg x22 := ⟨_, rfl⟩
          rw [← ev23] at hw
          have hG := bnd_use ev23 hG
          have hI24 : Inv v23 := by rw [ev23]; exact Inv.put0 hI1 _ rfl
          have hK25 : Kp (kp_X11_go_400 wi co fr od nt) v v23 := by rw [ev23]; exact Kp.put hK1 _ (by unfold kp_X11_go_400; omega)
          refine lv_aload_n hx hb d_X11_go_82 rfl (lv_at hl 1 rfl) ?_
          refine r_getr (r := 421) X hw FL_X11_61 (rfl : KD 400 = _) rfl d_X11_go_83 ?_
          refine lv_iload hx hb d_X11_go_86 (lv_at hl 3 rfl) ?_
          refine r_iald X hw (rfl : KD 421 = _) (Rg.vp (b := 5) r10 (by decide)) rfl d_X11_go_88 ?_
          refine lv_topi (fun x26 ex26 => ?_)
          have hG := bnd_use ex26 hG
          refine lv_iload hx hb d_X11_go_89 (lv_at hl 0 rfl) ?_
          refine lv_icmp_ge (tgt := 104) hx hb d_X11_go_91 (by decide) (fun c27 => ?_) (fun c27 => ?_)
          · have f28 := i_le c27
            have hG := g_pos c27 hG
            refine lv_iload hx hb d_X11_go_104 (lv_at hl 0 rfl) ?_
            refine lv_istore (lv' := [(7, .int x17), (0, .ref (ad 400)), (2, .int co), (6, .int y6)]) hx hb d_X11_go_106 hl (by decide) rfl (fun ls hl => ?_)
            refine lv_aload_n hx hb d_X11_go_108 rfl (lv_at hl 1 rfl) ?_
            refine r_getr (r := 421) X hw FL_X11_61 (rfl : KD 400 = _) rfl d_X11_go_109 ?_
            refine lv_iload hx hb d_X11_go_112 (lv_at hl 3 rfl) ?_
            refine lv_dup2_11 hx hb d_X11_go_114 rfl rfl ?_
            refine r_iald X hw (rfl : KD 421 = _) (Rg.vp (b := 5) r10 (by decide)) rfl d_X11_go_115 ?_
            refine lv_topi (fun x29 ex29 => ?_)
            have hG := bnd_use ex29 hG
            refine lv_iload hx hb d_X11_go_116 (lv_at hl 0 rfl) ?_
            refine lv_isub hx hb d_X11_go_118 ?_
            refine lv_topi (fun x30 ex30 => ?_)
            have hG := bnd_use ex30 hG
            refine r_iast X hw hS (rfl : KD 421 = _) (Rg.vp (b := 5) r10 (by decide)) rfl d_X11_go_119 (fun H locs hw hS => ?_)
            obtain ⟨v31, ev31⟩ : ∃ z, z = up2 v23 421 y6.toNatClampNeg x30 := ⟨_, rfl⟩
            rw [← ev31] at hw
            have hG := bnd_use ev31 hG
            have hI32 : Inv v31 := by rw [ev31]; exact Inv.put0 hI24 _ rfl
            have hK33 : Kp (kp_X11_go_400 wi co fr od nt) v v31 := by rw [ev31]; exact Kp.put hK25 _ (by unfold kp_X11_go_400; omega)
            refine lv_aload_n hx hb d_X11_go_120 rfl (lv_at hl 1 rfl) ?_
            refine r_getr (r := 423) X hw FL_X11_67 (rfl : KD 400 = _) rfl d_X11_go_121 ?_
            refine lv_iload hx hb d_X11_go_124 (lv_at hl 3 rfl) ?_
            refine lv_dup2_11 hx hb d_X11_go_126 rfl rfl ?_
            refine r_iald X hw (rfl : KD 423 = _) (Rg.vp (b := 5) r10 (by decide)) rfl d_X11_go_127 ?_
            refine lv_topi (fun x34 ex34 => ?_)
            have hG := bnd_use ex34 hG
            refine lv_iload hx hb d_X11_go_128 (lv_at hl 0 rfl) ?_
            refine lv_iadd hx hb d_X11_go_130 ?_
            refine lv_topi (fun x35 ex35 => ?_)
            have hG := bnd_use ex35 hG
            refine r_iast X hw hS (rfl : KD 423 = _) (Rg.vp (b := 5) r10 (by decide)) rfl d_X11_go_131 (fun H locs hw hS => ?_)
            obtain ⟨v36, ev36⟩ : ∃ z, z = up2 v31 423 y6.toNatClampNeg x35 := ⟨_, rfl⟩
            rw [← ev36] at hw
            have hG := bnd_use ev36 hG
            have hI37 : Inv v36 := by rw [ev36]; exact Inv.put0 hI32 _ rfl
            have hK38 : Kp (kp_X11_go_400 wi co fr od nt) v v36 := by rw [ev36]; exact Kp.put hK33 _ (by unfold kp_X11_go_400; omega)
            obtain ⟨x39, ex39⟩ : ∃ y : Int32, y = y6 + 1 := ⟨_, rfl⟩
            have hG := bnd_use ex39 hG
            refine lv_iinc (v := x39) (lv' := [(6, .int x39), (7, .int x17), (0, .ref (ad 400)), (2, .int co)]) hx hb d_X11_go_132 hl (k := 3) rfl (by rw [ex39]; rfl) (by decide) rfl (fun ls hl => ?_)
            have r40 : Rg x39 1 6 := rg_add ex39 r10 (⟨by decide, by decide⟩ : Rg 1 1 1) (by decide) (by decide)
            have s41 : x39.toInt = y6.toInt + (1 : Int32).toInt := by rw [ex39]; exact i_add (by obtain ⟨_, _⟩ := r10; obtain ⟨_, _⟩ := (⟨by decide, by decide⟩ : Rg 1 1 1); omega) (by obtain ⟨_, _⟩ := r10; obtain ⟨_, _⟩ := (⟨by decide, by decide⟩ : Rg 1 1 1); omega)
            have s41l : (1 : Int32).toInt = 1 := rfl
            refine lv_goto (tgt := 35) hx hb d_X11_go_135 (by decide) ?_
            exact ih0 x39 v36 _ _ _ (by have q_ := r_co; obtain ⟨_, _⟩ := q_; have q_ := r_od; obtain ⟨_, _⟩ := q_; have q_ := r10; obtain ⟨_, _⟩ := q_; have q_ := r12; obtain ⟨_, _⟩ := q_; have q_ := r15; obtain ⟨_, _⟩ := q_; have q_ := r40; obtain ⟨_, _⟩ := q_; omega) (rg_w r40 (by decide) (by decide)) hI37 hK38 hG hw hS (lv_sub hl [2, 3, 0] rfl)
          · have f42 := i_nle c27
            have hG := g_neg c27 hG
            refine lv_aload_n hx hb d_X11_go_94 rfl (lv_at hl 1 rfl) ?_
            refine r_getr (r := 421) X hw FL_X11_61 (rfl : KD 400 = _) rfl d_X11_go_95 ?_
            refine lv_iload hx hb d_X11_go_98 (lv_at hl 3 rfl) ?_
            refine r_iald X hw (rfl : KD 421 = _) (Rg.vp (b := 5) r10 (by decide)) rfl d_X11_go_100 ?_
            refine lv_topi (fun x43 ex43 => ?_)
            have hG := bnd_use ex43 hG
            refine lv_goto (tgt := 106) hx hb d_X11_go_101 (by decide) ?_
            refine lv_istore (lv' := [(7, .int x43), (0, .ref (ad 400)), (2, .int co), (6, .int y6)]) hx hb d_X11_go_106 hl (by decide) rfl (fun ls hl => ?_)
            refine lv_aload_n hx hb d_X11_go_108 rfl (lv_at hl 1 rfl) ?_
            refine r_getr (r := 421) X hw FL_X11_61 (rfl : KD 400 = _) rfl d_X11_go_109 ?_
            refine lv_iload hx hb d_X11_go_112 (lv_at hl 3 rfl) ?_
            refine lv_dup2_11 hx hb d_X11_go_114 rfl rfl ?_
            refine r_iald X hw (rfl : KD 421 = _) (Rg.vp (b := 5) r10 (by decide)) rfl d_X11_go_115 ?_
            refine lv_topi (fun x44 ex44 => ?_)
            have hG := bnd_use ex44 hG
            refine lv_iload hx hb d_X11_go_116 (lv_at hl 0 rfl) ?_
            refine lv_isub hx hb d_X11_go_118 ?_
            refine lv_topi (fun x45 ex45 => ?_)
            have hG := bnd_use ex45 hG
            refine r_iast X hw hS (rfl : KD 421 = _) (Rg.vp (b := 5) r10 (by decide)) rfl d_X11_go_119 (fun H locs hw hS => ?_)
            obtain ⟨v46, ev46⟩ : ∃ z, z = up2 v23 421 y6.toNatClampNeg x45 := ⟨_, rfl⟩
            rw [← ev46] at hw
            have hG := bnd_use ev46 hG
            have hI47 : Inv v46 := by rw [ev46]; exact Inv.put0 hI24 _ rfl
            have hK48 : Kp (kp_X11_go_400 wi co fr od nt) v v46 := by rw [ev46]; exact Kp.put hK25 _ (by unfold kp_X11_go_400; omega)
            refine lv_aload_n hx hb d_X11_go_120 rfl (lv_at hl 1 rfl) ?_
            refine r_getr (r := 423) X hw FL_X11_67 (rfl : KD 400 = _) rfl d_X11_go_121 ?_
            refine lv_iload hx hb d_X11_go_124 (lv_at hl 3 rfl) ?_
            refine lv_dup2_11 hx hb d_X11_go_126 rfl rfl ?_
            refine r_iald X hw (rfl : KD 423 = _) (Rg.vp (b := 5) r10 (by decide)) rfl d_X11_go_127 ?_
            refine lv_topi (fun x49 ex49 => ?_)
            have hG := bnd_use ex49 hG
            refine lv_iload hx hb d_X11_go_128 (lv_at hl 0 rfl) ?_
            refine lv_iadd hx hb d_X11_go_130 ?_
            refine lv_topi (fun x50 ex50 => ?_)
            have hG := bnd_use ex50 hG
            refine r_iast X hw hS (rfl : KD 423 = _) (Rg.vp (b := 5) r10 (by decide)) rfl d_X11_go_131 (fun H locs hw hS => ?_)
            obtain ⟨v51, ev51⟩ : ∃ z, z = up2 v46 423 y6.toNatClampNeg x50 := ⟨_, rfl⟩
            rw [← ev51] at hw
            have hG := bnd_use ev51 hG
            have hI52 : Inv v51 := by rw [ev51]; exact Inv.put0 hI47 _ rfl
            have hK53 : Kp (kp_X11_go_400 wi co fr od nt) v v51 := by rw [ev51]; exact Kp.put hK48 _ (by unfold kp_X11_go_400; omega)
            obtain ⟨x54, ex54⟩ : ∃ y : Int32, y = y6 + 1 := ⟨_, rfl⟩
            have hG := bnd_use ex54 hG
            refine lv_iinc (v := x54) (lv' := [(6, .int x54), (7, .int x43), (0, .ref (ad 400)), (2, .int co)]) hx hb d_X11_go_132 hl (k := 3) rfl (by rw [ex54]; rfl) (by decide) rfl (fun ls hl => ?_)
            have r55 : Rg x54 1 6 := rg_add ex54 r10 (⟨by decide, by decide⟩ : Rg 1 1 1) (by decide) (by decide)
            have s56 : x54.toInt = y6.toInt + (1 : Int32).toInt := by rw [ex54]; exact i_add (by obtain ⟨_, _⟩ := r10; obtain ⟨_, _⟩ := (⟨by decide, by decide⟩ : Rg 1 1 1); omega) (by obtain ⟨_, _⟩ := r10; obtain ⟨_, _⟩ := (⟨by decide, by decide⟩ : Rg 1 1 1); omega)
            have s56l : (1 : Int32).toInt = 1 := rfl
            refine lv_goto (tgt := 35) hx hb d_X11_go_135 (by decide) ?_
            exact ih0 x54 v51 _ _ _ (by have q_ := r_co; obtain ⟨_, _⟩ := q_; have q_ := r_od; obtain ⟨_, _⟩ := q_; have q_ := r10; obtain ⟨_, _⟩ := q_; have q_ := r12; obtain ⟨_, _⟩ := q_; have q_ := r15; obtain ⟨_, _⟩ := q_; have q_ := r55; obtain ⟨_, _⟩ := q_; omega) (rg_w r55 (by decide) (by decide)) hI52 hK53 hG hw hS (lv_sub hl [2, 3, 0] rfl)
        · have f57 := i_nle c20
          have hG := g_neg c20 hG
          refine lv_iconst (v := 1) hx hb d_X11_go_75 (by decide) ?_
          refine lv_goto (tgt := 80) hx hb d_X11_go_76 (by decide) ?_
          refine lv_iadd hx hb d_X11_go_80 ?_
          refine lv_topi (fun x58 ex58 => ?_)
          have hG := bnd_use ex58 hG
          refine r_iast X hw hS (rfl : KD 422 = _) (Rg.vp (b := 5) r10 (by decide)) rfl d_X11_go_81 (fun H locs hw hS => ?_)
          obtain ⟨v59, ev59⟩ : ∃ z, z = up2 v1 422 y6.toNatClampNeg x58 := ⟨_, rfl⟩
          rw [← ev59] at hw
          have hG := bnd_use ev59 hG
          have hI60 : Inv v59 := by rw [ev59]; exact Inv.put0 hI1 _ rfl
          have hK61 : Kp (kp_X11_go_400 wi co fr od nt) v v59 := by rw [ev59]; exact Kp.put hK1 _ (by unfold kp_X11_go_400; omega)
          refine lv_aload_n hx hb d_X11_go_82 rfl (lv_at hl 1 rfl) ?_
          refine r_getr (r := 421) X hw FL_X11_61 (rfl : KD 400 = _) rfl d_X11_go_83 ?_
          refine lv_iload hx hb d_X11_go_86 (lv_at hl 3 rfl) ?_
          refine r_iald X hw (rfl : KD 421 = _) (Rg.vp (b := 5) r10 (by decide)) rfl d_X11_go_88 ?_
          refine lv_topi (fun x62 ex62 => ?_)
          have hG := bnd_use ex62 hG
          refine lv_iload hx hb d_X11_go_89 (lv_at hl 0 rfl) ?_
          refine lv_icmp_ge (tgt := 104) hx hb d_X11_go_91 (by decide) (fun c63 => ?_) (fun c63 => ?_)
          · have f64 := i_le c63
            have hG := g_pos c63 hG
            refine lv_iload hx hb d_X11_go_104 (lv_at hl 0 rfl) ?_
            refine lv_istore (lv' := [(7, .int x17), (0, .ref (ad 400)), (2, .int co), (6, .int y6)]) hx hb d_X11_go_106 hl (by decide) rfl (fun ls hl => ?_)
            refine lv_aload_n hx hb d_X11_go_108 rfl (lv_at hl 1 rfl) ?_
            refine r_getr (r := 421) X hw FL_X11_61 (rfl : KD 400 = _) rfl d_X11_go_109 ?_
            refine lv_iload hx hb d_X11_go_112 (lv_at hl 3 rfl) ?_
            refine lv_dup2_11 hx hb d_X11_go_114 rfl rfl ?_
            refine r_iald X hw (rfl : KD 421 = _) (Rg.vp (b := 5) r10 (by decide)) rfl d_X11_go_115 ?_
            refine lv_topi (fun x65 ex65 => ?_)
            have hG := bnd_use ex65 hG
            refine lv_iload hx hb d_X11_go_116 (lv_at hl 0 rfl) ?_
            refine lv_isub hx hb d_X11_go_118 ?_
            refine lv_topi (fun x66 ex66 => ?_)
            have hG := bnd_use ex66 hG
            refine r_iast X hw hS (rfl : KD 421 = _) (Rg.vp (b := 5) r10 (by decide)) rfl d_X11_go_119 (fun H locs hw hS => ?_)
            obtain ⟨v67, ev67⟩ : ∃ z, z = up2 v59 421 y6.toNatClampNeg x66 := ⟨_, rfl⟩
            rw [← ev67] at hw
            have hG := bnd_use ev67 hG
            have hI68 : Inv v67 := by rw [ev67]; exact Inv.put0 hI60 _ rfl
            have hK69 : Kp (kp_X11_go_400 wi co fr od nt) v v67 := by rw [ev67]; exact Kp.put hK61 _ (by unfold kp_X11_go_400; omega)
            refine lv_aload_n hx hb d_X11_go_120 rfl (lv_at hl 1 rfl) ?_
            refine r_getr (r := 423) X hw FL_X11_67 (rfl : KD 400 = _) rfl d_X11_go_121 ?_
            refine lv_iload hx hb d_X11_go_124 (lv_at hl 3 rfl) ?_
            refine lv_dup2_11 hx hb d_X11_go_126 rfl rfl ?_
            refine r_iald X hw (rfl : KD 423 = _) (Rg.vp (b := 5) r10 (by decide)) rfl d_X11_go_127 ?_
            refine lv_topi (fun x70 ex70 => ?_)
            have hG := bnd_use ex70 hG
            refine lv_iload hx hb d_X11_go_128 (lv_at hl 0 rfl) ?_
            refine lv_iadd hx hb d_X11_go_130 ?_
            refine lv_topi (fun x71 ex71 => ?_)
            have hG := bnd_use ex71 hG
            refine r_iast X hw hS (rfl : KD 423 = _) (Rg.vp (b := 5) r10 (by decide)) rfl d_X11_go_131 (fun H locs hw hS => ?_)
            obtain ⟨v72, ev72⟩ : ∃ z, z = up2 v67 423 y6.toNatClampNeg x71 := ⟨_, rfl⟩
            rw [← ev72] at hw
            have hG := bnd_use ev72 hG
            have hI73 : Inv v72 := by rw [ev72]; exact Inv.put0 hI68 _ rfl
            have hK74 : Kp (kp_X11_go_400 wi co fr od nt) v v72 := by rw [ev72]; exact Kp.put hK69 _ (by unfold kp_X11_go_400; omega)
            obtain ⟨x75, ex75⟩ : ∃ y : Int32, y = y6 + 1 := ⟨_, rfl⟩
            have hG := bnd_use ex75 hG
            refine lv_iinc (v := x75) (lv' := [(6, .int x75), (7, .int x17), (0, .ref (ad 400)), (2, .int co)]) hx hb d_X11_go_132 hl (k := 3) rfl (by rw [ex75]; rfl) (by decide) rfl (fun ls hl => ?_)
            have r76 : Rg x75 1 6 := rg_add ex75 r10 (⟨by decide, by decide⟩ : Rg 1 1 1) (by decide) (by decide)
            have s77 : x75.toInt = y6.toInt + (1 : Int32).toInt := by rw [ex75]; exact i_add (by obtain ⟨_, _⟩ := r10; obtain ⟨_, _⟩ := (⟨by decide, by decide⟩ : Rg 1 1 1); omega) (by obtain ⟨_, _⟩ := r10; obtain ⟨_, _⟩ := (⟨by decide, by decide⟩ : Rg 1 1 1); omega)
            have s77l : (1 : Int32).toInt = 1 := rfl
            refine lv_goto (tgt := 35) hx hb d_X11_go_135 (by decide) ?_
            exact ih0 x75 v72 _ _ _ (by have q_ := r_co; obtain ⟨_, _⟩ := q_; have q_ := r_od; obtain ⟨_, _⟩ := q_; have q_ := r10; obtain ⟨_, _⟩ := q_; have q_ := r12; obtain ⟨_, _⟩ := q_; have q_ := r15; obtain ⟨_, _⟩ := q_; have q_ := r76; obtain ⟨_, _⟩ := q_; omega) (rg_w r76 (by decide) (by decide)) hI73 hK74 hG hw hS (lv_sub hl [2, 3, 0] rfl)
          · have f78 := i_nle c63
            have hG := g_neg c63 hG
            refine lv_aload_n hx hb d_X11_go_94 rfl (lv_at hl 1 rfl) ?_
            refine r_getr (r := 421) X hw FL_X11_61 (rfl : KD 400 = _) rfl d_X11_go_95 ?_
            refine lv_iload hx hb d_X11_go_98 (lv_at hl 3 rfl) ?_
            refine r_iald X hw (rfl : KD 421 = _) (Rg.vp (b := 5) r10 (by decide)) rfl d_X11_go_100 ?_
            refine lv_topi (fun x79 ex79 => ?_)
            have hG := bnd_use ex79 hG
            refine lv_goto (tgt := 106) hx hb d_X11_go_101 (by decide) ?_
            refine lv_istore (lv' := [(7, .int x79), (0, .ref (ad 400)), (2, .int co), (6, .int y6)]) hx hb d_X11_go_106 hl (by decide) rfl (fun ls hl => ?_)
            refine lv_aload_n hx hb d_X11_go_108 rfl (lv_at hl 1 rfl) ?_
            refine r_getr (r := 421) X hw FL_X11_61 (rfl : KD 400 = _) rfl d_X11_go_109 ?_
            refine lv_iload hx hb d_X11_go_112 (lv_at hl 3 rfl) ?_
            refine lv_dup2_11 hx hb d_X11_go_114 rfl rfl ?_
            refine r_iald X hw (rfl : KD 421 = _) (Rg.vp (b := 5) r10 (by decide)) rfl d_X11_go_115 ?_
            refine lv_topi (fun x80 ex80 => ?_)
            have hG := bnd_use ex80 hG
            refine lv_iload hx hb d_X11_go_116 (lv_at hl 0 rfl) ?_
            refine lv_isub hx hb d_X11_go_118 ?_
            refine lv_topi (fun x81 ex81 => ?_)
            have hG := bnd_use ex81 hG
            refine r_iast X hw hS (rfl : KD 421 = _) (Rg.vp (b := 5) r10 (by decide)) rfl d_X11_go_119 (fun H locs hw hS => ?_)
            obtain ⟨v82, ev82⟩ : ∃ z, z = up2 v59 421 y6.toNatClampNeg x81 := ⟨_, rfl⟩
            rw [← ev82] at hw
            have hG := bnd_use ev82 hG
            have hI83 : Inv v82 := by rw [ev82]; exact Inv.put0 hI60 _ rfl
            have hK84 : Kp (kp_X11_go_400 wi co fr od nt) v v82 := by rw [ev82]; exact Kp.put hK61 _ (by unfold kp_X11_go_400; omega)
            refine lv_aload_n hx hb d_X11_go_120 rfl (lv_at hl 1 rfl) ?_
            refine r_getr (r := 423) X hw FL_X11_67 (rfl : KD 400 = _) rfl d_X11_go_121 ?_
            refine lv_iload hx hb d_X11_go_124 (lv_at hl 3 rfl) ?_
            refine lv_dup2_11 hx hb d_X11_go_126 rfl rfl ?_
            refine r_iald X hw (rfl : KD 423 = _) (Rg.vp (b := 5) r10 (by decide)) rfl d_X11_go_127 ?_
            refine lv_topi (fun x85 ex85 => ?_)
            have hG := bnd_use ex85 hG
            refine lv_iload hx hb d_X11_go_128 (lv_at hl 0 rfl) ?_
            refine lv_iadd hx hb d_X11_go_130 ?_
            refine lv_topi (fun x86 ex86 => ?_)
            have hG := bnd_use ex86 hG
            refine r_iast X hw hS (rfl : KD 423 = _) (Rg.vp (b := 5) r10 (by decide)) rfl d_X11_go_131 (fun H locs hw hS => ?_)
            obtain ⟨v87, ev87⟩ : ∃ z, z = up2 v82 423 y6.toNatClampNeg x86 := ⟨_, rfl⟩
            rw [← ev87] at hw
            have hG := bnd_use ev87 hG
            have hI88 : Inv v87 := by rw [ev87]; exact Inv.put0 hI83 _ rfl
            have hK89 : Kp (kp_X11_go_400 wi co fr od nt) v v87 := by rw [ev87]; exact Kp.put hK84 _ (by unfold kp_X11_go_400; omega)
            obtain ⟨x90, ex90⟩ : ∃ y : Int32, y = y6 + 1 := ⟨_, rfl⟩
            have hG := bnd_use ex90 hG
            refine lv_iinc (v := x90) (lv' := [(6, .int x90), (7, .int x79), (0, .ref (ad 400)), (2, .int co)]) hx hb d_X11_go_132 hl (k := 3) rfl (by rw [ex90]; rfl) (by decide) rfl (fun ls hl => ?_)
            have r91 : Rg x90 1 6 := rg_add ex90 r10 (⟨by decide, by decide⟩ : Rg 1 1 1) (by decide) (by decide)
            have s92 : x90.toInt = y6.toInt + (1 : Int32).toInt := by rw [ex90]; exact i_add (by obtain ⟨_, _⟩ := r10; obtain ⟨_, _⟩ := (⟨by decide, by decide⟩ : Rg 1 1 1); omega) (by obtain ⟨_, _⟩ := r10; obtain ⟨_, _⟩ := (⟨by decide, by decide⟩ : Rg 1 1 1); omega)
            have s92l : (1 : Int32).toInt = 1 := rfl
            refine lv_goto (tgt := 35) hx hb d_X11_go_135 (by decide) ?_
            exact ih0 x90 v87 _ _ _ (by have q_ := r_co; obtain ⟨_, _⟩ := q_; have q_ := r_od; obtain ⟨_, _⟩ := q_; have q_ := r10; obtain ⟨_, _⟩ := q_; have q_ := r12; obtain ⟨_, _⟩ := q_; have q_ := r15; obtain ⟨_, _⟩ := q_; have q_ := r91; obtain ⟨_, _⟩ := q_; omega) (rg_w r91 (by decide) (by decide)) hI88 hK89 hG hw hS (lv_sub hl [2, 3, 0] rfl)
  have ih0 := LL 100000
  have hK0 : Kp (kp_X11_go_400 wi co fr od nt) v v := Kp.rf _ v
  have hG := eRR
  unfold f_X11_go_400 at hG
  refine lv_aload_n hx hb d_X11_go_0 rfl (lv_at hl 0 rfl) ?_
  refine lv_iconst (v := 0) hx hb d_X11_go_1 (by decide) ?_
  refine r_put X hw hS FP_X11_243 (rfl : KD 400 = _) rfl ⟨rfl, rfl⟩ d_X11_go_2 (fun H locs hw hS => ?_)
  obtain ⟨v93, ev93⟩ : ∃ z, z = up2 v 400 27 0 := ⟨_, rfl⟩
  rw [← ev93] at hw
  have hG := bnd_use ev93 hG
  have hI94 : Inv v93 := by rw [ev93]; exact Inv.putr hI rfl (rg_w (⟨by decide, by decide⟩ : Rg 0 0 0) (by decide) (by decide))
  have hK95 : Kp (kp_X11_go_400 wi co fr od nt) v v93 := by rw [ev93]; exact Kp.put hK0 _ (by unfold kp_X11_go_400; omega)
  have hm96 : v93 400 27 = 0 := by rw [ev93, up2_s]
  refine lv_aload_n hx hb d_X11_go_5 rfl (lv_at hl 0 rfl) ?_
  refine lv_iconst (v := 0) hx hb d_X11_go_6 (by decide) ?_
  refine r_put X hw hS FP_X11_246 (rfl : KD 400 = _) rfl ⟨rfl, rfl⟩ d_X11_go_7 (fun H locs hw hS => ?_)
  obtain ⟨v97, ev97⟩ : ∃ z, z = up2 v93 400 58 0 := ⟨_, rfl⟩
  rw [← ev97] at hw
  have hG := bnd_use ev97 hG
  have hI98 : Inv v97 := by rw [ev97]; exact Inv.put0 hI94 _ rfl
  have hK99 : Kp (kp_X11_go_400 wi co fr od nt) v v97 := by rw [ev97]; exact Kp.put hK95 _ (by unfold kp_X11_go_400; omega)
  have hm100 : v97 400 27 = 0 := by rw [ev97, up2_n _ _ (by omega)]; exact hm96
  refine lv_aload_n hx hb d_X11_go_10 rfl (lv_at hl 0 rfl) ?_
  refine lv_iconst (v := 0) hx hb d_X11_go_11 (by decide) ?_
  refine r_put X hw hS FP_X11_249 (rfl : KD 400 = _) rfl ⟨rfl, rfl⟩ d_X11_go_12 (fun H locs hw hS => ?_)
  obtain ⟨v101, ev101⟩ : ∃ z, z = up2 v97 400 59 0 := ⟨_, rfl⟩
  rw [← ev101] at hw
  have hG := bnd_use ev101 hG
  have hI102 : Inv v101 := by rw [ev101]; exact Inv.put0 hI98 _ rfl
  have hK103 : Kp (kp_X11_go_400 wi co fr od nt) v v101 := by rw [ev101]; exact Kp.put hK99 _ (by unfold kp_X11_go_400; omega)
  have hm104 : v101 400 27 = 0 := by rw [ev101, up2_n _ _ (by omega)]; exact hm100
  refine lv_aload_n hx hb d_X11_go_15 rfl (lv_at hl 0 rfl) ?_
  refine lv_iload_n hx hb d_X11_go_16 rfl (lv_at hl 1 rfl) ?_
  refine r_cv (r_runV (n := 1) (As := [.int wi]) (rest := []) X hw (ct_X11_arrive_400 l D dA ad v101 hI102 wi) gc_X11_281 (rfl : KD 400 = _) (by decide) rfl (by decide +kernel) ⟨rfl, rfl, Nat.le_of_ble_eq_true rfl, Nat.le_of_ble_eq_true rfl⟩ rfl hl.1 rfl (Nat.le_of_ble_eq_true rfl) ⟨Nat.zero_le _, Nat.zero_le _⟩ d_X11_go_17) hS (fun v106 H locs hp105 hw hS => ?_)
  obtain ⟨hp105, hE107⟩ := hp105
  obtain ⟨hI108, hK109, hk110⟩ := hp105
  have hK111 : Kp (kp_X11_go_400 wi co fr od nt) v v106 := Kp.tr hK103 hK109 (by have z0 : (0 : Int32).toInt = 0 := rfl; intro a j; unfold kp_X11_go_400 kp_X11_arrive_400; omega)
  have hm112 : v106 400 (27) = 0 := hk110.trans hm104
  have hG := bnd_use hE107 hG
  refine lv_iload_n hx hb d_X11_go_20 rfl (lv_at hl 3 rfl) ?_
  refine lv_if_ne (tgt := 32) hx hb d_X11_go_21 (by decide) (fun c113 => ?_) (fun c113 => ?_)
  · have f114 := i_ne c113
    have hG := g_neg c113 hG
    refine lv_iconst (v := 0) hx hb d_X11_go_32 (by decide) ?_
    refine lv_istore (lv' := [(6, .int 0), (0, .ref (ad 400)), (1, .int wi), (2, .int co), (3, .int fr), (4, .int od), (5, .int nt)]) hx hb d_X11_go_33 hl (by decide) rfl (fun ls hl => ?_)
    exact ih0 0 v106 _ _ _ (by have q_ := r_co; obtain ⟨_, _⟩ := q_; have q_ := r_od; obtain ⟨_, _⟩ := q_; have q_ : (0 : Int32).toInt = 0 := rfl; omega) (rg_w (⟨by decide, by decide⟩ : Rg 0 0 0) (by decide) (by decide)) hI108 hK111 hG hw hS (lv_sub hl [1, 3, 0] rfl)
  · have f115 := i_eq c113
    have r116 : Rg fr 0 0 := by obtain ⟨a1, a2⟩ := (rg_any fr); obtain ⟨b1, b2⟩ := (⟨by decide, by decide⟩ : Rg 0 0 0); have f := i_eq c113; exact ⟨by omega, by omega⟩
    have hG := g_pos c113 hG
    refine lv_aload_n hx hb d_X11_go_24 rfl (lv_at hl 0 rfl) ?_
    refine lv_iload hx hb d_X11_go_25 (lv_at hl 4 rfl) ?_
    refine lv_iload hx hb d_X11_go_27 (lv_at hl 5 rfl) ?_
    refine r_cv (r_runV (n := 2) (As := [.int od, .int nt]) (rest := []) X hw (ct_X11_market_400 l D dA ad v106 hI108 od nt r_od (by rw [hm112]; rfl)) gc_X11_284 (rfl : KD 400 = _) (by decide) rfl (by decide +kernel) ⟨rfl, rfl, Nat.le_of_ble_eq_true rfl, Nat.le_of_ble_eq_true rfl⟩ rfl hl.1 rfl (Nat.le_of_ble_eq_true rfl) ⟨Nat.zero_le _, Nat.zero_le _⟩ d_X11_go_29) hS (fun v118 H locs hp117 hw hS => ?_)
    obtain ⟨hp117, hE119⟩ := hp117
    obtain ⟨hI120, hK121⟩ := hp117
    have hK122 : Kp (kp_X11_go_400 wi co fr od nt) v v118 := Kp.tr hK111 hK121 (by have z0 : (0 : Int32).toInt = 0 := rfl; intro a j; unfold kp_X11_go_400 kp_X11_market_400; omega)
    have hG := bnd_use hE119 hG
    refine lv_iconst (v := 0) hx hb d_X11_go_32 (by decide) ?_
    refine lv_istore (lv' := [(6, .int 0), (0, .ref (ad 400)), (1, .int wi), (2, .int co), (3, .int fr), (4, .int od), (5, .int nt)]) hx hb d_X11_go_33 hl (by decide) rfl (fun ls hl => ?_)
    exact ih0 0 v118 _ _ _ (by have q_ := r_co; obtain ⟨_, _⟩ := q_; have q_ := r_od; obtain ⟨_, _⟩ := q_; have q_ := r116; obtain ⟨_, _⟩ := q_; have q_ : (0 : Int32).toInt = 0 := rfl; omega) (rg_w (⟨by decide, by decide⟩ : Rg 0 0 0) (by decide) (by decide)) hI120 hK122 hG hw hS (lv_sub hl [1, 3, 0] rfl)
theorem d_X11_day_0 : decode c_X11_day 0 = .ok (.iload_n 1, 1) := by decide +kernel
theorem d_X11_day_1 : decode c_X11_day 1 = .ok (.iconst 0, 1) := by decide +kernel
theorem d_X11_day_2 : decode c_X11_day 2 = .ok (.bipush 9, 2) := by decide +kernel
theorem d_X11_day_4 : decode c_X11_day 4 = .ok (.invokestatic 169, 3) := by decide +kernel
theorem d_X11_day_7 : decode c_X11_day 7 = .ok (.ifCond .eq 21, 3) := by decide +kernel
theorem d_X11_day_10 : decode c_X11_day 10 = .ok (.iload_n 2, 1) := by decide +kernel
theorem d_X11_day_11 : decode c_X11_day 11 = .ok (.iconst 0, 1) := by decide +kernel
theorem d_X11_day_12 : decode c_X11_day 12 = .ok (.iconst 4, 1) := by decide +kernel
theorem d_X11_day_13 : decode c_X11_day 13 = .ok (.invokestatic 169, 3) := by decide +kernel
theorem d_X11_day_16 : decode c_X11_day 16 = .ok (.ifCond .eq 12, 3) := by decide +kernel
theorem d_X11_day_19 : decode c_X11_day 19 = .ok (.iload_n 3, 1) := by decide +kernel
theorem d_X11_day_20 : decode c_X11_day 20 = .ok (.iconst 0, 1) := by decide +kernel
theorem d_X11_day_21 : decode c_X11_day 21 = .ok (.iconst 1, 1) := by decide +kernel
theorem d_X11_day_22 : decode c_X11_day 22 = .ok (.invokestatic 169, 3) := by decide +kernel
theorem d_X11_day_25 : decode c_X11_day 25 = .ok (.ifCond .ne 6, 3) := by decide +kernel
theorem d_X11_day_28 : decode c_X11_day 28 = .ok (.bipush (-2), 2) := by decide +kernel
theorem d_X11_day_30 : decode c_X11_day 30 = .ok (.ireturn, 1) := by decide +kernel
theorem d_X11_day_31 : decode c_X11_day 31 = .ok (.aload_n 0, 1) := by decide +kernel
theorem d_X11_day_32 : decode c_X11_day 32 = .ok (.getfield 227, 3) := by decide +kernel
theorem d_X11_day_35 : decode c_X11_day 35 = .ok (.sipush 999, 3) := by decide +kernel
theorem d_X11_day_38 : decode c_X11_day 38 = .ok (.if_icmp .ne 6, 3) := by decide +kernel
theorem d_X11_day_41 : decode c_X11_day 41 = .ok (.bipush (-4), 2) := by decide +kernel
theorem d_X11_day_43 : decode c_X11_day 43 = .ok (.ireturn, 1) := by decide +kernel
theorem d_X11_day_44 : decode c_X11_day 44 = .ok (.aload_n 0, 1) := by decide +kernel
theorem d_X11_day_45 : decode c_X11_day 45 = .ok (.iload_n 1, 1) := by decide +kernel
theorem d_X11_day_46 : decode c_X11_day 46 = .ok (.iload_n 2, 1) := by decide +kernel
theorem d_X11_day_47 : decode c_X11_day 47 = .ok (.iload_n 3, 1) := by decide +kernel
theorem d_X11_day_48 : decode c_X11_day 48 = .ok (.iconst 1, 1) := by decide +kernel
theorem d_X11_day_49 : decode c_X11_day 49 = .ok (.if_icmp .ne 7, 3) := by decide +kernel
theorem d_X11_day_52 : decode c_X11_day 52 = .ok (.iconst 1, 1) := by decide +kernel
theorem d_X11_day_53 : decode c_X11_day 53 = .ok (.goto 4, 3) := by decide +kernel
theorem d_X11_day_56 : decode c_X11_day 56 = .ok (.iconst 0, 1) := by decide +kernel
theorem d_X11_day_57 : decode c_X11_day 57 = .ok (.aload_n 0, 1) := by decide +kernel
theorem d_X11_day_58 : decode c_X11_day 58 = .ok (.aload_n 0, 1) := by decide +kernel
theorem d_X11_day_59 : decode c_X11_day 59 = .ok (.getfield 227, 3) := by decide +kernel
theorem d_X11_day_62 : decode c_X11_day 62 = .ok (.invokevirtual 220, 3) := by decide +kernel
theorem d_X11_day_65 : decode c_X11_day 65 = .ok (.iconst 1, 1) := by decide +kernel
theorem d_X11_day_66 : decode c_X11_day 66 = .ok (.invokevirtual 288, 3) := by decide +kernel
theorem d_X11_day_69 : decode c_X11_day 69 = .ok (.aload_n 0, 1) := by decide +kernel
theorem d_X11_day_70 : decode c_X11_day 70 = .ok (.getfield 246, 3) := by decide +kernel
theorem d_X11_day_73 : decode c_X11_day 73 = .ok (.ireturn, 1) := by decide +kernel
def kp_X11_day_400 (wi : Int32) (co : Int32) (fr : Int32) (a j : Nat) : Prop := (a ≠ 400 ∨ (j ≠ 25 ∧ j ≠ 26 ∧ j ≠ 27 ∧ j ≠ 44 ∧ j ≠ 58 ∧ j ≠ 59)) ∧ (a < 408 ∨ 416 ≤ a) ∧ a ≠ 419 ∧ (a < 421 ∨ 425 ≤ a) ∧ (a < 429 ∨ 433 ≤ a) ∧ a ≠ 446 ∧ (a ≠ 400 ∨ j < 53 ∨ 57 < j) ∧ (a < 450 ∨ 453 < a)
def f_X11_day_400 (v : tV) (wi : Int32) (co : Int32) (fr : Int32) : Int32 × tV := (if (0 : Int32).toInt ≤ wi.toInt ∧ wi.toInt ≤ (9 : Int32).toInt then (if (0 : Int32).toInt ≤ co.toInt ∧ co.toInt ≤ (4 : Int32).toInt then (if (0 : Int32).toInt ≤ fr.toInt ∧ fr.toInt ≤ (1 : Int32).toInt then bnd (v 400 25) fun x19 => (if x19 = (999 : Int32) then ((-4 : Int32), v) else (if fr = (1 : Int32) then bnd (v 400 25) fun x39 => bnd (f_X11_forceOn_400 v x39) fun x41 => bnd (f_X11_go_400 v wi co (1 : Int32) x41 (1 : Int32)) fun v45 => bnd (v45 400 58) fun x50 => (x50, v45) else bnd (v 400 25) fun x25 => bnd (f_X11_forceOn_400 v x25) fun x27 => bnd (f_X11_go_400 v wi co (0 : Int32) x27 (1 : Int32)) fun v31 => bnd (v31 400 58) fun x36 => (x36, v31))) else ((-2 : Int32), v)) else ((-2 : Int32), v)) else ((-2 : Int32), v))
set_option maxHeartbeats 4000000 in
set_option maxRecDepth 100000 in
theorem ct_X11_day_400 (l : Launch) (D : va_G) (dA : Nat → ClassId) (ad : Nat → Nat) (v : tV) (hI : Inv v) (wi : Int32) (co : Int32) (fr : Int32) : Met l m_X11_day [.code m_X11_day c_X11_day 4 (some .int)] ({ frames := 6, cells := 0, slots := 0, locals := 160 } : Room) (tP D dA ad v [.ref (ad 400), .int wi, .int co, .int fr]) (tQi D dA ad (fun r v' => (Inv v' ∧ Kp (kp_X11_day_400 wi co fr) v v') ∧ (r, v') = f_X11_day_400 v wi co fr)) 0 0 (tA ad) := by
  refine tMet (by decide) (Nat.le_of_ble_eq_true rfl) ?_
  intro p e s m below meth c ls X hr hlocks hw hl
  have X : CX p s m ([.ref (ad 400), .int wi, .int co, .int fr] : List Value).toArray c c_X11_day N_X11 4 D dA := X
  have hx := X.1
  have hb := X.2.1
  have hS : va_S (tA ad) s.heap s.heap [] := va_S.rf
  have hl : lv_has ls 4 [(0, .ref (ad 400)), (1, .int wi), (2, .int co), (3, .int fr)] := hl
  obtain ⟨RR, eRR⟩ : ∃ z, f_X11_day_400 v wi co fr = z := ⟨_, rfl⟩
  have hK0 : Kp (kp_X11_day_400 wi co fr) v v := Kp.rf _ v
  have hG := eRR
  unfold f_X11_day_400 at hG
  refine lv_iload_n hx hb d_X11_day_0 rfl (lv_at hl 1 rfl) ?_
  refine lv_iconst (v := 0) hx hb d_X11_day_1 (by decide) ?_
  refine lv_bipush (v := 9) hx hb d_X11_day_2 (by decide) ?_
  refine r_ci (r_runS (n := 3) (As := [.int wi, .int 0, .int 9]) (rest := []) X hw (ct_X11_in l D dA ad v hI wi 0 9) gc_X11_169 (by decide +kernel) ⟨rfl, rfl, Nat.le_of_ble_eq_true rfl, Nat.le_of_ble_eq_true rfl⟩ rfl hl.1 rfl (Nat.le_of_ble_eq_true rfl) ⟨Nat.zero_le _, Nat.zero_le _⟩ d_X11_day_4) hS (fun x2 v3 H locs hp1 hw hS => ?_)
  obtain ⟨ev3, hp1⟩ := hp1
  rw [ev3] at hw
  rcases hp1 with ⟨rfl, w4a, w4b⟩ | ⟨rfl, w4n⟩
  · skip
    have hG := g_pos ⟨w4a, w4b⟩ hG
    have r5 : Rg wi 0 9 := by obtain ⟨_, _⟩ := (rg_any wi); have : (0 : Int32).toInt = 0 := rfl; have : (9 : Int32).toInt = 9 := rfl; exact ⟨by omega, by omega⟩
    refine lv_if_eq (tgt := 28) hx hb d_X11_day_7 (by decide) (fun c6 => ?_) (fun c6 => ?_)
    · exact absurd c6 (by decide)
    · refine lv_iload_n hx hb d_X11_day_10 rfl (lv_at hl 2 rfl) ?_
      refine lv_iconst (v := 0) hx hb d_X11_day_11 (by decide) ?_
      refine lv_iconst (v := 4) hx hb d_X11_day_12 (by decide) ?_
      refine r_ci (r_runS (n := 3) (As := [.int co, .int 0, .int 4]) (rest := []) X hw (ct_X11_in l D dA ad v hI co 0 4) gc_X11_169 (by decide +kernel) ⟨rfl, rfl, Nat.le_of_ble_eq_true rfl, Nat.le_of_ble_eq_true rfl⟩ rfl hl.1 rfl (Nat.le_of_ble_eq_true rfl) ⟨Nat.zero_le _, Nat.zero_le _⟩ d_X11_day_13) hS (fun x8 v9 H locs hp7 hw hS => ?_)
      obtain ⟨ev9, hp7⟩ := hp7
      rw [ev9] at hw
      rcases hp7 with ⟨rfl, w10a, w10b⟩ | ⟨rfl, w10n⟩
      · skip
        have hG := g_pos ⟨w10a, w10b⟩ hG
        have r11 : Rg co 0 4 := by obtain ⟨_, _⟩ := (rg_any co); have : (0 : Int32).toInt = 0 := rfl; have : (4 : Int32).toInt = 4 := rfl; exact ⟨by omega, by omega⟩
        refine lv_if_eq (tgt := 28) hx hb d_X11_day_16 (by decide) (fun c12 => ?_) (fun c12 => ?_)
        · exact absurd c12 (by decide)
        · refine lv_iload_n hx hb d_X11_day_19 rfl (lv_at hl 3 rfl) ?_
          refine lv_iconst (v := 0) hx hb d_X11_day_20 (by decide) ?_
          refine lv_iconst (v := 1) hx hb d_X11_day_21 (by decide) ?_
          refine r_ci (r_runS (n := 3) (As := [.int fr, .int 0, .int 1]) (rest := []) X hw (ct_X11_in l D dA ad v hI fr 0 1) gc_X11_169 (by decide +kernel) ⟨rfl, rfl, Nat.le_of_ble_eq_true rfl, Nat.le_of_ble_eq_true rfl⟩ rfl hl.1 rfl (Nat.le_of_ble_eq_true rfl) ⟨Nat.zero_le _, Nat.zero_le _⟩ d_X11_day_22) hS (fun x14 v15 H locs hp13 hw hS => ?_)
          obtain ⟨ev15, hp13⟩ := hp13
          rw [ev15] at hw
          rcases hp13 with ⟨rfl, w16a, w16b⟩ | ⟨rfl, w16n⟩
          · skip
            have hG := g_pos ⟨w16a, w16b⟩ hG
            have r17 : Rg fr 0 1 := by obtain ⟨_, _⟩ := (rg_any fr); have : (0 : Int32).toInt = 0 := rfl; have : (1 : Int32).toInt = 1 := rfl; exact ⟨by omega, by omega⟩
            refine lv_if_ne (tgt := 31) hx hb d_X11_day_25 (by decide) (fun c18 => ?_) (fun c18 => ?_)
            · refine lv_aload_n hx hb d_X11_day_31 rfl (lv_at hl 0 rfl) ?_
              refine r_geti X hw FL_X11_227 (rfl : KD 400 = _) rfl d_X11_day_32 ?_
              refine lv_topi (fun x19 ex19 => ?_)
              have hG := bnd_use ex19 hG
              refine lv_sipush (v := 999) hx hb d_X11_day_35 (by decide) ?_
              refine lv_icmp_ne (tgt := 44) hx hb d_X11_day_38 (by decide) (fun c20 => ?_) (fun c20 => ?_)
              · have f21 := i_ne c20
                have hG := g_neg c20 hG
                refine lv_aload_n hx hb d_X11_day_44 rfl (lv_at hl 0 rfl) ?_
                refine lv_iload_n hx hb d_X11_day_45 rfl (lv_at hl 1 rfl) ?_
                refine lv_iload_n hx hb d_X11_day_46 rfl (lv_at hl 2 rfl) ?_
                refine lv_iload_n hx hb d_X11_day_47 rfl (lv_at hl 3 rfl) ?_
                refine lv_iconst (v := 1) hx hb d_X11_day_48 (by decide) ?_
                refine lv_icmp_ne (tgt := 56) hx hb d_X11_day_49 (by decide) (fun c22 => ?_) (fun c22 => ?_)
                · have f23 := i_ne c22
                  have r24 : Rg fr 0 0 := by obtain ⟨a1, a2⟩ := r17; obtain ⟨b1, b2⟩ := (⟨by decide, by decide⟩ : Rg 1 1 1); have f := i_ne c22; exact ⟨by omega, by omega⟩
                  have hG := g_neg c22 hG
                  refine lv_iconst (v := 0) hx hb d_X11_day_56 (by decide) ?_
                  refine lv_aload_n hx hb d_X11_day_57 rfl (lv_at hl 0 rfl) ?_
                  refine lv_aload_n hx hb d_X11_day_58 rfl (lv_at hl 0 rfl) ?_
                  refine r_geti X hw FL_X11_227 (rfl : KD 400 = _) rfl d_X11_day_59 ?_
                  refine lv_topi (fun x25 ex25 => ?_)
                  have hG := bnd_use ex25 hG
                  refine r_ci (r_runV (n := 1) (As := [.int x25]) (rest := [.int 0, .int co, .int wi, .ref (ad 400)]) X hw (ct_X11_forceOn_400 l D dA ad v hI x25) gc_X11_220 (rfl : KD 400 = _) (by decide) rfl (by decide +kernel) ⟨rfl, rfl, Nat.le_of_ble_eq_true rfl, Nat.le_of_ble_eq_true rfl⟩ rfl hl.1 rfl (Nat.le_of_ble_eq_true rfl) ⟨Nat.zero_le _, Nat.zero_le _⟩ d_X11_day_62) hS (fun x27 v28 H locs hp26 hw hS => ?_)
                  obtain ⟨hp26, hE29⟩ := hp26
                  obtain ⟨ev28, hp26⟩ := hp26
                  rw [ev28] at hw
                  have hG := bnd_use hE29 hG
                  refine lv_iconst (v := 1) hx hb d_X11_day_65 (by decide) ?_
                  refine r_cv (r_runV (n := 5) (As := [.int wi, .int co, .int 0, .int x27, .int 1]) (rest := []) X hw (ct_X11_go_400 l D dA ad v hI wi co 0 x27 1 r11 hp26) gc_X11_288 (rfl : KD 400 = _) (by decide) rfl (by decide +kernel) ⟨rfl, rfl, Nat.le_of_ble_eq_true rfl, Nat.le_of_ble_eq_true rfl⟩ rfl hl.1 rfl (Nat.le_of_ble_eq_true rfl) ⟨Nat.zero_le _, Nat.zero_le _⟩ d_X11_day_66) hS (fun v31 H locs hp30 hw hS => ?_)
                  obtain ⟨hp30, hE32⟩ := hp30
                  obtain ⟨hI33, hK34⟩ := hp30
                  have hK35 : Kp (kp_X11_day_400 wi co fr) v v31 := Kp.tr hK0 hK34 (by have z0 : (0 : Int32).toInt = 0 := rfl; intro a j; unfold kp_X11_day_400 kp_X11_go_400; omega)
                  have hG := bnd_use hE32 hG
                  refine lv_aload_n hx hb d_X11_day_69 rfl (lv_at hl 0 rfl) ?_
                  refine r_geti X hw FL_X11_246 (rfl : KD 400 = _) rfl d_X11_day_70 ?_
                  refine lv_topi (fun x36 ex36 => ?_)
                  have hG := bnd_use ex36 hG
                  exact r_iret X hr hlocks hw hS ⟨⟨hI33, hK35⟩, hG.trans eRR.symm⟩ d_X11_day_73
                · have f37 := i_eq c22
                  have r38 : Rg fr 1 1 := by obtain ⟨a1, a2⟩ := r17; obtain ⟨b1, b2⟩ := (⟨by decide, by decide⟩ : Rg 1 1 1); have f := i_eq c22; exact ⟨by omega, by omega⟩
                  have hG := g_pos c22 hG
                  refine lv_iconst (v := 1) hx hb d_X11_day_52 (by decide) ?_
                  refine lv_goto (tgt := 57) hx hb d_X11_day_53 (by decide) ?_
                  refine lv_aload_n hx hb d_X11_day_57 rfl (lv_at hl 0 rfl) ?_
                  refine lv_aload_n hx hb d_X11_day_58 rfl (lv_at hl 0 rfl) ?_
                  refine r_geti X hw FL_X11_227 (rfl : KD 400 = _) rfl d_X11_day_59 ?_
                  refine lv_topi (fun x39 ex39 => ?_)
                  have hG := bnd_use ex39 hG
                  refine r_ci (r_runV (n := 1) (As := [.int x39]) (rest := [.int 1, .int co, .int wi, .ref (ad 400)]) X hw (ct_X11_forceOn_400 l D dA ad v hI x39) gc_X11_220 (rfl : KD 400 = _) (by decide) rfl (by decide +kernel) ⟨rfl, rfl, Nat.le_of_ble_eq_true rfl, Nat.le_of_ble_eq_true rfl⟩ rfl hl.1 rfl (Nat.le_of_ble_eq_true rfl) ⟨Nat.zero_le _, Nat.zero_le _⟩ d_X11_day_62) hS (fun x41 v42 H locs hp40 hw hS => ?_)
                  obtain ⟨hp40, hE43⟩ := hp40
                  obtain ⟨ev42, hp40⟩ := hp40
                  rw [ev42] at hw
                  have hG := bnd_use hE43 hG
                  refine lv_iconst (v := 1) hx hb d_X11_day_65 (by decide) ?_
                  refine r_cv (r_runV (n := 5) (As := [.int wi, .int co, .int 1, .int x41, .int 1]) (rest := []) X hw (ct_X11_go_400 l D dA ad v hI wi co 1 x41 1 r11 hp40) gc_X11_288 (rfl : KD 400 = _) (by decide) rfl (by decide +kernel) ⟨rfl, rfl, Nat.le_of_ble_eq_true rfl, Nat.le_of_ble_eq_true rfl⟩ rfl hl.1 rfl (Nat.le_of_ble_eq_true rfl) ⟨Nat.zero_le _, Nat.zero_le _⟩ d_X11_day_66) hS (fun v45 H locs hp44 hw hS => ?_)
                  obtain ⟨hp44, hE46⟩ := hp44
                  obtain ⟨hI47, hK48⟩ := hp44
                  have hK49 : Kp (kp_X11_day_400 wi co fr) v v45 := Kp.tr hK0 hK48 (by have z0 : (0 : Int32).toInt = 0 := rfl; intro a j; unfold kp_X11_day_400 kp_X11_go_400; omega)
                  have hG := bnd_use hE46 hG
                  refine lv_aload_n hx hb d_X11_day_69 rfl (lv_at hl 0 rfl) ?_
                  refine r_geti X hw FL_X11_246 (rfl : KD 400 = _) rfl d_X11_day_70 ?_
                  refine lv_topi (fun x50 ex50 => ?_)
                  have hG := bnd_use ex50 hG
                  exact r_iret X hr hlocks hw hS ⟨⟨hI47, hK49⟩, hG.trans eRR.symm⟩ d_X11_day_73
              · have f51 := i_eq c20
                have r52 : Rg x19 999 999 := by obtain ⟨a1, a2⟩ := (rg_any x19); obtain ⟨b1, b2⟩ := (⟨by decide, by decide⟩ : Rg 999 999 999); have f := i_eq c20; exact ⟨by omega, by omega⟩
                have hG := g_pos c20 hG
                refine lv_bipush (v := -4) hx hb d_X11_day_41 (by decide) ?_
                exact r_iret X hr hlocks hw hS ⟨⟨hI, hK0⟩, hG.trans eRR.symm⟩ d_X11_day_43
            · exact absurd c18 (by decide)
          · skip
            have hG := g_neg w16n hG
            refine lv_if_ne (tgt := 31) hx hb d_X11_day_25 (by decide) (fun c53 => ?_) (fun c53 => ?_)
            · exact absurd c53 (by decide)
            · refine lv_bipush (v := -2) hx hb d_X11_day_28 (by decide) ?_
              exact r_iret X hr hlocks hw hS ⟨⟨hI, hK0⟩, hG.trans eRR.symm⟩ d_X11_day_30
      · skip
        have hG := g_neg w10n hG
        refine lv_if_eq (tgt := 28) hx hb d_X11_day_16 (by decide) (fun c54 => ?_) (fun c54 => ?_)
        · refine lv_bipush (v := -2) hx hb d_X11_day_28 (by decide) ?_
          exact r_iret X hr hlocks hw hS ⟨⟨hI, hK0⟩, hG.trans eRR.symm⟩ d_X11_day_30
        · exact absurd c54 (by decide)
  · skip
    have hG := g_neg w4n hG
    refine lv_if_eq (tgt := 28) hx hb d_X11_day_7 (by decide) (fun c55 => ?_) (fun c55 => ?_)
    · refine lv_bipush (v := -2) hx hb d_X11_day_28 (by decide) ?_
      exact r_iret X hr hlocks hw hS ⟨⟨hI, hK0⟩, hG.trans eRR.symm⟩ d_X11_day_30
    · exact absurd c55 (by decide)
theorem d_X11_findHours_0 : decode c_X11_findHours 0 = .ok (.iconst 0, 1) := by decide +kernel
theorem d_X11_findHours_1 : decode c_X11_findHours 1 = .ok (.istore_n 1, 1) := by decide +kernel
theorem d_X11_findHours_2 : decode c_X11_findHours 2 = .ok (.iconst 0, 1) := by decide +kernel
theorem d_X11_findHours_3 : decode c_X11_findHours 3 = .ok (.istore_n 2, 1) := by decide +kernel
theorem d_X11_findHours_4 : decode c_X11_findHours 4 = .ok (.iload_n 2, 1) := by decide +kernel
theorem d_X11_findHours_5 : decode c_X11_findHours 5 = .ok (.aload_n 0, 1) := by decide +kernel
theorem d_X11_findHours_6 : decode c_X11_findHours 6 = .ok (.getfield 166, 3) := by decide +kernel
theorem d_X11_findHours_9 : decode c_X11_findHours 9 = .ok (.if_icmp .ge 16, 3) := by decide +kernel
theorem d_X11_findHours_12 : decode c_X11_findHours 12 = .ok (.aload_n 0, 1) := by decide +kernel
theorem d_X11_findHours_13 : decode c_X11_findHours 13 = .ok (.getfield 148, 3) := by decide +kernel
theorem d_X11_findHours_16 : decode c_X11_findHours 16 = .ok (.iload_n 2, 1) := by decide +kernel
theorem d_X11_findHours_17 : decode c_X11_findHours 17 = .ok (.iconst 0, 1) := by decide +kernel
theorem d_X11_findHours_18 : decode c_X11_findHours 18 = .ok (.bastore, 1) := by decide +kernel
theorem d_X11_findHours_19 : decode c_X11_findHours 19 = .ok (.iinc 2 1, 3) := by decide +kernel
theorem d_X11_findHours_22 : decode c_X11_findHours 22 = .ok (.goto (-18), 3) := by decide +kernel
theorem d_X11_findHours_25 : decode c_X11_findHours 25 = .ok (.iconst 0, 1) := by decide +kernel
theorem d_X11_findHours_26 : decode c_X11_findHours 26 = .ok (.istore_n 2, 1) := by decide +kernel
theorem d_X11_findHours_27 : decode c_X11_findHours 27 = .ok (.iload_n 2, 1) := by decide +kernel
theorem d_X11_findHours_28 : decode c_X11_findHours 28 = .ok (.aload_n 0, 1) := by decide +kernel
theorem d_X11_findHours_29 : decode c_X11_findHours 29 = .ok (.getfield 243, 3) := by decide +kernel
theorem d_X11_findHours_32 : decode c_X11_findHours 32 = .ok (.if_icmp .ge 108, 3) := by decide +kernel
theorem d_X11_findHours_35 : decode c_X11_findHours 35 = .ok (.iload_n 1, 1) := by decide +kernel
theorem d_X11_findHours_36 : decode c_X11_findHours 36 = .ok (.bipush 7, 2) := by decide +kernel
theorem d_X11_findHours_38 : decode c_X11_findHours 38 = .ok (.if_icmp .ge 102, 3) := by decide +kernel
theorem d_X11_findHours_41 : decode c_X11_findHours 41 = .ok (.aload_n 0, 1) := by decide +kernel
theorem d_X11_findHours_42 : decode c_X11_findHours 42 = .ok (.getfield 80, 3) := by decide +kernel
theorem d_X11_findHours_45 : decode c_X11_findHours 45 = .ok (.iload_n 2, 1) := by decide +kernel
theorem d_X11_findHours_46 : decode c_X11_findHours 46 = .ok (.iaload, 1) := by decide +kernel
theorem d_X11_findHours_47 : decode c_X11_findHours 47 = .ok (.istore_n 3, 1) := by decide +kernel
theorem d_X11_findHours_48 : decode c_X11_findHours 48 = .ok (.aload_n 0, 1) := by decide +kernel
theorem d_X11_findHours_49 : decode c_X11_findHours 49 = .ok (.getfield 148, 3) := by decide +kernel
theorem d_X11_findHours_52 : decode c_X11_findHours 52 = .ok (.iload_n 3, 1) := by decide +kernel
theorem d_X11_findHours_53 : decode c_X11_findHours 53 = .ok (.baload, 1) := by decide +kernel
theorem d_X11_findHours_54 : decode c_X11_findHours 54 = .ok (.ifCond .eq 6, 3) := by decide +kernel
theorem d_X11_findHours_57 : decode c_X11_findHours 57 = .ok (.goto 77, 3) := by decide +kernel
theorem d_X11_findHours_60 : decode c_X11_findHours 60 = .ok (.aload_n 0, 1) := by decide +kernel
theorem d_X11_findHours_61 : decode c_X11_findHours 61 = .ok (.getfield 148, 3) := by decide +kernel
theorem d_X11_findHours_64 : decode c_X11_findHours 64 = .ok (.iload_n 3, 1) := by decide +kernel
theorem d_X11_findHours_65 : decode c_X11_findHours 65 = .ok (.iconst 1, 1) := by decide +kernel
theorem d_X11_findHours_66 : decode c_X11_findHours 66 = .ok (.bastore, 1) := by decide +kernel
theorem d_X11_findHours_67 : decode c_X11_findHours 67 = .ok (.iconst 0, 1) := by decide +kernel
theorem d_X11_findHours_68 : decode c_X11_findHours 68 = .ok (.istore 4, 2) := by decide +kernel
theorem d_X11_findHours_70 : decode c_X11_findHours 70 = .ok (.iload_n 2, 1) := by decide +kernel
theorem d_X11_findHours_71 : decode c_X11_findHours 71 = .ok (.istore 5, 2) := by decide +kernel
theorem d_X11_findHours_73 : decode c_X11_findHours 73 = .ok (.iload 5, 2) := by decide +kernel
theorem d_X11_findHours_75 : decode c_X11_findHours 75 = .ok (.aload_n 0, 1) := by decide +kernel
theorem d_X11_findHours_76 : decode c_X11_findHours 76 = .ok (.getfield 243, 3) := by decide +kernel
theorem d_X11_findHours_79 : decode c_X11_findHours 79 = .ok (.if_icmp .ge 36, 3) := by decide +kernel
theorem d_X11_findHours_82 : decode c_X11_findHours 82 = .ok (.iload 4, 2) := by decide +kernel
theorem d_X11_findHours_84 : decode c_X11_findHours 84 = .ok (.aload_n 0, 1) := by decide +kernel
theorem d_X11_findHours_85 : decode c_X11_findHours 85 = .ok (.getfield 80, 3) := by decide +kernel
theorem d_X11_findHours_88 : decode c_X11_findHours 88 = .ok (.iload 5, 2) := by decide +kernel
theorem d_X11_findHours_90 : decode c_X11_findHours 90 = .ok (.iaload, 1) := by decide +kernel
theorem d_X11_findHours_91 : decode c_X11_findHours 91 = .ok (.iload_n 3, 1) := by decide +kernel
theorem d_X11_findHours_92 : decode c_X11_findHours 92 = .ok (.if_icmp .ne 13, 3) := by decide +kernel
theorem d_X11_findHours_95 : decode c_X11_findHours 95 = .ok (.aload_n 0, 1) := by decide +kernel
theorem d_X11_findHours_96 : decode c_X11_findHours 96 = .ok (.getfield 86, 3) := by decide +kernel
theorem d_X11_findHours_99 : decode c_X11_findHours 99 = .ok (.iload 5, 2) := by decide +kernel
theorem d_X11_findHours_101 : decode c_X11_findHours 101 = .ok (.iaload, 1) := by decide +kernel
theorem d_X11_findHours_102 : decode c_X11_findHours 102 = .ok (.goto 4, 3) := by decide +kernel
theorem d_X11_findHours_105 : decode c_X11_findHours 105 = .ok (.iconst 0, 1) := by decide +kernel
theorem d_X11_findHours_106 : decode c_X11_findHours 106 = .ok (.iadd, 1) := by decide +kernel
theorem d_X11_findHours_107 : decode c_X11_findHours 107 = .ok (.istore 4, 2) := by decide +kernel
theorem d_X11_findHours_109 : decode c_X11_findHours 109 = .ok (.iinc 5 1, 3) := by decide +kernel
theorem d_X11_findHours_112 : decode c_X11_findHours 112 = .ok (.goto (-39), 3) := by decide +kernel
theorem d_X11_findHours_115 : decode c_X11_findHours 115 = .ok (.aload_n 0, 1) := by decide +kernel
theorem d_X11_findHours_116 : decode c_X11_findHours 116 = .ok (.getfield 142, 3) := by decide +kernel
theorem d_X11_findHours_119 : decode c_X11_findHours 119 = .ok (.iload_n 1, 1) := by decide +kernel
theorem d_X11_findHours_120 : decode c_X11_findHours 120 = .ok (.iload 4, 2) := by decide +kernel
theorem d_X11_findHours_122 : decode c_X11_findHours 122 = .ok (.bipush 10, 2) := by decide +kernel
theorem d_X11_findHours_124 : decode c_X11_findHours 124 = .ok (.iadd, 1) := by decide +kernel
theorem d_X11_findHours_125 : decode c_X11_findHours 125 = .ok (.iconst 1, 1) := by decide +kernel
theorem d_X11_findHours_126 : decode c_X11_findHours 126 = .ok (.isub, 1) := by decide +kernel
theorem d_X11_findHours_127 : decode c_X11_findHours 127 = .ok (.bipush 10, 2) := by decide +kernel
theorem d_X11_findHours_129 : decode c_X11_findHours 129 = .ok (.idiv, 1) := by decide +kernel
theorem d_X11_findHours_130 : decode c_X11_findHours 130 = .ok (.iastore, 1) := by decide +kernel
theorem d_X11_findHours_131 : decode c_X11_findHours 131 = .ok (.iinc 1 1, 3) := by decide +kernel
theorem d_X11_findHours_134 : decode c_X11_findHours 134 = .ok (.iinc 2 1, 3) := by decide +kernel
theorem d_X11_findHours_137 : decode c_X11_findHours 137 = .ok (.goto (-110), 3) := by decide +kernel
theorem d_X11_findHours_140 : decode c_X11_findHours 140 = .ok (.iload_n 1, 1) := by decide +kernel
theorem d_X11_findHours_141 : decode c_X11_findHours 141 = .ok (.ireturn, 1) := by decide +kernel
def kp_X11_findHours_400  (a j : Nat) : Prop := a ≠ 461 ∧ a ≠ 463
def b_X11_findHours_400_4  (rc4 : Int32 → Int32 → tV → Int32 × tV) (rc27 : Int32 → Int32 → tV → Int32 × tV) (y1 : Int32) (y2 : Int32) (v1 : tV) : Int32 × tV := bnd (v1 400 1) fun x1 => (if x1 ≤ y2 then rc27 y1 0 v1 else bnd (up2 v1 463 (y2.toNatClampNeg) 0) fun v9 => bnd (y2 + 1) fun x13 => rc4 y1 x13 v9)
def b_X11_findHours_400_27  (rc27 : Int32 → Int32 → tV → Int32 × tV) (rc73 : Int32 → Int32 → Int32 → Int32 → Int32 → tV → Int32 × tV) (y1 : Int32) (y2 : Int32) (v1 : tV) : Int32 × tV := bnd (v1 400 27) fun x16 => (if x16 ≤ y2 then (y1, v1) else (if (7 : Int32) ≤ y1 then (y1, v1) else bnd (v1 429 y2.toNatClampNeg) fun x29 => bnd (v1 463 x29.toNatClampNeg) fun x31 => (if x31 = (0 : Int32) then bnd (up2 v1 463 (x29.toNatClampNeg) 1) fun v35 => rc73 y1 y2 x29 0 y2 v35 else bnd (y2 + 1) fun x40 => rc27 y1 x40 v1)))
def b_X11_findHours_400_73  (rc27 : Int32 → Int32 → tV → Int32 × tV) (rc73 : Int32 → Int32 → Int32 → Int32 → Int32 → tV → Int32 × tV) (y1 : Int32) (y2 : Int32) (y3 : Int32) (y4 : Int32) (y5 : Int32) (v1 : tV) : Int32 × tV := bnd (v1 400 27) fun x43 => (if x43 ≤ y5 then bnd (y4 + (10 : Int32)) fun x48 => bnd (x48 - (1 : Int32)) fun x49 => bnd (x49 / (10 : Int32)) fun x50 => bnd (up2 v1 461 (y1.toNatClampNeg) x50) fun v51 => bnd (y1 + 1) fun x55 => bnd (y2 + 1) fun x58 => rc27 x55 x58 v51 else bnd (v1 429 y5.toNatClampNeg) fun x64 => (if x64 = y3 then bnd (v1 431 y5.toNatClampNeg) fun x73 => bnd (y4 + x73) fun x74 => bnd (y5 + 1) fun x75 => rc73 y1 y2 y3 x74 x75 v1 else bnd (y4 + (0 : Int32)) fun x68 => bnd (y5 + 1) fun x69 => rc73 y1 y2 y3 x68 x69 v1))
def g_X11_findHours_400  : Nat → Nat → Int32 → Int32 → Int32 → Int32 → Int32 → tV → Int32 × tV
  | 0, _, _, _, _, _, _, v1 => (0, v1)
  | n + 1, 0, y1, y2, _, _, _, v1 => b_X11_findHours_400_4  (fun y1 y2 w1 => g_X11_findHours_400  n 0 y1 y2 0 0 0 w1) (fun y1 y2 w1 => g_X11_findHours_400  n 1 y1 y2 0 0 0 w1) y1 y2 v1
  | n + 1, 1, y1, y2, _, _, _, v1 => b_X11_findHours_400_27  (fun y1 y2 w1 => g_X11_findHours_400  n 1 y1 y2 0 0 0 w1) (fun y1 y2 y3 y4 y5 w1 => g_X11_findHours_400  n 2 y1 y2 y3 y4 y5 w1) y1 y2 v1
  | n + 1, _, y1, y2, y3, y4, y5, v1 => b_X11_findHours_400_73  (fun y1 y2 w1 => g_X11_findHours_400  n 1 y1 y2 0 0 0 w1) (fun y1 y2 y3 y4 y5 w1 => g_X11_findHours_400  n 2 y1 y2 y3 y4 y5 w1) y1 y2 y3 y4 y5 v1
def g_X11_findHours_400_4  (n : Nat) : Int32 → Int32 → tV → Int32 × tV := (fun y1 y2 w1 => g_X11_findHours_400  n 0 y1 y2 0 0 0 w1)
def g_X11_findHours_400_27  (n : Nat) : Int32 → Int32 → tV → Int32 × tV := (fun y1 y2 w1 => g_X11_findHours_400  n 1 y1 y2 0 0 0 w1)
def g_X11_findHours_400_73  (n : Nat) : Int32 → Int32 → Int32 → Int32 → Int32 → tV → Int32 × tV := (fun y1 y2 y3 y4 y5 w1 => g_X11_findHours_400  n 2 y1 y2 y3 y4 y5 w1)
def f_X11_findHours_400 (v : tV)  : Int32 × tV := g_X11_findHours_400_4  10000000 0 0 v
set_option maxHeartbeats 4000000 in
set_option maxRecDepth 100000 in
theorem ct_X11_findHours_400 (l : Launch) (D : va_G) (dA : Nat → ClassId) (ad : Nat → Nat) (v : tV) (hI : Inv v)  : Met l m_X11_findHours [.code m_X11_findHours c_X11_findHours 6 (some .int)] ({ frames := 1, cells := 0, slots := 0, locals := 40 } : Room) (tP D dA ad v [.ref (ad 400)]) (tQi D dA ad (fun r v' => (Inv v' ∧ Kp kp_X11_findHours_400 v v' ∧ Rg r 0 7) ∧ (r, v') = f_X11_findHours_400 v )) 0 0 (tA ad) := by
  refine tMet (by decide) (Nat.le_of_ble_eq_true rfl) ?_
  intro p e s m below meth c ls X hr hlocks hw hl
  have X : CX p s m ([.ref (ad 400)] : List Value).toArray c c_X11_findHours N_X11 6 D dA := X
  have hx := X.1
  have hb := X.2.1
  have hS : va_S (tA ad) s.heap s.heap [] := va_S.rf
  have hl : lv_has ls 6 [(0, .ref (ad 400))] := hl
  obtain ⟨RR, eRR⟩ : ∃ z, f_X11_findHours_400 v  = z := ⟨_, rfl⟩
  have LL : ∀ n : Nat, (∀ (y1 : Int32) (y2 : Int32) (v1 : tV) (H : Heap) (locs : List Loc) (ls : Array Slot), (20 - y2.toInt).toNat + 1000000 < n → Rg y1 0 0 → Rg y2 0 20 → Inv v1 → Kp kp_X11_findHours_400 v v1 → g_X11_findHours_400_4  n y1 y2 v1 = RR → tI D dA ad v1 H → va_S (tA ad) s.heap H locs → lv_has ls 6 [(0, .ref (ad 400)), (1, .int y1), (2, .int y2)] → W p l e ({ frames := 1, cells := 0, slots := 0, locals := 40 } : Room) s m ([.ref (ad 400)] : List Value).toArray below meth c H locs 0 0 (MQ below (tQi D dA ad (fun r v' => (Inv v' ∧ Kp kp_X11_findHours_400 v v' ∧ Rg r 0 7) ∧ (r, v') = f_X11_findHours_400 v )) ([.ref (ad 400)] : List Value).toArray s 0 0 (tA ad)) (F0 m 4 ls [])) ∧ (∀ (y1 : Int32) (y2 : Int32) (v1 : tV) (H : Heap) (locs : List Loc) (ls : Array Slot), (200 - y2.toInt).toNat * 1000 + 500 < n → Rg y1 0 7 → Rg y2 0 200 → Inv v1 → Kp kp_X11_findHours_400 v v1 → g_X11_findHours_400_27  n y1 y2 v1 = RR → tI D dA ad v1 H → va_S (tA ad) s.heap H locs → lv_has ls 6 [(0, .ref (ad 400)), (1, .int y1), (2, .int y2)] → W p l e ({ frames := 1, cells := 0, slots := 0, locals := 40 } : Room) s m ([.ref (ad 400)] : List Value).toArray below meth c H locs 0 0 (MQ below (tQi D dA ad (fun r v' => (Inv v' ∧ Kp kp_X11_findHours_400 v v' ∧ Rg r 0 7) ∧ (r, v') = f_X11_findHours_400 v )) ([.ref (ad 400)] : List Value).toArray s 0 0 (tA ad)) (F0 m 27 ls [])) ∧ (∀ (y1 : Int32) (y2 : Int32) (y3 : Int32) (y4 : Int32) (y5 : Int32) (v1 : tV) (H : Heap) (locs : List Loc) (ls : Array Slot), (200 - y2.toInt).toNat * 1000 + (200 - y5.toInt).toNat < n → Rg y1 0 6 → Rg y2 0 199 → Rg y3 0 19 → Rg y5 0 200 → Inv v1 → Kp kp_X11_findHours_400 v v1 → g_X11_findHours_400_73  n y1 y2 y3 y4 y5 v1 = RR → tI D dA ad v1 H → va_S (tA ad) s.heap H locs → lv_has ls 6 [(0, .ref (ad 400)), (1, .int y1), (2, .int y2), (3, .int y3), (4, .int y4), (5, .int y5)] → W p l e ({ frames := 1, cells := 0, slots := 0, locals := 40 } : Room) s m ([.ref (ad 400)] : List Value).toArray below meth c H locs 0 0 (MQ below (tQi D dA ad (fun r v' => (Inv v' ∧ Kp kp_X11_findHours_400 v v' ∧ Rg r 0 7) ∧ (r, v') = f_X11_findHours_400 v )) ([.ref (ad 400)] : List Value).toArray s 0 0 (tA ad)) (F0 m 73 ls [])) := by
    intro n
    induction n with
    | zero => refine ⟨?_, ?_, ?_⟩ <;> (intros; omega)
    | succ n ih =>
      obtain ⟨ih0, ih1, ih2⟩ := ih
      refine ⟨?_, ?_, ?_⟩
      · intro y1 y2 v1 H locs ls hmu r_y1 r_y2 hI1 hK1 hG hw hS hl
        have hG : b_X11_findHours_400_4  (g_X11_findHours_400_4  n) (g_X11_findHours_400_27  n) y1 y2 v1 = RR := hG
        unfold b_X11_findHours_400_4 at hG
        refine lv_iload_n hx hb d_X11_findHours_4 rfl (lv_at hl 2 rfl) ?_
        refine lv_aload_n hx hb d_X11_findHours_5 rfl (lv_at hl 0 rfl) ?_
        refine r_geti X hw FL_X11_166 (rfl : KD 400 = _) rfl d_X11_findHours_6 ?_
        refine lv_topi (fun x1 ex1 => ?_)
        have hG := bnd_use ex1 hG
        have r2 : Rg x1 0 20 := by rw [ex1]; exact hI1 _ _ _ _ rfl
        have hm3 : v1 400 1 = x1 := ex1.symm
        refine lv_icmp_ge (tgt := 25) hx hb d_X11_findHours_9 (by decide) (fun c4 => ?_) (fun c4 => ?_)
        · have f5 := i_le c4
          have hG := g_pos c4 hG
          refine lv_iconst (v := 0) hx hb d_X11_findHours_25 (by decide) ?_
          refine lv_istore_n (lv' := [(2, .int 0), (0, .ref (ad 400)), (1, .int y1)]) hx hb d_X11_findHours_26 rfl hl (by decide) rfl (fun ls hl => ?_)
          exact ih1 y1 0 v1 _ _ _ (by have q_ := r_y1; obtain ⟨_, _⟩ := q_; have q_ := r_y2; obtain ⟨_, _⟩ := q_; have q_ := r2; obtain ⟨_, _⟩ := q_; have q_ : (0 : Int32).toInt = 0 := rfl; omega) (rg_w r_y1 (by decide) (by decide)) (rg_w (⟨by decide, by decide⟩ : Rg 0 0 0) (by decide) (by decide)) hI1 hK1 hG hw hS (lv_sub hl [1, 2, 0] rfl)
        · have f6 := i_nle c4
          have r7 : Rg y2 0 19 := by obtain ⟨a1, a2⟩ := r_y2; obtain ⟨b1, b2⟩ := r2; have f := i_nle c4; exact ⟨by omega, by omega⟩
          have r8 : Rg x1 1 20 := by obtain ⟨a1, a2⟩ := r_y2; obtain ⟨b1, b2⟩ := r2; have f := i_nle c4; exact ⟨by omega, by omega⟩
          have hG := g_neg c4 hG
          refine lv_aload_n hx hb d_X11_findHours_12 rfl (lv_at hl 0 rfl) ?_
          refine r_getr (r := 463) X hw FL_X11_148 (rfl : KD 400 = _) rfl d_X11_findHours_13 ?_
          refine lv_iload_n hx hb d_X11_findHours_16 rfl (lv_at hl 2 rfl) ?_
          refine lv_iconst (v := 0) hx hb d_X11_findHours_17 (by decide) ?_
          refine r_zast (y := 0)  X hw hS (rfl : KD 463 = _) (Rg.vp (b := 19) r7 (by decide)) rfl rfl d_X11_findHours_18 (fun H locs hw hS => ?_)
          obtain ⟨v9, ev9⟩ : ∃ z, z = up2 v1 463 y2.toNatClampNeg 0 := ⟨_, rfl⟩
          rw [← ev9] at hw
          have hG := bnd_use ev9 hG
          have hI10 : Inv v9 := by rw [ev9]; exact Inv.put0 hI1 _ rfl
          have hK11 : Kp kp_X11_findHours_400 v v9 := by rw [ev9]; exact Kp.put hK1 _ (by unfold kp_X11_findHours_400; omega)
          have hm12 : v9 400 1 = x1 := by rw [ev9, up2_n _ _ (by omega)]; exact hm3
          obtain ⟨x13, ex13⟩ : ∃ y : Int32, y = y2 + 1 := ⟨_, rfl⟩
          have hG := bnd_use ex13 hG
          refine lv_iinc (v := x13) (lv' := [(2, .int x13), (0, .ref (ad 400)), (1, .int y1)]) hx hb d_X11_findHours_19 hl (k := 2) rfl (by rw [ex13]; rfl) (by decide) rfl (fun ls hl => ?_)
          have r14 : Rg x13 1 20 := rg_add ex13 r7 (⟨by decide, by decide⟩ : Rg 1 1 1) (by decide) (by decide)
          have s15 : x13.toInt = y2.toInt + (1 : Int32).toInt := by rw [ex13]; exact i_add (by obtain ⟨_, _⟩ := r7; obtain ⟨_, _⟩ := (⟨by decide, by decide⟩ : Rg 1 1 1); omega) (by obtain ⟨_, _⟩ := r7; obtain ⟨_, _⟩ := (⟨by decide, by decide⟩ : Rg 1 1 1); omega)
          have s15l : (1 : Int32).toInt = 1 := rfl
          refine lv_goto (tgt := 4) hx hb d_X11_findHours_22 (by decide) ?_
          exact ih0 y1 x13 v9 _ _ _ (by have q_ := r_y1; obtain ⟨_, _⟩ := q_; have q_ := r7; obtain ⟨_, _⟩ := q_; have q_ := r8; obtain ⟨_, _⟩ := q_; have q_ := r14; obtain ⟨_, _⟩ := q_; omega) r_y1 (rg_w r14 (by decide) (by decide)) hI10 hK11 hG hw hS (lv_sub hl [1, 2, 0] rfl)
      · intro y1 y2 v1 H locs ls hmu r_y1 r_y2 hI1 hK1 hG hw hS hl
        have hG : b_X11_findHours_400_27  (g_X11_findHours_400_27  n) (g_X11_findHours_400_73  n) y1 y2 v1 = RR := hG
        unfold b_X11_findHours_400_27 at hG
        refine lv_iload_n hx hb d_X11_findHours_27 rfl (lv_at hl 2 rfl) ?_
        refine lv_aload_n hx hb d_X11_findHours_28 rfl (lv_at hl 0 rfl) ?_
        refine r_geti X hw FL_X11_243 (rfl : KD 400 = _) rfl d_X11_findHours_29 ?_
        refine lv_topi (fun x16 ex16 => ?_)
        have hG := bnd_use ex16 hG
        have r17 : Rg x16 0 200 := by rw [ex16]; exact hI1 _ _ _ _ rfl
        have hm18 : v1 400 27 = x16 := ex16.symm
        refine lv_icmp_ge (tgt := 140) hx hb d_X11_findHours_32 (by decide) (fun c19 => ?_) (fun c19 => ?_)
        · have f20 := i_le c19
          have hG := g_pos c19 hG
          refine lv_iload_n hx hb d_X11_findHours_140 rfl (lv_at hl 1 rfl) ?_
          exact r_iret X hr hlocks hw hS ⟨⟨hI1, hK1, r_y1⟩, hG.trans eRR.symm⟩ d_X11_findHours_141
        · have f21 := i_nle c19
          have r22 : Rg y2 0 199 := by obtain ⟨a1, a2⟩ := r_y2; obtain ⟨b1, b2⟩ := r17; have f := i_nle c19; exact ⟨by omega, by omega⟩
          have r23 : Rg x16 1 200 := by obtain ⟨a1, a2⟩ := r_y2; obtain ⟨b1, b2⟩ := r17; have f := i_nle c19; exact ⟨by omega, by omega⟩
          have hG := g_neg c19 hG
          refine lv_iload_n hx hb d_X11_findHours_35 rfl (lv_at hl 1 rfl) ?_
          refine lv_bipush (v := 7) hx hb d_X11_findHours_36 (by decide) ?_
          refine lv_icmp_ge (tgt := 140) hx hb d_X11_findHours_38 (by decide) (fun c24 => ?_) (fun c24 => ?_)
          · have f25 := i_le c24
            have r26 : Rg y1 7 7 := by obtain ⟨a1, a2⟩ := r_y1; obtain ⟨b1, b2⟩ := (⟨by decide, by decide⟩ : Rg 7 7 7); have f := i_le c24; exact ⟨by omega, by omega⟩
            have hG := g_pos c24 hG
            refine lv_iload_n hx hb d_X11_findHours_140 rfl (lv_at hl 1 rfl) ?_
            exact r_iret X hr hlocks hw hS ⟨⟨hI1, hK1, (rg_w r26 (by decide) (by decide))⟩, hG.trans eRR.symm⟩ d_X11_findHours_141
          · have f27 := i_nle c24
            have r28 : Rg y1 0 6 := by obtain ⟨a1, a2⟩ := r_y1; obtain ⟨b1, b2⟩ := (⟨by decide, by decide⟩ : Rg 7 7 7); have f := i_nle c24; exact ⟨by omega, by omega⟩
            have hG := g_neg c24 hG
            refine lv_aload_n hx hb d_X11_findHours_41 rfl (lv_at hl 0 rfl) ?_
            refine r_getr (r := 429) X hw FL_X11_80 (rfl : KD 400 = _) rfl d_X11_findHours_42 ?_
            refine lv_iload_n hx hb d_X11_findHours_45 rfl (lv_at hl 2 rfl) ?_
            refine r_iald X hw (rfl : KD 429 = _) (Rg.vp (b := 199) r22 (by decide)) rfl d_X11_findHours_46 ?_
            refine lv_topi (fun x29 ex29 => ?_)
            have hG := bnd_use ex29 hG
            have r30 : Rg x29 0 19 := by rw [ex29]; exact hI1 _ _ _ _ rfl
            refine lv_istore_n (lv' := [(3, .int x29), (0, .ref (ad 400)), (1, .int y1), (2, .int y2)]) hx hb d_X11_findHours_47 rfl hl (by decide) rfl (fun ls hl => ?_)
            refine lv_aload_n hx hb d_X11_findHours_48 rfl (lv_at hl 1 rfl) ?_
            refine r_getr (r := 463) X hw FL_X11_148 (rfl : KD 400 = _) rfl d_X11_findHours_49 ?_
            refine lv_iload_n hx hb d_X11_findHours_52 rfl (lv_at hl 0 rfl) ?_
            refine r_zald X hw (rfl : KD 463 = _) (Rg.vp (b := 19) r30 (by decide)) rfl d_X11_findHours_53 ?_
            refine lv_topi (fun x31 ex31 => ?_)
            have hG := bnd_use ex31 hG
            refine lv_if_eq (tgt := 60) hx hb d_X11_findHours_54 (by decide) (fun c32 => ?_) (fun c32 => ?_)
            · have f33 := i_eq c32
              have r34 : Rg x31 0 0 := by obtain ⟨a1, a2⟩ := (rg_any x31); obtain ⟨b1, b2⟩ := (⟨by decide, by decide⟩ : Rg 0 0 0); have f := i_eq c32; exact ⟨by omega, by omega⟩
              have hG := g_pos c32 hG
              refine lv_aload_n hx hb d_X11_findHours_60 rfl (lv_at hl 1 rfl) ?_
              refine r_getr (r := 463) X hw FL_X11_148 (rfl : KD 400 = _) rfl d_X11_findHours_61 ?_
              refine lv_iload_n hx hb d_X11_findHours_64 rfl (lv_at hl 0 rfl) ?_
              refine lv_iconst (v := 1) hx hb d_X11_findHours_65 (by decide) ?_
              refine r_zast (y := 1)  X hw hS (rfl : KD 463 = _) (Rg.vp (b := 19) r30 (by decide)) rfl rfl d_X11_findHours_66 (fun H locs hw hS => ?_)
              obtain ⟨v35, ev35⟩ : ∃ z, z = up2 v1 463 x29.toNatClampNeg 1 := ⟨_, rfl⟩
              rw [← ev35] at hw
              have hG := bnd_use ev35 hG
              have hI36 : Inv v35 := by rw [ev35]; exact Inv.put0 hI1 _ rfl
              have hK37 : Kp kp_X11_findHours_400 v v35 := by rw [ev35]; exact Kp.put hK1 _ (by unfold kp_X11_findHours_400; omega)
              have hm38 : v35 400 27 = x16 := by rw [ev35, up2_n _ _ (by omega)]; exact hm18
              refine lv_iconst (v := 0) hx hb d_X11_findHours_67 (by decide) ?_
              refine lv_istore (lv' := [(4, .int 0), (3, .int x29), (0, .ref (ad 400)), (1, .int y1), (2, .int y2)]) hx hb d_X11_findHours_68 hl (by decide) rfl (fun ls hl => ?_)
              refine lv_iload_n hx hb d_X11_findHours_70 rfl (lv_at hl 4 rfl) ?_
              refine lv_istore (lv' := [(5, .int y2), (4, .int 0), (3, .int x29), (0, .ref (ad 400)), (1, .int y1), (2, .int y2)]) hx hb d_X11_findHours_71 hl (by decide) rfl (fun ls hl => ?_)
              exact ih2 y1 y2 x29 0 y2 v35 _ _ _ (by have q_ := r28; obtain ⟨_, _⟩ := q_; have q_ := r22; obtain ⟨_, _⟩ := q_; have q_ := r23; obtain ⟨_, _⟩ := q_; have q_ := r30; obtain ⟨_, _⟩ := q_; have q_ := r34; obtain ⟨_, _⟩ := q_; have q_ : (0 : Int32).toInt = 0 := rfl; omega) r28 r22 r30 (rg_w r22 (by decide) (by decide)) hI36 hK37 hG hw hS (lv_sub hl [3, 4, 5, 2, 1, 0] rfl)
            · have f39 := i_ne c32
              have hG := g_neg c32 hG
              refine lv_goto (tgt := 134) hx hb d_X11_findHours_57 (by decide) ?_
              obtain ⟨x40, ex40⟩ : ∃ y : Int32, y = y2 + 1 := ⟨_, rfl⟩
              have hG := bnd_use ex40 hG
              refine lv_iinc (v := x40) (lv' := [(2, .int x40), (3, .int x29), (0, .ref (ad 400)), (1, .int y1)]) hx hb d_X11_findHours_134 hl (k := 3) rfl (by rw [ex40]; rfl) (by decide) rfl (fun ls hl => ?_)
              have r41 : Rg x40 1 200 := rg_add ex40 r22 (⟨by decide, by decide⟩ : Rg 1 1 1) (by decide) (by decide)
              have s42 : x40.toInt = y2.toInt + (1 : Int32).toInt := by rw [ex40]; exact i_add (by obtain ⟨_, _⟩ := r22; obtain ⟨_, _⟩ := (⟨by decide, by decide⟩ : Rg 1 1 1); omega) (by obtain ⟨_, _⟩ := r22; obtain ⟨_, _⟩ := (⟨by decide, by decide⟩ : Rg 1 1 1); omega)
              have s42l : (1 : Int32).toInt = 1 := rfl
              refine lv_goto (tgt := 27) hx hb d_X11_findHours_137 (by decide) ?_
              exact ih1 y1 x40 v1 _ _ _ (by have q_ := r28; obtain ⟨_, _⟩ := q_; have q_ := r22; obtain ⟨_, _⟩ := q_; have q_ := r23; obtain ⟨_, _⟩ := q_; have q_ := r30; obtain ⟨_, _⟩ := q_; have q_ := r41; obtain ⟨_, _⟩ := q_; omega) (rg_w r28 (by decide) (by decide)) (rg_w r41 (by decide) (by decide)) hI1 hK1 hG hw hS (lv_sub hl [2, 3, 0] rfl)
      · intro y1 y2 y3 y4 y5 v1 H locs ls hmu r_y1 r_y2 r_y3 r_y5 hI1 hK1 hG hw hS hl
        have hG : b_X11_findHours_400_73  (g_X11_findHours_400_27  n) (g_X11_findHours_400_73  n) y1 y2 y3 y4 y5 v1 = RR := hG
        unfold b_X11_findHours_400_73 at hG
        refine lv_iload hx hb d_X11_findHours_73 (lv_at hl 5 rfl) ?_
        refine lv_aload_n hx hb d_X11_findHours_75 rfl (lv_at hl 0 rfl) ?_
        refine r_geti X hw FL_X11_243 (rfl : KD 400 = _) rfl d_X11_findHours_76 ?_
        refine lv_topi (fun x43 ex43 => ?_)
        have hG := bnd_use ex43 hG
        have r44 : Rg x43 0 200 := by rw [ex43]; exact hI1 _ _ _ _ rfl
        have hm45 : v1 400 27 = x43 := ex43.symm
        refine lv_icmp_ge (tgt := 115) hx hb d_X11_findHours_79 (by decide) (fun c46 => ?_) (fun c46 => ?_)
        · have f47 := i_le c46
          have hG := g_pos c46 hG
          refine lv_aload_n hx hb d_X11_findHours_115 rfl (lv_at hl 0 rfl) ?_
          refine r_getr (r := 461) X hw FL_X11_142 (rfl : KD 400 = _) rfl d_X11_findHours_116 ?_
          refine lv_iload_n hx hb d_X11_findHours_119 rfl (lv_at hl 1 rfl) ?_
          refine lv_iload hx hb d_X11_findHours_120 (lv_at hl 4 rfl) ?_
          refine lv_bipush (v := 10) hx hb d_X11_findHours_122 (by decide) ?_
          refine lv_iadd hx hb d_X11_findHours_124 ?_
          refine lv_topi (fun x48 ex48 => ?_)
          have hG := bnd_use ex48 hG
          refine lv_iconst (v := 1) hx hb d_X11_findHours_125 (by decide) ?_
          refine lv_isub hx hb d_X11_findHours_126 ?_
          refine lv_topi (fun x49 ex49 => ?_)
          have hG := bnd_use ex49 hG
          refine lv_bipush (v := 10) hx hb d_X11_findHours_127 (by decide) ?_
          refine lv_idiv hx hb d_X11_findHours_129 (by decide) ?_
          refine lv_topi (fun x50 ex50 => ?_)
          have hG := bnd_use ex50 hG
          refine r_iast X hw hS (rfl : KD 461 = _) (Rg.vp (b := 6) r_y1 (by decide)) rfl d_X11_findHours_130 (fun H locs hw hS => ?_)
          obtain ⟨v51, ev51⟩ : ∃ z, z = up2 v1 461 y1.toNatClampNeg x50 := ⟨_, rfl⟩
          rw [← ev51] at hw
          have hG := bnd_use ev51 hG
          have hI52 : Inv v51 := by rw [ev51]; exact Inv.put0 hI1 _ rfl
          have hK53 : Kp kp_X11_findHours_400 v v51 := by rw [ev51]; exact Kp.put hK1 _ (by unfold kp_X11_findHours_400; omega)
          have hm54 : v51 400 27 = x43 := by rw [ev51, up2_n _ _ (by omega)]; exact hm45
          obtain ⟨x55, ex55⟩ : ∃ y : Int32, y = y1 + 1 := ⟨_, rfl⟩
          have hG := bnd_use ex55 hG
          refine lv_iinc (v := x55) (lv' := [(1, .int x55), (0, .ref (ad 400)), (2, .int y2), (3, .int y3), (4, .int y4), (5, .int y5)]) hx hb d_X11_findHours_131 hl (k := 1) rfl (by rw [ex55]; rfl) (by decide) rfl (fun ls hl => ?_)
          have r56 : Rg x55 1 7 := rg_add ex55 r_y1 (⟨by decide, by decide⟩ : Rg 1 1 1) (by decide) (by decide)
          have s57 : x55.toInt = y1.toInt + (1 : Int32).toInt := by rw [ex55]; exact i_add (by obtain ⟨_, _⟩ := r_y1; obtain ⟨_, _⟩ := (⟨by decide, by decide⟩ : Rg 1 1 1); omega) (by obtain ⟨_, _⟩ := r_y1; obtain ⟨_, _⟩ := (⟨by decide, by decide⟩ : Rg 1 1 1); omega)
          have s57l : (1 : Int32).toInt = 1 := rfl
          obtain ⟨x58, ex58⟩ : ∃ y : Int32, y = y2 + 1 := ⟨_, rfl⟩
          have hG := bnd_use ex58 hG
          refine lv_iinc (v := x58) (lv' := [(2, .int x58), (1, .int x55), (0, .ref (ad 400)), (3, .int y3), (4, .int y4), (5, .int y5)]) hx hb d_X11_findHours_134 hl (k := 2) rfl (by rw [ex58]; rfl) (by decide) rfl (fun ls hl => ?_)
          have r59 : Rg x58 1 200 := rg_add ex58 r_y2 (⟨by decide, by decide⟩ : Rg 1 1 1) (by decide) (by decide)
          have s60 : x58.toInt = y2.toInt + (1 : Int32).toInt := by rw [ex58]; exact i_add (by obtain ⟨_, _⟩ := r_y2; obtain ⟨_, _⟩ := (⟨by decide, by decide⟩ : Rg 1 1 1); omega) (by obtain ⟨_, _⟩ := r_y2; obtain ⟨_, _⟩ := (⟨by decide, by decide⟩ : Rg 1 1 1); omega)
          have s60l : (1 : Int32).toInt = 1 := rfl
          refine lv_goto (tgt := 27) hx hb d_X11_findHours_137 (by decide) ?_
          exact ih1 x55 x58 v51 _ _ _ (by have q_ := r_y1; obtain ⟨_, _⟩ := q_; have q_ := r_y2; obtain ⟨_, _⟩ := q_; have q_ := r_y3; obtain ⟨_, _⟩ := q_; have q_ := r_y5; obtain ⟨_, _⟩ := q_; have q_ := r44; obtain ⟨_, _⟩ := q_; have q_ := r56; obtain ⟨_, _⟩ := q_; have q_ := r59; obtain ⟨_, _⟩ := q_; omega) (rg_w r56 (by decide) (by decide)) (rg_w r59 (by decide) (by decide)) hI52 hK53 hG hw hS (lv_sub hl [2, 1, 0] rfl)
        · have f61 := i_nle c46
          have r62 : Rg y5 0 199 := by obtain ⟨a1, a2⟩ := r_y5; obtain ⟨b1, b2⟩ := r44; have f := i_nle c46; exact ⟨by omega, by omega⟩
          have r63 : Rg x43 1 200 := by obtain ⟨a1, a2⟩ := r_y5; obtain ⟨b1, b2⟩ := r44; have f := i_nle c46; exact ⟨by omega, by omega⟩
          have hG := g_neg c46 hG
          refine lv_iload hx hb d_X11_findHours_82 (lv_at hl 4 rfl) ?_
          refine lv_aload_n hx hb d_X11_findHours_84 rfl (lv_at hl 0 rfl) ?_
          refine r_getr (r := 429) X hw FL_X11_80 (rfl : KD 400 = _) rfl d_X11_findHours_85 ?_
          refine lv_iload hx hb d_X11_findHours_88 (lv_at hl 5 rfl) ?_
          refine r_iald X hw (rfl : KD 429 = _) (Rg.vp (b := 199) r62 (by decide)) rfl d_X11_findHours_90 ?_
          refine lv_topi (fun x64 ex64 => ?_)
          have hG := bnd_use ex64 hG
          have r65 : Rg x64 0 19 := by rw [ex64]; exact hI1 _ _ _ _ rfl
          refine lv_iload_n hx hb d_X11_findHours_91 rfl (lv_at hl 3 rfl) ?_
          refine lv_icmp_ne (tgt := 105) hx hb d_X11_findHours_92 (by decide) (fun c66 => ?_) (fun c66 => ?_)
          · have f67 := i_ne c66
            have hG := g_neg c66 hG
            refine lv_iconst (v := 0) hx hb d_X11_findHours_105 (by decide) ?_
            refine lv_iadd hx hb d_X11_findHours_106 ?_
            refine lv_topi (fun x68 ex68 => ?_)
            have hG := bnd_use ex68 hG
            refine lv_istore (lv' := [(4, .int x68), (0, .ref (ad 400)), (1, .int y1), (2, .int y2), (3, .int y3), (5, .int y5)]) hx hb d_X11_findHours_107 hl (by decide) rfl (fun ls hl => ?_)
            obtain ⟨x69, ex69⟩ : ∃ y : Int32, y = y5 + 1 := ⟨_, rfl⟩
            have hG := bnd_use ex69 hG
            refine lv_iinc (v := x69) (lv' := [(5, .int x69), (4, .int x68), (0, .ref (ad 400)), (1, .int y1), (2, .int y2), (3, .int y3)]) hx hb d_X11_findHours_109 hl (k := 5) rfl (by rw [ex69]; rfl) (by decide) rfl (fun ls hl => ?_)
            have r70 : Rg x69 1 200 := rg_add ex69 r62 (⟨by decide, by decide⟩ : Rg 1 1 1) (by decide) (by decide)
            have s71 : x69.toInt = y5.toInt + (1 : Int32).toInt := by rw [ex69]; exact i_add (by obtain ⟨_, _⟩ := r62; obtain ⟨_, _⟩ := (⟨by decide, by decide⟩ : Rg 1 1 1); omega) (by obtain ⟨_, _⟩ := r62; obtain ⟨_, _⟩ := (⟨by decide, by decide⟩ : Rg 1 1 1); omega)
            have s71l : (1 : Int32).toInt = 1 := rfl
            refine lv_goto (tgt := 73) hx hb d_X11_findHours_112 (by decide) ?_
            exact ih2 y1 y2 y3 x68 x69 v1 _ _ _ (by have q_ := r_y1; obtain ⟨_, _⟩ := q_; have q_ := r_y2; obtain ⟨_, _⟩ := q_; have q_ := r_y3; obtain ⟨_, _⟩ := q_; have q_ := r62; obtain ⟨_, _⟩ := q_; have q_ := r63; obtain ⟨_, _⟩ := q_; have q_ := r65; obtain ⟨_, _⟩ := q_; have q_ := r70; obtain ⟨_, _⟩ := q_; have q_ := rg_any x68; obtain ⟨_, _⟩ := q_; omega) r_y1 r_y2 r_y3 (rg_w r70 (by decide) (by decide)) hI1 hK1 hG hw hS (lv_sub hl [2, 3, 4, 5, 1, 0] rfl)
          · have f72 := i_eq c66
            have hG := g_pos c66 hG
            refine lv_aload_n hx hb d_X11_findHours_95 rfl (lv_at hl 0 rfl) ?_
            refine r_getr (r := 431) X hw FL_X11_86 (rfl : KD 400 = _) rfl d_X11_findHours_96 ?_
            refine lv_iload hx hb d_X11_findHours_99 (lv_at hl 5 rfl) ?_
            refine r_iald X hw (rfl : KD 431 = _) (Rg.vp (b := 199) r62 (by decide)) rfl d_X11_findHours_101 ?_
            refine lv_topi (fun x73 ex73 => ?_)
            have hG := bnd_use ex73 hG
            refine lv_goto (tgt := 106) hx hb d_X11_findHours_102 (by decide) ?_
            refine lv_iadd hx hb d_X11_findHours_106 ?_
            refine lv_topi (fun x74 ex74 => ?_)
            have hG := bnd_use ex74 hG
            refine lv_istore (lv' := [(4, .int x74), (0, .ref (ad 400)), (1, .int y1), (2, .int y2), (3, .int y3), (5, .int y5)]) hx hb d_X11_findHours_107 hl (by decide) rfl (fun ls hl => ?_)
            obtain ⟨x75, ex75⟩ : ∃ y : Int32, y = y5 + 1 := ⟨_, rfl⟩
            have hG := bnd_use ex75 hG
            refine lv_iinc (v := x75) (lv' := [(5, .int x75), (4, .int x74), (0, .ref (ad 400)), (1, .int y1), (2, .int y2), (3, .int y3)]) hx hb d_X11_findHours_109 hl (k := 5) rfl (by rw [ex75]; rfl) (by decide) rfl (fun ls hl => ?_)
            have r76 : Rg x75 1 200 := rg_add ex75 r62 (⟨by decide, by decide⟩ : Rg 1 1 1) (by decide) (by decide)
            have s77 : x75.toInt = y5.toInt + (1 : Int32).toInt := by rw [ex75]; exact i_add (by obtain ⟨_, _⟩ := r62; obtain ⟨_, _⟩ := (⟨by decide, by decide⟩ : Rg 1 1 1); omega) (by obtain ⟨_, _⟩ := r62; obtain ⟨_, _⟩ := (⟨by decide, by decide⟩ : Rg 1 1 1); omega)
            have s77l : (1 : Int32).toInt = 1 := rfl
            refine lv_goto (tgt := 73) hx hb d_X11_findHours_112 (by decide) ?_
            exact ih2 y1 y2 y3 x74 x75 v1 _ _ _ (by have q_ := r_y1; obtain ⟨_, _⟩ := q_; have q_ := r_y2; obtain ⟨_, _⟩ := q_; have q_ := r_y3; obtain ⟨_, _⟩ := q_; have q_ := r62; obtain ⟨_, _⟩ := q_; have q_ := r63; obtain ⟨_, _⟩ := q_; have q_ := r65; obtain ⟨_, _⟩ := q_; have q_ := r76; obtain ⟨_, _⟩ := q_; have q_ := rg_any x74; obtain ⟨_, _⟩ := q_; omega) r_y1 r_y2 r_y3 (rg_w r76 (by decide) (by decide)) hI1 hK1 hG hw hS (lv_sub hl [2, 3, 4, 5, 1, 0] rfl)
  obtain ⟨ih0, ih1, ih2⟩ := LL 10000000
  have hK0 : Kp kp_X11_findHours_400 v v := Kp.rf _ v
  have hG := eRR
  unfold f_X11_findHours_400 at hG
  refine lv_iconst (v := 0) hx hb d_X11_findHours_0 (by decide) ?_
  refine lv_istore_n (lv' := [(1, .int 0), (0, .ref (ad 400))]) hx hb d_X11_findHours_1 rfl hl (by decide) rfl (fun ls hl => ?_)
  refine lv_iconst (v := 0) hx hb d_X11_findHours_2 (by decide) ?_
  refine lv_istore_n (lv' := [(2, .int 0), (1, .int 0), (0, .ref (ad 400))]) hx hb d_X11_findHours_3 rfl hl (by decide) rfl (fun ls hl => ?_)
  exact ih0 0 0 v _ _ _ (by have q_ : (0 : Int32).toInt = 0 := rfl; have q_ : (0 : Int32).toInt = 0 := rfl; omega) (⟨by decide, by decide⟩ : Rg 0 0 0) (rg_w (⟨by decide, by decide⟩ : Rg 0 0 0) (by decide) (by decide)) hI hK0 hG hw hS (lv_sub hl [2, 1, 0] rfl)
theorem d_X11_clear_0 : decode c_X11_clear 0 = .ok (.iload_n 1, 1) := by decide +kernel
theorem d_X11_clear_1 : decode c_X11_clear 1 = .ok (.iconst 1, 1) := by decide +kernel
theorem d_X11_clear_2 : decode c_X11_clear 2 = .ok (.iconst 3, 1) := by decide +kernel
theorem d_X11_clear_3 : decode c_X11_clear 3 = .ok (.invokestatic 169, 3) := by decide +kernel
theorem d_X11_clear_6 : decode c_X11_clear 6 = .ok (.ifCond .ne 6, 3) := by decide +kernel
theorem d_X11_clear_9 : decode c_X11_clear 9 = .ok (.bipush (-2), 2) := by decide +kernel
theorem d_X11_clear_11 : decode c_X11_clear 11 = .ok (.ireturn, 1) := by decide +kernel
theorem d_X11_clear_12 : decode c_X11_clear 12 = .ok (.aload_n 0, 1) := by decide +kernel
theorem d_X11_clear_13 : decode c_X11_clear 13 = .ok (.invokevirtual 292, 3) := by decide +kernel
theorem d_X11_clear_16 : decode c_X11_clear 16 = .ok (.istore_n 2, 1) := by decide +kernel
theorem d_X11_clear_17 : decode c_X11_clear 17 = .ok (.iconst 1, 1) := by decide +kernel
theorem d_X11_clear_18 : decode c_X11_clear 18 = .ok (.istore_n 3, 1) := by decide +kernel
theorem d_X11_clear_19 : decode c_X11_clear 19 = .ok (.iconst 0, 1) := by decide +kernel
theorem d_X11_clear_20 : decode c_X11_clear 20 = .ok (.istore 4, 2) := by decide +kernel
theorem d_X11_clear_22 : decode c_X11_clear 22 = .ok (.iload 4, 2) := by decide +kernel
theorem d_X11_clear_24 : decode c_X11_clear 24 = .ok (.iload_n 2, 1) := by decide +kernel
theorem d_X11_clear_25 : decode c_X11_clear 25 = .ok (.if_icmp .ge 13, 3) := by decide +kernel
theorem d_X11_clear_28 : decode c_X11_clear 28 = .ok (.iload_n 3, 1) := by decide +kernel
theorem d_X11_clear_29 : decode c_X11_clear 29 = .ok (.iload_n 1, 1) := by decide +kernel
theorem d_X11_clear_30 : decode c_X11_clear 30 = .ok (.imul, 1) := by decide +kernel
theorem d_X11_clear_31 : decode c_X11_clear 31 = .ok (.istore_n 3, 1) := by decide +kernel
theorem d_X11_clear_32 : decode c_X11_clear 32 = .ok (.iinc 4 1, 3) := by decide +kernel
theorem d_X11_clear_35 : decode c_X11_clear 35 = .ok (.goto (-13), 3) := by decide +kernel
theorem d_X11_clear_38 : decode c_X11_clear 38 = .ok (.iconst (-1), 1) := by decide +kernel
theorem d_X11_clear_39 : decode c_X11_clear 39 = .ok (.istore 4, 2) := by decide +kernel
theorem d_X11_clear_41 : decode c_X11_clear 41 = .ok (.iconst 0, 1) := by decide +kernel
theorem d_X11_clear_42 : decode c_X11_clear 42 = .ok (.istore 5, 2) := by decide +kernel
theorem d_X11_clear_44 : decode c_X11_clear 44 = .ok (.iload 5, 2) := by decide +kernel
theorem d_X11_clear_46 : decode c_X11_clear 46 = .ok (.iload_n 3, 1) := by decide +kernel
theorem d_X11_clear_47 : decode c_X11_clear 47 = .ok (.if_icmp .ge 153, 3) := by decide +kernel
theorem d_X11_clear_50 : decode c_X11_clear 50 = .ok (.iload 5, 2) := by decide +kernel
theorem d_X11_clear_52 : decode c_X11_clear 52 = .ok (.istore 6, 2) := by decide +kernel
theorem d_X11_clear_54 : decode c_X11_clear 54 = .ok (.iconst 0, 1) := by decide +kernel
theorem d_X11_clear_55 : decode c_X11_clear 55 = .ok (.istore 7, 2) := by decide +kernel
theorem d_X11_clear_57 : decode c_X11_clear 57 = .ok (.iload 7, 2) := by decide +kernel
theorem d_X11_clear_59 : decode c_X11_clear 59 = .ok (.iconst 3, 1) := by decide +kernel
theorem d_X11_clear_60 : decode c_X11_clear 60 = .ok (.if_icmp .ge 17, 3) := by decide +kernel
theorem d_X11_clear_63 : decode c_X11_clear 63 = .ok (.aload_n 0, 1) := by decide +kernel
theorem d_X11_clear_64 : decode c_X11_clear 64 = .ok (.getfield 145, 3) := by decide +kernel
theorem d_X11_clear_67 : decode c_X11_clear 67 = .ok (.iload 7, 2) := by decide +kernel
theorem d_X11_clear_69 : decode c_X11_clear 69 = .ok (.iconst 0, 1) := by decide +kernel
theorem d_X11_clear_70 : decode c_X11_clear 70 = .ok (.iastore, 1) := by decide +kernel
theorem d_X11_clear_71 : decode c_X11_clear 71 = .ok (.iinc 7 1, 3) := by decide +kernel
theorem d_X11_clear_74 : decode c_X11_clear 74 = .ok (.goto (-17), 3) := by decide +kernel
theorem d_X11_clear_77 : decode c_X11_clear 77 = .ok (.iconst 0, 1) := by decide +kernel
theorem d_X11_clear_78 : decode c_X11_clear 78 = .ok (.istore 7, 2) := by decide +kernel
theorem d_X11_clear_80 : decode c_X11_clear 80 = .ok (.iload 7, 2) := by decide +kernel
theorem d_X11_clear_82 : decode c_X11_clear 82 = .ok (.iload_n 2, 1) := by decide +kernel
theorem d_X11_clear_83 : decode c_X11_clear 83 = .ok (.if_icmp .ge 34, 3) := by decide +kernel
theorem d_X11_clear_86 : decode c_X11_clear 86 = .ok (.aload_n 0, 1) := by decide +kernel
theorem d_X11_clear_87 : decode c_X11_clear 87 = .ok (.getfield 145, 3) := by decide +kernel
theorem d_X11_clear_90 : decode c_X11_clear 90 = .ok (.iload 6, 2) := by decide +kernel
theorem d_X11_clear_92 : decode c_X11_clear 92 = .ok (.iload_n 1, 1) := by decide +kernel
theorem d_X11_clear_93 : decode c_X11_clear 93 = .ok (.irem, 1) := by decide +kernel
theorem d_X11_clear_94 : decode c_X11_clear 94 = .ok (.dup2, 1) := by decide +kernel
theorem d_X11_clear_95 : decode c_X11_clear 95 = .ok (.iaload, 1) := by decide +kernel
theorem d_X11_clear_96 : decode c_X11_clear 96 = .ok (.aload_n 0, 1) := by decide +kernel
theorem d_X11_clear_97 : decode c_X11_clear 97 = .ok (.getfield 142, 3) := by decide +kernel
theorem d_X11_clear_100 : decode c_X11_clear 100 = .ok (.iload 7, 2) := by decide +kernel
theorem d_X11_clear_102 : decode c_X11_clear 102 = .ok (.iaload, 1) := by decide +kernel
theorem d_X11_clear_103 : decode c_X11_clear 103 = .ok (.iadd, 1) := by decide +kernel
theorem d_X11_clear_104 : decode c_X11_clear 104 = .ok (.iastore, 1) := by decide +kernel
theorem d_X11_clear_105 : decode c_X11_clear 105 = .ok (.iload 6, 2) := by decide +kernel
theorem d_X11_clear_107 : decode c_X11_clear 107 = .ok (.iload_n 1, 1) := by decide +kernel
theorem d_X11_clear_108 : decode c_X11_clear 108 = .ok (.idiv, 1) := by decide +kernel
theorem d_X11_clear_109 : decode c_X11_clear 109 = .ok (.istore 6, 2) := by decide +kernel
theorem d_X11_clear_111 : decode c_X11_clear 111 = .ok (.iinc 7 1, 3) := by decide +kernel
theorem d_X11_clear_114 : decode c_X11_clear 114 = .ok (.goto (-34), 3) := by decide +kernel
theorem d_X11_clear_117 : decode c_X11_clear 117 = .ok (.aload_n 0, 1) := by decide +kernel
theorem d_X11_clear_118 : decode c_X11_clear 118 = .ok (.getfield 145, 3) := by decide +kernel
theorem d_X11_clear_121 : decode c_X11_clear 121 = .ok (.iconst 0, 1) := by decide +kernel
theorem d_X11_clear_122 : decode c_X11_clear 122 = .ok (.iaload, 1) := by decide +kernel
theorem d_X11_clear_123 : decode c_X11_clear 123 = .ok (.aload_n 0, 1) := by decide +kernel
theorem d_X11_clear_124 : decode c_X11_clear 124 = .ok (.getfield 145, 3) := by decide +kernel
theorem d_X11_clear_127 : decode c_X11_clear 127 = .ok (.iconst 1, 1) := by decide +kernel
theorem d_X11_clear_128 : decode c_X11_clear 128 = .ok (.iaload, 1) := by decide +kernel
theorem d_X11_clear_129 : decode c_X11_clear 129 = .ok (.if_icmp .le 12, 3) := by decide +kernel
theorem d_X11_clear_132 : decode c_X11_clear 132 = .ok (.aload_n 0, 1) := by decide +kernel
theorem d_X11_clear_133 : decode c_X11_clear 133 = .ok (.getfield 145, 3) := by decide +kernel
theorem d_X11_clear_136 : decode c_X11_clear 136 = .ok (.iconst 0, 1) := by decide +kernel
theorem d_X11_clear_137 : decode c_X11_clear 137 = .ok (.iaload, 1) := by decide +kernel
theorem d_X11_clear_138 : decode c_X11_clear 138 = .ok (.goto 9, 3) := by decide +kernel
theorem d_X11_clear_141 : decode c_X11_clear 141 = .ok (.aload_n 0, 1) := by decide +kernel
theorem d_X11_clear_142 : decode c_X11_clear 142 = .ok (.getfield 145, 3) := by decide +kernel
theorem d_X11_clear_145 : decode c_X11_clear 145 = .ok (.iconst 1, 1) := by decide +kernel
theorem d_X11_clear_146 : decode c_X11_clear 146 = .ok (.iaload, 1) := by decide +kernel
theorem d_X11_clear_147 : decode c_X11_clear 147 = .ok (.istore 7, 2) := by decide +kernel
theorem d_X11_clear_149 : decode c_X11_clear 149 = .ok (.iload 7, 2) := by decide +kernel
theorem d_X11_clear_151 : decode c_X11_clear 151 = .ok (.aload_n 0, 1) := by decide +kernel
theorem d_X11_clear_152 : decode c_X11_clear 152 = .ok (.getfield 145, 3) := by decide +kernel
theorem d_X11_clear_155 : decode c_X11_clear 155 = .ok (.iconst 2, 1) := by decide +kernel
theorem d_X11_clear_156 : decode c_X11_clear 156 = .ok (.iaload, 1) := by decide +kernel
theorem d_X11_clear_157 : decode c_X11_clear 157 = .ok (.if_icmp .le 8, 3) := by decide +kernel
theorem d_X11_clear_160 : decode c_X11_clear 160 = .ok (.iload 7, 2) := by decide +kernel
theorem d_X11_clear_162 : decode c_X11_clear 162 = .ok (.goto 9, 3) := by decide +kernel
theorem d_X11_clear_165 : decode c_X11_clear 165 = .ok (.aload_n 0, 1) := by decide +kernel
theorem d_X11_clear_166 : decode c_X11_clear 166 = .ok (.getfield 145, 3) := by decide +kernel
theorem d_X11_clear_169 : decode c_X11_clear 169 = .ok (.iconst 2, 1) := by decide +kernel
theorem d_X11_clear_170 : decode c_X11_clear 170 = .ok (.iaload, 1) := by decide +kernel
theorem d_X11_clear_171 : decode c_X11_clear 171 = .ok (.istore 7, 2) := by decide +kernel
theorem d_X11_clear_173 : decode c_X11_clear 173 = .ok (.iload 4, 2) := by decide +kernel
theorem d_X11_clear_175 : decode c_X11_clear 175 = .ok (.ifCond .lt 10, 3) := by decide +kernel
theorem d_X11_clear_178 : decode c_X11_clear 178 = .ok (.iload 7, 2) := by decide +kernel
theorem d_X11_clear_180 : decode c_X11_clear 180 = .ok (.iload 4, 2) := by decide +kernel
theorem d_X11_clear_182 : decode c_X11_clear 182 = .ok (.if_icmp .ge 8, 3) := by decide +kernel
theorem d_X11_clear_185 : decode c_X11_clear 185 = .ok (.iload 7, 2) := by decide +kernel
theorem d_X11_clear_187 : decode c_X11_clear 187 = .ok (.goto 5, 3) := by decide +kernel
theorem d_X11_clear_190 : decode c_X11_clear 190 = .ok (.iload 4, 2) := by decide +kernel
theorem d_X11_clear_192 : decode c_X11_clear 192 = .ok (.istore 4, 2) := by decide +kernel
theorem d_X11_clear_194 : decode c_X11_clear 194 = .ok (.iinc 5 1, 3) := by decide +kernel
theorem d_X11_clear_197 : decode c_X11_clear 197 = .ok (.goto (-153), 3) := by decide +kernel
theorem d_X11_clear_200 : decode c_X11_clear 200 = .ok (.iload 4, 2) := by decide +kernel
theorem d_X11_clear_202 : decode c_X11_clear 202 = .ok (.ireturn, 1) := by decide +kernel
def kp_X11_clear_400 (gg : Int32) (a j : Nat) : Prop := a ≠ 461 ∧ a ≠ 462 ∧ a ≠ 463
def b_X11_clear_400_22 (gg : Int32) (rc22 : Int32 → Int32 → Int32 → tV → Int32 × tV) (rc44 : Int32 → Int32 → Int32 → Int32 → tV → Int32 × tV) (y2 : Int32) (y3 : Int32) (y4 : Int32) (v1 : tV) : Int32 × tV := (if y2 ≤ y4 then rc44 y2 y3 (-1) 0 v1 else bnd (y3 * gg) fun x6 => bnd (y4 + 1) fun x7 => rc22 y2 x6 x7 v1)
def b_X11_clear_400_44 (gg : Int32) (rc57 : Int32 → Int32 → Int32 → Int32 → Int32 → Int32 → tV → Int32 × tV) (y2 : Int32) (y3 : Int32) (y4 : Int32) (y5 : Int32) (v1 : tV) : Int32 × tV := (if y3 ≤ y5 then (y4, v1) else rc57 y2 y3 y4 y5 y5 0 v1)
def b_X11_clear_400_57 (gg : Int32) (rc57 : Int32 → Int32 → Int32 → Int32 → Int32 → Int32 → tV → Int32 × tV) (rc80 : Int32 → Int32 → Int32 → Int32 → Int32 → Int32 → tV → Int32 × tV) (y2 : Int32) (y3 : Int32) (y4 : Int32) (y5 : Int32) (y6 : Int32) (y7 : Int32) (v1 : tV) : Int32 × tV := (if (3 : Int32) ≤ y7 then rc80 y2 y3 y4 y5 y6 0 v1 else bnd (up2 v1 462 (y7.toNatClampNeg) 0) fun v20 => bnd (y7 + 1) fun x23 => rc57 y2 y3 y4 y5 y6 x23 v20)
def b_X11_clear_400_80 (gg : Int32) (rc44 : Int32 → Int32 → Int32 → Int32 → tV → Int32 × tV) (rc80 : Int32 → Int32 → Int32 → Int32 → Int32 → Int32 → tV → Int32 × tV) (y2 : Int32) (y3 : Int32) (y4 : Int32) (y5 : Int32) (y6 : Int32) (y7 : Int32) (v1 : tV) : Int32 × tV := (if y2 ≤ y7 then bnd (v1 462 (0 : Int32).toNatClampNeg) fun x28 => bnd (v1 462 (1 : Int32).toNatClampNeg) fun x29 => (if x28 ≤ x29 then bnd (v1 462 (1 : Int32).toNatClampNeg) fun x32 => bnd (v1 462 (2 : Int32).toNatClampNeg) fun x33 => (if x32 ≤ x33 then bnd (v1 462 (2 : Int32).toNatClampNeg) fun x36 => (if y4 < (0 : Int32) then bnd (y5 + 1) fun x41 => rc44 y2 y3 x36 x41 v1 else (if y4 ≤ x36 then bnd (y5 + 1) fun x50 => rc44 y2 y3 y4 x50 v1 else bnd (y5 + 1) fun x56 => rc44 y2 y3 x36 x56 v1)) else (if y4 < (0 : Int32) then bnd (y5 + 1) fun x64 => rc44 y2 y3 x32 x64 v1 else (if y4 ≤ x32 then bnd (y5 + 1) fun x73 => rc44 y2 y3 y4 x73 v1 else bnd (y5 + 1) fun x79 => rc44 y2 y3 x32 x79 v1))) else bnd (v1 462 (0 : Int32).toNatClampNeg) fun x83 => bnd (v1 462 (2 : Int32).toNatClampNeg) fun x84 => (if x83 ≤ x84 then bnd (v1 462 (2 : Int32).toNatClampNeg) fun x87 => (if y4 < (0 : Int32) then bnd (y5 + 1) fun x92 => rc44 y2 y3 x87 x92 v1 else (if y4 ≤ x87 then bnd (y5 + 1) fun x101 => rc44 y2 y3 y4 x101 v1 else bnd (y5 + 1) fun x107 => rc44 y2 y3 x87 x107 v1)) else (if y4 < (0 : Int32) then bnd (y5 + 1) fun x115 => rc44 y2 y3 x83 x115 v1 else (if y4 ≤ x83 then bnd (y5 + 1) fun x124 => rc44 y2 y3 y4 x124 v1 else bnd (y5 + 1) fun x130 => rc44 y2 y3 x83 x130 v1)))) else bnd (y6 - y6 / gg * gg) fun x136 => bnd (v1 462 x136.toNatClampNeg) fun x138 => bnd (v1 461 y7.toNatClampNeg) fun x139 => bnd (x138 + x139) fun x140 => bnd (up2 v1 462 (x136.toNatClampNeg) x140) fun v141 => bnd (y6 / gg) fun x144 => bnd (y7 + 1) fun x146 => rc80 y2 y3 y4 y5 x144 x146 v141)
def g_X11_clear_400 (gg : Int32) : Nat → Nat → Int32 → Int32 → Int32 → Int32 → Int32 → Int32 → tV → Int32 × tV
  | 0, _, _, _, _, _, _, _, v1 => (0, v1)
  | n + 1, 0, y2, y3, y4, _, _, _, v1 => b_X11_clear_400_22 gg (fun y2 y3 y4 w1 => g_X11_clear_400 gg n 0 y2 y3 y4 0 0 0 w1) (fun y2 y3 y4 y5 w1 => g_X11_clear_400 gg n 1 y2 y3 y4 y5 0 0 w1) y2 y3 y4 v1
  | n + 1, 1, y2, y3, y4, y5, _, _, v1 => b_X11_clear_400_44 gg (fun y2 y3 y4 y5 y6 y7 w1 => g_X11_clear_400 gg n 2 y2 y3 y4 y5 y6 y7 w1) y2 y3 y4 y5 v1
  | n + 1, 2, y2, y3, y4, y5, y6, y7, v1 => b_X11_clear_400_57 gg (fun y2 y3 y4 y5 y6 y7 w1 => g_X11_clear_400 gg n 2 y2 y3 y4 y5 y6 y7 w1) (fun y2 y3 y4 y5 y6 y7 w1 => g_X11_clear_400 gg n 3 y2 y3 y4 y5 y6 y7 w1) y2 y3 y4 y5 y6 y7 v1
  | n + 1, _, y2, y3, y4, y5, y6, y7, v1 => b_X11_clear_400_80 gg (fun y2 y3 y4 y5 w1 => g_X11_clear_400 gg n 1 y2 y3 y4 y5 0 0 w1) (fun y2 y3 y4 y5 y6 y7 w1 => g_X11_clear_400 gg n 3 y2 y3 y4 y5 y6 y7 w1) y2 y3 y4 y5 y6 y7 v1
def g_X11_clear_400_22 (gg : Int32) (n : Nat) : Int32 → Int32 → Int32 → tV → Int32 × tV := (fun y2 y3 y4 w1 => g_X11_clear_400 gg n 0 y2 y3 y4 0 0 0 w1)
def g_X11_clear_400_44 (gg : Int32) (n : Nat) : Int32 → Int32 → Int32 → Int32 → tV → Int32 × tV := (fun y2 y3 y4 y5 w1 => g_X11_clear_400 gg n 1 y2 y3 y4 y5 0 0 w1)
def g_X11_clear_400_57 (gg : Int32) (n : Nat) : Int32 → Int32 → Int32 → Int32 → Int32 → Int32 → tV → Int32 × tV := (fun y2 y3 y4 y5 y6 y7 w1 => g_X11_clear_400 gg n 2 y2 y3 y4 y5 y6 y7 w1)
def g_X11_clear_400_80 (gg : Int32) (n : Nat) : Int32 → Int32 → Int32 → Int32 → Int32 → Int32 → tV → Int32 × tV := (fun y2 y3 y4 y5 y6 y7 w1 => g_X11_clear_400 gg n 3 y2 y3 y4 y5 y6 y7 w1)
def f_X11_clear_400 (v : tV) (gg : Int32) : Int32 × tV := (if (1 : Int32).toInt ≤ gg.toInt ∧ gg.toInt ≤ (3 : Int32).toInt then bnd2 (f_X11_findHours_400 v ) fun x156 v157 => g_X11_clear_400_22 gg 10000000000000 x156 1 0 v157 else ((-2 : Int32), v))
set_option maxHeartbeats 4000000 in
set_option maxRecDepth 100000 in
theorem ct_X11_clear_400 (l : Launch) (D : va_G) (dA : Nat → ClassId) (ad : Nat → Nat) (v : tV) (hI : Inv v) (gg : Int32) : Met l m_X11_clear [.code m_X11_clear c_X11_clear 8 (some .int)] ({ frames := 2, cells := 0, slots := 0, locals := 65 } : Room) (tP D dA ad v [.ref (ad 400), .int gg]) (tQi D dA ad (fun r v' => (Inv v' ∧ Kp (kp_X11_clear_400 gg) v v') ∧ (r, v') = f_X11_clear_400 v gg)) 0 0 (tA ad) := by
  refine tMet (by decide) (Nat.le_of_ble_eq_true rfl) ?_
  intro p e s m below meth c ls X hr hlocks hw hl
  have X : CX p s m ([.ref (ad 400), .int gg] : List Value).toArray c c_X11_clear N_X11 8 D dA := X
  have hx := X.1
  have hb := X.2.1
  have hS : va_S (tA ad) s.heap s.heap [] := va_S.rf
  have hl : lv_has ls 8 [(0, .ref (ad 400)), (1, .int gg)] := hl
  obtain ⟨RR, eRR⟩ : ∃ z, f_X11_clear_400 v gg = z := ⟨_, rfl⟩
  have LL : ∀ n : Nat, (∀ (y2 : Int32) (y3 : Int32) (y4 : Int32) (v1 : tV) (H : Heap) (locs : List Loc) (ls : Array Slot), (7 - y4.toInt).toNat + 1000000000000 < n → Rg gg 1 3 → Rg y2 0 7 → Rg y4 0 7 → Inv v1 → Kp (kp_X11_clear_400 gg) v v1 → g_X11_clear_400_22 gg n y2 y3 y4 v1 = RR → tI D dA ad v1 H → va_S (tA ad) s.heap H locs → lv_has ls 8 [(0, .ref (ad 400)), (1, .int gg), (2, .int y2), (3, .int y3), (4, .int y4)] → W p l e ({ frames := 2, cells := 0, slots := 0, locals := 65 } : Room) s m ([.ref (ad 400), .int gg] : List Value).toArray below meth c H locs 0 0 (MQ below (tQi D dA ad (fun r v' => (Inv v' ∧ Kp (kp_X11_clear_400 gg) v v') ∧ (r, v') = f_X11_clear_400 v gg)) ([.ref (ad 400), .int gg] : List Value).toArray s 0 0 (tA ad)) (F0 m 22 ls [])) ∧ (∀ (y2 : Int32) (y3 : Int32) (y4 : Int32) (y5 : Int32) (v1 : tV) (H : Heap) (locs : List Loc) (ls : Array Slot), (y3.toInt - y5.toInt).toNat * 100 + 99 < n → Rg gg 1 3 → Rg y2 0 7 → Rg y5 0 2147483647 → Inv v1 → Kp (kp_X11_clear_400 gg) v v1 → g_X11_clear_400_44 gg n y2 y3 y4 y5 v1 = RR → tI D dA ad v1 H → va_S (tA ad) s.heap H locs → lv_has ls 8 [(0, .ref (ad 400)), (1, .int gg), (2, .int y2), (3, .int y3), (4, .int y4), (5, .int y5)] → W p l e ({ frames := 2, cells := 0, slots := 0, locals := 65 } : Room) s m ([.ref (ad 400), .int gg] : List Value).toArray below meth c H locs 0 0 (MQ below (tQi D dA ad (fun r v' => (Inv v' ∧ Kp (kp_X11_clear_400 gg) v v') ∧ (r, v') = f_X11_clear_400 v gg)) ([.ref (ad 400), .int gg] : List Value).toArray s 0 0 (tA ad)) (F0 m 44 ls [])) ∧ (∀ (y2 : Int32) (y3 : Int32) (y4 : Int32) (y5 : Int32) (y6 : Int32) (y7 : Int32) (v1 : tV) (H : Heap) (locs : List Loc) (ls : Array Slot), (y3.toInt - y5.toInt).toNat * 100 + 50 + (3 - y7.toInt).toNat < n → Rg gg 1 3 → Rg y2 0 7 → Rg y5 0 2147483647 → Rg y6 0 2147483647 → Rg y7 0 3 → Inv v1 → Kp (kp_X11_clear_400 gg) v v1 → y5.toInt < y3.toInt → g_X11_clear_400_57 gg n y2 y3 y4 y5 y6 y7 v1 = RR → tI D dA ad v1 H → va_S (tA ad) s.heap H locs → lv_has ls 8 [(0, .ref (ad 400)), (1, .int gg), (2, .int y2), (3, .int y3), (4, .int y4), (5, .int y5), (6, .int y6), (7, .int y7)] → W p l e ({ frames := 2, cells := 0, slots := 0, locals := 65 } : Room) s m ([.ref (ad 400), .int gg] : List Value).toArray below meth c H locs 0 0 (MQ below (tQi D dA ad (fun r v' => (Inv v' ∧ Kp (kp_X11_clear_400 gg) v v') ∧ (r, v') = f_X11_clear_400 v gg)) ([.ref (ad 400), .int gg] : List Value).toArray s 0 0 (tA ad)) (F0 m 57 ls [])) ∧ (∀ (y2 : Int32) (y3 : Int32) (y4 : Int32) (y5 : Int32) (y6 : Int32) (y7 : Int32) (v1 : tV) (H : Heap) (locs : List Loc) (ls : Array Slot), (y3.toInt - y5.toInt).toNat * 100 + (7 - y7.toInt).toNat < n → Rg gg 1 3 → Rg y2 0 7 → Rg y5 0 2147483647 → Rg y6 0 2147483647 → Rg y7 0 7 → Inv v1 → Kp (kp_X11_clear_400 gg) v v1 → y5.toInt < y3.toInt → g_X11_clear_400_80 gg n y2 y3 y4 y5 y6 y7 v1 = RR → tI D dA ad v1 H → va_S (tA ad) s.heap H locs → lv_has ls 8 [(0, .ref (ad 400)), (1, .int gg), (2, .int y2), (3, .int y3), (4, .int y4), (5, .int y5), (6, .int y6), (7, .int y7)] → W p l e ({ frames := 2, cells := 0, slots := 0, locals := 65 } : Room) s m ([.ref (ad 400), .int gg] : List Value).toArray below meth c H locs 0 0 (MQ below (tQi D dA ad (fun r v' => (Inv v' ∧ Kp (kp_X11_clear_400 gg) v v') ∧ (r, v') = f_X11_clear_400 v gg)) ([.ref (ad 400), .int gg] : List Value).toArray s 0 0 (tA ad)) (F0 m 80 ls [])) := by
    intro n
    induction n with
    | zero => refine ⟨?_, ?_, ?_, ?_⟩ <;> (intros; omega)
    | succ n ih =>
      obtain ⟨ih0, ih1, ih2, ih3⟩ := ih
      refine ⟨?_, ?_, ?_, ?_⟩
      · intro y2 y3 y4 v1 H locs ls hmu r_y1 r_y2 r_y4 hI1 hK1 hG hw hS hl
        have hG : b_X11_clear_400_22 gg (g_X11_clear_400_22 gg n) (g_X11_clear_400_44 gg n) y2 y3 y4 v1 = RR := hG
        unfold b_X11_clear_400_22 at hG
        refine lv_iload hx hb d_X11_clear_22 (lv_at hl 4 rfl) ?_
        refine lv_iload_n hx hb d_X11_clear_24 rfl (lv_at hl 2 rfl) ?_
        refine lv_icmp_ge (tgt := 38) hx hb d_X11_clear_25 (by decide) (fun c1 => ?_) (fun c1 => ?_)
        · have f2 := i_le c1
          have hG := g_pos c1 hG
          refine lv_iconst (v := -1) hx hb d_X11_clear_38 (by decide) ?_
          refine lv_istore (lv' := [(4, .int (-1)), (0, .ref (ad 400)), (1, .int gg), (2, .int y2), (3, .int y3)]) hx hb d_X11_clear_39 hl (by decide) rfl (fun ls hl => ?_)
          refine lv_iconst (v := 0) hx hb d_X11_clear_41 (by decide) ?_
          refine lv_istore (lv' := [(5, .int 0), (4, .int (-1)), (0, .ref (ad 400)), (1, .int gg), (2, .int y2), (3, .int y3)]) hx hb d_X11_clear_42 hl (by decide) rfl (fun ls hl => ?_)
          exact ih1 y2 y3 (-1) 0 v1 _ _ _ (by have q_ := r_y1; obtain ⟨_, _⟩ := q_; have q_ := r_y2; obtain ⟨_, _⟩ := q_; have q_ := r_y4; obtain ⟨_, _⟩ := q_; have q_ := rg_any y3; obtain ⟨_, _⟩ := q_; have q_ : (-1 : Int32).toInt = (-1) := rfl; have q_ : (0 : Int32).toInt = 0 := rfl; omega) r_y1 r_y2 (rg_w (⟨by decide, by decide⟩ : Rg 0 0 0) (by decide) (by decide)) hI1 hK1 hG hw hS (lv_sub hl [2, 3, 4, 5, 1, 0] rfl)
        · have f3 := i_nle c1
          have r4 : Rg y4 0 6 := by obtain ⟨a1, a2⟩ := r_y4; obtain ⟨b1, b2⟩ := r_y2; have f := i_nle c1; exact ⟨by omega, by omega⟩
          have r5 : Rg y2 1 7 := by obtain ⟨a1, a2⟩ := r_y4; obtain ⟨b1, b2⟩ := r_y2; have f := i_nle c1; exact ⟨by omega, by omega⟩
          have hG := g_neg c1 hG
          refine lv_iload_n hx hb d_X11_clear_28 rfl (lv_at hl 3 rfl) ?_
          refine lv_iload_n hx hb d_X11_clear_29 rfl (lv_at hl 1 rfl) ?_
          refine lv_imul hx hb d_X11_clear_30 ?_
          refine lv_topi (fun x6 ex6 => ?_)
          have hG := bnd_use ex6 hG
          refine lv_istore_n (lv' := [(3, .int x6), (0, .ref (ad 400)), (1, .int gg), (2, .int y2), (4, .int y4)]) hx hb d_X11_clear_31 rfl hl (by decide) rfl (fun ls hl => ?_)
          obtain ⟨x7, ex7⟩ : ∃ y : Int32, y = y4 + 1 := ⟨_, rfl⟩
          have hG := bnd_use ex7 hG
          refine lv_iinc (v := x7) (lv' := [(4, .int x7), (3, .int x6), (0, .ref (ad 400)), (1, .int gg), (2, .int y2)]) hx hb d_X11_clear_32 hl (k := 4) rfl (by rw [ex7]; rfl) (by decide) rfl (fun ls hl => ?_)
          have r8 : Rg x7 1 7 := rg_add ex7 r4 (⟨by decide, by decide⟩ : Rg 1 1 1) (by decide) (by decide)
          have s9 : x7.toInt = y4.toInt + (1 : Int32).toInt := by rw [ex7]; exact i_add (by obtain ⟨_, _⟩ := r4; obtain ⟨_, _⟩ := (⟨by decide, by decide⟩ : Rg 1 1 1); omega) (by obtain ⟨_, _⟩ := r4; obtain ⟨_, _⟩ := (⟨by decide, by decide⟩ : Rg 1 1 1); omega)
          have s9l : (1 : Int32).toInt = 1 := rfl
          refine lv_goto (tgt := 22) hx hb d_X11_clear_35 (by decide) ?_
          exact ih0 y2 x6 x7 v1 _ _ _ (by have q_ := r_y1; obtain ⟨_, _⟩ := q_; have q_ := r5; obtain ⟨_, _⟩ := q_; have q_ := r4; obtain ⟨_, _⟩ := q_; have q_ := r8; obtain ⟨_, _⟩ := q_; have q_ := rg_any x6; obtain ⟨_, _⟩ := q_; omega) r_y1 (rg_w r5 (by decide) (by decide)) (rg_w r8 (by decide) (by decide)) hI1 hK1 hG hw hS (lv_sub hl [2, 3, 4, 1, 0] rfl)
      · intro y2 y3 y4 y5 v1 H locs ls hmu r_y1 r_y2 r_y5 hI1 hK1 hG hw hS hl
        have hG : b_X11_clear_400_44 gg (g_X11_clear_400_57 gg n) y2 y3 y4 y5 v1 = RR := hG
        unfold b_X11_clear_400_44 at hG
        refine lv_iload hx hb d_X11_clear_44 (lv_at hl 5 rfl) ?_
        refine lv_iload_n hx hb d_X11_clear_46 rfl (lv_at hl 3 rfl) ?_
        refine lv_icmp_ge (tgt := 200) hx hb d_X11_clear_47 (by decide) (fun c10 => ?_) (fun c10 => ?_)
        · have f11 := i_le c10
          have hG := g_pos c10 hG
          refine lv_iload hx hb d_X11_clear_200 (lv_at hl 4 rfl) ?_
          exact r_iret X hr hlocks hw hS ⟨⟨hI1, hK1⟩, hG.trans eRR.symm⟩ d_X11_clear_202
        · have f12 := i_nle c10
          have r13 : Rg y5 0 2147483646 := by obtain ⟨a1, a2⟩ := r_y5; obtain ⟨b1, b2⟩ := (rg_any y3); have f := i_nle c10; exact ⟨by omega, by omega⟩
          have r14 : Rg y3 1 2147483647 := by obtain ⟨a1, a2⟩ := r_y5; obtain ⟨b1, b2⟩ := (rg_any y3); have f := i_nle c10; exact ⟨by omega, by omega⟩
          have hG := g_neg c10 hG
          refine lv_iload hx hb d_X11_clear_50 (lv_at hl 5 rfl) ?_
          refine lv_istore (lv' := [(6, .int y5), (0, .ref (ad 400)), (1, .int gg), (2, .int y2), (3, .int y3), (4, .int y4), (5, .int y5)]) hx hb d_X11_clear_52 hl (by decide) rfl (fun ls hl => ?_)
          refine lv_iconst (v := 0) hx hb d_X11_clear_54 (by decide) ?_
          refine lv_istore (lv' := [(7, .int 0), (6, .int y5), (0, .ref (ad 400)), (1, .int gg), (2, .int y2), (3, .int y3), (4, .int y4), (5, .int y5)]) hx hb d_X11_clear_55 hl (by decide) rfl (fun ls hl => ?_)
          exact ih2 y2 y3 y4 y5 y5 0 v1 _ _ _ (by have q_ := r_y1; obtain ⟨_, _⟩ := q_; have q_ := r_y2; obtain ⟨_, _⟩ := q_; have q_ := r13; obtain ⟨_, _⟩ := q_; have q_ := r14; obtain ⟨_, _⟩ := q_; have q_ := rg_any y4; obtain ⟨_, _⟩ := q_; have q_ : (0 : Int32).toInt = 0 := rfl; omega) r_y1 r_y2 (rg_w r13 (by decide) (by decide)) (rg_w r13 (by decide) (by decide)) (rg_w (⟨by decide, by decide⟩ : Rg 0 0 0) (by decide) (by decide)) hI1 hK1 (by have q_ := r_y1; obtain ⟨_, _⟩ := q_; have q_ := r_y2; obtain ⟨_, _⟩ := q_; have q_ := r13; obtain ⟨_, _⟩ := q_; have q_ := r14; obtain ⟨_, _⟩ := q_; omega) hG hw hS (lv_sub hl [2, 3, 4, 5, 6, 7, 1, 0] rfl)
      · intro y2 y3 y4 y5 y6 y7 v1 H locs ls hmu r_y1 r_y2 r_y5 r_y6 r_y7 hI1 hK1 hex hG hw hS hl
        have hG : b_X11_clear_400_57 gg (g_X11_clear_400_57 gg n) (g_X11_clear_400_80 gg n) y2 y3 y4 y5 y6 y7 v1 = RR := hG
        unfold b_X11_clear_400_57 at hG
        refine lv_iload hx hb d_X11_clear_57 (lv_at hl 7 rfl) ?_
        refine lv_iconst (v := 3) hx hb d_X11_clear_59 (by decide) ?_
        refine lv_icmp_ge (tgt := 77) hx hb d_X11_clear_60 (by decide) (fun c15 => ?_) (fun c15 => ?_)
        · have f16 := i_le c15
          have r17 : Rg y7 3 3 := by obtain ⟨a1, a2⟩ := r_y7; obtain ⟨b1, b2⟩ := (⟨by decide, by decide⟩ : Rg 3 3 3); have f := i_le c15; exact ⟨by omega, by omega⟩
          have hG := g_pos c15 hG
          refine lv_iconst (v := 0) hx hb d_X11_clear_77 (by decide) ?_
          refine lv_istore (lv' := [(7, .int 0), (0, .ref (ad 400)), (1, .int gg), (2, .int y2), (3, .int y3), (4, .int y4), (5, .int y5), (6, .int y6)]) hx hb d_X11_clear_78 hl (by decide) rfl (fun ls hl => ?_)
          exact ih3 y2 y3 y4 y5 y6 0 v1 _ _ _ (by have q_ := r_y1; obtain ⟨_, _⟩ := q_; have q_ := r_y2; obtain ⟨_, _⟩ := q_; have q_ := r_y5; obtain ⟨_, _⟩ := q_; have q_ := r_y6; obtain ⟨_, _⟩ := q_; have q_ := r17; obtain ⟨_, _⟩ := q_; have q_ := rg_any y3; obtain ⟨_, _⟩ := q_; have q_ := rg_any y4; obtain ⟨_, _⟩ := q_; have q_ : (0 : Int32).toInt = 0 := rfl; omega) r_y1 r_y2 r_y5 r_y6 (rg_w (⟨by decide, by decide⟩ : Rg 0 0 0) (by decide) (by decide)) hI1 hK1 (by have q_ := r_y1; obtain ⟨_, _⟩ := q_; have q_ := r_y2; obtain ⟨_, _⟩ := q_; have q_ := r_y5; obtain ⟨_, _⟩ := q_; have q_ := r_y6; obtain ⟨_, _⟩ := q_; have q_ := r17; obtain ⟨_, _⟩ := q_; omega) hG hw hS (lv_sub hl [1, 2, 3, 4, 5, 6, 7, 0] rfl)
        · have f18 := i_nle c15
          have r19 : Rg y7 0 2 := by obtain ⟨a1, a2⟩ := r_y7; obtain ⟨b1, b2⟩ := (⟨by decide, by decide⟩ : Rg 3 3 3); have f := i_nle c15; exact ⟨by omega, by omega⟩
          have hG := g_neg c15 hG
          refine lv_aload_n hx hb d_X11_clear_63 rfl (lv_at hl 0 rfl) ?_
          refine r_getr (r := 462) X hw FL_X11_145 (rfl : KD 400 = _) rfl d_X11_clear_64 ?_
          refine lv_iload hx hb d_X11_clear_67 (lv_at hl 7 rfl) ?_
          refine lv_iconst (v := 0) hx hb d_X11_clear_69 (by decide) ?_
          refine r_iast X hw hS (rfl : KD 462 = _) (Rg.vp (b := 2) r19 (by decide)) rfl d_X11_clear_70 (fun H locs hw hS => ?_)
          obtain ⟨v20, ev20⟩ : ∃ z, z = up2 v1 462 y7.toNatClampNeg 0 := ⟨_, rfl⟩
          rw [← ev20] at hw
          have hG := bnd_use ev20 hG
          have hI21 : Inv v20 := by rw [ev20]; exact Inv.put0 hI1 _ rfl
          have hK22 : Kp (kp_X11_clear_400 gg) v v20 := by rw [ev20]; exact Kp.put hK1 _ (by unfold kp_X11_clear_400; omega)
          obtain ⟨x23, ex23⟩ : ∃ y : Int32, y = y7 + 1 := ⟨_, rfl⟩
          have hG := bnd_use ex23 hG
          refine lv_iinc (v := x23) (lv' := [(7, .int x23), (0, .ref (ad 400)), (1, .int gg), (2, .int y2), (3, .int y3), (4, .int y4), (5, .int y5), (6, .int y6)]) hx hb d_X11_clear_71 hl (k := 7) rfl (by rw [ex23]; rfl) (by decide) rfl (fun ls hl => ?_)
          have r24 : Rg x23 1 3 := rg_add ex23 r19 (⟨by decide, by decide⟩ : Rg 1 1 1) (by decide) (by decide)
          have s25 : x23.toInt = y7.toInt + (1 : Int32).toInt := by rw [ex23]; exact i_add (by obtain ⟨_, _⟩ := r19; obtain ⟨_, _⟩ := (⟨by decide, by decide⟩ : Rg 1 1 1); omega) (by obtain ⟨_, _⟩ := r19; obtain ⟨_, _⟩ := (⟨by decide, by decide⟩ : Rg 1 1 1); omega)
          have s25l : (1 : Int32).toInt = 1 := rfl
          refine lv_goto (tgt := 57) hx hb d_X11_clear_74 (by decide) ?_
          exact ih2 y2 y3 y4 y5 y6 x23 v20 _ _ _ (by have q_ := r_y1; obtain ⟨_, _⟩ := q_; have q_ := r_y2; obtain ⟨_, _⟩ := q_; have q_ := r_y5; obtain ⟨_, _⟩ := q_; have q_ := r_y6; obtain ⟨_, _⟩ := q_; have q_ := r19; obtain ⟨_, _⟩ := q_; have q_ := r24; obtain ⟨_, _⟩ := q_; have q_ := rg_any y3; obtain ⟨_, _⟩ := q_; have q_ := rg_any y4; obtain ⟨_, _⟩ := q_; omega) r_y1 r_y2 r_y5 r_y6 (rg_w r24 (by decide) (by decide)) hI21 hK22 (by have q_ := r_y1; obtain ⟨_, _⟩ := q_; have q_ := r_y2; obtain ⟨_, _⟩ := q_; have q_ := r_y5; obtain ⟨_, _⟩ := q_; have q_ := r_y6; obtain ⟨_, _⟩ := q_; have q_ := r19; obtain ⟨_, _⟩ := q_; have q_ := r24; obtain ⟨_, _⟩ := q_; omega) hG hw hS (lv_sub hl [1, 2, 3, 4, 5, 6, 7, 0] rfl)
      · intro y2 y3 y4 y5 y6 y7 v1 H locs ls hmu r_y1 r_y2 r_y5 r_y6 r_y7 hI1 hK1 hex hG hw hS hl
        have hG : b_X11_clear_400_80 gg (g_X11_clear_400_44 gg n) (g_X11_clear_400_80 gg n) y2 y3 y4 y5 y6 y7 v1 = RR := hG
        unfold b_X11_clear_400_80 at hG
        refine lv_iload hx hb d_X11_clear_80 (lv_at hl 7 rfl) ?_
        refine lv_iload_n hx hb d_X11_clear_82 rfl (lv_at hl 2 rfl) ?_
        refine lv_icmp_ge (tgt := 117) hx hb d_X11_clear_83 (by decide) (fun c26 => ?_) (fun c26 => ?_)
        · have f27 := i_le c26
          have hG := g_pos c26 hG
          refine lv_aload_n hx hb d_X11_clear_117 rfl (lv_at hl 0 rfl) ?_
          refine r_getr (r := 462) X hw FL_X11_145 (rfl : KD 400 = _) rfl d_X11_clear_118 ?_
          refine lv_iconst (v := 0) hx hb d_X11_clear_121 (by decide) ?_
          refine r_iald X hw (rfl : KD 462 = _) (Rg.vp (b := 0) (⟨by decide, by decide⟩ : Rg 0 0 0) (by decide)) rfl d_X11_clear_122 ?_
          refine lv_topi (fun x28 ex28 => ?_)
          have hG := bnd_use ex28 hG
          refine lv_aload_n hx hb d_X11_clear_123 rfl (lv_at hl 0 rfl) ?_
          refine r_getr (r := 462) X hw FL_X11_145 (rfl : KD 400 = _) rfl d_X11_clear_124 ?_
          refine lv_iconst (v := 1) hx hb d_X11_clear_127 (by decide) ?_
          refine r_iald X hw (rfl : KD 462 = _) (Rg.vp (b := 1) (rg_w (⟨by decide, by decide⟩ : Rg 1 1 1) (by decide) (by decide)) (by decide)) rfl d_X11_clear_128 ?_
          refine lv_topi (fun x29 ex29 => ?_)
          have hG := bnd_use ex29 hG
          refine lv_icmp_le (tgt := 141) hx hb d_X11_clear_129 (by decide) (fun c30 => ?_) (fun c30 => ?_)
          · have f31 := i_le c30
            have hG := g_pos c30 hG
            refine lv_aload_n hx hb d_X11_clear_141 rfl (lv_at hl 0 rfl) ?_
            refine r_getr (r := 462) X hw FL_X11_145 (rfl : KD 400 = _) rfl d_X11_clear_142 ?_
            refine lv_iconst (v := 1) hx hb d_X11_clear_145 (by decide) ?_
            refine r_iald X hw (rfl : KD 462 = _) (Rg.vp (b := 1) (rg_w (⟨by decide, by decide⟩ : Rg 1 1 1) (by decide) (by decide)) (by decide)) rfl d_X11_clear_146 ?_
            refine lv_topi (fun x32 ex32 => ?_)
            have hG := bnd_use ex32 hG
            refine lv_istore (lv' := [(7, .int x32), (0, .ref (ad 400)), (1, .int gg), (2, .int y2), (3, .int y3), (4, .int y4), (5, .int y5), (6, .int y6)]) hx hb d_X11_clear_147 hl (by decide) rfl (fun ls hl => ?_)
            refine lv_iload hx hb d_X11_clear_149 (lv_at hl 0 rfl) ?_
            refine lv_aload_n hx hb d_X11_clear_151 rfl (lv_at hl 1 rfl) ?_
            refine r_getr (r := 462) X hw FL_X11_145 (rfl : KD 400 = _) rfl d_X11_clear_152 ?_
            refine lv_iconst (v := 2) hx hb d_X11_clear_155 (by decide) ?_
            refine r_iald X hw (rfl : KD 462 = _) (Rg.vp (b := 2) (rg_w (⟨by decide, by decide⟩ : Rg 2 2 2) (by decide) (by decide)) (by decide)) rfl d_X11_clear_156 ?_
            refine lv_topi (fun x33 ex33 => ?_)
            have hG := bnd_use ex33 hG
            refine lv_icmp_le (tgt := 165) hx hb d_X11_clear_157 (by decide) (fun c34 => ?_) (fun c34 => ?_)
            · have f35 := i_le c34
              have hG := g_pos c34 hG
              refine lv_aload_n hx hb d_X11_clear_165 rfl (lv_at hl 1 rfl) ?_
              refine r_getr (r := 462) X hw FL_X11_145 (rfl : KD 400 = _) rfl d_X11_clear_166 ?_
              refine lv_iconst (v := 2) hx hb d_X11_clear_169 (by decide) ?_
              refine r_iald X hw (rfl : KD 462 = _) (Rg.vp (b := 2) (rg_w (⟨by decide, by decide⟩ : Rg 2 2 2) (by decide) (by decide)) (by decide)) rfl d_X11_clear_170 ?_
              refine lv_topi (fun x36 ex36 => ?_)
              have hG := bnd_use ex36 hG
              refine lv_istore (lv' := [(7, .int x36), (0, .ref (ad 400)), (1, .int gg), (2, .int y2), (3, .int y3), (4, .int y4), (5, .int y5), (6, .int y6)]) hx hb d_X11_clear_171 hl (by decide) rfl (fun ls hl => ?_)
              refine lv_iload hx hb d_X11_clear_173 (lv_at hl 5 rfl) ?_
              refine lv_if_lt (tgt := 185) hx hb d_X11_clear_175 (by decide) (fun c37 => ?_) (fun c37 => ?_)
              · have f38 := i_lt c37
                have r39 : Rg y4 (-2147483648) (-1) := by obtain ⟨a1, a2⟩ := (rg_any y4); obtain ⟨b1, b2⟩ := (⟨by decide, by decide⟩ : Rg 0 0 0); have f := i_lt c37; exact ⟨by omega, by omega⟩
                have hG := g_pos c37 hG
                refine lv_iload hx hb d_X11_clear_185 (lv_at hl 0 rfl) ?_
                refine lv_goto (tgt := 192) hx hb d_X11_clear_187 (by decide) ?_
                refine lv_istore (lv' := [(4, .int x36), (7, .int x36), (0, .ref (ad 400)), (1, .int gg), (2, .int y2), (3, .int y3), (5, .int y5), (6, .int y6)]) hx hb d_X11_clear_192 hl (by decide) rfl (fun ls hl => ?_)
                have r40 : Rg y5 0 2147483646 := by obtain ⟨_, _⟩ := r_y5; obtain ⟨_, _⟩ := rg_any y3; exact ⟨by omega, by omega⟩
                obtain ⟨x41, ex41⟩ : ∃ y : Int32, y = y5 + 1 := ⟨_, rfl⟩
                have hG := bnd_use ex41 hG
                refine lv_iinc (v := x41) (lv' := [(5, .int x41), (4, .int x36), (7, .int x36), (0, .ref (ad 400)), (1, .int gg), (2, .int y2), (3, .int y3), (6, .int y6)]) hx hb d_X11_clear_194 hl (k := 6) rfl (by rw [ex41]; rfl) (by decide) rfl (fun ls hl => ?_)
                have r42 : Rg x41 1 2147483647 := rg_add ex41 r40 (⟨by decide, by decide⟩ : Rg 1 1 1) (by decide) (by decide)
                have s43 : x41.toInt = y5.toInt + (1 : Int32).toInt := by rw [ex41]; exact i_add (by obtain ⟨_, _⟩ := r40; obtain ⟨_, _⟩ := (⟨by decide, by decide⟩ : Rg 1 1 1); omega) (by obtain ⟨_, _⟩ := r40; obtain ⟨_, _⟩ := (⟨by decide, by decide⟩ : Rg 1 1 1); omega)
                have s43l : (1 : Int32).toInt = 1 := rfl
                refine lv_goto (tgt := 44) hx hb d_X11_clear_197 (by decide) ?_
                exact ih1 y2 y3 x36 x41 v1 _ _ _ (by have q_ := r_y1; obtain ⟨_, _⟩ := q_; have q_ := r_y2; obtain ⟨_, _⟩ := q_; have q_ := r40; obtain ⟨_, _⟩ := q_; have q_ := r_y6; obtain ⟨_, _⟩ := q_; have q_ := r_y7; obtain ⟨_, _⟩ := q_; have q_ := r39; obtain ⟨_, _⟩ := q_; have q_ := r42; obtain ⟨_, _⟩ := q_; have q_ := rg_any y3; obtain ⟨_, _⟩ := q_; have q_ := rg_any x36; obtain ⟨_, _⟩ := q_; omega) r_y1 r_y2 (rg_w r42 (by decide) (by decide)) hI1 hK1 hG hw hS (lv_sub hl [3, 4, 5, 6, 1, 0] rfl)
              · have f44 := i_nlt c37
                have r45 : Rg y4 0 2147483647 := by obtain ⟨a1, a2⟩ := (rg_any y4); obtain ⟨b1, b2⟩ := (⟨by decide, by decide⟩ : Rg 0 0 0); have f := i_nlt c37; exact ⟨by omega, by omega⟩
                have hG := g_neg c37 hG
                refine lv_iload hx hb d_X11_clear_178 (lv_at hl 0 rfl) ?_
                refine lv_iload hx hb d_X11_clear_180 (lv_at hl 5 rfl) ?_
                refine lv_icmp_ge (tgt := 190) hx hb d_X11_clear_182 (by decide) (fun c46 => ?_) (fun c46 => ?_)
                · have f47 := i_le c46
                  have r48 : Rg x36 0 2147483647 := by obtain ⟨a1, a2⟩ := (rg_any x36); obtain ⟨b1, b2⟩ := r45; have f := i_le c46; exact ⟨by omega, by omega⟩
                  have hG := g_pos c46 hG
                  refine lv_iload hx hb d_X11_clear_190 (lv_at hl 5 rfl) ?_
                  refine lv_istore (lv' := [(4, .int y4), (7, .int x36), (0, .ref (ad 400)), (1, .int gg), (2, .int y2), (3, .int y3), (5, .int y5), (6, .int y6)]) hx hb d_X11_clear_192 hl (by decide) rfl (fun ls hl => ?_)
                  have r49 : Rg y5 0 2147483646 := by obtain ⟨_, _⟩ := r_y5; obtain ⟨_, _⟩ := rg_any y3; exact ⟨by omega, by omega⟩
                  obtain ⟨x50, ex50⟩ : ∃ y : Int32, y = y5 + 1 := ⟨_, rfl⟩
                  have hG := bnd_use ex50 hG
                  refine lv_iinc (v := x50) (lv' := [(5, .int x50), (4, .int y4), (7, .int x36), (0, .ref (ad 400)), (1, .int gg), (2, .int y2), (3, .int y3), (6, .int y6)]) hx hb d_X11_clear_194 hl (k := 6) rfl (by rw [ex50]; rfl) (by decide) rfl (fun ls hl => ?_)
                  have r51 : Rg x50 1 2147483647 := rg_add ex50 r49 (⟨by decide, by decide⟩ : Rg 1 1 1) (by decide) (by decide)
                  have s52 : x50.toInt = y5.toInt + (1 : Int32).toInt := by rw [ex50]; exact i_add (by obtain ⟨_, _⟩ := r49; obtain ⟨_, _⟩ := (⟨by decide, by decide⟩ : Rg 1 1 1); omega) (by obtain ⟨_, _⟩ := r49; obtain ⟨_, _⟩ := (⟨by decide, by decide⟩ : Rg 1 1 1); omega)
                  have s52l : (1 : Int32).toInt = 1 := rfl
                  refine lv_goto (tgt := 44) hx hb d_X11_clear_197 (by decide) ?_
                  exact ih1 y2 y3 y4 x50 v1 _ _ _ (by have q_ := r_y1; obtain ⟨_, _⟩ := q_; have q_ := r_y2; obtain ⟨_, _⟩ := q_; have q_ := r49; obtain ⟨_, _⟩ := q_; have q_ := r_y6; obtain ⟨_, _⟩ := q_; have q_ := r_y7; obtain ⟨_, _⟩ := q_; have q_ := r45; obtain ⟨_, _⟩ := q_; have q_ := r48; obtain ⟨_, _⟩ := q_; have q_ := r51; obtain ⟨_, _⟩ := q_; have q_ := rg_any y3; obtain ⟨_, _⟩ := q_; omega) r_y1 r_y2 (rg_w r51 (by decide) (by decide)) hI1 hK1 hG hw hS (lv_sub hl [3, 4, 5, 6, 1, 0] rfl)
                · have f53 := i_nle c46
                  have r54 : Rg x36 (-2147483648) 2147483646 := by obtain ⟨a1, a2⟩ := (rg_any x36); obtain ⟨b1, b2⟩ := r45; have f := i_nle c46; exact ⟨by omega, by omega⟩
                  have hG := g_neg c46 hG
                  refine lv_iload hx hb d_X11_clear_185 (lv_at hl 0 rfl) ?_
                  refine lv_goto (tgt := 192) hx hb d_X11_clear_187 (by decide) ?_
                  refine lv_istore (lv' := [(4, .int x36), (7, .int x36), (0, .ref (ad 400)), (1, .int gg), (2, .int y2), (3, .int y3), (5, .int y5), (6, .int y6)]) hx hb d_X11_clear_192 hl (by decide) rfl (fun ls hl => ?_)
                  have r55 : Rg y5 0 2147483646 := by obtain ⟨_, _⟩ := r_y5; obtain ⟨_, _⟩ := rg_any y3; exact ⟨by omega, by omega⟩
                  obtain ⟨x56, ex56⟩ : ∃ y : Int32, y = y5 + 1 := ⟨_, rfl⟩
                  have hG := bnd_use ex56 hG
                  refine lv_iinc (v := x56) (lv' := [(5, .int x56), (4, .int x36), (7, .int x36), (0, .ref (ad 400)), (1, .int gg), (2, .int y2), (3, .int y3), (6, .int y6)]) hx hb d_X11_clear_194 hl (k := 6) rfl (by rw [ex56]; rfl) (by decide) rfl (fun ls hl => ?_)
                  have r57 : Rg x56 1 2147483647 := rg_add ex56 r55 (⟨by decide, by decide⟩ : Rg 1 1 1) (by decide) (by decide)
                  have s58 : x56.toInt = y5.toInt + (1 : Int32).toInt := by rw [ex56]; exact i_add (by obtain ⟨_, _⟩ := r55; obtain ⟨_, _⟩ := (⟨by decide, by decide⟩ : Rg 1 1 1); omega) (by obtain ⟨_, _⟩ := r55; obtain ⟨_, _⟩ := (⟨by decide, by decide⟩ : Rg 1 1 1); omega)
                  have s58l : (1 : Int32).toInt = 1 := rfl
                  refine lv_goto (tgt := 44) hx hb d_X11_clear_197 (by decide) ?_
                  exact ih1 y2 y3 x36 x56 v1 _ _ _ (by have q_ := r_y1; obtain ⟨_, _⟩ := q_; have q_ := r_y2; obtain ⟨_, _⟩ := q_; have q_ := r55; obtain ⟨_, _⟩ := q_; have q_ := r_y6; obtain ⟨_, _⟩ := q_; have q_ := r_y7; obtain ⟨_, _⟩ := q_; have q_ := r45; obtain ⟨_, _⟩ := q_; have q_ := r54; obtain ⟨_, _⟩ := q_; have q_ := r57; obtain ⟨_, _⟩ := q_; have q_ := rg_any y3; obtain ⟨_, _⟩ := q_; omega) r_y1 r_y2 (rg_w r57 (by decide) (by decide)) hI1 hK1 hG hw hS (lv_sub hl [3, 4, 5, 6, 1, 0] rfl)
            · have f59 := i_nle c34
              have hG := g_neg c34 hG
              refine lv_iload hx hb d_X11_clear_160 (lv_at hl 0 rfl) ?_
              refine lv_goto (tgt := 171) hx hb d_X11_clear_162 (by decide) ?_
              refine lv_istore (lv' := [(7, .int x32), (0, .ref (ad 400)), (1, .int gg), (2, .int y2), (3, .int y3), (4, .int y4), (5, .int y5), (6, .int y6)]) hx hb d_X11_clear_171 hl (by decide) rfl (fun ls hl => ?_)
              refine lv_iload hx hb d_X11_clear_173 (lv_at hl 5 rfl) ?_
              refine lv_if_lt (tgt := 185) hx hb d_X11_clear_175 (by decide) (fun c60 => ?_) (fun c60 => ?_)
              · have f61 := i_lt c60
                have r62 : Rg y4 (-2147483648) (-1) := by obtain ⟨a1, a2⟩ := (rg_any y4); obtain ⟨b1, b2⟩ := (⟨by decide, by decide⟩ : Rg 0 0 0); have f := i_lt c60; exact ⟨by omega, by omega⟩
                have hG := g_pos c60 hG
                refine lv_iload hx hb d_X11_clear_185 (lv_at hl 0 rfl) ?_
                refine lv_goto (tgt := 192) hx hb d_X11_clear_187 (by decide) ?_
                refine lv_istore (lv' := [(4, .int x32), (7, .int x32), (0, .ref (ad 400)), (1, .int gg), (2, .int y2), (3, .int y3), (5, .int y5), (6, .int y6)]) hx hb d_X11_clear_192 hl (by decide) rfl (fun ls hl => ?_)
                have r63 : Rg y5 0 2147483646 := by obtain ⟨_, _⟩ := r_y5; obtain ⟨_, _⟩ := rg_any y3; exact ⟨by omega, by omega⟩
                obtain ⟨x64, ex64⟩ : ∃ y : Int32, y = y5 + 1 := ⟨_, rfl⟩
                have hG := bnd_use ex64 hG
                refine lv_iinc (v := x64) (lv' := [(5, .int x64), (4, .int x32), (7, .int x32), (0, .ref (ad 400)), (1, .int gg), (2, .int y2), (3, .int y3), (6, .int y6)]) hx hb d_X11_clear_194 hl (k := 6) rfl (by rw [ex64]; rfl) (by decide) rfl (fun ls hl => ?_)
                have r65 : Rg x64 1 2147483647 := rg_add ex64 r63 (⟨by decide, by decide⟩ : Rg 1 1 1) (by decide) (by decide)
                have s66 : x64.toInt = y5.toInt + (1 : Int32).toInt := by rw [ex64]; exact i_add (by obtain ⟨_, _⟩ := r63; obtain ⟨_, _⟩ := (⟨by decide, by decide⟩ : Rg 1 1 1); omega) (by obtain ⟨_, _⟩ := r63; obtain ⟨_, _⟩ := (⟨by decide, by decide⟩ : Rg 1 1 1); omega)
                have s66l : (1 : Int32).toInt = 1 := rfl
                refine lv_goto (tgt := 44) hx hb d_X11_clear_197 (by decide) ?_
                exact ih1 y2 y3 x32 x64 v1 _ _ _ (by have q_ := r_y1; obtain ⟨_, _⟩ := q_; have q_ := r_y2; obtain ⟨_, _⟩ := q_; have q_ := r63; obtain ⟨_, _⟩ := q_; have q_ := r_y6; obtain ⟨_, _⟩ := q_; have q_ := r_y7; obtain ⟨_, _⟩ := q_; have q_ := r62; obtain ⟨_, _⟩ := q_; have q_ := r65; obtain ⟨_, _⟩ := q_; have q_ := rg_any y3; obtain ⟨_, _⟩ := q_; have q_ := rg_any x32; obtain ⟨_, _⟩ := q_; omega) r_y1 r_y2 (rg_w r65 (by decide) (by decide)) hI1 hK1 hG hw hS (lv_sub hl [3, 4, 5, 6, 1, 0] rfl)
              · have f67 := i_nlt c60
                have r68 : Rg y4 0 2147483647 := by obtain ⟨a1, a2⟩ := (rg_any y4); obtain ⟨b1, b2⟩ := (⟨by decide, by decide⟩ : Rg 0 0 0); have f := i_nlt c60; exact ⟨by omega, by omega⟩
                have hG := g_neg c60 hG
                refine lv_iload hx hb d_X11_clear_178 (lv_at hl 0 rfl) ?_
                refine lv_iload hx hb d_X11_clear_180 (lv_at hl 5 rfl) ?_
                refine lv_icmp_ge (tgt := 190) hx hb d_X11_clear_182 (by decide) (fun c69 => ?_) (fun c69 => ?_)
                · have f70 := i_le c69
                  have r71 : Rg x32 0 2147483647 := by obtain ⟨a1, a2⟩ := (rg_any x32); obtain ⟨b1, b2⟩ := r68; have f := i_le c69; exact ⟨by omega, by omega⟩
                  have hG := g_pos c69 hG
                  refine lv_iload hx hb d_X11_clear_190 (lv_at hl 5 rfl) ?_
                  refine lv_istore (lv' := [(4, .int y4), (7, .int x32), (0, .ref (ad 400)), (1, .int gg), (2, .int y2), (3, .int y3), (5, .int y5), (6, .int y6)]) hx hb d_X11_clear_192 hl (by decide) rfl (fun ls hl => ?_)
                  have r72 : Rg y5 0 2147483646 := by obtain ⟨_, _⟩ := r_y5; obtain ⟨_, _⟩ := rg_any y3; exact ⟨by omega, by omega⟩
                  obtain ⟨x73, ex73⟩ : ∃ y : Int32, y = y5 + 1 := ⟨_, rfl⟩
                  have hG := bnd_use ex73 hG
                  refine lv_iinc (v := x73) (lv' := [(5, .int x73), (4, .int y4), (7, .int x32), (0, .ref (ad 400)), (1, .int gg), (2, .int y2), (3, .int y3), (6, .int y6)]) hx hb d_X11_clear_194 hl (k := 6) rfl (by rw [ex73]; rfl) (by decide) rfl (fun ls hl => ?_)
                  have r74 : Rg x73 1 2147483647 := rg_add ex73 r72 (⟨by decide, by decide⟩ : Rg 1 1 1) (by decide) (by decide)
                  have s75 : x73.toInt = y5.toInt + (1 : Int32).toInt := by rw [ex73]; exact i_add (by obtain ⟨_, _⟩ := r72; obtain ⟨_, _⟩ := (⟨by decide, by decide⟩ : Rg 1 1 1); omega) (by obtain ⟨_, _⟩ := r72; obtain ⟨_, _⟩ := (⟨by decide, by decide⟩ : Rg 1 1 1); omega)
                  have s75l : (1 : Int32).toInt = 1 := rfl
                  refine lv_goto (tgt := 44) hx hb d_X11_clear_197 (by decide) ?_
                  exact ih1 y2 y3 y4 x73 v1 _ _ _ (by have q_ := r_y1; obtain ⟨_, _⟩ := q_; have q_ := r_y2; obtain ⟨_, _⟩ := q_; have q_ := r72; obtain ⟨_, _⟩ := q_; have q_ := r_y6; obtain ⟨_, _⟩ := q_; have q_ := r_y7; obtain ⟨_, _⟩ := q_; have q_ := r68; obtain ⟨_, _⟩ := q_; have q_ := r71; obtain ⟨_, _⟩ := q_; have q_ := r74; obtain ⟨_, _⟩ := q_; have q_ := rg_any y3; obtain ⟨_, _⟩ := q_; omega) r_y1 r_y2 (rg_w r74 (by decide) (by decide)) hI1 hK1 hG hw hS (lv_sub hl [3, 4, 5, 6, 1, 0] rfl)
                · have f76 := i_nle c69
                  have r77 : Rg x32 (-2147483648) 2147483646 := by obtain ⟨a1, a2⟩ := (rg_any x32); obtain ⟨b1, b2⟩ := r68; have f := i_nle c69; exact ⟨by omega, by omega⟩
                  have hG := g_neg c69 hG
                  refine lv_iload hx hb d_X11_clear_185 (lv_at hl 0 rfl) ?_
                  refine lv_goto (tgt := 192) hx hb d_X11_clear_187 (by decide) ?_
                  refine lv_istore (lv' := [(4, .int x32), (7, .int x32), (0, .ref (ad 400)), (1, .int gg), (2, .int y2), (3, .int y3), (5, .int y5), (6, .int y6)]) hx hb d_X11_clear_192 hl (by decide) rfl (fun ls hl => ?_)
                  have r78 : Rg y5 0 2147483646 := by obtain ⟨_, _⟩ := r_y5; obtain ⟨_, _⟩ := rg_any y3; exact ⟨by omega, by omega⟩
                  obtain ⟨x79, ex79⟩ : ∃ y : Int32, y = y5 + 1 := ⟨_, rfl⟩
                  have hG := bnd_use ex79 hG
                  refine lv_iinc (v := x79) (lv' := [(5, .int x79), (4, .int x32), (7, .int x32), (0, .ref (ad 400)), (1, .int gg), (2, .int y2), (3, .int y3), (6, .int y6)]) hx hb d_X11_clear_194 hl (k := 6) rfl (by rw [ex79]; rfl) (by decide) rfl (fun ls hl => ?_)
                  have r80 : Rg x79 1 2147483647 := rg_add ex79 r78 (⟨by decide, by decide⟩ : Rg 1 1 1) (by decide) (by decide)
                  have s81 : x79.toInt = y5.toInt + (1 : Int32).toInt := by rw [ex79]; exact i_add (by obtain ⟨_, _⟩ := r78; obtain ⟨_, _⟩ := (⟨by decide, by decide⟩ : Rg 1 1 1); omega) (by obtain ⟨_, _⟩ := r78; obtain ⟨_, _⟩ := (⟨by decide, by decide⟩ : Rg 1 1 1); omega)
                  have s81l : (1 : Int32).toInt = 1 := rfl
                  refine lv_goto (tgt := 44) hx hb d_X11_clear_197 (by decide) ?_
                  exact ih1 y2 y3 x32 x79 v1 _ _ _ (by have q_ := r_y1; obtain ⟨_, _⟩ := q_; have q_ := r_y2; obtain ⟨_, _⟩ := q_; have q_ := r78; obtain ⟨_, _⟩ := q_; have q_ := r_y6; obtain ⟨_, _⟩ := q_; have q_ := r_y7; obtain ⟨_, _⟩ := q_; have q_ := r68; obtain ⟨_, _⟩ := q_; have q_ := r77; obtain ⟨_, _⟩ := q_; have q_ := r80; obtain ⟨_, _⟩ := q_; have q_ := rg_any y3; obtain ⟨_, _⟩ := q_; omega) r_y1 r_y2 (rg_w r80 (by decide) (by decide)) hI1 hK1 hG hw hS (lv_sub hl [3, 4, 5, 6, 1, 0] rfl)
          · have f82 := i_nle c30
            have hG := g_neg c30 hG
            refine lv_aload_n hx hb d_X11_clear_132 rfl (lv_at hl 0 rfl) ?_
            refine r_getr (r := 462) X hw FL_X11_145 (rfl : KD 400 = _) rfl d_X11_clear_133 ?_
            refine lv_iconst (v := 0) hx hb d_X11_clear_136 (by decide) ?_
            refine r_iald X hw (rfl : KD 462 = _) (Rg.vp (b := 0) (⟨by decide, by decide⟩ : Rg 0 0 0) (by decide)) rfl d_X11_clear_137 ?_
            refine lv_topi (fun x83 ex83 => ?_)
            have hG := bnd_use ex83 hG
            refine lv_goto (tgt := 147) hx hb d_X11_clear_138 (by decide) ?_
            refine lv_istore (lv' := [(7, .int x83), (0, .ref (ad 400)), (1, .int gg), (2, .int y2), (3, .int y3), (4, .int y4), (5, .int y5), (6, .int y6)]) hx hb d_X11_clear_147 hl (by decide) rfl (fun ls hl => ?_)
            refine lv_iload hx hb d_X11_clear_149 (lv_at hl 0 rfl) ?_
            refine lv_aload_n hx hb d_X11_clear_151 rfl (lv_at hl 1 rfl) ?_
            refine r_getr (r := 462) X hw FL_X11_145 (rfl : KD 400 = _) rfl d_X11_clear_152 ?_
            refine lv_iconst (v := 2) hx hb d_X11_clear_155 (by decide) ?_
            refine r_iald X hw (rfl : KD 462 = _) (Rg.vp (b := 2) (rg_w (⟨by decide, by decide⟩ : Rg 2 2 2) (by decide) (by decide)) (by decide)) rfl d_X11_clear_156 ?_
            refine lv_topi (fun x84 ex84 => ?_)
            have hG := bnd_use ex84 hG
            refine lv_icmp_le (tgt := 165) hx hb d_X11_clear_157 (by decide) (fun c85 => ?_) (fun c85 => ?_)
            · have f86 := i_le c85
              have hG := g_pos c85 hG
              refine lv_aload_n hx hb d_X11_clear_165 rfl (lv_at hl 1 rfl) ?_
              refine r_getr (r := 462) X hw FL_X11_145 (rfl : KD 400 = _) rfl d_X11_clear_166 ?_
              refine lv_iconst (v := 2) hx hb d_X11_clear_169 (by decide) ?_
              refine r_iald X hw (rfl : KD 462 = _) (Rg.vp (b := 2) (rg_w (⟨by decide, by decide⟩ : Rg 2 2 2) (by decide) (by decide)) (by decide)) rfl d_X11_clear_170 ?_
              refine lv_topi (fun x87 ex87 => ?_)
              have hG := bnd_use ex87 hG
              refine lv_istore (lv' := [(7, .int x87), (0, .ref (ad 400)), (1, .int gg), (2, .int y2), (3, .int y3), (4, .int y4), (5, .int y5), (6, .int y6)]) hx hb d_X11_clear_171 hl (by decide) rfl (fun ls hl => ?_)
              refine lv_iload hx hb d_X11_clear_173 (lv_at hl 5 rfl) ?_
              refine lv_if_lt (tgt := 185) hx hb d_X11_clear_175 (by decide) (fun c88 => ?_) (fun c88 => ?_)
              · have f89 := i_lt c88
                have r90 : Rg y4 (-2147483648) (-1) := by obtain ⟨a1, a2⟩ := (rg_any y4); obtain ⟨b1, b2⟩ := (⟨by decide, by decide⟩ : Rg 0 0 0); have f := i_lt c88; exact ⟨by omega, by omega⟩
                have hG := g_pos c88 hG
                refine lv_iload hx hb d_X11_clear_185 (lv_at hl 0 rfl) ?_
                refine lv_goto (tgt := 192) hx hb d_X11_clear_187 (by decide) ?_
                refine lv_istore (lv' := [(4, .int x87), (7, .int x87), (0, .ref (ad 400)), (1, .int gg), (2, .int y2), (3, .int y3), (5, .int y5), (6, .int y6)]) hx hb d_X11_clear_192 hl (by decide) rfl (fun ls hl => ?_)
                have r91 : Rg y5 0 2147483646 := by obtain ⟨_, _⟩ := r_y5; obtain ⟨_, _⟩ := rg_any y3; exact ⟨by omega, by omega⟩
                obtain ⟨x92, ex92⟩ : ∃ y : Int32, y = y5 + 1 := ⟨_, rfl⟩
                have hG := bnd_use ex92 hG
                refine lv_iinc (v := x92) (lv' := [(5, .int x92), (4, .int x87), (7, .int x87), (0, .ref (ad 400)), (1, .int gg), (2, .int y2), (3, .int y3), (6, .int y6)]) hx hb d_X11_clear_194 hl (k := 6) rfl (by rw [ex92]; rfl) (by decide) rfl (fun ls hl => ?_)
                have r93 : Rg x92 1 2147483647 := rg_add ex92 r91 (⟨by decide, by decide⟩ : Rg 1 1 1) (by decide) (by decide)
                have s94 : x92.toInt = y5.toInt + (1 : Int32).toInt := by rw [ex92]; exact i_add (by obtain ⟨_, _⟩ := r91; obtain ⟨_, _⟩ := (⟨by decide, by decide⟩ : Rg 1 1 1); omega) (by obtain ⟨_, _⟩ := r91; obtain ⟨_, _⟩ := (⟨by decide, by decide⟩ : Rg 1 1 1); omega)
                have s94l : (1 : Int32).toInt = 1 := rfl
                refine lv_goto (tgt := 44) hx hb d_X11_clear_197 (by decide) ?_
                exact ih1 y2 y3 x87 x92 v1 _ _ _ (by have q_ := r_y1; obtain ⟨_, _⟩ := q_; have q_ := r_y2; obtain ⟨_, _⟩ := q_; have q_ := r91; obtain ⟨_, _⟩ := q_; have q_ := r_y6; obtain ⟨_, _⟩ := q_; have q_ := r_y7; obtain ⟨_, _⟩ := q_; have q_ := r90; obtain ⟨_, _⟩ := q_; have q_ := r93; obtain ⟨_, _⟩ := q_; have q_ := rg_any y3; obtain ⟨_, _⟩ := q_; have q_ := rg_any x87; obtain ⟨_, _⟩ := q_; omega) r_y1 r_y2 (rg_w r93 (by decide) (by decide)) hI1 hK1 hG hw hS (lv_sub hl [3, 4, 5, 6, 1, 0] rfl)
              · have f95 := i_nlt c88
                have r96 : Rg y4 0 2147483647 := by obtain ⟨a1, a2⟩ := (rg_any y4); obtain ⟨b1, b2⟩ := (⟨by decide, by decide⟩ : Rg 0 0 0); have f := i_nlt c88; exact ⟨by omega, by omega⟩
                have hG := g_neg c88 hG
                refine lv_iload hx hb d_X11_clear_178 (lv_at hl 0 rfl) ?_
                refine lv_iload hx hb d_X11_clear_180 (lv_at hl 5 rfl) ?_
                refine lv_icmp_ge (tgt := 190) hx hb d_X11_clear_182 (by decide) (fun c97 => ?_) (fun c97 => ?_)
                · have f98 := i_le c97
                  have r99 : Rg x87 0 2147483647 := by obtain ⟨a1, a2⟩ := (rg_any x87); obtain ⟨b1, b2⟩ := r96; have f := i_le c97; exact ⟨by omega, by omega⟩
                  have hG := g_pos c97 hG
                  refine lv_iload hx hb d_X11_clear_190 (lv_at hl 5 rfl) ?_
                  refine lv_istore (lv' := [(4, .int y4), (7, .int x87), (0, .ref (ad 400)), (1, .int gg), (2, .int y2), (3, .int y3), (5, .int y5), (6, .int y6)]) hx hb d_X11_clear_192 hl (by decide) rfl (fun ls hl => ?_)
                  have r100 : Rg y5 0 2147483646 := by obtain ⟨_, _⟩ := r_y5; obtain ⟨_, _⟩ := rg_any y3; exact ⟨by omega, by omega⟩
                  obtain ⟨x101, ex101⟩ : ∃ y : Int32, y = y5 + 1 := ⟨_, rfl⟩
                  have hG := bnd_use ex101 hG
                  refine lv_iinc (v := x101) (lv' := [(5, .int x101), (4, .int y4), (7, .int x87), (0, .ref (ad 400)), (1, .int gg), (2, .int y2), (3, .int y3), (6, .int y6)]) hx hb d_X11_clear_194 hl (k := 6) rfl (by rw [ex101]; rfl) (by decide) rfl (fun ls hl => ?_)
                  have r102 : Rg x101 1 2147483647 := rg_add ex101 r100 (⟨by decide, by decide⟩ : Rg 1 1 1) (by decide) (by decide)
                  have s103 : x101.toInt = y5.toInt + (1 : Int32).toInt := by rw [ex101]; exact i_add (by obtain ⟨_, _⟩ := r100; obtain ⟨_, _⟩ := (⟨by decide, by decide⟩ : Rg 1 1 1); omega) (by obtain ⟨_, _⟩ := r100; obtain ⟨_, _⟩ := (⟨by decide, by decide⟩ : Rg 1 1 1); omega)
                  have s103l : (1 : Int32).toInt = 1 := rfl
                  refine lv_goto (tgt := 44) hx hb d_X11_clear_197 (by decide) ?_
                  exact ih1 y2 y3 y4 x101 v1 _ _ _ (by have q_ := r_y1; obtain ⟨_, _⟩ := q_; have q_ := r_y2; obtain ⟨_, _⟩ := q_; have q_ := r100; obtain ⟨_, _⟩ := q_; have q_ := r_y6; obtain ⟨_, _⟩ := q_; have q_ := r_y7; obtain ⟨_, _⟩ := q_; have q_ := r96; obtain ⟨_, _⟩ := q_; have q_ := r99; obtain ⟨_, _⟩ := q_; have q_ := r102; obtain ⟨_, _⟩ := q_; have q_ := rg_any y3; obtain ⟨_, _⟩ := q_; omega) r_y1 r_y2 (rg_w r102 (by decide) (by decide)) hI1 hK1 hG hw hS (lv_sub hl [3, 4, 5, 6, 1, 0] rfl)
                · have f104 := i_nle c97
                  have r105 : Rg x87 (-2147483648) 2147483646 := by obtain ⟨a1, a2⟩ := (rg_any x87); obtain ⟨b1, b2⟩ := r96; have f := i_nle c97; exact ⟨by omega, by omega⟩
                  have hG := g_neg c97 hG
                  refine lv_iload hx hb d_X11_clear_185 (lv_at hl 0 rfl) ?_
                  refine lv_goto (tgt := 192) hx hb d_X11_clear_187 (by decide) ?_
                  refine lv_istore (lv' := [(4, .int x87), (7, .int x87), (0, .ref (ad 400)), (1, .int gg), (2, .int y2), (3, .int y3), (5, .int y5), (6, .int y6)]) hx hb d_X11_clear_192 hl (by decide) rfl (fun ls hl => ?_)
                  have r106 : Rg y5 0 2147483646 := by obtain ⟨_, _⟩ := r_y5; obtain ⟨_, _⟩ := rg_any y3; exact ⟨by omega, by omega⟩
                  obtain ⟨x107, ex107⟩ : ∃ y : Int32, y = y5 + 1 := ⟨_, rfl⟩
                  have hG := bnd_use ex107 hG
                  refine lv_iinc (v := x107) (lv' := [(5, .int x107), (4, .int x87), (7, .int x87), (0, .ref (ad 400)), (1, .int gg), (2, .int y2), (3, .int y3), (6, .int y6)]) hx hb d_X11_clear_194 hl (k := 6) rfl (by rw [ex107]; rfl) (by decide) rfl (fun ls hl => ?_)
                  have r108 : Rg x107 1 2147483647 := rg_add ex107 r106 (⟨by decide, by decide⟩ : Rg 1 1 1) (by decide) (by decide)
                  have s109 : x107.toInt = y5.toInt + (1 : Int32).toInt := by rw [ex107]; exact i_add (by obtain ⟨_, _⟩ := r106; obtain ⟨_, _⟩ := (⟨by decide, by decide⟩ : Rg 1 1 1); omega) (by obtain ⟨_, _⟩ := r106; obtain ⟨_, _⟩ := (⟨by decide, by decide⟩ : Rg 1 1 1); omega)
                  have s109l : (1 : Int32).toInt = 1 := rfl
                  refine lv_goto (tgt := 44) hx hb d_X11_clear_197 (by decide) ?_
                  exact ih1 y2 y3 x87 x107 v1 _ _ _ (by have q_ := r_y1; obtain ⟨_, _⟩ := q_; have q_ := r_y2; obtain ⟨_, _⟩ := q_; have q_ := r106; obtain ⟨_, _⟩ := q_; have q_ := r_y6; obtain ⟨_, _⟩ := q_; have q_ := r_y7; obtain ⟨_, _⟩ := q_; have q_ := r96; obtain ⟨_, _⟩ := q_; have q_ := r105; obtain ⟨_, _⟩ := q_; have q_ := r108; obtain ⟨_, _⟩ := q_; have q_ := rg_any y3; obtain ⟨_, _⟩ := q_; omega) r_y1 r_y2 (rg_w r108 (by decide) (by decide)) hI1 hK1 hG hw hS (lv_sub hl [3, 4, 5, 6, 1, 0] rfl)
            · have f110 := i_nle c85
              have hG := g_neg c85 hG
              refine lv_iload hx hb d_X11_clear_160 (lv_at hl 0 rfl) ?_
              refine lv_goto (tgt := 171) hx hb d_X11_clear_162 (by decide) ?_
              refine lv_istore (lv' := [(7, .int x83), (0, .ref (ad 400)), (1, .int gg), (2, .int y2), (3, .int y3), (4, .int y4), (5, .int y5), (6, .int y6)]) hx hb d_X11_clear_171 hl (by decide) rfl (fun ls hl => ?_)
              refine lv_iload hx hb d_X11_clear_173 (lv_at hl 5 rfl) ?_
              refine lv_if_lt (tgt := 185) hx hb d_X11_clear_175 (by decide) (fun c111 => ?_) (fun c111 => ?_)
              · have f112 := i_lt c111
                have r113 : Rg y4 (-2147483648) (-1) := by obtain ⟨a1, a2⟩ := (rg_any y4); obtain ⟨b1, b2⟩ := (⟨by decide, by decide⟩ : Rg 0 0 0); have f := i_lt c111; exact ⟨by omega, by omega⟩
                have hG := g_pos c111 hG
                refine lv_iload hx hb d_X11_clear_185 (lv_at hl 0 rfl) ?_
                refine lv_goto (tgt := 192) hx hb d_X11_clear_187 (by decide) ?_
                refine lv_istore (lv' := [(4, .int x83), (7, .int x83), (0, .ref (ad 400)), (1, .int gg), (2, .int y2), (3, .int y3), (5, .int y5), (6, .int y6)]) hx hb d_X11_clear_192 hl (by decide) rfl (fun ls hl => ?_)
                have r114 : Rg y5 0 2147483646 := by obtain ⟨_, _⟩ := r_y5; obtain ⟨_, _⟩ := rg_any y3; exact ⟨by omega, by omega⟩
                obtain ⟨x115, ex115⟩ : ∃ y : Int32, y = y5 + 1 := ⟨_, rfl⟩
                have hG := bnd_use ex115 hG
                refine lv_iinc (v := x115) (lv' := [(5, .int x115), (4, .int x83), (7, .int x83), (0, .ref (ad 400)), (1, .int gg), (2, .int y2), (3, .int y3), (6, .int y6)]) hx hb d_X11_clear_194 hl (k := 6) rfl (by rw [ex115]; rfl) (by decide) rfl (fun ls hl => ?_)
                have r116 : Rg x115 1 2147483647 := rg_add ex115 r114 (⟨by decide, by decide⟩ : Rg 1 1 1) (by decide) (by decide)
                have s117 : x115.toInt = y5.toInt + (1 : Int32).toInt := by rw [ex115]; exact i_add (by obtain ⟨_, _⟩ := r114; obtain ⟨_, _⟩ := (⟨by decide, by decide⟩ : Rg 1 1 1); omega) (by obtain ⟨_, _⟩ := r114; obtain ⟨_, _⟩ := (⟨by decide, by decide⟩ : Rg 1 1 1); omega)
                have s117l : (1 : Int32).toInt = 1 := rfl
                refine lv_goto (tgt := 44) hx hb d_X11_clear_197 (by decide) ?_
                exact ih1 y2 y3 x83 x115 v1 _ _ _ (by have q_ := r_y1; obtain ⟨_, _⟩ := q_; have q_ := r_y2; obtain ⟨_, _⟩ := q_; have q_ := r114; obtain ⟨_, _⟩ := q_; have q_ := r_y6; obtain ⟨_, _⟩ := q_; have q_ := r_y7; obtain ⟨_, _⟩ := q_; have q_ := r113; obtain ⟨_, _⟩ := q_; have q_ := r116; obtain ⟨_, _⟩ := q_; have q_ := rg_any y3; obtain ⟨_, _⟩ := q_; have q_ := rg_any x83; obtain ⟨_, _⟩ := q_; omega) r_y1 r_y2 (rg_w r116 (by decide) (by decide)) hI1 hK1 hG hw hS (lv_sub hl [3, 4, 5, 6, 1, 0] rfl)
              · have f118 := i_nlt c111
                have r119 : Rg y4 0 2147483647 := by obtain ⟨a1, a2⟩ := (rg_any y4); obtain ⟨b1, b2⟩ := (⟨by decide, by decide⟩ : Rg 0 0 0); have f := i_nlt c111; exact ⟨by omega, by omega⟩
                have hG := g_neg c111 hG
                refine lv_iload hx hb d_X11_clear_178 (lv_at hl 0 rfl) ?_
                refine lv_iload hx hb d_X11_clear_180 (lv_at hl 5 rfl) ?_
                refine lv_icmp_ge (tgt := 190) hx hb d_X11_clear_182 (by decide) (fun c120 => ?_) (fun c120 => ?_)
                · have f121 := i_le c120
                  have r122 : Rg x83 0 2147483647 := by obtain ⟨a1, a2⟩ := (rg_any x83); obtain ⟨b1, b2⟩ := r119; have f := i_le c120; exact ⟨by omega, by omega⟩
                  have hG := g_pos c120 hG
                  refine lv_iload hx hb d_X11_clear_190 (lv_at hl 5 rfl) ?_
                  refine lv_istore (lv' := [(4, .int y4), (7, .int x83), (0, .ref (ad 400)), (1, .int gg), (2, .int y2), (3, .int y3), (5, .int y5), (6, .int y6)]) hx hb d_X11_clear_192 hl (by decide) rfl (fun ls hl => ?_)
                  have r123 : Rg y5 0 2147483646 := by obtain ⟨_, _⟩ := r_y5; obtain ⟨_, _⟩ := rg_any y3; exact ⟨by omega, by omega⟩
                  obtain ⟨x124, ex124⟩ : ∃ y : Int32, y = y5 + 1 := ⟨_, rfl⟩
                  have hG := bnd_use ex124 hG
                  refine lv_iinc (v := x124) (lv' := [(5, .int x124), (4, .int y4), (7, .int x83), (0, .ref (ad 400)), (1, .int gg), (2, .int y2), (3, .int y3), (6, .int y6)]) hx hb d_X11_clear_194 hl (k := 6) rfl (by rw [ex124]; rfl) (by decide) rfl (fun ls hl => ?_)
                  have r125 : Rg x124 1 2147483647 := rg_add ex124 r123 (⟨by decide, by decide⟩ : Rg 1 1 1) (by decide) (by decide)
                  have s126 : x124.toInt = y5.toInt + (1 : Int32).toInt := by rw [ex124]; exact i_add (by obtain ⟨_, _⟩ := r123; obtain ⟨_, _⟩ := (⟨by decide, by decide⟩ : Rg 1 1 1); omega) (by obtain ⟨_, _⟩ := r123; obtain ⟨_, _⟩ := (⟨by decide, by decide⟩ : Rg 1 1 1); omega)
                  have s126l : (1 : Int32).toInt = 1 := rfl
                  refine lv_goto (tgt := 44) hx hb d_X11_clear_197 (by decide) ?_
                  exact ih1 y2 y3 y4 x124 v1 _ _ _ (by have q_ := r_y1; obtain ⟨_, _⟩ := q_; have q_ := r_y2; obtain ⟨_, _⟩ := q_; have q_ := r123; obtain ⟨_, _⟩ := q_; have q_ := r_y6; obtain ⟨_, _⟩ := q_; have q_ := r_y7; obtain ⟨_, _⟩ := q_; have q_ := r119; obtain ⟨_, _⟩ := q_; have q_ := r122; obtain ⟨_, _⟩ := q_; have q_ := r125; obtain ⟨_, _⟩ := q_; have q_ := rg_any y3; obtain ⟨_, _⟩ := q_; omega) r_y1 r_y2 (rg_w r125 (by decide) (by decide)) hI1 hK1 hG hw hS (lv_sub hl [3, 4, 5, 6, 1, 0] rfl)
                · have f127 := i_nle c120
                  have r128 : Rg x83 (-2147483648) 2147483646 := by obtain ⟨a1, a2⟩ := (rg_any x83); obtain ⟨b1, b2⟩ := r119; have f := i_nle c120; exact ⟨by omega, by omega⟩
                  have hG := g_neg c120 hG
                  refine lv_iload hx hb d_X11_clear_185 (lv_at hl 0 rfl) ?_
                  refine lv_goto (tgt := 192) hx hb d_X11_clear_187 (by decide) ?_
                  refine lv_istore (lv' := [(4, .int x83), (7, .int x83), (0, .ref (ad 400)), (1, .int gg), (2, .int y2), (3, .int y3), (5, .int y5), (6, .int y6)]) hx hb d_X11_clear_192 hl (by decide) rfl (fun ls hl => ?_)
                  have r129 : Rg y5 0 2147483646 := by obtain ⟨_, _⟩ := r_y5; obtain ⟨_, _⟩ := rg_any y3; exact ⟨by omega, by omega⟩
                  obtain ⟨x130, ex130⟩ : ∃ y : Int32, y = y5 + 1 := ⟨_, rfl⟩
                  have hG := bnd_use ex130 hG
                  refine lv_iinc (v := x130) (lv' := [(5, .int x130), (4, .int x83), (7, .int x83), (0, .ref (ad 400)), (1, .int gg), (2, .int y2), (3, .int y3), (6, .int y6)]) hx hb d_X11_clear_194 hl (k := 6) rfl (by rw [ex130]; rfl) (by decide) rfl (fun ls hl => ?_)
                  have r131 : Rg x130 1 2147483647 := rg_add ex130 r129 (⟨by decide, by decide⟩ : Rg 1 1 1) (by decide) (by decide)
                  have s132 : x130.toInt = y5.toInt + (1 : Int32).toInt := by rw [ex130]; exact i_add (by obtain ⟨_, _⟩ := r129; obtain ⟨_, _⟩ := (⟨by decide, by decide⟩ : Rg 1 1 1); omega) (by obtain ⟨_, _⟩ := r129; obtain ⟨_, _⟩ := (⟨by decide, by decide⟩ : Rg 1 1 1); omega)
                  have s132l : (1 : Int32).toInt = 1 := rfl
                  refine lv_goto (tgt := 44) hx hb d_X11_clear_197 (by decide) ?_
                  exact ih1 y2 y3 x83 x130 v1 _ _ _ (by have q_ := r_y1; obtain ⟨_, _⟩ := q_; have q_ := r_y2; obtain ⟨_, _⟩ := q_; have q_ := r129; obtain ⟨_, _⟩ := q_; have q_ := r_y6; obtain ⟨_, _⟩ := q_; have q_ := r_y7; obtain ⟨_, _⟩ := q_; have q_ := r119; obtain ⟨_, _⟩ := q_; have q_ := r128; obtain ⟨_, _⟩ := q_; have q_ := r131; obtain ⟨_, _⟩ := q_; have q_ := rg_any y3; obtain ⟨_, _⟩ := q_; omega) r_y1 r_y2 (rg_w r131 (by decide) (by decide)) hI1 hK1 hG hw hS (lv_sub hl [3, 4, 5, 6, 1, 0] rfl)
        · have f133 := i_nle c26
          have r134 : Rg y7 0 6 := by obtain ⟨a1, a2⟩ := r_y7; obtain ⟨b1, b2⟩ := r_y2; have f := i_nle c26; exact ⟨by omega, by omega⟩
          have r135 : Rg y2 1 7 := by obtain ⟨a1, a2⟩ := r_y7; obtain ⟨b1, b2⟩ := r_y2; have f := i_nle c26; exact ⟨by omega, by omega⟩
          have hG := g_neg c26 hG
          refine lv_aload_n hx hb d_X11_clear_86 rfl (lv_at hl 0 rfl) ?_
          refine r_getr (r := 462) X hw FL_X11_145 (rfl : KD 400 = _) rfl d_X11_clear_87 ?_
          refine lv_iload hx hb d_X11_clear_90 (lv_at hl 6 rfl) ?_
          refine lv_iload_n hx hb d_X11_clear_92 rfl (lv_at hl 1 rfl) ?_
          refine lv_irem hx hb d_X11_clear_93 (by intro h; have := i_eq h; obtain ⟨b1, b2⟩ := r_y1; have z0 : (0 : Int32).toInt = 0 := rfl; omega) ?_
          refine lv_topi (fun x136 ex136 => ?_)
          have hG := bnd_use ex136 hG
          have r137 : Rg x136 0 2 := rg_rem ex136 r_y6 r_y1 (by decide) (by decide)
          refine lv_dup2_11 hx hb d_X11_clear_94 rfl rfl ?_
          refine r_iald X hw (rfl : KD 462 = _) (Rg.vp (b := 2) r137 (by decide)) rfl d_X11_clear_95 ?_
          refine lv_topi (fun x138 ex138 => ?_)
          have hG := bnd_use ex138 hG
          refine lv_aload_n hx hb d_X11_clear_96 rfl (lv_at hl 0 rfl) ?_
          refine r_getr (r := 461) X hw FL_X11_142 (rfl : KD 400 = _) rfl d_X11_clear_97 ?_
          refine lv_iload hx hb d_X11_clear_100 (lv_at hl 7 rfl) ?_
          refine r_iald X hw (rfl : KD 461 = _) (Rg.vp (b := 6) r134 (by decide)) rfl d_X11_clear_102 ?_
          refine lv_topi (fun x139 ex139 => ?_)
          have hG := bnd_use ex139 hG
          refine lv_iadd hx hb d_X11_clear_103 ?_
          refine lv_topi (fun x140 ex140 => ?_)
          have hG := bnd_use ex140 hG
          refine r_iast X hw hS (rfl : KD 462 = _) (Rg.vp (b := 2) r137 (by decide)) rfl d_X11_clear_104 (fun H locs hw hS => ?_)
          obtain ⟨v141, ev141⟩ : ∃ z, z = up2 v1 462 x136.toNatClampNeg x140 := ⟨_, rfl⟩
          rw [← ev141] at hw
          have hG := bnd_use ev141 hG
          have hI142 : Inv v141 := by rw [ev141]; exact Inv.put0 hI1 _ rfl
          have hK143 : Kp (kp_X11_clear_400 gg) v v141 := by rw [ev141]; exact Kp.put hK1 _ (by unfold kp_X11_clear_400; omega)
          refine lv_iload hx hb d_X11_clear_105 (lv_at hl 6 rfl) ?_
          refine lv_iload_n hx hb d_X11_clear_107 rfl (lv_at hl 1 rfl) ?_
          refine lv_idiv hx hb d_X11_clear_108 (by intro h; have := i_eq h; obtain ⟨b1, b2⟩ := r_y1; have z0 : (0 : Int32).toInt = 0 := rfl; omega) ?_
          refine lv_topi (fun x144 ex144 => ?_)
          have hG := bnd_use ex144 hG
          have r145 : Rg x144 0 2147483647 := rg_div ex144 r_y6 r_y1 (by decide) (by decide)
          refine lv_istore (lv' := [(6, .int x144), (0, .ref (ad 400)), (1, .int gg), (2, .int y2), (3, .int y3), (4, .int y4), (5, .int y5), (7, .int y7)]) hx hb d_X11_clear_109 hl (by decide) rfl (fun ls hl => ?_)
          obtain ⟨x146, ex146⟩ : ∃ y : Int32, y = y7 + 1 := ⟨_, rfl⟩
          have hG := bnd_use ex146 hG
          refine lv_iinc (v := x146) (lv' := [(7, .int x146), (6, .int x144), (0, .ref (ad 400)), (1, .int gg), (2, .int y2), (3, .int y3), (4, .int y4), (5, .int y5)]) hx hb d_X11_clear_111 hl (k := 7) rfl (by rw [ex146]; rfl) (by decide) rfl (fun ls hl => ?_)
          have r147 : Rg x146 1 7 := rg_add ex146 r134 (⟨by decide, by decide⟩ : Rg 1 1 1) (by decide) (by decide)
          have s148 : x146.toInt = y7.toInt + (1 : Int32).toInt := by rw [ex146]; exact i_add (by obtain ⟨_, _⟩ := r134; obtain ⟨_, _⟩ := (⟨by decide, by decide⟩ : Rg 1 1 1); omega) (by obtain ⟨_, _⟩ := r134; obtain ⟨_, _⟩ := (⟨by decide, by decide⟩ : Rg 1 1 1); omega)
          have s148l : (1 : Int32).toInt = 1 := rfl
          refine lv_goto (tgt := 80) hx hb d_X11_clear_114 (by decide) ?_
          exact ih3 y2 y3 y4 y5 x144 x146 v141 _ _ _ (by have q_ := r_y1; obtain ⟨_, _⟩ := q_; have q_ := r135; obtain ⟨_, _⟩ := q_; have q_ := r_y5; obtain ⟨_, _⟩ := q_; have q_ := r_y6; obtain ⟨_, _⟩ := q_; have q_ := r134; obtain ⟨_, _⟩ := q_; have q_ := r137; obtain ⟨_, _⟩ := q_; have q_ := r145; obtain ⟨_, _⟩ := q_; have q_ := r147; obtain ⟨_, _⟩ := q_; have q_ := rg_any y3; obtain ⟨_, _⟩ := q_; have q_ := rg_any y4; obtain ⟨_, _⟩ := q_; omega) r_y1 (rg_w r135 (by decide) (by decide)) r_y5 r145 (rg_w r147 (by decide) (by decide)) hI142 hK143 (by have q_ := r_y1; obtain ⟨_, _⟩ := q_; have q_ := r135; obtain ⟨_, _⟩ := q_; have q_ := r_y5; obtain ⟨_, _⟩ := q_; have q_ := r_y6; obtain ⟨_, _⟩ := q_; have q_ := r134; obtain ⟨_, _⟩ := q_; have q_ := r137; obtain ⟨_, _⟩ := q_; have q_ := r145; obtain ⟨_, _⟩ := q_; have q_ := r147; obtain ⟨_, _⟩ := q_; omega) hG hw hS (lv_sub hl [2, 3, 4, 5, 6, 7, 1, 0] rfl)
  obtain ⟨ih0, ih1, ih2, ih3⟩ := LL 10000000000000
  have hK0 : Kp (kp_X11_clear_400 gg) v v := Kp.rf _ v
  have hG := eRR
  unfold f_X11_clear_400 at hG
  refine lv_iload_n hx hb d_X11_clear_0 rfl (lv_at hl 1 rfl) ?_
  refine lv_iconst (v := 1) hx hb d_X11_clear_1 (by decide) ?_
  refine lv_iconst (v := 3) hx hb d_X11_clear_2 (by decide) ?_
  refine r_ci (r_runS (n := 3) (As := [.int gg, .int 1, .int 3]) (rest := []) X hw (ct_X11_in l D dA ad v hI gg 1 3) gc_X11_169 (by decide +kernel) ⟨rfl, rfl, Nat.le_of_ble_eq_true rfl, Nat.le_of_ble_eq_true rfl⟩ rfl hl.1 rfl (Nat.le_of_ble_eq_true rfl) ⟨Nat.zero_le _, Nat.zero_le _⟩ d_X11_clear_3) hS (fun x150 v151 H locs hp149 hw hS => ?_)
  obtain ⟨ev151, hp149⟩ := hp149
  rw [ev151] at hw
  rcases hp149 with ⟨rfl, w152a, w152b⟩ | ⟨rfl, w152n⟩
  · skip
    have hG := g_pos ⟨w152a, w152b⟩ hG
    have r153 : Rg gg 1 3 := by obtain ⟨_, _⟩ := (rg_any gg); have : (1 : Int32).toInt = 1 := rfl; have : (3 : Int32).toInt = 3 := rfl; exact ⟨by omega, by omega⟩
    refine lv_if_ne (tgt := 12) hx hb d_X11_clear_6 (by decide) (fun c154 => ?_) (fun c154 => ?_)
    · refine lv_aload_n hx hb d_X11_clear_12 rfl (lv_at hl 0 rfl) ?_
      refine r_ci (r_runV (n := 0) (As := []) (rest := []) X hw (ct_X11_findHours_400 l D dA ad v hI) gc_X11_292 (rfl : KD 400 = _) (by decide) rfl (by decide +kernel) ⟨rfl, rfl, Nat.le_of_ble_eq_true rfl, Nat.le_of_ble_eq_true rfl⟩ rfl hl.1 rfl (Nat.le_of_ble_eq_true rfl) ⟨Nat.zero_le _, Nat.zero_le _⟩ d_X11_clear_13) hS (fun x156 v157 H locs hp155 hw hS => ?_)
      obtain ⟨hp155, hE158⟩ := hp155
      obtain ⟨hI159, hK160, hp155⟩ := hp155
      have hK161 : Kp (kp_X11_clear_400 gg) v v157 := Kp.tr hK0 hK160 (by have z0 : (0 : Int32).toInt = 0 := rfl; intro a j; unfold kp_X11_clear_400 kp_X11_findHours_400; omega)
      have hG := bnd2_use hE158 hG
      refine lv_istore_n (lv' := [(2, .int x156), (0, .ref (ad 400)), (1, .int gg)]) hx hb d_X11_clear_16 rfl hl (by decide) rfl (fun ls hl => ?_)
      refine lv_iconst (v := 1) hx hb d_X11_clear_17 (by decide) ?_
      refine lv_istore_n (lv' := [(3, .int 1), (2, .int x156), (0, .ref (ad 400)), (1, .int gg)]) hx hb d_X11_clear_18 rfl hl (by decide) rfl (fun ls hl => ?_)
      refine lv_iconst (v := 0) hx hb d_X11_clear_19 (by decide) ?_
      refine lv_istore (lv' := [(4, .int 0), (3, .int 1), (2, .int x156), (0, .ref (ad 400)), (1, .int gg)]) hx hb d_X11_clear_20 hl (by decide) rfl (fun ls hl => ?_)
      exact ih0 x156 1 0 v157 _ _ _ (by have q_ := r153; obtain ⟨_, _⟩ := q_; have q_ := hp155; obtain ⟨_, _⟩ := q_; have q_ : (1 : Int32).toInt = 1 := rfl; have q_ : (0 : Int32).toInt = 0 := rfl; omega) r153 hp155 (rg_w (⟨by decide, by decide⟩ : Rg 0 0 0) (by decide) (by decide)) hI159 hK161 hG hw hS (lv_sub hl [3, 4, 2, 1, 0] rfl)
    · exact absurd c154 (by decide)
  · skip
    have hG := g_neg w152n hG
    refine lv_if_ne (tgt := 12) hx hb d_X11_clear_6 (by decide) (fun c162 => ?_) (fun c162 => ?_)
    · exact absurd c162 (by decide)
    · refine lv_bipush (v := -2) hx hb d_X11_clear_9 (by decide) ?_
      exact r_iret X hr hlocks hw hS ⟨⟨hI, hK0⟩, hG.trans eRR.symm⟩ d_X11_clear_11
theorem d_X11_sellThen_0 : decode c_X11_sellThen 0 = .ok (.aload_n 0, 1) := by decide +kernel
theorem d_X11_sellThen_1 : decode c_X11_sellThen 1 = .ok (.getfield 151, 3) := by decide +kernel
theorem d_X11_sellThen_4 : decode c_X11_sellThen 4 = .ok (.iload_n 1, 1) := by decide +kernel
theorem d_X11_sellThen_5 : decode c_X11_sellThen 5 = .ok (.iaload, 1) := by decide +kernel
theorem d_X11_sellThen_6 : decode c_X11_sellThen 6 = .ok (.ifCond .le 184, 3) := by decide +kernel
theorem d_X11_sellThen_9 : decode c_X11_sellThen 9 = .ok (.iconst (-1), 1) := by decide +kernel
theorem d_X11_sellThen_10 : decode c_X11_sellThen 10 = .ok (.istore_n 2, 1) := by decide +kernel
theorem d_X11_sellThen_11 : decode c_X11_sellThen 11 = .ok (.iconst 0, 1) := by decide +kernel
theorem d_X11_sellThen_12 : decode c_X11_sellThen 12 = .ok (.istore_n 3, 1) := by decide +kernel
theorem d_X11_sellThen_13 : decode c_X11_sellThen 13 = .ok (.iload_n 3, 1) := by decide +kernel
theorem d_X11_sellThen_14 : decode c_X11_sellThen 14 = .ok (.aload_n 0, 1) := by decide +kernel
theorem d_X11_sellThen_15 : decode c_X11_sellThen 15 = .ok (.getfield 275, 3) := by decide +kernel
theorem d_X11_sellThen_18 : decode c_X11_sellThen 18 = .ok (.if_icmp .ge 73, 3) := by decide +kernel
theorem d_X11_sellThen_21 : decode c_X11_sellThen 21 = .ok (.aload_n 0, 1) := by decide +kernel
theorem d_X11_sellThen_22 : decode c_X11_sellThen 22 = .ok (.getfield 52, 3) := by decide +kernel
theorem d_X11_sellThen_25 : decode c_X11_sellThen 25 = .ok (.iload_n 3, 1) := by decide +kernel
theorem d_X11_sellThen_26 : decode c_X11_sellThen 26 = .ok (.iaload, 1) := by decide +kernel
theorem d_X11_sellThen_27 : decode c_X11_sellThen 27 = .ok (.aload_n 0, 1) := by decide +kernel
theorem d_X11_sellThen_28 : decode c_X11_sellThen 28 = .ok (.getfield 13, 3) := by decide +kernel
theorem d_X11_sellThen_31 : decode c_X11_sellThen 31 = .ok (.iload_n 1, 1) := by decide +kernel
theorem d_X11_sellThen_32 : decode c_X11_sellThen 32 = .ok (.iaload, 1) := by decide +kernel
theorem d_X11_sellThen_33 : decode c_X11_sellThen 33 = .ok (.if_icmp .ne 52, 3) := by decide +kernel
theorem d_X11_sellThen_36 : decode c_X11_sellThen 36 = .ok (.aload_n 0, 1) := by decide +kernel
theorem d_X11_sellThen_37 : decode c_X11_sellThen 37 = .ok (.getfield 154, 3) := by decide +kernel
theorem d_X11_sellThen_40 : decode c_X11_sellThen 40 = .ok (.iload_n 3, 1) := by decide +kernel
theorem d_X11_sellThen_41 : decode c_X11_sellThen 41 = .ok (.iaload, 1) := by decide +kernel
theorem d_X11_sellThen_42 : decode c_X11_sellThen 42 = .ok (.ifCond .le 43, 3) := by decide +kernel
theorem d_X11_sellThen_45 : decode c_X11_sellThen 45 = .ok (.aload_n 0, 1) := by decide +kernel
theorem d_X11_sellThen_46 : decode c_X11_sellThen 46 = .ok (.getfield 136, 3) := by decide +kernel
theorem d_X11_sellThen_49 : decode c_X11_sellThen 49 = .ok (.iload_n 3, 1) := by decide +kernel
theorem d_X11_sellThen_50 : decode c_X11_sellThen 50 = .ok (.iaload, 1) := by decide +kernel
theorem d_X11_sellThen_51 : decode c_X11_sellThen 51 = .ok (.aload_n 0, 1) := by decide +kernel
theorem d_X11_sellThen_52 : decode c_X11_sellThen 52 = .ok (.getfield 130, 3) := by decide +kernel
theorem d_X11_sellThen_55 : decode c_X11_sellThen 55 = .ok (.iconst 4, 1) := by decide +kernel
theorem d_X11_sellThen_56 : decode c_X11_sellThen 56 = .ok (.iload_n 1, 1) := by decide +kernel
theorem d_X11_sellThen_57 : decode c_X11_sellThen 57 = .ok (.imul, 1) := by decide +kernel
theorem d_X11_sellThen_58 : decode c_X11_sellThen 58 = .ok (.iconst 2, 1) := by decide +kernel
theorem d_X11_sellThen_59 : decode c_X11_sellThen 59 = .ok (.iadd, 1) := by decide +kernel
theorem d_X11_sellThen_60 : decode c_X11_sellThen 60 = .ok (.iaload, 1) := by decide +kernel
theorem d_X11_sellThen_61 : decode c_X11_sellThen 61 = .ok (.if_icmp .lt 24, 3) := by decide +kernel
theorem d_X11_sellThen_64 : decode c_X11_sellThen 64 = .ok (.iload_n 2, 1) := by decide +kernel
theorem d_X11_sellThen_65 : decode c_X11_sellThen 65 = .ok (.ifCond .lt 18, 3) := by decide +kernel
theorem d_X11_sellThen_68 : decode c_X11_sellThen 68 = .ok (.aload_n 0, 1) := by decide +kernel
theorem d_X11_sellThen_69 : decode c_X11_sellThen 69 = .ok (.getfield 136, 3) := by decide +kernel
theorem d_X11_sellThen_72 : decode c_X11_sellThen 72 = .ok (.iload_n 3, 1) := by decide +kernel
theorem d_X11_sellThen_73 : decode c_X11_sellThen 73 = .ok (.iaload, 1) := by decide +kernel
theorem d_X11_sellThen_74 : decode c_X11_sellThen 74 = .ok (.aload_n 0, 1) := by decide +kernel
theorem d_X11_sellThen_75 : decode c_X11_sellThen 75 = .ok (.getfield 136, 3) := by decide +kernel
theorem d_X11_sellThen_78 : decode c_X11_sellThen 78 = .ok (.iload_n 2, 1) := by decide +kernel
theorem d_X11_sellThen_79 : decode c_X11_sellThen 79 = .ok (.iaload, 1) := by decide +kernel
theorem d_X11_sellThen_80 : decode c_X11_sellThen 80 = .ok (.if_icmp .le 5, 3) := by decide +kernel
theorem d_X11_sellThen_83 : decode c_X11_sellThen 83 = .ok (.iload_n 3, 1) := by decide +kernel
theorem d_X11_sellThen_84 : decode c_X11_sellThen 84 = .ok (.istore_n 2, 1) := by decide +kernel
theorem d_X11_sellThen_85 : decode c_X11_sellThen 85 = .ok (.iinc 3 1, 3) := by decide +kernel
theorem d_X11_sellThen_88 : decode c_X11_sellThen 88 = .ok (.goto (-75), 3) := by decide +kernel
theorem d_X11_sellThen_91 : decode c_X11_sellThen 91 = .ok (.iload_n 2, 1) := by decide +kernel
theorem d_X11_sellThen_92 : decode c_X11_sellThen 92 = .ok (.ifCond .ge 4, 3) := by decide +kernel
theorem d_X11_sellThen_95 : decode c_X11_sellThen 95 = .ok (.return_, 1) := by decide +kernel
theorem d_X11_sellThen_96 : decode c_X11_sellThen 96 = .ok (.aload_n 0, 1) := by decide +kernel
theorem d_X11_sellThen_97 : decode c_X11_sellThen 97 = .ok (.getfield 151, 3) := by decide +kernel
theorem d_X11_sellThen_100 : decode c_X11_sellThen 100 = .ok (.iload_n 1, 1) := by decide +kernel
theorem d_X11_sellThen_101 : decode c_X11_sellThen 101 = .ok (.iaload, 1) := by decide +kernel
theorem d_X11_sellThen_102 : decode c_X11_sellThen 102 = .ok (.aload_n 0, 1) := by decide +kernel
theorem d_X11_sellThen_103 : decode c_X11_sellThen 103 = .ok (.getfield 154, 3) := by decide +kernel
theorem d_X11_sellThen_106 : decode c_X11_sellThen 106 = .ok (.iload_n 2, 1) := by decide +kernel
theorem d_X11_sellThen_107 : decode c_X11_sellThen 107 = .ok (.iaload, 1) := by decide +kernel
theorem d_X11_sellThen_108 : decode c_X11_sellThen 108 = .ok (.if_icmp .ge 12, 3) := by decide +kernel
theorem d_X11_sellThen_111 : decode c_X11_sellThen 111 = .ok (.aload_n 0, 1) := by decide +kernel
theorem d_X11_sellThen_112 : decode c_X11_sellThen 112 = .ok (.getfield 151, 3) := by decide +kernel
theorem d_X11_sellThen_115 : decode c_X11_sellThen 115 = .ok (.iload_n 1, 1) := by decide +kernel
theorem d_X11_sellThen_116 : decode c_X11_sellThen 116 = .ok (.iaload, 1) := by decide +kernel
theorem d_X11_sellThen_117 : decode c_X11_sellThen 117 = .ok (.goto 9, 3) := by decide +kernel
theorem d_X11_sellThen_120 : decode c_X11_sellThen 120 = .ok (.aload_n 0, 1) := by decide +kernel
theorem d_X11_sellThen_121 : decode c_X11_sellThen 121 = .ok (.getfield 154, 3) := by decide +kernel
theorem d_X11_sellThen_124 : decode c_X11_sellThen 124 = .ok (.iload_n 2, 1) := by decide +kernel
theorem d_X11_sellThen_125 : decode c_X11_sellThen 125 = .ok (.iaload, 1) := by decide +kernel
theorem d_X11_sellThen_126 : decode c_X11_sellThen 126 = .ok (.istore_n 3, 1) := by decide +kernel
theorem d_X11_sellThen_127 : decode c_X11_sellThen 127 = .ok (.aload_n 0, 1) := by decide +kernel
theorem d_X11_sellThen_128 : decode c_X11_sellThen 128 = .ok (.getfield 151, 3) := by decide +kernel
theorem d_X11_sellThen_131 : decode c_X11_sellThen 131 = .ok (.iload_n 1, 1) := by decide +kernel
theorem d_X11_sellThen_132 : decode c_X11_sellThen 132 = .ok (.dup2, 1) := by decide +kernel
theorem d_X11_sellThen_133 : decode c_X11_sellThen 133 = .ok (.iaload, 1) := by decide +kernel
theorem d_X11_sellThen_134 : decode c_X11_sellThen 134 = .ok (.iload_n 3, 1) := by decide +kernel
theorem d_X11_sellThen_135 : decode c_X11_sellThen 135 = .ok (.isub, 1) := by decide +kernel
theorem d_X11_sellThen_136 : decode c_X11_sellThen 136 = .ok (.iastore, 1) := by decide +kernel
theorem d_X11_sellThen_137 : decode c_X11_sellThen 137 = .ok (.aload_n 0, 1) := by decide +kernel
theorem d_X11_sellThen_138 : decode c_X11_sellThen 138 = .ok (.getfield 154, 3) := by decide +kernel
theorem d_X11_sellThen_141 : decode c_X11_sellThen 141 = .ok (.iload_n 2, 1) := by decide +kernel
theorem d_X11_sellThen_142 : decode c_X11_sellThen 142 = .ok (.dup2, 1) := by decide +kernel
theorem d_X11_sellThen_143 : decode c_X11_sellThen 143 = .ok (.iaload, 1) := by decide +kernel
theorem d_X11_sellThen_144 : decode c_X11_sellThen 144 = .ok (.iload_n 3, 1) := by decide +kernel
theorem d_X11_sellThen_145 : decode c_X11_sellThen 145 = .ok (.isub, 1) := by decide +kernel
theorem d_X11_sellThen_146 : decode c_X11_sellThen 146 = .ok (.iastore, 1) := by decide +kernel
theorem d_X11_sellThen_147 : decode c_X11_sellThen 147 = .ok (.aload_n 0, 1) := by decide +kernel
theorem d_X11_sellThen_148 : decode c_X11_sellThen 148 = .ok (.dup, 1) := by decide +kernel
theorem d_X11_sellThen_149 : decode c_X11_sellThen 149 = .ok (.getfield 246, 3) := by decide +kernel
theorem d_X11_sellThen_152 : decode c_X11_sellThen 152 = .ok (.iload_n 3, 1) := by decide +kernel
theorem d_X11_sellThen_153 : decode c_X11_sellThen 153 = .ok (.iadd, 1) := by decide +kernel
theorem d_X11_sellThen_154 : decode c_X11_sellThen 154 = .ok (.putfield 246, 3) := by decide +kernel
theorem d_X11_sellThen_157 : decode c_X11_sellThen 157 = .ok (.aload_n 0, 1) := by decide +kernel
theorem d_X11_sellThen_158 : decode c_X11_sellThen 158 = .ok (.dup, 1) := by decide +kernel
theorem d_X11_sellThen_159 : decode c_X11_sellThen 159 = .ok (.getfield 249, 3) := by decide +kernel
theorem d_X11_sellThen_162 : decode c_X11_sellThen 162 = .ok (.iload_n 3, 1) := by decide +kernel
theorem d_X11_sellThen_163 : decode c_X11_sellThen 163 = .ok (.aload_n 0, 1) := by decide +kernel
theorem d_X11_sellThen_164 : decode c_X11_sellThen 164 = .ok (.getfield 130, 3) := by decide +kernel
theorem d_X11_sellThen_167 : decode c_X11_sellThen 167 = .ok (.iconst 4, 1) := by decide +kernel
theorem d_X11_sellThen_168 : decode c_X11_sellThen 168 = .ok (.iload_n 1, 1) := by decide +kernel
theorem d_X11_sellThen_169 : decode c_X11_sellThen 169 = .ok (.imul, 1) := by decide +kernel
theorem d_X11_sellThen_170 : decode c_X11_sellThen 170 = .ok (.iconst 2, 1) := by decide +kernel
theorem d_X11_sellThen_171 : decode c_X11_sellThen 171 = .ok (.iadd, 1) := by decide +kernel
theorem d_X11_sellThen_172 : decode c_X11_sellThen 172 = .ok (.iaload, 1) := by decide +kernel
theorem d_X11_sellThen_173 : decode c_X11_sellThen 173 = .ok (.aload_n 0, 1) := by decide +kernel
theorem d_X11_sellThen_174 : decode c_X11_sellThen 174 = .ok (.getfield 136, 3) := by decide +kernel
theorem d_X11_sellThen_177 : decode c_X11_sellThen 177 = .ok (.iload_n 2, 1) := by decide +kernel
theorem d_X11_sellThen_178 : decode c_X11_sellThen 178 = .ok (.iaload, 1) := by decide +kernel
theorem d_X11_sellThen_179 : decode c_X11_sellThen 179 = .ok (.iadd, 1) := by decide +kernel
theorem d_X11_sellThen_180 : decode c_X11_sellThen 180 = .ok (.iconst 2, 1) := by decide +kernel
theorem d_X11_sellThen_181 : decode c_X11_sellThen 181 = .ok (.idiv, 1) := by decide +kernel
theorem d_X11_sellThen_182 : decode c_X11_sellThen 182 = .ok (.imul, 1) := by decide +kernel
theorem d_X11_sellThen_183 : decode c_X11_sellThen 183 = .ok (.iadd, 1) := by decide +kernel
theorem d_X11_sellThen_184 : decode c_X11_sellThen 184 = .ok (.putfield 249, 3) := by decide +kernel
theorem d_X11_sellThen_187 : decode c_X11_sellThen 187 = .ok (.goto (-187), 3) := by decide +kernel
theorem d_X11_sellThen_190 : decode c_X11_sellThen 190 = .ok (.return_, 1) := by decide +kernel
def kp_X11_sellThen_400 (si : Int32) (a j : Nat) : Prop := (a ≠ 400 ∨ (j ≠ 58 ∧ j ≠ 59)) ∧ a ≠ 464 ∧ a ≠ 465
def b_X11_sellThen_400_0 (si : Int32) (rc13 : Int32 → Int32 → tV → tV)  (v1 : tV) : tV := bnd (v1 464 si.toNatClampNeg) fun x1 => (if x1 ≤ (0 : Int32) then v1 else rc13 (-1) 0 v1)
def b_X11_sellThen_400_13 (si : Int32) (rc0 : tV → tV) (rc13 : Int32 → Int32 → tV → tV) (y2 : Int32) (y3 : Int32) (v1 : tV) : tV := bnd (v1 464 (si.toNatClampNeg)) fun m0 => bnd (v1 400 55) fun x8 => (if x8 ≤ y3 then (if (0 : Int32) ≤ y2 then bnd (v1 465 y2.toNatClampNeg) fun x16 => (if x16 ≤ m0 then bnd (m0 - x16) fun x21 => bnd (up2 v1 464 (si.toNatClampNeg) x21) fun v24 => bnd (x16 - x16) fun x30 => bnd (up2 v24 465 (y2.toNatClampNeg) x30) fun v33 => bnd (v33 400 58) fun x39 => bnd (x39 + x16) fun x40 => bnd (up2 v33 400 58 x40) fun v41 => bnd (v41 400 59) fun x47 => bnd ((4 : Int32) * si) fun x48 => bnd (x48 + (2 : Int32)) fun x51 => bnd (v41 450 x51.toNatClampNeg) fun x54 => bnd (v41 452 y2.toNatClampNeg) fun x55 => bnd (x54 + x55) fun x56 => bnd (x56 / (2 : Int32)) fun x57 => bnd (x16 * x57) fun x58 => bnd (x47 + x58) fun x59 => bnd (up2 v41 400 59 x59) fun v60 => rc0 v60 else bnd (m0 - m0) fun x69 => bnd (up2 v1 464 (si.toNatClampNeg) x69) fun v72 => bnd (x16 - m0) fun x78 => bnd (up2 v72 465 (y2.toNatClampNeg) x78) fun v81 => bnd (v81 400 58) fun x87 => bnd (x87 + m0) fun x88 => bnd (up2 v81 400 58 x88) fun v89 => bnd (v89 400 59) fun x95 => bnd ((4 : Int32) * si) fun x96 => bnd (x96 + (2 : Int32)) fun x99 => bnd (v89 450 x99.toNatClampNeg) fun x102 => bnd (v89 452 y2.toNatClampNeg) fun x103 => bnd (x102 + x103) fun x104 => bnd (x104 / (2 : Int32)) fun x105 => bnd (m0 * x105) fun x106 => bnd (x95 + x106) fun x107 => bnd (up2 v89 400 59 x107) fun v108 => rc0 v108) else v1) else bnd (v1 418 y3.toNatClampNeg) fun x119 => bnd (v1 404 si.toNatClampNeg) fun x120 => (if x119 = x120 then bnd (v1 465 y3.toNatClampNeg) fun x127 => (if x127 ≤ (0 : Int32) then bnd (y3 + 1) fun x132 => rc13 y2 x132 v1 else bnd (v1 452 y3.toNatClampNeg) fun x137 => bnd ((4 : Int32) * si) fun x138 => bnd (x138 + (2 : Int32)) fun x141 => bnd (v1 450 x141.toNatClampNeg) fun x144 => (if x137 < x144 then bnd (y3 + 1) fun x147 => rc13 y2 x147 v1 else (if y2 < (0 : Int32) then bnd (y3 + 1) fun x154 => rc13 y3 x154 v1 else bnd (v1 452 y3.toNatClampNeg) fun x159 => bnd (v1 452 y2.toNatClampNeg) fun x160 => (if x159 ≤ x160 then bnd (y3 + 1) fun x163 => rc13 y2 x163 v1 else bnd (y3 + 1) fun x167 => rc13 y3 x167 v1)))) else bnd (y3 + 1) fun x123 => rc13 y2 x123 v1))
def g_X11_sellThen_400 (si : Int32) : Nat → Nat → Int32 → Int32 → tV → tV
  | 0, _, _, _, v1 => v1
  | n + 1, 0, _, _, v1 => b_X11_sellThen_400_0 si (fun y2 y3 w1 => g_X11_sellThen_400 si n 1 y2 y3 w1)  v1
  | n + 1, _, y2, y3, v1 => b_X11_sellThen_400_13 si (fun  w1 => g_X11_sellThen_400 si n 0 0 0 w1) (fun y2 y3 w1 => g_X11_sellThen_400 si n 1 y2 y3 w1) y2 y3 v1
def g_X11_sellThen_400_0 (si : Int32) (n : Nat) : tV → tV := (fun  w1 => g_X11_sellThen_400 si n 0 0 0 w1)
def g_X11_sellThen_400_13 (si : Int32) (n : Nat) : Int32 → Int32 → tV → tV := (fun y2 y3 w1 => g_X11_sellThen_400 si n 1 y2 y3 w1)
def f_X11_sellThen_400 (v : tV) (si : Int32) : tV := g_X11_sellThen_400_0 si 300000000000 v
set_option maxHeartbeats 4000000 in
set_option maxRecDepth 100000 in
theorem ct_X11_sellThen_400 (l : Launch) (D : va_G) (dA : Nat → ClassId) (ad : Nat → Nat) (v : tV) (hI : Inv v) (si : Int32) (r_si : Rg si 0 19) : Met l m_X11_sellThen [.code m_X11_sellThen c_X11_sellThen 4 none] ({ frames := 1, cells := 0, slots := 0, locals := 40 } : Room) (tP D dA ad v [.ref (ad 400), .int si]) (tQv D dA ad (fun v' => (Inv v' ∧ Kp (kp_X11_sellThen_400 si) v v') ∧ v' = f_X11_sellThen_400 v si)) 0 0 (tA ad) := by
  refine tMet (by decide) (Nat.le_of_ble_eq_true rfl) ?_
  intro p e s m below meth c ls X hr hlocks hw hl
  have X : CX p s m ([.ref (ad 400), .int si] : List Value).toArray c c_X11_sellThen N_X11 4 D dA := X
  have hx := X.1
  have hb := X.2.1
  have hS : va_S (tA ad) s.heap s.heap [] := va_S.rf
  have hl : lv_has ls 4 [(0, .ref (ad 400)), (1, .int si)] := hl
  obtain ⟨RR, eRR⟩ : ∃ z, f_X11_sellThen_400 v si = z := ⟨_, rfl⟩
  have LL : ∀ n : Nat, (∀ (v1 : tV) (H : Heap) (locs : List Loc) (ls : Array Slot), (v1 464 si.toNatClampNeg).toInt.toNat * 100 + 50 < n → Inv v1 → Kp (kp_X11_sellThen_400 si) v v1 → g_X11_sellThen_400_0 si n v1 = RR → tI D dA ad v1 H → va_S (tA ad) s.heap H locs → lv_has ls 4 [(0, .ref (ad 400)), (1, .int si)] → W p l e ({ frames := 1, cells := 0, slots := 0, locals := 40 } : Room) s m ([.ref (ad 400), .int si] : List Value).toArray below meth c H locs 0 0 (MQ below (tQv D dA ad (fun v' => (Inv v' ∧ Kp (kp_X11_sellThen_400 si) v v') ∧ v' = f_X11_sellThen_400 v si)) ([.ref (ad 400), .int si] : List Value).toArray s 0 0 (tA ad)) (F0 m 0 ls [])) ∧ (∀ (y2 : Int32) (y3 : Int32) (m0 : Int32) (v1 : tV) (H : Heap) (locs : List Loc) (ls : Array Slot), m0.toInt.toNat * 100 + (10 - y3.toInt).toNat < n → Rg y2 (-1) 9 → Rg y3 0 10 → Rg m0 1 2147483647 → Inv v1 → Kp (kp_X11_sellThen_400 si) v v1 → v1 464 si.toNatClampNeg = m0 → (0 ≤ y2.toInt → 0 < (v1 465 y2.toNatClampNeg).toInt) → g_X11_sellThen_400_13 si n y2 y3 v1 = RR → tI D dA ad v1 H → va_S (tA ad) s.heap H locs → lv_has ls 4 [(0, .ref (ad 400)), (1, .int si), (2, .int y2), (3, .int y3)] → W p l e ({ frames := 1, cells := 0, slots := 0, locals := 40 } : Room) s m ([.ref (ad 400), .int si] : List Value).toArray below meth c H locs 0 0 (MQ below (tQv D dA ad (fun v' => (Inv v' ∧ Kp (kp_X11_sellThen_400 si) v v') ∧ v' = f_X11_sellThen_400 v si)) ([.ref (ad 400), .int si] : List Value).toArray s 0 0 (tA ad)) (F0 m 13 ls [])) := by
    intro n
    induction n with
    | zero => refine ⟨?_, ?_⟩ <;> (intros; omega)
    | succ n ih =>
      obtain ⟨ih0, ih1⟩ := ih
      refine ⟨?_, ?_⟩
      · intro v1 H locs ls hmu hI1 hK1 hG hw hS hl
        have hG : b_X11_sellThen_400_0 si (g_X11_sellThen_400_13 si n)  v1 = RR := hG
        unfold b_X11_sellThen_400_0 at hG
        refine lv_aload_n hx hb d_X11_sellThen_0 rfl (lv_at hl 0 rfl) ?_
        refine r_getr (r := 464) X hw FL_X11_151 (rfl : KD 400 = _) rfl d_X11_sellThen_1 ?_
        refine lv_iload_n hx hb d_X11_sellThen_4 rfl (lv_at hl 1 rfl) ?_
        refine r_iald X hw (rfl : KD 464 = _) (Rg.vp (b := 19) r_si (by decide)) rfl d_X11_sellThen_5 ?_
        refine lv_topi (fun x1 ex1 => ?_)
        have hG := bnd_use ex1 hG
        have hm2 : v1 464 si.toNatClampNeg = x1 := ex1.symm
        refine lv_if_le (tgt := 190) hx hb d_X11_sellThen_6 (by decide) (fun c3 => ?_) (fun c3 => ?_)
        · have f4 := i_le c3
          have r5 : Rg x1 (-2147483648) 0 := by obtain ⟨a1, a2⟩ := (rg_any x1); obtain ⟨b1, b2⟩ := (⟨by decide, by decide⟩ : Rg 0 0 0); have f := i_le c3; exact ⟨by omega, by omega⟩
          have hG := g_pos c3 hG
          exact r_vret X hr hlocks hw hS ⟨⟨hI1, hK1⟩, hG.trans eRR.symm⟩ d_X11_sellThen_190
        · have f6 := i_nle c3
          have r7 : Rg x1 1 2147483647 := by obtain ⟨a1, a2⟩ := (rg_any x1); obtain ⟨b1, b2⟩ := (⟨by decide, by decide⟩ : Rg 0 0 0); have f := i_nle c3; exact ⟨by omega, by omega⟩
          have hG := g_neg c3 hG
          refine lv_iconst (v := -1) hx hb d_X11_sellThen_9 (by decide) ?_
          refine lv_istore_n (lv' := [(2, .int (-1)), (0, .ref (ad 400)), (1, .int si)]) hx hb d_X11_sellThen_10 rfl hl (by decide) rfl (fun ls hl => ?_)
          refine lv_iconst (v := 0) hx hb d_X11_sellThen_11 (by decide) ?_
          refine lv_istore_n (lv' := [(3, .int 0), (2, .int (-1)), (0, .ref (ad 400)), (1, .int si)]) hx hb d_X11_sellThen_12 rfl hl (by decide) rfl (fun ls hl => ?_)
          exact ih1 (-1) 0 x1 v1 _ _ _ (by have q_ := r_si; obtain ⟨_, _⟩ := q_; have q_ := r7; obtain ⟨_, _⟩ := q_; have q_ : (-1 : Int32).toInt = (-1) := rfl; have q_ : (0 : Int32).toInt = 0 := rfl; have q_ := congrArg Int32.toInt hm2; omega) (rg_w (⟨by decide, by decide⟩ : Rg (-1) (-1) (-1)) (by decide) (by decide)) (rg_w (⟨by decide, by decide⟩ : Rg 0 0 0) (by decide) (by decide)) r7 hI1 hK1 hm2 (by have q_ := r_si; obtain ⟨_, _⟩ := q_; have q_ := r7; obtain ⟨_, _⟩ := q_; intro q; exact absurd q (by decide)) hG hw hS (lv_sub hl [2, 3, 1, 0] rfl)
      · intro y2 y3 m0 v1 H locs ls hmu r_y2 r_y3 r_m0 hI1 hK1 h_m0 hex hG hw hS hl
        have hG : b_X11_sellThen_400_13 si (g_X11_sellThen_400_0 si n) (g_X11_sellThen_400_13 si n) y2 y3 v1 = RR := hG
        unfold b_X11_sellThen_400_13 at hG
        have hG := bnd_use h_m0.symm hG
        refine lv_iload_n hx hb d_X11_sellThen_13 rfl (lv_at hl 3 rfl) ?_
        refine lv_aload_n hx hb d_X11_sellThen_14 rfl (lv_at hl 0 rfl) ?_
        refine r_geti X hw FL_X11_275 (rfl : KD 400 = _) rfl d_X11_sellThen_15 ?_
        refine lv_topi (fun x8 ex8 => ?_)
        have hG := bnd_use ex8 hG
        have r9 : Rg x8 0 10 := by rw [ex8]; exact hI1 _ _ _ _ rfl
        have hm10 : v1 400 55 = x8 := ex8.symm
        refine lv_icmp_ge (tgt := 91) hx hb d_X11_sellThen_18 (by decide) (fun c11 => ?_) (fun c11 => ?_)
        · have f12 := i_le c11
          have hG := g_pos c11 hG
          refine lv_iload_n hx hb d_X11_sellThen_91 rfl (lv_at hl 2 rfl) ?_
          refine lv_if_ge (tgt := 96) hx hb d_X11_sellThen_92 (by decide) (fun c13 => ?_) (fun c13 => ?_)
          · have f14 := i_le c13
            have r15 : Rg y2 0 9 := by obtain ⟨a1, a2⟩ := r_y2; obtain ⟨b1, b2⟩ := (⟨by decide, by decide⟩ : Rg 0 0 0); have f := i_le c13; exact ⟨by omega, by omega⟩
            have hG := g_pos c13 hG
            refine lv_aload_n hx hb d_X11_sellThen_96 rfl (lv_at hl 0 rfl) ?_
            refine r_getr (r := 464) X hw FL_X11_151 (rfl : KD 400 = _) rfl d_X11_sellThen_97 ?_
            refine lv_iload_n hx hb d_X11_sellThen_100 rfl (lv_at hl 1 rfl) ?_
            refine r_iald X hw (rfl : KD 464 = _) (Rg.vp (b := 19) r_si (by decide)) rfl d_X11_sellThen_101 ?_
            refine lv_seti h_m0 ?_
            refine lv_aload_n hx hb d_X11_sellThen_102 rfl (lv_at hl 0 rfl) ?_
            refine r_getr (r := 465) X hw FL_X11_154 (rfl : KD 400 = _) rfl d_X11_sellThen_103 ?_
            refine lv_iload_n hx hb d_X11_sellThen_106 rfl (lv_at hl 2 rfl) ?_
            refine r_iald X hw (rfl : KD 465 = _) (Rg.vp (b := 9) r15 (by decide)) rfl d_X11_sellThen_107 ?_
            refine lv_topi (fun x16 ex16 => ?_)
            have hG := bnd_use ex16 hG
            have hm17 : v1 465 y2.toNatClampNeg = x16 := ex16.symm
            have r18 : Rg x16 1 2147483647 := by rw [← hm17]; exact ⟨hex (by obtain ⟨_, _⟩ := r15; omega), (rg_any _).2⟩
            refine lv_icmp_ge (tgt := 120) hx hb d_X11_sellThen_108 (by decide) (fun c19 => ?_) (fun c19 => ?_)
            · have f20 := i_le c19
              have hG := g_pos c19 hG
              refine lv_aload_n hx hb d_X11_sellThen_120 rfl (lv_at hl 0 rfl) ?_
              refine r_getr (r := 465) X hw FL_X11_154 (rfl : KD 400 = _) rfl d_X11_sellThen_121 ?_
              refine lv_iload_n hx hb d_X11_sellThen_124 rfl (lv_at hl 2 rfl) ?_
              refine r_iald X hw (rfl : KD 465 = _) (Rg.vp (b := 9) r15 (by decide)) rfl d_X11_sellThen_125 ?_
              refine lv_seti hm17 ?_
              refine lv_istore_n (lv' := [(3, .int x16), (0, .ref (ad 400)), (1, .int si), (2, .int y2)]) hx hb d_X11_sellThen_126 rfl hl (by decide) rfl (fun ls hl => ?_)
              refine lv_aload_n hx hb d_X11_sellThen_127 rfl (lv_at hl 1 rfl) ?_
              refine r_getr (r := 464) X hw FL_X11_151 (rfl : KD 400 = _) rfl d_X11_sellThen_128 ?_
              refine lv_iload_n hx hb d_X11_sellThen_131 rfl (lv_at hl 2 rfl) ?_
              refine lv_dup2_11 hx hb d_X11_sellThen_132 rfl rfl ?_
              refine r_iald X hw (rfl : KD 464 = _) (Rg.vp (b := 19) r_si (by decide)) rfl d_X11_sellThen_133 ?_
              refine lv_seti h_m0 ?_
              refine lv_iload_n hx hb d_X11_sellThen_134 rfl (lv_at hl 0 rfl) ?_
              refine lv_isub hx hb d_X11_sellThen_135 ?_
              refine lv_topi (fun x21 ex21 => ?_)
              have hG := bnd_use ex21 hG
              have r22 : Rg x21 (-2147483646) 2147483646 := rg_sub ex21 r_m0 r18 (by decide) (by decide)
              have s23 : x21.toInt = m0.toInt - (x16 : Int32).toInt := by rw [ex21]; exact i_sub (by obtain ⟨_, _⟩ := r_m0; obtain ⟨_, _⟩ := r18; omega) (by obtain ⟨_, _⟩ := r_m0; obtain ⟨_, _⟩ := r18; omega)
              refine r_iast X hw hS (rfl : KD 464 = _) (Rg.vp (b := 19) r_si (by decide)) rfl d_X11_sellThen_136 (fun H locs hw hS => ?_)
              obtain ⟨v24, ev24⟩ : ∃ z, z = up2 v1 464 si.toNatClampNeg x21 := ⟨_, rfl⟩
              rw [← ev24] at hw
              have hG := bnd_use ev24 hG
              have hI25 : Inv v24 := by rw [ev24]; exact Inv.put0 hI1 _ rfl
              have hK26 : Kp (kp_X11_sellThen_400 si) v v24 := by rw [ev24]; exact Kp.put hK1 _ (by unfold kp_X11_sellThen_400; omega)
              have hm27 : v24 400 55 = x8 := by rw [ev24, up2_n _ _ (by omega)]; exact hm10
              have hm28 : v24 465 y2.toNatClampNeg = x16 := by rw [ev24, up2_n _ _ (by omega)]; exact hm17
              have hm29 : v24 464 si.toNatClampNeg = x21 := by rw [ev24, up2_s]
              refine lv_aload_n hx hb d_X11_sellThen_137 rfl (lv_at hl 1 rfl) ?_
              refine r_getr (r := 465) X hw FL_X11_154 (rfl : KD 400 = _) rfl d_X11_sellThen_138 ?_
              refine lv_iload_n hx hb d_X11_sellThen_141 rfl (lv_at hl 3 rfl) ?_
              refine lv_dup2_11 hx hb d_X11_sellThen_142 rfl rfl ?_
              refine r_iald X hw (rfl : KD 465 = _) (Rg.vp (b := 9) r15 (by decide)) rfl d_X11_sellThen_143 ?_
              refine lv_seti hm28 ?_
              refine lv_iload_n hx hb d_X11_sellThen_144 rfl (lv_at hl 0 rfl) ?_
              refine lv_isub hx hb d_X11_sellThen_145 ?_
              refine lv_topi (fun x30 ex30 => ?_)
              have hG := bnd_use ex30 hG
              have r31 : Rg x30 (-2147483646) 2147483646 := rg_sub ex30 r18 r18 (by decide) (by decide)
              have s32 : x30.toInt = x16.toInt - (x16 : Int32).toInt := by rw [ex30]; exact i_sub (by obtain ⟨_, _⟩ := r18; omega) (by obtain ⟨_, _⟩ := r18; omega)
              refine r_iast X hw hS (rfl : KD 465 = _) (Rg.vp (b := 9) r15 (by decide)) rfl d_X11_sellThen_146 (fun H locs hw hS => ?_)
              obtain ⟨v33, ev33⟩ : ∃ z, z = up2 v24 465 y2.toNatClampNeg x30 := ⟨_, rfl⟩
              rw [← ev33] at hw
              have hG := bnd_use ev33 hG
              have hI34 : Inv v33 := by rw [ev33]; exact Inv.put0 hI25 _ rfl
              have hK35 : Kp (kp_X11_sellThen_400 si) v v33 := by rw [ev33]; exact Kp.put hK26 _ (by unfold kp_X11_sellThen_400; omega)
              have hm36 : v33 400 55 = x8 := by rw [ev33, up2_n _ _ (by omega)]; exact hm27
              have hm37 : v33 464 si.toNatClampNeg = x21 := by rw [ev33, up2_n _ _ (by omega)]; exact hm29
              have hm38 : v33 465 y2.toNatClampNeg = x30 := by rw [ev33, up2_s]
              refine lv_aload_n hx hb d_X11_sellThen_147 rfl (lv_at hl 1 rfl) ?_
              refine lv_dup hx hb d_X11_sellThen_148 rfl ?_
              refine r_geti X hw FL_X11_246 (rfl : KD 400 = _) rfl d_X11_sellThen_149 ?_
              refine lv_topi (fun x39 ex39 => ?_)
              have hG := bnd_use ex39 hG
              refine lv_iload_n hx hb d_X11_sellThen_152 rfl (lv_at hl 0 rfl) ?_
              refine lv_iadd hx hb d_X11_sellThen_153 ?_
              refine lv_topi (fun x40 ex40 => ?_)
              have hG := bnd_use ex40 hG
              refine r_put X hw hS FP_X11_246 (rfl : KD 400 = _) rfl ⟨rfl, rfl⟩ d_X11_sellThen_154 (fun H locs hw hS => ?_)
              obtain ⟨v41, ev41⟩ : ∃ z, z = up2 v33 400 58 x40 := ⟨_, rfl⟩
              rw [← ev41] at hw
              have hG := bnd_use ev41 hG
              have hI42 : Inv v41 := by rw [ev41]; exact Inv.put0 hI34 _ rfl
              have hK43 : Kp (kp_X11_sellThen_400 si) v v41 := by rw [ev41]; exact Kp.put hK35 _ (by unfold kp_X11_sellThen_400; omega)
              have hm44 : v41 400 55 = x8 := by rw [ev41, up2_n _ _ (by omega)]; exact hm36
              have hm45 : v41 464 si.toNatClampNeg = x21 := by rw [ev41, up2_n _ _ (by omega)]; exact hm37
              have hm46 : v41 465 y2.toNatClampNeg = x30 := by rw [ev41, up2_n _ _ (by omega)]; exact hm38
              refine lv_aload_n hx hb d_X11_sellThen_157 rfl (lv_at hl 1 rfl) ?_
              refine lv_dup hx hb d_X11_sellThen_158 rfl ?_
              refine r_geti X hw FL_X11_249 (rfl : KD 400 = _) rfl d_X11_sellThen_159 ?_
              refine lv_topi (fun x47 ex47 => ?_)
              have hG := bnd_use ex47 hG
              refine lv_iload_n hx hb d_X11_sellThen_162 rfl (lv_at hl 0 rfl) ?_
              refine lv_aload_n hx hb d_X11_sellThen_163 rfl (lv_at hl 1 rfl) ?_
              refine r_getr (r := 450) X hw FL_X11_130 (rfl : KD 400 = _) rfl d_X11_sellThen_164 ?_
              refine lv_iconst (v := 4) hx hb d_X11_sellThen_167 (by decide) ?_
              refine lv_iload_n hx hb d_X11_sellThen_168 rfl (lv_at hl 2 rfl) ?_
              refine lv_imul hx hb d_X11_sellThen_169 ?_
              refine lv_topi (fun x48 ex48 => ?_)
              have hG := bnd_use ex48 hG
              have r49 : Rg x48 0 76 := rg_mulc ex48 (⟨by decide, by decide⟩ : Rg 4 4 4) r_si (by decide) (by decide) (by decide)
              have s50 : x48.toInt = 4 * si.toInt := rg_mule ex48 r_si rfl (by decide) (by decide)
              refine lv_iconst (v := 2) hx hb d_X11_sellThen_170 (by decide) ?_
              refine lv_iadd hx hb d_X11_sellThen_171 ?_
              refine lv_topi (fun x51 ex51 => ?_)
              have hG := bnd_use ex51 hG
              have r52 : Rg x51 2 78 := rg_add ex51 r49 (⟨by decide, by decide⟩ : Rg 2 2 2) (by decide) (by decide)
              have s53 : x51.toInt = x48.toInt + (2 : Int32).toInt := by rw [ex51]; exact i_add (by obtain ⟨_, _⟩ := r49; obtain ⟨_, _⟩ := (⟨by decide, by decide⟩ : Rg 2 2 2); omega) (by obtain ⟨_, _⟩ := r49; obtain ⟨_, _⟩ := (⟨by decide, by decide⟩ : Rg 2 2 2); omega)
              have s53l : (2 : Int32).toInt = 2 := rfl
              refine r_iald X hw (rfl : KD 450 = _) (Rg.vp (b := 78) (rg_w r52 (by decide) (by decide)) (by decide)) rfl d_X11_sellThen_172 ?_
              refine lv_topi (fun x54 ex54 => ?_)
              have hG := bnd_use ex54 hG
              refine lv_aload_n hx hb d_X11_sellThen_173 rfl (lv_at hl 1 rfl) ?_
              refine r_getr (r := 452) X hw FL_X11_136 (rfl : KD 400 = _) rfl d_X11_sellThen_174 ?_
              refine lv_iload_n hx hb d_X11_sellThen_177 rfl (lv_at hl 3 rfl) ?_
              refine r_iald X hw (rfl : KD 452 = _) (Rg.vp (b := 9) r15 (by decide)) rfl d_X11_sellThen_178 ?_
              refine lv_topi (fun x55 ex55 => ?_)
              have hG := bnd_use ex55 hG
              refine lv_iadd hx hb d_X11_sellThen_179 ?_
              refine lv_topi (fun x56 ex56 => ?_)
              have hG := bnd_use ex56 hG
              refine lv_iconst (v := 2) hx hb d_X11_sellThen_180 (by decide) ?_
              refine lv_idiv hx hb d_X11_sellThen_181 (by decide) ?_
              refine lv_topi (fun x57 ex57 => ?_)
              have hG := bnd_use ex57 hG
              refine lv_imul hx hb d_X11_sellThen_182 ?_
              refine lv_topi (fun x58 ex58 => ?_)
              have hG := bnd_use ex58 hG
              refine lv_iadd hx hb d_X11_sellThen_183 ?_
              refine lv_topi (fun x59 ex59 => ?_)
              have hG := bnd_use ex59 hG
              refine r_put X hw hS FP_X11_249 (rfl : KD 400 = _) rfl ⟨rfl, rfl⟩ d_X11_sellThen_184 (fun H locs hw hS => ?_)
              obtain ⟨v60, ev60⟩ : ∃ z, z = up2 v41 400 59 x59 := ⟨_, rfl⟩
              rw [← ev60] at hw
              have hG := bnd_use ev60 hG
              have hI61 : Inv v60 := by rw [ev60]; exact Inv.put0 hI42 _ rfl
              have hK62 : Kp (kp_X11_sellThen_400 si) v v60 := by rw [ev60]; exact Kp.put hK43 _ (by unfold kp_X11_sellThen_400; omega)
              have hm63 : v60 400 55 = x8 := by rw [ev60, up2_n _ _ (by omega)]; exact hm44
              have hm64 : v60 464 si.toNatClampNeg = x21 := by rw [ev60, up2_n _ _ (by omega)]; exact hm45
              have hm65 : v60 465 y2.toNatClampNeg = x30 := by rw [ev60, up2_n _ _ (by omega)]; exact hm46
              refine lv_goto (tgt := 0) hx hb d_X11_sellThen_187 (by decide) ?_
              exact ih0 v60 _ _ _ (by have q_ := r_si; obtain ⟨_, _⟩ := q_; have q_ := r15; obtain ⟨_, _⟩ := q_; have q_ := r_y3; obtain ⟨_, _⟩ := q_; have q_ := r_m0; obtain ⟨_, _⟩ := q_; have q_ := r9; obtain ⟨_, _⟩ := q_; have q_ := r18; obtain ⟨_, _⟩ := q_; have q_ := r22; obtain ⟨_, _⟩ := q_; have q_ := r31; obtain ⟨_, _⟩ := q_; have q_ := r49; obtain ⟨_, _⟩ := q_; have q_ := r52; obtain ⟨_, _⟩ := q_; have q_ := congrArg Int32.toInt hm63; have q_ := congrArg Int32.toInt hm64; have q_ := congrArg Int32.toInt hm65; have q_ := rg_any (v60 464 si.toNatClampNeg); obtain ⟨_, _⟩ := q_; omega) hI61 hK62 hG hw hS (lv_sub hl [1, 2] rfl)
            · have f66 := i_nle c19
              have r67 : Rg m0 1 2147483646 := by obtain ⟨a1, a2⟩ := r_m0; obtain ⟨b1, b2⟩ := r18; have f := i_nle c19; exact ⟨by omega, by omega⟩
              have r68 : Rg x16 2 2147483647 := by obtain ⟨a1, a2⟩ := r_m0; obtain ⟨b1, b2⟩ := r18; have f := i_nle c19; exact ⟨by omega, by omega⟩
              have hG := g_neg c19 hG
              refine lv_aload_n hx hb d_X11_sellThen_111 rfl (lv_at hl 0 rfl) ?_
              refine r_getr (r := 464) X hw FL_X11_151 (rfl : KD 400 = _) rfl d_X11_sellThen_112 ?_
              refine lv_iload_n hx hb d_X11_sellThen_115 rfl (lv_at hl 1 rfl) ?_
              refine r_iald X hw (rfl : KD 464 = _) (Rg.vp (b := 19) r_si (by decide)) rfl d_X11_sellThen_116 ?_
              refine lv_seti h_m0 ?_
              refine lv_goto (tgt := 126) hx hb d_X11_sellThen_117 (by decide) ?_
              refine lv_istore_n (lv' := [(3, .int m0), (0, .ref (ad 400)), (1, .int si), (2, .int y2)]) hx hb d_X11_sellThen_126 rfl hl (by decide) rfl (fun ls hl => ?_)
              refine lv_aload_n hx hb d_X11_sellThen_127 rfl (lv_at hl 1 rfl) ?_
              refine r_getr (r := 464) X hw FL_X11_151 (rfl : KD 400 = _) rfl d_X11_sellThen_128 ?_
              refine lv_iload_n hx hb d_X11_sellThen_131 rfl (lv_at hl 2 rfl) ?_
              refine lv_dup2_11 hx hb d_X11_sellThen_132 rfl rfl ?_
              refine r_iald X hw (rfl : KD 464 = _) (Rg.vp (b := 19) r_si (by decide)) rfl d_X11_sellThen_133 ?_
              refine lv_seti h_m0 ?_
              refine lv_iload_n hx hb d_X11_sellThen_134 rfl (lv_at hl 0 rfl) ?_
              refine lv_isub hx hb d_X11_sellThen_135 ?_
              refine lv_topi (fun x69 ex69 => ?_)
              have hG := bnd_use ex69 hG
              have r70 : Rg x69 (-2147483645) 2147483645 := rg_sub ex69 r67 r67 (by decide) (by decide)
              have s71 : x69.toInt = m0.toInt - (m0 : Int32).toInt := by rw [ex69]; exact i_sub (by obtain ⟨_, _⟩ := r67; omega) (by obtain ⟨_, _⟩ := r67; omega)
              refine r_iast X hw hS (rfl : KD 464 = _) (Rg.vp (b := 19) r_si (by decide)) rfl d_X11_sellThen_136 (fun H locs hw hS => ?_)
              obtain ⟨v72, ev72⟩ : ∃ z, z = up2 v1 464 si.toNatClampNeg x69 := ⟨_, rfl⟩
              rw [← ev72] at hw
              have hG := bnd_use ev72 hG
              have hI73 : Inv v72 := by rw [ev72]; exact Inv.put0 hI1 _ rfl
              have hK74 : Kp (kp_X11_sellThen_400 si) v v72 := by rw [ev72]; exact Kp.put hK1 _ (by unfold kp_X11_sellThen_400; omega)
              have hm75 : v72 400 55 = x8 := by rw [ev72, up2_n _ _ (by omega)]; exact hm10
              have hm76 : v72 465 y2.toNatClampNeg = x16 := by rw [ev72, up2_n _ _ (by omega)]; exact hm17
              have hm77 : v72 464 si.toNatClampNeg = x69 := by rw [ev72, up2_s]
              refine lv_aload_n hx hb d_X11_sellThen_137 rfl (lv_at hl 1 rfl) ?_
              refine r_getr (r := 465) X hw FL_X11_154 (rfl : KD 400 = _) rfl d_X11_sellThen_138 ?_
              refine lv_iload_n hx hb d_X11_sellThen_141 rfl (lv_at hl 3 rfl) ?_
              refine lv_dup2_11 hx hb d_X11_sellThen_142 rfl rfl ?_
              refine r_iald X hw (rfl : KD 465 = _) (Rg.vp (b := 9) r15 (by decide)) rfl d_X11_sellThen_143 ?_
              refine lv_seti hm76 ?_
              refine lv_iload_n hx hb d_X11_sellThen_144 rfl (lv_at hl 0 rfl) ?_
              refine lv_isub hx hb d_X11_sellThen_145 ?_
              refine lv_topi (fun x78 ex78 => ?_)
              have hG := bnd_use ex78 hG
              have r79 : Rg x78 (-2147483644) 2147483646 := rg_sub ex78 r68 r67 (by decide) (by decide)
              have s80 : x78.toInt = x16.toInt - (m0 : Int32).toInt := by rw [ex78]; exact i_sub (by obtain ⟨_, _⟩ := r68; obtain ⟨_, _⟩ := r67; omega) (by obtain ⟨_, _⟩ := r68; obtain ⟨_, _⟩ := r67; omega)
              refine r_iast X hw hS (rfl : KD 465 = _) (Rg.vp (b := 9) r15 (by decide)) rfl d_X11_sellThen_146 (fun H locs hw hS => ?_)
              obtain ⟨v81, ev81⟩ : ∃ z, z = up2 v72 465 y2.toNatClampNeg x78 := ⟨_, rfl⟩
              rw [← ev81] at hw
              have hG := bnd_use ev81 hG
              have hI82 : Inv v81 := by rw [ev81]; exact Inv.put0 hI73 _ rfl
              have hK83 : Kp (kp_X11_sellThen_400 si) v v81 := by rw [ev81]; exact Kp.put hK74 _ (by unfold kp_X11_sellThen_400; omega)
              have hm84 : v81 400 55 = x8 := by rw [ev81, up2_n _ _ (by omega)]; exact hm75
              have hm85 : v81 464 si.toNatClampNeg = x69 := by rw [ev81, up2_n _ _ (by omega)]; exact hm77
              have hm86 : v81 465 y2.toNatClampNeg = x78 := by rw [ev81, up2_s]
              refine lv_aload_n hx hb d_X11_sellThen_147 rfl (lv_at hl 1 rfl) ?_
              refine lv_dup hx hb d_X11_sellThen_148 rfl ?_
              refine r_geti X hw FL_X11_246 (rfl : KD 400 = _) rfl d_X11_sellThen_149 ?_
              refine lv_topi (fun x87 ex87 => ?_)
              have hG := bnd_use ex87 hG
              refine lv_iload_n hx hb d_X11_sellThen_152 rfl (lv_at hl 0 rfl) ?_
              refine lv_iadd hx hb d_X11_sellThen_153 ?_
              refine lv_topi (fun x88 ex88 => ?_)
              have hG := bnd_use ex88 hG
              refine r_put X hw hS FP_X11_246 (rfl : KD 400 = _) rfl ⟨rfl, rfl⟩ d_X11_sellThen_154 (fun H locs hw hS => ?_)
              obtain ⟨v89, ev89⟩ : ∃ z, z = up2 v81 400 58 x88 := ⟨_, rfl⟩
              rw [← ev89] at hw
              have hG := bnd_use ev89 hG
              have hI90 : Inv v89 := by rw [ev89]; exact Inv.put0 hI82 _ rfl
              have hK91 : Kp (kp_X11_sellThen_400 si) v v89 := by rw [ev89]; exact Kp.put hK83 _ (by unfold kp_X11_sellThen_400; omega)
              have hm92 : v89 400 55 = x8 := by rw [ev89, up2_n _ _ (by omega)]; exact hm84
              have hm93 : v89 464 si.toNatClampNeg = x69 := by rw [ev89, up2_n _ _ (by omega)]; exact hm85
              have hm94 : v89 465 y2.toNatClampNeg = x78 := by rw [ev89, up2_n _ _ (by omega)]; exact hm86
              refine lv_aload_n hx hb d_X11_sellThen_157 rfl (lv_at hl 1 rfl) ?_
              refine lv_dup hx hb d_X11_sellThen_158 rfl ?_
              refine r_geti X hw FL_X11_249 (rfl : KD 400 = _) rfl d_X11_sellThen_159 ?_
              refine lv_topi (fun x95 ex95 => ?_)
              have hG := bnd_use ex95 hG
              refine lv_iload_n hx hb d_X11_sellThen_162 rfl (lv_at hl 0 rfl) ?_
              refine lv_aload_n hx hb d_X11_sellThen_163 rfl (lv_at hl 1 rfl) ?_
              refine r_getr (r := 450) X hw FL_X11_130 (rfl : KD 400 = _) rfl d_X11_sellThen_164 ?_
              refine lv_iconst (v := 4) hx hb d_X11_sellThen_167 (by decide) ?_
              refine lv_iload_n hx hb d_X11_sellThen_168 rfl (lv_at hl 2 rfl) ?_
              refine lv_imul hx hb d_X11_sellThen_169 ?_
              refine lv_topi (fun x96 ex96 => ?_)
              have hG := bnd_use ex96 hG
              have r97 : Rg x96 0 76 := rg_mulc ex96 (⟨by decide, by decide⟩ : Rg 4 4 4) r_si (by decide) (by decide) (by decide)
              have s98 : x96.toInt = 4 * si.toInt := rg_mule ex96 r_si rfl (by decide) (by decide)
              refine lv_iconst (v := 2) hx hb d_X11_sellThen_170 (by decide) ?_
              refine lv_iadd hx hb d_X11_sellThen_171 ?_
              refine lv_topi (fun x99 ex99 => ?_)
              have hG := bnd_use ex99 hG
              have r100 : Rg x99 2 78 := rg_add ex99 r97 (⟨by decide, by decide⟩ : Rg 2 2 2) (by decide) (by decide)
              have s101 : x99.toInt = x96.toInt + (2 : Int32).toInt := by rw [ex99]; exact i_add (by obtain ⟨_, _⟩ := r97; obtain ⟨_, _⟩ := (⟨by decide, by decide⟩ : Rg 2 2 2); omega) (by obtain ⟨_, _⟩ := r97; obtain ⟨_, _⟩ := (⟨by decide, by decide⟩ : Rg 2 2 2); omega)
              have s101l : (2 : Int32).toInt = 2 := rfl
              refine r_iald X hw (rfl : KD 450 = _) (Rg.vp (b := 78) (rg_w r100 (by decide) (by decide)) (by decide)) rfl d_X11_sellThen_172 ?_
              refine lv_topi (fun x102 ex102 => ?_)
              have hG := bnd_use ex102 hG
              refine lv_aload_n hx hb d_X11_sellThen_173 rfl (lv_at hl 1 rfl) ?_
              refine r_getr (r := 452) X hw FL_X11_136 (rfl : KD 400 = _) rfl d_X11_sellThen_174 ?_
              refine lv_iload_n hx hb d_X11_sellThen_177 rfl (lv_at hl 3 rfl) ?_
              refine r_iald X hw (rfl : KD 452 = _) (Rg.vp (b := 9) r15 (by decide)) rfl d_X11_sellThen_178 ?_
              refine lv_topi (fun x103 ex103 => ?_)
              have hG := bnd_use ex103 hG
              refine lv_iadd hx hb d_X11_sellThen_179 ?_
              refine lv_topi (fun x104 ex104 => ?_)
              have hG := bnd_use ex104 hG
              refine lv_iconst (v := 2) hx hb d_X11_sellThen_180 (by decide) ?_
              refine lv_idiv hx hb d_X11_sellThen_181 (by decide) ?_
              refine lv_topi (fun x105 ex105 => ?_)
              have hG := bnd_use ex105 hG
              refine lv_imul hx hb d_X11_sellThen_182 ?_
              refine lv_topi (fun x106 ex106 => ?_)
              have hG := bnd_use ex106 hG
              refine lv_iadd hx hb d_X11_sellThen_183 ?_
              refine lv_topi (fun x107 ex107 => ?_)
              have hG := bnd_use ex107 hG
              refine r_put X hw hS FP_X11_249 (rfl : KD 400 = _) rfl ⟨rfl, rfl⟩ d_X11_sellThen_184 (fun H locs hw hS => ?_)
              obtain ⟨v108, ev108⟩ : ∃ z, z = up2 v89 400 59 x107 := ⟨_, rfl⟩
              rw [← ev108] at hw
              have hG := bnd_use ev108 hG
              have hI109 : Inv v108 := by rw [ev108]; exact Inv.put0 hI90 _ rfl
              have hK110 : Kp (kp_X11_sellThen_400 si) v v108 := by rw [ev108]; exact Kp.put hK91 _ (by unfold kp_X11_sellThen_400; omega)
              have hm111 : v108 400 55 = x8 := by rw [ev108, up2_n _ _ (by omega)]; exact hm92
              have hm112 : v108 464 si.toNatClampNeg = x69 := by rw [ev108, up2_n _ _ (by omega)]; exact hm93
              have hm113 : v108 465 y2.toNatClampNeg = x78 := by rw [ev108, up2_n _ _ (by omega)]; exact hm94
              refine lv_goto (tgt := 0) hx hb d_X11_sellThen_187 (by decide) ?_
              exact ih0 v108 _ _ _ (by have q_ := r_si; obtain ⟨_, _⟩ := q_; have q_ := r15; obtain ⟨_, _⟩ := q_; have q_ := r_y3; obtain ⟨_, _⟩ := q_; have q_ := r67; obtain ⟨_, _⟩ := q_; have q_ := r9; obtain ⟨_, _⟩ := q_; have q_ := r68; obtain ⟨_, _⟩ := q_; have q_ := r70; obtain ⟨_, _⟩ := q_; have q_ := r79; obtain ⟨_, _⟩ := q_; have q_ := r97; obtain ⟨_, _⟩ := q_; have q_ := r100; obtain ⟨_, _⟩ := q_; have q_ := congrArg Int32.toInt hm111; have q_ := congrArg Int32.toInt hm112; have q_ := congrArg Int32.toInt hm113; have q_ := rg_any (v108 464 si.toNatClampNeg); obtain ⟨_, _⟩ := q_; omega) hI109 hK110 hG hw hS (lv_sub hl [1, 2] rfl)
          · have f114 := i_nle c13
            have r115 : Rg y2 (-1) (-1) := by obtain ⟨a1, a2⟩ := r_y2; obtain ⟨b1, b2⟩ := (⟨by decide, by decide⟩ : Rg 0 0 0); have f := i_nle c13; exact ⟨by omega, by omega⟩
            have hG := g_neg c13 hG
            exact r_vret X hr hlocks hw hS ⟨⟨hI1, hK1⟩, hG.trans eRR.symm⟩ d_X11_sellThen_95
        · have f116 := i_nle c11
          have r117 : Rg y3 0 9 := by obtain ⟨a1, a2⟩ := r_y3; obtain ⟨b1, b2⟩ := r9; have f := i_nle c11; exact ⟨by omega, by omega⟩
          have r118 : Rg x8 1 10 := by obtain ⟨a1, a2⟩ := r_y3; obtain ⟨b1, b2⟩ := r9; have f := i_nle c11; exact ⟨by omega, by omega⟩
          have hG := g_neg c11 hG
          refine lv_aload_n hx hb d_X11_sellThen_21 rfl (lv_at hl 0 rfl) ?_
          refine r_getr (r := 418) X hw FL_X11_52 (rfl : KD 400 = _) rfl d_X11_sellThen_22 ?_
          refine lv_iload_n hx hb d_X11_sellThen_25 rfl (lv_at hl 3 rfl) ?_
          refine r_iald X hw (rfl : KD 418 = _) (Rg.vp (b := 9) r117 (by decide)) rfl d_X11_sellThen_26 ?_
          refine lv_topi (fun x119 ex119 => ?_)
          have hG := bnd_use ex119 hG
          refine lv_aload_n hx hb d_X11_sellThen_27 rfl (lv_at hl 0 rfl) ?_
          refine r_getr (r := 404) X hw FL_X11_13 (rfl : KD 400 = _) rfl d_X11_sellThen_28 ?_
          refine lv_iload_n hx hb d_X11_sellThen_31 rfl (lv_at hl 1 rfl) ?_
          refine r_iald X hw (rfl : KD 404 = _) (Rg.vp (b := 19) r_si (by decide)) rfl d_X11_sellThen_32 ?_
          refine lv_topi (fun x120 ex120 => ?_)
          have hG := bnd_use ex120 hG
          refine lv_icmp_ne (tgt := 85) hx hb d_X11_sellThen_33 (by decide) (fun c121 => ?_) (fun c121 => ?_)
          · have f122 := i_ne c121
            have hG := g_neg c121 hG
            obtain ⟨x123, ex123⟩ : ∃ y : Int32, y = y3 + 1 := ⟨_, rfl⟩
            have hG := bnd_use ex123 hG
            refine lv_iinc (v := x123) (lv' := [(3, .int x123), (0, .ref (ad 400)), (1, .int si), (2, .int y2)]) hx hb d_X11_sellThen_85 hl (k := 3) rfl (by rw [ex123]; rfl) (by decide) rfl (fun ls hl => ?_)
            have r124 : Rg x123 1 10 := rg_add ex123 r117 (⟨by decide, by decide⟩ : Rg 1 1 1) (by decide) (by decide)
            have s125 : x123.toInt = y3.toInt + (1 : Int32).toInt := by rw [ex123]; exact i_add (by obtain ⟨_, _⟩ := r117; obtain ⟨_, _⟩ := (⟨by decide, by decide⟩ : Rg 1 1 1); omega) (by obtain ⟨_, _⟩ := r117; obtain ⟨_, _⟩ := (⟨by decide, by decide⟩ : Rg 1 1 1); omega)
            have s125l : (1 : Int32).toInt = 1 := rfl
            refine lv_goto (tgt := 13) hx hb d_X11_sellThen_88 (by decide) ?_
            exact ih1 y2 x123 m0 v1 _ _ _ (by have q_ := r_si; obtain ⟨_, _⟩ := q_; have q_ := r_y2; obtain ⟨_, _⟩ := q_; have q_ := r117; obtain ⟨_, _⟩ := q_; have q_ := r_m0; obtain ⟨_, _⟩ := q_; have q_ := r118; obtain ⟨_, _⟩ := q_; have q_ := r124; obtain ⟨_, _⟩ := q_; have q_ := congrArg Int32.toInt h_m0; have q_ := congrArg Int32.toInt hm10; omega) r_y2 (rg_w r124 (by decide) (by decide)) r_m0 hI1 hK1 h_m0 (by have q_ := r_si; obtain ⟨_, _⟩ := q_; have q_ := r_y2; obtain ⟨_, _⟩ := q_; have q_ := r117; obtain ⟨_, _⟩ := q_; have q_ := r_m0; obtain ⟨_, _⟩ := q_; have q_ := r118; obtain ⟨_, _⟩ := q_; have q_ := r124; obtain ⟨_, _⟩ := q_; exact hex) hG hw hS (lv_sub hl [1, 2, 3, 0] rfl)
          · have f126 := i_eq c121
            have hG := g_pos c121 hG
            refine lv_aload_n hx hb d_X11_sellThen_36 rfl (lv_at hl 0 rfl) ?_
            refine r_getr (r := 465) X hw FL_X11_154 (rfl : KD 400 = _) rfl d_X11_sellThen_37 ?_
            refine lv_iload_n hx hb d_X11_sellThen_40 rfl (lv_at hl 3 rfl) ?_
            refine r_iald X hw (rfl : KD 465 = _) (Rg.vp (b := 9) r117 (by decide)) rfl d_X11_sellThen_41 ?_
            refine lv_topi (fun x127 ex127 => ?_)
            have hG := bnd_use ex127 hG
            have hm128 : v1 465 y3.toNatClampNeg = x127 := ex127.symm
            refine lv_if_le (tgt := 85) hx hb d_X11_sellThen_42 (by decide) (fun c129 => ?_) (fun c129 => ?_)
            · have f130 := i_le c129
              have r131 : Rg x127 (-2147483648) 0 := by obtain ⟨a1, a2⟩ := (rg_any x127); obtain ⟨b1, b2⟩ := (⟨by decide, by decide⟩ : Rg 0 0 0); have f := i_le c129; exact ⟨by omega, by omega⟩
              have hG := g_pos c129 hG
              obtain ⟨x132, ex132⟩ : ∃ y : Int32, y = y3 + 1 := ⟨_, rfl⟩
              have hG := bnd_use ex132 hG
              refine lv_iinc (v := x132) (lv' := [(3, .int x132), (0, .ref (ad 400)), (1, .int si), (2, .int y2)]) hx hb d_X11_sellThen_85 hl (k := 3) rfl (by rw [ex132]; rfl) (by decide) rfl (fun ls hl => ?_)
              have r133 : Rg x132 1 10 := rg_add ex132 r117 (⟨by decide, by decide⟩ : Rg 1 1 1) (by decide) (by decide)
              have s134 : x132.toInt = y3.toInt + (1 : Int32).toInt := by rw [ex132]; exact i_add (by obtain ⟨_, _⟩ := r117; obtain ⟨_, _⟩ := (⟨by decide, by decide⟩ : Rg 1 1 1); omega) (by obtain ⟨_, _⟩ := r117; obtain ⟨_, _⟩ := (⟨by decide, by decide⟩ : Rg 1 1 1); omega)
              have s134l : (1 : Int32).toInt = 1 := rfl
              refine lv_goto (tgt := 13) hx hb d_X11_sellThen_88 (by decide) ?_
              exact ih1 y2 x132 m0 v1 _ _ _ (by have q_ := r_si; obtain ⟨_, _⟩ := q_; have q_ := r_y2; obtain ⟨_, _⟩ := q_; have q_ := r117; obtain ⟨_, _⟩ := q_; have q_ := r_m0; obtain ⟨_, _⟩ := q_; have q_ := r118; obtain ⟨_, _⟩ := q_; have q_ := r131; obtain ⟨_, _⟩ := q_; have q_ := r133; obtain ⟨_, _⟩ := q_; have q_ := congrArg Int32.toInt h_m0; have q_ := congrArg Int32.toInt hm10; have q_ := congrArg Int32.toInt hm128; omega) r_y2 (rg_w r133 (by decide) (by decide)) r_m0 hI1 hK1 h_m0 (by have q_ := r_si; obtain ⟨_, _⟩ := q_; have q_ := r_y2; obtain ⟨_, _⟩ := q_; have q_ := r117; obtain ⟨_, _⟩ := q_; have q_ := r_m0; obtain ⟨_, _⟩ := q_; have q_ := r118; obtain ⟨_, _⟩ := q_; have q_ := r131; obtain ⟨_, _⟩ := q_; have q_ := r133; obtain ⟨_, _⟩ := q_; exact hex) hG hw hS (lv_sub hl [1, 2, 3, 0] rfl)
            · have f135 := i_nle c129
              have r136 : Rg x127 1 2147483647 := by obtain ⟨a1, a2⟩ := (rg_any x127); obtain ⟨b1, b2⟩ := (⟨by decide, by decide⟩ : Rg 0 0 0); have f := i_nle c129; exact ⟨by omega, by omega⟩
              have hG := g_neg c129 hG
              refine lv_aload_n hx hb d_X11_sellThen_45 rfl (lv_at hl 0 rfl) ?_
              refine r_getr (r := 452) X hw FL_X11_136 (rfl : KD 400 = _) rfl d_X11_sellThen_46 ?_
              refine lv_iload_n hx hb d_X11_sellThen_49 rfl (lv_at hl 3 rfl) ?_
              refine r_iald X hw (rfl : KD 452 = _) (Rg.vp (b := 9) r117 (by decide)) rfl d_X11_sellThen_50 ?_
              refine lv_topi (fun x137 ex137 => ?_)
              have hG := bnd_use ex137 hG
              refine lv_aload_n hx hb d_X11_sellThen_51 rfl (lv_at hl 0 rfl) ?_
              refine r_getr (r := 450) X hw FL_X11_130 (rfl : KD 400 = _) rfl d_X11_sellThen_52 ?_
              refine lv_iconst (v := 4) hx hb d_X11_sellThen_55 (by decide) ?_
              refine lv_iload_n hx hb d_X11_sellThen_56 rfl (lv_at hl 1 rfl) ?_
              refine lv_imul hx hb d_X11_sellThen_57 ?_
              refine lv_topi (fun x138 ex138 => ?_)
              have hG := bnd_use ex138 hG
              have r139 : Rg x138 0 76 := rg_mulc ex138 (⟨by decide, by decide⟩ : Rg 4 4 4) r_si (by decide) (by decide) (by decide)
              have s140 : x138.toInt = 4 * si.toInt := rg_mule ex138 r_si rfl (by decide) (by decide)
              refine lv_iconst (v := 2) hx hb d_X11_sellThen_58 (by decide) ?_
              refine lv_iadd hx hb d_X11_sellThen_59 ?_
              refine lv_topi (fun x141 ex141 => ?_)
              have hG := bnd_use ex141 hG
              have r142 : Rg x141 2 78 := rg_add ex141 r139 (⟨by decide, by decide⟩ : Rg 2 2 2) (by decide) (by decide)
              have s143 : x141.toInt = x138.toInt + (2 : Int32).toInt := by rw [ex141]; exact i_add (by obtain ⟨_, _⟩ := r139; obtain ⟨_, _⟩ := (⟨by decide, by decide⟩ : Rg 2 2 2); omega) (by obtain ⟨_, _⟩ := r139; obtain ⟨_, _⟩ := (⟨by decide, by decide⟩ : Rg 2 2 2); omega)
              have s143l : (2 : Int32).toInt = 2 := rfl
              refine r_iald X hw (rfl : KD 450 = _) (Rg.vp (b := 78) (rg_w r142 (by decide) (by decide)) (by decide)) rfl d_X11_sellThen_60 ?_
              refine lv_topi (fun x144 ex144 => ?_)
              have hG := bnd_use ex144 hG
              refine lv_icmp_lt (tgt := 85) hx hb d_X11_sellThen_61 (by decide) (fun c145 => ?_) (fun c145 => ?_)
              · have f146 := i_lt c145
                have hG := g_pos c145 hG
                obtain ⟨x147, ex147⟩ : ∃ y : Int32, y = y3 + 1 := ⟨_, rfl⟩
                have hG := bnd_use ex147 hG
                refine lv_iinc (v := x147) (lv' := [(3, .int x147), (0, .ref (ad 400)), (1, .int si), (2, .int y2)]) hx hb d_X11_sellThen_85 hl (k := 3) rfl (by rw [ex147]; rfl) (by decide) rfl (fun ls hl => ?_)
                have r148 : Rg x147 1 10 := rg_add ex147 r117 (⟨by decide, by decide⟩ : Rg 1 1 1) (by decide) (by decide)
                have s149 : x147.toInt = y3.toInt + (1 : Int32).toInt := by rw [ex147]; exact i_add (by obtain ⟨_, _⟩ := r117; obtain ⟨_, _⟩ := (⟨by decide, by decide⟩ : Rg 1 1 1); omega) (by obtain ⟨_, _⟩ := r117; obtain ⟨_, _⟩ := (⟨by decide, by decide⟩ : Rg 1 1 1); omega)
                have s149l : (1 : Int32).toInt = 1 := rfl
                refine lv_goto (tgt := 13) hx hb d_X11_sellThen_88 (by decide) ?_
                exact ih1 y2 x147 m0 v1 _ _ _ (by have q_ := r_si; obtain ⟨_, _⟩ := q_; have q_ := r_y2; obtain ⟨_, _⟩ := q_; have q_ := r117; obtain ⟨_, _⟩ := q_; have q_ := r_m0; obtain ⟨_, _⟩ := q_; have q_ := r118; obtain ⟨_, _⟩ := q_; have q_ := r136; obtain ⟨_, _⟩ := q_; have q_ := r139; obtain ⟨_, _⟩ := q_; have q_ := r142; obtain ⟨_, _⟩ := q_; have q_ := r148; obtain ⟨_, _⟩ := q_; have q_ := congrArg Int32.toInt h_m0; have q_ := congrArg Int32.toInt hm10; have q_ := congrArg Int32.toInt hm128; omega) r_y2 (rg_w r148 (by decide) (by decide)) r_m0 hI1 hK1 h_m0 (by have q_ := r_si; obtain ⟨_, _⟩ := q_; have q_ := r_y2; obtain ⟨_, _⟩ := q_; have q_ := r117; obtain ⟨_, _⟩ := q_; have q_ := r_m0; obtain ⟨_, _⟩ := q_; have q_ := r118; obtain ⟨_, _⟩ := q_; have q_ := r136; obtain ⟨_, _⟩ := q_; have q_ := r139; obtain ⟨_, _⟩ := q_; have q_ := r142; obtain ⟨_, _⟩ := q_; have q_ := r148; obtain ⟨_, _⟩ := q_; exact hex) hG hw hS (lv_sub hl [1, 2, 3, 0] rfl)
              · have f150 := i_nlt c145
                have hG := g_neg c145 hG
                refine lv_iload_n hx hb d_X11_sellThen_64 rfl (lv_at hl 2 rfl) ?_
                refine lv_if_lt (tgt := 83) hx hb d_X11_sellThen_65 (by decide) (fun c151 => ?_) (fun c151 => ?_)
                · have f152 := i_lt c151
                  have r153 : Rg y2 (-1) (-1) := by obtain ⟨a1, a2⟩ := r_y2; obtain ⟨b1, b2⟩ := (⟨by decide, by decide⟩ : Rg 0 0 0); have f := i_lt c151; exact ⟨by omega, by omega⟩
                  have hG := g_pos c151 hG
                  refine lv_iload_n hx hb d_X11_sellThen_83 rfl (lv_at hl 3 rfl) ?_
                  refine lv_istore_n (lv' := [(2, .int y3), (0, .ref (ad 400)), (1, .int si), (3, .int y3)]) hx hb d_X11_sellThen_84 rfl hl (by decide) rfl (fun ls hl => ?_)
                  obtain ⟨x154, ex154⟩ : ∃ y : Int32, y = y3 + 1 := ⟨_, rfl⟩
                  have hG := bnd_use ex154 hG
                  refine lv_iinc (v := x154) (lv' := [(3, .int x154), (2, .int y3), (0, .ref (ad 400)), (1, .int si)]) hx hb d_X11_sellThen_85 hl (k := 3) rfl (by rw [ex154]; rfl) (by decide) rfl (fun ls hl => ?_)
                  have r155 : Rg x154 1 10 := rg_add ex154 r117 (⟨by decide, by decide⟩ : Rg 1 1 1) (by decide) (by decide)
                  have s156 : x154.toInt = y3.toInt + (1 : Int32).toInt := by rw [ex154]; exact i_add (by obtain ⟨_, _⟩ := r117; obtain ⟨_, _⟩ := (⟨by decide, by decide⟩ : Rg 1 1 1); omega) (by obtain ⟨_, _⟩ := r117; obtain ⟨_, _⟩ := (⟨by decide, by decide⟩ : Rg 1 1 1); omega)
                  have s156l : (1 : Int32).toInt = 1 := rfl
                  refine lv_goto (tgt := 13) hx hb d_X11_sellThen_88 (by decide) ?_
                  exact ih1 y3 x154 m0 v1 _ _ _ (by have q_ := r_si; obtain ⟨_, _⟩ := q_; have q_ := r153; obtain ⟨_, _⟩ := q_; have q_ := r117; obtain ⟨_, _⟩ := q_; have q_ := r_m0; obtain ⟨_, _⟩ := q_; have q_ := r118; obtain ⟨_, _⟩ := q_; have q_ := r136; obtain ⟨_, _⟩ := q_; have q_ := r139; obtain ⟨_, _⟩ := q_; have q_ := r142; obtain ⟨_, _⟩ := q_; have q_ := r155; obtain ⟨_, _⟩ := q_; have q_ := congrArg Int32.toInt h_m0; have q_ := congrArg Int32.toInt hm10; have q_ := congrArg Int32.toInt hm128; omega) (rg_w r117 (by decide) (by decide)) (rg_w r155 (by decide) (by decide)) r_m0 hI1 hK1 h_m0 (by have q_ := r_si; obtain ⟨_, _⟩ := q_; have q_ := r153; obtain ⟨_, _⟩ := q_; have q_ := r117; obtain ⟨_, _⟩ := q_; have q_ := r_m0; obtain ⟨_, _⟩ := q_; have q_ := r118; obtain ⟨_, _⟩ := q_; have q_ := r136; obtain ⟨_, _⟩ := q_; have q_ := r139; obtain ⟨_, _⟩ := q_; have q_ := r142; obtain ⟨_, _⟩ := q_; have q_ := r155; obtain ⟨_, _⟩ := q_; intro _; rw [hm128]; omega) hG hw hS (lv_sub hl [2, 3, 1, 0] rfl)
                · have f157 := i_nlt c151
                  have r158 : Rg y2 0 9 := by obtain ⟨a1, a2⟩ := r_y2; obtain ⟨b1, b2⟩ := (⟨by decide, by decide⟩ : Rg 0 0 0); have f := i_nlt c151; exact ⟨by omega, by omega⟩
                  have hG := g_neg c151 hG
                  refine lv_aload_n hx hb d_X11_sellThen_68 rfl (lv_at hl 0 rfl) ?_
                  refine r_getr (r := 452) X hw FL_X11_136 (rfl : KD 400 = _) rfl d_X11_sellThen_69 ?_
                  refine lv_iload_n hx hb d_X11_sellThen_72 rfl (lv_at hl 3 rfl) ?_
                  refine r_iald X hw (rfl : KD 452 = _) (Rg.vp (b := 9) r117 (by decide)) rfl d_X11_sellThen_73 ?_
                  refine lv_topi (fun x159 ex159 => ?_)
                  have hG := bnd_use ex159 hG
                  refine lv_aload_n hx hb d_X11_sellThen_74 rfl (lv_at hl 0 rfl) ?_
                  refine r_getr (r := 452) X hw FL_X11_136 (rfl : KD 400 = _) rfl d_X11_sellThen_75 ?_
                  refine lv_iload_n hx hb d_X11_sellThen_78 rfl (lv_at hl 2 rfl) ?_
                  refine r_iald X hw (rfl : KD 452 = _) (Rg.vp (b := 9) r158 (by decide)) rfl d_X11_sellThen_79 ?_
                  refine lv_topi (fun x160 ex160 => ?_)
                  have hG := bnd_use ex160 hG
                  refine lv_icmp_le (tgt := 85) hx hb d_X11_sellThen_80 (by decide) (fun c161 => ?_) (fun c161 => ?_)
                  · have f162 := i_le c161
                    have hG := g_pos c161 hG
                    obtain ⟨x163, ex163⟩ : ∃ y : Int32, y = y3 + 1 := ⟨_, rfl⟩
                    have hG := bnd_use ex163 hG
                    refine lv_iinc (v := x163) (lv' := [(3, .int x163), (0, .ref (ad 400)), (1, .int si), (2, .int y2)]) hx hb d_X11_sellThen_85 hl (k := 3) rfl (by rw [ex163]; rfl) (by decide) rfl (fun ls hl => ?_)
                    have r164 : Rg x163 1 10 := rg_add ex163 r117 (⟨by decide, by decide⟩ : Rg 1 1 1) (by decide) (by decide)
                    have s165 : x163.toInt = y3.toInt + (1 : Int32).toInt := by rw [ex163]; exact i_add (by obtain ⟨_, _⟩ := r117; obtain ⟨_, _⟩ := (⟨by decide, by decide⟩ : Rg 1 1 1); omega) (by obtain ⟨_, _⟩ := r117; obtain ⟨_, _⟩ := (⟨by decide, by decide⟩ : Rg 1 1 1); omega)
                    have s165l : (1 : Int32).toInt = 1 := rfl
                    refine lv_goto (tgt := 13) hx hb d_X11_sellThen_88 (by decide) ?_
                    exact ih1 y2 x163 m0 v1 _ _ _ (by have q_ := r_si; obtain ⟨_, _⟩ := q_; have q_ := r158; obtain ⟨_, _⟩ := q_; have q_ := r117; obtain ⟨_, _⟩ := q_; have q_ := r_m0; obtain ⟨_, _⟩ := q_; have q_ := r118; obtain ⟨_, _⟩ := q_; have q_ := r136; obtain ⟨_, _⟩ := q_; have q_ := r139; obtain ⟨_, _⟩ := q_; have q_ := r142; obtain ⟨_, _⟩ := q_; have q_ := r164; obtain ⟨_, _⟩ := q_; have q_ := congrArg Int32.toInt h_m0; have q_ := congrArg Int32.toInt hm10; have q_ := congrArg Int32.toInt hm128; omega) (rg_w r158 (by decide) (by decide)) (rg_w r164 (by decide) (by decide)) r_m0 hI1 hK1 h_m0 (by have q_ := r_si; obtain ⟨_, _⟩ := q_; have q_ := r158; obtain ⟨_, _⟩ := q_; have q_ := r117; obtain ⟨_, _⟩ := q_; have q_ := r_m0; obtain ⟨_, _⟩ := q_; have q_ := r118; obtain ⟨_, _⟩ := q_; have q_ := r136; obtain ⟨_, _⟩ := q_; have q_ := r139; obtain ⟨_, _⟩ := q_; have q_ := r142; obtain ⟨_, _⟩ := q_; have q_ := r164; obtain ⟨_, _⟩ := q_; exact hex) hG hw hS (lv_sub hl [1, 2, 3, 0] rfl)
                  · have f166 := i_nle c161
                    have hG := g_neg c161 hG
                    refine lv_iload_n hx hb d_X11_sellThen_83 rfl (lv_at hl 3 rfl) ?_
                    refine lv_istore_n (lv' := [(2, .int y3), (0, .ref (ad 400)), (1, .int si), (3, .int y3)]) hx hb d_X11_sellThen_84 rfl hl (by decide) rfl (fun ls hl => ?_)
                    obtain ⟨x167, ex167⟩ : ∃ y : Int32, y = y3 + 1 := ⟨_, rfl⟩
                    have hG := bnd_use ex167 hG
                    refine lv_iinc (v := x167) (lv' := [(3, .int x167), (2, .int y3), (0, .ref (ad 400)), (1, .int si)]) hx hb d_X11_sellThen_85 hl (k := 3) rfl (by rw [ex167]; rfl) (by decide) rfl (fun ls hl => ?_)
                    have r168 : Rg x167 1 10 := rg_add ex167 r117 (⟨by decide, by decide⟩ : Rg 1 1 1) (by decide) (by decide)
                    have s169 : x167.toInt = y3.toInt + (1 : Int32).toInt := by rw [ex167]; exact i_add (by obtain ⟨_, _⟩ := r117; obtain ⟨_, _⟩ := (⟨by decide, by decide⟩ : Rg 1 1 1); omega) (by obtain ⟨_, _⟩ := r117; obtain ⟨_, _⟩ := (⟨by decide, by decide⟩ : Rg 1 1 1); omega)
                    have s169l : (1 : Int32).toInt = 1 := rfl
                    refine lv_goto (tgt := 13) hx hb d_X11_sellThen_88 (by decide) ?_
                    exact ih1 y3 x167 m0 v1 _ _ _ (by have q_ := r_si; obtain ⟨_, _⟩ := q_; have q_ := r158; obtain ⟨_, _⟩ := q_; have q_ := r117; obtain ⟨_, _⟩ := q_; have q_ := r_m0; obtain ⟨_, _⟩ := q_; have q_ := r118; obtain ⟨_, _⟩ := q_; have q_ := r136; obtain ⟨_, _⟩ := q_; have q_ := r139; obtain ⟨_, _⟩ := q_; have q_ := r142; obtain ⟨_, _⟩ := q_; have q_ := r168; obtain ⟨_, _⟩ := q_; have q_ := congrArg Int32.toInt h_m0; have q_ := congrArg Int32.toInt hm10; have q_ := congrArg Int32.toInt hm128; omega) (rg_w r117 (by decide) (by decide)) (rg_w r168 (by decide) (by decide)) r_m0 hI1 hK1 h_m0 (by have q_ := r_si; obtain ⟨_, _⟩ := q_; have q_ := r158; obtain ⟨_, _⟩ := q_; have q_ := r117; obtain ⟨_, _⟩ := q_; have q_ := r_m0; obtain ⟨_, _⟩ := q_; have q_ := r118; obtain ⟨_, _⟩ := q_; have q_ := r136; obtain ⟨_, _⟩ := q_; have q_ := r139; obtain ⟨_, _⟩ := q_; have q_ := r142; obtain ⟨_, _⟩ := q_; have q_ := r168; obtain ⟨_, _⟩ := q_; intro _; rw [hm128]; omega) hG hw hS (lv_sub hl [2, 3, 1, 0] rfl)
  obtain ⟨ih0, ih1⟩ := LL 300000000000
  have hK0 : Kp (kp_X11_sellThen_400 si) v v := Kp.rf _ v
  have hG := eRR
  unfold f_X11_sellThen_400 at hG
  exact ih0 v _ _ _ (by have q_ := r_si; obtain ⟨_, _⟩ := q_; have q_ := rg_any (v 464 si.toNatClampNeg); obtain ⟨_, _⟩ := q_; omega) hI hK0 hG hw hS (lv_sub hl [0, 1] rfl)
theorem d_X11_held_0 : decode c_X11_held 0 = .ok (.aload_n 0, 1) := by decide +kernel
theorem d_X11_held_1 : decode c_X11_held 1 = .ok (.iload_n 1, 1) := by decide +kernel
theorem d_X11_held_2 : decode c_X11_held 2 = .ok (.invokevirtual 176, 3) := by decide +kernel
theorem d_X11_held_5 : decode c_X11_held 5 = .ok (.ifCond .eq 40, 3) := by decide +kernel
theorem d_X11_held_8 : decode c_X11_held 8 = .ok (.aload_n 0, 1) := by decide +kernel
theorem d_X11_held_9 : decode c_X11_held 9 = .ok (.getfield 265, 3) := by decide +kernel
theorem d_X11_held_12 : decode c_X11_held 12 = .ok (.ifCond .eq 33, 3) := by decide +kernel
theorem d_X11_held_15 : decode c_X11_held 15 = .ok (.iload_n 1, 1) := by decide +kernel
theorem d_X11_held_16 : decode c_X11_held 16 = .ok (.aload_n 0, 1) := by decide +kernel
theorem d_X11_held_17 : decode c_X11_held 17 = .ok (.getfield 269, 3) := by decide +kernel
theorem d_X11_held_20 : decode c_X11_held 20 = .ok (.if_icmp .ge 25, 3) := by decide +kernel
theorem d_X11_held_23 : decode c_X11_held 23 = .ok (.aload_n 0, 1) := by decide +kernel
theorem d_X11_held_24 : decode c_X11_held 24 = .ok (.getfield 7, 3) := by decide +kernel
theorem d_X11_held_27 : decode c_X11_held 27 = .ok (.iload_n 1, 1) := by decide +kernel
theorem d_X11_held_28 : decode c_X11_held 28 = .ok (.iaload, 1) := by decide +kernel
theorem d_X11_held_29 : decode c_X11_held 29 = .ok (.iconst 3, 1) := by decide +kernel
theorem d_X11_held_30 : decode c_X11_held 30 = .ok (.if_icmp .eq 15, 3) := by decide +kernel
theorem d_X11_held_33 : decode c_X11_held 33 = .ok (.aload_n 0, 1) := by decide +kernel
theorem d_X11_held_34 : decode c_X11_held 34 = .ok (.getfield 130, 3) := by decide +kernel
theorem d_X11_held_37 : decode c_X11_held 37 = .ok (.iconst 4, 1) := by decide +kernel
theorem d_X11_held_38 : decode c_X11_held 38 = .ok (.iload_n 1, 1) := by decide +kernel
theorem d_X11_held_39 : decode c_X11_held 39 = .ok (.imul, 1) := by decide +kernel
theorem d_X11_held_40 : decode c_X11_held 40 = .ok (.iaload, 1) := by decide +kernel
theorem d_X11_held_41 : decode c_X11_held 41 = .ok (.iconst 1, 1) := by decide +kernel
theorem d_X11_held_42 : decode c_X11_held 42 = .ok (.if_icmp .le 5, 3) := by decide +kernel
theorem d_X11_held_45 : decode c_X11_held 45 = .ok (.iconst (-1), 1) := by decide +kernel
theorem d_X11_held_46 : decode c_X11_held 46 = .ok (.ireturn, 1) := by decide +kernel
theorem d_X11_held_47 : decode c_X11_held 47 = .ok (.iconst 0, 1) := by decide +kernel
theorem d_X11_held_48 : decode c_X11_held 48 = .ok (.istore_n 2, 1) := by decide +kernel
theorem d_X11_held_49 : decode c_X11_held 49 = .ok (.iload_n 2, 1) := by decide +kernel
theorem d_X11_held_50 : decode c_X11_held 50 = .ok (.aload_n 0, 1) := by decide +kernel
theorem d_X11_held_51 : decode c_X11_held 51 = .ok (.getfield 269, 3) := by decide +kernel
theorem d_X11_held_54 : decode c_X11_held 54 = .ok (.if_icmp .ge 25, 3) := by decide +kernel
theorem d_X11_held_57 : decode c_X11_held 57 = .ok (.aload_n 0, 1) := by decide +kernel
theorem d_X11_held_58 : decode c_X11_held 58 = .ok (.getfield 151, 3) := by decide +kernel
theorem d_X11_held_61 : decode c_X11_held 61 = .ok (.iload_n 2, 1) := by decide +kernel
theorem d_X11_held_62 : decode c_X11_held 62 = .ok (.aload_n 0, 1) := by decide +kernel
theorem d_X11_held_63 : decode c_X11_held 63 = .ok (.getfield 130, 3) := by decide +kernel
theorem d_X11_held_66 : decode c_X11_held 66 = .ok (.iconst 4, 1) := by decide +kernel
theorem d_X11_held_67 : decode c_X11_held 67 = .ok (.iload_n 2, 1) := by decide +kernel
theorem d_X11_held_68 : decode c_X11_held 68 = .ok (.imul, 1) := by decide +kernel
theorem d_X11_held_69 : decode c_X11_held 69 = .ok (.iconst 1, 1) := by decide +kernel
theorem d_X11_held_70 : decode c_X11_held 70 = .ok (.iadd, 1) := by decide +kernel
theorem d_X11_held_71 : decode c_X11_held 71 = .ok (.iaload, 1) := by decide +kernel
theorem d_X11_held_72 : decode c_X11_held 72 = .ok (.iastore, 1) := by decide +kernel
theorem d_X11_held_73 : decode c_X11_held 73 = .ok (.iinc 2 1, 3) := by decide +kernel
theorem d_X11_held_76 : decode c_X11_held 76 = .ok (.goto (-27), 3) := by decide +kernel
theorem d_X11_held_79 : decode c_X11_held 79 = .ok (.iconst 0, 1) := by decide +kernel
theorem d_X11_held_80 : decode c_X11_held 80 = .ok (.istore_n 2, 1) := by decide +kernel
theorem d_X11_held_81 : decode c_X11_held 81 = .ok (.iload_n 2, 1) := by decide +kernel
theorem d_X11_held_82 : decode c_X11_held 82 = .ok (.aload_n 0, 1) := by decide +kernel
theorem d_X11_held_83 : decode c_X11_held 83 = .ok (.getfield 275, 3) := by decide +kernel
theorem d_X11_held_86 : decode c_X11_held 86 = .ok (.if_icmp .ge 21, 3) := by decide +kernel
theorem d_X11_held_89 : decode c_X11_held 89 = .ok (.aload_n 0, 1) := by decide +kernel
theorem d_X11_held_90 : decode c_X11_held 90 = .ok (.getfield 154, 3) := by decide +kernel
theorem d_X11_held_93 : decode c_X11_held 93 = .ok (.iload_n 2, 1) := by decide +kernel
theorem d_X11_held_94 : decode c_X11_held 94 = .ok (.aload_n 0, 1) := by decide +kernel
theorem d_X11_held_95 : decode c_X11_held 95 = .ok (.getfield 133, 3) := by decide +kernel
theorem d_X11_held_98 : decode c_X11_held 98 = .ok (.iload_n 2, 1) := by decide +kernel
theorem d_X11_held_99 : decode c_X11_held 99 = .ok (.iaload, 1) := by decide +kernel
theorem d_X11_held_100 : decode c_X11_held 100 = .ok (.iastore, 1) := by decide +kernel
theorem d_X11_held_101 : decode c_X11_held 101 = .ok (.iinc 2 1, 3) := by decide +kernel
theorem d_X11_held_104 : decode c_X11_held 104 = .ok (.goto (-23), 3) := by decide +kernel
theorem d_X11_held_107 : decode c_X11_held 107 = .ok (.aload_n 0, 1) := by decide +kernel
theorem d_X11_held_108 : decode c_X11_held 108 = .ok (.getfield 246, 3) := by decide +kernel
theorem d_X11_held_111 : decode c_X11_held 111 = .ok (.istore_n 2, 1) := by decide +kernel
theorem d_X11_held_112 : decode c_X11_held 112 = .ok (.aload_n 0, 1) := by decide +kernel
theorem d_X11_held_113 : decode c_X11_held 113 = .ok (.getfield 249, 3) := by decide +kernel
theorem d_X11_held_116 : decode c_X11_held 116 = .ok (.istore_n 3, 1) := by decide +kernel
theorem d_X11_held_117 : decode c_X11_held 117 = .ok (.aload_n 0, 1) := by decide +kernel
theorem d_X11_held_118 : decode c_X11_held 118 = .ok (.iconst 0, 1) := by decide +kernel
theorem d_X11_held_119 : decode c_X11_held 119 = .ok (.putfield 246, 3) := by decide +kernel
theorem d_X11_held_122 : decode c_X11_held 122 = .ok (.aload_n 0, 1) := by decide +kernel
theorem d_X11_held_123 : decode c_X11_held 123 = .ok (.iconst 0, 1) := by decide +kernel
theorem d_X11_held_124 : decode c_X11_held 124 = .ok (.putfield 249, 3) := by decide +kernel
theorem d_X11_held_127 : decode c_X11_held 127 = .ok (.aload_n 0, 1) := by decide +kernel
theorem d_X11_held_128 : decode c_X11_held 128 = .ok (.iload_n 1, 1) := by decide +kernel
theorem d_X11_held_129 : decode c_X11_held 129 = .ok (.invokevirtual 296, 3) := by decide +kernel
theorem d_X11_held_132 : decode c_X11_held 132 = .ok (.iconst 0, 1) := by decide +kernel
theorem d_X11_held_133 : decode c_X11_held 133 = .ok (.istore 4, 2) := by decide +kernel
theorem d_X11_held_135 : decode c_X11_held 135 = .ok (.iload 4, 2) := by decide +kernel
theorem d_X11_held_137 : decode c_X11_held 137 = .ok (.aload_n 0, 1) := by decide +kernel
theorem d_X11_held_138 : decode c_X11_held 138 = .ok (.getfield 272, 3) := by decide +kernel
theorem d_X11_held_141 : decode c_X11_held 141 = .ok (.if_icmp .ge 31, 3) := by decide +kernel
theorem d_X11_held_144 : decode c_X11_held 144 = .ok (.aload_n 0, 1) := by decide +kernel
theorem d_X11_held_145 : decode c_X11_held 145 = .ok (.getfield 139, 3) := by decide +kernel
theorem d_X11_held_148 : decode c_X11_held 148 = .ok (.iload 4, 2) := by decide +kernel
theorem d_X11_held_150 : decode c_X11_held 150 = .ok (.iaload, 1) := by decide +kernel
theorem d_X11_held_151 : decode c_X11_held 151 = .ok (.iload_n 1, 1) := by decide +kernel
theorem d_X11_held_152 : decode c_X11_held 152 = .ok (.if_icmp .eq 14, 3) := by decide +kernel
theorem d_X11_held_155 : decode c_X11_held 155 = .ok (.aload_n 0, 1) := by decide +kernel
theorem d_X11_held_156 : decode c_X11_held 156 = .ok (.aload_n 0, 1) := by decide +kernel
theorem d_X11_held_157 : decode c_X11_held 157 = .ok (.getfield 139, 3) := by decide +kernel
theorem d_X11_held_160 : decode c_X11_held 160 = .ok (.iload 4, 2) := by decide +kernel
theorem d_X11_held_162 : decode c_X11_held 162 = .ok (.iaload, 1) := by decide +kernel
theorem d_X11_held_163 : decode c_X11_held 163 = .ok (.invokevirtual 296, 3) := by decide +kernel
theorem d_X11_held_166 : decode c_X11_held 166 = .ok (.iinc 4 1, 3) := by decide +kernel
theorem d_X11_held_169 : decode c_X11_held 169 = .ok (.goto (-34), 3) := by decide +kernel
theorem d_X11_held_172 : decode c_X11_held 172 = .ok (.aload_n 0, 1) := by decide +kernel
theorem d_X11_held_173 : decode c_X11_held 173 = .ok (.getfield 246, 3) := by decide +kernel
theorem d_X11_held_176 : decode c_X11_held 176 = .ok (.ifCond .ne 10, 3) := by decide +kernel
theorem d_X11_held_179 : decode c_X11_held 179 = .ok (.aload_n 0, 1) := by decide +kernel
theorem d_X11_held_180 : decode c_X11_held 180 = .ok (.getfield 278, 3) := by decide +kernel
theorem d_X11_held_183 : decode c_X11_held 183 = .ok (.goto 12, 3) := by decide +kernel
theorem d_X11_held_186 : decode c_X11_held 186 = .ok (.aload_n 0, 1) := by decide +kernel
theorem d_X11_held_187 : decode c_X11_held 187 = .ok (.getfield 249, 3) := by decide +kernel
theorem d_X11_held_190 : decode c_X11_held 190 = .ok (.aload_n 0, 1) := by decide +kernel
theorem d_X11_held_191 : decode c_X11_held 191 = .ok (.getfield 246, 3) := by decide +kernel
theorem d_X11_held_194 : decode c_X11_held 194 = .ok (.idiv, 1) := by decide +kernel
theorem d_X11_held_195 : decode c_X11_held 195 = .ok (.istore 4, 2) := by decide +kernel
theorem d_X11_held_197 : decode c_X11_held 197 = .ok (.aload_n 0, 1) := by decide +kernel
theorem d_X11_held_198 : decode c_X11_held 198 = .ok (.iload_n 2, 1) := by decide +kernel
theorem d_X11_held_199 : decode c_X11_held 199 = .ok (.putfield 246, 3) := by decide +kernel
theorem d_X11_held_202 : decode c_X11_held 202 = .ok (.aload_n 0, 1) := by decide +kernel
theorem d_X11_held_203 : decode c_X11_held 203 = .ok (.iload_n 3, 1) := by decide +kernel
theorem d_X11_held_204 : decode c_X11_held 204 = .ok (.putfield 249, 3) := by decide +kernel
theorem d_X11_held_207 : decode c_X11_held 207 = .ok (.iload 4, 2) := by decide +kernel
theorem d_X11_held_209 : decode c_X11_held 209 = .ok (.ireturn, 1) := by decide +kernel
def kp_X11_held_400 (si : Int32) (a j : Nat) : Prop := (a ≠ 400 ∨ (j ≠ 58 ∧ j ≠ 59)) ∧ a ≠ 464 ∧ a ≠ 465
def b_X11_held_400_49 (si : Int32) (rc49 : Int32 → tV → Int32 × tV) (rc81 : Int32 → tV → Int32 × tV) (y2 : Int32) (v1 : tV) : Int32 × tV := bnd (v1 400 53) fun x1 => (if x1 ≤ y2 then rc81 0 v1 else bnd ((4 : Int32) * y2) fun x9 => bnd (x9 + (1 : Int32)) fun x12 => bnd (v1 450 x12.toNatClampNeg) fun x15 => bnd (up2 v1 464 (y2.toNatClampNeg) x15) fun v16 => bnd (y2 + 1) fun x20 => rc49 x20 v16)
def b_X11_held_400_81 (si : Int32) (rc81 : Int32 → tV → Int32 × tV) (rc135 : Int32 → Int32 → Int32 → tV → Int32 × tV) (y2 : Int32) (v1 : tV) : Int32 × tV := bnd (v1 400 55) fun x23 => (if x23 ≤ y2 then bnd (v1 400 58) fun x28 => bnd (v1 400 59) fun x30 => bnd (up2 v1 400 58 0) fun v31 => bnd (up2 v31 400 59 0) fun v36 => bnd (f_X11_sellThen_400 v36 si) fun v42 => rc135 x28 x30 0 v42 else bnd (v1 451 y2.toNatClampNeg) fun x50 => bnd (up2 v1 465 (y2.toNatClampNeg) x50) fun v51 => bnd (y2 + 1) fun x55 => rc81 x55 v51)
def b_X11_held_400_135 (si : Int32) (rc135 : Int32 → Int32 → Int32 → tV → Int32 × tV) (y2 : Int32) (y3 : Int32) (y4 : Int32) (v1 : tV) : Int32 × tV := bnd (v1 400 54) fun x58 => (if x58 ≤ y4 then bnd (v1 400 58) fun x63 => (if x63 = (0 : Int32) then bnd (v1 400 56) fun x81 => bnd (up2 v1 400 58 y2) fun v82 => bnd (up2 v82 400 59 y3) fun v87 => (x81, v87) else bnd (v1 400 59) fun x67 => bnd (x67 / x63) fun x68 => bnd (up2 v1 400 58 y2) fun v69 => bnd (up2 v69 400 59 y3) fun v74 => (x68, v74)) else bnd (v1 453 y4.toNatClampNeg) fun x95 => (if x95 = si then bnd (y4 + 1) fun x99 => rc135 y2 y3 x99 v1 else bnd (v1 453 y4.toNatClampNeg) fun x103 => bnd (f_X11_sellThen_400 v1 x103) fun v106 => bnd (y4 + 1) fun x111 => rc135 y2 y3 x111 v106))
def g_X11_held_400_135 (si : Int32) : Nat → Int32 → Int32 → Int32 → tV → Int32 × tV
  | 0, _, _, _, v1 => (0, v1)
  | n + 1, y2, y3, y4, v1 => b_X11_held_400_135 si (g_X11_held_400_135 si n) y2 y3 y4 v1
def g_X11_held_400_81 (si : Int32) : Nat → Int32 → tV → Int32 × tV
  | 0, _, v1 => (0, v1)
  | n + 1, y2, v1 => b_X11_held_400_81 si (g_X11_held_400_81 si n) (g_X11_held_400_135 si n) y2 v1
def g_X11_held_400_49 (si : Int32) : Nat → Int32 → tV → Int32 × tV
  | 0, _, v1 => (0, v1)
  | n + 1, y2, v1 => b_X11_held_400_49 si (g_X11_held_400_49 si n) (g_X11_held_400_81 si n) y2 v1
def f_X11_held_400 (v : tV) (si : Int32) : Int32 × tV := (if 0 ≤ si.toInt ∧ si.toInt ≤ (v 400 1).toInt - 1 then bnd (v 400 57) fun x120 => (if x120 = (0 : Int32) then ((-1 : Int32), v) else bnd (v 400 53) fun x125 => (if x125 ≤ si then ((-1 : Int32), v) else bnd (v 403 si.toNatClampNeg) fun x133 => (if x133 = (3 : Int32) then ((-1 : Int32), v) else bnd ((4 : Int32) * si) fun x138 => bnd (v 450 x138.toNatClampNeg) fun x141 => (if x141 ≤ (1 : Int32) then g_X11_held_400_49 si 100000 0 v else ((-1 : Int32), v))))) else ((-1 : Int32), v))
set_option maxHeartbeats 4000000 in
set_option maxRecDepth 100000 in
theorem ct_X11_held_400 (l : Launch) (D : va_G) (dA : Nat → ClassId) (ad : Nat → Nat) (v : tV) (hI : Inv v) (si : Int32) : Met l m_X11_held [.code m_X11_held c_X11_held 5 (some .int)] ({ frames := 3, cells := 0, slots := 0, locals := 83 } : Room) (tP D dA ad v [.ref (ad 400), .int si]) (tQi D dA ad (fun r v' => (Inv v' ∧ Kp (kp_X11_held_400 si) v v') ∧ (r, v') = f_X11_held_400 v si)) 0 0 (tA ad) := by
  refine tMet (by decide) (Nat.le_of_ble_eq_true rfl) ?_
  intro p e s m below meth c ls X hr hlocks hw hl
  have X : CX p s m ([.ref (ad 400), .int si] : List Value).toArray c c_X11_held N_X11 5 D dA := X
  have hx := X.1
  have hb := X.2.1
  have hS : va_S (tA ad) s.heap s.heap [] := va_S.rf
  have hl : lv_has ls 5 [(0, .ref (ad 400)), (1, .int si)] := hl
  obtain ⟨RR, eRR⟩ : ∃ z, f_X11_held_400 v si = z := ⟨_, rfl⟩
  have LL : ∀ n : Nat, (∀ (y2 : Int32) (v1 : tV) (H : Heap) (locs : List Loc) (ls : Array Slot), (20 - y2.toInt).toNat + 300 < n → Rg si 0 19 → Rg y2 0 20 → Inv v1 → Kp (kp_X11_held_400 si) v v1 → g_X11_held_400_49 si n y2 v1 = RR → tI D dA ad v1 H → va_S (tA ad) s.heap H locs → lv_has ls 5 [(0, .ref (ad 400)), (1, .int si), (2, .int y2)] → W p l e ({ frames := 3, cells := 0, slots := 0, locals := 83 } : Room) s m ([.ref (ad 400), .int si] : List Value).toArray below meth c H locs 0 0 (MQ below (tQi D dA ad (fun r v' => (Inv v' ∧ Kp (kp_X11_held_400 si) v v') ∧ (r, v') = f_X11_held_400 v si)) ([.ref (ad 400), .int si] : List Value).toArray s 0 0 (tA ad)) (F0 m 49 ls [])) ∧ (∀ (y2 : Int32) (v1 : tV) (H : Heap) (locs : List Loc) (ls : Array Slot), (10 - y2.toInt).toNat + 200 < n → Rg si 0 19 → Rg y2 0 10 → Inv v1 → Kp (kp_X11_held_400 si) v v1 → g_X11_held_400_81 si n y2 v1 = RR → tI D dA ad v1 H → va_S (tA ad) s.heap H locs → lv_has ls 5 [(0, .ref (ad 400)), (1, .int si), (2, .int y2)] → W p l e ({ frames := 3, cells := 0, slots := 0, locals := 83 } : Room) s m ([.ref (ad 400), .int si] : List Value).toArray below meth c H locs 0 0 (MQ below (tQi D dA ad (fun r v' => (Inv v' ∧ Kp (kp_X11_held_400 si) v v') ∧ (r, v') = f_X11_held_400 v si)) ([.ref (ad 400), .int si] : List Value).toArray s 0 0 (tA ad)) (F0 m 81 ls [])) ∧ (∀ (y2 : Int32) (y3 : Int32) (y4 : Int32) (v1 : tV) (H : Heap) (locs : List Loc) (ls : Array Slot), (20 - y4.toInt).toNat < n → Rg si 0 19 → Rg y4 0 20 → Inv v1 → Kp (kp_X11_held_400 si) v v1 → g_X11_held_400_135 si n y2 y3 y4 v1 = RR → tI D dA ad v1 H → va_S (tA ad) s.heap H locs → lv_has ls 5 [(0, .ref (ad 400)), (1, .int si), (2, .int y2), (3, .int y3), (4, .int y4)] → W p l e ({ frames := 3, cells := 0, slots := 0, locals := 83 } : Room) s m ([.ref (ad 400), .int si] : List Value).toArray below meth c H locs 0 0 (MQ below (tQi D dA ad (fun r v' => (Inv v' ∧ Kp (kp_X11_held_400 si) v v') ∧ (r, v') = f_X11_held_400 v si)) ([.ref (ad 400), .int si] : List Value).toArray s 0 0 (tA ad)) (F0 m 135 ls [])) := by
    intro n
    induction n with
    | zero => refine ⟨?_, ?_, ?_⟩ <;> (intros; omega)
    | succ n ih =>
      obtain ⟨ih0, ih1, ih2⟩ := ih
      refine ⟨?_, ?_, ?_⟩
      · intro y2 v1 H locs ls hmu r_y1 r_y2 hI1 hK1 hG hw hS hl
        have hG : b_X11_held_400_49 si (g_X11_held_400_49 si n) (g_X11_held_400_81 si n) y2 v1 = RR := hG
        unfold b_X11_held_400_49 at hG
        refine lv_iload_n hx hb d_X11_held_49 rfl (lv_at hl 2 rfl) ?_
        refine lv_aload_n hx hb d_X11_held_50 rfl (lv_at hl 0 rfl) ?_
        refine r_geti X hw FL_X11_269 (rfl : KD 400 = _) rfl d_X11_held_51 ?_
        refine lv_topi (fun x1 ex1 => ?_)
        have hG := bnd_use ex1 hG
        have r2 : Rg x1 0 20 := by rw [ex1]; exact hI1 _ _ _ _ rfl
        have hm3 : v1 400 53 = x1 := ex1.symm
        refine lv_icmp_ge (tgt := 79) hx hb d_X11_held_54 (by decide) (fun c4 => ?_) (fun c4 => ?_)
        · have f5 := i_le c4
          have hG := g_pos c4 hG
          refine lv_iconst (v := 0) hx hb d_X11_held_79 (by decide) ?_
          refine lv_istore_n (lv' := [(2, .int 0), (0, .ref (ad 400)), (1, .int si)]) hx hb d_X11_held_80 rfl hl (by decide) rfl (fun ls hl => ?_)
          exact ih1 0 v1 _ _ _ (by have q_ := r_y1; obtain ⟨_, _⟩ := q_; have q_ := r_y2; obtain ⟨_, _⟩ := q_; have q_ := r2; obtain ⟨_, _⟩ := q_; have q_ : (0 : Int32).toInt = 0 := rfl; omega) r_y1 (rg_w (⟨by decide, by decide⟩ : Rg 0 0 0) (by decide) (by decide)) hI1 hK1 hG hw hS (lv_sub hl [1, 2, 0] rfl)
        · have f6 := i_nle c4
          have r7 : Rg y2 0 19 := by obtain ⟨a1, a2⟩ := r_y2; obtain ⟨b1, b2⟩ := r2; have f := i_nle c4; exact ⟨by omega, by omega⟩
          have r8 : Rg x1 1 20 := by obtain ⟨a1, a2⟩ := r_y2; obtain ⟨b1, b2⟩ := r2; have f := i_nle c4; exact ⟨by omega, by omega⟩
          have hG := g_neg c4 hG
          refine lv_aload_n hx hb d_X11_held_57 rfl (lv_at hl 0 rfl) ?_
          refine r_getr (r := 464) X hw FL_X11_151 (rfl : KD 400 = _) rfl d_X11_held_58 ?_
          refine lv_iload_n hx hb d_X11_held_61 rfl (lv_at hl 2 rfl) ?_
          refine lv_aload_n hx hb d_X11_held_62 rfl (lv_at hl 0 rfl) ?_
          refine r_getr (r := 450) X hw FL_X11_130 (rfl : KD 400 = _) rfl d_X11_held_63 ?_
          refine lv_iconst (v := 4) hx hb d_X11_held_66 (by decide) ?_
          refine lv_iload_n hx hb d_X11_held_67 rfl (lv_at hl 2 rfl) ?_
          refine lv_imul hx hb d_X11_held_68 ?_
          refine lv_topi (fun x9 ex9 => ?_)
          have hG := bnd_use ex9 hG
          have r10 : Rg x9 0 76 := rg_mulc ex9 (⟨by decide, by decide⟩ : Rg 4 4 4) r7 (by decide) (by decide) (by decide)
          have s11 : x9.toInt = 4 * y2.toInt := rg_mule ex9 r7 rfl (by decide) (by decide)
          refine lv_iconst (v := 1) hx hb d_X11_held_69 (by decide) ?_
          refine lv_iadd hx hb d_X11_held_70 ?_
          refine lv_topi (fun x12 ex12 => ?_)
          have hG := bnd_use ex12 hG
          have r13 : Rg x12 1 77 := rg_add ex12 r10 (⟨by decide, by decide⟩ : Rg 1 1 1) (by decide) (by decide)
          have s14 : x12.toInt = x9.toInt + (1 : Int32).toInt := by rw [ex12]; exact i_add (by obtain ⟨_, _⟩ := r10; obtain ⟨_, _⟩ := (⟨by decide, by decide⟩ : Rg 1 1 1); omega) (by obtain ⟨_, _⟩ := r10; obtain ⟨_, _⟩ := (⟨by decide, by decide⟩ : Rg 1 1 1); omega)
          have s14l : (1 : Int32).toInt = 1 := rfl
          refine r_iald X hw (rfl : KD 450 = _) (Rg.vp (b := 77) (rg_w r13 (by decide) (by decide)) (by decide)) rfl d_X11_held_71 ?_
          refine lv_topi (fun x15 ex15 => ?_)
          have hG := bnd_use ex15 hG
          refine r_iast X hw hS (rfl : KD 464 = _) (Rg.vp (b := 19) r7 (by decide)) rfl d_X11_held_72 (fun H locs hw hS => ?_)
          obtain ⟨v16, ev16⟩ : ∃ z, z = up2 v1 464 y2.toNatClampNeg x15 := ⟨_, rfl⟩
          rw [← ev16] at hw
          have hG := bnd_use ev16 hG
          have hI17 : Inv v16 := by rw [ev16]; exact Inv.put0 hI1 _ rfl
          have hK18 : Kp (kp_X11_held_400 si) v v16 := by rw [ev16]; exact Kp.put hK1 _ (by unfold kp_X11_held_400; omega)
          have hm19 : v16 400 53 = x1 := by rw [ev16, up2_n _ _ (by omega)]; exact hm3
          obtain ⟨x20, ex20⟩ : ∃ y : Int32, y = y2 + 1 := ⟨_, rfl⟩
          have hG := bnd_use ex20 hG
          refine lv_iinc (v := x20) (lv' := [(2, .int x20), (0, .ref (ad 400)), (1, .int si)]) hx hb d_X11_held_73 hl (k := 2) rfl (by rw [ex20]; rfl) (by decide) rfl (fun ls hl => ?_)
          have r21 : Rg x20 1 20 := rg_add ex20 r7 (⟨by decide, by decide⟩ : Rg 1 1 1) (by decide) (by decide)
          have s22 : x20.toInt = y2.toInt + (1 : Int32).toInt := by rw [ex20]; exact i_add (by obtain ⟨_, _⟩ := r7; obtain ⟨_, _⟩ := (⟨by decide, by decide⟩ : Rg 1 1 1); omega) (by obtain ⟨_, _⟩ := r7; obtain ⟨_, _⟩ := (⟨by decide, by decide⟩ : Rg 1 1 1); omega)
          have s22l : (1 : Int32).toInt = 1 := rfl
          refine lv_goto (tgt := 49) hx hb d_X11_held_76 (by decide) ?_
          exact ih0 x20 v16 _ _ _ (by have q_ := r_y1; obtain ⟨_, _⟩ := q_; have q_ := r7; obtain ⟨_, _⟩ := q_; have q_ := r8; obtain ⟨_, _⟩ := q_; have q_ := r10; obtain ⟨_, _⟩ := q_; have q_ := r13; obtain ⟨_, _⟩ := q_; have q_ := r21; obtain ⟨_, _⟩ := q_; omega) r_y1 (rg_w r21 (by decide) (by decide)) hI17 hK18 hG hw hS (lv_sub hl [1, 2, 0] rfl)
      · intro y2 v1 H locs ls hmu r_y1 r_y2 hI1 hK1 hG hw hS hl
        have hG : b_X11_held_400_81 si (g_X11_held_400_81 si n) (g_X11_held_400_135 si n) y2 v1 = RR := hG
        unfold b_X11_held_400_81 at hG
        refine lv_iload_n hx hb d_X11_held_81 rfl (lv_at hl 2 rfl) ?_
        refine lv_aload_n hx hb d_X11_held_82 rfl (lv_at hl 0 rfl) ?_
        refine r_geti X hw FL_X11_275 (rfl : KD 400 = _) rfl d_X11_held_83 ?_
        refine lv_topi (fun x23 ex23 => ?_)
        have hG := bnd_use ex23 hG
        have r24 : Rg x23 0 10 := by rw [ex23]; exact hI1 _ _ _ _ rfl
        have hm25 : v1 400 55 = x23 := ex23.symm
        refine lv_icmp_ge (tgt := 107) hx hb d_X11_held_86 (by decide) (fun c26 => ?_) (fun c26 => ?_)
        · have f27 := i_le c26
          have hG := g_pos c26 hG
          refine lv_aload_n hx hb d_X11_held_107 rfl (lv_at hl 0 rfl) ?_
          refine r_geti X hw FL_X11_246 (rfl : KD 400 = _) rfl d_X11_held_108 ?_
          refine lv_topi (fun x28 ex28 => ?_)
          have hG := bnd_use ex28 hG
          have hm29 : v1 400 58 = x28 := ex28.symm
          refine lv_istore_n (lv' := [(2, .int x28), (0, .ref (ad 400)), (1, .int si)]) hx hb d_X11_held_111 rfl hl (by decide) rfl (fun ls hl => ?_)
          refine lv_aload_n hx hb d_X11_held_112 rfl (lv_at hl 1 rfl) ?_
          refine r_geti X hw FL_X11_249 (rfl : KD 400 = _) rfl d_X11_held_113 ?_
          refine lv_topi (fun x30 ex30 => ?_)
          have hG := bnd_use ex30 hG
          refine lv_istore_n (lv' := [(3, .int x30), (2, .int x28), (0, .ref (ad 400)), (1, .int si)]) hx hb d_X11_held_116 rfl hl (by decide) rfl (fun ls hl => ?_)
          refine lv_aload_n hx hb d_X11_held_117 rfl (lv_at hl 2 rfl) ?_
          refine lv_iconst (v := 0) hx hb d_X11_held_118 (by decide) ?_
          refine r_put X hw hS FP_X11_246 (rfl : KD 400 = _) rfl ⟨rfl, rfl⟩ d_X11_held_119 (fun H locs hw hS => ?_)
          obtain ⟨v31, ev31⟩ : ∃ z, z = up2 v1 400 58 0 := ⟨_, rfl⟩
          rw [← ev31] at hw
          have hG := bnd_use ev31 hG
          have hI32 : Inv v31 := by rw [ev31]; exact Inv.put0 hI1 _ rfl
          have hK33 : Kp (kp_X11_held_400 si) v v31 := by rw [ev31]; exact Kp.put hK1 _ (by unfold kp_X11_held_400; omega)
          have hm34 : v31 400 55 = x23 := by rw [ev31, up2_n _ _ (by omega)]; exact hm25
          have hm35 : v31 400 58 = 0 := by rw [ev31, up2_s]
          refine lv_aload_n hx hb d_X11_held_122 rfl (lv_at hl 2 rfl) ?_
          refine lv_iconst (v := 0) hx hb d_X11_held_123 (by decide) ?_
          refine r_put X hw hS FP_X11_249 (rfl : KD 400 = _) rfl ⟨rfl, rfl⟩ d_X11_held_124 (fun H locs hw hS => ?_)
          obtain ⟨v36, ev36⟩ : ∃ z, z = up2 v31 400 59 0 := ⟨_, rfl⟩
          rw [← ev36] at hw
          have hG := bnd_use ev36 hG
          have hI37 : Inv v36 := by rw [ev36]; exact Inv.put0 hI32 _ rfl
          have hK38 : Kp (kp_X11_held_400 si) v v36 := by rw [ev36]; exact Kp.put hK33 _ (by unfold kp_X11_held_400; omega)
          have hm39 : v36 400 55 = x23 := by rw [ev36, up2_n _ _ (by omega)]; exact hm34
          have hm40 : v36 400 58 = 0 := by rw [ev36, up2_n _ _ (by omega)]; exact hm35
          refine lv_aload_n hx hb d_X11_held_127 rfl (lv_at hl 2 rfl) ?_
          refine lv_iload_n hx hb d_X11_held_128 rfl (lv_at hl 3 rfl) ?_
          refine r_cv (r_runV (n := 1) (As := [.int si]) (rest := []) X hw (ct_X11_sellThen_400 l D dA ad v36 hI37 si r_y1) gc_X11_296 (rfl : KD 400 = _) (by decide) rfl (by decide +kernel) ⟨rfl, rfl, Nat.le_of_ble_eq_true rfl, Nat.le_of_ble_eq_true rfl⟩ rfl hl.1 rfl (Nat.le_of_ble_eq_true rfl) ⟨Nat.zero_le _, Nat.zero_le _⟩ d_X11_held_129) hS (fun v42 H locs hp41 hw hS => ?_)
          obtain ⟨hp41, hE43⟩ := hp41
          obtain ⟨hI44, hK45⟩ := hp41
          have hK46 : Kp (kp_X11_held_400 si) v v42 := Kp.tr hK38 hK45 (by have z0 : (0 : Int32).toInt = 0 := rfl; intro a j; unfold kp_X11_held_400 kp_X11_sellThen_400; omega)
          have hG := bnd_use hE43 hG
          refine lv_iconst (v := 0) hx hb d_X11_held_132 (by decide) ?_
          refine lv_istore (lv' := [(4, .int 0), (3, .int x30), (2, .int x28), (0, .ref (ad 400)), (1, .int si)]) hx hb d_X11_held_133 hl (by decide) rfl (fun ls hl => ?_)
          exact ih2 x28 x30 0 v42 _ _ _ (by have q_ := r_y1; obtain ⟨_, _⟩ := q_; have q_ := r_y2; obtain ⟨_, _⟩ := q_; have q_ := r24; obtain ⟨_, _⟩ := q_; have q_ := rg_any x28; obtain ⟨_, _⟩ := q_; have q_ := rg_any x30; obtain ⟨_, _⟩ := q_; have q_ : (0 : Int32).toInt = 0 := rfl; omega) r_y1 (rg_w (⟨by decide, by decide⟩ : Rg 0 0 0) (by decide) (by decide)) hI44 hK46 hG hw hS (lv_sub hl [3, 4, 2, 1, 0] rfl)
        · have f47 := i_nle c26
          have r48 : Rg y2 0 9 := by obtain ⟨a1, a2⟩ := r_y2; obtain ⟨b1, b2⟩ := r24; have f := i_nle c26; exact ⟨by omega, by omega⟩
          have r49 : Rg x23 1 10 := by obtain ⟨a1, a2⟩ := r_y2; obtain ⟨b1, b2⟩ := r24; have f := i_nle c26; exact ⟨by omega, by omega⟩
          have hG := g_neg c26 hG
          refine lv_aload_n hx hb d_X11_held_89 rfl (lv_at hl 0 rfl) ?_
          refine r_getr (r := 465) X hw FL_X11_154 (rfl : KD 400 = _) rfl d_X11_held_90 ?_
          refine lv_iload_n hx hb d_X11_held_93 rfl (lv_at hl 2 rfl) ?_
          refine lv_aload_n hx hb d_X11_held_94 rfl (lv_at hl 0 rfl) ?_
          refine r_getr (r := 451) X hw FL_X11_133 (rfl : KD 400 = _) rfl d_X11_held_95 ?_
          refine lv_iload_n hx hb d_X11_held_98 rfl (lv_at hl 2 rfl) ?_
          refine r_iald X hw (rfl : KD 451 = _) (Rg.vp (b := 9) r48 (by decide)) rfl d_X11_held_99 ?_
          refine lv_topi (fun x50 ex50 => ?_)
          have hG := bnd_use ex50 hG
          refine r_iast X hw hS (rfl : KD 465 = _) (Rg.vp (b := 9) r48 (by decide)) rfl d_X11_held_100 (fun H locs hw hS => ?_)
          obtain ⟨v51, ev51⟩ : ∃ z, z = up2 v1 465 y2.toNatClampNeg x50 := ⟨_, rfl⟩
          rw [← ev51] at hw
          have hG := bnd_use ev51 hG
          have hI52 : Inv v51 := by rw [ev51]; exact Inv.put0 hI1 _ rfl
          have hK53 : Kp (kp_X11_held_400 si) v v51 := by rw [ev51]; exact Kp.put hK1 _ (by unfold kp_X11_held_400; omega)
          have hm54 : v51 400 55 = x23 := by rw [ev51, up2_n _ _ (by omega)]; exact hm25
          obtain ⟨x55, ex55⟩ : ∃ y : Int32, y = y2 + 1 := ⟨_, rfl⟩
          have hG := bnd_use ex55 hG
          refine lv_iinc (v := x55) (lv' := [(2, .int x55), (0, .ref (ad 400)), (1, .int si)]) hx hb d_X11_held_101 hl (k := 2) rfl (by rw [ex55]; rfl) (by decide) rfl (fun ls hl => ?_)
          have r56 : Rg x55 1 10 := rg_add ex55 r48 (⟨by decide, by decide⟩ : Rg 1 1 1) (by decide) (by decide)
          have s57 : x55.toInt = y2.toInt + (1 : Int32).toInt := by rw [ex55]; exact i_add (by obtain ⟨_, _⟩ := r48; obtain ⟨_, _⟩ := (⟨by decide, by decide⟩ : Rg 1 1 1); omega) (by obtain ⟨_, _⟩ := r48; obtain ⟨_, _⟩ := (⟨by decide, by decide⟩ : Rg 1 1 1); omega)
          have s57l : (1 : Int32).toInt = 1 := rfl
          refine lv_goto (tgt := 81) hx hb d_X11_held_104 (by decide) ?_
          exact ih1 x55 v51 _ _ _ (by have q_ := r_y1; obtain ⟨_, _⟩ := q_; have q_ := r48; obtain ⟨_, _⟩ := q_; have q_ := r49; obtain ⟨_, _⟩ := q_; have q_ := r56; obtain ⟨_, _⟩ := q_; omega) r_y1 (rg_w r56 (by decide) (by decide)) hI52 hK53 hG hw hS (lv_sub hl [1, 2, 0] rfl)
      · intro y2 y3 y4 v1 H locs ls hmu r_y1 r_y4 hI1 hK1 hG hw hS hl
        have hG : b_X11_held_400_135 si (g_X11_held_400_135 si n) y2 y3 y4 v1 = RR := hG
        unfold b_X11_held_400_135 at hG
        refine lv_iload hx hb d_X11_held_135 (lv_at hl 4 rfl) ?_
        refine lv_aload_n hx hb d_X11_held_137 rfl (lv_at hl 0 rfl) ?_
        refine r_geti X hw FL_X11_272 (rfl : KD 400 = _) rfl d_X11_held_138 ?_
        refine lv_topi (fun x58 ex58 => ?_)
        have hG := bnd_use ex58 hG
        have r59 : Rg x58 0 20 := by rw [ex58]; exact hI1 _ _ _ _ rfl
        have hm60 : v1 400 54 = x58 := ex58.symm
        refine lv_icmp_ge (tgt := 172) hx hb d_X11_held_141 (by decide) (fun c61 => ?_) (fun c61 => ?_)
        · have f62 := i_le c61
          have hG := g_pos c61 hG
          refine lv_aload_n hx hb d_X11_held_172 rfl (lv_at hl 0 rfl) ?_
          refine r_geti X hw FL_X11_246 (rfl : KD 400 = _) rfl d_X11_held_173 ?_
          refine lv_topi (fun x63 ex63 => ?_)
          have hG := bnd_use ex63 hG
          have hm64 : v1 400 58 = x63 := ex63.symm
          refine lv_if_ne (tgt := 186) hx hb d_X11_held_176 (by decide) (fun c65 => ?_) (fun c65 => ?_)
          · have f66 := i_ne c65
            have hG := g_neg c65 hG
            refine lv_aload_n hx hb d_X11_held_186 rfl (lv_at hl 0 rfl) ?_
            refine r_geti X hw FL_X11_249 (rfl : KD 400 = _) rfl d_X11_held_187 ?_
            refine lv_topi (fun x67 ex67 => ?_)
            have hG := bnd_use ex67 hG
            refine lv_aload_n hx hb d_X11_held_190 rfl (lv_at hl 0 rfl) ?_
            refine r_geti X hw FL_X11_246 (rfl : KD 400 = _) rfl d_X11_held_191 ?_
            refine lv_seti hm64 ?_
            refine lv_idiv hx hb d_X11_held_194 c65 ?_
            refine lv_topi (fun x68 ex68 => ?_)
            have hG := bnd_use ex68 hG
            refine lv_istore (lv' := [(4, .int x68), (0, .ref (ad 400)), (1, .int si), (2, .int y2), (3, .int y3)]) hx hb d_X11_held_195 hl (by decide) rfl (fun ls hl => ?_)
            refine lv_aload_n hx hb d_X11_held_197 rfl (lv_at hl 1 rfl) ?_
            refine lv_iload_n hx hb d_X11_held_198 rfl (lv_at hl 3 rfl) ?_
            refine r_put X hw hS FP_X11_246 (rfl : KD 400 = _) rfl ⟨rfl, rfl⟩ d_X11_held_199 (fun H locs hw hS => ?_)
            obtain ⟨v69, ev69⟩ : ∃ z, z = up2 v1 400 58 y2 := ⟨_, rfl⟩
            rw [← ev69] at hw
            have hG := bnd_use ev69 hG
            have hI70 : Inv v69 := by rw [ev69]; exact Inv.put0 hI1 _ rfl
            have hK71 : Kp (kp_X11_held_400 si) v v69 := by rw [ev69]; exact Kp.put hK1 _ (by unfold kp_X11_held_400; omega)
            have hm72 : v69 400 54 = x58 := by rw [ev69, up2_n _ _ (by omega)]; exact hm60
            have hm73 : v69 400 58 = y2 := by rw [ev69, up2_s]
            refine lv_aload_n hx hb d_X11_held_202 rfl (lv_at hl 1 rfl) ?_
            refine lv_iload_n hx hb d_X11_held_203 rfl (lv_at hl 4 rfl) ?_
            refine r_put X hw hS FP_X11_249 (rfl : KD 400 = _) rfl ⟨rfl, rfl⟩ d_X11_held_204 (fun H locs hw hS => ?_)
            obtain ⟨v74, ev74⟩ : ∃ z, z = up2 v69 400 59 y3 := ⟨_, rfl⟩
            rw [← ev74] at hw
            have hG := bnd_use ev74 hG
            have hI75 : Inv v74 := by rw [ev74]; exact Inv.put0 hI70 _ rfl
            have hK76 : Kp (kp_X11_held_400 si) v v74 := by rw [ev74]; exact Kp.put hK71 _ (by unfold kp_X11_held_400; omega)
            have hm77 : v74 400 54 = x58 := by rw [ev74, up2_n _ _ (by omega)]; exact hm72
            have hm78 : v74 400 58 = y2 := by rw [ev74, up2_n _ _ (by omega)]; exact hm73
            refine lv_iload hx hb d_X11_held_207 (lv_at hl 0 rfl) ?_
            exact r_iret X hr hlocks hw hS ⟨⟨hI75, hK76⟩, hG.trans eRR.symm⟩ d_X11_held_209
          · have f79 := i_eq c65
            have r80 : Rg x63 0 0 := by obtain ⟨a1, a2⟩ := (rg_any x63); obtain ⟨b1, b2⟩ := (⟨by decide, by decide⟩ : Rg 0 0 0); have f := i_eq c65; exact ⟨by omega, by omega⟩
            have hG := g_pos c65 hG
            refine lv_aload_n hx hb d_X11_held_179 rfl (lv_at hl 0 rfl) ?_
            refine r_geti X hw FL_X11_278 (rfl : KD 400 = _) rfl d_X11_held_180 ?_
            refine lv_topi (fun x81 ex81 => ?_)
            have hG := bnd_use ex81 hG
            refine lv_goto (tgt := 195) hx hb d_X11_held_183 (by decide) ?_
            refine lv_istore (lv' := [(4, .int x81), (0, .ref (ad 400)), (1, .int si), (2, .int y2), (3, .int y3)]) hx hb d_X11_held_195 hl (by decide) rfl (fun ls hl => ?_)
            refine lv_aload_n hx hb d_X11_held_197 rfl (lv_at hl 1 rfl) ?_
            refine lv_iload_n hx hb d_X11_held_198 rfl (lv_at hl 3 rfl) ?_
            refine r_put X hw hS FP_X11_246 (rfl : KD 400 = _) rfl ⟨rfl, rfl⟩ d_X11_held_199 (fun H locs hw hS => ?_)
            obtain ⟨v82, ev82⟩ : ∃ z, z = up2 v1 400 58 y2 := ⟨_, rfl⟩
            rw [← ev82] at hw
            have hG := bnd_use ev82 hG
            have hI83 : Inv v82 := by rw [ev82]; exact Inv.put0 hI1 _ rfl
            have hK84 : Kp (kp_X11_held_400 si) v v82 := by rw [ev82]; exact Kp.put hK1 _ (by unfold kp_X11_held_400; omega)
            have hm85 : v82 400 54 = x58 := by rw [ev82, up2_n _ _ (by omega)]; exact hm60
            have hm86 : v82 400 58 = y2 := by rw [ev82, up2_s]
            refine lv_aload_n hx hb d_X11_held_202 rfl (lv_at hl 1 rfl) ?_
            refine lv_iload_n hx hb d_X11_held_203 rfl (lv_at hl 4 rfl) ?_
            refine r_put X hw hS FP_X11_249 (rfl : KD 400 = _) rfl ⟨rfl, rfl⟩ d_X11_held_204 (fun H locs hw hS => ?_)
            obtain ⟨v87, ev87⟩ : ∃ z, z = up2 v82 400 59 y3 := ⟨_, rfl⟩
            rw [← ev87] at hw
            have hG := bnd_use ev87 hG
            have hI88 : Inv v87 := by rw [ev87]; exact Inv.put0 hI83 _ rfl
            have hK89 : Kp (kp_X11_held_400 si) v v87 := by rw [ev87]; exact Kp.put hK84 _ (by unfold kp_X11_held_400; omega)
            have hm90 : v87 400 54 = x58 := by rw [ev87, up2_n _ _ (by omega)]; exact hm85
            have hm91 : v87 400 58 = y2 := by rw [ev87, up2_n _ _ (by omega)]; exact hm86
            refine lv_iload hx hb d_X11_held_207 (lv_at hl 0 rfl) ?_
            exact r_iret X hr hlocks hw hS ⟨⟨hI88, hK89⟩, hG.trans eRR.symm⟩ d_X11_held_209
        · have f92 := i_nle c61
          have r93 : Rg y4 0 19 := by obtain ⟨a1, a2⟩ := r_y4; obtain ⟨b1, b2⟩ := r59; have f := i_nle c61; exact ⟨by omega, by omega⟩
          have r94 : Rg x58 1 20 := by obtain ⟨a1, a2⟩ := r_y4; obtain ⟨b1, b2⟩ := r59; have f := i_nle c61; exact ⟨by omega, by omega⟩
          have hG := g_neg c61 hG
          refine lv_aload_n hx hb d_X11_held_144 rfl (lv_at hl 0 rfl) ?_
          refine r_getr (r := 453) X hw FL_X11_139 (rfl : KD 400 = _) rfl d_X11_held_145 ?_
          refine lv_iload hx hb d_X11_held_148 (lv_at hl 4 rfl) ?_
          refine r_iald X hw (rfl : KD 453 = _) (Rg.vp (b := 19) r93 (by decide)) rfl d_X11_held_150 ?_
          refine lv_topi (fun x95 ex95 => ?_)
          have hG := bnd_use ex95 hG
          have r96 : Rg x95 0 19 := by rw [ex95]; exact hI1 _ _ _ _ rfl
          refine lv_iload_n hx hb d_X11_held_151 rfl (lv_at hl 1 rfl) ?_
          refine lv_icmp_eq (tgt := 166) hx hb d_X11_held_152 (by decide) (fun c97 => ?_) (fun c97 => ?_)
          · have f98 := i_eq c97
            have hG := g_pos c97 hG
            obtain ⟨x99, ex99⟩ : ∃ y : Int32, y = y4 + 1 := ⟨_, rfl⟩
            have hG := bnd_use ex99 hG
            refine lv_iinc (v := x99) (lv' := [(4, .int x99), (0, .ref (ad 400)), (1, .int si), (2, .int y2), (3, .int y3)]) hx hb d_X11_held_166 hl (k := 4) rfl (by rw [ex99]; rfl) (by decide) rfl (fun ls hl => ?_)
            have r100 : Rg x99 1 20 := rg_add ex99 r93 (⟨by decide, by decide⟩ : Rg 1 1 1) (by decide) (by decide)
            have s101 : x99.toInt = y4.toInt + (1 : Int32).toInt := by rw [ex99]; exact i_add (by obtain ⟨_, _⟩ := r93; obtain ⟨_, _⟩ := (⟨by decide, by decide⟩ : Rg 1 1 1); omega) (by obtain ⟨_, _⟩ := r93; obtain ⟨_, _⟩ := (⟨by decide, by decide⟩ : Rg 1 1 1); omega)
            have s101l : (1 : Int32).toInt = 1 := rfl
            refine lv_goto (tgt := 135) hx hb d_X11_held_169 (by decide) ?_
            exact ih2 y2 y3 x99 v1 _ _ _ (by have q_ := r_y1; obtain ⟨_, _⟩ := q_; have q_ := r93; obtain ⟨_, _⟩ := q_; have q_ := r94; obtain ⟨_, _⟩ := q_; have q_ := r96; obtain ⟨_, _⟩ := q_; have q_ := r100; obtain ⟨_, _⟩ := q_; have q_ := rg_any y2; obtain ⟨_, _⟩ := q_; have q_ := rg_any y3; obtain ⟨_, _⟩ := q_; omega) r_y1 (rg_w r100 (by decide) (by decide)) hI1 hK1 hG hw hS (lv_sub hl [1, 2, 3, 4, 0] rfl)
          · have f102 := i_ne c97
            have hG := g_neg c97 hG
            refine lv_aload_n hx hb d_X11_held_155 rfl (lv_at hl 0 rfl) ?_
            refine lv_aload_n hx hb d_X11_held_156 rfl (lv_at hl 0 rfl) ?_
            refine r_getr (r := 453) X hw FL_X11_139 (rfl : KD 400 = _) rfl d_X11_held_157 ?_
            refine lv_iload hx hb d_X11_held_160 (lv_at hl 4 rfl) ?_
            refine r_iald X hw (rfl : KD 453 = _) (Rg.vp (b := 19) r93 (by decide)) rfl d_X11_held_162 ?_
            refine lv_topi (fun x103 ex103 => ?_)
            have hG := bnd_use ex103 hG
            have r104 : Rg x103 0 19 := by rw [ex103]; exact hI1 _ _ _ _ rfl
            refine r_cv (r_runV (n := 1) (As := [.int x103]) (rest := []) X hw (ct_X11_sellThen_400 l D dA ad v1 hI1 x103 r104) gc_X11_296 (rfl : KD 400 = _) (by decide) rfl (by decide +kernel) ⟨rfl, rfl, Nat.le_of_ble_eq_true rfl, Nat.le_of_ble_eq_true rfl⟩ rfl hl.1 rfl (Nat.le_of_ble_eq_true rfl) ⟨Nat.zero_le _, Nat.zero_le _⟩ d_X11_held_163) hS (fun v106 H locs hp105 hw hS => ?_)
            obtain ⟨hp105, hE107⟩ := hp105
            obtain ⟨hI108, hK109⟩ := hp105
            have hK110 : Kp (kp_X11_held_400 si) v v106 := Kp.tr hK1 hK109 (by have z0 : (0 : Int32).toInt = 0 := rfl; intro a j; unfold kp_X11_held_400 kp_X11_sellThen_400; omega)
            have hG := bnd_use hE107 hG
            obtain ⟨x111, ex111⟩ : ∃ y : Int32, y = y4 + 1 := ⟨_, rfl⟩
            have hG := bnd_use ex111 hG
            refine lv_iinc (v := x111) (lv' := [(4, .int x111), (0, .ref (ad 400)), (1, .int si), (2, .int y2), (3, .int y3)]) hx hb d_X11_held_166 hl (k := 4) rfl (by rw [ex111]; rfl) (by decide) rfl (fun ls hl => ?_)
            have r112 : Rg x111 1 20 := rg_add ex111 r93 (⟨by decide, by decide⟩ : Rg 1 1 1) (by decide) (by decide)
            have s113 : x111.toInt = y4.toInt + (1 : Int32).toInt := by rw [ex111]; exact i_add (by obtain ⟨_, _⟩ := r93; obtain ⟨_, _⟩ := (⟨by decide, by decide⟩ : Rg 1 1 1); omega) (by obtain ⟨_, _⟩ := r93; obtain ⟨_, _⟩ := (⟨by decide, by decide⟩ : Rg 1 1 1); omega)
            have s113l : (1 : Int32).toInt = 1 := rfl
            refine lv_goto (tgt := 135) hx hb d_X11_held_169 (by decide) ?_
            exact ih2 y2 y3 x111 v106 _ _ _ (by have q_ := r_y1; obtain ⟨_, _⟩ := q_; have q_ := r93; obtain ⟨_, _⟩ := q_; have q_ := r94; obtain ⟨_, _⟩ := q_; have q_ := r96; obtain ⟨_, _⟩ := q_; have q_ := r104; obtain ⟨_, _⟩ := q_; have q_ := r112; obtain ⟨_, _⟩ := q_; have q_ := rg_any y2; obtain ⟨_, _⟩ := q_; have q_ := rg_any y3; obtain ⟨_, _⟩ := q_; omega) r_y1 (rg_w r112 (by decide) (by decide)) hI108 hK110 hG hw hS (lv_sub hl [1, 2, 3, 4, 0] rfl)
  obtain ⟨ih0, ih1, ih2⟩ := LL 100000
  have hK0 : Kp (kp_X11_held_400 si) v v := Kp.rf _ v
  have hG := eRR
  unfold f_X11_held_400 at hG
  refine lv_aload_n hx hb d_X11_held_0 rfl (lv_at hl 0 rfl) ?_
  refine lv_iload_n hx hb d_X11_held_1 rfl (lv_at hl 1 rfl) ?_
  refine r_ci (r_runV (n := 1) (As := [.int si]) (rest := []) X hw (ct_X11_isShip_400 l D dA ad v hI si) gc_X11_176 (rfl : KD 400 = _) (by decide) rfl (by decide +kernel) ⟨rfl, rfl, Nat.le_of_ble_eq_true rfl, Nat.le_of_ble_eq_true rfl⟩ rfl hl.1 rfl (Nat.le_of_ble_eq_true rfl) ⟨Nat.zero_le _, Nat.zero_le _⟩ d_X11_held_2) hS (fun x115 v116 H locs hp114 hw hS => ?_)
  obtain ⟨ev116, hp114⟩ := hp114
  rw [ev116] at hw
  rcases hp114 with ⟨rfl, w117a, w117b⟩ | ⟨rfl, w117n⟩
  · skip
    have hG := g_pos ⟨w117a, w117b⟩ hG
    have r118 : Rg si 0 19 := by have q := hI 400 1 0 20 rfl; obtain ⟨_, _⟩ := q; obtain ⟨_, _⟩ := (rg_any si); exact ⟨by omega, by omega⟩
    refine lv_if_eq (tgt := 45) hx hb d_X11_held_5 (by decide) (fun c119 => ?_) (fun c119 => ?_)
    · exact absurd c119 (by decide)
    · refine lv_aload_n hx hb d_X11_held_8 rfl (lv_at hl 0 rfl) ?_
      refine r_geti X hw FL_X11_265 (rfl : KD 400 = _) rfl d_X11_held_9 ?_
      refine lv_topi (fun x120 ex120 => ?_)
      have hG := bnd_use ex120 hG
      refine lv_if_eq (tgt := 45) hx hb d_X11_held_12 (by decide) (fun c121 => ?_) (fun c121 => ?_)
      · have f122 := i_eq c121
        have r123 : Rg x120 0 0 := by obtain ⟨a1, a2⟩ := (rg_any x120); obtain ⟨b1, b2⟩ := (⟨by decide, by decide⟩ : Rg 0 0 0); have f := i_eq c121; exact ⟨by omega, by omega⟩
        have hG := g_pos c121 hG
        refine lv_iconst (v := -1) hx hb d_X11_held_45 (by decide) ?_
        exact r_iret X hr hlocks hw hS ⟨⟨hI, hK0⟩, hG.trans eRR.symm⟩ d_X11_held_46
      · have f124 := i_ne c121
        have hG := g_neg c121 hG
        refine lv_iload_n hx hb d_X11_held_15 rfl (lv_at hl 1 rfl) ?_
        refine lv_aload_n hx hb d_X11_held_16 rfl (lv_at hl 0 rfl) ?_
        refine r_geti X hw FL_X11_269 (rfl : KD 400 = _) rfl d_X11_held_17 ?_
        refine lv_topi (fun x125 ex125 => ?_)
        have hG := bnd_use ex125 hG
        have r126 : Rg x125 0 20 := by rw [ex125]; exact hI _ _ _ _ rfl
        have hm127 : v 400 53 = x125 := ex125.symm
        refine lv_icmp_ge (tgt := 45) hx hb d_X11_held_20 (by decide) (fun c128 => ?_) (fun c128 => ?_)
        · have f129 := i_le c128
          have r130 : Rg x125 0 19 := by obtain ⟨a1, a2⟩ := r118; obtain ⟨b1, b2⟩ := r126; have f := i_le c128; exact ⟨by omega, by omega⟩
          have hG := g_pos c128 hG
          refine lv_iconst (v := -1) hx hb d_X11_held_45 (by decide) ?_
          exact r_iret X hr hlocks hw hS ⟨⟨hI, hK0⟩, hG.trans eRR.symm⟩ d_X11_held_46
        · have f131 := i_nle c128
          have r132 : Rg x125 1 20 := by obtain ⟨a1, a2⟩ := r118; obtain ⟨b1, b2⟩ := r126; have f := i_nle c128; exact ⟨by omega, by omega⟩
          have hG := g_neg c128 hG
          refine lv_aload_n hx hb d_X11_held_23 rfl (lv_at hl 0 rfl) ?_
          refine r_getr (r := 403) X hw FL_X11_7 (rfl : KD 400 = _) rfl d_X11_held_24 ?_
          refine lv_iload_n hx hb d_X11_held_27 rfl (lv_at hl 1 rfl) ?_
          refine r_iald X hw (rfl : KD 403 = _) (Rg.vp (b := 19) r118 (by decide)) rfl d_X11_held_28 ?_
          refine lv_topi (fun x133 ex133 => ?_)
          have hG := bnd_use ex133 hG
          refine lv_iconst (v := 3) hx hb d_X11_held_29 (by decide) ?_
          refine lv_icmp_eq (tgt := 45) hx hb d_X11_held_30 (by decide) (fun c134 => ?_) (fun c134 => ?_)
          · have f135 := i_eq c134
            have r136 : Rg x133 3 3 := by obtain ⟨a1, a2⟩ := (rg_any x133); obtain ⟨b1, b2⟩ := (⟨by decide, by decide⟩ : Rg 3 3 3); have f := i_eq c134; exact ⟨by omega, by omega⟩
            have hG := g_pos c134 hG
            refine lv_iconst (v := -1) hx hb d_X11_held_45 (by decide) ?_
            exact r_iret X hr hlocks hw hS ⟨⟨hI, hK0⟩, hG.trans eRR.symm⟩ d_X11_held_46
          · have f137 := i_ne c134
            have hG := g_neg c134 hG
            refine lv_aload_n hx hb d_X11_held_33 rfl (lv_at hl 0 rfl) ?_
            refine r_getr (r := 450) X hw FL_X11_130 (rfl : KD 400 = _) rfl d_X11_held_34 ?_
            refine lv_iconst (v := 4) hx hb d_X11_held_37 (by decide) ?_
            refine lv_iload_n hx hb d_X11_held_38 rfl (lv_at hl 1 rfl) ?_
            refine lv_imul hx hb d_X11_held_39 ?_
            refine lv_topi (fun x138 ex138 => ?_)
            have hG := bnd_use ex138 hG
            have r139 : Rg x138 0 76 := rg_mulc ex138 (⟨by decide, by decide⟩ : Rg 4 4 4) r118 (by decide) (by decide) (by decide)
            have s140 : x138.toInt = 4 * si.toInt := rg_mule ex138 r118 rfl (by decide) (by decide)
            refine r_iald X hw (rfl : KD 450 = _) (Rg.vp (b := 76) r139 (by decide)) rfl d_X11_held_40 ?_
            refine lv_topi (fun x141 ex141 => ?_)
            have hG := bnd_use ex141 hG
            refine lv_iconst (v := 1) hx hb d_X11_held_41 (by decide) ?_
            refine lv_icmp_le (tgt := 47) hx hb d_X11_held_42 (by decide) (fun c142 => ?_) (fun c142 => ?_)
            · have f143 := i_le c142
              have r144 : Rg x141 (-2147483648) 1 := by obtain ⟨a1, a2⟩ := (rg_any x141); obtain ⟨b1, b2⟩ := (⟨by decide, by decide⟩ : Rg 1 1 1); have f := i_le c142; exact ⟨by omega, by omega⟩
              have hG := g_pos c142 hG
              refine lv_iconst (v := 0) hx hb d_X11_held_47 (by decide) ?_
              refine lv_istore_n (lv' := [(2, .int 0), (0, .ref (ad 400)), (1, .int si)]) hx hb d_X11_held_48 rfl hl (by decide) rfl (fun ls hl => ?_)
              exact ih0 0 v _ _ _ (by have q_ := r118; obtain ⟨_, _⟩ := q_; have q_ := r132; obtain ⟨_, _⟩ := q_; have q_ := r139; obtain ⟨_, _⟩ := q_; have q_ := r144; obtain ⟨_, _⟩ := q_; have q_ : (0 : Int32).toInt = 0 := rfl; omega) r118 (rg_w (⟨by decide, by decide⟩ : Rg 0 0 0) (by decide) (by decide)) hI hK0 hG hw hS (lv_sub hl [1, 2, 0] rfl)
            · have f145 := i_nle c142
              have r146 : Rg x141 2 2147483647 := by obtain ⟨a1, a2⟩ := (rg_any x141); obtain ⟨b1, b2⟩ := (⟨by decide, by decide⟩ : Rg 1 1 1); have f := i_nle c142; exact ⟨by omega, by omega⟩
              have hG := g_neg c142 hG
              refine lv_iconst (v := -1) hx hb d_X11_held_45 (by decide) ?_
              exact r_iret X hr hlocks hw hS ⟨⟨hI, hK0⟩, hG.trans eRR.symm⟩ d_X11_held_46
  · skip
    have hG := g_neg w117n hG
    refine lv_if_eq (tgt := 45) hx hb d_X11_held_5 (by decide) (fun c147 => ?_) (fun c147 => ?_)
    · refine lv_iconst (v := -1) hx hb d_X11_held_45 (by decide) ?_
      exact r_iret X hr hlocks hw hS ⟨⟨hI, hK0⟩, hG.trans eRR.symm⟩ d_X11_held_46
    · exact absurd c147 (by decide)
theorem d_X11_tried_0 : decode c_X11_tried 0 = .ok (.iload_n 1, 1) := by decide +kernel
theorem d_X11_tried_1 : decode c_X11_tried 1 = .ok (.iconst (-1), 1) := by decide +kernel
theorem d_X11_tried_2 : decode c_X11_tried 2 = .ok (.aload_n 0, 1) := by decide +kernel
theorem d_X11_tried_3 : decode c_X11_tried 3 = .ok (.getfield 214, 3) := by decide +kernel
theorem d_X11_tried_6 : decode c_X11_tried 6 = .ok (.iconst 1, 1) := by decide +kernel
theorem d_X11_tried_7 : decode c_X11_tried 7 = .ok (.isub, 1) := by decide +kernel
theorem d_X11_tried_8 : decode c_X11_tried 8 = .ok (.invokestatic 169, 3) := by decide +kernel
theorem d_X11_tried_11 : decode c_X11_tried 11 = .ok (.ifCond .ne 5, 3) := by decide +kernel
theorem d_X11_tried_14 : decode c_X11_tried 14 = .ok (.iconst (-1), 1) := by decide +kernel
theorem d_X11_tried_15 : decode c_X11_tried 15 = .ok (.ireturn, 1) := by decide +kernel
theorem d_X11_tried_16 : decode c_X11_tried 16 = .ok (.iload_n 2, 1) := by decide +kernel
theorem d_X11_tried_17 : decode c_X11_tried 17 = .ok (.iconst 1, 1) := by decide +kernel
theorem d_X11_tried_18 : decode c_X11_tried 18 = .ok (.bipush 30, 2) := by decide +kernel
theorem d_X11_tried_20 : decode c_X11_tried 20 = .ok (.invokestatic 169, 3) := by decide +kernel
theorem d_X11_tried_23 : decode c_X11_tried 23 = .ok (.ifCond .eq 33, 3) := by decide +kernel
theorem d_X11_tried_26 : decode c_X11_tried 26 = .ok (.iload_n 3, 1) := by decide +kernel
theorem d_X11_tried_27 : decode c_X11_tried 27 = .ok (.iconst 0, 1) := by decide +kernel
theorem d_X11_tried_28 : decode c_X11_tried 28 = .ok (.bipush 9, 2) := by decide +kernel
theorem d_X11_tried_30 : decode c_X11_tried 30 = .ok (.invokestatic 169, 3) := by decide +kernel
theorem d_X11_tried_33 : decode c_X11_tried 33 = .ok (.ifCond .eq 23, 3) := by decide +kernel
theorem d_X11_tried_36 : decode c_X11_tried 36 = .ok (.iload 4, 2) := by decide +kernel
theorem d_X11_tried_38 : decode c_X11_tried 38 = .ok (.iconst 0, 1) := by decide +kernel
theorem d_X11_tried_39 : decode c_X11_tried 39 = .ok (.iconst 4, 1) := by decide +kernel
theorem d_X11_tried_40 : decode c_X11_tried 40 = .ok (.invokestatic 169, 3) := by decide +kernel
theorem d_X11_tried_43 : decode c_X11_tried 43 = .ok (.ifCond .eq 13, 3) := by decide +kernel
theorem d_X11_tried_46 : decode c_X11_tried 46 = .ok (.iload 5, 2) := by decide +kernel
theorem d_X11_tried_48 : decode c_X11_tried 48 = .ok (.iconst 0, 1) := by decide +kernel
theorem d_X11_tried_49 : decode c_X11_tried 49 = .ok (.iconst 2, 1) := by decide +kernel
theorem d_X11_tried_50 : decode c_X11_tried 50 = .ok (.invokestatic 169, 3) := by decide +kernel
theorem d_X11_tried_53 : decode c_X11_tried 53 = .ok (.ifCond .ne 6, 3) := by decide +kernel
theorem d_X11_tried_56 : decode c_X11_tried 56 = .ok (.bipush (-2), 2) := by decide +kernel
theorem d_X11_tried_58 : decode c_X11_tried 58 = .ok (.ireturn, 1) := by decide +kernel
theorem d_X11_tried_59 : decode c_X11_tried 59 = .ok (.aload_n 0, 1) := by decide +kernel
theorem d_X11_tried_60 : decode c_X11_tried 60 = .ok (.invokevirtual 299, 3) := by decide +kernel
theorem d_X11_tried_63 : decode c_X11_tried 63 = .ok (.aload_n 0, 1) := by decide +kernel
theorem d_X11_tried_64 : decode c_X11_tried 64 = .ok (.invokevirtual 302, 3) := by decide +kernel
theorem d_X11_tried_67 : decode c_X11_tried 67 = .ok (.istore 6, 2) := by decide +kernel
theorem d_X11_tried_69 : decode c_X11_tried 69 = .ok (.iconst 0, 1) := by decide +kernel
theorem d_X11_tried_70 : decode c_X11_tried 70 = .ok (.istore 7, 2) := by decide +kernel
theorem d_X11_tried_72 : decode c_X11_tried 72 = .ok (.iconst 0, 1) := by decide +kernel
theorem d_X11_tried_73 : decode c_X11_tried 73 = .ok (.istore 8, 2) := by decide +kernel
theorem d_X11_tried_75 : decode c_X11_tried 75 = .ok (.iload 8, 2) := by decide +kernel
theorem d_X11_tried_77 : decode c_X11_tried 77 = .ok (.iload_n 2, 1) := by decide +kernel
theorem d_X11_tried_78 : decode c_X11_tried 78 = .ok (.if_icmp .ge 43, 3) := by decide +kernel
theorem d_X11_tried_81 : decode c_X11_tried 81 = .ok (.aload_n 0, 1) := by decide +kernel
theorem d_X11_tried_82 : decode c_X11_tried 82 = .ok (.iload_n 3, 1) := by decide +kernel
theorem d_X11_tried_83 : decode c_X11_tried 83 = .ok (.iload 4, 2) := by decide +kernel
theorem d_X11_tried_85 : decode c_X11_tried 85 = .ok (.iconst 0, 1) := by decide +kernel
theorem d_X11_tried_86 : decode c_X11_tried 86 = .ok (.iload_n 1, 1) := by decide +kernel
theorem d_X11_tried_87 : decode c_X11_tried 87 = .ok (.ifCond .ge 14, 3) := by decide +kernel
theorem d_X11_tried_90 : decode c_X11_tried 90 = .ok (.aload_n 0, 1) := by decide +kernel
theorem d_X11_tried_91 : decode c_X11_tried 91 = .ok (.aload_n 0, 1) := by decide +kernel
theorem d_X11_tried_92 : decode c_X11_tried 92 = .ok (.getfield 227, 3) := by decide +kernel
theorem d_X11_tried_95 : decode c_X11_tried 95 = .ok (.invokevirtual 220, 3) := by decide +kernel
theorem d_X11_tried_98 : decode c_X11_tried 98 = .ok (.goto 4, 3) := by decide +kernel
theorem d_X11_tried_101 : decode c_X11_tried 101 = .ok (.iload_n 1, 1) := by decide +kernel
theorem d_X11_tried_102 : decode c_X11_tried 102 = .ok (.iconst 0, 1) := by decide +kernel
theorem d_X11_tried_103 : decode c_X11_tried 103 = .ok (.invokevirtual 288, 3) := by decide +kernel
theorem d_X11_tried_106 : decode c_X11_tried 106 = .ok (.iload 7, 2) := by decide +kernel
theorem d_X11_tried_108 : decode c_X11_tried 108 = .ok (.aload_n 0, 1) := by decide +kernel
theorem d_X11_tried_109 : decode c_X11_tried 109 = .ok (.getfield 246, 3) := by decide +kernel
theorem d_X11_tried_112 : decode c_X11_tried 112 = .ok (.iadd, 1) := by decide +kernel
theorem d_X11_tried_113 : decode c_X11_tried 113 = .ok (.istore 7, 2) := by decide +kernel
theorem d_X11_tried_115 : decode c_X11_tried 115 = .ok (.iinc 8 1, 3) := by decide +kernel
theorem d_X11_tried_118 : decode c_X11_tried 118 = .ok (.goto (-43), 3) := by decide +kernel
theorem d_X11_tried_121 : decode c_X11_tried 121 = .ok (.iload 5, 2) := by decide +kernel
theorem d_X11_tried_123 : decode c_X11_tried 123 = .ok (.ifCond .ne 10, 3) := by decide +kernel
theorem d_X11_tried_126 : decode c_X11_tried 126 = .ok (.aload_n 0, 1) := by decide +kernel
theorem d_X11_tried_127 : decode c_X11_tried 127 = .ok (.getfield 76, 3) := by decide +kernel
theorem d_X11_tried_130 : decode c_X11_tried 130 = .ok (.goto 21, 3) := by decide +kernel
theorem d_X11_tried_133 : decode c_X11_tried 133 = .ok (.iload 5, 2) := by decide +kernel
theorem d_X11_tried_135 : decode c_X11_tried 135 = .ok (.iconst 1, 1) := by decide +kernel
theorem d_X11_tried_136 : decode c_X11_tried 136 = .ok (.if_icmp .ne 8, 3) := by decide +kernel
theorem d_X11_tried_139 : decode c_X11_tried 139 = .ok (.iload 7, 2) := by decide +kernel
theorem d_X11_tried_141 : decode c_X11_tried 141 = .ok (.goto 10, 3) := by decide +kernel
theorem d_X11_tried_144 : decode c_X11_tried 144 = .ok (.aload_n 0, 1) := by decide +kernel
theorem d_X11_tried_145 : decode c_X11_tried 145 = .ok (.invokevirtual 302, 3) := by decide +kernel
theorem d_X11_tried_148 : decode c_X11_tried 148 = .ok (.iload 6, 2) := by decide +kernel
theorem d_X11_tried_150 : decode c_X11_tried 150 = .ok (.isub, 1) := by decide +kernel
theorem d_X11_tried_151 : decode c_X11_tried 151 = .ok (.istore 8, 2) := by decide +kernel
theorem d_X11_tried_153 : decode c_X11_tried 153 = .ok (.aload_n 0, 1) := by decide +kernel
theorem d_X11_tried_154 : decode c_X11_tried 154 = .ok (.invokevirtual 305, 3) := by decide +kernel
theorem d_X11_tried_157 : decode c_X11_tried 157 = .ok (.iload 8, 2) := by decide +kernel
theorem d_X11_tried_159 : decode c_X11_tried 159 = .ok (.ireturn, 1) := by decide +kernel
def kp_X11_tried_400 (od : Int32) (dn : Int32) (wi : Int32) (co : Int32) (wh : Int32) (a j : Nat) : Prop := (a ≠ 400 ∨ (j ≠ 25 ∧ j ≠ 26 ∧ j ≠ 27 ∧ j ≠ 44 ∧ j ≠ 58 ∧ j ≠ 59)) ∧ (a < 408 ∨ 416 ≤ a) ∧ a ≠ 419 ∧ (a < 421 ∨ 425 ≤ a) ∧ (a < 429 ∨ 433 ≤ a) ∧ a ≠ 446 ∧ (a < 447 ∨ 450 ≤ a)
def b_X11_tried_400_75 (od : Int32) (dn : Int32) (wi : Int32) (co : Int32) (wh : Int32) (rc75 : Int32 → Int32 → Int32 → tV → Int32 × tV) (y6 : Int32) (y7 : Int32) (y8 : Int32) (v1 : tV) : Int32 × tV := (if dn ≤ y8 then (if wh = (0 : Int32) then bnd (v1 400 26) fun x29 => bnd (f_X11_putBack_400 v1 ) fun v31 => (x29, v31) else (if wh = (1 : Int32) then bnd (f_X11_putBack_400 v1 ) fun v22 => (y7, v22) else bnd (f_X11_allLacks_400 v1 ) fun x9 => bnd (x9 - y6) fun x12 => bnd (f_X11_putBack_400 v1 ) fun v14 => (x12, v14))) else (if (0 : Int32) ≤ od then bnd (f_X11_go_400 v1 wi co (0 : Int32) od (0 : Int32)) fun v42 => bnd (v42 400 58) fun x47 => bnd (y7 + x47) fun x48 => bnd (y8 + 1) fun x49 => rc75 y6 x48 x49 v42 else bnd (v1 400 25) fun x54 => bnd (f_X11_forceOn_400 v1 x54) fun x56 => bnd (f_X11_go_400 v1 wi co (0 : Int32) x56 (0 : Int32)) fun v60 => bnd (v60 400 58) fun x65 => bnd (y7 + x65) fun x66 => bnd (y8 + 1) fun x67 => rc75 y6 x66 x67 v60))
def g_X11_tried_400_75 (od : Int32) (dn : Int32) (wi : Int32) (co : Int32) (wh : Int32) : Nat → Int32 → Int32 → Int32 → tV → Int32 × tV
  | 0, _, _, _, v1 => (0, v1)
  | n + 1, y6, y7, y8, v1 => b_X11_tried_400_75 od dn wi co wh (g_X11_tried_400_75 od dn wi co wh n) y6 y7 y8 v1
def f_X11_tried_400 (v : tV) (od : Int32) (dn : Int32) (wi : Int32) (co : Int32) (wh : Int32) : Int32 × tV := bnd (v 400 34) fun x70 => bnd (x70 - (1 : Int32)) fun x73 => (if (-1 : Int32).toInt ≤ od.toInt ∧ od.toInt ≤ x73.toInt then (if (1 : Int32).toInt ≤ dn.toInt ∧ dn.toInt ≤ (30 : Int32).toInt then (if (0 : Int32).toInt ≤ wi.toInt ∧ wi.toInt ≤ (9 : Int32).toInt then (if (0 : Int32).toInt ≤ co.toInt ∧ co.toInt ≤ (4 : Int32).toInt then (if (0 : Int32).toInt ≤ wh.toInt ∧ wh.toInt ≤ (2 : Int32).toInt then bnd (f_X11_keep_400 v ) fun v107 => bnd (f_X11_allLacks_400 v107 ) fun x113 => g_X11_tried_400_75 od dn wi co wh 100000 x113 0 0 v107 else ((-2 : Int32), v)) else ((-2 : Int32), v)) else ((-2 : Int32), v)) else ((-2 : Int32), v)) else ((-1 : Int32), v))
set_option maxHeartbeats 4000000 in
set_option maxRecDepth 100000 in
theorem ct_X11_tried_400 (l : Launch) (D : va_G) (dA : Nat → ClassId) (ad : Nat → Nat) (v : tV) (hI : Inv v) (od : Int32) (dn : Int32) (wi : Int32) (co : Int32) (wh : Int32) : Met l m_X11_tried [.code m_X11_tried c_X11_tried 9 (some .int)] ({ frames := 6, cells := 0, slots := 0, locals := 160 } : Room) (tP D dA ad v [.ref (ad 400), .int od, .int dn, .int wi, .int co, .int wh]) (tQi D dA ad (fun r v' => (Inv v' ∧ Kp (kp_X11_tried_400 od dn wi co wh) v v') ∧ (r, v') = f_X11_tried_400 v od dn wi co wh)) 0 0 (tA ad) := by
  refine tMet (by decide) (Nat.le_of_ble_eq_true rfl) ?_
  intro p e s m below meth c ls X hr hlocks hw hl
  have X : CX p s m ([.ref (ad 400), .int od, .int dn, .int wi, .int co, .int wh] : List Value).toArray c c_X11_tried N_X11 9 D dA := X
  have hx := X.1
  have hb := X.2.1
  have hS : va_S (tA ad) s.heap s.heap [] := va_S.rf
  have hl : lv_has ls 9 [(0, .ref (ad 400)), (1, .int od), (2, .int dn), (3, .int wi), (4, .int co), (5, .int wh)] := hl
  obtain ⟨RR, eRR⟩ : ∃ z, f_X11_tried_400 v od dn wi co wh = z := ⟨_, rfl⟩
  have LL : ∀ n : Nat, (∀ (y6 : Int32) (y7 : Int32) (y8 : Int32) (v1 : tV) (H : Heap) (locs : List Loc) (ls : Array Slot), (30 - y8.toInt).toNat < n → Rg od (-1) 7 → Rg dn 1 30 → Rg co 0 4 → Rg y8 0 30 → Inv v1 → Kp (kp_X11_tried_400 od dn wi co wh) v v1 → g_X11_tried_400_75 od dn wi co wh n y6 y7 y8 v1 = RR → tI D dA ad v1 H → va_S (tA ad) s.heap H locs → lv_has ls 9 [(0, .ref (ad 400)), (1, .int od), (2, .int dn), (3, .int wi), (4, .int co), (5, .int wh), (6, .int y6), (7, .int y7), (8, .int y8)] → W p l e ({ frames := 6, cells := 0, slots := 0, locals := 160 } : Room) s m ([.ref (ad 400), .int od, .int dn, .int wi, .int co, .int wh] : List Value).toArray below meth c H locs 0 0 (MQ below (tQi D dA ad (fun r v' => (Inv v' ∧ Kp (kp_X11_tried_400 od dn wi co wh) v v') ∧ (r, v') = f_X11_tried_400 v od dn wi co wh)) ([.ref (ad 400), .int od, .int dn, .int wi, .int co, .int wh] : List Value).toArray s 0 0 (tA ad)) (F0 m 75 ls [])) := by
    intro n
    induction n with
    | zero => intros; omega
    | succ n ih =>
      have ih0 := ih
      intro y6 y7 y8 v1 H locs ls hmu r_y1 r_y2 r_y4 r_y8 hI1 hK1 hG hw hS hl
      have hG : b_X11_tried_400_75 od dn wi co wh (g_X11_tried_400_75 od dn wi co wh n) y6 y7 y8 v1 = RR := hG
      unfold b_X11_tried_400_75 at hG
      refine lv_iload hx hb d_X11_tried_75 (lv_at hl 8 rfl) ?_
      refine lv_iload_n hx hb d_X11_tried_77 rfl (lv_at hl 2 rfl) ?_
      refine lv_icmp_ge (tgt := 121) hx hb d_X11_tried_78 (by decide) (fun c1 => ?_) (fun c1 => ?_)
      · have f2 := i_le c1
        have r3 : Rg y8 1 30 := by obtain ⟨a1, a2⟩ := r_y8; obtain ⟨b1, b2⟩ := r_y2; have f := i_le c1; exact ⟨by omega, by omega⟩
        have hG := g_pos c1 hG
        refine lv_iload hx hb d_X11_tried_121 (lv_at hl 5 rfl) ?_
        refine lv_if_ne (tgt := 133) hx hb d_X11_tried_123 (by decide) (fun c4 => ?_) (fun c4 => ?_)
        · have f5 := i_ne c4
          have hG := g_neg c4 hG
          refine lv_iload hx hb d_X11_tried_133 (lv_at hl 5 rfl) ?_
          refine lv_iconst (v := 1) hx hb d_X11_tried_135 (by decide) ?_
          refine lv_icmp_ne (tgt := 144) hx hb d_X11_tried_136 (by decide) (fun c6 => ?_) (fun c6 => ?_)
          · have f7 := i_ne c6
            have hG := g_neg c6 hG
            refine lv_aload_n hx hb d_X11_tried_144 rfl (lv_at hl 0 rfl) ?_
            refine r_ci (r_runV (n := 0) (As := []) (rest := []) X hw (ct_X11_allLacks_400 l D dA ad v1 hI1) gc_X11_302 (rfl : KD 400 = _) (by decide) rfl (by decide +kernel) ⟨rfl, rfl, Nat.le_of_ble_eq_true rfl, Nat.le_of_ble_eq_true rfl⟩ rfl hl.1 rfl (Nat.le_of_ble_eq_true rfl) ⟨Nat.zero_le _, Nat.zero_le _⟩ d_X11_tried_145) hS (fun x9 v10 H locs hp8 hw hS => ?_)
            obtain ⟨hp8, hE11⟩ := hp8
            rw [hp8] at hw
            have hG := bnd_use hE11 hG
            refine lv_iload hx hb d_X11_tried_148 (lv_at hl 6 rfl) ?_
            refine lv_isub hx hb d_X11_tried_150 ?_
            refine lv_topi (fun x12 ex12 => ?_)
            have hG := bnd_use ex12 hG
            refine lv_istore (lv' := [(8, .int x12), (0, .ref (ad 400)), (1, .int od), (2, .int dn), (3, .int wi), (4, .int co), (5, .int wh), (6, .int y6), (7, .int y7)]) hx hb d_X11_tried_151 hl (by decide) rfl (fun ls hl => ?_)
            refine lv_aload_n hx hb d_X11_tried_153 rfl (lv_at hl 1 rfl) ?_
            refine r_cv (r_runV (n := 0) (As := []) (rest := []) X hw (ct_X11_putBack_400 l D dA ad v1 hI1) gc_X11_305 (rfl : KD 400 = _) (by decide) rfl (by decide +kernel) ⟨rfl, rfl, Nat.le_of_ble_eq_true rfl, Nat.le_of_ble_eq_true rfl⟩ rfl hl.1 rfl (Nat.le_of_ble_eq_true rfl) ⟨Nat.zero_le _, Nat.zero_le _⟩ d_X11_tried_154) hS (fun v14 H locs hp13 hw hS => ?_)
            obtain ⟨hp13, hE15⟩ := hp13
            obtain ⟨hI16, hK17⟩ := hp13
            have hK18 : Kp (kp_X11_tried_400 od dn wi co wh) v v14 := Kp.tr hK1 hK17 (by have z0 : (0 : Int32).toInt = 0 := rfl; intro a j; unfold kp_X11_tried_400 kp_X11_putBack_400; omega)
            have hG := bnd_use hE15 hG
            refine lv_iload hx hb d_X11_tried_157 (lv_at hl 0 rfl) ?_
            exact r_iret X hr hlocks hw hS ⟨⟨hI16, hK18⟩, hG.trans eRR.symm⟩ d_X11_tried_159
          · have f19 := i_eq c6
            have r20 : Rg wh 1 1 := by obtain ⟨a1, a2⟩ := (rg_any wh); obtain ⟨b1, b2⟩ := (⟨by decide, by decide⟩ : Rg 1 1 1); have f := i_eq c6; exact ⟨by omega, by omega⟩
            have hG := g_pos c6 hG
            refine lv_iload hx hb d_X11_tried_139 (lv_at hl 7 rfl) ?_
            refine lv_goto (tgt := 151) hx hb d_X11_tried_141 (by decide) ?_
            refine lv_istore (lv' := [(8, .int y7), (0, .ref (ad 400)), (1, .int od), (2, .int dn), (3, .int wi), (4, .int co), (5, .int wh), (6, .int y6), (7, .int y7)]) hx hb d_X11_tried_151 hl (by decide) rfl (fun ls hl => ?_)
            refine lv_aload_n hx hb d_X11_tried_153 rfl (lv_at hl 1 rfl) ?_
            refine r_cv (r_runV (n := 0) (As := []) (rest := []) X hw (ct_X11_putBack_400 l D dA ad v1 hI1) gc_X11_305 (rfl : KD 400 = _) (by decide) rfl (by decide +kernel) ⟨rfl, rfl, Nat.le_of_ble_eq_true rfl, Nat.le_of_ble_eq_true rfl⟩ rfl hl.1 rfl (Nat.le_of_ble_eq_true rfl) ⟨Nat.zero_le _, Nat.zero_le _⟩ d_X11_tried_154) hS (fun v22 H locs hp21 hw hS => ?_)
            obtain ⟨hp21, hE23⟩ := hp21
            obtain ⟨hI24, hK25⟩ := hp21
            have hK26 : Kp (kp_X11_tried_400 od dn wi co wh) v v22 := Kp.tr hK1 hK25 (by have z0 : (0 : Int32).toInt = 0 := rfl; intro a j; unfold kp_X11_tried_400 kp_X11_putBack_400; omega)
            have hG := bnd_use hE23 hG
            refine lv_iload hx hb d_X11_tried_157 (lv_at hl 0 rfl) ?_
            exact r_iret X hr hlocks hw hS ⟨⟨hI24, hK26⟩, hG.trans eRR.symm⟩ d_X11_tried_159
        · have f27 := i_eq c4
          have r28 : Rg wh 0 0 := by obtain ⟨a1, a2⟩ := (rg_any wh); obtain ⟨b1, b2⟩ := (⟨by decide, by decide⟩ : Rg 0 0 0); have f := i_eq c4; exact ⟨by omega, by omega⟩
          have hG := g_pos c4 hG
          refine lv_aload_n hx hb d_X11_tried_126 rfl (lv_at hl 0 rfl) ?_
          refine r_geti X hw FL_X11_76 (rfl : KD 400 = _) rfl d_X11_tried_127 ?_
          refine lv_topi (fun x29 ex29 => ?_)
          have hG := bnd_use ex29 hG
          refine lv_goto (tgt := 151) hx hb d_X11_tried_130 (by decide) ?_
          refine lv_istore (lv' := [(8, .int x29), (0, .ref (ad 400)), (1, .int od), (2, .int dn), (3, .int wi), (4, .int co), (5, .int wh), (6, .int y6), (7, .int y7)]) hx hb d_X11_tried_151 hl (by decide) rfl (fun ls hl => ?_)
          refine lv_aload_n hx hb d_X11_tried_153 rfl (lv_at hl 1 rfl) ?_
          refine r_cv (r_runV (n := 0) (As := []) (rest := []) X hw (ct_X11_putBack_400 l D dA ad v1 hI1) gc_X11_305 (rfl : KD 400 = _) (by decide) rfl (by decide +kernel) ⟨rfl, rfl, Nat.le_of_ble_eq_true rfl, Nat.le_of_ble_eq_true rfl⟩ rfl hl.1 rfl (Nat.le_of_ble_eq_true rfl) ⟨Nat.zero_le _, Nat.zero_le _⟩ d_X11_tried_154) hS (fun v31 H locs hp30 hw hS => ?_)
          obtain ⟨hp30, hE32⟩ := hp30
          obtain ⟨hI33, hK34⟩ := hp30
          have hK35 : Kp (kp_X11_tried_400 od dn wi co wh) v v31 := Kp.tr hK1 hK34 (by have z0 : (0 : Int32).toInt = 0 := rfl; intro a j; unfold kp_X11_tried_400 kp_X11_putBack_400; omega)
          have hG := bnd_use hE32 hG
          refine lv_iload hx hb d_X11_tried_157 (lv_at hl 0 rfl) ?_
          exact r_iret X hr hlocks hw hS ⟨⟨hI33, hK35⟩, hG.trans eRR.symm⟩ d_X11_tried_159
      · have f36 := i_nle c1
        have r37 : Rg y8 0 29 := by obtain ⟨a1, a2⟩ := r_y8; obtain ⟨b1, b2⟩ := r_y2; have f := i_nle c1; exact ⟨by omega, by omega⟩
        have hG := g_neg c1 hG
        refine lv_aload_n hx hb d_X11_tried_81 rfl (lv_at hl 0 rfl) ?_
        refine lv_iload_n hx hb d_X11_tried_82 rfl (lv_at hl 3 rfl) ?_
        refine lv_iload hx hb d_X11_tried_83 (lv_at hl 4 rfl) ?_
        refine lv_iconst (v := 0) hx hb d_X11_tried_85 (by decide) ?_
        refine lv_iload_n hx hb d_X11_tried_86 rfl (lv_at hl 1 rfl) ?_
        refine lv_if_ge (tgt := 101) hx hb d_X11_tried_87 (by decide) (fun c38 => ?_) (fun c38 => ?_)
        · have f39 := i_le c38
          have r40 : Rg od 0 7 := by obtain ⟨a1, a2⟩ := r_y1; obtain ⟨b1, b2⟩ := (⟨by decide, by decide⟩ : Rg 0 0 0); have f := i_le c38; exact ⟨by omega, by omega⟩
          have hG := g_pos c38 hG
          refine lv_iload_n hx hb d_X11_tried_101 rfl (lv_at hl 1 rfl) ?_
          refine lv_iconst (v := 0) hx hb d_X11_tried_102 (by decide) ?_
          refine r_cv (r_runV (n := 5) (As := [.int wi, .int co, .int 0, .int od, .int 0]) (rest := []) X hw (ct_X11_go_400 l D dA ad v1 hI1 wi co 0 od 0 r_y4 (rg_w r40 (by decide) (by decide))) gc_X11_288 (rfl : KD 400 = _) (by decide) rfl (by decide +kernel) ⟨rfl, rfl, Nat.le_of_ble_eq_true rfl, Nat.le_of_ble_eq_true rfl⟩ rfl hl.1 rfl (Nat.le_of_ble_eq_true rfl) ⟨Nat.zero_le _, Nat.zero_le _⟩ d_X11_tried_103) hS (fun v42 H locs hp41 hw hS => ?_)
          obtain ⟨hp41, hE43⟩ := hp41
          obtain ⟨hI44, hK45⟩ := hp41
          have hK46 : Kp (kp_X11_tried_400 od dn wi co wh) v v42 := Kp.tr hK1 hK45 (by have z0 : (0 : Int32).toInt = 0 := rfl; intro a j; unfold kp_X11_tried_400 kp_X11_go_400; omega)
          have hG := bnd_use hE43 hG
          refine lv_iload hx hb d_X11_tried_106 (lv_at hl 7 rfl) ?_
          refine lv_aload_n hx hb d_X11_tried_108 rfl (lv_at hl 0 rfl) ?_
          refine r_geti X hw FL_X11_246 (rfl : KD 400 = _) rfl d_X11_tried_109 ?_
          refine lv_topi (fun x47 ex47 => ?_)
          have hG := bnd_use ex47 hG
          refine lv_iadd hx hb d_X11_tried_112 ?_
          refine lv_topi (fun x48 ex48 => ?_)
          have hG := bnd_use ex48 hG
          refine lv_istore (lv' := [(7, .int x48), (0, .ref (ad 400)), (1, .int od), (2, .int dn), (3, .int wi), (4, .int co), (5, .int wh), (6, .int y6), (8, .int y8)]) hx hb d_X11_tried_113 hl (by decide) rfl (fun ls hl => ?_)
          obtain ⟨x49, ex49⟩ : ∃ y : Int32, y = y8 + 1 := ⟨_, rfl⟩
          have hG := bnd_use ex49 hG
          refine lv_iinc (v := x49) (lv' := [(8, .int x49), (7, .int x48), (0, .ref (ad 400)), (1, .int od), (2, .int dn), (3, .int wi), (4, .int co), (5, .int wh), (6, .int y6)]) hx hb d_X11_tried_115 hl (k := 8) rfl (by rw [ex49]; rfl) (by decide) rfl (fun ls hl => ?_)
          have r50 : Rg x49 1 30 := rg_add ex49 r37 (⟨by decide, by decide⟩ : Rg 1 1 1) (by decide) (by decide)
          have s51 : x49.toInt = y8.toInt + (1 : Int32).toInt := by rw [ex49]; exact i_add (by obtain ⟨_, _⟩ := r37; obtain ⟨_, _⟩ := (⟨by decide, by decide⟩ : Rg 1 1 1); omega) (by obtain ⟨_, _⟩ := r37; obtain ⟨_, _⟩ := (⟨by decide, by decide⟩ : Rg 1 1 1); omega)
          have s51l : (1 : Int32).toInt = 1 := rfl
          refine lv_goto (tgt := 75) hx hb d_X11_tried_118 (by decide) ?_
          exact ih0 y6 x48 x49 v42 _ _ _ (by have q_ := r40; obtain ⟨_, _⟩ := q_; have q_ := r_y2; obtain ⟨_, _⟩ := q_; have q_ := r_y4; obtain ⟨_, _⟩ := q_; have q_ := r37; obtain ⟨_, _⟩ := q_; have q_ := r50; obtain ⟨_, _⟩ := q_; have q_ := rg_any wi; obtain ⟨_, _⟩ := q_; have q_ := rg_any wh; obtain ⟨_, _⟩ := q_; have q_ := rg_any y6; obtain ⟨_, _⟩ := q_; have q_ := rg_any x48; obtain ⟨_, _⟩ := q_; omega) (rg_w r40 (by decide) (by decide)) r_y2 r_y4 (rg_w r50 (by decide) (by decide)) hI44 hK46 hG hw hS (lv_sub hl [2, 3, 4, 5, 6, 7, 8, 1, 0] rfl)
        · have f52 := i_nle c38
          have r53 : Rg od (-1) (-1) := by obtain ⟨a1, a2⟩ := r_y1; obtain ⟨b1, b2⟩ := (⟨by decide, by decide⟩ : Rg 0 0 0); have f := i_nle c38; exact ⟨by omega, by omega⟩
          have hG := g_neg c38 hG
          refine lv_aload_n hx hb d_X11_tried_90 rfl (lv_at hl 0 rfl) ?_
          refine lv_aload_n hx hb d_X11_tried_91 rfl (lv_at hl 0 rfl) ?_
          refine r_geti X hw FL_X11_227 (rfl : KD 400 = _) rfl d_X11_tried_92 ?_
          refine lv_topi (fun x54 ex54 => ?_)
          have hG := bnd_use ex54 hG
          refine r_ci (r_runV (n := 1) (As := [.int x54]) (rest := [.int 0, .int co, .int wi, .ref (ad 400)]) X hw (ct_X11_forceOn_400 l D dA ad v1 hI1 x54) gc_X11_220 (rfl : KD 400 = _) (by decide) rfl (by decide +kernel) ⟨rfl, rfl, Nat.le_of_ble_eq_true rfl, Nat.le_of_ble_eq_true rfl⟩ rfl hl.1 rfl (Nat.le_of_ble_eq_true rfl) ⟨Nat.zero_le _, Nat.zero_le _⟩ d_X11_tried_95) hS (fun x56 v57 H locs hp55 hw hS => ?_)
          obtain ⟨hp55, hE58⟩ := hp55
          obtain ⟨ev57, hp55⟩ := hp55
          rw [ev57] at hw
          have hG := bnd_use hE58 hG
          refine lv_goto (tgt := 102) hx hb d_X11_tried_98 (by decide) ?_
          refine lv_iconst (v := 0) hx hb d_X11_tried_102 (by decide) ?_
          refine r_cv (r_runV (n := 5) (As := [.int wi, .int co, .int 0, .int x56, .int 0]) (rest := []) X hw (ct_X11_go_400 l D dA ad v1 hI1 wi co 0 x56 0 r_y4 hp55) gc_X11_288 (rfl : KD 400 = _) (by decide) rfl (by decide +kernel) ⟨rfl, rfl, Nat.le_of_ble_eq_true rfl, Nat.le_of_ble_eq_true rfl⟩ rfl hl.1 rfl (Nat.le_of_ble_eq_true rfl) ⟨Nat.zero_le _, Nat.zero_le _⟩ d_X11_tried_103) hS (fun v60 H locs hp59 hw hS => ?_)
          obtain ⟨hp59, hE61⟩ := hp59
          obtain ⟨hI62, hK63⟩ := hp59
          have hK64 : Kp (kp_X11_tried_400 od dn wi co wh) v v60 := Kp.tr hK1 hK63 (by have z0 : (0 : Int32).toInt = 0 := rfl; intro a j; unfold kp_X11_tried_400 kp_X11_go_400; omega)
          have hG := bnd_use hE61 hG
          refine lv_iload hx hb d_X11_tried_106 (lv_at hl 7 rfl) ?_
          refine lv_aload_n hx hb d_X11_tried_108 rfl (lv_at hl 0 rfl) ?_
          refine r_geti X hw FL_X11_246 (rfl : KD 400 = _) rfl d_X11_tried_109 ?_
          refine lv_topi (fun x65 ex65 => ?_)
          have hG := bnd_use ex65 hG
          refine lv_iadd hx hb d_X11_tried_112 ?_
          refine lv_topi (fun x66 ex66 => ?_)
          have hG := bnd_use ex66 hG
          refine lv_istore (lv' := [(7, .int x66), (0, .ref (ad 400)), (1, .int od), (2, .int dn), (3, .int wi), (4, .int co), (5, .int wh), (6, .int y6), (8, .int y8)]) hx hb d_X11_tried_113 hl (by decide) rfl (fun ls hl => ?_)
          obtain ⟨x67, ex67⟩ : ∃ y : Int32, y = y8 + 1 := ⟨_, rfl⟩
          have hG := bnd_use ex67 hG
          refine lv_iinc (v := x67) (lv' := [(8, .int x67), (7, .int x66), (0, .ref (ad 400)), (1, .int od), (2, .int dn), (3, .int wi), (4, .int co), (5, .int wh), (6, .int y6)]) hx hb d_X11_tried_115 hl (k := 8) rfl (by rw [ex67]; rfl) (by decide) rfl (fun ls hl => ?_)
          have r68 : Rg x67 1 30 := rg_add ex67 r37 (⟨by decide, by decide⟩ : Rg 1 1 1) (by decide) (by decide)
          have s69 : x67.toInt = y8.toInt + (1 : Int32).toInt := by rw [ex67]; exact i_add (by obtain ⟨_, _⟩ := r37; obtain ⟨_, _⟩ := (⟨by decide, by decide⟩ : Rg 1 1 1); omega) (by obtain ⟨_, _⟩ := r37; obtain ⟨_, _⟩ := (⟨by decide, by decide⟩ : Rg 1 1 1); omega)
          have s69l : (1 : Int32).toInt = 1 := rfl
          refine lv_goto (tgt := 75) hx hb d_X11_tried_118 (by decide) ?_
          exact ih0 y6 x66 x67 v60 _ _ _ (by have q_ := r53; obtain ⟨_, _⟩ := q_; have q_ := r_y2; obtain ⟨_, _⟩ := q_; have q_ := r_y4; obtain ⟨_, _⟩ := q_; have q_ := r37; obtain ⟨_, _⟩ := q_; have q_ := hp55; obtain ⟨_, _⟩ := q_; have q_ := r68; obtain ⟨_, _⟩ := q_; have q_ := rg_any wi; obtain ⟨_, _⟩ := q_; have q_ := rg_any wh; obtain ⟨_, _⟩ := q_; have q_ := rg_any y6; obtain ⟨_, _⟩ := q_; have q_ := rg_any x66; obtain ⟨_, _⟩ := q_; omega) (rg_w r53 (by decide) (by decide)) r_y2 r_y4 (rg_w r68 (by decide) (by decide)) hI62 hK64 hG hw hS (lv_sub hl [2, 3, 4, 5, 6, 7, 8, 1, 0] rfl)
  have ih0 := LL 100000
  have hK0 : Kp (kp_X11_tried_400 od dn wi co wh) v v := Kp.rf _ v
  have hG := eRR
  unfold f_X11_tried_400 at hG
  refine lv_iload_n hx hb d_X11_tried_0 rfl (lv_at hl 1 rfl) ?_
  refine lv_iconst (v := -1) hx hb d_X11_tried_1 (by decide) ?_
  refine lv_aload_n hx hb d_X11_tried_2 rfl (lv_at hl 0 rfl) ?_
  refine r_geti X hw FL_X11_214 (rfl : KD 400 = _) rfl d_X11_tried_3 ?_
  refine lv_topi (fun x70 ex70 => ?_)
  have hG := bnd_use ex70 hG
  have r71 : Rg x70 0 8 := by rw [ex70]; exact hI _ _ _ _ rfl
  have hm72 : v 400 34 = x70 := ex70.symm
  refine lv_iconst (v := 1) hx hb d_X11_tried_6 (by decide) ?_
  refine lv_isub hx hb d_X11_tried_7 ?_
  refine lv_topi (fun x73 ex73 => ?_)
  have hG := bnd_use ex73 hG
  have r74 : Rg x73 (-1) 7 := rg_sub ex73 r71 (⟨by decide, by decide⟩ : Rg 1 1 1) (by decide) (by decide)
  have s75 : x73.toInt = x70.toInt - (1 : Int32).toInt := by rw [ex73]; exact i_sub (by obtain ⟨_, _⟩ := r71; obtain ⟨_, _⟩ := (⟨by decide, by decide⟩ : Rg 1 1 1); omega) (by obtain ⟨_, _⟩ := r71; obtain ⟨_, _⟩ := (⟨by decide, by decide⟩ : Rg 1 1 1); omega)
  have s75l : (1 : Int32).toInt = 1 := rfl
  refine r_ci (r_runS (n := 3) (As := [.int od, .int (-1), .int x73]) (rest := []) X hw (ct_X11_in l D dA ad v hI od (-1) x73) gc_X11_169 (by decide +kernel) ⟨rfl, rfl, Nat.le_of_ble_eq_true rfl, Nat.le_of_ble_eq_true rfl⟩ rfl hl.1 rfl (Nat.le_of_ble_eq_true rfl) ⟨Nat.zero_le _, Nat.zero_le _⟩ d_X11_tried_8) hS (fun x77 v78 H locs hp76 hw hS => ?_)
  obtain ⟨ev78, hp76⟩ := hp76
  rw [ev78] at hw
  rcases hp76 with ⟨rfl, w79a, w79b⟩ | ⟨rfl, w79n⟩
  · skip
    have hG := g_pos ⟨w79a, w79b⟩ hG
    have r80 : Rg od (-1) 7 := by obtain ⟨_, _⟩ := (rg_any od); have : (-1 : Int32).toInt = (-1) := rfl; obtain ⟨_, _⟩ := r74; exact ⟨by omega, by omega⟩
    refine lv_if_ne (tgt := 16) hx hb d_X11_tried_11 (by decide) (fun c81 => ?_) (fun c81 => ?_)
    · refine lv_iload_n hx hb d_X11_tried_16 rfl (lv_at hl 2 rfl) ?_
      refine lv_iconst (v := 1) hx hb d_X11_tried_17 (by decide) ?_
      refine lv_bipush (v := 30) hx hb d_X11_tried_18 (by decide) ?_
      refine r_ci (r_runS (n := 3) (As := [.int dn, .int 1, .int 30]) (rest := []) X hw (ct_X11_in l D dA ad v hI dn 1 30) gc_X11_169 (by decide +kernel) ⟨rfl, rfl, Nat.le_of_ble_eq_true rfl, Nat.le_of_ble_eq_true rfl⟩ rfl hl.1 rfl (Nat.le_of_ble_eq_true rfl) ⟨Nat.zero_le _, Nat.zero_le _⟩ d_X11_tried_20) hS (fun x83 v84 H locs hp82 hw hS => ?_)
      obtain ⟨ev84, hp82⟩ := hp82
      rw [ev84] at hw
      rcases hp82 with ⟨rfl, w85a, w85b⟩ | ⟨rfl, w85n⟩
      · skip
        have hG := g_pos ⟨w85a, w85b⟩ hG
        have r86 : Rg dn 1 30 := by obtain ⟨_, _⟩ := (rg_any dn); have : (1 : Int32).toInt = 1 := rfl; have : (30 : Int32).toInt = 30 := rfl; exact ⟨by omega, by omega⟩
        refine lv_if_eq (tgt := 56) hx hb d_X11_tried_23 (by decide) (fun c87 => ?_) (fun c87 => ?_)
        · exact absurd c87 (by decide)
        · refine lv_iload_n hx hb d_X11_tried_26 rfl (lv_at hl 3 rfl) ?_
          refine lv_iconst (v := 0) hx hb d_X11_tried_27 (by decide) ?_
          refine lv_bipush (v := 9) hx hb d_X11_tried_28 (by decide) ?_
          refine r_ci (r_runS (n := 3) (As := [.int wi, .int 0, .int 9]) (rest := []) X hw (ct_X11_in l D dA ad v hI wi 0 9) gc_X11_169 (by decide +kernel) ⟨rfl, rfl, Nat.le_of_ble_eq_true rfl, Nat.le_of_ble_eq_true rfl⟩ rfl hl.1 rfl (Nat.le_of_ble_eq_true rfl) ⟨Nat.zero_le _, Nat.zero_le _⟩ d_X11_tried_30) hS (fun x89 v90 H locs hp88 hw hS => ?_)
          obtain ⟨ev90, hp88⟩ := hp88
          rw [ev90] at hw
          rcases hp88 with ⟨rfl, w91a, w91b⟩ | ⟨rfl, w91n⟩
          · skip
            have hG := g_pos ⟨w91a, w91b⟩ hG
            have r92 : Rg wi 0 9 := by obtain ⟨_, _⟩ := (rg_any wi); have : (0 : Int32).toInt = 0 := rfl; have : (9 : Int32).toInt = 9 := rfl; exact ⟨by omega, by omega⟩
            refine lv_if_eq (tgt := 56) hx hb d_X11_tried_33 (by decide) (fun c93 => ?_) (fun c93 => ?_)
            · exact absurd c93 (by decide)
            · refine lv_iload hx hb d_X11_tried_36 (lv_at hl 4 rfl) ?_
              refine lv_iconst (v := 0) hx hb d_X11_tried_38 (by decide) ?_
              refine lv_iconst (v := 4) hx hb d_X11_tried_39 (by decide) ?_
              refine r_ci (r_runS (n := 3) (As := [.int co, .int 0, .int 4]) (rest := []) X hw (ct_X11_in l D dA ad v hI co 0 4) gc_X11_169 (by decide +kernel) ⟨rfl, rfl, Nat.le_of_ble_eq_true rfl, Nat.le_of_ble_eq_true rfl⟩ rfl hl.1 rfl (Nat.le_of_ble_eq_true rfl) ⟨Nat.zero_le _, Nat.zero_le _⟩ d_X11_tried_40) hS (fun x95 v96 H locs hp94 hw hS => ?_)
              obtain ⟨ev96, hp94⟩ := hp94
              rw [ev96] at hw
              rcases hp94 with ⟨rfl, w97a, w97b⟩ | ⟨rfl, w97n⟩
              · skip
                have hG := g_pos ⟨w97a, w97b⟩ hG
                have r98 : Rg co 0 4 := by obtain ⟨_, _⟩ := (rg_any co); have : (0 : Int32).toInt = 0 := rfl; have : (4 : Int32).toInt = 4 := rfl; exact ⟨by omega, by omega⟩
                refine lv_if_eq (tgt := 56) hx hb d_X11_tried_43 (by decide) (fun c99 => ?_) (fun c99 => ?_)
                · exact absurd c99 (by decide)
                · refine lv_iload hx hb d_X11_tried_46 (lv_at hl 5 rfl) ?_
                  refine lv_iconst (v := 0) hx hb d_X11_tried_48 (by decide) ?_
                  refine lv_iconst (v := 2) hx hb d_X11_tried_49 (by decide) ?_
                  refine r_ci (r_runS (n := 3) (As := [.int wh, .int 0, .int 2]) (rest := []) X hw (ct_X11_in l D dA ad v hI wh 0 2) gc_X11_169 (by decide +kernel) ⟨rfl, rfl, Nat.le_of_ble_eq_true rfl, Nat.le_of_ble_eq_true rfl⟩ rfl hl.1 rfl (Nat.le_of_ble_eq_true rfl) ⟨Nat.zero_le _, Nat.zero_le _⟩ d_X11_tried_50) hS (fun x101 v102 H locs hp100 hw hS => ?_)
                  obtain ⟨ev102, hp100⟩ := hp100
                  rw [ev102] at hw
                  rcases hp100 with ⟨rfl, w103a, w103b⟩ | ⟨rfl, w103n⟩
                  · skip
                    have hG := g_pos ⟨w103a, w103b⟩ hG
                    have r104 : Rg wh 0 2 := by obtain ⟨_, _⟩ := (rg_any wh); have : (0 : Int32).toInt = 0 := rfl; have : (2 : Int32).toInt = 2 := rfl; exact ⟨by omega, by omega⟩
                    refine lv_if_ne (tgt := 59) hx hb d_X11_tried_53 (by decide) (fun c105 => ?_) (fun c105 => ?_)
                    · refine lv_aload_n hx hb d_X11_tried_59 rfl (lv_at hl 0 rfl) ?_
                      refine r_cv (r_runV (n := 0) (As := []) (rest := []) X hw (ct_X11_keep_400 l D dA ad v hI) gc_X11_299 (rfl : KD 400 = _) (by decide) rfl (by decide +kernel) ⟨rfl, rfl, Nat.le_of_ble_eq_true rfl, Nat.le_of_ble_eq_true rfl⟩ rfl hl.1 rfl (Nat.le_of_ble_eq_true rfl) ⟨Nat.zero_le _, Nat.zero_le _⟩ d_X11_tried_60) hS (fun v107 H locs hp106 hw hS => ?_)
                      obtain ⟨hp106, hE108⟩ := hp106
                      obtain ⟨hI109, hK110⟩ := hp106
                      have hK111 : Kp (kp_X11_tried_400 od dn wi co wh) v v107 := Kp.tr hK0 hK110 (by have z0 : (0 : Int32).toInt = 0 := rfl; intro a j; unfold kp_X11_tried_400 kp_X11_keep_400; omega)
                      have hG := bnd_use hE108 hG
                      refine lv_aload_n hx hb d_X11_tried_63 rfl (lv_at hl 0 rfl) ?_
                      refine r_ci (r_runV (n := 0) (As := []) (rest := []) X hw (ct_X11_allLacks_400 l D dA ad v107 hI109) gc_X11_302 (rfl : KD 400 = _) (by decide) rfl (by decide +kernel) ⟨rfl, rfl, Nat.le_of_ble_eq_true rfl, Nat.le_of_ble_eq_true rfl⟩ rfl hl.1 rfl (Nat.le_of_ble_eq_true rfl) ⟨Nat.zero_le _, Nat.zero_le _⟩ d_X11_tried_64) hS (fun x113 v114 H locs hp112 hw hS => ?_)
                      obtain ⟨hp112, hE115⟩ := hp112
                      rw [hp112] at hw
                      have hG := bnd_use hE115 hG
                      refine lv_istore (lv' := [(6, .int x113), (0, .ref (ad 400)), (1, .int od), (2, .int dn), (3, .int wi), (4, .int co), (5, .int wh)]) hx hb d_X11_tried_67 hl (by decide) rfl (fun ls hl => ?_)
                      refine lv_iconst (v := 0) hx hb d_X11_tried_69 (by decide) ?_
                      refine lv_istore (lv' := [(7, .int 0), (6, .int x113), (0, .ref (ad 400)), (1, .int od), (2, .int dn), (3, .int wi), (4, .int co), (5, .int wh)]) hx hb d_X11_tried_70 hl (by decide) rfl (fun ls hl => ?_)
                      refine lv_iconst (v := 0) hx hb d_X11_tried_72 (by decide) ?_
                      refine lv_istore (lv' := [(8, .int 0), (7, .int 0), (6, .int x113), (0, .ref (ad 400)), (1, .int od), (2, .int dn), (3, .int wi), (4, .int co), (5, .int wh)]) hx hb d_X11_tried_73 hl (by decide) rfl (fun ls hl => ?_)
                      exact ih0 x113 0 0 v107 _ _ _ (by have q_ := r71; obtain ⟨_, _⟩ := q_; have q_ := r74; obtain ⟨_, _⟩ := q_; have q_ := r80; obtain ⟨_, _⟩ := q_; have q_ := r86; obtain ⟨_, _⟩ := q_; have q_ := r92; obtain ⟨_, _⟩ := q_; have q_ := r98; obtain ⟨_, _⟩ := q_; have q_ := r104; obtain ⟨_, _⟩ := q_; have q_ := rg_any x113; obtain ⟨_, _⟩ := q_; have q_ : (0 : Int32).toInt = 0 := rfl; have q_ : (0 : Int32).toInt = 0 := rfl; omega) r80 r86 r98 (rg_w (⟨by decide, by decide⟩ : Rg 0 0 0) (by decide) (by decide)) hI109 hK111 hG hw hS (lv_sub hl [3, 4, 5, 6, 7, 8, 2, 1, 0] rfl)
                    · exact absurd c105 (by decide)
                  · skip
                    have hG := g_neg w103n hG
                    refine lv_if_ne (tgt := 59) hx hb d_X11_tried_53 (by decide) (fun c116 => ?_) (fun c116 => ?_)
                    · exact absurd c116 (by decide)
                    · refine lv_bipush (v := -2) hx hb d_X11_tried_56 (by decide) ?_
                      exact r_iret X hr hlocks hw hS ⟨⟨hI, hK0⟩, hG.trans eRR.symm⟩ d_X11_tried_58
              · skip
                have hG := g_neg w97n hG
                refine lv_if_eq (tgt := 56) hx hb d_X11_tried_43 (by decide) (fun c117 => ?_) (fun c117 => ?_)
                · refine lv_bipush (v := -2) hx hb d_X11_tried_56 (by decide) ?_
                  exact r_iret X hr hlocks hw hS ⟨⟨hI, hK0⟩, hG.trans eRR.symm⟩ d_X11_tried_58
                · exact absurd c117 (by decide)
          · skip
            have hG := g_neg w91n hG
            refine lv_if_eq (tgt := 56) hx hb d_X11_tried_33 (by decide) (fun c118 => ?_) (fun c118 => ?_)
            · refine lv_bipush (v := -2) hx hb d_X11_tried_56 (by decide) ?_
              exact r_iret X hr hlocks hw hS ⟨⟨hI, hK0⟩, hG.trans eRR.symm⟩ d_X11_tried_58
            · exact absurd c118 (by decide)
      · skip
        have hG := g_neg w85n hG
        refine lv_if_eq (tgt := 56) hx hb d_X11_tried_23 (by decide) (fun c119 => ?_) (fun c119 => ?_)
        · refine lv_bipush (v := -2) hx hb d_X11_tried_56 (by decide) ?_
          exact r_iret X hr hlocks hw hS ⟨⟨hI, hK0⟩, hG.trans eRR.symm⟩ d_X11_tried_58
        · exact absurd c119 (by decide)
    · exact absurd c81 (by decide)
  · skip
    have hG := g_neg w79n hG
    refine lv_if_ne (tgt := 16) hx hb d_X11_tried_11 (by decide) (fun c120 => ?_) (fun c120 => ?_)
    · exact absurd c120 (by decide)
    · refine lv_iconst (v := -1) hx hb d_X11_tried_14 (by decide) ?_
      exact r_iret X hr hlocks hw hS ⟨⟨hI, hK0⟩, hG.trans eRR.symm⟩ d_X11_tried_15
