/-! BYTES come behind the tape's -/
theorem bv_low (X : BitVec 64) (s : Nat) : (X >>> s).setWidth 32 &&& 255#32 = ((X >>> s).setWidth 8).setWidth 32 := by
  apply BitVec.eq_of_getLsbD_eq
  intro i hi
  have h255 : (255#32).getLsbD i = decide (i < 8) := by
    have : ∀ j : Fin 32, (255#32).getLsbD j.1 = decide (j.1 < 8) := by decide
    exact this ⟨i, hi⟩
  rw [BitVec.getLsbD_and, h255, BitVec.getLsbD_setWidth, BitVec.getLsbD_setWidth, BitVec.getLsbD_setWidth]
  by_cases q : i < 8 <;> simp [q, hi]
theorem bv_same (X : BitVec 64) (s : Nat) (hs : s ≤ 56) : ((X.sshiftRight s).setWidth 32).setWidth 8 = (X >>> s).setWidth 8 := by
  apply BitVec.eq_of_getLsbD_eq
  intro i hi
  rw [BitVec.getLsbD_setWidth, BitVec.getLsbD_setWidth, BitVec.getLsbD_setWidth, BitVec.getLsbD_sshiftRight, BitVec.getLsbD_ushiftRight]
  have h1 : ¬ 64 ≤ i := by omega
  have h2 : s + i < 64 := by omega
  simp [h1, h2, hi, show i < 32 from by omega]
theorem BR_bv (b : BitVec 8) : BR (Int32.ofBitVec (b.setWidth 32)) (Int32.ofBitVec (b.signExtend 32)) := by
  have h : ∀ n : Fin 256, BR (Int32.ofBitVec ((BitVec.ofNat 8 n.1).setWidth 32)) (Int32.ofBitVec ((BitVec.ofNat 8 n.1).signExtend 32)) := by
    unfold BR
    decide +kernel
  have := h ⟨b.toNat, b.isLt⟩
  rw [BitVec.ofNat_toNat, BitVec.setWidth_eq] at this
  exact this
theorem byte_at (x : Int64) (s : Nat) (hs : s ≤ 56) (a : UInt64) (b : Int64) (ha : (a.toBitVec % 64).toNat = s) (hb : (b.toBitVec.smod 64).toNat = s) : BR ((x.toUInt64 >>> a).toInt64.toInt32 &&& 255) ((x >>> b).toInt32.toInt8.toInt32) := by
  have e1 : ((x.toUInt64 >>> a).toInt64.toInt32 &&& 255) = Int32.ofBitVec (((x.toBitVec >>> s).setWidth 8).setWidth 32) := by
    apply Int32.toBitVec.inj
    have r : ((x.toUInt64 >>> a).toInt64.toInt32 &&& 255).toBitVec = ((x.toBitVec >>> (a.toBitVec % 64)).signExtend 32) &&& 255#32 := rfl
    rw [r, BitVec.signExtend_eq_setWidth_of_le _ (by decide), BitVec.ushiftRight_eq', ha, bv_low]
    rfl
  have e2 : ((x >>> b).toInt32.toInt8.toInt32) = Int32.ofBitVec (((x.toBitVec >>> s).setWidth 8).signExtend 32) := by
    apply Int32.toBitVec.inj
    have r : ((x >>> b).toInt32.toInt8.toInt32).toBitVec = (((x.toBitVec.sshiftRight' (b.toBitVec.smod 64)).signExtend 32).signExtend 8).signExtend 32 := rfl
    rw [r, BitVec.sshiftRight_eq', hb, BitVec.signExtend_eq_setWidth_of_le (x.toBitVec.sshiftRight s) (v := 32) (by decide), BitVec.signExtend_eq_setWidth_of_le (BitVec.setWidth 32 (x.toBitVec.sshiftRight s)) (v := 8) (by decide), bv_same _ _ hs]
    rfl
  rw [e1, e2]
  exact BR_bv _
theorem byte_rel (x : Int64) (y : Int32) (h0 : 0 ≤ y.toInt) (h7 : y.toInt ≤ 7) : BR ((x.toUInt64 >>> (((8 : Int32) * y).toInt64.toUInt64 &&& Int64.toUInt64 63)).toInt64.toInt32 &&& 255) ((x >>> (((8 : Int32) * y).toInt64 &&& 63)).toInt32.toInt8.toInt32) := by
  have hy : y = 0 ∨ y = 1 ∨ y = 2 ∨ y = 3 ∨ y = 4 ∨ y = 5 ∨ y = 6 ∨ y = 7 := by
    have : y.toInt = 0 ∨ y.toInt = 1 ∨ y.toInt = 2 ∨ y.toInt = 3 ∨ y.toInt = 4 ∨ y.toInt = 5 ∨ y.toInt = 6 ∨ y.toInt = 7 := by omega
    rcases this with e | e | e | e | e | e | e | e
    · exact Or.inl (i32_ext e)
    · exact Or.inr (Or.inl (i32_ext e))
    · exact Or.inr (Or.inr (Or.inl (i32_ext e)))
    · exact Or.inr (Or.inr (Or.inr (Or.inl (i32_ext e))))
    · exact Or.inr (Or.inr (Or.inr (Or.inr (Or.inl (i32_ext e)))))
    · exact Or.inr (Or.inr (Or.inr (Or.inr (Or.inr (Or.inl (i32_ext e))))))
    · exact Or.inr (Or.inr (Or.inr (Or.inr (Or.inr (Or.inr (Or.inl (i32_ext e)))))))
    · exact Or.inr (Or.inr (Or.inr (Or.inr (Or.inr (Or.inr (Or.inr (i32_ext e)))))))
  rcases hy with rfl | rfl | rfl | rfl | rfl | rfl | rfl | rfl
  · exact byte_at x 0 (by decide) _ _ (by decide) (by decide)
  · exact byte_at x 8 (by decide) _ _ (by decide) (by decide)
  · exact byte_at x 16 (by decide) _ _ (by decide) (by decide)
  · exact byte_at x 24 (by decide) _ _ (by decide) (by decide)
  · exact byte_at x 32 (by decide) _ _ (by decide) (by decide)
  · exact byte_at x 40 (by decide) _ _ (by decide) (by decide)
  · exact byte_at x 48 (by decide) _ _ (by decide) (by decide)
  · exact byte_at x 56 (by decide) _ _ (by decide) (by decide)
theorem feed_step (x : Int64) (cnt : Int32) : ∀ (n : Nat) (y : Int32) (u w : tV), RelX u w → (u 50 2).toInt ≤ 8 → 0 ≤ (u 55 1).toInt → (u 55 1).toInt + y.toInt + 1 ≤ 120 → -1 ≤ y.toInt → y.toInt ≤ 7 →
    RelX (g_X10_feed_0_35 x cnt n y u).2 (g_X11_feed_400_32 x cnt n y w).2 ∧ (g_X10_feed_0_35 x cnt n y u).1 = (g_X11_feed_400_32 x cnt n y w).1 := by
  have z0 : (0 : Int32).toInt = 0 := rfl
  have z1 : (1 : Int32).toInt = 1 := rfl
  have zm : (-1 : Int32).toInt = -1 := rfl
  have z120 : (120 : Int32).toInt = 120 := rfl
  intro n
  induction n with
  | zero => intro y u w h _ _ _ _ _; exact ⟨h, rfl⟩
  | succ n ih =>
    intro y u w h h8 h0 hsum hy0 hy7
    have es : g_X10_feed_0_35 x cnt (n + 1) y u = b_X10_feed_0_35 x cnt (g_X10_feed_0_35 x cnt n) y u := rfl
    have et : g_X11_feed_400_32 x cnt (n + 1) y w = b_X11_feed_400_32 x cnt (g_X11_feed_400_32 x cnt n) y w := rfl
    rw [es, et]
    simp only [b_X10_feed_0_35, b_X11_feed_400_32, f_X8_append_55, bnd, ← h.1.nt]
    by_cases q : y < 0
    · rw [if_pos q, if_pos q]
      exact ⟨h, rfl⟩
    · have q' := i_nlt q
      rw [z0] at q'
      rw [if_neg q, if_neg q, if_neg (c := (120 : Int32) ≤ u 55 1) (fun z => by have := i_le z; rw [z120] at this; omega)]
      have hB := byte_rel x y q' hy7
      generalize ((x.toUInt64 >>> (((8 : Int32) * y).toInt64.toUInt64 &&& Int64.toUInt64 63)).toInt64.toInt32 &&& 255) = bc at hB
      generalize ((x >>> (((8 : Int32) * y).toInt64 &&& 63)).toInt32.toInt8.toInt32) = bm at hB
      have k1 : (u 55 1 + 1).toInt = (u 55 1).toInt + 1 := by rw [i_add (by rw [z1]; omega) (by rw [z1]; omega), z1]
      have k2 : (y + -1).toInt = y.toInt - 1 := by rw [i_add (by rw [zm]; omega) (by rw [zm]; omega), zm]; omega
      have kc := clampI h0
      have kc1 := clampI (x := u 55 1 + 1) (by omega)
      have hX : RelX (up2 (up2 u 55 1 (u 55 1 + 1)) 56 (u 55 1).toNatClampNeg bc) (up2 (up2 w 433 (u 55 1).toNatClampNeg bm) 400 33 (u 55 1 + 1)) := by
        obtain ⟨hW, hT, hO⟩ := h
        refine ⟨?_, ?_, ?_⟩
        · have := ((hW.putR (c := 433) (d := (u 55 1).toNatClampNeg) bm (by omega)).put_nt (u 55 1 + 1)).putL (a := 56) (b := (u 55 1).toNatClampNeg) bc (by omega)
          exact this
        · intro i hi
          have z : up2 (up2 u 55 1 (u 55 1 + 1)) 56 (u 55 1).toNatClampNeg bc 55 1 = u 55 1 + 1 := by rw [up2_n _ _ (by omega), up2_s]
          rw [z] at hi
          by_cases y2 : i = (u 55 1).toNatClampNeg
          · rw [y2, up2_s, up2_n _ _ (by omega), up2_s]; exact hB
          · rw [up2_n _ _ (by omega), up2_n _ _ (by omega), up2_n _ _ (by omega), up2_n _ _ (by omega)]
            exact hT i (by omega)
        · exact hO.kp (by rw [up2_n _ _ (by omega), up2_n _ _ (by omega)]) (fun a j z => by rw [up2_n _ _ (by omega), up2_n _ _ (by omega)]) (fun a j z => by rw [up2_n _ _ (by omega), up2_n _ _ (by omega)]) h8
      exact ih (y + -1) _ _ hX (by rw [up2_n _ _ (by omega), up2_n _ _ (by omega)]; exact h8) (by rw [up2_n _ _ (by omega), up2_s, k1]; omega) (by rw [up2_n _ _ (by omega), up2_s, k1, k2]; omega) (by omega) (by omega)
theorem sim_feed {u w : tV} (h : RelX u w) (hI : Inv u) (x : Int64) (cnt : Int32) : RelX (f_X10_feed_0 u x cnt).2 (f_X11_feed_400 w x cnt).2 ∧ (f_X10_feed_0 u x cnt).1 = (f_X11_feed_400 w x cnt).1 := by
  obtain ⟨h0, h1⟩ := hI 55 1 0 120 rfl
  have h8 := (hI 50 2 0 8 rfl).2
  have z1 : (1 : Int32).toInt = 1 := rfl
  have z120 : (120 : Int32).toInt = 120 := rfl
  rw [f_X10_feed_0, f_X11_feed_400]
  simp only [bnd_eq, z_1, z_8, ← h.1.nt]
  by_cases c1 : 1 ≤ cnt.toInt ∧ cnt.toInt ≤ 8
  · rw [if_pos c1, if_pos c1]
    have k1 : (u 55 1 + cnt).toInt = (u 55 1).toInt + cnt.toInt := i_add (by omega) (by omega)
    have k2 : (cnt - 1).toInt = cnt.toInt - 1 := by rw [i_sub (by rw [z1]; omega) (by rw [z1]; omega), z1]
    by_cases c2 : u 55 1 + cnt ≤ 120
    · have c3 := i_le c2
      rw [z120] at c3
      rw [if_pos c2, if_pos c2]
      exact feed_step x cnt 100000 (cnt - 1) u w h h8 h0 (by omega) (by omega) (by omega)
    · rw [if_neg c2, if_neg c2]; exact ⟨h, rfl⟩
  · rw [if_neg c1, if_neg c1]; exact ⟨h, rfl⟩
