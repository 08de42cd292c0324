/-! THE TAPE on both sides, and the reading of it -/
theorem bnd_eq {α β : Type} (a : α) (k : α → β) : bnd a k = k a := Eq.trans rfl rfl
theorem bnd2_eq {α β γ : Type} (a : α) (b : β) (k : α → β → γ) : bnd2 (a, b) k = k a b := Eq.trans rfl rfl
theorem i10 : ((1 : Int32) = 0) = False := eq_false (by decide)
theorem i00 : ((0 : Int32) = 0) = True := eq_true rfl
theorem up2_id (u : tV) (a b : Nat) : up2 u a b (u a b) = u := by
  funext p q
  by_cases h : p = a ∧ q = b
  · obtain ⟨rfl, rfl⟩ := h
    rw [up2_s]
  · rw [up2_n _ _ h]
theorem up2_up2 (u : tV) (a b : Nat) (x y : Int32) : up2 (up2 u a b x) a b y = up2 u a b y := by
  funext p q
  by_cases h : p = a ∧ q = b
  · obtain ⟨rfl, rfl⟩ := h
    rw [up2_s, up2_s]
  · rw [up2_n _ _ h, up2_n _ _ h, up2_n _ _ h]
theorem up2_comm (u : tV) {a b c d : Nat} (x y : Int32) (h : ¬ (a = c ∧ b = d)) : up2 (up2 u a b x) c d y = up2 (up2 u c d y) a b x := by
  funext p q
  by_cases h1 : p = a ∧ q = b
  · obtain ⟨rfl, rfl⟩ := h1
    rw [up2_n _ _ h, up2_s, up2_s]
  · by_cases h2 : p = c ∧ q = d
    · obtain ⟨rfl, rfl⟩ := h2
      rw [up2_s, up2_n _ _ h1, up2_s]
    · rw [up2_n _ _ h2, up2_n _ _ h1, up2_n _ _ h1, up2_n _ _ h2]
theorem clampN {n : Nat} (h : n < 2 ^ 31) : (Int32.ofNat n).toNatClampNeg = n := by
  have e : (Int32.ofNat n).toInt = (n : Int) := nI_toInt (n := n) h
  show (Int32.ofNat n).toInt.toNat = n
  rw [e]; omega
theorem ofNat_int {n : Nat} (h : n < 2 ^ 31) : (Int32.ofNat n).toInt = (n : Int) := nI_toInt (n := n) h
theorem ofNat_succ {n : Nat} (h : n + 1 < 2 ^ 31) : Int32.ofNat n + 1 = Int32.ofNat (n + 1) := by
  apply Int32.toInt_inj.mp
  have e1 : (1 : Int32).toInt = 1 := rfl
  have e2 := ofNat_int (n := n) (by omega)
  rw [i_add (by rw [e1, e2]; omega) (by rw [e1, e2]; omega), e1, e2, ofNat_int h]
  omega
def BR (c m : Int32) : Prop := 0 ≤ c.toInt ∧ ((c.toInt ≤ 127 ∧ m = c) ∨ (128 ≤ c.toInt ∧ m.toInt < 0))
theorem BR.eq {c m x : Int32} (h : BR c m) (h0 : 0 ≤ x.toInt) (h1 : x.toInt ≤ 127) : c = x ↔ m = x := by
  obtain ⟨a, ⟨b, e⟩ | ⟨b, d⟩⟩ := h
  · rw [e]
  · constructor
    · intro e; rw [e] at b; omega
    · intro e; rw [e] at d; omega
theorem BR.dig {c m : Int32} (h : BR c m) : (48 ≤ c.toInt ∧ c.toInt ≤ 57) ↔ (48 ≤ m.toInt ∧ m.toInt ≤ 57) := by
  obtain ⟨a, ⟨b, e⟩ | ⟨b, d⟩⟩ := h
  · rw [e]
  · constructor <;> intro e <;> omega
theorem BR.val {c m : Int32} (h : BR c m) (hd : c.toInt ≤ 57) : m = c := by
  obtain ⟨a, ⟨b, e⟩ | ⟨b, d⟩⟩ := h
  · exact e
  · omega
/-- while an order is read into row o: what both sides have in common; kq: the key is read -/
def TS (kq : Prop) (o : Nat) (u w : tV) : Prop :=
  u 55 1 = w 400 33 ∧ u 55 2 = w 400 42 ∧ 0 ≤ (u 55 2).toInt ∧ (u 55 2).toInt ≤ (u 55 1).toInt ∧ (u 55 1).toInt ≤ 120 ∧ (∀ i, i < (u 55 1).toNatClampNeg → BR (u 56 i) (w 433 i)) ∧
  (kq → u (60 + o) 5 = w 437 o ∧ 0 ≤ (u (60 + o) 5).toInt ∧ (u (60 + o) 5).toInt ≤ 3) ∧ u (60 + o) 3 = w 438 o ∧ 0 ≤ (u (60 + o) 3).toInt ∧ (u (60 + o) 3).toInt ≤ 3 ∧
  (∀ p, p < (u (60 + o) 3).toNatClampNeg → u (70 + o) p = w 439 (3 * o + p) ∧ u (80 + o) p = w 441 (3 * o + p) ∧ u (90 + o) p = w 440 (3 * o + p))
def FU (o : Nat) (u u1 : tV) : Prop := ∀ a j, ¬ (a = 55 ∧ j = 2) → a ≠ 60 + o → a ≠ 70 + o → a ≠ 80 + o → a ≠ 90 + o → u1 a j = u a j
def FW (o : Nat) (w w1 : tV) : Prop := ∀ a j, ¬ (a = 400 ∧ (j = 42 ∨ j = 43)) → ¬ ((a = 437 ∨ a = 438 ∨ a = 442) ∧ j = o) → ¬ ((a = 439 ∨ a = 440 ∨ a = 441) ∧ 3 * o ≤ j ∧ j < 3 * o + 3) → w1 a j = w a j
def NU (u u1 : tV) : Prop := ∀ a j, ¬ (a = 55 ∧ j = 2) → u1 a j = u a j
def NW (w w1 : tV) : Prop := ∀ a j, ¬ (a = 400 ∧ (j = 42 ∨ j = 43)) → w1 a j = w a j
theorem NU.rf (u : tV) : NU u u := fun _ _ _ => rfl
theorem NW.rf (u : tV) : NW u u := fun _ _ _ => rfl
theorem NU.tr {u v w : tV} (h1 : NU u v) (h2 : NU v w) : NU u w := fun a j p => (h2 a j p).trans (h1 a j p)
theorem NW.tr {u v w : tV} (h1 : NW u v) (h2 : NW v w) : NW u w := fun a j p => (h2 a j p).trans (h1 a j p)
theorem NU.fu {u v : tV} (o : Nat) (h : NU u v) : FU o u v := fun a j p _ _ _ _ => h a j p
theorem NW.fw {u v : tV} (o : Nat) (h : NW u v) : FW o u v := fun a j p _ _ => h a j p
theorem NU.at (u : tV) (t : Int32) : NU u (up2 u 55 2 t) := fun a j p => up2_n _ _ p
theorem NW.at (u : tV) (t : Int32) : NW u (up2 u 400 42 t) := fun a j p => up2_n _ _ (fun q => p ⟨q.1, Or.inl q.2⟩)
theorem NW.num (u : tV) (t : Int32) : NW u (up2 u 400 43 t) := fun a j p => up2_n _ _ (fun q => p ⟨q.1, Or.inr q.2⟩)
theorem FU.rf (o : Nat) (u : tV) : FU o u u := fun _ _ _ _ _ _ _ => rfl
theorem FW.rf (o : Nat) (u : tV) : FW o u u := fun _ _ _ _ _ => rfl
theorem FU.tr {o : Nat} {u v w : tV} (h1 : FU o u v) (h2 : FU o v w) : FU o u w := fun a j p1 p2 p3 p4 p5 => (h2 a j p1 p2 p3 p4 p5).trans (h1 a j p1 p2 p3 p4 p5)
theorem FW.tr {o : Nat} {u v w : tV} (h1 : FW o u v) (h2 : FW o v w) : FW o u w := fun a j p1 p2 p3 => (h2 a j p1 p2 p3).trans (h1 a j p1 p2 p3)
theorem TS.at {kq : Prop} {o : Nat} {u w : tV} (h : TS kq o u w) (ho : o < 8) (t : Int32) (h0 : 0 ≤ t.toInt) (h1 : t.toInt ≤ (u 55 1).toInt) : TS kq o (up2 u 55 2 t) (up2 w 400 42 t) := by
  obtain ⟨a1, a2, a3, a4, a5, a6, a7, a8, a9, a10, a11⟩ := h
  have e1 : ∀ a j, ¬ (a = 55 ∧ j = 2) → up2 u 55 2 t a j = u a j := fun a j q => up2_n _ _ q
  have e2 : ∀ a j, ¬ (a = 400 ∧ j = 42) → up2 w 400 42 t a j = w a j := fun a j q => up2_n _ _ q
  have f3 := e1 (60 + o) 3 (by omega)
  have f5 := e1 (60 + o) 5 (by omega)
  have f1 := e1 55 1 (by omega)
  refine ⟨?_, ?_, ?_, ?_, ?_, ?_, ?_, ?_, ?_, ?_, ?_⟩
  · rw [f1, e2 400 33 (by omega)]; exact a1
  · rw [up2_s, up2_s]
  · rw [up2_s]; exact h0
  · rw [up2_s, f1]; exact h1
  · rw [f1]; exact a5
  · intro i hi
    rw [f1] at hi
    rw [e1 56 i (by omega), e2 433 i (by omega)]; exact a6 i hi
  · intro q
    rw [f5, e2 437 o (by omega)]; exact a7 q
  · rw [f3, e2 438 o (by omega)]; exact a8
  · rw [f3]; exact a9
  · rw [f3]; exact a10
  · intro p hp
    rw [f3] at hp
    rw [e1 (70 + o) p (by omega), e1 (80 + o) p (by omega), e1 (90 + o) p (by omega), e2 439 _ (by omega), e2 440 _ (by omega), e2 441 _ (by omega)]; exact a11 p hp
theorem TS.num {kq : Prop} {o : Nat} {u w : tV} (h : TS kq o u w) (t : Int32) : TS kq o u (up2 w 400 43 t) := by
  obtain ⟨a1, a2, a3, a4, a5, a6, a7, a8, a9, a10, a11⟩ := h
  have e2 : ∀ a j, ¬ (a = 400 ∧ j = 43) → up2 w 400 43 t a j = w a j := fun a j q => up2_n _ _ q
  refine ⟨?_, ?_, a3, a4, a5, ?_, ?_, ?_, a9, a10, ?_⟩
  · rw [e2 400 33 (by omega)]; exact a1
  · rw [e2 400 42 (by omega)]; exact a2
  · intro i hi
    rw [e2 433 i (by omega)]; exact a6 i hi
  · intro q
    rw [e2 437 o (by omega)]; exact a7 q
  · rw [e2 438 o (by omega)]; exact a8
  · intro p hp
    rw [e2 439 _ (by omega), e2 440 _ (by omega), e2 441 _ (by omega)]; exact a11 p hp
theorem FU.at (o : Nat) (u : tV) (t : Int32) : FU o u (up2 u 55 2 t) := fun a j p1 _ _ _ _ => up2_n _ _ p1
theorem FW.at (o : Nat) (u : tV) (t : Int32) : FW o u (up2 u 400 42 t) := fun a j p1 _ _ => up2_n _ _ (fun q => p1 ⟨q.1, Or.inl q.2⟩)
theorem FW.num (o : Nat) (u : tV) (t : Int32) : FW o u (up2 u 400 43 t) := fun a j p1 _ _ => up2_n _ _ (fun q => p1 ⟨q.1, Or.inr q.2⟩)
theorem has_rel {kq : Prop} {o : Nat} {u w : tV} (h : TS kq o u w) (c : Int32) (h0 : 0 ≤ c.toInt) (h1 : c.toInt ≤ 127) : f_X11_has_400 w c = if (u 55 2).toInt < (u 55 1).toInt ∧ u 56 (u 55 2).toNatClampNeg = c then 1 else 0 := by
  obtain ⟨a1, a2, a3, a4, a5, a6, a7⟩ := id h
  have ec := clampI a3
  simp only [f_X11_has_400, bnd, ← a1, ← a2]
  by_cases q : u 55 1 ≤ u 55 2
  · have := i_le q
    rw [if_pos q, if_neg (by omega)]
  · have := i_nle q
    rw [if_neg q]
    have hb := a6 (u 55 2).toNatClampNeg (by have := clampI (x := u 55 1) (by omega); omega)
    by_cases q2 : u 56 (u 55 2).toNatClampNeg = c
    · rw [if_pos ((hb.eq h0 h1).mp q2), if_pos ⟨by omega, q2⟩]
    · rw [if_neg (fun z => q2 ((hb.eq h0 h1).mpr z)), if_neg (fun z => q2 z.2)]
/-- one sign -/
theorem takes_rel {kq : Prop} {o : Nat} {u w : tV} (h : TS kq o u w) (ho : o < 8) (c : Int32) (h0 : 0 ≤ c.toInt) (h1 : c.toInt ≤ 127) :
    ((u 55 2).toInt < (u 55 1).toInt ∧ u 56 (u 55 2).toNatClampNeg = c → f_X11_takes_400 w c = (1, up2 w 400 42 (u 55 2 + 1)) ∧ TS kq o (up2 u 55 2 (u 55 2 + 1)) (up2 w 400 42 (u 55 2 + 1))) ∧
    (¬ ((u 55 2).toInt < (u 55 1).toInt ∧ u 56 (u 55 2).toNatClampNeg = c) → f_X11_takes_400 w c = (0, w)) := by
  obtain ⟨a1, a2, a3, a4, a5, a6, a7⟩ := id h
  have ec := clampI a3
  have z1 : (1 : Int32).toInt = 1 := rfl
  have e1 : (u 55 2 + 1).toInt = (u 55 2).toInt + 1 := by rw [i_add (by rw [z1]; omega) (by rw [z1]; omega), z1]
  have hh := has_rel h c h0 h1
  refine ⟨fun q => ⟨?_, TS.at h ho _ (by rw [e1]; omega) (by rw [e1]; omega)⟩, fun q => ?_⟩
  · simp only [f_X11_takes_400, bnd, hh]
    rw [if_pos q, if_pos rfl, a2]
  · simp only [f_X11_takes_400, bnd, hh]
    rw [if_neg q, if_neg (by decide)]
/-- signs one behind the other, then what follows -/
def CK : List Int32 → (tV → Int32 × tV) → tV → Int32 × tV
  | [], K, w => K w
  | c :: cs, K, w => bnd2 (f_X11_takes_400 w c) fun x w1 => (if x = (0 : Int32) then ((0 : Int32), w1) else CK cs K w1)
theorem CK_yes {c : Int32} {cs : List Int32} {K : tV → Int32 × tV} {w w1 : tV} (h : f_X11_takes_400 w c = (1, w1)) : CK (c :: cs) K w = CK cs K w1 := by
  rw [CK, h, bnd2_eq, if_neg (by decide)]
theorem CK_no {c : Int32} {cs : List Int32} {K : tV → Int32 × tV} {w w1 : tV} (h : f_X11_takes_400 w c = (0, w1)) : CK (c :: cs) K w = (0, w1) := by
  rw [CK, h, bnd2_eq, if_pos rfl]
theorem word_step {kq : Prop} {o : Nat} (ho : o < 8) (xx : Nat × String × Nat) (hL : xx.2.2 ≤ 6) (hlen : (CHL xx.1).length = xx.2.2) (hch : ∀ c ∈ CHL xx.1, 0 ≤ c.toInt ∧ c.toInt ≤ 127) :
    ∀ (cs : List Int32) (n i : Nat) (u w : tV), TS kq o u w → (CHL xx.1).drop i = cs → i ≤ xx.2.2 → cs.length < n →
      ∃ t, TS kq o (up2 u 55 2 t) (up2 w 400 42 t) ∧ (((g_X8_word_55_2 xx n (Int32.ofNat i) u) = (1, up2 u 55 2 t) ∧ ∀ K, CK cs K w = K (up2 w 400 42 t)) ∨ ((g_X8_word_55_2 xx n (Int32.ofNat i) u) = (0, up2 u 55 2 t) ∧ ∀ K, CK cs K w = (0, up2 w 400 42 t))) := by
  intro cs
  induction cs with
  | nil =>
    intro n i u w h hd hi hn
    obtain ⟨n, rfl⟩ : ∃ m, n = m + 1 := ⟨n - 1, by simp at hn; omega⟩
    have hi2 : xx.2.2 ≤ i := by rw [← hlen]; exact List.drop_eq_nil_iff.mp hd
    have a2 := h.2.1
    refine ⟨u 55 2, ?_, Or.inl ⟨?_, fun K => ?_⟩⟩
    · rw [up2_id, a2, up2_id]; exact h
    · show b_X8_word_55_2 xx (g_X8_word_55_2 xx n) (Int32.ofNat i) u = _
      simp only [b_X8_word_55_2, bnd]
      rw [if_pos (Int32.le_iff_toInt_le.mpr (by rw [ofNat_int (by omega), ofNat_int (by omega)]; omega)), up2_id]
    · rw [a2, up2_id]; rfl
  | cons c cs ih =>
    intro n i u w h hd hi hn
    obtain ⟨n, rfl⟩ : ∃ m, n = m + 1 := ⟨n - 1, by simp at hn; omega⟩
    have hc : (CHL xx.1)[i]? = some c := by
      have := congrArg (fun l => l[0]?) hd
      simpa using this
    have hil : i < xx.2.2 := by
      rw [← hlen]
      exact (List.getElem?_eq_some_iff.mp hc).1
    have hmem : c ∈ CHL xx.1 := List.mem_of_getElem? hc
    have hd2 : (CHL xx.1).drop (i + 1) = cs := by
      have := congrArg (fun l => l.drop 1) hd
      simpa [List.drop_drop] using this
    have hCH : CH xx.1 (Int32.ofNat i).toNatClampNeg = c := by
      rw [clampN (by omega)]
      show (CHL xx.1).getD i 0 = c
      rw [List.getD_eq_getElem?_getD, hc]
      rfl
    obtain ⟨y1, y2⟩ := takes_rel h ho c (hch c hmem).1 (hch c hmem).2
    have a2 := h.2.1
    have hb : g_X8_word_55_2 xx (n + 1) (Int32.ofNat i) u = if (u 55 2).toInt < (u 55 1).toInt ∧ u 56 (u 55 2).toNatClampNeg = c then g_X8_word_55_2 xx n (Int32.ofNat (i + 1)) (up2 u 55 2 (u 55 2 + 1)) else (0, u) := by
      show b_X8_word_55_2 xx (g_X8_word_55_2 xx n) (Int32.ofNat i) u = _
      simp only [b_X8_word_55_2, bnd, hCH]
      rw [if_neg (fun z => by have := Int32.le_iff_toInt_le.mp z; rw [ofNat_int (by omega), ofNat_int (by omega)] at this; omega), ofNat_succ (by omega)]
      by_cases q : u 55 1 ≤ u 55 2
      · have := i_le q
        rw [if_pos q, if_neg (by omega)]
      · have := i_nle q
        rw [if_neg q]
        by_cases q2 : u 56 (u 55 2).toNatClampNeg = c
        · rw [if_pos q2, if_pos ⟨by omega, q2⟩]
        · rw [if_neg q2, if_neg (fun z => q2 z.2)]
    by_cases q : (u 55 2).toInt < (u 55 1).toInt ∧ u 56 (u 55 2).toNatClampNeg = c
    · obtain ⟨e1, h2⟩ := y1 q
      obtain ⟨t, h3, h4⟩ := ih n (i + 1) _ _ h2 hd2 (by omega) (by simp at hn; omega)
      rw [up2_up2, up2_up2] at h3
      refine ⟨t, h3, ?_⟩
      rw [hb, if_pos q]
      rw [up2_up2] at h4
      rcases h4 with ⟨e2, e3⟩ | ⟨e2, e3⟩
      · exact Or.inl ⟨e2, fun K => by rw [CK_yes e1, e3 K, up2_up2]⟩
      · exact Or.inr ⟨e2, fun K => by rw [CK_yes e1, e3 K, up2_up2]⟩
    · refine ⟨u 55 2, ?_, Or.inr ⟨?_, fun K => ?_⟩⟩
      · rw [up2_id, a2, up2_id]; exact h
      · rw [hb, if_neg q, up2_id]
      · rw [CK_no (y2 q), a2, up2_id]
/-- a word of the class, the same signs of the reference -/
theorem word_rel {kq : Prop} {o : Nat} (ho : o < 8) {u w : tV} (h : TS kq o u w) (xx : Nat × String × Nat) (hL : xx.2.2 ≤ 6) (hlen : (CHL xx.1).length = xx.2.2) (hch : ∀ c ∈ CHL xx.1, 0 ≤ c.toInt ∧ c.toInt ≤ 127) :
    ∃ t, TS kq o (up2 u 55 2 t) (up2 w 400 42 t) ∧ ((f_X8_word_55 u xx = (1, up2 u 55 2 t) ∧ ∀ K, CK (CHL xx.1) K w = K (up2 w 400 42 t)) ∨ (f_X8_word_55 u xx = (0, up2 u 55 2 t) ∧ ∀ K, CK (CHL xx.1) K w = (0, up2 w 400 42 t))) := by
  have e : f_X8_word_55 u xx = g_X8_word_55_2 xx 100000 (Int32.ofNat 0) u := by
    have z : Int32.ofNat 0 = 0 := rfl
    rw [z, f_X8_word_55, bnd_eq]
  rw [e]
  exact word_step (kq := kq) ho xx hL hlen hch (CHL xx.1) 100000 0 u w h rfl (Nat.zero_le _) (by omega)
theorem word_s (xx : Nat × String × Nat) (n : Nat) (y : Int32) (u : tV) : g_X8_word_55_2 xx (n + 1) y u = b_X8_word_55_2 xx (g_X8_word_55_2 xx n) y u := rfl
theorem word1g {u : tV} (xx : Nat × String × Nat) (c : Int32) (hL : xx.2.2 = 1) (hc : CHL xx.1 = [c]) (n : Nat) :
    g_X8_word_55_2 xx (n + 2) 0 u = if (u 55 2).toInt < (u 55 1).toInt ∧ u 56 (u 55 2).toNatClampNeg = c then (1, up2 u 55 2 (u 55 2 + 1)) else (0, u) := by
  rw [word_s]
  have e : ∀ u', g_X8_word_55_2 xx (n + 1) (0 + 1) u' = (1, u') := by
    intro u'
    rw [word_s]
    simp only [b_X8_word_55_2, bnd, hL]
    rw [if_pos (by decide)]
  have hCH : CH xx.1 (0 : Int32).toNatClampNeg = c := by
    show (CHL xx.1).getD 0 0 = c
    rw [hc]; rfl
  simp only [b_X8_word_55_2, bnd, hL, hCH, e]
  rw [if_neg (by decide)]
  by_cases q : u 55 1 ≤ u 55 2
  · have := i_le q
    rw [if_pos q, if_neg (by omega)]
  · have := i_nle q
    rw [if_neg q]
    by_cases q2 : u 56 (u 55 2).toNatClampNeg = c
    · rw [if_pos q2, if_pos ⟨by omega, q2⟩]
    · rw [if_neg q2, if_neg (fun z => q2 z.2)]
theorem word1 {u : tV} (xx : Nat × String × Nat) (c : Int32) (hL : xx.2.2 = 1) (hc : CHL xx.1 = [c]) :
    f_X8_word_55 u xx = if (u 55 2).toInt < (u 55 1).toInt ∧ u 56 (u 55 2).toNatClampNeg = c then (1, up2 u 55 2 (u 55 2 + 1)) else (0, u) := by
  have h : (100000 : Nat) = 99998 + 2 := rfl
  rw [f_X8_word_55, bnd_eq, h]
  exact word1g xx c hL hc 99998
/-- a number -/
theorem num_step {kq : Prop} {o : Nat} (ho : o < 8) (dg : Int32) (hd0 : 2 ≤ dg.toInt) (hd : dg.toInt ≤ 3) :
    ∀ (n : Nat) (cnt y2 : Int32) (u w : tV), TS kq o u w → 0 ≤ cnt.toInt → cnt.toInt ≤ dg.toInt → (dg.toInt - cnt.toInt).toNat < n →
      ((cnt.toInt = 0 ∧ y2 = -1 ∧ w 400 43 = 0) ∨ (0 < cnt.toInt ∧ y2 = w 400 43 ∧ 0 ≤ y2.toInt ∧ (cnt.toInt = 1 → y2.toInt ≤ 9) ∧ (cnt.toInt = 2 → y2.toInt ≤ 99) ∧ y2.toInt ≤ 999)) →
      TS kq o (g_X8_number_2_4 dg n y2 cnt u).2 (g_X11_takesNumber_2_7 dg n cnt w).2 ∧ NU u (g_X8_number_2_4 dg n y2 cnt u).2 ∧ NW w (g_X11_takesNumber_2_7 dg n cnt w).2 ∧
        (((g_X8_number_2_4 dg n y2 cnt u).1 = -1 ∧ (g_X11_takesNumber_2_7 dg n cnt w).1 = 0) ∨ ((g_X8_number_2_4 dg n y2 cnt u).1 = (g_X11_takesNumber_2_7 dg n cnt w).2 400 43 ∧ (g_X11_takesNumber_2_7 dg n cnt w).1 = 1 ∧ 0 ≤ (g_X8_number_2_4 dg n y2 cnt u).1.toInt)) := by
  intro n
  induction n with
  | zero => intros; omega
  | succ n ih =>
    intro cnt y2 u w h c0 c1 hn hy
    obtain ⟨a1, a2, a3, a4, a5, a6, a7⟩ := id h
    have z0 : (0 : Int32).toInt = 0 := rfl
    have z1 : (1 : Int32).toInt = 1 := rfl
    have z48 : (48 : Int32).toInt = 48 := rfl
    have z57 : (57 : Int32).toInt = 57 := rfl
    have z10 : (10 : Int32).toInt = 10 := rfl
    have es : g_X8_number_2_4 dg (n + 1) y2 cnt u = b_X8_number_2_4 dg (g_X8_number_2_4 dg n) y2 cnt u := rfl
    have et : g_X11_takesNumber_2_7 dg (n + 1) cnt w = b_X11_takesNumber_2_7 dg (g_X11_takesNumber_2_7 dg n) cnt w := rfl
    rw [es, et]
    simp only [b_X8_number_2_4, b_X11_takesNumber_2_7, bnd, ← a1, ← a2, z48, z57]
    -- where both stop
    have stop : TS kq o u w ∧ NU u u ∧ NW w w := ⟨h, NU.rf u, NW.rf w⟩
    have stop2 : (y2 = -1 ∧ (if cnt ≤ 0 then ((0 : Int32), w) else (1, w)).1 = 0) ∨ (y2 = (if cnt ≤ 0 then ((0 : Int32), w) else (1, w)).2 400 43 ∧ (if cnt ≤ 0 then ((0 : Int32), w) else (1, w)).1 = 1 ∧ 0 ≤ y2.toInt) := by
      rcases hy with ⟨e1, e2, e3⟩ | ⟨e1, e2, e3, -⟩
      · rw [if_pos (Int32.le_iff_toInt_le.mpr (by rw [z0]; omega))]; exact Or.inl ⟨e2, rfl⟩
      · rw [if_neg (fun z => by have := Int32.le_iff_toInt_le.mp z; rw [z0] at this; omega)]; exact Or.inr ⟨e2, rfl, e3⟩
    have stop3 : (if cnt ≤ 0 then ((0 : Int32), w) else (1, w)).2 = w := by split <;> rfl
    by_cases q1 : dg ≤ cnt
    · have := i_le q1
      rw [if_pos q1, if_pos q1]
      rcases hy with ⟨e1, e2, e3⟩ | ⟨e1, e2, e3, -⟩
      · omega
      · exact ⟨h, NU.rf u, NW.rf w, Or.inr ⟨e2, rfl, e3⟩⟩
    · have q1' := i_nle q1
      rw [if_neg q1, if_neg q1]
      by_cases q2 : u 55 1 ≤ u 55 2
      · rw [if_pos q2, if_pos q2]
        refine ⟨?_, NU.rf u, ?_, stop2⟩
        · rw [stop3]; exact h
        · rw [stop3]; exact NW.rf w
      · have q2' := i_nle q2
        rw [if_neg q2, if_neg q2]
        have hb := a6 (u 55 2).toNatClampNeg (by have := clampI (x := u 55 1) (by omega); have := clampI a3; omega)
        by_cases q3 : 48 ≤ (u 56 (u 55 2).toNatClampNeg).toInt ∧ (u 56 (u 55 2).toNatClampNeg).toInt ≤ 57
        · rw [if_pos q3, if_pos (hb.dig.mp q3)]
          have ev := hb.val q3.2
          rw [ev]
          have em : (if y2 < 0 then (0 : Int32) else y2) = w 400 43 := by
            rcases hy with ⟨e1, e2, e3⟩ | ⟨e1, e2, e3, -⟩
            · rw [if_pos (by rw [e2]; decide), e3]
            · rw [if_neg (fun z => by have := i_lt z; rw [z0] at this; omega), e2]
          rw [em, Int32.mul_comm (w 400 43) 10]
          have rm : 0 ≤ (w 400 43).toInt ∧ (cnt.toInt = 0 → (w 400 43).toInt = 0) ∧ (cnt.toInt = 1 → (w 400 43).toInt ≤ 9) ∧ (w 400 43).toInt ≤ 99 := by
            rcases hy with ⟨e1, e2, e3⟩ | ⟨e1, e2, e3, e4, e5, e6⟩
            · rw [e3]; exact ⟨by omega, by omega, by omega, by omega⟩
            · rw [← e2]; exact ⟨e3, by omega, by omega, by omega⟩
          obtain ⟨r1, r2, r3, r4⟩ := rm
          have k1 : (10 * w 400 43).toInt = 10 * (w 400 43).toInt := by rw [i_mul (by rw [z10]; omega) (by rw [z10]; omega), z10]
          have k2 : (10 * w 400 43 + u 56 (u 55 2).toNatClampNeg).toInt = 10 * (w 400 43).toInt + (u 56 (u 55 2).toNatClampNeg).toInt := by rw [i_add (by rw [k1]; omega) (by rw [k1]; omega), k1]
          have k3 : (10 * w 400 43 + u 56 (u 55 2).toNatClampNeg - 48).toInt = 10 * (w 400 43).toInt + (u 56 (u 55 2).toNatClampNeg).toInt - 48 := by rw [i_sub (by rw [k2, z48]; omega) (by rw [k2, z48]; omega), k2, z48]
          have k4 : (cnt + 1).toInt = cnt.toInt + 1 := by rw [i_add (by rw [z1]; omega) (by rw [z1]; omega), z1]
          have k5 : (u 55 2 + 1).toInt = (u 55 2).toInt + 1 := by rw [i_add (by rw [z1]; omega) (by rw [z1]; omega), z1]
          have hT := TS.at (TS.num h (10 * w 400 43 + u 56 (u 55 2).toNatClampNeg - 48)) ho (u 55 2 + 1) (by rw [k5]; omega) (by rw [k5]; omega)
          have hN : up2 (up2 w 400 43 (10 * w 400 43 + u 56 (u 55 2).toNatClampNeg - 48)) 400 42 (u 55 2 + 1) 400 43 = 10 * w 400 43 + u 56 (u 55 2).toNatClampNeg - 48 := by rw [up2_n _ _ (by omega), up2_s]
          obtain ⟨g1, g2, g3, g4⟩ := ih (cnt + 1) (10 * w 400 43 + u 56 (u 55 2).toNatClampNeg - 48) _ _ hT (by omega) (by omega) (by omega) (Or.inr ⟨by omega, hN.symm, by omega, by omega, by omega, by omega⟩)
          exact ⟨g1, (NU.at u _).tr g2, ((NW.num w _).tr (NW.at _ _)).tr g3, g4⟩
        · rw [if_neg q3, if_neg (fun z => q3 (hb.dig.mpr z))]
          refine ⟨?_, NU.rf u, ?_, stop2⟩
          · rw [stop3]; exact h
          · rw [stop3]; exact NW.rf w
theorem num_same (dg : Int32) : ∀ n, g_X8_number_3_4 dg n = g_X8_number_2_4 dg n := by
  intro n
  induction n with
  | zero => rfl
  | succ n ih =>
    funext a b c
    show b_X8_number_3_4 dg (g_X8_number_3_4 dg n) a b c = b_X8_number_2_4 dg (g_X8_number_2_4 dg n) a b c
    rw [ih]; rfl
theorem tnum_same (dg : Int32) : ∀ n, g_X11_takesNumber_3_7 dg n = g_X11_takesNumber_2_7 dg n := by
  intro n
  induction n with
  | zero => rfl
  | succ n ih =>
    funext a b
    show b_X11_takesNumber_3_7 dg (g_X11_takesNumber_3_7 dg n) a b = b_X11_takesNumber_2_7 dg (g_X11_takesNumber_2_7 dg n) a b
    rw [ih]; rfl
theorem num2_rel {kq : Prop} {o : Nat} (ho : o < 8) {u w : tV} (h : TS kq o u w) :
    TS kq o (f_X8_number_2 u 2).2 (f_X11_takesNumber_2 w 2).2 ∧ NU u (f_X8_number_2 u 2).2 ∧ NW w (f_X11_takesNumber_2 w 2).2 ∧
        (((f_X8_number_2 u 2).1 = -1 ∧ (f_X11_takesNumber_2 w 2).1 = 0) ∨ ((f_X8_number_2 u 2).1 = (f_X11_takesNumber_2 w 2).2 400 43 ∧ (f_X11_takesNumber_2 w 2).1 = 1 ∧ 0 ≤ (f_X8_number_2 u 2).1.toInt)) := by
  have z2 : (2 : Int32).toInt = 2 := rfl
  have z0 : (0 : Int32).toInt = 0 := rfl
  have e1 : f_X8_number_2 u 2 = g_X8_number_2_4 2 100000 (-1) 0 u := by rw [f_X8_number_2, bnd_eq]
  have e2 : f_X11_takesNumber_2 w 2 = g_X11_takesNumber_2_7 2 100000 0 (up2 w 400 43 0) := by rw [f_X11_takesNumber_2, bnd_eq, bnd_eq]
  rw [e1, e2]
  obtain ⟨g1, g2, g3, g4⟩ := num_step ho 2 (by rw [z2]; omega) (by rw [z2]; omega) 100000 0 (-1) u _ (TS.num h 0) (by rw [z0]; omega) (by rw [z0, z2]; omega) (by rw [z0, z2]; decide) (Or.inl ⟨rfl, rfl, up2_s _ _ _ _⟩)
  exact ⟨g1, g2, (NW.num w 0).tr g3, g4⟩
theorem num3_rel {kq : Prop} {o : Nat} (ho : o < 8) {u w : tV} (h : TS kq o u w) :
    TS kq o (f_X8_number_3 u 3).2 (f_X11_takesNumber_3 w 3).2 ∧ NU u (f_X8_number_3 u 3).2 ∧ NW w (f_X11_takesNumber_3 w 3).2 ∧
        (((f_X8_number_3 u 3).1 = -1 ∧ (f_X11_takesNumber_3 w 3).1 = 0) ∨ ((f_X8_number_3 u 3).1 = (f_X11_takesNumber_3 w 3).2 400 43 ∧ (f_X11_takesNumber_3 w 3).1 = 1 ∧ 0 ≤ (f_X8_number_3 u 3).1.toInt)) := by
  have z2 : (3 : Int32).toInt = 3 := rfl
  have z0 : (0 : Int32).toInt = 0 := rfl
  have e1 : f_X8_number_3 u 3 = g_X8_number_2_4 3 100000 (-1) 0 u := by rw [← num_same, f_X8_number_3, bnd_eq]
  have e2 : f_X11_takesNumber_3 w 3 = g_X11_takesNumber_2_7 3 100000 0 (up2 w 400 43 0) := by rw [← tnum_same, f_X11_takesNumber_3, bnd_eq, bnd_eq]
  rw [e1, e2]
  obtain ⟨g1, g2, g3, g4⟩ := num_step ho 3 (by rw [z2]; omega) (by rw [z2]; omega) 100000 0 (-1) u _ (TS.num h 0) (by rw [z0]; omega) (by rw [z0, z2]; omega) (by rw [z0, z2]; decide) (Or.inl ⟨rfl, rfl, up2_s _ _ _ _⟩)
  exact ⟨g1, g2, (NW.num w 0).tr g3, g4⟩
