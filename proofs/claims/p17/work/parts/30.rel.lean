theorem z_0 : (0 : Int32).toInt = 0 := rfl
theorem z_1 : (1 : Int32).toInt = 1 := rfl
theorem z_2 : (2 : Int32).toInt = 2 := rfl
theorem z_3 : (3 : Int32).toInt = 3 := rfl
theorem z_4 : (4 : Int32).toInt = 4 := rfl
theorem z_5 : (5 : Int32).toInt = 5 := rfl
theorem z_7 : (7 : Int32).toInt = 7 := rfl
theorem z_8 : (8 : Int32).toInt = 8 := rfl
theorem z_9 : (9 : Int32).toInt = 9 := rfl
theorem z_10 : (10 : Int32).toInt = 10 := rfl
theorem z_20 : (20 : Int32).toInt = 20 := rfl
theorem z_23 : (23 : Int32).toInt = 23 := rfl
theorem z_24 : (24 : Int32).toInt = 24 := rfl
theorem z_30 : (30 : Int32).toInt = 30 := rfl
theorem z_57 : (57 : Int32).toInt = 57 := rfl
theorem z_48 : (48 : Int32).toInt = 48 := rfl
theorem z_60 : (60 : Int32).toInt = 60 := rfl
theorem z_99 : (99 : Int32).toInt = 99 := rfl
theorem z_120 : (120 : Int32).toInt = 120 := rfl
theorem z_400 : (400 : Int32).toInt = 400 := rfl
theorem z_500 : (500 : Int32).toInt = 500 := rfl
theorem z_999 : (999 : Int32).toInt = 999 := rfl
theorem z_1000 : (1000 : Int32).toInt = 1000 := rfl
theorem z_2000 : (2000 : Int32).toInt = 2000 := rfl
theorem z_9999 : (9999 : Int32).toInt = 9999 := rfl
def RelW (u w : tV) : Prop := (∀ s f, s < 20 → f ≤ 12 → u (100 + s) f = w (403 + f) s) ∧ (∀ s f, s < 10 → f ≤ 3 → u (200 + s) f = w (417 + f) s) ∧ (∀ s f, s < 6 → 1 ≤ f → f ≤ 4 → u (300 + s) f = w (420 + f) s) ∧ (∀ s f, s < 6 → f < 5 → u (320 + s) f = w 425 (5 * s + f)) ∧ u 1 3 = w 400 1 ∧ u 1 4 = w 400 15 ∧ u 0 11 = w 400 65 ∧ u 0 12 = w 400 66 ∧ u 50 2 = w 400 34 ∧ u 55 1 = w 400 33 ∧ u 1 5 = w 400 25 ∧ u 1 6 = w 400 26 ∧ u 0 10 = w 400 57 ∧ u 30 4 = w 400 27
theorem RelW.ship {u w : tV} (h : RelW u w) : ∀ s f, s < 20 → f ≤ 12 → u (100 + s) f = w (403 + f) s := h.1
theorem RelW.buyer {u w : tV} (h : RelW u w) : ∀ s f, s < 10 → f ≤ 3 → u (200 + s) f = w (417 + f) s := h.2.1
theorem RelW.ward {u w : tV} (h : RelW u w) : ∀ s f, s < 6 → 1 ≤ f → f ≤ 4 → u (300 + s) f = w (420 + f) s := h.2.2.1
theorem RelW.burn {u w : tV} (h : RelW u w) : ∀ s f, s < 6 → f < 5 → u (320 + s) f = w 425 (5 * s + f) := h.2.2.2.1
theorem RelW.n {u w : tV} (h : RelW u w) : u 1 3 = w 400 1 := h.2.2.2.2.1
theorem RelW.nb {u w : tV} (h : RelW u w) : u 1 4 = w 400 15 := h.2.2.2.2.2.1
theorem RelW.le {u w : tV} (h : RelW u w) : u 0 11 = w 400 65 := h.2.2.2.2.2.2.1
theorem RelW.mo {u w : tV} (h : RelW u w) : u 0 12 = w 400 66 := h.2.2.2.2.2.2.2.1
theorem RelW.no {u w : tV} (h : RelW u w) : u 50 2 = w 400 34 := h.2.2.2.2.2.2.2.2.1
theorem RelW.nt {u w : tV} (h : RelW u w) : u 55 1 = w 400 33 := h.2.2.2.2.2.2.2.2.2.1
theorem RelW.to {u w : tV} (h : RelW u w) : u 1 5 = w 400 25 := h.2.2.2.2.2.2.2.2.2.2.1
theorem RelW.pr {u w : tV} (h : RelW u w) : u 1 6 = w 400 26 := h.2.2.2.2.2.2.2.2.2.2.2.1
theorem RelW.mk {u w : tV} (h : RelW u w) : u 0 10 = w 400 57 := h.2.2.2.2.2.2.2.2.2.2.2.2.1
theorem RelW.bg {u w : tV} (h : RelW u w) : u 30 4 = w 400 27 := h.2.2.2.2.2.2.2.2.2.2.2.2.2
theorem RelW.put_ship {u w : tV} (h : RelW u w) {a c s f : Nat} (x : Int32) (h0 : s < 20) (h1 : f ≤ 12) (ha : a = 100 + s) (hc : c = 403 + f) : RelW (up2 u a f x) (up2 w c s x) := by
  subst ha hc
  exact ⟨fun s1 f1 c0 c1 => by
    by_cases q : s1 = s ∧ f1 = f
    · obtain ⟨rfl, rfl⟩ := q
      rw [up2_s, up2_s]
    · rw [up2_n _ _ (by omega), up2_n _ _ (by omega)]; exact h.ship s1 f1 c0 c1,
   fun s1 f1 c0 c1 => by
    rw [up2_n _ _ (by omega), up2_n _ _ (by omega)]; exact h.buyer s1 f1 c0 c1,
   fun s1 f1 c0 c1 c2 => by
    rw [up2_n _ _ (by omega), up2_n _ _ (by omega)]; exact h.ward s1 f1 c0 c1 c2,
   fun s1 f1 c0 c1 => by
    rw [up2_n _ _ (by omega), up2_n _ _ (by omega)]; exact h.burn s1 f1 c0 c1,
   by
    rw [up2_n _ _ (by omega), up2_n _ _ (by omega)]; exact h.n,
   by
    rw [up2_n _ _ (by omega), up2_n _ _ (by omega)]; exact h.nb,
   by
    rw [up2_n _ _ (by omega), up2_n _ _ (by omega)]; exact h.le,
   by
    rw [up2_n _ _ (by omega), up2_n _ _ (by omega)]; exact h.mo,
   by
    rw [up2_n _ _ (by omega), up2_n _ _ (by omega)]; exact h.no,
   by
    rw [up2_n _ _ (by omega), up2_n _ _ (by omega)]; exact h.nt,
   by
    rw [up2_n _ _ (by omega), up2_n _ _ (by omega)]; exact h.to,
   by
    rw [up2_n _ _ (by omega), up2_n _ _ (by omega)]; exact h.pr,
   by
    rw [up2_n _ _ (by omega), up2_n _ _ (by omega)]; exact h.mk,
   by
    rw [up2_n _ _ (by omega), up2_n _ _ (by omega)]; exact h.bg⟩
theorem RelW.put_buyer {u w : tV} (h : RelW u w) {a c s f : Nat} (x : Int32) (h0 : s < 10) (h1 : f ≤ 3) (ha : a = 200 + s) (hc : c = 417 + f) : RelW (up2 u a f x) (up2 w c s x) := by
  subst ha hc
  exact ⟨fun s1 f1 c0 c1 => by
    rw [up2_n _ _ (by omega), up2_n _ _ (by omega)]; exact h.ship s1 f1 c0 c1,
   fun s1 f1 c0 c1 => by
    by_cases q : s1 = s ∧ f1 = f
    · obtain ⟨rfl, rfl⟩ := q
      rw [up2_s, up2_s]
    · rw [up2_n _ _ (by omega), up2_n _ _ (by omega)]; exact h.buyer s1 f1 c0 c1,
   fun s1 f1 c0 c1 c2 => by
    rw [up2_n _ _ (by omega), up2_n _ _ (by omega)]; exact h.ward s1 f1 c0 c1 c2,
   fun s1 f1 c0 c1 => by
    rw [up2_n _ _ (by omega), up2_n _ _ (by omega)]; exact h.burn s1 f1 c0 c1,
   by
    rw [up2_n _ _ (by omega), up2_n _ _ (by omega)]; exact h.n,
   by
    rw [up2_n _ _ (by omega), up2_n _ _ (by omega)]; exact h.nb,
   by
    rw [up2_n _ _ (by omega), up2_n _ _ (by omega)]; exact h.le,
   by
    rw [up2_n _ _ (by omega), up2_n _ _ (by omega)]; exact h.mo,
   by
    rw [up2_n _ _ (by omega), up2_n _ _ (by omega)]; exact h.no,
   by
    rw [up2_n _ _ (by omega), up2_n _ _ (by omega)]; exact h.nt,
   by
    rw [up2_n _ _ (by omega), up2_n _ _ (by omega)]; exact h.to,
   by
    rw [up2_n _ _ (by omega), up2_n _ _ (by omega)]; exact h.pr,
   by
    rw [up2_n _ _ (by omega), up2_n _ _ (by omega)]; exact h.mk,
   by
    rw [up2_n _ _ (by omega), up2_n _ _ (by omega)]; exact h.bg⟩
theorem RelW.put_ward {u w : tV} (h : RelW u w) {a c s f : Nat} (x : Int32) (h0 : s < 6) (h1 : 1 ≤ f) (h2 : f ≤ 4) (ha : a = 300 + s) (hc : c = 420 + f) : RelW (up2 u a f x) (up2 w c s x) := by
  subst ha hc
  exact ⟨fun s1 f1 c0 c1 => by
    rw [up2_n _ _ (by omega), up2_n _ _ (by omega)]; exact h.ship s1 f1 c0 c1,
   fun s1 f1 c0 c1 => by
    rw [up2_n _ _ (by omega), up2_n _ _ (by omega)]; exact h.buyer s1 f1 c0 c1,
   fun s1 f1 c0 c1 c2 => by
    by_cases q : s1 = s ∧ f1 = f
    · obtain ⟨rfl, rfl⟩ := q
      rw [up2_s, up2_s]
    · rw [up2_n _ _ (by omega), up2_n _ _ (by omega)]; exact h.ward s1 f1 c0 c1 c2,
   fun s1 f1 c0 c1 => by
    rw [up2_n _ _ (by omega), up2_n _ _ (by omega)]; exact h.burn s1 f1 c0 c1,
   by
    rw [up2_n _ _ (by omega), up2_n _ _ (by omega)]; exact h.n,
   by
    rw [up2_n _ _ (by omega), up2_n _ _ (by omega)]; exact h.nb,
   by
    rw [up2_n _ _ (by omega), up2_n _ _ (by omega)]; exact h.le,
   by
    rw [up2_n _ _ (by omega), up2_n _ _ (by omega)]; exact h.mo,
   by
    rw [up2_n _ _ (by omega), up2_n _ _ (by omega)]; exact h.no,
   by
    rw [up2_n _ _ (by omega), up2_n _ _ (by omega)]; exact h.nt,
   by
    rw [up2_n _ _ (by omega), up2_n _ _ (by omega)]; exact h.to,
   by
    rw [up2_n _ _ (by omega), up2_n _ _ (by omega)]; exact h.pr,
   by
    rw [up2_n _ _ (by omega), up2_n _ _ (by omega)]; exact h.mk,
   by
    rw [up2_n _ _ (by omega), up2_n _ _ (by omega)]; exact h.bg⟩
theorem RelW.put_burn {u w : tV} (h : RelW u w) {a d s f : Nat} (x : Int32) (h0 : s < 6) (h1 : f < 5) (ha : a = 320 + s) (hd : d = 5 * s + f) : RelW (up2 u a f x) (up2 w 425 d x) := by
  subst ha hd
  exact ⟨fun s1 f1 c0 c1 => by
    rw [up2_n _ _ (by omega), up2_n _ _ (by omega)]; exact h.ship s1 f1 c0 c1,
   fun s1 f1 c0 c1 => by
    rw [up2_n _ _ (by omega), up2_n _ _ (by omega)]; exact h.buyer s1 f1 c0 c1,
   fun s1 f1 c0 c1 c2 => by
    rw [up2_n _ _ (by omega), up2_n _ _ (by omega)]; exact h.ward s1 f1 c0 c1 c2,
   fun s1 f1 c0 c1 => by
    by_cases q : s1 = s ∧ f1 = f
    · obtain ⟨rfl, rfl⟩ := q
      rw [up2_s, up2_s]
    · rw [up2_n _ _ (by omega), up2_n _ _ (by omega)]; exact h.burn s1 f1 c0 c1,
   by
    rw [up2_n _ _ (by omega), up2_n _ _ (by omega)]; exact h.n,
   by
    rw [up2_n _ _ (by omega), up2_n _ _ (by omega)]; exact h.nb,
   by
    rw [up2_n _ _ (by omega), up2_n _ _ (by omega)]; exact h.le,
   by
    rw [up2_n _ _ (by omega), up2_n _ _ (by omega)]; exact h.mo,
   by
    rw [up2_n _ _ (by omega), up2_n _ _ (by omega)]; exact h.no,
   by
    rw [up2_n _ _ (by omega), up2_n _ _ (by omega)]; exact h.nt,
   by
    rw [up2_n _ _ (by omega), up2_n _ _ (by omega)]; exact h.to,
   by
    rw [up2_n _ _ (by omega), up2_n _ _ (by omega)]; exact h.pr,
   by
    rw [up2_n _ _ (by omega), up2_n _ _ (by omega)]; exact h.mk,
   by
    rw [up2_n _ _ (by omega), up2_n _ _ (by omega)]; exact h.bg⟩
theorem RelW.put_n {u w : tV} (h : RelW u w) (x : Int32) : RelW (up2 u 1 3 x) (up2 w 400 1 x) := ⟨fun s1 f1 c0 c1 => by
    rw [up2_n _ _ (by omega), up2_n _ _ (by omega)]; exact h.ship s1 f1 c0 c1,
   fun s1 f1 c0 c1 => by
    rw [up2_n _ _ (by omega), up2_n _ _ (by omega)]; exact h.buyer s1 f1 c0 c1,
   fun s1 f1 c0 c1 c2 => by
    rw [up2_n _ _ (by omega), up2_n _ _ (by omega)]; exact h.ward s1 f1 c0 c1 c2,
   fun s1 f1 c0 c1 => by
    rw [up2_n _ _ (by omega), up2_n _ _ (by omega)]; exact h.burn s1 f1 c0 c1,
   by
    rw [up2_s, up2_s],
   by
    rw [up2_n _ _ (by omega), up2_n _ _ (by omega)]; exact h.nb,
   by
    rw [up2_n _ _ (by omega), up2_n _ _ (by omega)]; exact h.le,
   by
    rw [up2_n _ _ (by omega), up2_n _ _ (by omega)]; exact h.mo,
   by
    rw [up2_n _ _ (by omega), up2_n _ _ (by omega)]; exact h.no,
   by
    rw [up2_n _ _ (by omega), up2_n _ _ (by omega)]; exact h.nt,
   by
    rw [up2_n _ _ (by omega), up2_n _ _ (by omega)]; exact h.to,
   by
    rw [up2_n _ _ (by omega), up2_n _ _ (by omega)]; exact h.pr,
   by
    rw [up2_n _ _ (by omega), up2_n _ _ (by omega)]; exact h.mk,
   by
    rw [up2_n _ _ (by omega), up2_n _ _ (by omega)]; exact h.bg⟩
theorem RelW.put_nb {u w : tV} (h : RelW u w) (x : Int32) : RelW (up2 u 1 4 x) (up2 w 400 15 x) := ⟨fun s1 f1 c0 c1 => by
    rw [up2_n _ _ (by omega), up2_n _ _ (by omega)]; exact h.ship s1 f1 c0 c1,
   fun s1 f1 c0 c1 => by
    rw [up2_n _ _ (by omega), up2_n _ _ (by omega)]; exact h.buyer s1 f1 c0 c1,
   fun s1 f1 c0 c1 c2 => by
    rw [up2_n _ _ (by omega), up2_n _ _ (by omega)]; exact h.ward s1 f1 c0 c1 c2,
   fun s1 f1 c0 c1 => by
    rw [up2_n _ _ (by omega), up2_n _ _ (by omega)]; exact h.burn s1 f1 c0 c1,
   by
    rw [up2_n _ _ (by omega), up2_n _ _ (by omega)]; exact h.n,
   by
    rw [up2_s, up2_s],
   by
    rw [up2_n _ _ (by omega), up2_n _ _ (by omega)]; exact h.le,
   by
    rw [up2_n _ _ (by omega), up2_n _ _ (by omega)]; exact h.mo,
   by
    rw [up2_n _ _ (by omega), up2_n _ _ (by omega)]; exact h.no,
   by
    rw [up2_n _ _ (by omega), up2_n _ _ (by omega)]; exact h.nt,
   by
    rw [up2_n _ _ (by omega), up2_n _ _ (by omega)]; exact h.to,
   by
    rw [up2_n _ _ (by omega), up2_n _ _ (by omega)]; exact h.pr,
   by
    rw [up2_n _ _ (by omega), up2_n _ _ (by omega)]; exact h.mk,
   by
    rw [up2_n _ _ (by omega), up2_n _ _ (by omega)]; exact h.bg⟩
theorem RelW.put_le {u w : tV} (h : RelW u w) (x : Int32) : RelW (up2 u 0 11 x) (up2 w 400 65 x) := ⟨fun s1 f1 c0 c1 => by
    rw [up2_n _ _ (by omega), up2_n _ _ (by omega)]; exact h.ship s1 f1 c0 c1,
   fun s1 f1 c0 c1 => by
    rw [up2_n _ _ (by omega), up2_n _ _ (by omega)]; exact h.buyer s1 f1 c0 c1,
   fun s1 f1 c0 c1 c2 => by
    rw [up2_n _ _ (by omega), up2_n _ _ (by omega)]; exact h.ward s1 f1 c0 c1 c2,
   fun s1 f1 c0 c1 => by
    rw [up2_n _ _ (by omega), up2_n _ _ (by omega)]; exact h.burn s1 f1 c0 c1,
   by
    rw [up2_n _ _ (by omega), up2_n _ _ (by omega)]; exact h.n,
   by
    rw [up2_n _ _ (by omega), up2_n _ _ (by omega)]; exact h.nb,
   by
    rw [up2_s, up2_s],
   by
    rw [up2_n _ _ (by omega), up2_n _ _ (by omega)]; exact h.mo,
   by
    rw [up2_n _ _ (by omega), up2_n _ _ (by omega)]; exact h.no,
   by
    rw [up2_n _ _ (by omega), up2_n _ _ (by omega)]; exact h.nt,
   by
    rw [up2_n _ _ (by omega), up2_n _ _ (by omega)]; exact h.to,
   by
    rw [up2_n _ _ (by omega), up2_n _ _ (by omega)]; exact h.pr,
   by
    rw [up2_n _ _ (by omega), up2_n _ _ (by omega)]; exact h.mk,
   by
    rw [up2_n _ _ (by omega), up2_n _ _ (by omega)]; exact h.bg⟩
theorem RelW.put_mo {u w : tV} (h : RelW u w) (x : Int32) : RelW (up2 u 0 12 x) (up2 w 400 66 x) := ⟨fun s1 f1 c0 c1 => by
    rw [up2_n _ _ (by omega), up2_n _ _ (by omega)]; exact h.ship s1 f1 c0 c1,
   fun s1 f1 c0 c1 => by
    rw [up2_n _ _ (by omega), up2_n _ _ (by omega)]; exact h.buyer s1 f1 c0 c1,
   fun s1 f1 c0 c1 c2 => by
    rw [up2_n _ _ (by omega), up2_n _ _ (by omega)]; exact h.ward s1 f1 c0 c1 c2,
   fun s1 f1 c0 c1 => by
    rw [up2_n _ _ (by omega), up2_n _ _ (by omega)]; exact h.burn s1 f1 c0 c1,
   by
    rw [up2_n _ _ (by omega), up2_n _ _ (by omega)]; exact h.n,
   by
    rw [up2_n _ _ (by omega), up2_n _ _ (by omega)]; exact h.nb,
   by
    rw [up2_n _ _ (by omega), up2_n _ _ (by omega)]; exact h.le,
   by
    rw [up2_s, up2_s],
   by
    rw [up2_n _ _ (by omega), up2_n _ _ (by omega)]; exact h.no,
   by
    rw [up2_n _ _ (by omega), up2_n _ _ (by omega)]; exact h.nt,
   by
    rw [up2_n _ _ (by omega), up2_n _ _ (by omega)]; exact h.to,
   by
    rw [up2_n _ _ (by omega), up2_n _ _ (by omega)]; exact h.pr,
   by
    rw [up2_n _ _ (by omega), up2_n _ _ (by omega)]; exact h.mk,
   by
    rw [up2_n _ _ (by omega), up2_n _ _ (by omega)]; exact h.bg⟩
theorem RelW.put_no {u w : tV} (h : RelW u w) (x : Int32) : RelW (up2 u 50 2 x) (up2 w 400 34 x) := ⟨fun s1 f1 c0 c1 => by
    rw [up2_n _ _ (by omega), up2_n _ _ (by omega)]; exact h.ship s1 f1 c0 c1,
   fun s1 f1 c0 c1 => by
    rw [up2_n _ _ (by omega), up2_n _ _ (by omega)]; exact h.buyer s1 f1 c0 c1,
   fun s1 f1 c0 c1 c2 => by
    rw [up2_n _ _ (by omega), up2_n _ _ (by omega)]; exact h.ward s1 f1 c0 c1 c2,
   fun s1 f1 c0 c1 => by
    rw [up2_n _ _ (by omega), up2_n _ _ (by omega)]; exact h.burn s1 f1 c0 c1,
   by
    rw [up2_n _ _ (by omega), up2_n _ _ (by omega)]; exact h.n,
   by
    rw [up2_n _ _ (by omega), up2_n _ _ (by omega)]; exact h.nb,
   by
    rw [up2_n _ _ (by omega), up2_n _ _ (by omega)]; exact h.le,
   by
    rw [up2_n _ _ (by omega), up2_n _ _ (by omega)]; exact h.mo,
   by
    rw [up2_s, up2_s],
   by
    rw [up2_n _ _ (by omega), up2_n _ _ (by omega)]; exact h.nt,
   by
    rw [up2_n _ _ (by omega), up2_n _ _ (by omega)]; exact h.to,
   by
    rw [up2_n _ _ (by omega), up2_n _ _ (by omega)]; exact h.pr,
   by
    rw [up2_n _ _ (by omega), up2_n _ _ (by omega)]; exact h.mk,
   by
    rw [up2_n _ _ (by omega), up2_n _ _ (by omega)]; exact h.bg⟩
theorem RelW.put_nt {u w : tV} (h : RelW u w) (x : Int32) : RelW (up2 u 55 1 x) (up2 w 400 33 x) := ⟨fun s1 f1 c0 c1 => by
    rw [up2_n _ _ (by omega), up2_n _ _ (by omega)]; exact h.ship s1 f1 c0 c1,
   fun s1 f1 c0 c1 => by
    rw [up2_n _ _ (by omega), up2_n _ _ (by omega)]; exact h.buyer s1 f1 c0 c1,
   fun s1 f1 c0 c1 c2 => by
    rw [up2_n _ _ (by omega), up2_n _ _ (by omega)]; exact h.ward s1 f1 c0 c1 c2,
   fun s1 f1 c0 c1 => by
    rw [up2_n _ _ (by omega), up2_n _ _ (by omega)]; exact h.burn s1 f1 c0 c1,
   by
    rw [up2_n _ _ (by omega), up2_n _ _ (by omega)]; exact h.n,
   by
    rw [up2_n _ _ (by omega), up2_n _ _ (by omega)]; exact h.nb,
   by
    rw [up2_n _ _ (by omega), up2_n _ _ (by omega)]; exact h.le,
   by
    rw [up2_n _ _ (by omega), up2_n _ _ (by omega)]; exact h.mo,
   by
    rw [up2_n _ _ (by omega), up2_n _ _ (by omega)]; exact h.no,
   by
    rw [up2_s, up2_s],
   by
    rw [up2_n _ _ (by omega), up2_n _ _ (by omega)]; exact h.to,
   by
    rw [up2_n _ _ (by omega), up2_n _ _ (by omega)]; exact h.pr,
   by
    rw [up2_n _ _ (by omega), up2_n _ _ (by omega)]; exact h.mk,
   by
    rw [up2_n _ _ (by omega), up2_n _ _ (by omega)]; exact h.bg⟩
theorem RelW.put_to {u w : tV} (h : RelW u w) (x : Int32) : RelW (up2 u 1 5 x) (up2 w 400 25 x) := ⟨fun s1 f1 c0 c1 => by
    rw [up2_n _ _ (by omega), up2_n _ _ (by omega)]; exact h.ship s1 f1 c0 c1,
   fun s1 f1 c0 c1 => by
    rw [up2_n _ _ (by omega), up2_n _ _ (by omega)]; exact h.buyer s1 f1 c0 c1,
   fun s1 f1 c0 c1 c2 => by
    rw [up2_n _ _ (by omega), up2_n _ _ (by omega)]; exact h.ward s1 f1 c0 c1 c2,
   fun s1 f1 c0 c1 => by
    rw [up2_n _ _ (by omega), up2_n _ _ (by omega)]; exact h.burn s1 f1 c0 c1,
   by
    rw [up2_n _ _ (by omega), up2_n _ _ (by omega)]; exact h.n,
   by
    rw [up2_n _ _ (by omega), up2_n _ _ (by omega)]; exact h.nb,
   by
    rw [up2_n _ _ (by omega), up2_n _ _ (by omega)]; exact h.le,
   by
    rw [up2_n _ _ (by omega), up2_n _ _ (by omega)]; exact h.mo,
   by
    rw [up2_n _ _ (by omega), up2_n _ _ (by omega)]; exact h.no,
   by
    rw [up2_n _ _ (by omega), up2_n _ _ (by omega)]; exact h.nt,
   by
    rw [up2_s, up2_s],
   by
    rw [up2_n _ _ (by omega), up2_n _ _ (by omega)]; exact h.pr,
   by
    rw [up2_n _ _ (by omega), up2_n _ _ (by omega)]; exact h.mk,
   by
    rw [up2_n _ _ (by omega), up2_n _ _ (by omega)]; exact h.bg⟩
theorem RelW.put_pr {u w : tV} (h : RelW u w) (x : Int32) : RelW (up2 u 1 6 x) (up2 w 400 26 x) := ⟨fun s1 f1 c0 c1 => by
    rw [up2_n _ _ (by omega), up2_n _ _ (by omega)]; exact h.ship s1 f1 c0 c1,
   fun s1 f1 c0 c1 => by
    rw [up2_n _ _ (by omega), up2_n _ _ (by omega)]; exact h.buyer s1 f1 c0 c1,
   fun s1 f1 c0 c1 c2 => by
    rw [up2_n _ _ (by omega), up2_n _ _ (by omega)]; exact h.ward s1 f1 c0 c1 c2,
   fun s1 f1 c0 c1 => by
    rw [up2_n _ _ (by omega), up2_n _ _ (by omega)]; exact h.burn s1 f1 c0 c1,
   by
    rw [up2_n _ _ (by omega), up2_n _ _ (by omega)]; exact h.n,
   by
    rw [up2_n _ _ (by omega), up2_n _ _ (by omega)]; exact h.nb,
   by
    rw [up2_n _ _ (by omega), up2_n _ _ (by omega)]; exact h.le,
   by
    rw [up2_n _ _ (by omega), up2_n _ _ (by omega)]; exact h.mo,
   by
    rw [up2_n _ _ (by omega), up2_n _ _ (by omega)]; exact h.no,
   by
    rw [up2_n _ _ (by omega), up2_n _ _ (by omega)]; exact h.nt,
   by
    rw [up2_n _ _ (by omega), up2_n _ _ (by omega)]; exact h.to,
   by
    rw [up2_s, up2_s],
   by
    rw [up2_n _ _ (by omega), up2_n _ _ (by omega)]; exact h.mk,
   by
    rw [up2_n _ _ (by omega), up2_n _ _ (by omega)]; exact h.bg⟩
theorem RelW.put_mk {u w : tV} (h : RelW u w) (x : Int32) : RelW (up2 u 0 10 x) (up2 w 400 57 x) := ⟨fun s1 f1 c0 c1 => by
    rw [up2_n _ _ (by omega), up2_n _ _ (by omega)]; exact h.ship s1 f1 c0 c1,
   fun s1 f1 c0 c1 => by
    rw [up2_n _ _ (by omega), up2_n _ _ (by omega)]; exact h.buyer s1 f1 c0 c1,
   fun s1 f1 c0 c1 c2 => by
    rw [up2_n _ _ (by omega), up2_n _ _ (by omega)]; exact h.ward s1 f1 c0 c1 c2,
   fun s1 f1 c0 c1 => by
    rw [up2_n _ _ (by omega), up2_n _ _ (by omega)]; exact h.burn s1 f1 c0 c1,
   by
    rw [up2_n _ _ (by omega), up2_n _ _ (by omega)]; exact h.n,
   by
    rw [up2_n _ _ (by omega), up2_n _ _ (by omega)]; exact h.nb,
   by
    rw [up2_n _ _ (by omega), up2_n _ _ (by omega)]; exact h.le,
   by
    rw [up2_n _ _ (by omega), up2_n _ _ (by omega)]; exact h.mo,
   by
    rw [up2_n _ _ (by omega), up2_n _ _ (by omega)]; exact h.no,
   by
    rw [up2_n _ _ (by omega), up2_n _ _ (by omega)]; exact h.nt,
   by
    rw [up2_n _ _ (by omega), up2_n _ _ (by omega)]; exact h.to,
   by
    rw [up2_n _ _ (by omega), up2_n _ _ (by omega)]; exact h.pr,
   by
    rw [up2_s, up2_s],
   by
    rw [up2_n _ _ (by omega), up2_n _ _ (by omega)]; exact h.bg⟩
theorem RelW.put_bg {u w : tV} (h : RelW u w) (x : Int32) : RelW (up2 u 30 4 x) (up2 w 400 27 x) := ⟨fun s1 f1 c0 c1 => by
    rw [up2_n _ _ (by omega), up2_n _ _ (by omega)]; exact h.ship s1 f1 c0 c1,
   fun s1 f1 c0 c1 => by
    rw [up2_n _ _ (by omega), up2_n _ _ (by omega)]; exact h.buyer s1 f1 c0 c1,
   fun s1 f1 c0 c1 c2 => by
    rw [up2_n _ _ (by omega), up2_n _ _ (by omega)]; exact h.ward s1 f1 c0 c1 c2,
   fun s1 f1 c0 c1 => by
    rw [up2_n _ _ (by omega), up2_n _ _ (by omega)]; exact h.burn s1 f1 c0 c1,
   by
    rw [up2_n _ _ (by omega), up2_n _ _ (by omega)]; exact h.n,
   by
    rw [up2_n _ _ (by omega), up2_n _ _ (by omega)]; exact h.nb,
   by
    rw [up2_n _ _ (by omega), up2_n _ _ (by omega)]; exact h.le,
   by
    rw [up2_n _ _ (by omega), up2_n _ _ (by omega)]; exact h.mo,
   by
    rw [up2_n _ _ (by omega), up2_n _ _ (by omega)]; exact h.no,
   by
    rw [up2_n _ _ (by omega), up2_n _ _ (by omega)]; exact h.nt,
   by
    rw [up2_n _ _ (by omega), up2_n _ _ (by omega)]; exact h.to,
   by
    rw [up2_n _ _ (by omega), up2_n _ _ (by omega)]; exact h.pr,
   by
    rw [up2_n _ _ (by omega), up2_n _ _ (by omega)]; exact h.mk,
   by
    rw [up2_s, up2_s]⟩
theorem RelW.putL {u w : tV} (h : RelW u w) {a b : Nat} (x : Int32) (hn : (a < 100 ∨ 120 ≤ a) ∧ (a < 200 ∨ 210 ≤ a) ∧ (a < 300 ∨ 306 ≤ a) ∧ (a < 320 ∨ 326 ≤ a) ∧ (a ≠ 1 ∨ b < 3) ∧ (a ≠ 0 ∨ b < 10) ∧ (a ≠ 50 ∨ b ≠ 2) ∧ (a ≠ 55 ∨ b ≠ 1) ∧ (a ≠ 30 ∨ b ≠ 4)) : RelW (up2 u a b x) w := ⟨fun s1 f1 c0 c1 => by
    rw [up2_n _ _ (by omega)]; exact h.ship s1 f1 c0 c1,
   fun s1 f1 c0 c1 => by
    rw [up2_n _ _ (by omega)]; exact h.buyer s1 f1 c0 c1,
   fun s1 f1 c0 c1 c2 => by
    rw [up2_n _ _ (by omega)]; exact h.ward s1 f1 c0 c1 c2,
   fun s1 f1 c0 c1 => by
    rw [up2_n _ _ (by omega)]; exact h.burn s1 f1 c0 c1,
   by
    rw [up2_n _ _ (by omega)]; exact h.n,
   by
    rw [up2_n _ _ (by omega)]; exact h.nb,
   by
    rw [up2_n _ _ (by omega)]; exact h.le,
   by
    rw [up2_n _ _ (by omega)]; exact h.mo,
   by
    rw [up2_n _ _ (by omega)]; exact h.no,
   by
    rw [up2_n _ _ (by omega)]; exact h.nt,
   by
    rw [up2_n _ _ (by omega)]; exact h.to,
   by
    rw [up2_n _ _ (by omega)]; exact h.pr,
   by
    rw [up2_n _ _ (by omega)]; exact h.mk,
   by
    rw [up2_n _ _ (by omega)]; exact h.bg⟩
theorem RelW.putR {u w : tV} (h : RelW u w) {c d : Nat} (x : Int32) (hn : (c < 403 ∨ 425 < c) ∧ (c ≠ 400 ∨ (d ≠ 1 ∧ d ≠ 15 ∧ d ≠ 65 ∧ d ≠ 66 ∧ d ≠ 34 ∧ d ≠ 33 ∧ d ≠ 25 ∧ d ≠ 26 ∧ d ≠ 57 ∧ d ≠ 27))) : RelW u (up2 w c d x) := ⟨fun s1 f1 c0 c1 => by
    rw [up2_n _ _ (by omega)]; exact h.ship s1 f1 c0 c1,
   fun s1 f1 c0 c1 => by
    rw [up2_n _ _ (by omega)]; exact h.buyer s1 f1 c0 c1,
   fun s1 f1 c0 c1 c2 => by
    rw [up2_n _ _ (by omega)]; exact h.ward s1 f1 c0 c1 c2,
   fun s1 f1 c0 c1 => by
    rw [up2_n _ _ (by omega)]; exact h.burn s1 f1 c0 c1,
   by
    rw [up2_n _ _ (by omega)]; exact h.n,
   by
    rw [up2_n _ _ (by omega)]; exact h.nb,
   by
    rw [up2_n _ _ (by omega)]; exact h.le,
   by
    rw [up2_n _ _ (by omega)]; exact h.mo,
   by
    rw [up2_n _ _ (by omega)]; exact h.no,
   by
    rw [up2_n _ _ (by omega)]; exact h.nt,
   by
    rw [up2_n _ _ (by omega)]; exact h.to,
   by
    rw [up2_n _ _ (by omega)]; exact h.pr,
   by
    rw [up2_n _ _ (by omega)]; exact h.mk,
   by
    rw [up2_n _ _ (by omega)]; exact h.bg⟩
theorem RelW.cong {u w u1 w1 : tV} (h : RelW u w) (h1 : ∀ a j, a < 400 → u1 a j = u a j) (h2 : ∀ a j, 400 ≤ a → w1 a j = w a j) : RelW u1 w1 :=
  ⟨fun s1 f1 c0 c1 => by rw [h1 _ _ (by omega), h2 _ _ (by omega)]; exact h.ship s1 f1 c0 c1,
   fun s1 f1 c0 c1 => by rw [h1 _ _ (by omega), h2 _ _ (by omega)]; exact h.buyer s1 f1 c0 c1,
   fun s1 f1 c0 c1 c2 => by rw [h1 _ _ (by omega), h2 _ _ (by omega)]; exact h.ward s1 f1 c0 c1 c2,
   fun s1 f1 c0 c1 => by rw [h1 _ _ (by omega), h2 _ _ (by omega)]; exact h.burn s1 f1 c0 c1,
   by rw [h1 _ _ (by omega), h2 _ _ (by omega)]; exact h.n,
   by rw [h1 _ _ (by omega), h2 _ _ (by omega)]; exact h.nb,
   by rw [h1 _ _ (by omega), h2 _ _ (by omega)]; exact h.le,
   by rw [h1 _ _ (by omega), h2 _ _ (by omega)]; exact h.mo,
   by rw [h1 _ _ (by omega), h2 _ _ (by omega)]; exact h.no,
   by rw [h1 _ _ (by omega), h2 _ _ (by omega)]; exact h.nt,
   by rw [h1 _ _ (by omega), h2 _ _ (by omega)]; exact h.to,
   by rw [h1 _ _ (by omega), h2 _ _ (by omega)]; exact h.pr,
   by rw [h1 _ _ (by omega), h2 _ _ (by omega)]; exact h.mk,
   by rw [h1 _ _ (by omega), h2 _ _ (by omega)]; exact h.bg⟩
theorem clampI {x : Int32} (h : 0 ≤ x.toInt) : (x.toNatClampNeg : Int) = x.toInt := by
  show ((x.toInt.toNat : Nat) : Int) = x.toInt
  omega
theorem i32_ext {x y : Int32} (h : x.toInt = y.toInt) : x = y := Int32.toInt_inj.mp h
theorem i32_eq {x y : Int32} : x = y ↔ x.toInt = y.toInt := ⟨fun h => by rw [h], fun h => Int32.toInt_inj.mp h⟩
theorem sim_ask {u w : tV} (h : RelW u w) (hI : Inv u) (si ak : Int32) : RelW (f_X10_ask_0 u si ak).2 (f_X11_ask_400 w si ak).2 ∧ (f_X10_ask_0 u si ak).1 = (f_X11_ask_400 w si ak).1 := by
  have hn : w 400 1 = u 1 3 := h.n.symm
  have h20 := hI 1 3 0 20 rfl
  obtain ⟨-, h21⟩ := h20
  simp only [f_X10_ask_0, f_X11_ask_400, bnd, hn, z_0, z_1, z_2, z_3, z_4, z_5, z_7, z_8, z_9, z_10, z_20, z_23, z_24, z_30, z_57, z_48, z_60, z_99, z_120, z_400, z_500, z_999, z_1000, z_2000, z_9999]
  by_cases c1 : 0 ≤ si.toInt ∧ si.toInt ≤ (u 1 3).toInt - 1
  · have hs := clampI c1.1
    rw [if_pos c1, if_pos c1]
    by_cases c2 : 1 ≤ ak.toInt ∧ ak.toInt ≤ 99
    · rw [if_pos c2, if_pos c2]
      exact ⟨h.put_ship ak (by omega) (by omega) rfl rfl, h.ship _ 3 (by omega) (by omega)⟩
    · rw [if_neg c2, if_neg c2]; exact ⟨h, rfl⟩
  · rw [if_neg c1, if_neg c1]; exact ⟨h, rfl⟩
theorem sim_ship {u w : tV} (h : RelW u w) (hI : Inv u) (kd so lo ak fa wy : Int32) : RelW (f_X10_ship_0 u kd so lo ak fa wy).2 (f_X11_ship_400 w kd so lo ak fa wy).2 ∧ (f_X10_ship_0 u kd so lo ak fa wy).1 = (f_X11_ship_400 w kd so lo ak fa wy).1 := by
  have hn : w 400 1 = u 1 3 := h.n.symm
  have h20 := hI 1 3 0 20 rfl
  obtain ⟨h19, h21⟩ := h20
  have hs := clampI h19
  simp only [f_X10_ship_0, f_X11_ship_400, f_X7_begin, bnd, hn, z_0, z_1, z_2, z_3, z_4, z_5, z_7, z_8, z_9, z_10, z_20, z_23, z_24, z_30, z_57, z_48, z_60, z_99, z_120, z_400, z_500, z_999, z_1000, z_2000, z_9999]
  by_cases c1 : 0 ≤ kd.toInt ∧ kd.toInt ≤ 3
  · rw [if_pos c1, if_pos c1]
    by_cases c2 : 0 ≤ so.toInt ∧ so.toInt ≤ 3
    · rw [if_pos c2, if_pos c2]
      by_cases c3 : 1 ≤ lo.toInt ∧ lo.toInt ≤ 400
      · rw [if_pos c3, if_pos c3]
        by_cases c4 : 1 ≤ ak.toInt ∧ ak.toInt ≤ 99
        · rw [if_pos c4, if_pos c4]
          by_cases c5 : 0 ≤ fa.toInt ∧ fa.toInt ≤ 5
          · rw [if_pos c5, if_pos c5]
            by_cases c6 : 1 ≤ wy.toInt ∧ wy.toInt ≤ 60
            · rw [if_pos c6, if_pos c6]
              by_cases c7 : u 1 3 < 20
              · have c8 := i_lt c7
                rw [z_20] at c8
                rw [if_pos c7, if_neg (fun z => by have := i_eq z; rw [z_20] at this; omega)]
                refine ⟨?_, rfl⟩
                refine RelW.put_n ?_ _
                refine RelW.put_ship ?_ _ (by omega) (by omega) rfl rfl
                refine RelW.put_ship ?_ _ (by omega) (by omega) rfl rfl
                refine RelW.put_ship ?_ _ (by omega) (by omega) rfl rfl
                refine RelW.put_ship ?_ _ (by omega) (by omega) rfl rfl
                refine RelW.put_ship ?_ _ (by omega) (by omega) rfl rfl
                refine RelW.put_ship ?_ _ (by omega) (by omega) rfl rfl
                refine RelW.put_ship ?_ _ (by omega) (by omega) rfl rfl
                refine RelW.put_ship ?_ _ (by omega) (by omega) rfl rfl
                exact h.put_ship _ (by omega) (by omega) rfl rfl
              · have c8 := i_nlt c7
                rw [z_20] at c8
                rw [if_neg c7, if_pos (i32_ext (by rw [z_20]; omega))]; exact ⟨h, rfl⟩
            · rw [if_neg c6, if_neg c6]; exact ⟨h, rfl⟩
          · rw [if_neg c5, if_neg c5]; exact ⟨h, rfl⟩
        · rw [if_neg c4, if_neg c4]; exact ⟨h, rfl⟩
      · rw [if_neg c3, if_neg c3]; exact ⟨h, rfl⟩
    · rw [if_neg c2, if_neg c2]; exact ⟨h, rfl⟩
  · rw [if_neg c1, if_neg c1]; exact ⟨h, rfl⟩
theorem sim_buyer {u w : tV} (h : RelW u w) (hI : Inv u) (wd so wt bd : Int32) : RelW (f_X10_buyer_0 u wd so wt bd).2 (f_X11_buyer_400 w wd so wt bd).2 ∧ (f_X10_buyer_0 u wd so wt bd).1 = (f_X11_buyer_400 w wd so wt bd).1 := by
  have hn : w 400 15 = u 1 4 := h.nb.symm
  have h20 := hI 1 4 0 10 rfl
  obtain ⟨h19, h21⟩ := h20
  have hs := clampI h19
  simp only [f_X10_buyer_0, f_X11_buyer_400, f_X0_begin, bnd, hn, z_0, z_1, z_2, z_3, z_4, z_5, z_7, z_8, z_9, z_10, z_20, z_23, z_24, z_30, z_57, z_48, z_60, z_99, z_120, z_400, z_500, z_999, z_1000, z_2000, z_9999]
  by_cases c1 : 0 ≤ wd.toInt ∧ wd.toInt ≤ 5
  · rw [if_pos c1, if_pos c1]
    by_cases c2 : 0 ≤ so.toInt ∧ so.toInt ≤ 3
    · rw [if_pos c2, if_pos c2]
      by_cases c3 : 0 ≤ wt.toInt ∧ wt.toInt ≤ 2000
      · rw [if_pos c3, if_pos c3]
        by_cases c4 : 1 ≤ bd.toInt ∧ bd.toInt ≤ 120
        · rw [if_pos c4, if_pos c4]
          by_cases c7 : u 1 4 < 10
          · have c8 := i_lt c7
            rw [z_10] at c8
            rw [if_pos c7, if_neg (fun z => by have := i_eq z; rw [z_10] at this; omega)]
            refine ⟨?_, ?_⟩
            · refine RelW.put_nb ?_ _
              refine RelW.put_buyer ?_ _ (by omega) (by omega) rfl rfl
              refine RelW.put_buyer ?_ _ (by omega) (by omega) rfl rfl
              refine RelW.put_buyer ?_ _ (by omega) (by omega) rfl rfl
              exact h.put_buyer _ (by omega) (by omega) rfl rfl
            · show u 1 4 = u 1 4 + 1 - 1
              rw [Int32.add_sub_cancel]
          · have c8 := i_nlt c7
            rw [z_10] at c8
            rw [if_neg c7, if_pos (i32_ext (by rw [z_10]; omega))]; exact ⟨h, rfl⟩
        · rw [if_neg c4, if_neg c4]; exact ⟨h, rfl⟩
      · rw [if_neg c3, if_neg c3]; exact ⟨h, rfl⟩
    · rw [if_neg c2, if_neg c2]; exact ⟨h, rfl⟩
  · rw [if_neg c1, if_neg c1]; exact ⟨h, rfl⟩
theorem idx5 {wd co : Int32} (c1 : 0 ≤ wd.toInt ∧ wd.toInt ≤ 5) (c2 : 0 ≤ co.toInt ∧ co.toInt ≤ 4) : ((((5 : Int32) * wd + co).toNatClampNeg : Nat) : Int) = 5 * wd.toInt + co.toInt := by
  have e1 : ((5 : Int32) * wd).toInt = 5 * wd.toInt := by rw [i_mul (by rw [z_5]; omega) (by rw [z_5]; omega), z_5]
  have e2 : ((5 : Int32) * wd + co).toInt = 5 * wd.toInt + co.toInt := by rw [i_add (by rw [e1]; omega) (by rw [e1]; omega), e1]
  rw [clampI (by rw [e2]; omega), e2]
theorem sim_burn {u w : tV} (h : RelW u w) (wd co am : Int32) : RelW (f_X10_burn_0 u wd co am).2 (f_X11_burn_400 w wd co am).2 ∧ (f_X10_burn_0 u wd co am).1 = (f_X11_burn_400 w wd co am).1 := by
  simp only [f_X10_burn_0, f_X11_burn_400, bnd, z_0, z_1, z_2, z_3, z_4, z_5, z_7, z_8, z_9, z_10, z_20, z_23, z_24, z_30, z_57, z_48, z_60, z_99, z_120, z_400, z_500, z_999, z_1000, z_2000, z_9999]
  by_cases c1 : 0 ≤ wd.toInt ∧ wd.toInt ≤ 5
  · rw [if_pos c1, if_pos c1]
    by_cases c2 : 0 ≤ co.toInt ∧ co.toInt ≤ 4
    · rw [if_pos c2, if_pos c2]
      by_cases c3 : 0 ≤ am.toInt ∧ am.toInt ≤ 500
      · rw [if_pos c3, if_pos c3]
        have e1 := clampI c1.1
        have e2 := clampI c2.1
        have e3 := idx5 c1 c2
        have e4 : ((5 : Int32) * wd + co).toNatClampNeg = 5 * wd.toNatClampNeg + co.toNatClampNeg := by omega
        rw [e4]
        exact ⟨h.put_burn (s := wd.toNatClampNeg) _ (by omega) (by omega) (by omega) rfl, by rw [show 300 + wd.toNatClampNeg + 20 = 320 + wd.toNatClampNeg from by omega]; exact h.burn _ _ (by omega) (by omega)⟩
      · rw [if_neg c3, if_neg c3]; exact ⟨h, rfl⟩
    · rw [if_neg c2, if_neg c2]; exact ⟨h, rfl⟩
  · rw [if_neg c1, if_neg c1]; exact ⟨h, rfl⟩
theorem sim_measure {u w : tV} (h : RelW u w) (lo hi : Int32) : RelW (f_X10_measure_0 u lo hi).2 (f_X11_measure_400 w lo hi).2 ∧ (f_X10_measure_0 u lo hi).1 = (f_X11_measure_400 w lo hi).1 := by
  simp only [f_X10_measure_0, f_X11_measure_400, bnd, Int32.lt_iff_toInt_lt, Int32.le_iff_toInt_le, z_0, z_1, z_2, z_3, z_4, z_5, z_7, z_8, z_9, z_10, z_20, z_23, z_24, z_30, z_57, z_48, z_60, z_99, z_120, z_400, z_500, z_999, z_1000, z_2000, z_9999]
  by_cases c1 : lo.toInt < 1
  · rw [if_pos c1, if_neg (by omega)]; exact ⟨h, rfl⟩
  · rw [if_neg c1]
    by_cases c2 : hi.toInt < lo.toInt
    · rw [if_pos c2, if_neg (by omega)]; exact ⟨h, rfl⟩
    · rw [if_neg c2, if_pos (c := 1 ≤ lo.toInt ∧ lo.toInt ≤ hi.toInt) (by omega)]
      by_cases c3 : hi.toInt ≤ 99
      · rw [if_pos c3, if_pos c3]
        exact ⟨(h.put_le _).put_mo _, rfl⟩
      · rw [if_neg c3, if_neg c3]; exact ⟨h, rfl⟩
theorem eq_weighed {u w : tV} (h : RelW u w) (hI : Inv u) (si kk we wh : Int32) : f_X10_weighed_0 u si kk we wh = f_X11_weighed_400 w si kk we wh := by
  have hn : w 400 1 = u 1 3 := h.n.symm
  have h11 : w 400 65 = u 0 11 := h.le.symm
  have h12 : w 400 66 = u 0 12 := h.mo.symm
  have h20 := hI 1 3 0 20 rfl
  obtain ⟨-, h21⟩ := h20
  simp only [f_X10_weighed_0, f_X11_weighed_400, bnd, hn, h11, h12, z_0, z_1, z_2, z_3, z_4, z_5, z_7, z_8, z_9, z_10, z_20, z_23, z_24, z_30, z_57, z_48, z_60, z_99, z_120, z_400, z_500, z_999, z_1000, z_2000, z_9999]
  by_cases c1 : 0 ≤ si.toInt ∧ si.toInt ≤ (u 1 3).toInt - 1
  · have hs := clampI c1.1
    have hl : w 405 si.toNatClampNeg = u (100 + si.toNatClampNeg) 2 := (h.ship _ 2 (by omega) (by omega)).symm
    rw [if_pos c1, if_pos c1, hl, Int32.mul_comm 24]
  · rw [if_neg c1, if_neg c1]
