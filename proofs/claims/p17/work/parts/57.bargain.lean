/-! ONE BARGAIN ON BOTH SIDES -/
/-- the class's world behind a bargain -/
def strC (u : tV) (s b wd : Nat) (si bi n p : Int32) : tV :=
  up2 (up2 (up2 (up2 (up2 (up2 (up2 (up2 (up2 (up2 (if u (100 + s) 6 - n = 0 then up2 (up2 (up2 (up2 (up2 u (100 + s) 6 (u (100 + s) 6 - n)) (100 + s) 10 (u (100 + s) 10 + n)) (100 + s) 11 (u (100 + s) 11 + n * p)) (100 + s) 12 (u (100 + s) 12 + (if u (100 + s) 0 = 2 then n else 2 * n))) (100 + s) 7 3 else up2 (up2 (up2 (up2 u (100 + s) 6 (u (100 + s) 6 - n)) (100 + s) 10 (u (100 + s) 10 + n)) (100 + s) 11 (u (100 + s) 11 + n * p)) (100 + s) 12 (u (100 + s) 12 + (if u (100 + s) 0 = 2 then n else 2 * n)))
    (200 + b) 2 (u (200 + b) 2 - n)) (300 + wd) 1 (u (300 + wd) 1 + n)) (300 + wd) 4 (u (300 + wd) 4 + n)) 32 (u 30 4).toNatClampNeg si) 34 (u 30 4).toNatClampNeg bi) 36 (u 30 4).toNatClampNeg n) 38 (u 30 4).toNatClampNeg p) 30 4 (u 30 4 + 1)) 30 5 (u 30 5 + n)) 30 6 (u 30 6 + n * p)
theorem strC_eq {u : tV} {s b wd : Nat} {si bi : Int32} (hs : s < 20) (hb : b < 10) (hwd : wd < 6) (hsi : si.toNatClampNeg = s) (hbi : bi.toNatClampNeg = b) (hw : (u (200 + b) 0).toNatClampNeg = wd) (hc : u 30 4 < 30) {n p : Int32} (hn : (if u (200 + b) 2 < u (100 + s) 6 then u (200 + b) 2 else u (100 + s) 6) = n) (hp : (u (100 + s) 3 + u (200 + b) 3) / 2 = p) :
    f_X6_strike_1_30 u si bi = strC u s b wd si bi n p := by
  simp only [f_X6_strike_1_30, f_X7_deliver, f_X7_duesFor, f_X9_receive, f_X1_enter_30, bnd, hsi, hbi, hn, hp, strC]
  by_cases q : u (100 + s) 6 - n = 0
  · simp (disch := omega) only [up2_n, up2_s, if_pos q, hw, if_pos hc]
  · simp (disch := omega) only [up2_n, up2_s, if_neg q, hw, if_pos hc]
def strM (w : tV) (s b wd : Nat) (si bi n p : Int32) : tV :=
  up2 (up2 (up2 (up2 (up2 (up2 (up2 (up2 (up2 (up2 (up2 (up2 (up2 (up2 w 429 (w 400 27).toNatClampNeg si) 430 (w 400 27).toNatClampNeg bi) 431 (w 400 27).toNatClampNeg n) 432 (w 400 27).toNatClampNeg p) 400 27 (w 400 27 + 1)) 409 s (w 409 s - n)) 419 b (w 419 b - n)) 421 wd (w 421 wd + n)) 424 wd (w 424 wd + n)) 413 s (w 413 s + n)) 414 s (w 414 s + n * p)) 415 s (w 415 s + (if w 403 s = 2 then 1 else 2) * n)) 400 58 (w 400 58 + n)) 400 59 (w 400 59 + n * p)
theorem strM_eq {w : tV} {s b wd : Nat} {si bi : Int32} (hsi : si.toNatClampNeg = s) (hbi : bi.toNatClampNeg = b) (hw : (w 417 b).toNatClampNeg = wd) {n p : Int32} (hn : (if w 419 b ≤ w 409 s then w 419 b else w 409 s) = n) (hp : (w 406 s + w 420 b) / 2 = p) :
    f_X11_strike_400 w si bi = strM w s b wd si bi n p := by
  by_cases q : w 419 b ≤ w 409 s
  · rw [if_pos q] at hn
    simp only [f_X11_strike_400, f_X11_rate_400, bnd, hsi, hbi, hp, strM]
    rw [if_pos q]
    simp (disch := omega) only [up2_n, up2_s, hw, hn]
  · rw [if_neg q] at hn
    simp only [f_X11_strike_400, f_X11_rate_400, bnd, hsi, hbi, hp, strM]
    rw [if_neg q]
    simp (disch := omega) only [up2_n, up2_s, hw, hn]
/-- all is tied but the state of ship s -/
def RM (s : Nat) (u w : tV) : Prop := RelW (up2 u (100 + s) 7 0) (up2 w 410 s 0)
theorem RM.of {s : Nat} {u w : tV} (hs : s < 20) (h : RelW u w) : RM s u w := h.put_ship 0 hs (by omega) rfl rfl
theorem RM.all {s : Nat} {u w : tV} (hs : s < 20) (h : RM s u w) (e : u (100 + s) 7 = w 410 s) : RelW u w := by
  have := RelW.put_ship (s := s) (f := 7) (a := 100 + s) (c := 410) h (u (100 + s) 7) hs (by omega) rfl rfl
  rw [up2_up2, up2_up2, up2_id, e, up2_id] at this
  exact this
theorem RM.ship {s : Nat} {u w : tV} (h : RM s u w) {t f : Nat} (ht : t < 20) (hf : f ≤ 12) (hne : ¬ (t = s ∧ f = 7)) : u (100 + t) f = w (403 + f) t := by
  have := RelW.ship h t f ht hf
  rw [up2_n _ _ (by omega), up2_n _ _ (by omega)] at this
  exact this
theorem RM.buyer {s : Nat} (hs : s < 20) {u w : tV} (h : RM s u w) {t f : Nat} (ht : t < 10) (hf : f ≤ 3) : u (200 + t) f = w (417 + f) t := by
  have := RelW.buyer h t f ht hf
  rw [up2_n _ _ (by omega), up2_n _ _ (by omega)] at this
  exact this
theorem RM.ward {s : Nat} (hs : s < 20) {u w : tV} (h : RM s u w) {t f : Nat} (ht : t < 6) (h1 : 1 ≤ f) (hf : f ≤ 4) : u (300 + t) f = w (420 + f) t := by
  have := RelW.ward h t f ht h1 hf
  rw [up2_n _ _ (by omega), up2_n _ _ (by omega)] at this
  exact this
theorem RM.nb {s : Nat} {u w : tV} (h : RM s u w) : u 1 4 = w 400 15 := by
  have := RelW.nb h
  rw [up2_n _ _ (by omega), up2_n _ _ (by omega)] at this
  exact this
theorem RM.bg {s : Nat} {u w : tV} (h : RM s u w) : u 30 4 = w 400 27 := by
  have := RelW.bg h
  rw [up2_n _ _ (by omega), up2_n _ _ (by omega)] at this
  exact this
set_option maxHeartbeats 4000000 in
theorem strike_RM {u w : tV} {s b wd : Nat} {si bi n p : Int32} (hs : s < 20) (hb : b < 10) (hwd : wd < 6) (h : RM s u w) (hc0 : 0 ≤ (u 30 4).toInt) (hc : (u 30 4).toInt < 30) : RM s (strC u s b wd si bi n p) (strM w s b wd si bi n p) := by
  have hcl := clampI hc0
  have e0 := h.ship (t := s) (f := 0) hs (by omega) (by omega)
  have e6 := h.ship (t := s) (f := 6) hs (by omega) (by omega)
  have e10 := h.ship (t := s) (f := 10) hs (by omega) (by omega)
  have e11 := h.ship (t := s) (f := 11) hs (by omega) (by omega)
  have e12 := h.ship (t := s) (f := 12) hs (by omega) (by omega)
  have r6 : (if w 403 s = 2 then (1 : Int32) else 2) * n = if u (100 + s) 0 = 2 then n else 2 * n := by
    have e0' : w 403 s = u (100 + s) 0 := e0.symm
    rw [e0']
    by_cases q : u (100 + s) 0 = 2
    · rw [if_pos q, if_pos q, Int32.one_mul]
    · rw [if_neg q, if_neg q]
  unfold RM strM
  rw [r6, ← h.bg]
  have key : ∀ D : tV, (∀ a j, ¬ (a = 100 + s ∧ (j = 6 ∨ j = 7 ∨ j = 10 ∨ j = 11 ∨ j = 12)) → D a j = u a j) → D (100 + s) 6 = u (100 + s) 6 - n → D (100 + s) 10 = u (100 + s) 10 + n → D (100 + s) 11 = u (100 + s) 11 + n * p → D (100 + s) 12 = u (100 + s) 12 + (if u (100 + s) 0 = 2 then n else 2 * n) →
      RelW (up2 (up2 (up2 (up2 (up2 (up2 (up2 (up2 (up2 (up2 (up2 D (200 + b) 2 (u (200 + b) 2 - n)) (300 + wd) 1 (u (300 + wd) 1 + n)) (300 + wd) 4 (u (300 + wd) 4 + n)) 32 (u 30 4).toNatClampNeg si) 34 (u 30 4).toNatClampNeg bi) 36 (u 30 4).toNatClampNeg n) 38 (u 30 4).toNatClampNeg p) 30 4 (u 30 4 + 1)) 30 5 (u 30 5 + n)) 30 6 (u 30 6 + n * p)) (100 + s) 7 0)
        (up2 (up2 (up2 (up2 (up2 (up2 (up2 (up2 (up2 (up2 (up2 (up2 (up2 (up2 (up2 w 429 (u 30 4).toNatClampNeg si) 430 (u 30 4).toNatClampNeg bi) 431 (u 30 4).toNatClampNeg n) 432 (u 30 4).toNatClampNeg p) 400 27 (u 30 4 + 1)) 409 s (w 409 s - n)) 419 b (w 419 b - n)) 421 wd (w 421 wd + n)) 424 wd (w 424 wd + n)) 413 s (w 413 s + n)) 414 s (w 414 s + n * p)) 415 s (w 415 s + (if u (100 + s) 0 = 2 then n else 2 * n))) 400 58 (w 400 58 + n)) 400 59 (w 400 59 + n * p)) 410 s 0) := by
    intro D hD d6 d10 d11 d12
    refine ⟨fun t f ht hf => ?_, fun t f ht hf => ?_, fun t f ht h1 hf => ?_, fun t f ht hf => ?_, ?_, ?_, ?_, ?_, ?_, ?_, ?_, ?_, ?_, ?_⟩
    · by_cases q : t = s
      · subst q
        have hf2 : f = 0 ∨ f = 1 ∨ f = 2 ∨ f = 3 ∨ f = 4 ∨ f = 5 ∨ f = 6 ∨ f = 7 ∨ f = 8 ∨ f = 9 ∨ f = 10 ∨ f = 11 ∨ f = 12 := by omega
        rcases hf2 with rfl | rfl | rfl | rfl | rfl | rfl | rfl | rfl | rfl | rfl | rfl | rfl | rfl
        · simp (disch := omega) only [up2_n, hD]; exact h.ship ht (by omega) (by omega)
        · simp (disch := omega) only [up2_n, hD]; exact h.ship ht (by omega) (by omega)
        · simp (disch := omega) only [up2_n, hD]; exact h.ship ht (by omega) (by omega)
        · simp (disch := omega) only [up2_n, hD]; exact h.ship ht (by omega) (by omega)
        · simp (disch := omega) only [up2_n, hD]; exact h.ship ht (by omega) (by omega)
        · simp (disch := omega) only [up2_n, hD]; exact h.ship ht (by omega) (by omega)
        · simp (disch := omega) only [up2_n, up2_s, Nat.reduceAdd, d6]; rw [e6]
        · simp (disch := omega) only [up2_n, up2_s, Nat.reduceAdd]
        · simp (disch := omega) only [up2_n, hD]; exact h.ship ht (by omega) (by omega)
        · simp (disch := omega) only [up2_n, hD]; exact h.ship ht (by omega) (by omega)
        · simp (disch := omega) only [up2_n, up2_s, Nat.reduceAdd, d10]; rw [e10]
        · simp (disch := omega) only [up2_n, up2_s, Nat.reduceAdd, d11]; rw [e11]
        · simp (disch := omega) only [up2_n, up2_s, Nat.reduceAdd, d12]; rw [e12]
      · simp (disch := omega) only [up2_n, hD]; exact h.ship ht hf (by omega)
    · by_cases q : t = b
      · subst q
        have hf2 : f = 0 ∨ f = 1 ∨ f = 2 ∨ f = 3 := by omega
        rcases hf2 with rfl | rfl | rfl | rfl
        · simp (disch := omega) only [up2_n, hD]; exact h.buyer hs ht (by omega)
        · simp (disch := omega) only [up2_n, hD]; exact h.buyer hs ht (by omega)
        · simp (disch := omega) only [up2_n, up2_s, Nat.reduceAdd]; rw [h.buyer hs ht (by omega)]
        · simp (disch := omega) only [up2_n, hD]; exact h.buyer hs ht (by omega)
      · simp (disch := omega) only [up2_n, hD]; exact h.buyer hs ht hf
    · by_cases q : t = wd
      · subst q
        have hf2 : f = 1 ∨ f = 2 ∨ f = 3 ∨ f = 4 := by omega
        rcases hf2 with rfl | rfl | rfl | rfl
        · simp (disch := omega) only [up2_n, up2_s, Nat.reduceAdd]; rw [h.ward hs ht (by omega) (by omega)]
        · simp (disch := omega) only [up2_n, hD]; exact h.ward hs ht (by omega) (by omega)
        · simp (disch := omega) only [up2_n, hD]; exact h.ward hs ht (by omega) (by omega)
        · simp (disch := omega) only [up2_n, up2_s, Nat.reduceAdd]; rw [h.ward hs ht (by omega) (by omega)]
      · simp (disch := omega) only [up2_n, hD]; exact h.ward hs ht h1 hf
    · have := RelW.burn h t f ht hf
      rw [up2_n _ _ (by omega), up2_n _ _ (by omega)] at this
      simp (disch := omega) only [up2_n, hD]; exact this
    · have := RelW.n h
      rw [up2_n _ _ (by omega), up2_n _ _ (by omega)] at this
      simp (disch := omega) only [up2_n, hD]; exact this
    · simp (disch := omega) only [up2_n, hD]; exact h.nb
    · have := RelW.le h
      rw [up2_n _ _ (by omega), up2_n _ _ (by omega)] at this
      simp (disch := omega) only [up2_n, hD]; exact this
    · have := RelW.mo h
      rw [up2_n _ _ (by omega), up2_n _ _ (by omega)] at this
      simp (disch := omega) only [up2_n, hD]; exact this
    · have := RelW.no h
      rw [up2_n _ _ (by omega), up2_n _ _ (by omega)] at this
      simp (disch := omega) only [up2_n, hD]; exact this
    · have := RelW.nt h
      rw [up2_n _ _ (by omega), up2_n _ _ (by omega)] at this
      simp (disch := omega) only [up2_n, hD]; exact this
    · have := RelW.to h
      rw [up2_n _ _ (by omega), up2_n _ _ (by omega)] at this
      simp (disch := omega) only [up2_n, hD]; exact this
    · have := RelW.pr h
      rw [up2_n _ _ (by omega), up2_n _ _ (by omega)] at this
      simp (disch := omega) only [up2_n, hD]; exact this
    · have := RelW.mk h
      rw [up2_n _ _ (by omega), up2_n _ _ (by omega)] at this
      simp (disch := omega) only [up2_n, hD]; exact this
    · simp (disch := omega) only [up2_n, up2_s]
  unfold strC
  by_cases q : u (100 + s) 6 - n = 0
  · rw [if_pos q]
    exact key _ (fun a j z => by rw [up2_n _ _ (by omega), up2_n _ _ (by omega), up2_n _ _ (by omega), up2_n _ _ (by omega), up2_n _ _ (by omega)]) (by simp (disch := omega) only [up2_n, up2_s]) (by simp (disch := omega) only [up2_n, up2_s]) (by simp (disch := omega) only [up2_n, up2_s]) (by simp (disch := omega) only [up2_n, up2_s])
  · rw [if_neg q]
    exact key _ (fun a j z => by rw [up2_n _ _ (by omega), up2_n _ _ (by omega), up2_n _ _ (by omega), up2_n _ _ (by omega)]) (by simp (disch := omega) only [up2_n, up2_s]) (by simp (disch := omega) only [up2_n, up2_s]) (by simp (disch := omega) only [up2_n, up2_s]) (by simp (disch := omega) only [up2_n, up2_s])
