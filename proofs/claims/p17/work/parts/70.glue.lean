def RelS (v : tV) : Prop := RelX v v ∧ RelB v v ∧ WF 999 v
theorem RelB.kp {u w u1 w1 : tV} (h : RelB u w) (h0 : u1 30 4 = u 30 4) (h1 : ∀ a i, a = 32 ∨ a = 34 ∨ a = 36 ∨ a = 38 → u1 a i = u a i) (h2 : ∀ a i, 429 ≤ a ∧ a ≤ 432 → w1 a i = w a i) : RelB u1 w1 := fun i hi => by
  rw [h0] at hi
  rw [h1 32 i (by omega), h1 34 i (by omega), h1 36 i (by omega), h1 38 i (by omega), h2 429 i (by omega), h2 430 i (by omega), h2 431 i (by omega), h2 432 i (by omega)]
  exact h i hi
theorem wf_v0 : WF 999 v0 := by
  have z0 : (0 : Int32).toInt = 0 := rfl
  have e : ∀ k j, 100 ≤ k → k < 330 → v0 k j = 0 := fun k j h1 h2 => by
    unfold v0
    repeat rw [if_neg (by omega)]
  refine ⟨⟨fun s hs => ?_, by decide, by decide⟩, ⟨fun t ht => ?_, fun b hb => ?_, fun b hb => ?_⟩, fun s f hs hf => ?_⟩
  · rw [e _ 3 (by omega) (by omega), e _ 6 (by omega) (by omega), e _ 8 (by omega) (by omega), z0]; omega
  · rw [e _ 6 (by omega) (by omega), e _ 7 (by omega) (by omega), z0]
    exact ⟨by omega, by omega, by omega, by omega, fun _ => by decide, fun z => absurd z (Nat.not_lt_zero t)⟩
  · rw [e _ 2 (by omega) (by omega), z0]; omega
  · rw [e _ 0 (by omega) (by omega), z0]; omega
  · rw [e _ f (by omega) (by omega), z0]; omega
theorem rel_v0 : RelS v0 := ⟨⟨⟨fun s f c0 c1 => by unfold v0; rw [if_neg (by omega), if_neg (by omega), if_neg (by omega), if_neg (by omega), if_neg (by omega), if_neg (by omega), if_neg (by omega), if_neg (by omega)], fun s f c0 c1 => by unfold v0; rw [if_neg (by omega), if_neg (by omega), if_neg (by omega), if_neg (by omega), if_neg (by omega), if_neg (by omega), if_neg (by omega), if_neg (by omega)], fun s f c0 c1 c2 => by unfold v0; rw [if_neg (by omega), if_neg (by omega), if_neg (by omega), if_neg (by omega), if_neg (by omega), if_neg (by omega), if_neg (by omega), if_neg (by omega)], fun s f c0 c1 => by unfold v0; rw [if_neg (by omega), if_neg (by omega), if_neg (by omega), if_neg (by omega), if_neg (by omega), if_neg (by omega), if_neg (by omega), if_neg (by omega)], rfl, rfl, rfl, rfl, rfl, rfl, rfl, rfl, rfl, rfl⟩, fun i hi => absurd hi (Nat.not_lt_zero i), fun i hi => absurd hi (Nat.not_lt_zero i), rfl, rfl, rfl⟩, fun i hi => absurd hi (Nat.not_lt_zero i), wf_v0⟩
theorem stR {v : tV} (h : RelS v) : ∀ s, s < 20 → 0 ≤ (v (100 + s) 7).toInt := fun s hs => (h.2.2.2.1.1 s hs).2.2.1
theorem rel_ship {v v1 v2 : tV} {r1 r2 : Int32} (kd : Int32) (so : Int32) (lo : Int32) (ak : Int32) (fa : Int32) (wy : Int32) (hI : Inv v) (hR : RelS v) (hI1 : Inv v1) (hK1 : Kp (kp_X10_ship_0 kd so lo ak fa wy) v v1) (hE1 : (r1, v1) = f_X10_ship_0 v kd so lo ak fa wy) (hI2 : Inv v2) (hK2 : Kp (kp_X11_ship_400 kd so lo ak fa wy) v1 v2) (hE2 : (r2, v2) = f_X11_ship_400 v1 kd so lo ak fa wy) : RelS v2 := by
  have hst := stR hR
  have g1 : RelW v v1 := RelW.cong hR.1.1 (fun a j h => rfl) (fun a j h => hK1 a j (by unfold kp_X10_ship_0; omega))
  have hs := sim_ship g1 hI kd so lo ak fa wy
  rw [← hE1, ← hE2] at hs
  have hf := wf_ship hR.2.2 hI kd so lo ak fa wy
  rw [← hE1] at hf
  have g : ∀ a j, kp_X10_ship_0 kd so lo ak fa wy a j → kp_X11_ship_400 kd so lo ak fa wy a j → v2 a j = v a j := fun a j h1 h2 => (hK2 a j h2).trans (hK1 a j h1)
  exact ⟨⟨RelW.cong hs.1 (fun a j h => hK2 a j (by unfold kp_X11_ship_400; omega)) (fun a j h => rfl), hR.1.2.1.kp (g _ _ (by unfold kp_X10_ship_0; omega) (by unfold kp_X11_ship_400; omega)) (fun i => g _ _ (by unfold kp_X10_ship_0; omega) (by unfold kp_X11_ship_400; omega)) (fun i => g _ _ (by unfold kp_X10_ship_0; omega) (by unfold kp_X11_ship_400; omega)), hR.1.2.2.kp (g _ _ (by unfold kp_X10_ship_0; omega) (by unfold kp_X11_ship_400; omega)) (fun a j q => g _ _ (by unfold kp_X10_ship_0; omega) (by unfold kp_X11_ship_400; omega)) (fun a j q => g _ _ (by unfold kp_X10_ship_0; omega) (by unfold kp_X11_ship_400; omega)) (hI 50 2 0 8 rfl).2⟩, hR.2.1.kp (g _ _ (by unfold kp_X10_ship_0; omega) (by unfold kp_X11_ship_400; omega)) (fun a j q => g _ _ (by unfold kp_X10_ship_0; omega) (by unfold kp_X11_ship_400; omega)) (fun a j q => g _ _ (by unfold kp_X10_ship_0; omega) (by unfold kp_X11_ship_400; omega)), (WF.of (u := v1) hf (fun s f hs => hK2 _ _ (by unfold kp_X11_ship_400; omega)) (fun s f hs => hK2 _ _ (by unfold kp_X11_ship_400; omega)) (fun s f hs => hK2 _ _ (by unfold kp_X11_ship_400; omega)) (hK2 _ _ (by unfold kp_X11_ship_400; omega)) (hK2 _ _ (by unfold kp_X11_ship_400; omega)))⟩
theorem ans_ship {v v1 v2 : tV} {r1 r2 : Int32} (kd : Int32) (so : Int32) (lo : Int32) (ak : Int32) (fa : Int32) (wy : Int32) (hI : Inv v) (hR : RelS v) (hI1 : Inv v1) (hK1 : Kp (kp_X10_ship_0 kd so lo ak fa wy) v v1) (hE1 : (r1, v1) = f_X10_ship_0 v kd so lo ak fa wy) (hI2 : Inv v2) (hK2 : Kp (kp_X11_ship_400 kd so lo ak fa wy) v1 v2) (hE2 : (r2, v2) = f_X11_ship_400 v1 kd so lo ak fa wy) : r1 = r2 := by
  have hst := stR hR
  have g1 : RelW v v1 := RelW.cong hR.1.1 (fun a j h => rfl) (fun a j h => hK1 a j (by unfold kp_X10_ship_0; omega))
  have hs := sim_ship g1 hI kd so lo ak fa wy
  rw [← hE1, ← hE2] at hs
  exact hs.2
theorem rel_ask {v v1 v2 : tV} {r1 r2 : Int32} (si : Int32) (ak : Int32) (hI : Inv v) (hR : RelS v) (hI1 : Inv v1) (hK1 : Kp (kp_X10_ask_0 si ak) v v1) (hE1 : (r1, v1) = f_X10_ask_0 v si ak) (hI2 : Inv v2) (hK2 : Kp (kp_X11_ask_400 si ak) v1 v2) (hE2 : (r2, v2) = f_X11_ask_400 v1 si ak) : RelS v2 := by
  have hst := stR hR
  have g1 : RelW v v1 := RelW.cong hR.1.1 (fun a j h => rfl) (fun a j h => hK1 a j (by unfold kp_X10_ask_0; omega))
  have hs := sim_ask g1 hI si ak
  rw [← hE1, ← hE2] at hs
  have hf := wf_ask hR.2.2 hI si ak
  rw [← hE1] at hf
  have g : ∀ a j, kp_X10_ask_0 si ak a j → kp_X11_ask_400 si ak a j → v2 a j = v a j := fun a j h1 h2 => (hK2 a j h2).trans (hK1 a j h1)
  exact ⟨⟨RelW.cong hs.1 (fun a j h => hK2 a j (by unfold kp_X11_ask_400; omega)) (fun a j h => rfl), hR.1.2.1.kp (g _ _ (by unfold kp_X10_ask_0; omega) (by unfold kp_X11_ask_400; omega)) (fun i => g _ _ (by unfold kp_X10_ask_0; omega) (by unfold kp_X11_ask_400; omega)) (fun i => g _ _ (by unfold kp_X10_ask_0; omega) (by unfold kp_X11_ask_400; omega)), hR.1.2.2.kp (g _ _ (by unfold kp_X10_ask_0; omega) (by unfold kp_X11_ask_400; omega)) (fun a j q => g _ _ (by unfold kp_X10_ask_0; omega) (by unfold kp_X11_ask_400; omega)) (fun a j q => g _ _ (by unfold kp_X10_ask_0; omega) (by unfold kp_X11_ask_400; omega)) (hI 50 2 0 8 rfl).2⟩, hR.2.1.kp (g _ _ (by unfold kp_X10_ask_0; omega) (by unfold kp_X11_ask_400; omega)) (fun a j q => g _ _ (by unfold kp_X10_ask_0; omega) (by unfold kp_X11_ask_400; omega)) (fun a j q => g _ _ (by unfold kp_X10_ask_0; omega) (by unfold kp_X11_ask_400; omega)), (WF.of (u := v1) hf (fun s f hs => hK2 _ _ (by unfold kp_X11_ask_400; omega)) (fun s f hs => hK2 _ _ (by unfold kp_X11_ask_400; omega)) (fun s f hs => hK2 _ _ (by unfold kp_X11_ask_400; omega)) (hK2 _ _ (by unfold kp_X11_ask_400; omega)) (hK2 _ _ (by unfold kp_X11_ask_400; omega)))⟩
theorem ans_ask {v v1 v2 : tV} {r1 r2 : Int32} (si : Int32) (ak : Int32) (hI : Inv v) (hR : RelS v) (hI1 : Inv v1) (hK1 : Kp (kp_X10_ask_0 si ak) v v1) (hE1 : (r1, v1) = f_X10_ask_0 v si ak) (hI2 : Inv v2) (hK2 : Kp (kp_X11_ask_400 si ak) v1 v2) (hE2 : (r2, v2) = f_X11_ask_400 v1 si ak) : r1 = r2 := by
  have hst := stR hR
  have g1 : RelW v v1 := RelW.cong hR.1.1 (fun a j h => rfl) (fun a j h => hK1 a j (by unfold kp_X10_ask_0; omega))
  have hs := sim_ask g1 hI si ak
  rw [← hE1, ← hE2] at hs
  exact hs.2
theorem rel_wreck {v v1 v2 : tV} {r1 r2 : Int32} (si : Int32) (sv : Int32) (hI : Inv v) (hR : RelS v) (hI1 : Inv v1) (hK1 : Kp (kp_X10_wreck_0 si sv) v v1) (hE1 : (r1, v1) = f_X10_wreck_0 v si sv) (hI2 : Inv v2) (hK2 : Kp (kp_X11_wreck_400 si sv) v1 v2) (hE2 : (r2, v2) = f_X11_wreck_400 v1 si sv) : RelS v2 := by
  have hst := stR hR
  have g1 : RelW v v1 := RelW.cong hR.1.1 (fun a j h => rfl) (fun a j h => hK1 a j (by unfold kp_X10_wreck_0; omega))
  have hs := sim_wreck g1 hI hst si sv
  rw [← hE1, ← hE2] at hs
  have hf := wf_wreck hR.2.2 hI si sv
  rw [← hE1] at hf
  have g : ∀ a j, kp_X10_wreck_0 si sv a j → kp_X11_wreck_400 si sv a j → v2 a j = v a j := fun a j h1 h2 => (hK2 a j h2).trans (hK1 a j h1)
  exact ⟨⟨RelW.cong hs.1 (fun a j h => hK2 a j (by unfold kp_X11_wreck_400; omega)) (fun a j h => rfl), hR.1.2.1.kp (g _ _ (by unfold kp_X10_wreck_0; omega) (by unfold kp_X11_wreck_400; omega)) (fun i => g _ _ (by unfold kp_X10_wreck_0; omega) (by unfold kp_X11_wreck_400; omega)) (fun i => g _ _ (by unfold kp_X10_wreck_0; omega) (by unfold kp_X11_wreck_400; omega)), hR.1.2.2.kp (g _ _ (by unfold kp_X10_wreck_0; omega) (by unfold kp_X11_wreck_400; omega)) (fun a j q => g _ _ (by unfold kp_X10_wreck_0; omega) (by unfold kp_X11_wreck_400; omega)) (fun a j q => g _ _ (by unfold kp_X10_wreck_0; omega) (by unfold kp_X11_wreck_400; omega)) (hI 50 2 0 8 rfl).2⟩, hR.2.1.kp (g _ _ (by unfold kp_X10_wreck_0; omega) (by unfold kp_X11_wreck_400; omega)) (fun a j q => g _ _ (by unfold kp_X10_wreck_0; omega) (by unfold kp_X11_wreck_400; omega)) (fun a j q => g _ _ (by unfold kp_X10_wreck_0; omega) (by unfold kp_X11_wreck_400; omega)), (WF.of (u := v1) hf (fun s f hs => hK2 _ _ (by unfold kp_X11_wreck_400; omega)) (fun s f hs => hK2 _ _ (by unfold kp_X11_wreck_400; omega)) (fun s f hs => hK2 _ _ (by unfold kp_X11_wreck_400; omega)) (hK2 _ _ (by unfold kp_X11_wreck_400; omega)) (hK2 _ _ (by unfold kp_X11_wreck_400; omega)))⟩
theorem ans_wreck {v v1 v2 : tV} {r1 r2 : Int32} (si : Int32) (sv : Int32) (hI : Inv v) (hR : RelS v) (hI1 : Inv v1) (hK1 : Kp (kp_X10_wreck_0 si sv) v v1) (hE1 : (r1, v1) = f_X10_wreck_0 v si sv) (hI2 : Inv v2) (hK2 : Kp (kp_X11_wreck_400 si sv) v1 v2) (hE2 : (r2, v2) = f_X11_wreck_400 v1 si sv) : r1 = r2 := by
  have hst := stR hR
  have g1 : RelW v v1 := RelW.cong hR.1.1 (fun a j h => rfl) (fun a j h => hK1 a j (by unfold kp_X10_wreck_0; omega))
  have hs := sim_wreck g1 hI hst si sv
  rw [← hE1, ← hE2] at hs
  exact hs.2
theorem rel_goOn {v v1 v2 : tV} {r1 r2 : Int32} (si : Int32) (hI : Inv v) (hR : RelS v) (hI1 : Inv v1) (hK1 : Kp (kp_X10_goOn_0 si) v v1) (hE1 : (r1, v1) = f_X10_goOn_0 v si) (hI2 : Inv v2) (hK2 : Kp (kp_X11_goOn_400 si) v1 v2) (hE2 : (r2, v2) = f_X11_goOn_400 v1 si) : RelS v2 := by
  have hst := stR hR
  have g1 : RelW v v1 := RelW.cong hR.1.1 (fun a j h => rfl) (fun a j h => hK1 a j (by unfold kp_X10_goOn_0; omega))
  have hs := sim_goOn g1 hI si
  rw [← hE1, ← hE2] at hs
  have hf := wf_goOn hR.2.2 hI si
  rw [← hE1] at hf
  have g : ∀ a j, kp_X10_goOn_0 si a j → kp_X11_goOn_400 si a j → v2 a j = v a j := fun a j h1 h2 => (hK2 a j h2).trans (hK1 a j h1)
  exact ⟨⟨RelW.cong hs.1 (fun a j h => hK2 a j (by unfold kp_X11_goOn_400; omega)) (fun a j h => rfl), hR.1.2.1.kp (g _ _ (by unfold kp_X10_goOn_0; omega) (by unfold kp_X11_goOn_400; omega)) (fun i => g _ _ (by unfold kp_X10_goOn_0; omega) (by unfold kp_X11_goOn_400; omega)) (fun i => g _ _ (by unfold kp_X10_goOn_0; omega) (by unfold kp_X11_goOn_400; omega)), hR.1.2.2.kp (g _ _ (by unfold kp_X10_goOn_0; omega) (by unfold kp_X11_goOn_400; omega)) (fun a j q => g _ _ (by unfold kp_X10_goOn_0; omega) (by unfold kp_X11_goOn_400; omega)) (fun a j q => g _ _ (by unfold kp_X10_goOn_0; omega) (by unfold kp_X11_goOn_400; omega)) (hI 50 2 0 8 rfl).2⟩, hR.2.1.kp (g _ _ (by unfold kp_X10_goOn_0; omega) (by unfold kp_X11_goOn_400; omega)) (fun a j q => g _ _ (by unfold kp_X10_goOn_0; omega) (by unfold kp_X11_goOn_400; omega)) (fun a j q => g _ _ (by unfold kp_X10_goOn_0; omega) (by unfold kp_X11_goOn_400; omega)), (WF.of (u := v1) hf (fun s f hs => hK2 _ _ (by unfold kp_X11_goOn_400; omega)) (fun s f hs => hK2 _ _ (by unfold kp_X11_goOn_400; omega)) (fun s f hs => hK2 _ _ (by unfold kp_X11_goOn_400; omega)) (hK2 _ _ (by unfold kp_X11_goOn_400; omega)) (hK2 _ _ (by unfold kp_X11_goOn_400; omega)))⟩
theorem ans_goOn {v v1 v2 : tV} {r1 r2 : Int32} (si : Int32) (hI : Inv v) (hR : RelS v) (hI1 : Inv v1) (hK1 : Kp (kp_X10_goOn_0 si) v v1) (hE1 : (r1, v1) = f_X10_goOn_0 v si) (hI2 : Inv v2) (hK2 : Kp (kp_X11_goOn_400 si) v1 v2) (hE2 : (r2, v2) = f_X11_goOn_400 v1 si) : r1 = r2 := by
  have hst := stR hR
  have g1 : RelW v v1 := RelW.cong hR.1.1 (fun a j h => rfl) (fun a j h => hK1 a j (by unfold kp_X10_goOn_0; omega))
  have hs := sim_goOn g1 hI si
  rw [← hE1, ← hE2] at hs
  exact hs.2
theorem rel_buyer {v v1 v2 : tV} {r1 r2 : Int32} (wd : Int32) (so : Int32) (wt : Int32) (bd : Int32) (hI : Inv v) (hR : RelS v) (hI1 : Inv v1) (hK1 : Kp (kp_X10_buyer_0 wd so wt bd) v v1) (hE1 : (r1, v1) = f_X10_buyer_0 v wd so wt bd) (hI2 : Inv v2) (hK2 : Kp (kp_X11_buyer_400 wd so wt bd) v1 v2) (hE2 : (r2, v2) = f_X11_buyer_400 v1 wd so wt bd) : RelS v2 := by
  have hst := stR hR
  have g1 : RelW v v1 := RelW.cong hR.1.1 (fun a j h => rfl) (fun a j h => hK1 a j (by unfold kp_X10_buyer_0; omega))
  have hs := sim_buyer g1 hI wd so wt bd
  rw [← hE1, ← hE2] at hs
  have hf := wf_buyer hR.2.2 hI wd so wt bd
  rw [← hE1] at hf
  have g : ∀ a j, kp_X10_buyer_0 wd so wt bd a j → kp_X11_buyer_400 wd so wt bd a j → v2 a j = v a j := fun a j h1 h2 => (hK2 a j h2).trans (hK1 a j h1)
  exact ⟨⟨RelW.cong hs.1 (fun a j h => hK2 a j (by unfold kp_X11_buyer_400; omega)) (fun a j h => rfl), hR.1.2.1.kp (g _ _ (by unfold kp_X10_buyer_0; omega) (by unfold kp_X11_buyer_400; omega)) (fun i => g _ _ (by unfold kp_X10_buyer_0; omega) (by unfold kp_X11_buyer_400; omega)) (fun i => g _ _ (by unfold kp_X10_buyer_0; omega) (by unfold kp_X11_buyer_400; omega)), hR.1.2.2.kp (g _ _ (by unfold kp_X10_buyer_0; omega) (by unfold kp_X11_buyer_400; omega)) (fun a j q => g _ _ (by unfold kp_X10_buyer_0; omega) (by unfold kp_X11_buyer_400; omega)) (fun a j q => g _ _ (by unfold kp_X10_buyer_0; omega) (by unfold kp_X11_buyer_400; omega)) (hI 50 2 0 8 rfl).2⟩, hR.2.1.kp (g _ _ (by unfold kp_X10_buyer_0; omega) (by unfold kp_X11_buyer_400; omega)) (fun a j q => g _ _ (by unfold kp_X10_buyer_0; omega) (by unfold kp_X11_buyer_400; omega)) (fun a j q => g _ _ (by unfold kp_X10_buyer_0; omega) (by unfold kp_X11_buyer_400; omega)), (WF.of (u := v1) hf (fun s f hs => hK2 _ _ (by unfold kp_X11_buyer_400; omega)) (fun s f hs => hK2 _ _ (by unfold kp_X11_buyer_400; omega)) (fun s f hs => hK2 _ _ (by unfold kp_X11_buyer_400; omega)) (hK2 _ _ (by unfold kp_X11_buyer_400; omega)) (hK2 _ _ (by unfold kp_X11_buyer_400; omega)))⟩
theorem ans_buyer {v v1 v2 : tV} {r1 r2 : Int32} (wd : Int32) (so : Int32) (wt : Int32) (bd : Int32) (hI : Inv v) (hR : RelS v) (hI1 : Inv v1) (hK1 : Kp (kp_X10_buyer_0 wd so wt bd) v v1) (hE1 : (r1, v1) = f_X10_buyer_0 v wd so wt bd) (hI2 : Inv v2) (hK2 : Kp (kp_X11_buyer_400 wd so wt bd) v1 v2) (hE2 : (r2, v2) = f_X11_buyer_400 v1 wd so wt bd) : r1 = r2 := by
  have hst := stR hR
  have g1 : RelW v v1 := RelW.cong hR.1.1 (fun a j h => rfl) (fun a j h => hK1 a j (by unfold kp_X10_buyer_0; omega))
  have hs := sim_buyer g1 hI wd so wt bd
  rw [← hE1, ← hE2] at hs
  exact hs.2
theorem rel_want {v v1 v2 : tV} {r1 r2 : Int32} (bi : Int32) (wt : Int32) (bd : Int32) (hI : Inv v) (hR : RelS v) (hI1 : Inv v1) (hK1 : Kp (kp_X10_want_0 bi wt bd) v v1) (hE1 : (r1, v1) = f_X10_want_0 v bi wt bd) (hI2 : Inv v2) (hK2 : Kp (kp_X11_want_400 bi wt bd) v1 v2) (hE2 : (r2, v2) = f_X11_want_400 v1 bi wt bd) : RelS v2 := by
  have hst := stR hR
  have g1 : RelW v v1 := RelW.cong hR.1.1 (fun a j h => rfl) (fun a j h => hK1 a j (by unfold kp_X10_want_0; omega))
  have hs := sim_want g1 hI bi wt bd
  rw [← hE1, ← hE2] at hs
  have hf := wf_want hR.2.2 hI bi wt bd
  rw [← hE1] at hf
  have g : ∀ a j, kp_X10_want_0 bi wt bd a j → kp_X11_want_400 bi wt bd a j → v2 a j = v a j := fun a j h1 h2 => (hK2 a j h2).trans (hK1 a j h1)
  exact ⟨⟨RelW.cong hs.1 (fun a j h => hK2 a j (by unfold kp_X11_want_400; omega)) (fun a j h => rfl), hR.1.2.1.kp (g _ _ (by unfold kp_X10_want_0; omega) (by unfold kp_X11_want_400; omega)) (fun i => g _ _ (by unfold kp_X10_want_0; omega) (by unfold kp_X11_want_400; omega)) (fun i => g _ _ (by unfold kp_X10_want_0; omega) (by unfold kp_X11_want_400; omega)), hR.1.2.2.kp (g _ _ (by unfold kp_X10_want_0; omega) (by unfold kp_X11_want_400; omega)) (fun a j q => g _ _ (by unfold kp_X10_want_0; omega) (by unfold kp_X11_want_400; omega)) (fun a j q => g _ _ (by unfold kp_X10_want_0; omega) (by unfold kp_X11_want_400; omega)) (hI 50 2 0 8 rfl).2⟩, hR.2.1.kp (g _ _ (by unfold kp_X10_want_0; omega) (by unfold kp_X11_want_400; omega)) (fun a j q => g _ _ (by unfold kp_X10_want_0; omega) (by unfold kp_X11_want_400; omega)) (fun a j q => g _ _ (by unfold kp_X10_want_0; omega) (by unfold kp_X11_want_400; omega)), (WF.of (u := v1) hf (fun s f hs => hK2 _ _ (by unfold kp_X11_want_400; omega)) (fun s f hs => hK2 _ _ (by unfold kp_X11_want_400; omega)) (fun s f hs => hK2 _ _ (by unfold kp_X11_want_400; omega)) (hK2 _ _ (by unfold kp_X11_want_400; omega)) (hK2 _ _ (by unfold kp_X11_want_400; omega)))⟩
theorem ans_want {v v1 v2 : tV} {r1 r2 : Int32} (bi : Int32) (wt : Int32) (bd : Int32) (hI : Inv v) (hR : RelS v) (hI1 : Inv v1) (hK1 : Kp (kp_X10_want_0 bi wt bd) v v1) (hE1 : (r1, v1) = f_X10_want_0 v bi wt bd) (hI2 : Inv v2) (hK2 : Kp (kp_X11_want_400 bi wt bd) v1 v2) (hE2 : (r2, v2) = f_X11_want_400 v1 bi wt bd) : r1 = r2 := by
  have hst := stR hR
  have g1 : RelW v v1 := RelW.cong hR.1.1 (fun a j h => rfl) (fun a j h => hK1 a j (by unfold kp_X10_want_0; omega))
  have hs := sim_want g1 hI bi wt bd
  rw [← hE1, ← hE2] at hs
  exact hs.2
theorem rel_burn {v v1 v2 : tV} {r1 r2 : Int32} (wd : Int32) (co : Int32) (am : Int32) (hI : Inv v) (hR : RelS v) (hI1 : Inv v1) (hK1 : Kp (kp_X10_burn_0 wd co am) v v1) (hE1 : (r1, v1) = f_X10_burn_0 v wd co am) (hI2 : Inv v2) (hK2 : Kp (kp_X11_burn_400 wd co am) v1 v2) (hE2 : (r2, v2) = f_X11_burn_400 v1 wd co am) : RelS v2 := by
  have hst := stR hR
  have g1 : RelW v v1 := RelW.cong hR.1.1 (fun a j h => rfl) (fun a j h => hK1 a j (by unfold kp_X10_burn_0; omega))
  have hs := sim_burn g1 wd co am
  rw [← hE1, ← hE2] at hs
  have hf := wf_burn hR.2.2 wd co am
  rw [← hE1] at hf
  have g : ∀ a j, kp_X10_burn_0 wd co am a j → kp_X11_burn_400 wd co am a j → v2 a j = v a j := fun a j h1 h2 => (hK2 a j h2).trans (hK1 a j h1)
  exact ⟨⟨RelW.cong hs.1 (fun a j h => hK2 a j (by unfold kp_X11_burn_400; omega)) (fun a j h => rfl), hR.1.2.1.kp (g _ _ (by unfold kp_X10_burn_0; omega) (by unfold kp_X11_burn_400; omega)) (fun i => g _ _ (by unfold kp_X10_burn_0; omega) (by unfold kp_X11_burn_400; omega)) (fun i => g _ _ (by unfold kp_X10_burn_0; omega) (by unfold kp_X11_burn_400; omega)), hR.1.2.2.kp (g _ _ (by unfold kp_X10_burn_0; omega) (by unfold kp_X11_burn_400; omega)) (fun a j q => g _ _ (by unfold kp_X10_burn_0; omega) (by unfold kp_X11_burn_400; omega)) (fun a j q => g _ _ (by unfold kp_X10_burn_0; omega) (by unfold kp_X11_burn_400; omega)) (hI 50 2 0 8 rfl).2⟩, hR.2.1.kp (g _ _ (by unfold kp_X10_burn_0; omega) (by unfold kp_X11_burn_400; omega)) (fun a j q => g _ _ (by unfold kp_X10_burn_0; omega) (by unfold kp_X11_burn_400; omega)) (fun a j q => g _ _ (by unfold kp_X10_burn_0; omega) (by unfold kp_X11_burn_400; omega)), (WF.of (u := v1) hf (fun s f hs => hK2 _ _ (by unfold kp_X11_burn_400; omega)) (fun s f hs => hK2 _ _ (by unfold kp_X11_burn_400; omega)) (fun s f hs => hK2 _ _ (by unfold kp_X11_burn_400; omega)) (hK2 _ _ (by unfold kp_X11_burn_400; omega)) (hK2 _ _ (by unfold kp_X11_burn_400; omega)))⟩
theorem ans_burn {v v1 v2 : tV} {r1 r2 : Int32} (wd : Int32) (co : Int32) (am : Int32) (hI : Inv v) (hR : RelS v) (hI1 : Inv v1) (hK1 : Kp (kp_X10_burn_0 wd co am) v v1) (hE1 : (r1, v1) = f_X10_burn_0 v wd co am) (hI2 : Inv v2) (hK2 : Kp (kp_X11_burn_400 wd co am) v1 v2) (hE2 : (r2, v2) = f_X11_burn_400 v1 wd co am) : r1 = r2 := by
  have hst := stR hR
  have g1 : RelW v v1 := RelW.cong hR.1.1 (fun a j h => rfl) (fun a j h => hK1 a j (by unfold kp_X10_burn_0; omega))
  have hs := sim_burn g1 wd co am
  rw [← hE1, ← hE2] at hs
  exact hs.2
theorem rel_store {v v1 v2 : tV} {r1 r2 : Int32} (wd : Int32) (mo : Int32) (hI : Inv v) (hR : RelS v) (hI1 : Inv v1) (hK1 : Kp (kp_X10_store_0 wd mo) v v1) (hE1 : (r1, v1) = f_X10_store_0 v wd mo) (hI2 : Inv v2) (hK2 : Kp (kp_X11_store_400 wd mo) v1 v2) (hE2 : (r2, v2) = f_X11_store_400 v1 wd mo) : RelS v2 := by
  have hst := stR hR
  have g1 : RelW v v1 := RelW.cong hR.1.1 (fun a j h => rfl) (fun a j h => hK1 a j (by unfold kp_X10_store_0; omega))
  have hs := sim_store g1 wd mo
  rw [← hE1, ← hE2] at hs
  have hf := wf_store hR.2.2 wd mo
  rw [← hE1] at hf
  have g : ∀ a j, kp_X10_store_0 wd mo a j → kp_X11_store_400 wd mo a j → v2 a j = v a j := fun a j h1 h2 => (hK2 a j h2).trans (hK1 a j h1)
  exact ⟨⟨RelW.cong hs.1 (fun a j h => hK2 a j (by unfold kp_X11_store_400; omega)) (fun a j h => rfl), hR.1.2.1.kp (g _ _ (by unfold kp_X10_store_0; omega) (by unfold kp_X11_store_400; omega)) (fun i => g _ _ (by unfold kp_X10_store_0; omega) (by unfold kp_X11_store_400; omega)) (fun i => g _ _ (by unfold kp_X10_store_0; omega) (by unfold kp_X11_store_400; omega)), hR.1.2.2.kp (g _ _ (by unfold kp_X10_store_0; omega) (by unfold kp_X11_store_400; omega)) (fun a j q => g _ _ (by unfold kp_X10_store_0; omega) (by unfold kp_X11_store_400; omega)) (fun a j q => g _ _ (by unfold kp_X10_store_0; omega) (by unfold kp_X11_store_400; omega)) (hI 50 2 0 8 rfl).2⟩, hR.2.1.kp (g _ _ (by unfold kp_X10_store_0; omega) (by unfold kp_X11_store_400; omega)) (fun a j q => g _ _ (by unfold kp_X10_store_0; omega) (by unfold kp_X11_store_400; omega)) (fun a j q => g _ _ (by unfold kp_X10_store_0; omega) (by unfold kp_X11_store_400; omega)), (WF.of (u := v1) hf (fun s f hs => hK2 _ _ (by unfold kp_X11_store_400; omega)) (fun s f hs => hK2 _ _ (by unfold kp_X11_store_400; omega)) (fun s f hs => hK2 _ _ (by unfold kp_X11_store_400; omega)) (hK2 _ _ (by unfold kp_X11_store_400; omega)) (hK2 _ _ (by unfold kp_X11_store_400; omega)))⟩
theorem ans_store {v v1 v2 : tV} {r1 r2 : Int32} (wd : Int32) (mo : Int32) (hI : Inv v) (hR : RelS v) (hI1 : Inv v1) (hK1 : Kp (kp_X10_store_0 wd mo) v v1) (hE1 : (r1, v1) = f_X10_store_0 v wd mo) (hI2 : Inv v2) (hK2 : Kp (kp_X11_store_400 wd mo) v1 v2) (hE2 : (r2, v2) = f_X11_store_400 v1 wd mo) : r1 = r2 := by
  have hst := stR hR
  have g1 : RelW v v1 := RelW.cong hR.1.1 (fun a j h => rfl) (fun a j h => hK1 a j (by unfold kp_X10_store_0; omega))
  have hs := sim_store g1 wd mo
  rw [← hE1, ← hE2] at hs
  exact hs.2
theorem rel_feed {v v1 v2 : tV} {r1 r2 : Int32} (w : Int64) (cnt : Int32) (hI : Inv v) (hR : RelS v) (hI1 : Inv v1) (hK1 : Kp (kp_X10_feed_0 w cnt) v v1) (hE1 : (r1, v1) = f_X10_feed_0 v w cnt) (hI2 : Inv v2) (hK2 : Kp (kp_X11_feed_400 w cnt) v1 v2) (hE2 : (r2, v2) = f_X11_feed_400 v1 w cnt) : RelS v2 := by
  have g1 : RelX v v1 := RelX.cong hR.1 hI (fun a j h => rfl) (fun a j h => hK1 a j (by unfold kp_X10_feed_0; omega))
  have hs := sim_feed g1 hI w cnt
  rw [← hE1, ← hE2] at hs
  have g : ∀ a j, kp_X10_feed_0 w cnt a j → kp_X11_feed_400 w cnt a j → v2 a j = v a j := fun a j h1 h2 => (hK2 a j h2).trans (hK1 a j h1)
  exact ⟨RelX.cong hs.1 hI1 (fun a j h => hK2 a j (by unfold kp_X11_feed_400; omega)) (fun a j h => rfl), hR.2.1.kp (g _ _ (by unfold kp_X10_feed_0; omega) (by unfold kp_X11_feed_400; omega)) (fun a j q => g _ _ (by unfold kp_X10_feed_0; omega) (by unfold kp_X11_feed_400; omega)) (fun a j q => g _ _ (by unfold kp_X10_feed_0; omega) (by unfold kp_X11_feed_400; omega)), hR.2.2.of (fun s f hs => g _ _ (by unfold kp_X10_feed_0; omega) (by unfold kp_X11_feed_400; omega)) (fun s f hs => g _ _ (by unfold kp_X10_feed_0; omega) (by unfold kp_X11_feed_400; omega)) (fun s f hs => g _ _ (by unfold kp_X10_feed_0; omega) (by unfold kp_X11_feed_400; omega)) (g _ _ (by unfold kp_X10_feed_0; omega) (by unfold kp_X11_feed_400; omega)) (g _ _ (by unfold kp_X10_feed_0; omega) (by unfold kp_X11_feed_400; omega))⟩
theorem ans_feed {v v1 v2 : tV} {r1 r2 : Int32} (w : Int64) (cnt : Int32) (hI : Inv v) (hR : RelS v) (hI1 : Inv v1) (hK1 : Kp (kp_X10_feed_0 w cnt) v v1) (hE1 : (r1, v1) = f_X10_feed_0 v w cnt) (hI2 : Inv v2) (hK2 : Kp (kp_X11_feed_400 w cnt) v1 v2) (hE2 : (r2, v2) = f_X11_feed_400 v1 w cnt) : r1 = r2 := by
  have g1 : RelX v v1 := RelX.cong hR.1 hI (fun a j h => rfl) (fun a j h => hK1 a j (by unfold kp_X10_feed_0; omega))
  have hs := sim_feed g1 hI w cnt
  rw [← hE1, ← hE2] at hs
  exact hs.2
theorem rel_order {v v1 v2 : tV} {r1 r2 : Int32} (dy : Int32) (hI : Inv v) (hR : RelS v) (hI1 : Inv v1) (hK1 : Kp (kp_X10_order_0 dy) v v1) (hE1 : (r1, v1) = f_X10_order_0 v dy) (hI2 : Inv v2) (hK2 : Kp (kp_X11_order_400 dy) v1 v2) (hE2 : (r2, v2) = f_X11_order_400 v1 dy) : RelS v2 := by
  have g1 : RelX v v1 := RelX.cong hR.1 hI (fun a j h => rfl) (fun a j h => hK1 a j (by unfold kp_X10_order_0; omega))
  have hs := sim_order g1 hI dy
  rw [← hE1, ← hE2] at hs
  have g : ∀ a j, kp_X10_order_0 dy a j → kp_X11_order_400 dy a j → v2 a j = v a j := fun a j h1 h2 => (hK2 a j h2).trans (hK1 a j h1)
  exact ⟨RelX.cong hs.1 hI1 (fun a j h => hK2 a j (by unfold kp_X11_order_400; omega)) (fun a j h => rfl), hR.2.1.kp (g _ _ (by unfold kp_X10_order_0; omega) (by unfold kp_X11_order_400; omega)) (fun a j q => g _ _ (by unfold kp_X10_order_0; omega) (by unfold kp_X11_order_400; omega)) (fun a j q => g _ _ (by unfold kp_X10_order_0; omega) (by unfold kp_X11_order_400; omega)), hR.2.2.of (fun s f hs => g _ _ (by unfold kp_X10_order_0; omega) (by unfold kp_X11_order_400; omega)) (fun s f hs => g _ _ (by unfold kp_X10_order_0; omega) (by unfold kp_X11_order_400; omega)) (fun s f hs => g _ _ (by unfold kp_X10_order_0; omega) (by unfold kp_X11_order_400; omega)) (g _ _ (by unfold kp_X10_order_0; omega) (by unfold kp_X11_order_400; omega)) (g _ _ (by unfold kp_X10_order_0; omega) (by unfold kp_X11_order_400; omega))⟩
theorem ans_order {v v1 v2 : tV} {r1 r2 : Int32} (dy : Int32) (hI : Inv v) (hR : RelS v) (hI1 : Inv v1) (hK1 : Kp (kp_X10_order_0 dy) v v1) (hE1 : (r1, v1) = f_X10_order_0 v dy) (hI2 : Inv v2) (hK2 : Kp (kp_X11_order_400 dy) v1 v2) (hE2 : (r2, v2) = f_X11_order_400 v1 dy) : r1 = r2 := by
  have g1 : RelX v v1 := RelX.cong hR.1 hI (fun a j h => rfl) (fun a j h => hK1 a j (by unfold kp_X10_order_0; omega))
  have hs := sim_order g1 hI dy
  rw [← hE1, ← hE2] at hs
  exact hs.2
theorem rel_turn {v v1 v2 : tV} {r1 r2 : Int32} (ti : Int32) (hI : Inv v) (hR : RelS v) (hI1 : Inv v1) (hK1 : Kp (kp_X10_turn_0 ti) v v1) (hE1 : (r1, v1) = f_X10_turn_0 v ti) (hI2 : Inv v2) (hK2 : Kp (kp_X11_turn_400 ti) v1 v2) (hE2 : (r2, v2) = f_X11_turn_400 v1 ti) : RelS v2 := by
  have g : ∀ a j, kp_X10_turn_0 ti a j → kp_X11_turn_400 ti a j → v2 a j = v a j := fun a j h1 h2 => (hK2 a j h2).trans (hK1 a j h1)
  exact ⟨⟨⟨fun s1 f1 c0 c1 => by rw [g _ _ (by unfold kp_X10_turn_0; omega) (by unfold kp_X11_turn_400; omega), g (403 + f1) s1 (by unfold kp_X10_turn_0; omega) (by unfold kp_X11_turn_400; omega)]; exact hR.1.1.ship s1 f1 c0 c1,
   fun s1 f1 c0 c1 => by rw [g _ _ (by unfold kp_X10_turn_0; omega) (by unfold kp_X11_turn_400; omega), g (417 + f1) s1 (by unfold kp_X10_turn_0; omega) (by unfold kp_X11_turn_400; omega)]; exact hR.1.1.buyer s1 f1 c0 c1,
   fun s1 f1 c0 c1 c2 => by rw [g _ _ (by unfold kp_X10_turn_0; omega) (by unfold kp_X11_turn_400; omega), g (420 + f1) s1 (by unfold kp_X10_turn_0; omega) (by unfold kp_X11_turn_400; omega)]; exact hR.1.1.ward s1 f1 c0 c1 c2,
   fun s1 f1 c0 c1 => by rw [g _ _ (by unfold kp_X10_turn_0; omega) (by unfold kp_X11_turn_400; omega), g 425 (5 * s1 + f1) (by unfold kp_X10_turn_0; omega) (by unfold kp_X11_turn_400; omega)]; exact hR.1.1.burn s1 f1 c0 c1,
   by rw [g _ _ (by unfold kp_X10_turn_0; omega) (by unfold kp_X11_turn_400; omega), g 400 1 (by unfold kp_X10_turn_0; omega) (by unfold kp_X11_turn_400; omega)]; exact hR.1.1.n,
   by rw [g _ _ (by unfold kp_X10_turn_0; omega) (by unfold kp_X11_turn_400; omega), g 400 15 (by unfold kp_X10_turn_0; omega) (by unfold kp_X11_turn_400; omega)]; exact hR.1.1.nb,
   by rw [g _ _ (by unfold kp_X10_turn_0; omega) (by unfold kp_X11_turn_400; omega), g 400 65 (by unfold kp_X10_turn_0; omega) (by unfold kp_X11_turn_400; omega)]; exact hR.1.1.le,
   by rw [g _ _ (by unfold kp_X10_turn_0; omega) (by unfold kp_X11_turn_400; omega), g 400 66 (by unfold kp_X10_turn_0; omega) (by unfold kp_X11_turn_400; omega)]; exact hR.1.1.mo,
   by rw [g _ _ (by unfold kp_X10_turn_0; omega) (by unfold kp_X11_turn_400; omega), g 400 34 (by unfold kp_X10_turn_0; omega) (by unfold kp_X11_turn_400; omega)]; exact hR.1.1.no,
   by rw [g _ _ (by unfold kp_X10_turn_0; omega) (by unfold kp_X11_turn_400; omega), g 400 33 (by unfold kp_X10_turn_0; omega) (by unfold kp_X11_turn_400; omega)]; exact hR.1.1.nt,
   by rw [g _ _ (by unfold kp_X10_turn_0; omega) (by unfold kp_X11_turn_400; omega), g 400 25 (by unfold kp_X10_turn_0; omega) (by unfold kp_X11_turn_400; omega)]; exact hR.1.1.to,
   by rw [g _ _ (by unfold kp_X10_turn_0; omega) (by unfold kp_X11_turn_400; omega), g 400 26 (by unfold kp_X10_turn_0; omega) (by unfold kp_X11_turn_400; omega)]; exact hR.1.1.pr,
   by rw [g _ _ (by unfold kp_X10_turn_0; omega) (by unfold kp_X11_turn_400; omega), g 400 57 (by unfold kp_X10_turn_0; omega) (by unfold kp_X11_turn_400; omega)]; exact hR.1.1.mk,
   by rw [g _ _ (by unfold kp_X10_turn_0; omega) (by unfold kp_X11_turn_400; omega), g 400 27 (by unfold kp_X10_turn_0; omega) (by unfold kp_X11_turn_400; omega)]; exact hR.1.1.bg⟩, hR.1.2.1.kp (g _ _ (by unfold kp_X10_turn_0; omega) (by unfold kp_X11_turn_400; omega)) (fun i => g _ _ (by unfold kp_X10_turn_0; omega) (by unfold kp_X11_turn_400; omega)) (fun i => g _ _ (by unfold kp_X10_turn_0; omega) (by unfold kp_X11_turn_400; omega)), hR.1.2.2.kp (g _ _ (by unfold kp_X10_turn_0; omega) (by unfold kp_X11_turn_400; omega)) (fun a j q => g _ _ (by unfold kp_X10_turn_0; omega) (by unfold kp_X11_turn_400; omega)) (fun a j q => g _ _ (by unfold kp_X10_turn_0; omega) (by unfold kp_X11_turn_400; omega)) (hI 50 2 0 8 rfl).2⟩, hR.2.1.kp (g _ _ (by unfold kp_X10_turn_0; omega) (by unfold kp_X11_turn_400; omega)) (fun a j q => g _ _ (by unfold kp_X10_turn_0; omega) (by unfold kp_X11_turn_400; omega)) (fun a j q => g _ _ (by unfold kp_X10_turn_0; omega) (by unfold kp_X11_turn_400; omega)), hR.2.2.of (fun s f hs => g _ _ (by unfold kp_X10_turn_0; omega) (by unfold kp_X11_turn_400; omega)) (fun s f hs => g _ _ (by unfold kp_X10_turn_0; omega) (by unfold kp_X11_turn_400; omega)) (fun s f hs => g _ _ (by unfold kp_X10_turn_0; omega) (by unfold kp_X11_turn_400; omega)) (g _ _ (by unfold kp_X10_turn_0; omega) (by unfold kp_X11_turn_400; omega)) (g _ _ (by unfold kp_X10_turn_0; omega) (by unfold kp_X11_turn_400; omega))⟩
theorem rel_day {v v1 v2 : tV} {r1 r2 : Int32} (wi : Int32) (co : Int32) (fr : Int32) (hI : Inv v) (hR : RelS v) (hI1 : Inv v1) (hK1 : Kp (kp_X10_day_0 wi co fr) v v1) (hE1 : (r1, v1) = f_X10_day_0 v wi co fr) (hI2 : Inv v2) (hK2 : Kp (kp_X11_day_400 wi co fr) v1 v2) (hE2 : (r2, v2) = f_X11_day_400 v1 wi co fr) : RelS v2 := by
  have g1 : RelX v v1 := RelX.cong hR.1 hI (fun a j h => rfl) (fun a j h => hK1 a j (by unfold kp_X10_day_0; omega))
  have gB : RelB v v1 := hR.2.1.kp rfl (fun _ _ _ => rfl) (fun a j h => hK1 a j (by unfold kp_X10_day_0; omega))
  have hs := sim_day g1 gB hR.2.2 hI wi co fr
  rw [← hE1, ← hE2] at hs
  have g : ∀ a j, kp_X10_day_0 wi co fr a j → kp_X11_day_400 wi co fr a j → v2 a j = v a j := fun a j h1 h2 => (hK2 a j h2).trans (hK1 a j h1)
  exact ⟨⟨RelW.cong hs.1 (fun a j h => hK2 a j (by unfold kp_X11_day_400; omega)) (fun a j h => rfl), hR.1.2.1.kp (g _ _ (by unfold kp_X10_day_0; omega) (by unfold kp_X11_day_400; omega)) (fun i => g _ _ (by unfold kp_X10_day_0; omega) (by unfold kp_X11_day_400; omega)) (fun i => g _ _ (by unfold kp_X10_day_0; omega) (by unfold kp_X11_day_400; omega)), hR.1.2.2.kp (g _ _ (by unfold kp_X10_day_0; omega) (by unfold kp_X11_day_400; omega)) (fun a j q => g _ _ (by unfold kp_X10_day_0; omega) (by unfold kp_X11_day_400; omega)) (fun a j q => g _ _ (by unfold kp_X10_day_0; omega) (by unfold kp_X11_day_400; omega)) (hI 50 2 0 8 rfl).2⟩, hs.2.1.kp (hK2 _ _ (by unfold kp_X11_day_400; omega)) (fun a j q => hK2 _ _ (by unfold kp_X11_day_400; omega)) (fun _ _ _ => rfl), WF.of (u := v1) hs.2.2.1 (fun s f hs => hK2 _ _ (by unfold kp_X11_day_400; omega)) (fun s f hs => hK2 _ _ (by unfold kp_X11_day_400; omega)) (fun s f hs => hK2 _ _ (by unfold kp_X11_day_400; omega)) (hK2 _ _ (by unfold kp_X11_day_400; omega)) (hK2 _ _ (by unfold kp_X11_day_400; omega))⟩
theorem ans_day {v v1 v2 : tV} {r1 r2 : Int32} (wi : Int32) (co : Int32) (fr : Int32) (hI : Inv v) (hR : RelS v) (hI1 : Inv v1) (hK1 : Kp (kp_X10_day_0 wi co fr) v v1) (hE1 : (r1, v1) = f_X10_day_0 v wi co fr) (hI2 : Inv v2) (hK2 : Kp (kp_X11_day_400 wi co fr) v1 v2) (hE2 : (r2, v2) = f_X11_day_400 v1 wi co fr) : r1 = r2 := by
  have g1 : RelX v v1 := RelX.cong hR.1 hI (fun a j h => rfl) (fun a j h => hK1 a j (by unfold kp_X10_day_0; omega))
  have gB : RelB v v1 := hR.2.1.kp rfl (fun _ _ _ => rfl) (fun a j h => hK1 a j (by unfold kp_X10_day_0; omega))
  have hs := sim_day g1 gB hR.2.2 hI wi co fr
  rw [← hE1, ← hE2] at hs
  exact hs.2.2.2
theorem rel_clear {v v1 v2 : tV} {r1 r2 : Int32} (gg : Int32) (hI : Inv v) (hR : RelS v) (hI1 : Inv v1) (hK1 : Kp (kp_X10_clear_0 gg) v v1) (hE1 : (r1, v1) = f_X10_clear_0 v gg) (hI2 : Inv v2) (hK2 : Kp (kp_X11_clear_400 gg) v1 v2) (hE2 : (r2, v2) = f_X11_clear_400 v1 gg) : RelS v2 := by
  have g : ∀ a j, kp_X10_clear_0 gg a j → kp_X11_clear_400 gg a j → v2 a j = v a j := fun a j h1 h2 => (hK2 a j h2).trans (hK1 a j h1)
  exact ⟨⟨⟨fun s1 f1 c0 c1 => by rw [g _ _ (by unfold kp_X10_clear_0; omega) (by unfold kp_X11_clear_400; omega), g (403 + f1) s1 (by unfold kp_X10_clear_0; omega) (by unfold kp_X11_clear_400; omega)]; exact hR.1.1.ship s1 f1 c0 c1,
   fun s1 f1 c0 c1 => by rw [g _ _ (by unfold kp_X10_clear_0; omega) (by unfold kp_X11_clear_400; omega), g (417 + f1) s1 (by unfold kp_X10_clear_0; omega) (by unfold kp_X11_clear_400; omega)]; exact hR.1.1.buyer s1 f1 c0 c1,
   fun s1 f1 c0 c1 c2 => by rw [g _ _ (by unfold kp_X10_clear_0; omega) (by unfold kp_X11_clear_400; omega), g (420 + f1) s1 (by unfold kp_X10_clear_0; omega) (by unfold kp_X11_clear_400; omega)]; exact hR.1.1.ward s1 f1 c0 c1 c2,
   fun s1 f1 c0 c1 => by rw [g _ _ (by unfold kp_X10_clear_0; omega) (by unfold kp_X11_clear_400; omega), g 425 (5 * s1 + f1) (by unfold kp_X10_clear_0; omega) (by unfold kp_X11_clear_400; omega)]; exact hR.1.1.burn s1 f1 c0 c1,
   by rw [g _ _ (by unfold kp_X10_clear_0; omega) (by unfold kp_X11_clear_400; omega), g 400 1 (by unfold kp_X10_clear_0; omega) (by unfold kp_X11_clear_400; omega)]; exact hR.1.1.n,
   by rw [g _ _ (by unfold kp_X10_clear_0; omega) (by unfold kp_X11_clear_400; omega), g 400 15 (by unfold kp_X10_clear_0; omega) (by unfold kp_X11_clear_400; omega)]; exact hR.1.1.nb,
   by rw [g _ _ (by unfold kp_X10_clear_0; omega) (by unfold kp_X11_clear_400; omega), g 400 65 (by unfold kp_X10_clear_0; omega) (by unfold kp_X11_clear_400; omega)]; exact hR.1.1.le,
   by rw [g _ _ (by unfold kp_X10_clear_0; omega) (by unfold kp_X11_clear_400; omega), g 400 66 (by unfold kp_X10_clear_0; omega) (by unfold kp_X11_clear_400; omega)]; exact hR.1.1.mo,
   by rw [g _ _ (by unfold kp_X10_clear_0; omega) (by unfold kp_X11_clear_400; omega), g 400 34 (by unfold kp_X10_clear_0; omega) (by unfold kp_X11_clear_400; omega)]; exact hR.1.1.no,
   by rw [g _ _ (by unfold kp_X10_clear_0; omega) (by unfold kp_X11_clear_400; omega), g 400 33 (by unfold kp_X10_clear_0; omega) (by unfold kp_X11_clear_400; omega)]; exact hR.1.1.nt,
   by rw [g _ _ (by unfold kp_X10_clear_0; omega) (by unfold kp_X11_clear_400; omega), g 400 25 (by unfold kp_X10_clear_0; omega) (by unfold kp_X11_clear_400; omega)]; exact hR.1.1.to,
   by rw [g _ _ (by unfold kp_X10_clear_0; omega) (by unfold kp_X11_clear_400; omega), g 400 26 (by unfold kp_X10_clear_0; omega) (by unfold kp_X11_clear_400; omega)]; exact hR.1.1.pr,
   by rw [g _ _ (by unfold kp_X10_clear_0; omega) (by unfold kp_X11_clear_400; omega), g 400 57 (by unfold kp_X10_clear_0; omega) (by unfold kp_X11_clear_400; omega)]; exact hR.1.1.mk,
   by rw [g _ _ (by unfold kp_X10_clear_0; omega) (by unfold kp_X11_clear_400; omega), g 400 27 (by unfold kp_X10_clear_0; omega) (by unfold kp_X11_clear_400; omega)]; exact hR.1.1.bg⟩, hR.1.2.1.kp (g _ _ (by unfold kp_X10_clear_0; omega) (by unfold kp_X11_clear_400; omega)) (fun i => g _ _ (by unfold kp_X10_clear_0; omega) (by unfold kp_X11_clear_400; omega)) (fun i => g _ _ (by unfold kp_X10_clear_0; omega) (by unfold kp_X11_clear_400; omega)), hR.1.2.2.kp (g _ _ (by unfold kp_X10_clear_0; omega) (by unfold kp_X11_clear_400; omega)) (fun a j q => g _ _ (by unfold kp_X10_clear_0; omega) (by unfold kp_X11_clear_400; omega)) (fun a j q => g _ _ (by unfold kp_X10_clear_0; omega) (by unfold kp_X11_clear_400; omega)) (hI 50 2 0 8 rfl).2⟩, hR.2.1.kp (g _ _ (by unfold kp_X10_clear_0; omega) (by unfold kp_X11_clear_400; omega)) (fun a j q => g _ _ (by unfold kp_X10_clear_0; omega) (by unfold kp_X11_clear_400; omega)) (fun a j q => g _ _ (by unfold kp_X10_clear_0; omega) (by unfold kp_X11_clear_400; omega)), hR.2.2.of (fun s f hs => g _ _ (by unfold kp_X10_clear_0; omega) (by unfold kp_X11_clear_400; omega)) (fun s f hs => g _ _ (by unfold kp_X10_clear_0; omega) (by unfold kp_X11_clear_400; omega)) (fun s f hs => g _ _ (by unfold kp_X10_clear_0; omega) (by unfold kp_X11_clear_400; omega)) (g _ _ (by unfold kp_X10_clear_0; omega) (by unfold kp_X11_clear_400; omega)) (g _ _ (by unfold kp_X10_clear_0; omega) (by unfold kp_X11_clear_400; omega))⟩
theorem rel_held {v v1 v2 : tV} {r1 r2 : Int32} (si : Int32) (hI : Inv v) (hR : RelS v) (hI1 : Inv v1) (hK1 : Kp (kp_X10_held_0 si) v v1) (hE1 : (r1, v1) = f_X10_held_0 v si) (hI2 : Inv v2) (hK2 : Kp (kp_X11_held_400 si) v1 v2) (hE2 : (r2, v2) = f_X11_held_400 v1 si) : RelS v2 := by
  have g : ∀ a j, kp_X10_held_0 si a j → kp_X11_held_400 si a j → v2 a j = v a j := fun a j h1 h2 => (hK2 a j h2).trans (hK1 a j h1)
  exact ⟨⟨⟨fun s1 f1 c0 c1 => by rw [g _ _ (by unfold kp_X10_held_0; omega) (by unfold kp_X11_held_400; omega), g (403 + f1) s1 (by unfold kp_X10_held_0; omega) (by unfold kp_X11_held_400; omega)]; exact hR.1.1.ship s1 f1 c0 c1,
   fun s1 f1 c0 c1 => by rw [g _ _ (by unfold kp_X10_held_0; omega) (by unfold kp_X11_held_400; omega), g (417 + f1) s1 (by unfold kp_X10_held_0; omega) (by unfold kp_X11_held_400; omega)]; exact hR.1.1.buyer s1 f1 c0 c1,
   fun s1 f1 c0 c1 c2 => by rw [g _ _ (by unfold kp_X10_held_0; omega) (by unfold kp_X11_held_400; omega), g (420 + f1) s1 (by unfold kp_X10_held_0; omega) (by unfold kp_X11_held_400; omega)]; exact hR.1.1.ward s1 f1 c0 c1 c2,
   fun s1 f1 c0 c1 => by rw [g _ _ (by unfold kp_X10_held_0; omega) (by unfold kp_X11_held_400; omega), g 425 (5 * s1 + f1) (by unfold kp_X10_held_0; omega) (by unfold kp_X11_held_400; omega)]; exact hR.1.1.burn s1 f1 c0 c1,
   by rw [g _ _ (by unfold kp_X10_held_0; omega) (by unfold kp_X11_held_400; omega), g 400 1 (by unfold kp_X10_held_0; omega) (by unfold kp_X11_held_400; omega)]; exact hR.1.1.n,
   by rw [g _ _ (by unfold kp_X10_held_0; omega) (by unfold kp_X11_held_400; omega), g 400 15 (by unfold kp_X10_held_0; omega) (by unfold kp_X11_held_400; omega)]; exact hR.1.1.nb,
   by rw [g _ _ (by unfold kp_X10_held_0; omega) (by unfold kp_X11_held_400; omega), g 400 65 (by unfold kp_X10_held_0; omega) (by unfold kp_X11_held_400; omega)]; exact hR.1.1.le,
   by rw [g _ _ (by unfold kp_X10_held_0; omega) (by unfold kp_X11_held_400; omega), g 400 66 (by unfold kp_X10_held_0; omega) (by unfold kp_X11_held_400; omega)]; exact hR.1.1.mo,
   by rw [g _ _ (by unfold kp_X10_held_0; omega) (by unfold kp_X11_held_400; omega), g 400 34 (by unfold kp_X10_held_0; omega) (by unfold kp_X11_held_400; omega)]; exact hR.1.1.no,
   by rw [g _ _ (by unfold kp_X10_held_0; omega) (by unfold kp_X11_held_400; omega), g 400 33 (by unfold kp_X10_held_0; omega) (by unfold kp_X11_held_400; omega)]; exact hR.1.1.nt,
   by rw [g _ _ (by unfold kp_X10_held_0; omega) (by unfold kp_X11_held_400; omega), g 400 25 (by unfold kp_X10_held_0; omega) (by unfold kp_X11_held_400; omega)]; exact hR.1.1.to,
   by rw [g _ _ (by unfold kp_X10_held_0; omega) (by unfold kp_X11_held_400; omega), g 400 26 (by unfold kp_X10_held_0; omega) (by unfold kp_X11_held_400; omega)]; exact hR.1.1.pr,
   by rw [g _ _ (by unfold kp_X10_held_0; omega) (by unfold kp_X11_held_400; omega), g 400 57 (by unfold kp_X10_held_0; omega) (by unfold kp_X11_held_400; omega)]; exact hR.1.1.mk,
   by rw [g _ _ (by unfold kp_X10_held_0; omega) (by unfold kp_X11_held_400; omega), g 400 27 (by unfold kp_X10_held_0; omega) (by unfold kp_X11_held_400; omega)]; exact hR.1.1.bg⟩, hR.1.2.1.kp (g _ _ (by unfold kp_X10_held_0; omega) (by unfold kp_X11_held_400; omega)) (fun i => g _ _ (by unfold kp_X10_held_0; omega) (by unfold kp_X11_held_400; omega)) (fun i => g _ _ (by unfold kp_X10_held_0; omega) (by unfold kp_X11_held_400; omega)), hR.1.2.2.kp (g _ _ (by unfold kp_X10_held_0; omega) (by unfold kp_X11_held_400; omega)) (fun a j q => g _ _ (by unfold kp_X10_held_0; omega) (by unfold kp_X11_held_400; omega)) (fun a j q => g _ _ (by unfold kp_X10_held_0; omega) (by unfold kp_X11_held_400; omega)) (hI 50 2 0 8 rfl).2⟩, hR.2.1.kp (g _ _ (by unfold kp_X10_held_0; omega) (by unfold kp_X11_held_400; omega)) (fun a j q => g _ _ (by unfold kp_X10_held_0; omega) (by unfold kp_X11_held_400; omega)) (fun a j q => g _ _ (by unfold kp_X10_held_0; omega) (by unfold kp_X11_held_400; omega)), hR.2.2.of (fun s f hs => g _ _ (by unfold kp_X10_held_0; omega) (by unfold kp_X11_held_400; omega)) (fun s f hs => g _ _ (by unfold kp_X10_held_0; omega) (by unfold kp_X11_held_400; omega)) (fun s f hs => g _ _ (by unfold kp_X10_held_0; omega) (by unfold kp_X11_held_400; omega)) (g _ _ (by unfold kp_X10_held_0; omega) (by unfold kp_X11_held_400; omega)) (g _ _ (by unfold kp_X10_held_0; omega) (by unfold kp_X11_held_400; omega))⟩
theorem rel_measure {v v1 v2 : tV} {r1 r2 : Int32} (lo : Int32) (hi : Int32) (hI : Inv v) (hR : RelS v) (hI1 : Inv v1) (hK1 : Kp (kp_X10_measure_0 lo hi) v v1) (hE1 : (r1, v1) = f_X10_measure_0 v lo hi) (hI2 : Inv v2) (hK2 : Kp (kp_X11_measure_400 lo hi) v1 v2) (hE2 : (r2, v2) = f_X11_measure_400 v1 lo hi) : RelS v2 := by
  have hst := stR hR
  have g1 : RelW v v1 := RelW.cong hR.1.1 (fun a j h => rfl) (fun a j h => hK1 a j (by unfold kp_X10_measure_0; omega))
  have hs := sim_measure g1 lo hi
  rw [← hE1, ← hE2] at hs
  have g : ∀ a j, kp_X10_measure_0 lo hi a j → kp_X11_measure_400 lo hi a j → v2 a j = v a j := fun a j h1 h2 => (hK2 a j h2).trans (hK1 a j h1)
  exact ⟨⟨RelW.cong hs.1 (fun a j h => hK2 a j (by unfold kp_X11_measure_400; omega)) (fun a j h => rfl), hR.1.2.1.kp (g _ _ (by unfold kp_X10_measure_0; omega) (by unfold kp_X11_measure_400; omega)) (fun i => g _ _ (by unfold kp_X10_measure_0; omega) (by unfold kp_X11_measure_400; omega)) (fun i => g _ _ (by unfold kp_X10_measure_0; omega) (by unfold kp_X11_measure_400; omega)), hR.1.2.2.kp (g _ _ (by unfold kp_X10_measure_0; omega) (by unfold kp_X11_measure_400; omega)) (fun a j q => g _ _ (by unfold kp_X10_measure_0; omega) (by unfold kp_X11_measure_400; omega)) (fun a j q => g _ _ (by unfold kp_X10_measure_0; omega) (by unfold kp_X11_measure_400; omega)) (hI 50 2 0 8 rfl).2⟩, hR.2.1.kp (g _ _ (by unfold kp_X10_measure_0; omega) (by unfold kp_X11_measure_400; omega)) (fun a j q => g _ _ (by unfold kp_X10_measure_0; omega) (by unfold kp_X11_measure_400; omega)) (fun a j q => g _ _ (by unfold kp_X10_measure_0; omega) (by unfold kp_X11_measure_400; omega)), (hR.2.2.of (fun s f hs => g _ _ (by unfold kp_X10_measure_0; omega) (by unfold kp_X11_measure_400; omega)) (fun s f hs => g _ _ (by unfold kp_X10_measure_0; omega) (by unfold kp_X11_measure_400; omega)) (fun s f hs => g _ _ (by unfold kp_X10_measure_0; omega) (by unfold kp_X11_measure_400; omega)) (g _ _ (by unfold kp_X10_measure_0; omega) (by unfold kp_X11_measure_400; omega)) (g _ _ (by unfold kp_X10_measure_0; omega) (by unfold kp_X11_measure_400; omega)))⟩
theorem ans_measure {v v1 v2 : tV} {r1 r2 : Int32} (lo : Int32) (hi : Int32) (hI : Inv v) (hR : RelS v) (hI1 : Inv v1) (hK1 : Kp (kp_X10_measure_0 lo hi) v v1) (hE1 : (r1, v1) = f_X10_measure_0 v lo hi) (hI2 : Inv v2) (hK2 : Kp (kp_X11_measure_400 lo hi) v1 v2) (hE2 : (r2, v2) = f_X11_measure_400 v1 lo hi) : r1 = r2 := by
  have hst := stR hR
  have g1 : RelW v v1 := RelW.cong hR.1.1 (fun a j h => rfl) (fun a j h => hK1 a j (by unfold kp_X10_measure_0; omega))
  have hs := sim_measure g1 lo hi
  rw [← hE1, ← hE2] at hs
  exact hs.2
theorem rel_tried {v v1 v2 : tV} {r1 r2 : Int32} (od : Int32) (dn : Int32) (wi : Int32) (co : Int32) (wh : Int32) (hI : Inv v) (hR : RelS v) (hI1 : Inv v1) (hK1 : Kp (kp_X10_tried_0 od dn wi co wh) v v1) (hE1 : (r1, v1) = f_X10_tried_0 v od dn wi co wh) (hI2 : Inv v2) (hK2 : Kp (kp_X11_tried_400 od dn wi co wh) v1 v2) (hE2 : (r2, v2) = f_X11_tried_400 v1 od dn wi co wh) : RelS v2 := by
  have g1 : RelX v v1 := RelX.cong hR.1 hI (fun a j h => rfl) (fun a j h => hK1 a j (by unfold kp_X10_tried_0; omega))
  have gB : RelB v v1 := hR.2.1.kp rfl (fun _ _ _ => rfl) (fun a j h => hK1 a j (by unfold kp_X10_tried_0; omega))
  have hs := back_tried g1 gB hR.2.2 hI od dn wi co wh
  rw [← hE2] at hs
  have g : ∀ a j, kp_X10_tried_0 od dn wi co wh a j → kp_X11_tried_400 od dn wi co wh a j → v2 a j = v a j := fun a j h1 h2 => (hK2 a j h2).trans (hK1 a j h1)
  exact ⟨⟨⟨fun s1 f1 c0 c1 => (g _ _ (by unfold kp_X10_tried_0; omega) (by unfold kp_X11_tried_400; omega)).trans (hs.1.ship s1 f1 c0 c1), fun s1 f1 c0 c1 => (g _ _ (by unfold kp_X10_tried_0; omega) (by unfold kp_X11_tried_400; omega)).trans (hs.1.buyer s1 f1 c0 c1), fun s1 f1 c0 c1 c2 => (g _ _ (by unfold kp_X10_tried_0; omega) (by unfold kp_X11_tried_400; omega)).trans (hs.1.ward s1 f1 c0 c1 c2), fun s1 f1 c0 c1 => (g _ _ (by unfold kp_X10_tried_0; omega) (by unfold kp_X11_tried_400; omega)).trans (hs.1.burn s1 f1 c0 c1), (g _ _ (by unfold kp_X10_tried_0; omega) (by unfold kp_X11_tried_400; omega)).trans hs.1.n, (g _ _ (by unfold kp_X10_tried_0; omega) (by unfold kp_X11_tried_400; omega)).trans hs.1.nb, (g _ _ (by unfold kp_X10_tried_0; omega) (by unfold kp_X11_tried_400; omega)).trans hs.1.le, (g _ _ (by unfold kp_X10_tried_0; omega) (by unfold kp_X11_tried_400; omega)).trans hs.1.mo, (g _ _ (by unfold kp_X10_tried_0; omega) (by unfold kp_X11_tried_400; omega)).trans hs.1.no, (g _ _ (by unfold kp_X10_tried_0; omega) (by unfold kp_X11_tried_400; omega)).trans hs.1.nt, (g _ _ (by unfold kp_X10_tried_0; omega) (by unfold kp_X11_tried_400; omega)).trans hs.1.to, (g _ _ (by unfold kp_X10_tried_0; omega) (by unfold kp_X11_tried_400; omega)).trans hs.1.pr, (g _ _ (by unfold kp_X10_tried_0; omega) (by unfold kp_X11_tried_400; omega)).trans hs.1.mk, (g _ _ (by unfold kp_X10_tried_0; omega) (by unfold kp_X11_tried_400; omega)).trans hs.1.bg⟩, hR.1.2.1.kp (g _ _ (by unfold kp_X10_tried_0; omega) (by unfold kp_X11_tried_400; omega)) (fun i => g _ _ (by unfold kp_X10_tried_0; omega) (by unfold kp_X11_tried_400; omega)) (fun i => g _ _ (by unfold kp_X10_tried_0; omega) (by unfold kp_X11_tried_400; omega)), hR.1.2.2.kp (g _ _ (by unfold kp_X10_tried_0; omega) (by unfold kp_X11_tried_400; omega)) (fun a j q => g _ _ (by unfold kp_X10_tried_0; omega) (by unfold kp_X11_tried_400; omega)) (fun a j q => g _ _ (by unfold kp_X10_tried_0; omega) (by unfold kp_X11_tried_400; omega)) (hI 50 2 0 8 rfl).2⟩, hs.2.kp (g _ _ (by unfold kp_X10_tried_0; omega) (by unfold kp_X11_tried_400; omega)) (fun a j q => g _ _ (by unfold kp_X10_tried_0; omega) (by unfold kp_X11_tried_400; omega)) (fun _ _ _ => rfl), hR.2.2.of (fun s f hs => g _ _ (by unfold kp_X10_tried_0; omega) (by unfold kp_X11_tried_400; omega)) (fun s f hs => g _ _ (by unfold kp_X10_tried_0; omega) (by unfold kp_X11_tried_400; omega)) (fun s f hs => g _ _ (by unfold kp_X10_tried_0; omega) (by unfold kp_X11_tried_400; omega)) (g _ _ (by unfold kp_X10_tried_0; omega) (by unfold kp_X11_tried_400; omega)) (g _ _ (by unfold kp_X10_tried_0; omega) (by unfold kp_X11_tried_400; omega))⟩
theorem ans_turn {v v1 v2 : tV} {r1 r2 : Int32} (ti : Int32) (hI : Inv v) (hR : RelS v) (hI1 : Inv v1) (hK1 : Kp (kp_X10_turn_0 ti) v v1) (hE1 : (r1, v1) = f_X10_turn_0 v ti) (hI2 : Inv v2) (hK2 : Kp (kp_X11_turn_400 ti) v1 v2) (hE2 : (r2, v2) = f_X11_turn_400 v1 ti) : r1 = r2 := by
  have g1 : RelX v v1 := RelX.cong hR.1 hI (fun a j h => rfl) (fun a j h => hK1 a j (by unfold kp_X10_turn_0; omega))
  have hs := sim_turn g1 hI (hR.2.2.1.up (by omega)) (fun t ht => (hR.2.2.2.1.1 t ht).2.2.2.2.1) ti
  rw [← hE1, ← hE2] at hs
  exact hs
theorem ans_weighed (si kk we wh : Int32) {v : tV} (hI : Inv v) (hR : RelS v) : f_X10_weighed_0 v si kk we wh = f_X11_weighed_400 v si kk we wh := eq_weighed hR.1.1 hI si kk we wh
theorem ans_force (dy : Int32) {v : tV} (hI : Inv v) (hR : RelS v) : f_X10_force_0 v dy = f_X11_force_400 v dy := eq_force hR.1 hI dy
theorem ans_many (od pr : Int32) {v : tV} (hI : Inv v) (hR : RelS v) : f_X10_many_0 v od pr = f_X11_many_400 v od pr := eq_many hR.1 hI od pr
theorem ans_about (si wh : Int32) {v : tV} (hI : Inv v) (hR : RelS v) : f_X10_about_0 v si wh = f_X11_about_400 v si wh := eq_about hR.1.1 hI si wh
theorem ans_ward (wd wh : Int32) {v : tV} (hI : Inv v) (hR : RelS v) : f_X10_ward_0 v wd wh = f_X11_ward_400 v wd wh := eq_ward hR.1.1 wd wh
theorem ans_lasts (wd co : Int32) {v : tV} (hI : Inv v) (hR : RelS v) : f_X10_lasts_0 v wd co = f_X11_lasts_400 v wd co := eq_lasts hR.1.1 hR.2.2.2.2 wd co
theorem ans_count (wh : Int32) {v : tV} (hI : Inv v) (hR : RelS v) : f_X10_count_0 v wh = f_X11_count_400 v wh := eq_count hR.1.1 hI wh
theorem ans_factor (fi : Int32) {v : tV} (hI : Inv v) (hR : RelS v) : f_X10_factor_0 v fi = f_X11_factor_400 v fi := eq_factor hR.1.1 hI fi
theorem ans_bargain (bi wh : Int32) {v : tV} (hI : Inv v) (hR : RelS v) : f_X10_bargain_0 v bi wh = f_X11_bargain_400 v bi wh := eq_bargain hR.1.1 hI hR.2.1 bi wh
