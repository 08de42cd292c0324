def RelS (v : tV) : Prop := RelW v v
theorem rel_v0 : RelS v0 := by
  intro a b c d hp
  unfold PR at hp
  unfold v0
  rcases hp with hp | hp | hp | hp | hp | hp | hp
  · rw [if_neg (by omega), if_neg (by omega), if_neg (by omega), if_neg (by omega), if_neg (by omega), if_neg (by omega), if_neg (by omega), if_neg (by omega)]
  · rw [if_neg (by omega), if_neg (by omega), if_neg (by omega), if_neg (by omega), if_neg (by omega), if_neg (by omega), if_neg (by omega), if_neg (by omega)]
  · rw [if_neg (by omega), if_neg (by omega), if_neg (by omega), if_neg (by omega), if_neg (by omega), if_neg (by omega), if_neg (by omega), if_neg (by omega)]
  all_goals (obtain ⟨rfl, rfl, rfl, rfl⟩ := hp; rfl)
theorem rel_ship {v v1 v2 : tV} {r1 r2 : Int32} (kd : Int32) (so : Int32) (lo : Int32) (ak : Int32) (fa : Int32) (wy : Int32) (hI : Inv v) (hR : RelS v) (hI1 : Inv v1) (hK1 : Kp (kp_X10_ship_0 kd so lo ak fa wy) v v1) (hE1 : (r1, v1) = f_X10_ship_0 v kd so lo ak fa wy) (hI2 : Inv v2) (hK2 : Kp (kp_X11_ship_400 kd so lo ak fa wy) v1 v2) (hE2 : (r2, v2) = f_X11_ship_400 v1 kd so lo ak fa wy) : RelS v2 := by
  have g1 := rel_glue1 hR (fun a j h => hK1 a j (by unfold kp_X10_ship_0; omega))
  have hs := sim_ship g1 hI kd so lo ak fa wy
  rw [← hE1, ← hE2] at hs
  exact rel_glue2 hs.1 (fun a j h => hK2 a j (by unfold kp_X11_ship_400; omega))
theorem ans_ship {v v1 v2 : tV} {r1 r2 : Int32} (kd : Int32) (so : Int32) (lo : Int32) (ak : Int32) (fa : Int32) (wy : Int32) (hI : Inv v) (hR : RelS v) (hI1 : Inv v1) (hK1 : Kp (kp_X10_ship_0 kd so lo ak fa wy) v v1) (hE1 : (r1, v1) = f_X10_ship_0 v kd so lo ak fa wy) (hI2 : Inv v2) (hK2 : Kp (kp_X11_ship_400 kd so lo ak fa wy) v1 v2) (hE2 : (r2, v2) = f_X11_ship_400 v1 kd so lo ak fa wy) : r1 = r2 := by
  have g1 := rel_glue1 hR (fun a j h => hK1 a j (by unfold kp_X10_ship_0; omega))
  have hs := sim_ship g1 hI kd so lo ak fa wy
  rw [← hE1, ← hE2] at hs
  exact hs.2
theorem rel_ask {v v1 v2 : tV} {r1 r2 : Int32} (si : Int32) (ak : Int32) (hI : Inv v) (hR : RelS v) (hI1 : Inv v1) (hK1 : Kp (kp_X10_ask_0 si ak) v v1) (hE1 : (r1, v1) = f_X10_ask_0 v si ak) (hI2 : Inv v2) (hK2 : Kp (kp_X11_ask_400 si ak) v1 v2) (hE2 : (r2, v2) = f_X11_ask_400 v1 si ak) : RelS v2 := by
  have g1 := rel_glue1 hR (fun a j h => hK1 a j (by unfold kp_X10_ask_0; omega))
  have hs := sim_ask g1 hI si ak
  rw [← hE1, ← hE2] at hs
  exact rel_glue2 hs.1 (fun a j h => hK2 a j (by unfold kp_X11_ask_400; omega))
theorem ans_ask {v v1 v2 : tV} {r1 r2 : Int32} (si : Int32) (ak : Int32) (hI : Inv v) (hR : RelS v) (hI1 : Inv v1) (hK1 : Kp (kp_X10_ask_0 si ak) v v1) (hE1 : (r1, v1) = f_X10_ask_0 v si ak) (hI2 : Inv v2) (hK2 : Kp (kp_X11_ask_400 si ak) v1 v2) (hE2 : (r2, v2) = f_X11_ask_400 v1 si ak) : r1 = r2 := by
  have g1 := rel_glue1 hR (fun a j h => hK1 a j (by unfold kp_X10_ask_0; omega))
  have hs := sim_ask g1 hI si ak
  rw [← hE1, ← hE2] at hs
  exact hs.2
theorem rel_wreck {v v1 v2 : tV} {r1 r2 : Int32} (si : Int32) (sv : Int32) (hI : Inv v) (hR : RelS v) (hI1 : Inv v1) (hK1 : Kp (kp_X10_wreck_0 si sv) v v1) (hE1 : (r1, v1) = f_X10_wreck_0 v si sv) (hI2 : Inv v2) (hK2 : Kp (kp_X11_wreck_400 si sv) v1 v2) (hE2 : (r2, v2) = f_X11_wreck_400 v1 si sv) : RelS v2 :=
  rel_kp hR (fun a b c d hp => ⟨(hK2 a b (by unfold PR at hp; unfold kp_X11_wreck_400; omega)).trans (hK1 a b (by unfold PR at hp; unfold kp_X10_wreck_0; omega)), (hK2 c d (by unfold PR at hp; unfold kp_X11_wreck_400; omega)).trans (hK1 c d (by unfold PR at hp; unfold kp_X10_wreck_0; omega))⟩)
theorem rel_goOn {v v1 v2 : tV} {r1 r2 : Int32} (si : Int32) (hI : Inv v) (hR : RelS v) (hI1 : Inv v1) (hK1 : Kp (kp_X10_goOn_0 si) v v1) (hE1 : (r1, v1) = f_X10_goOn_0 v si) (hI2 : Inv v2) (hK2 : Kp (kp_X11_goOn_400 si) v1 v2) (hE2 : (r2, v2) = f_X11_goOn_400 v1 si) : RelS v2 :=
  rel_kp hR (fun a b c d hp => ⟨(hK2 a b (by unfold PR at hp; unfold kp_X11_goOn_400; omega)).trans (hK1 a b (by unfold PR at hp; unfold kp_X10_goOn_0; omega)), (hK2 c d (by unfold PR at hp; unfold kp_X11_goOn_400; omega)).trans (hK1 c d (by unfold PR at hp; unfold kp_X10_goOn_0; omega))⟩)
theorem rel_buyer {v v1 v2 : tV} {r1 r2 : Int32} (wd : Int32) (so : Int32) (wt : Int32) (bd : Int32) (hI : Inv v) (hR : RelS v) (hI1 : Inv v1) (hK1 : Kp (kp_X10_buyer_0 wd so wt bd) v v1) (hE1 : (r1, v1) = f_X10_buyer_0 v wd so wt bd) (hI2 : Inv v2) (hK2 : Kp (kp_X11_buyer_400 wd so wt bd) v1 v2) (hE2 : (r2, v2) = f_X11_buyer_400 v1 wd so wt bd) : RelS v2 := by
  have g1 := rel_glue1 hR (fun a j h => hK1 a j (by unfold kp_X10_buyer_0; omega))
  have hs := sim_buyer g1 hI wd so wt bd
  rw [← hE1, ← hE2] at hs
  exact rel_glue2 hs.1 (fun a j h => hK2 a j (by unfold kp_X11_buyer_400; omega))
theorem ans_buyer {v v1 v2 : tV} {r1 r2 : Int32} (wd : Int32) (so : Int32) (wt : Int32) (bd : Int32) (hI : Inv v) (hR : RelS v) (hI1 : Inv v1) (hK1 : Kp (kp_X10_buyer_0 wd so wt bd) v v1) (hE1 : (r1, v1) = f_X10_buyer_0 v wd so wt bd) (hI2 : Inv v2) (hK2 : Kp (kp_X11_buyer_400 wd so wt bd) v1 v2) (hE2 : (r2, v2) = f_X11_buyer_400 v1 wd so wt bd) : r1 = r2 := by
  have g1 := rel_glue1 hR (fun a j h => hK1 a j (by unfold kp_X10_buyer_0; omega))
  have hs := sim_buyer g1 hI wd so wt bd
  rw [← hE1, ← hE2] at hs
  exact hs.2
theorem rel_want {v v1 v2 : tV} {r1 r2 : Int32} (bi : Int32) (wt : Int32) (bd : Int32) (hI : Inv v) (hR : RelS v) (hI1 : Inv v1) (hK1 : Kp (kp_X10_want_0 bi wt bd) v v1) (hE1 : (r1, v1) = f_X10_want_0 v bi wt bd) (hI2 : Inv v2) (hK2 : Kp (kp_X11_want_400 bi wt bd) v1 v2) (hE2 : (r2, v2) = f_X11_want_400 v1 bi wt bd) : RelS v2 :=
  rel_kp hR (fun a b c d hp => ⟨(hK2 a b (by unfold PR at hp; unfold kp_X11_want_400; omega)).trans (hK1 a b (by unfold PR at hp; unfold kp_X10_want_0; omega)), (hK2 c d (by unfold PR at hp; unfold kp_X11_want_400; omega)).trans (hK1 c d (by unfold PR at hp; unfold kp_X10_want_0; omega))⟩)
theorem rel_burn {v v1 v2 : tV} {r1 r2 : Int32} (wd : Int32) (co : Int32) (am : Int32) (hI : Inv v) (hR : RelS v) (hI1 : Inv v1) (hK1 : Kp (kp_X10_burn_0 wd co am) v v1) (hE1 : (r1, v1) = f_X10_burn_0 v wd co am) (hI2 : Inv v2) (hK2 : Kp (kp_X11_burn_400 wd co am) v1 v2) (hE2 : (r2, v2) = f_X11_burn_400 v1 wd co am) : RelS v2 := by
  have g1 := rel_glue1 hR (fun a j h => hK1 a j (by unfold kp_X10_burn_0; omega))
  have hs := sim_burn g1 wd co am
  rw [← hE1, ← hE2] at hs
  exact rel_glue2 hs.1 (fun a j h => hK2 a j (by unfold kp_X11_burn_400; omega))
theorem ans_burn {v v1 v2 : tV} {r1 r2 : Int32} (wd : Int32) (co : Int32) (am : Int32) (hI : Inv v) (hR : RelS v) (hI1 : Inv v1) (hK1 : Kp (kp_X10_burn_0 wd co am) v v1) (hE1 : (r1, v1) = f_X10_burn_0 v wd co am) (hI2 : Inv v2) (hK2 : Kp (kp_X11_burn_400 wd co am) v1 v2) (hE2 : (r2, v2) = f_X11_burn_400 v1 wd co am) : r1 = r2 := by
  have g1 := rel_glue1 hR (fun a j h => hK1 a j (by unfold kp_X10_burn_0; omega))
  have hs := sim_burn g1 wd co am
  rw [← hE1, ← hE2] at hs
  exact hs.2
theorem rel_store {v v1 v2 : tV} {r1 r2 : Int32} (wd : Int32) (mo : Int32) (hI : Inv v) (hR : RelS v) (hI1 : Inv v1) (hK1 : Kp (kp_X10_store_0 wd mo) v v1) (hE1 : (r1, v1) = f_X10_store_0 v wd mo) (hI2 : Inv v2) (hK2 : Kp (kp_X11_store_400 wd mo) v1 v2) (hE2 : (r2, v2) = f_X11_store_400 v1 wd mo) : RelS v2 :=
  rel_kp hR (fun a b c d hp => ⟨(hK2 a b (by unfold PR at hp; unfold kp_X11_store_400; omega)).trans (hK1 a b (by unfold PR at hp; unfold kp_X10_store_0; omega)), (hK2 c d (by unfold PR at hp; unfold kp_X11_store_400; omega)).trans (hK1 c d (by unfold PR at hp; unfold kp_X10_store_0; omega))⟩)
theorem rel_feed {v v1 v2 : tV} {r1 r2 : Int32} (w : Int64) (cnt : Int32) (hI : Inv v) (hR : RelS v) (hI1 : Inv v1) (hK1 : Kp (kp_X10_feed_0 w cnt) v v1) (hE1 : (r1, v1) = f_X10_feed_0 v w cnt) (hI2 : Inv v2) (hK2 : Kp (kp_X11_feed_400 w cnt) v1 v2) (hE2 : (r2, v2) = f_X11_feed_400 v1 w cnt) : RelS v2 :=
  rel_kp hR (fun a b c d hp => ⟨(hK2 a b (by unfold PR at hp; unfold kp_X11_feed_400; omega)).trans (hK1 a b (by unfold PR at hp; unfold kp_X10_feed_0; omega)), (hK2 c d (by unfold PR at hp; unfold kp_X11_feed_400; omega)).trans (hK1 c d (by unfold PR at hp; unfold kp_X10_feed_0; omega))⟩)
theorem rel_order {v v1 v2 : tV} {r1 r2 : Int32} (dy : Int32) (hI : Inv v) (hR : RelS v) (hI1 : Inv v1) (hK1 : Kp (kp_X10_order_0 dy) v v1) (hE1 : (r1, v1) = f_X10_order_0 v dy) (hI2 : Inv v2) (hK2 : Kp (kp_X11_order_400 dy) v1 v2) (hE2 : (r2, v2) = f_X11_order_400 v1 dy) : RelS v2 :=
  rel_kp hR (fun a b c d hp => ⟨(hK2 a b (by unfold PR at hp; unfold kp_X11_order_400; omega)).trans (hK1 a b (by unfold PR at hp; unfold kp_X10_order_0; omega)), (hK2 c d (by unfold PR at hp; unfold kp_X11_order_400; omega)).trans (hK1 c d (by unfold PR at hp; unfold kp_X10_order_0; omega))⟩)
theorem rel_turn {v v1 v2 : tV} {r1 r2 : Int32} (ti : Int32) (hI : Inv v) (hR : RelS v) (hI1 : Inv v1) (hK1 : Kp (kp_X10_turn_0 ti) v v1) (hE1 : (r1, v1) = f_X10_turn_0 v ti) (hI2 : Inv v2) (hK2 : Kp (kp_X11_turn_400 ti) v1 v2) (hE2 : (r2, v2) = f_X11_turn_400 v1 ti) : RelS v2 :=
  rel_kp hR (fun a b c d hp => ⟨(hK2 a b (by unfold PR at hp; unfold kp_X11_turn_400; omega)).trans (hK1 a b (by unfold PR at hp; unfold kp_X10_turn_0; omega)), (hK2 c d (by unfold PR at hp; unfold kp_X11_turn_400; omega)).trans (hK1 c d (by unfold PR at hp; unfold kp_X10_turn_0; omega))⟩)
theorem rel_day {v v1 v2 : tV} {r1 r2 : Int32} (wi : Int32) (co : Int32) (fr : Int32) (hI : Inv v) (hR : RelS v) (hI1 : Inv v1) (hK1 : Kp (kp_X10_day_0 wi co fr) v v1) (hE1 : (r1, v1) = f_X10_day_0 v wi co fr) (hI2 : Inv v2) (hK2 : Kp (kp_X11_day_400 wi co fr) v1 v2) (hE2 : (r2, v2) = f_X11_day_400 v1 wi co fr) : RelS v2 :=
  rel_kp hR (fun a b c d hp => ⟨(hK2 a b (by unfold PR at hp; unfold kp_X11_day_400; omega)).trans (hK1 a b (by unfold PR at hp; unfold kp_X10_day_0; omega)), (hK2 c d (by unfold PR at hp; unfold kp_X11_day_400; omega)).trans (hK1 c d (by unfold PR at hp; unfold kp_X10_day_0; omega))⟩)
theorem rel_clear {v v1 v2 : tV} {r1 r2 : Int32} (gg : Int32) (hI : Inv v) (hR : RelS v) (hI1 : Inv v1) (hK1 : Kp (kp_X10_clear_0 gg) v v1) (hE1 : (r1, v1) = f_X10_clear_0 v gg) (hI2 : Inv v2) (hK2 : Kp (kp_X11_clear_400 gg) v1 v2) (hE2 : (r2, v2) = f_X11_clear_400 v1 gg) : RelS v2 :=
  rel_kp hR (fun a b c d hp => ⟨(hK2 a b (by unfold PR at hp; unfold kp_X11_clear_400; omega)).trans (hK1 a b (by unfold PR at hp; unfold kp_X10_clear_0; omega)), (hK2 c d (by unfold PR at hp; unfold kp_X11_clear_400; omega)).trans (hK1 c d (by unfold PR at hp; unfold kp_X10_clear_0; omega))⟩)
theorem rel_held {v v1 v2 : tV} {r1 r2 : Int32} (si : Int32) (hI : Inv v) (hR : RelS v) (hI1 : Inv v1) (hK1 : Kp (kp_X10_held_0 si) v v1) (hE1 : (r1, v1) = f_X10_held_0 v si) (hI2 : Inv v2) (hK2 : Kp (kp_X11_held_400 si) v1 v2) (hE2 : (r2, v2) = f_X11_held_400 v1 si) : RelS v2 :=
  rel_kp hR (fun a b c d hp => ⟨(hK2 a b (by unfold PR at hp; unfold kp_X11_held_400; omega)).trans (hK1 a b (by unfold PR at hp; unfold kp_X10_held_0; omega)), (hK2 c d (by unfold PR at hp; unfold kp_X11_held_400; omega)).trans (hK1 c d (by unfold PR at hp; unfold kp_X10_held_0; omega))⟩)
theorem rel_measure {v v1 v2 : tV} {r1 r2 : Int32} (lo : Int32) (hi : Int32) (hI : Inv v) (hR : RelS v) (hI1 : Inv v1) (hK1 : Kp (kp_X10_measure_0 lo hi) v v1) (hE1 : (r1, v1) = f_X10_measure_0 v lo hi) (hI2 : Inv v2) (hK2 : Kp (kp_X11_measure_400 lo hi) v1 v2) (hE2 : (r2, v2) = f_X11_measure_400 v1 lo hi) : RelS v2 := by
  have g1 := rel_glue1 hR (fun a j h => hK1 a j (by unfold kp_X10_measure_0; omega))
  have hs := sim_measure g1 lo hi
  rw [← hE1, ← hE2] at hs
  exact rel_glue2 hs.1 (fun a j h => hK2 a j (by unfold kp_X11_measure_400; omega))
theorem ans_measure {v v1 v2 : tV} {r1 r2 : Int32} (lo : Int32) (hi : Int32) (hI : Inv v) (hR : RelS v) (hI1 : Inv v1) (hK1 : Kp (kp_X10_measure_0 lo hi) v v1) (hE1 : (r1, v1) = f_X10_measure_0 v lo hi) (hI2 : Inv v2) (hK2 : Kp (kp_X11_measure_400 lo hi) v1 v2) (hE2 : (r2, v2) = f_X11_measure_400 v1 lo hi) : r1 = r2 := by
  have g1 := rel_glue1 hR (fun a j h => hK1 a j (by unfold kp_X10_measure_0; omega))
  have hs := sim_measure g1 lo hi
  rw [← hE1, ← hE2] at hs
  exact hs.2
theorem rel_tried {v v1 v2 : tV} {r1 r2 : Int32} (od : Int32) (dn : Int32) (wi : Int32) (co : Int32) (wh : Int32) (hI : Inv v) (hR : RelS v) (hI1 : Inv v1) (hK1 : Kp (kp_X10_tried_0 od dn wi co wh) v v1) (hE1 : (r1, v1) = f_X10_tried_0 v od dn wi co wh) (hI2 : Inv v2) (hK2 : Kp (kp_X11_tried_400 od dn wi co wh) v1 v2) (hE2 : (r2, v2) = f_X11_tried_400 v1 od dn wi co wh) : RelS v2 :=
  rel_kp hR (fun a b c d hp => ⟨(hK2 a b (by unfold PR at hp; unfold kp_X11_tried_400; omega)).trans (hK1 a b (by unfold PR at hp; unfold kp_X10_tried_0; omega)), (hK2 c d (by unfold PR at hp; unfold kp_X11_tried_400; omega)).trans (hK1 c d (by unfold PR at hp; unfold kp_X10_tried_0; omega))⟩)
theorem ans_weighed (si kk we wh : Int32) {v : tV} (hI : Inv v) (hR : RelS v) : f_X10_weighed_0 v si kk we wh = f_X11_weighed_400 v si kk we wh := eq_weighed hR hI si kk we wh
