def f0c : AC := .inl (1, [vI 0, vI 0, vI 0, vI 0, vI 0, vI 1, vI 1, vI 0, vI 1])
def ab_fm : Nat → AB
  | 0 => ab_nil
  | i + 1 => ab_upd 8 (ab_upd 8 (ab_fm i) i (.inl (1, ab_dfl 1))) i f0c
set_option maxRecDepth 100000 in
theorem t_init (d : Nat) {p0 p1 p2 p3 p4 p5 p6 p7 p8 p9 p10 p11 p12 p13 : AB} : ab_Ex (d + 1) 2 yX3_init [vR 14 0] (2, p0 :: p1 :: p2 :: p3 :: p4 :: p5 :: p6 :: p7 :: p8 :: p9 :: p10 :: p11 :: p12 :: p13 :: (fun _ => .inl (3, ab_dfl 3)) :: ab_nil :: ab_nil :: ab_nil :: ab_nil :: ab_nil :: ab_nil :: ab_nil :: ab_nil :: ab_nil :: ab_nil :: ab_nil :: ab_nil :: ab_nil :: ab_nil :: ab_nil :: ab_nil :: ab_nil :: ab_nil :: ab_nil :: ab_nil :: ab_nil :: ab_nil :: ab_nil :: ab_nil :: ab_nil :: ab_nil :: ab_nil :: ab_nil :: ab_nil :: ab_nil :: ab_nil :: ab_nil :: ab_nil :: ab_nil :: []) none (4, p0 :: p1 :: p2 :: p3 :: p4 :: p5 :: p6 :: p7 :: p8 :: p9 :: p10 :: p11 :: p12 :: p13 :: (fun _ => .inl (3, [vR 15 0, vI 0, vI 0, vI 0, vI 0, vR 16 0])) :: (fun _ => .inr (.inl (64, fun _ => 0))) :: (fun _ => .inr (.inl (6, fun _ => 0))) :: ab_nil :: ab_nil :: ab_nil :: ab_nil :: ab_nil :: ab_nil :: ab_nil :: ab_nil :: ab_nil :: ab_nil :: ab_nil :: ab_nil :: ab_nil :: ab_nil :: ab_nil :: ab_nil :: ab_nil :: ab_nil :: ab_nil :: ab_nil :: ab_nil :: ab_nil :: ab_nil :: ab_nil :: ab_nil :: ab_nil :: ab_nil :: ab_nil :: ab_nil :: ab_nil :: ab_nil :: ab_nil :: []) := by
  refine ab_meth oX3_init d _ _ _ _ (Nat.le_of_ble_eq_true rfl) rfl (fun E => ?_)
  refine ab_run [] 100 oX3_init.1 (Nat.le_of_ble_eq_true rfl) 0 ?_
  refine ⟨⟨by decide, rfl⟩, ?_⟩
  refine ⟨⟨by decide, rfl⟩, ?_⟩
  exact ⟨rfl, rfl⟩
set_option maxRecDepth 100000 in
theorem b_init_17 (d : Nat) {p0 p1 p2 p3 p4 p5 p6 p7 p8 p9 p10 p11 p12 p13 p14 p15 p16 : AB} : ab_Ex (d + 2) 2 yX0_init [vR 17 0] (5, p0 :: p1 :: p2 :: p3 :: p4 :: p5 :: p6 :: p7 :: p8 :: p9 :: p10 :: p11 :: p12 :: p13 :: p14 :: p15 :: p16 :: (fun _ => .inl (0, ab_dfl 0)) :: ab_nil :: ab_nil :: ab_nil :: ab_nil :: ab_nil :: ab_nil :: ab_nil :: ab_nil :: ab_nil :: ab_nil :: ab_nil :: ab_nil :: ab_nil :: ab_nil :: ab_nil :: ab_nil :: ab_nil :: ab_nil :: ab_nil :: ab_nil :: ab_nil :: ab_nil :: ab_nil :: ab_nil :: ab_nil :: ab_nil :: ab_nil :: ab_nil :: ab_nil :: ab_nil :: ab_nil :: []) none (19, p0 :: p1 :: p2 :: p3 :: p4 :: p5 :: p6 :: p7 :: p8 :: p9 :: p10 :: p11 :: p12 :: p13 :: p14 :: p15 :: p16 :: (fun _ => .inl (0, [vI 44, vI 108, vR 18 0, vI 0, vR 19 0, vI 0, vR 21 0, vI 0, vI (-9), vR 22 0, vR 23 0, vR 24 0, vI 0])) :: (fun _ => .inr (.inl (5, fun _ => 0))) :: (fun _ => .inr (.inr (8, ab_fa 20))) :: ab_fm 8 :: (fun _ => .inr (.inl (4, upd (fun _ => 0) 3 30))) :: (fun _ => .inr (.inl (8, fun _ => 0))) :: (fun _ => .inr (.inl (8, fun _ => 0))) :: (fun _ => .inr (.inl (8, fun _ => 0))) :: ab_nil :: ab_nil :: ab_nil :: ab_nil :: ab_nil :: ab_nil :: ab_nil :: ab_nil :: ab_nil :: ab_nil :: ab_nil :: ab_nil :: ab_nil :: ab_nil :: ab_nil :: ab_nil :: ab_nil :: ab_nil :: ab_nil :: ab_nil :: ab_nil :: ab_nil :: ab_nil :: ab_nil :: []) := by
  refine ab_meth oX0_init (d + 1) _ _ _ _ (Nat.le_of_ble_eq_true rfl) rfl (fun E => ?_)
  refine ab_run [] 400 oX0_init.1 (Nat.le_of_ble_eq_true rfl) 0 ?_
  refine ⟨⟨by decide, rfl⟩, ?_⟩
  refine ⟨⟨by decide, rfl⟩, ?_⟩
  refine ⟨fun q => absurd q (by decide), fun _ => ?_⟩
  refine ⟨_, _, f_init d _ (Nat.le_of_ble_eq_true rfl) rfl 20 0 ⟨Nat.le_of_ble_eq_true rfl, Nat.le_of_ble_eq_true rfl, Nat.le_of_ble_eq_true rfl⟩ rfl, Nat.le_of_ble_eq_true rfl, ?_⟩
  refine ⟨⟨Nat.le_of_ble_eq_true rfl, Nat.le_of_ble_eq_true rfl⟩, ?_⟩
  refine ⟨vp_d rfl, ?_⟩
  refine ⟨fun q => absurd q (by decide), fun _ => ?_⟩
  refine ⟨_, _, f_init d _ (Nat.le_of_ble_eq_true rfl) rfl 20 1 ⟨Nat.le_of_ble_eq_true rfl, Nat.le_of_ble_eq_true rfl, Nat.le_of_ble_eq_true rfl⟩ rfl, Nat.le_of_ble_eq_true rfl, ?_⟩
  refine ⟨⟨Nat.le_of_ble_eq_true rfl, Nat.le_of_ble_eq_true rfl⟩, ?_⟩
  refine ⟨vp_d rfl, ?_⟩
  refine ⟨fun q => absurd q (by decide), fun _ => ?_⟩
  refine ⟨_, _, f_init d _ (Nat.le_of_ble_eq_true rfl) rfl 20 2 ⟨Nat.le_of_ble_eq_true rfl, Nat.le_of_ble_eq_true rfl, Nat.le_of_ble_eq_true rfl⟩ rfl, Nat.le_of_ble_eq_true rfl, ?_⟩
  refine ⟨⟨Nat.le_of_ble_eq_true rfl, Nat.le_of_ble_eq_true rfl⟩, ?_⟩
  refine ⟨vp_d rfl, ?_⟩
  refine ⟨fun q => absurd q (by decide), fun _ => ?_⟩
  refine ⟨_, _, f_init d _ (Nat.le_of_ble_eq_true rfl) rfl 20 3 ⟨Nat.le_of_ble_eq_true rfl, Nat.le_of_ble_eq_true rfl, Nat.le_of_ble_eq_true rfl⟩ rfl, Nat.le_of_ble_eq_true rfl, ?_⟩
  refine ⟨⟨Nat.le_of_ble_eq_true rfl, Nat.le_of_ble_eq_true rfl⟩, ?_⟩
  refine ⟨vp_d rfl, ?_⟩
  refine ⟨fun q => absurd q (by decide), fun _ => ?_⟩
  refine ⟨_, _, f_init d _ (Nat.le_of_ble_eq_true rfl) rfl 20 4 ⟨Nat.le_of_ble_eq_true rfl, Nat.le_of_ble_eq_true rfl, Nat.le_of_ble_eq_true rfl⟩ rfl, Nat.le_of_ble_eq_true rfl, ?_⟩
  refine ⟨⟨Nat.le_of_ble_eq_true rfl, Nat.le_of_ble_eq_true rfl⟩, ?_⟩
  refine ⟨vp_d rfl, ?_⟩
  refine ⟨fun q => absurd q (by decide), fun _ => ?_⟩
  refine ⟨_, _, f_init d _ (Nat.le_of_ble_eq_true rfl) rfl 20 5 ⟨Nat.le_of_ble_eq_true rfl, Nat.le_of_ble_eq_true rfl, Nat.le_of_ble_eq_true rfl⟩ rfl, Nat.le_of_ble_eq_true rfl, ?_⟩
  refine ⟨⟨Nat.le_of_ble_eq_true rfl, Nat.le_of_ble_eq_true rfl⟩, ?_⟩
  refine ⟨vp_d rfl, ?_⟩
  refine ⟨fun q => absurd q (by decide), fun _ => ?_⟩
  refine ⟨_, _, f_init d _ (Nat.le_of_ble_eq_true rfl) rfl 20 6 ⟨Nat.le_of_ble_eq_true rfl, Nat.le_of_ble_eq_true rfl, Nat.le_of_ble_eq_true rfl⟩ rfl, Nat.le_of_ble_eq_true rfl, ?_⟩
  refine ⟨⟨Nat.le_of_ble_eq_true rfl, Nat.le_of_ble_eq_true rfl⟩, ?_⟩
  refine ⟨vp_d rfl, ?_⟩
  refine ⟨fun q => absurd q (by decide), fun _ => ?_⟩
  refine ⟨_, _, f_init d _ (Nat.le_of_ble_eq_true rfl) rfl 20 7 ⟨Nat.le_of_ble_eq_true rfl, Nat.le_of_ble_eq_true rfl, Nat.le_of_ble_eq_true rfl⟩ rfl, Nat.le_of_ble_eq_true rfl, ?_⟩
  refine ⟨⟨Nat.le_of_ble_eq_true rfl, Nat.le_of_ble_eq_true rfl⟩, ?_⟩
  refine ⟨vp_d rfl, ?_⟩
  refine ⟨fun _ => ?_, fun q => absurd (by decide) q⟩
  refine ⟨⟨by decide, rfl⟩, ?_⟩
  refine ⟨vp_d rfl, ?_⟩
  refine ⟨⟨by decide, rfl⟩, ?_⟩
  refine ⟨⟨by decide, rfl⟩, ?_⟩
  refine ⟨⟨by decide, rfl⟩, ?_⟩
  exact ⟨rfl, rfl⟩
set_option maxRecDepth 100000 in
theorem b_init_25 (d : Nat) {p0 p1 p2 p3 p4 p5 p6 p7 p8 p9 p10 p11 p12 p13 p14 p15 p16 p17 p18 p19 p20 p21 p22 p23 p24 : AB} : ab_Ex (d + 2) 2 yX0_init [vR 25 0] (20, p0 :: p1 :: p2 :: p3 :: p4 :: p5 :: p6 :: p7 :: p8 :: p9 :: p10 :: p11 :: p12 :: p13 :: p14 :: p15 :: p16 :: p17 :: p18 :: p19 :: p20 :: p21 :: p22 :: p23 :: p24 :: (fun _ => .inl (0, ab_dfl 0)) :: ab_nil :: ab_nil :: ab_nil :: ab_nil :: ab_nil :: ab_nil :: ab_nil :: ab_nil :: ab_nil :: ab_nil :: ab_nil :: ab_nil :: ab_nil :: ab_nil :: ab_nil :: ab_nil :: ab_nil :: ab_nil :: ab_nil :: ab_nil :: ab_nil :: ab_nil :: ab_nil :: []) none (34, p0 :: p1 :: p2 :: p3 :: p4 :: p5 :: p6 :: p7 :: p8 :: p9 :: p10 :: p11 :: p12 :: p13 :: p14 :: p15 :: p16 :: p17 :: p18 :: p19 :: p20 :: p21 :: p22 :: p23 :: p24 :: (fun _ => .inl (0, [vI 44, vI 108, vR 26 0, vI 0, vR 27 0, vI 0, vR 29 0, vI 0, vI (-9), vR 30 0, vR 31 0, vR 32 0, vI 0])) :: (fun _ => .inr (.inl (5, fun _ => 0))) :: (fun _ => .inr (.inr (8, ab_fa 28))) :: ab_fm 8 :: (fun _ => .inr (.inl (4, upd (fun _ => 0) 3 30))) :: (fun _ => .inr (.inl (8, fun _ => 0))) :: (fun _ => .inr (.inl (8, fun _ => 0))) :: (fun _ => .inr (.inl (8, fun _ => 0))) :: ab_nil :: ab_nil :: ab_nil :: ab_nil :: ab_nil :: ab_nil :: ab_nil :: ab_nil :: ab_nil :: ab_nil :: ab_nil :: ab_nil :: ab_nil :: ab_nil :: ab_nil :: ab_nil :: []) := by
  refine ab_meth oX0_init (d + 1) _ _ _ _ (Nat.le_of_ble_eq_true rfl) rfl (fun E => ?_)
  refine ab_run [] 400 oX0_init.1 (Nat.le_of_ble_eq_true rfl) 0 ?_
  refine ⟨⟨by decide, rfl⟩, ?_⟩
  refine ⟨⟨by decide, rfl⟩, ?_⟩
  refine ⟨fun q => absurd q (by decide), fun _ => ?_⟩
  refine ⟨_, _, f_init d _ (Nat.le_of_ble_eq_true rfl) rfl 28 0 ⟨Nat.le_of_ble_eq_true rfl, Nat.le_of_ble_eq_true rfl, Nat.le_of_ble_eq_true rfl⟩ rfl, Nat.le_of_ble_eq_true rfl, ?_⟩
  refine ⟨⟨Nat.le_of_ble_eq_true rfl, Nat.le_of_ble_eq_true rfl⟩, ?_⟩
  refine ⟨vp_d rfl, ?_⟩
  refine ⟨fun q => absurd q (by decide), fun _ => ?_⟩
  refine ⟨_, _, f_init d _ (Nat.le_of_ble_eq_true rfl) rfl 28 1 ⟨Nat.le_of_ble_eq_true rfl, Nat.le_of_ble_eq_true rfl, Nat.le_of_ble_eq_true rfl⟩ rfl, Nat.le_of_ble_eq_true rfl, ?_⟩
  refine ⟨⟨Nat.le_of_ble_eq_true rfl, Nat.le_of_ble_eq_true rfl⟩, ?_⟩
  refine ⟨vp_d rfl, ?_⟩
  refine ⟨fun q => absurd q (by decide), fun _ => ?_⟩
  refine ⟨_, _, f_init d _ (Nat.le_of_ble_eq_true rfl) rfl 28 2 ⟨Nat.le_of_ble_eq_true rfl, Nat.le_of_ble_eq_true rfl, Nat.le_of_ble_eq_true rfl⟩ rfl, Nat.le_of_ble_eq_true rfl, ?_⟩
  refine ⟨⟨Nat.le_of_ble_eq_true rfl, Nat.le_of_ble_eq_true rfl⟩, ?_⟩
  refine ⟨vp_d rfl, ?_⟩
  refine ⟨fun q => absurd q (by decide), fun _ => ?_⟩
  refine ⟨_, _, f_init d _ (Nat.le_of_ble_eq_true rfl) rfl 28 3 ⟨Nat.le_of_ble_eq_true rfl, Nat.le_of_ble_eq_true rfl, Nat.le_of_ble_eq_true rfl⟩ rfl, Nat.le_of_ble_eq_true rfl, ?_⟩
  refine ⟨⟨Nat.le_of_ble_eq_true rfl, Nat.le_of_ble_eq_true rfl⟩, ?_⟩
  refine ⟨vp_d rfl, ?_⟩
  refine ⟨fun q => absurd q (by decide), fun _ => ?_⟩
  refine ⟨_, _, f_init d _ (Nat.le_of_ble_eq_true rfl) rfl 28 4 ⟨Nat.le_of_ble_eq_true rfl, Nat.le_of_ble_eq_true rfl, Nat.le_of_ble_eq_true rfl⟩ rfl, Nat.le_of_ble_eq_true rfl, ?_⟩
  refine ⟨⟨Nat.le_of_ble_eq_true rfl, Nat.le_of_ble_eq_true rfl⟩, ?_⟩
  refine ⟨vp_d rfl, ?_⟩
  refine ⟨fun q => absurd q (by decide), fun _ => ?_⟩
  refine ⟨_, _, f_init d _ (Nat.le_of_ble_eq_true rfl) rfl 28 5 ⟨Nat.le_of_ble_eq_true rfl, Nat.le_of_ble_eq_true rfl, Nat.le_of_ble_eq_true rfl⟩ rfl, Nat.le_of_ble_eq_true rfl, ?_⟩
  refine ⟨⟨Nat.le_of_ble_eq_true rfl, Nat.le_of_ble_eq_true rfl⟩, ?_⟩
  refine ⟨vp_d rfl, ?_⟩
  refine ⟨fun q => absurd q (by decide), fun _ => ?_⟩
  refine ⟨_, _, f_init d _ (Nat.le_of_ble_eq_true rfl) rfl 28 6 ⟨Nat.le_of_ble_eq_true rfl, Nat.le_of_ble_eq_true rfl, Nat.le_of_ble_eq_true rfl⟩ rfl, Nat.le_of_ble_eq_true rfl, ?_⟩
  refine ⟨⟨Nat.le_of_ble_eq_true rfl, Nat.le_of_ble_eq_true rfl⟩, ?_⟩
  refine ⟨vp_d rfl, ?_⟩
  refine ⟨fun q => absurd q (by decide), fun _ => ?_⟩
  refine ⟨_, _, f_init d _ (Nat.le_of_ble_eq_true rfl) rfl 28 7 ⟨Nat.le_of_ble_eq_true rfl, Nat.le_of_ble_eq_true rfl, Nat.le_of_ble_eq_true rfl⟩ rfl, Nat.le_of_ble_eq_true rfl, ?_⟩
  refine ⟨⟨Nat.le_of_ble_eq_true rfl, Nat.le_of_ble_eq_true rfl⟩, ?_⟩
  refine ⟨vp_d rfl, ?_⟩
  refine ⟨fun _ => ?_, fun q => absurd (by decide) q⟩
  refine ⟨⟨by decide, rfl⟩, ?_⟩
  refine ⟨vp_d rfl, ?_⟩
  refine ⟨⟨by decide, rfl⟩, ?_⟩
  refine ⟨⟨by decide, rfl⟩, ?_⟩
  refine ⟨⟨by decide, rfl⟩, ?_⟩
  exact ⟨rfl, rfl⟩
set_option maxRecDepth 100000 in
theorem b_init_33 (d : Nat) {p0 p1 p2 p3 p4 p5 p6 p7 p8 p9 p10 p11 p12 p13 p14 p15 p16 p17 p18 p19 p20 p21 p22 p23 p24 p25 p26 p27 p28 p29 p30 p31 p32 : AB} : ab_Ex (d + 2) 2 yX0_init [vR 33 0] (35, p0 :: p1 :: p2 :: p3 :: p4 :: p5 :: p6 :: p7 :: p8 :: p9 :: p10 :: p11 :: p12 :: p13 :: p14 :: p15 :: p16 :: p17 :: p18 :: p19 :: p20 :: p21 :: p22 :: p23 :: p24 :: p25 :: p26 :: p27 :: p28 :: p29 :: p30 :: p31 :: p32 :: (fun _ => .inl (0, ab_dfl 0)) :: ab_nil :: ab_nil :: ab_nil :: ab_nil :: ab_nil :: ab_nil :: ab_nil :: ab_nil :: ab_nil :: ab_nil :: ab_nil :: ab_nil :: ab_nil :: ab_nil :: ab_nil :: []) none (49, p0 :: p1 :: p2 :: p3 :: p4 :: p5 :: p6 :: p7 :: p8 :: p9 :: p10 :: p11 :: p12 :: p13 :: p14 :: p15 :: p16 :: p17 :: p18 :: p19 :: p20 :: p21 :: p22 :: p23 :: p24 :: p25 :: p26 :: p27 :: p28 :: p29 :: p30 :: p31 :: p32 :: (fun _ => .inl (0, [vI 44, vI 108, vR 34 0, vI 0, vR 35 0, vI 0, vR 37 0, vI 0, vI (-9), vR 38 0, vR 39 0, vR 40 0, vI 0])) :: (fun _ => .inr (.inl (5, fun _ => 0))) :: (fun _ => .inr (.inr (8, ab_fa 36))) :: ab_fm 8 :: (fun _ => .inr (.inl (4, upd (fun _ => 0) 3 30))) :: (fun _ => .inr (.inl (8, fun _ => 0))) :: (fun _ => .inr (.inl (8, fun _ => 0))) :: (fun _ => .inr (.inl (8, fun _ => 0))) :: ab_nil :: ab_nil :: ab_nil :: ab_nil :: ab_nil :: ab_nil :: ab_nil :: ab_nil :: []) := by
  refine ab_meth oX0_init (d + 1) _ _ _ _ (Nat.le_of_ble_eq_true rfl) rfl (fun E => ?_)
  refine ab_run [] 400 oX0_init.1 (Nat.le_of_ble_eq_true rfl) 0 ?_
  refine ⟨⟨by decide, rfl⟩, ?_⟩
  refine ⟨⟨by decide, rfl⟩, ?_⟩
  refine ⟨fun q => absurd q (by decide), fun _ => ?_⟩
  refine ⟨_, _, f_init d _ (Nat.le_of_ble_eq_true rfl) rfl 36 0 ⟨Nat.le_of_ble_eq_true rfl, Nat.le_of_ble_eq_true rfl, Nat.le_of_ble_eq_true rfl⟩ rfl, Nat.le_of_ble_eq_true rfl, ?_⟩
  refine ⟨⟨Nat.le_of_ble_eq_true rfl, Nat.le_of_ble_eq_true rfl⟩, ?_⟩
  refine ⟨vp_d rfl, ?_⟩
  refine ⟨fun q => absurd q (by decide), fun _ => ?_⟩
  refine ⟨_, _, f_init d _ (Nat.le_of_ble_eq_true rfl) rfl 36 1 ⟨Nat.le_of_ble_eq_true rfl, Nat.le_of_ble_eq_true rfl, Nat.le_of_ble_eq_true rfl⟩ rfl, Nat.le_of_ble_eq_true rfl, ?_⟩
  refine ⟨⟨Nat.le_of_ble_eq_true rfl, Nat.le_of_ble_eq_true rfl⟩, ?_⟩
  refine ⟨vp_d rfl, ?_⟩
  refine ⟨fun q => absurd q (by decide), fun _ => ?_⟩
  refine ⟨_, _, f_init d _ (Nat.le_of_ble_eq_true rfl) rfl 36 2 ⟨Nat.le_of_ble_eq_true rfl, Nat.le_of_ble_eq_true rfl, Nat.le_of_ble_eq_true rfl⟩ rfl, Nat.le_of_ble_eq_true rfl, ?_⟩
  refine ⟨⟨Nat.le_of_ble_eq_true rfl, Nat.le_of_ble_eq_true rfl⟩, ?_⟩
  refine ⟨vp_d rfl, ?_⟩
  refine ⟨fun q => absurd q (by decide), fun _ => ?_⟩
  refine ⟨_, _, f_init d _ (Nat.le_of_ble_eq_true rfl) rfl 36 3 ⟨Nat.le_of_ble_eq_true rfl, Nat.le_of_ble_eq_true rfl, Nat.le_of_ble_eq_true rfl⟩ rfl, Nat.le_of_ble_eq_true rfl, ?_⟩
  refine ⟨⟨Nat.le_of_ble_eq_true rfl, Nat.le_of_ble_eq_true rfl⟩, ?_⟩
  refine ⟨vp_d rfl, ?_⟩
  refine ⟨fun q => absurd q (by decide), fun _ => ?_⟩
  refine ⟨_, _, f_init d _ (Nat.le_of_ble_eq_true rfl) rfl 36 4 ⟨Nat.le_of_ble_eq_true rfl, Nat.le_of_ble_eq_true rfl, Nat.le_of_ble_eq_true rfl⟩ rfl, Nat.le_of_ble_eq_true rfl, ?_⟩
  refine ⟨⟨Nat.le_of_ble_eq_true rfl, Nat.le_of_ble_eq_true rfl⟩, ?_⟩
  refine ⟨vp_d rfl, ?_⟩
  refine ⟨fun q => absurd q (by decide), fun _ => ?_⟩
  refine ⟨_, _, f_init d _ (Nat.le_of_ble_eq_true rfl) rfl 36 5 ⟨Nat.le_of_ble_eq_true rfl, Nat.le_of_ble_eq_true rfl, Nat.le_of_ble_eq_true rfl⟩ rfl, Nat.le_of_ble_eq_true rfl, ?_⟩
  refine ⟨⟨Nat.le_of_ble_eq_true rfl, Nat.le_of_ble_eq_true rfl⟩, ?_⟩
  refine ⟨vp_d rfl, ?_⟩
  refine ⟨fun q => absurd q (by decide), fun _ => ?_⟩
  refine ⟨_, _, f_init d _ (Nat.le_of_ble_eq_true rfl) rfl 36 6 ⟨Nat.le_of_ble_eq_true rfl, Nat.le_of_ble_eq_true rfl, Nat.le_of_ble_eq_true rfl⟩ rfl, Nat.le_of_ble_eq_true rfl, ?_⟩
  refine ⟨⟨Nat.le_of_ble_eq_true rfl, Nat.le_of_ble_eq_true rfl⟩, ?_⟩
  refine ⟨vp_d rfl, ?_⟩
  refine ⟨fun q => absurd q (by decide), fun _ => ?_⟩
  refine ⟨_, _, f_init d _ (Nat.le_of_ble_eq_true rfl) rfl 36 7 ⟨Nat.le_of_ble_eq_true rfl, Nat.le_of_ble_eq_true rfl, Nat.le_of_ble_eq_true rfl⟩ rfl, Nat.le_of_ble_eq_true rfl, ?_⟩
  refine ⟨⟨Nat.le_of_ble_eq_true rfl, Nat.le_of_ble_eq_true rfl⟩, ?_⟩
  refine ⟨vp_d rfl, ?_⟩
  refine ⟨fun _ => ?_, fun q => absurd (by decide) q⟩
  refine ⟨⟨by decide, rfl⟩, ?_⟩
  refine ⟨vp_d rfl, ?_⟩
  refine ⟨⟨by decide, rfl⟩, ?_⟩
  refine ⟨⟨by decide, rfl⟩, ?_⟩
  refine ⟨⟨by decide, rfl⟩, ?_⟩
  exact ⟨rfl, rfl⟩
set_option maxRecDepth 100000 in
theorem r_init_41 (d : Nat) {p0 p1 p2 p3 p4 p5 p6 p7 p8 p9 p10 p11 p12 p13 p14 p15 p16 p17 p18 p19 p20 p21 p22 p23 p24 p25 p26 p27 p28 p29 p30 p31 p32 p33 p34 p35 p36 p37 p38 p39 p40 : AB} : ab_Ex (d + 2) 2 yX2_init [vR 41 0, vR 17 0] (50, p0 :: p1 :: p2 :: p3 :: p4 :: p5 :: p6 :: p7 :: p8 :: p9 :: p10 :: p11 :: p12 :: p13 :: p14 :: p15 :: p16 :: p17 :: p18 :: p19 :: p20 :: p21 :: p22 :: p23 :: p24 :: p25 :: p26 :: p27 :: p28 :: p29 :: p30 :: p31 :: p32 :: p33 :: p34 :: p35 :: p36 :: p37 :: p38 :: p39 :: p40 :: (fun _ => .inl (2, ab_dfl 2)) :: ab_nil :: ab_nil :: ab_nil :: ab_nil :: ab_nil :: ab_nil :: ab_nil :: []) none (51, p0 :: p1 :: p2 :: p3 :: p4 :: p5 :: p6 :: p7 :: p8 :: p9 :: p10 :: p11 :: p12 :: p13 :: p14 :: p15 :: p16 :: p17 :: p18 :: p19 :: p20 :: p21 :: p22 :: p23 :: p24 :: p25 :: p26 :: p27 :: p28 :: p29 :: p30 :: p31 :: p32 :: p33 :: p34 :: p35 :: p36 :: p37 :: p38 :: p39 :: p40 :: (fun _ => .inl (2, [vR 17 0, vR 42 0, vI 0, vI 0, vI 0, vI 0, vI 0, vI 0])) :: (fun _ => f0c) :: ab_nil :: ab_nil :: ab_nil :: ab_nil :: ab_nil :: ab_nil :: []) := by
  refine ab_meth oX2_init (d + 1) _ _ _ _ (Nat.le_of_ble_eq_true rfl) rfl (fun E => ?_)
  refine ab_run [] 400 oX2_init.1 (Nat.le_of_ble_eq_true rfl) 0 ?_
  refine ⟨_, _, f_init d _ (Nat.le_of_ble_eq_true rfl) rfl 42 0 ⟨Nat.le_of_ble_eq_true rfl, Nat.le_of_ble_eq_true rfl, Nat.le_of_ble_eq_true rfl⟩ rfl, Nat.le_of_ble_eq_true rfl, ?_⟩
  exact ⟨rfl, rfl⟩
set_option maxRecDepth 100000 in
theorem r_init_43 (d : Nat) {p0 p1 p2 p3 p4 p5 p6 p7 p8 p9 p10 p11 p12 p13 p14 p15 p16 p17 p18 p19 p20 p21 p22 p23 p24 p25 p26 p27 p28 p29 p30 p31 p32 p33 p34 p35 p36 p37 p38 p39 p40 p41 p42 : AB} : ab_Ex (d + 2) 2 yX2_init [vR 43 0, vR 17 0] (52, p0 :: p1 :: p2 :: p3 :: p4 :: p5 :: p6 :: p7 :: p8 :: p9 :: p10 :: p11 :: p12 :: p13 :: p14 :: p15 :: p16 :: p17 :: p18 :: p19 :: p20 :: p21 :: p22 :: p23 :: p24 :: p25 :: p26 :: p27 :: p28 :: p29 :: p30 :: p31 :: p32 :: p33 :: p34 :: p35 :: p36 :: p37 :: p38 :: p39 :: p40 :: p41 :: p42 :: (fun _ => .inl (2, ab_dfl 2)) :: ab_nil :: ab_nil :: ab_nil :: ab_nil :: ab_nil :: []) none (53, p0 :: p1 :: p2 :: p3 :: p4 :: p5 :: p6 :: p7 :: p8 :: p9 :: p10 :: p11 :: p12 :: p13 :: p14 :: p15 :: p16 :: p17 :: p18 :: p19 :: p20 :: p21 :: p22 :: p23 :: p24 :: p25 :: p26 :: p27 :: p28 :: p29 :: p30 :: p31 :: p32 :: p33 :: p34 :: p35 :: p36 :: p37 :: p38 :: p39 :: p40 :: p41 :: p42 :: (fun _ => .inl (2, [vR 17 0, vR 44 0, vI 0, vI 0, vI 0, vI 0, vI 0, vI 0])) :: (fun _ => f0c) :: ab_nil :: ab_nil :: ab_nil :: ab_nil :: []) := by
  refine ab_meth oX2_init (d + 1) _ _ _ _ (Nat.le_of_ble_eq_true rfl) rfl (fun E => ?_)
  refine ab_run [] 400 oX2_init.1 (Nat.le_of_ble_eq_true rfl) 0 ?_
  refine ⟨_, _, f_init d _ (Nat.le_of_ble_eq_true rfl) rfl 44 0 ⟨Nat.le_of_ble_eq_true rfl, Nat.le_of_ble_eq_true rfl, Nat.le_of_ble_eq_true rfl⟩ rfl, Nat.le_of_ble_eq_true rfl, ?_⟩
  exact ⟨rfl, rfl⟩
def hX0 : AH := (1, ab_nil :: ab_nil :: ab_nil :: ab_nil :: ab_nil :: ab_nil :: ab_nil :: ab_nil :: ab_nil :: ab_nil :: ab_nil :: ab_nil :: ab_nil :: (fun _ => .inl (4, ab_dfl 4)) :: ab_nil :: ab_nil :: ab_nil :: ab_nil :: ab_nil :: ab_nil :: ab_nil :: ab_nil :: ab_nil :: ab_nil :: ab_nil :: ab_nil :: ab_nil :: ab_nil :: ab_nil :: ab_nil :: ab_nil :: ab_nil :: ab_nil :: ab_nil :: ab_nil :: ab_nil :: ab_nil :: ab_nil :: ab_nil :: ab_nil :: ab_nil :: ab_nil :: ab_nil :: ab_nil :: ab_nil :: ab_nil :: ab_nil :: ab_nil :: ab_nil :: [])
def xx0 : mA := fun b k => if b = 17 ∨ b = 25 ∨ b = 33 then (if k = 0 then 44 else if k = 1 then 108 else if k = 8 then -9 else 0) else if b = 42 ∨ b = 44 then (if k = 5 ∨ k = 6 ∨ k = 8 then 1 else 0) else 0
def xa0 : mA := fun b => if b = 21 ∨ b = 29 ∨ b = 37 then upd (fun _ => 0) 3 30 else fun _ => 0
def xf0 : mF := fun _ _ k => if k = 5 ∨ k = 6 ∨ k = 8 then 1 else 0
def hX1 : AH := (57, ab_nil :: ab_nil :: ab_nil :: ab_nil :: ab_nil :: ab_nil :: ab_nil :: ab_nil :: ab_nil :: ab_nil :: ab_nil :: ab_nil :: ab_nil :: xl xx0 xa0 xf0)
/-- the same cells -/
def ab_hq (h1 h2 : AH) : Prop := h1.1 = h2.1 ∧ h1.2.length = h2.2.length ∧ ∀ b, b < 49 → ∀ o, o < ab_ct b → ab_get h1 b o = ab_get h2 b o
theorem ab_hq_R {h1 h2 : AH} (hq : ab_hq h1 h2) {G : AG} {D : va_G} {cI cF : ClassId} {H : Heap} (hR : ab_R G D cI cF h1 H) : ab_R G D cI cF h2 H := by
  obtain ⟨e1, e2, e3⟩ := hq
  obtain ⟨r1, r2, r3, r4⟩ := hR
  have ew : ab_ws G cI cF h1 = ab_ws G cI cF h2 := by
    unfold ab_ws
    rw [← e1]
    refine List.map_congr_left (fun k hk => ?_)
    have hlt := List.mem_range.mp hk
    obtain ⟨l1, l2, l3⟩ := ab_lay1 k (by omega)
    unfold ab_wk
    rw [e3 _ l1 _ l2]
  exact ⟨by rw [← ew]; exact r1, by rw [← e1]; exact r2, by rw [← e2]; exact r3, by rw [← e1]; exact r4⟩
theorem ab_MetFree_mono {l : Launch} {y : MethodName} {ws : List Cond} {rm : Room} {Pc : Array Value → State → Prop} {Q1 Q2 : Array Value → State → Outcome → State → Prop} {mc ms : Nat} {free : Addr → Prop} (hM : Met l y ws rm Pc Q1 mc ms free) (hQ : ∀ a st o t, Q1 a st o t → Q2 a st o t) : Met l y ws rm Pc Q2 mc ms free := by
  intro p e ha hc hk s m args below hf happ hP hK
  obtain ⟨t, o, a1, a2, a3, a4⟩ := hM p e ha hc hk s m args below hf happ hP hK
  exact ⟨t, o, a1, a2, a3, hQ _ _ _ _ a4.1, a4.2⟩
theorem ab_Ex_hq {d kd : Nat} {y : MethodName} {a : List AV} {h h1 h2 : AH} {v : Option AV} (hC : ab_Ex d kd y a h v h1) (hq : ab_hq h1 h2) : ab_Ex d kd y a h v h2 := by
  obtain ⟨cc, mL, ret, hF, hle, hM⟩ := hC
  have e1 := hq.1
  refine ⟨cc, mL, ret, hF, by rw [← e1]; exact hle, fun l G D cI cF E => ?_⟩
  have hM1 := hM l G D cI cF E
  unfold ab_rmm at hM1 ⊢
  rw [e1] at hM1
  exact ab_MetFree_mono hM1 (fun a st o t q => ⟨q.1, ab_hq_R hq q.2.1, q.2.2⟩)
set_option maxRecDepth 100000 in
theorem x_init (d : Nat) : ab_Ex (d + 3) 2 yX4_init [vR 13 0] hX0 none hX1 := by
  refine ab_Ex_hq (h1 := (57, ((hX1.2.set 20 (ab_fm 8)).set 28 (ab_fm 8)).set 36 (ab_fm 8))) ?_ ?_
  · refine ab_meth oX4_init (d + 2) _ _ _ _ (Nat.le_of_ble_eq_true rfl) rfl (fun E => ?_)
    refine ab_run [] 400 oX4_init.1 (Nat.le_of_ble_eq_true rfl) 0 ?_
    refine ⟨_, _, t_init (d + 1), Nat.le_of_ble_eq_true rfl, ?_⟩
    refine ⟨_, _, b_init_17 d, Nat.le_of_ble_eq_true rfl, ?_⟩
    refine ⟨_, _, b_init_25 d, Nat.le_of_ble_eq_true rfl, ?_⟩
    refine ⟨_, _, b_init_33 d, Nat.le_of_ble_eq_true rfl, ?_⟩
    refine ⟨Or.inl rfl, ?_⟩
    refine ⟨_, _, r_init_41 d, Nat.le_of_ble_eq_true rfl, ?_⟩
    refine ⟨_, _, r_init_43 d, Nat.le_of_ble_eq_true rfl, ?_⟩
    refine ⟨⟨by decide, rfl⟩, ?_⟩
    refine ⟨⟨by decide, rfl⟩, ?_⟩
    refine ⟨⟨by decide, rfl⟩, ?_⟩
    refine ⟨⟨by decide, rfl⟩, ?_⟩
    exact ⟨rfl, rfl⟩
  · refine ⟨rfl, rfl, fun b hb o ho => ?_⟩
    have hfam : ∀ q, q < 8 → ab_fm 8 q = xFt (xf0 20 q) := by
      intro q hq
      rcases (show q = 0 ∨ q = 1 ∨ q = 2 ∨ q = 3 ∨ q = 4 ∨ q = 5 ∨ q = 6 ∨ q = 7 by omega) with rfl | rfl | rfl | rfl | rfl | rfl | rfl | rfl <;> rfl
    by_cases h36 : b = 36
    · subst h36
      exact hfam o ho
    by_cases h28 : b = 28
    · subst h28
      exact hfam o ho
    by_cases h20 : b = 20
    · subst h20
      exact hfam o ho
    show ((((hX1.2.set 20 (ab_fm 8)).set 28 (ab_fm 8)).set 36 (ab_fm 8)).getD b ab_nil) o = (hX1.2.getD b ab_nil) o
    rw [List.getD_eq_getElem?_getD, List.getD_eq_getElem?_getD, List.getElem?_set_ne (Ne.symm h36), List.getElem?_set_ne (Ne.symm h28), List.getElem?_set_ne (Ne.symm h20)]
