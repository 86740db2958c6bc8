-- PICTURES OF THE TWO OBJECTS
abbrev mG : Type := Nat → Int32
abbrev mA : Type := Nat → Nat → Int32
abbrev mF : Type := Nat → Nat → Nat → Int32
def mS (A : mA) (k : Nat) (f : Nat → Int32) : mA := fun j => if j = k then f else A j
def hM (g : mG) (A : mA) (xs : List AB) : AH := (70,
  (fun _ => .inl (5, [vR 1 0, vR 2 0, vR 3 0, vR 4 0, vI (g 4), vR 5 0, vR 6 0, vI (g 7), vI (g 8), vR 7 0, vR 8 0, vR 9 0, vI (g 12), vI (g 13), vI (g 14), vI (g 15), vI (g 16), vI (g 17), vI (g 18), vI (g 19), vR 10 0, vR 11 0, vI (g 22), vR 12 0, vI (g 24)])) ::
  (fun _ => .inr (.inl (7, A 1))) :: (fun _ => .inr (.inl (112, A 2))) :: (fun _ => .inr (.inl (112, A 3))) :: (fun _ => .inr (.inl (112, A 4))) :: (fun _ => .inr (.inl (64, A 5))) :: (fun _ => .inr (.inl (7, A 6))) ::
  (fun _ => .inr (.inl (8, A 7))) :: (fun _ => .inr (.inl (8, A 8))) :: (fun _ => .inr (.inl (8, A 9))) :: (fun _ => .inr (.inl (8, A 10))) :: (fun _ => .inr (.inl (8, A 11))) :: (fun _ => .inr (.inl (8, A 12))) :: xs)
def ab_fa (b : Nat) : Nat → AV := va_up (va_up (va_up (va_up (va_up (va_up (va_up (va_up (fun _ => none) 0 (vR b 0)) 1 (vR b 1)) 2 (vR b 2)) 3 (vR b 3)) 4 (vR b 4)) 5 (vR b 5)) 6 (vR b 6)) 7 (vR b 7)
theorem ab_fa_at (b : Nat) {i : Nat} (h : i < 8) : ab_fa b i = vR b i := by
  rcases (show i = 0 ∨ i = 1 ∨ i = 2 ∨ i = 3 ∨ i = 4 ∨ i = 5 ∨ i = 6 ∨ i = 7 by omega) with rfl | rfl | rfl | rfl | rfl | rfl | rfl | rfl <;> rfl
def xBk (b : Nat) (x : mA) : AC := .inl (0, [vI (x b 0), vI (x b 1), vR (b + 1) 0, vI (x b 3), vR (b + 2) 0, vI (x b 5), vR (b + 4) 0, vI (x b 7), vI (x b 8), vR (b + 5) 0, vR (b + 6) 0, vR (b + 7) 0, vI (x b 12)])
def xFt (v : Nat → Int32) : AC := .inl (1, [vI (v 0), vI (v 1), vI (v 2), vI (v 3), vI (v 4), vI (v 5), vI (v 6), vI (v 7), vI (v 8)])
def xl (x a : mA) (f : mF) : List AB :=
  (fun _ => .inl (4, [vR 14 0, vR 17 0, vR 25 0, vR 33 0, vI (x 13 4), vR 41 0, vR 43 0, vR 45 0, vR 46 0, vR 47 0, vI (x 13 10), vR 48 0])) ::
  (fun _ => .inl (3, [vR 15 0, vI (x 14 1), vI (x 14 2), vI (x 14 3), vI (x 14 4), vR 16 0])) :: (fun _ => .inr (.inl (64, a 15))) :: (fun _ => .inr (.inl (6, a 16))) ::
  (fun _ => xBk 17 x) :: (fun _ => .inr (.inl (5, a 18))) :: (fun _ => .inr (.inr (8, ab_fa 20))) :: (fun o => xFt (f 20 o)) :: (fun _ => .inr (.inl (4, a 21))) :: (fun _ => .inr (.inl (8, a 22))) :: (fun _ => .inr (.inl (8, a 23))) :: (fun _ => .inr (.inl (8, a 24))) ::
  (fun _ => xBk 25 x) :: (fun _ => .inr (.inl (5, a 26))) :: (fun _ => .inr (.inr (8, ab_fa 28))) :: (fun o => xFt (f 28 o)) :: (fun _ => .inr (.inl (4, a 29))) :: (fun _ => .inr (.inl (8, a 30))) :: (fun _ => .inr (.inl (8, a 31))) :: (fun _ => .inr (.inl (8, a 32))) ::
  (fun _ => xBk 33 x) :: (fun _ => .inr (.inl (5, a 34))) :: (fun _ => .inr (.inr (8, ab_fa 36))) :: (fun o => xFt (f 36 o)) :: (fun _ => .inr (.inl (4, a 37))) :: (fun _ => .inr (.inl (8, a 38))) :: (fun _ => .inr (.inl (8, a 39))) :: (fun _ => .inr (.inl (8, a 40))) ::
  (fun _ => .inl (2, [vR 17 0, vR 42 0, vI (x 41 2), vI (x 41 3), vI (x 41 4), vI (x 41 5), vI (x 41 6), vI (x 41 7)])) :: (fun _ => xFt (x 42)) ::
  (fun _ => .inl (2, [vR 17 0, vR 44 0, vI (x 43 2), vI (x 43 3), vI (x 43 4), vI (x 43 5), vI (x 43 6), vI (x 43 7)])) :: (fun _ => xFt (x 44)) ::
  (fun _ => .inr (.inl (8, a 45))) :: (fun _ => .inr (.inl (8, a 46))) :: (fun _ => .inr (.inl (8, a 47))) :: (fun _ => .inr (.inl (7, a 48))) :: []
def hX (mb : Nat → AB) (x a : mA) (f : mF) : AH := (70, mb 0 :: mb 1 :: mb 2 :: mb 3 :: mb 4 :: mb 5 :: mb 6 :: mb 7 :: mb 8 :: mb 9 :: mb 10 :: mb 11 :: mb 12 :: xl x a f)
def mbl (g : mG) (A : mA) (k : Nat) : AB := (hM g A []).2.getD k ab_nil
theorem hX_hM (g : mG) (A : mA) (x a : mA) (f : mF) : hM g A (xl x a f) = hX (mbl g A) x a f := rfl
theorem m_refuse (d : Nat) (g : mG) (A : mA) (xs : List AB) (c : Int32) (hc : vp_in (-c) 7) : ab_Ex (d + 1) 0 yX5_refuse [vR 0 0, vI c] (hM g A xs) (some (vI c)) (hM g (mS A 1 (upd (A 1) (-c).toNatClampNeg (A 1 (-c).toNatClampNeg + 1))) xs) := by
  refine ab_meth oX5_refuse d _ _ _ _ (Nat.le_refl _) rfl (fun E => ?_)
  refine ab_run [] 50 oX5_refuse.1 (Nat.le_refl _) 0 ?_
  refine ⟨hc, ?_⟩
  refine ⟨hc, ?_⟩
  exact ⟨rfl, rfl⟩
theorem x_refuse (d : Nat) (mb : Nat → AB) (x a : mA) (f : mF) (c : Int32) (hc : 0 < -c ∧ -c < 7) (hi : vp_in (-c) 7) : ab_Ex (d + 1) 0 yX4_refuse [vR 13 0, vI c] (hX mb x a f) (some (vI c)) (hX mb x (mS a 48 (upd (a 48) (-c).toNatClampNeg (a 48 (-c).toNatClampNeg + 1))) f) := by
  refine ab_meth oX4_refuse d _ _ _ _ (Nat.le_refl _) rfl (fun E => ?_)
  refine ab_run [] 50 oX4_refuse.1 (Nat.le_refl _) 0 ?_
  refine ⟨fun q => ?_, fun q => ?_⟩
  · exact absurd hc.1 (Int32.not_lt.mpr q)
  refine ⟨fun q => ?_, fun q => ?_⟩
  · exact absurd hc.2 (Int32.not_lt.mpr q)
  refine ⟨hi, ?_⟩
  refine ⟨hi, ?_⟩
  exact ⟨rfl, rfl⟩
