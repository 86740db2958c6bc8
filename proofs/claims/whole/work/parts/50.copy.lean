def fC (f : mF) (b c n : Nat) : mF := fun q => if q = b then (fun j => if j < n then f c j else f b j) else f q
theorem fC_0 (f : mF) (b c : Nat) : fC f b c 0 = f := by
  funext q j
  unfold fC
  by_cases hq : q = b
  · rw [if_pos hq, hq]
    rfl
  · rw [if_neg hq]
theorem fC_c {f : mF} {b c n i : Nat} (h : c ≠ b) : fC f b c n c i = f c i := by
  unfold fC
  rw [if_neg h]
theorem fC_s (f : mF) (b c n : Nat) : fS (fC f b c n) b n (f c n) = fC f b c (n + 1) := by
  funext q j
  unfold fS fC
  by_cases hq : q = b
  · rw [if_pos hq, if_pos hq]
    by_cases hj : j = n
    · rw [if_pos hj, if_pos (by omega), hj]
    · rw [if_neg hj, if_pos rfl]
      by_cases hl : j < n
      · rw [if_pos hl, if_pos (by omega)]
      · rw [if_neg hl, if_neg (by omega)]
  · rw [if_neg hq, if_neg hq, if_neg hq]
def aC (a : mA) (b c : Nat) : mA := mS (mS (mS (mS (mS a (b + 1) (va_cpy (a (c + 1)) (a (b + 1)) 0 0 5)) (b + 4) (va_cpy (a (c + 4)) (a (b + 4)) 0 0 4)) (b + 5) (va_cpy (a (c + 5)) (a (b + 5)) 0 0 8)) (b + 6) (va_cpy (a (c + 6)) (a (b + 6)) 0 0 8)) (b + 7) (va_cpy (a (c + 7)) (a (b + 7)) 0 0 8)
theorem cp4 : ¬ (0 : Int32) < 0 ∧ ¬ (0 : Int32) < 0 ∧ ¬ (4 : Int32) < 0 ∧ (0 : Int32).toNatClampNeg + (4 : Int32).toNatClampNeg ≤ 4 ∧ (0 : Int32).toNatClampNeg + (4 : Int32).toNatClampNeg ≤ 4 := by decide
theorem cp5 : ¬ (0 : Int32) < 0 ∧ ¬ (0 : Int32) < 0 ∧ ¬ (5 : Int32) < 0 ∧ (0 : Int32).toNatClampNeg + (5 : Int32).toNatClampNeg ≤ 5 ∧ (0 : Int32).toNatClampNeg + (5 : Int32).toNatClampNeg ≤ 5 := by decide
theorem cp8 : ¬ (0 : Int32) < 0 ∧ ¬ (0 : Int32) < 0 ∧ ¬ (8 : Int32) < 0 ∧ (0 : Int32).toNatClampNeg + (8 : Int32).toNatClampNeg ≤ 8 ∧ (0 : Int32).toNatClampNeg + (8 : Int32).toNatClampNeg ≤ 8 := by decide
theorem hX_ok28 (mb : Nat → AB) (x a : mA) (f : mF) {i : Nat} (hi : i < 8) : ab_ok (hX mb x a f) 28 i := ⟨by decide, hi, by show 22 + i < 70; omega⟩
theorem hX_set28 (mb : Nat → AB) (x a : mA) (f : mF) (i : Nat) (w : Nat → Int32) : ab_set (hX mb x a f) 28 i (xFt w) = hX mb x a (fS f 28 i w) := by
  have e : (fun j => if j = i then xFt w else xFt (f 28 j)) = fun o => xFt (fS f 28 i w 28 o) := by
    funext q
    by_cases hq : q = i
    · simp [fS, hq]
    · simp [fS, hq]
  show (70, (hX mb x a f).2.set 28 (fun j => if j = i then xFt w else xFt (f 28 j))) = _
  rw [e]
  rfl
theorem hX_ok36 (mb : Nat → AB) (x a : mA) (f : mF) {i : Nat} (hi : i < 8) : ab_ok (hX mb x a f) 36 i := ⟨by decide, hi, by show 37 + i < 70; omega⟩
theorem hX_set36 (mb : Nat → AB) (x a : mA) (f : mF) (i : Nat) (w : Nat → Int32) : ab_set (hX mb x a f) 36 i (xFt w) = hX mb x a (fS f 36 i w) := by
  have e : (fun j => if j = i then xFt w else xFt (f 36 j)) = fun o => xFt (fS f 36 i w 36 o) := by
    funext q
    by_cases hq : q = i
    · simp [fS, hq]
    · simp [fS, hq]
  show (70, (hX mb x a f).2.set 36 (fun j => if j = i then xFt w else xFt (f 36 j))) = _
  rw [e]
  rfl
theorem b_copy33_17 (d : Nat) (mb : Nat → AB) (x a : mA) (f : mF) : ab_Ex (d + 2) 0 yX0_copyFrom [vR 33 0, vR 17 0] (hX mb x a f) none (hX mb (mS x 33 (x 17)) (aC a 33 17) (fC f 36 20 8)) := by
  refine ab_meth oX0_copyFrom (d + 1) _ _ _ _ (Nat.le_refl _) rfl (fun E => ?_)
  have loop : ∀ (r i : Nat), i + r = 8 → ab_W jX0_copyFrom (d + 1) E (hX mb x a f) 70 (fun v1 h1 => v1 = none ∧ h1 = hX mb (mS x 33 (x 17)) (aC a 33 17) (fC f 36 20 8)) (ab_at iX0_copyFrom 40) [(2, vI (nI i)), (0, vR 33 0), (1, vR 17 0)] [] (hX mb (mS x 33 (upd (upd (upd (x 33) 0 (x 17 0)) 1 (x 17 1)) 3 (x 17 3))) (mS a 34 (va_cpy (a 18) (a 34) 0 0 5)) (fC f 36 20 i)) := by
    intro r
    induction r with
    | zero =>
      intro i hi
      refine ab_run [40] 200 oX0_copyFrom.1 (Nat.le_refl _) 40 ?_
      refine ⟨fun c1 => ?_, fun c1 => absurd (show nI 8 ≤ nI i from nI_le (by omega) (by omega)) c1⟩
      rw [show i = 8 by omega]
      refine ⟨cp4, ?_⟩
      refine ⟨cp8, ?_⟩
      refine ⟨cp8, ?_⟩
      refine ⟨cp8, ?_⟩
      exact ⟨rfl, rfl⟩
    | succ r ih =>
      intro i hi
      refine ab_run [40] 200 oX0_copyFrom.1 (Nat.le_refl _) 40 ?_
      refine ⟨fun c1 => absurd c1 (nI_lt_m (m := 8) (by omega) (by omega)), fun c1 => ?_⟩
      refine ⟨vp_in_nI (by omega) (by omega), ⟨(36, i), by rw [nI_clamp (by omega)]; exact ab_fa_at 36 (by omega), ?_⟩⟩
      refine ⟨vp_in_nI (by omega) (by omega), ⟨(20, i), by rw [nI_clamp (by omega)]; exact ab_fa_at 20 (by omega), ?_⟩⟩
      have hc := f_copyFrom d (h := hX mb (mS x 33 (upd (upd (upd (x 33) 0 (x 17 0)) 1 (x 17 1)) 3 (x 17 3))) (mS a 34 (va_cpy (a 18) (a 34) 0 0 5)) (fC f 36 20 i)) (b := 36) (o := i) (b2 := 20) (o2 := i) (v := fC f 36 20 i 36 i) (v2 := f 20 i) (Nat.le_refl _) rfl (hX_ok36 _ _ _ _ (by omega)) rfl (hX_ok20 _ _ _ _ (by omega)) (show xFt (fC f 36 20 i 20 i) = _ by rw [fC_c (by decide)]) (by omega)
      rw [hX_set36, fC_s] at hc
      refine ⟨(⟨by omega, by omega⟩ : i < 8 ∧ 37 + i < 70), ?_⟩
      refine ⟨_, _, hc, Nat.le_refl _, ?_⟩
      have := ih (i + 1) (by omega)
      rw [nI_succ] at this
      exact this
  refine ab_run [40] 100 oX0_copyFrom.1 (Nat.le_refl _) 0 ?_
  refine ⟨cp5, ?_⟩
  have := loop 8 0 (by omega)
  rw [fC_0] at this
  exact this
theorem b_copy17_33 (d : Nat) (mb : Nat → AB) (x a : mA) (f : mF) : ab_Ex (d + 2) 0 yX0_copyFrom [vR 17 0, vR 33 0] (hX mb x a f) none (hX mb (mS x 17 (x 33)) (aC a 17 33) (fC f 20 36 8)) := by
  refine ab_meth oX0_copyFrom (d + 1) _ _ _ _ (Nat.le_refl _) rfl (fun E => ?_)
  have loop : ∀ (r i : Nat), i + r = 8 → ab_W jX0_copyFrom (d + 1) E (hX mb x a f) 70 (fun v1 h1 => v1 = none ∧ h1 = hX mb (mS x 17 (x 33)) (aC a 17 33) (fC f 20 36 8)) (ab_at iX0_copyFrom 40) [(2, vI (nI i)), (0, vR 17 0), (1, vR 33 0)] [] (hX mb (mS x 17 (upd (upd (upd (x 17) 0 (x 33 0)) 1 (x 33 1)) 3 (x 33 3))) (mS a 18 (va_cpy (a 34) (a 18) 0 0 5)) (fC f 20 36 i)) := by
    intro r
    induction r with
    | zero =>
      intro i hi
      refine ab_run [40] 200 oX0_copyFrom.1 (Nat.le_refl _) 40 ?_
      refine ⟨fun c1 => ?_, fun c1 => absurd (show nI 8 ≤ nI i from nI_le (by omega) (by omega)) c1⟩
      rw [show i = 8 by omega]
      refine ⟨cp4, ?_⟩
      refine ⟨cp8, ?_⟩
      refine ⟨cp8, ?_⟩
      refine ⟨cp8, ?_⟩
      exact ⟨rfl, rfl⟩
    | succ r ih =>
      intro i hi
      refine ab_run [40] 200 oX0_copyFrom.1 (Nat.le_refl _) 40 ?_
      refine ⟨fun c1 => absurd c1 (nI_lt_m (m := 8) (by omega) (by omega)), fun c1 => ?_⟩
      refine ⟨vp_in_nI (by omega) (by omega), ⟨(20, i), by rw [nI_clamp (by omega)]; exact ab_fa_at 20 (by omega), ?_⟩⟩
      refine ⟨vp_in_nI (by omega) (by omega), ⟨(36, i), by rw [nI_clamp (by omega)]; exact ab_fa_at 36 (by omega), ?_⟩⟩
      have hc := f_copyFrom d (h := hX mb (mS x 17 (upd (upd (upd (x 17) 0 (x 33 0)) 1 (x 33 1)) 3 (x 33 3))) (mS a 18 (va_cpy (a 34) (a 18) 0 0 5)) (fC f 20 36 i)) (b := 20) (o := i) (b2 := 36) (o2 := i) (v := fC f 20 36 i 20 i) (v2 := f 36 i) (Nat.le_refl _) rfl (hX_ok20 _ _ _ _ (by omega)) rfl (hX_ok36 _ _ _ _ (by omega)) (show xFt (fC f 20 36 i 36 i) = _ by rw [fC_c (by decide)]) (by omega)
      rw [hX_set20, fC_s] at hc
      refine ⟨(⟨by omega, by omega⟩ : i < 8 ∧ 7 + i < 70), ?_⟩
      refine ⟨_, _, hc, Nat.le_refl _, ?_⟩
      have := ih (i + 1) (by omega)
      rw [nI_succ] at this
      exact this
  refine ab_run [40] 100 oX0_copyFrom.1 (Nat.le_refl _) 0 ?_
  refine ⟨cp5, ?_⟩
  have := loop 8 0 (by omega)
  rw [fC_0] at this
  exact this
theorem b_copy25_17 (d : Nat) (mb : Nat → AB) (x a : mA) (f : mF) : ab_Ex (d + 2) 0 yX0_copyFrom [vR 25 0, vR 17 0] (hX mb x a f) none (hX mb (mS x 25 (x 17)) (aC a 25 17) (fC f 28 20 8)) := by
  refine ab_meth oX0_copyFrom (d + 1) _ _ _ _ (Nat.le_refl _) rfl (fun E => ?_)
  have loop : ∀ (r i : Nat), i + r = 8 → ab_W jX0_copyFrom (d + 1) E (hX mb x a f) 70 (fun v1 h1 => v1 = none ∧ h1 = hX mb (mS x 25 (x 17)) (aC a 25 17) (fC f 28 20 8)) (ab_at iX0_copyFrom 40) [(2, vI (nI i)), (0, vR 25 0), (1, vR 17 0)] [] (hX mb (mS x 25 (upd (upd (upd (x 25) 0 (x 17 0)) 1 (x 17 1)) 3 (x 17 3))) (mS a 26 (va_cpy (a 18) (a 26) 0 0 5)) (fC f 28 20 i)) := by
    intro r
    induction r with
    | zero =>
      intro i hi
      refine ab_run [40] 200 oX0_copyFrom.1 (Nat.le_refl _) 40 ?_
      refine ⟨fun c1 => ?_, fun c1 => absurd (show nI 8 ≤ nI i from nI_le (by omega) (by omega)) c1⟩
      rw [show i = 8 by omega]
      refine ⟨cp4, ?_⟩
      refine ⟨cp8, ?_⟩
      refine ⟨cp8, ?_⟩
      refine ⟨cp8, ?_⟩
      exact ⟨rfl, rfl⟩
    | succ r ih =>
      intro i hi
      refine ab_run [40] 200 oX0_copyFrom.1 (Nat.le_refl _) 40 ?_
      refine ⟨fun c1 => absurd c1 (nI_lt_m (m := 8) (by omega) (by omega)), fun c1 => ?_⟩
      refine ⟨vp_in_nI (by omega) (by omega), ⟨(28, i), by rw [nI_clamp (by omega)]; exact ab_fa_at 28 (by omega), ?_⟩⟩
      refine ⟨vp_in_nI (by omega) (by omega), ⟨(20, i), by rw [nI_clamp (by omega)]; exact ab_fa_at 20 (by omega), ?_⟩⟩
      have hc := f_copyFrom d (h := hX mb (mS x 25 (upd (upd (upd (x 25) 0 (x 17 0)) 1 (x 17 1)) 3 (x 17 3))) (mS a 26 (va_cpy (a 18) (a 26) 0 0 5)) (fC f 28 20 i)) (b := 28) (o := i) (b2 := 20) (o2 := i) (v := fC f 28 20 i 28 i) (v2 := f 20 i) (Nat.le_refl _) rfl (hX_ok28 _ _ _ _ (by omega)) rfl (hX_ok20 _ _ _ _ (by omega)) (show xFt (fC f 28 20 i 20 i) = _ by rw [fC_c (by decide)]) (by omega)
      rw [hX_set28, fC_s] at hc
      refine ⟨(⟨by omega, by omega⟩ : i < 8 ∧ 22 + i < 70), ?_⟩
      refine ⟨_, _, hc, Nat.le_refl _, ?_⟩
      have := ih (i + 1) (by omega)
      rw [nI_succ] at this
      exact this
  refine ab_run [40] 100 oX0_copyFrom.1 (Nat.le_refl _) 0 ?_
  refine ⟨cp5, ?_⟩
  have := loop 8 0 (by omega)
  rw [fC_0] at this
  exact this
theorem b_copy17_25 (d : Nat) (mb : Nat → AB) (x a : mA) (f : mF) : ab_Ex (d + 2) 0 yX0_copyFrom [vR 17 0, vR 25 0] (hX mb x a f) none (hX mb (mS x 17 (x 25)) (aC a 17 25) (fC f 20 28 8)) := by
  refine ab_meth oX0_copyFrom (d + 1) _ _ _ _ (Nat.le_refl _) rfl (fun E => ?_)
  have loop : ∀ (r i : Nat), i + r = 8 → ab_W jX0_copyFrom (d + 1) E (hX mb x a f) 70 (fun v1 h1 => v1 = none ∧ h1 = hX mb (mS x 17 (x 25)) (aC a 17 25) (fC f 20 28 8)) (ab_at iX0_copyFrom 40) [(2, vI (nI i)), (0, vR 17 0), (1, vR 25 0)] [] (hX mb (mS x 17 (upd (upd (upd (x 17) 0 (x 25 0)) 1 (x 25 1)) 3 (x 25 3))) (mS a 18 (va_cpy (a 26) (a 18) 0 0 5)) (fC f 20 28 i)) := by
    intro r
    induction r with
    | zero =>
      intro i hi
      refine ab_run [40] 200 oX0_copyFrom.1 (Nat.le_refl _) 40 ?_
      refine ⟨fun c1 => ?_, fun c1 => absurd (show nI 8 ≤ nI i from nI_le (by omega) (by omega)) c1⟩
      rw [show i = 8 by omega]
      refine ⟨cp4, ?_⟩
      refine ⟨cp8, ?_⟩
      refine ⟨cp8, ?_⟩
      refine ⟨cp8, ?_⟩
      exact ⟨rfl, rfl⟩
    | succ r ih =>
      intro i hi
      refine ab_run [40] 200 oX0_copyFrom.1 (Nat.le_refl _) 40 ?_
      refine ⟨fun c1 => absurd c1 (nI_lt_m (m := 8) (by omega) (by omega)), fun c1 => ?_⟩
      refine ⟨vp_in_nI (by omega) (by omega), ⟨(20, i), by rw [nI_clamp (by omega)]; exact ab_fa_at 20 (by omega), ?_⟩⟩
      refine ⟨vp_in_nI (by omega) (by omega), ⟨(28, i), by rw [nI_clamp (by omega)]; exact ab_fa_at 28 (by omega), ?_⟩⟩
      have hc := f_copyFrom d (h := hX mb (mS x 17 (upd (upd (upd (x 17) 0 (x 25 0)) 1 (x 25 1)) 3 (x 25 3))) (mS a 18 (va_cpy (a 26) (a 18) 0 0 5)) (fC f 20 28 i)) (b := 20) (o := i) (b2 := 28) (o2 := i) (v := fC f 20 28 i 20 i) (v2 := f 28 i) (Nat.le_refl _) rfl (hX_ok20 _ _ _ _ (by omega)) rfl (hX_ok28 _ _ _ _ (by omega)) (show xFt (fC f 20 28 i 28 i) = _ by rw [fC_c (by decide)]) (by omega)
      rw [hX_set20, fC_s] at hc
      refine ⟨(⟨by omega, by omega⟩ : i < 8 ∧ 7 + i < 70), ?_⟩
      refine ⟨_, _, hc, Nat.le_refl _, ?_⟩
      have := ih (i + 1) (by omega)
      rw [nI_succ] at this
      exact this
  refine ab_run [40] 100 oX0_copyFrom.1 (Nat.le_refl _) 0 ?_
  refine ⟨cp5, ?_⟩
  have := loop 8 0 (by omega)
  rw [fC_0] at this
  exact this
