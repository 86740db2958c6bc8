noncomputable def psR (ok : Nat → Prop) (act : Int32) (T : Nat) (w r : Nat → Int32) : Nat → Int32 :=
  if w 0 = 4 then lisR ok 1 50 (T * 100 * 1) (T * 100 * 1 + 1) 25 r
  else if act < 4 then lisR ok (r 2).toNatClampNeg (100 * w 8).toNatClampNeg (T * 100 * (r 2).toNatClampNeg) (T * 100 * (r 2).toNatClampNeg + 1) (wrapI (w 1 * w 8 - w 7 - 1) (100 * w 8)).toNatClampNeg r
  else r
def psW (act : Int32) (T : Nat) (pace : Int32) (w : Nat → Int32) : Nat → Int32 := upd w 7 (wrapI (w 7 + paceI act pace (w 0) * 100 * nI T) (100 * w 8))
def psT (T : Nat) (r : Nat → Int32) : Nat → Int32 := upd (upd r 3 (r 3 + nI T)) 4 (r 4 + nI T * 100)
/-- the numbers of a rider that are as they must be -/
def RO (w r : Nat → Int32) : Prop := (1 ≤ (r 2).toInt ∧ (r 2).toInt ≤ 60) ∧ (1 ≤ (w 8).toInt ∧ (w 8).toInt ≤ 140) ∧ (0 ≤ (w 1).toInt ∧ (w 1).toInt ≤ 99) ∧ 0 ≤ (w 7).toInt ∧ (w 7).toInt < 100 * (w 8).toInt
theorem RO_wrap {w r : Nat → Int32} (h : RO w r) : (100 * w 8).toInt = 100 * (w 8).toInt ∧ (w 1 * w 8 - w 7 - 1).toInt = (w 1).toInt * (w 8).toInt - (w 7).toInt - 1 ∧ (wrapI (w 1 * w 8 - w 7 - 1) (100 * w 8)).toInt = ((w 1).toInt * (w 8).toInt - (w 7).toInt - 1) % (100 * (w 8).toInt) := by
  obtain ⟨⟨a1, a2⟩, ⟨b1, b2⟩, ⟨c1, c2⟩, d1, d2⟩ := h
  have m1 : (w 1).toInt * (w 8).toInt ≤ 99 * 140 := Int.mul_le_mul c2 b2 (by omega) (by omega)
  have m0 : 0 ≤ (w 1).toInt * (w 8).toInt := Int.mul_nonneg c1 (by omega)
  have e1 : (100 * w 8).toInt = 100 * (w 8).toInt := ti_mul (show (100 : Int32).toInt = 100 from rfl) rfl (by omega) (by omega)
  have e2 : (w 1 * w 8).toInt = (w 1).toInt * (w 8).toInt := ti_mul rfl rfl (by omega) (by omega)
  have e3 : (w 1 * w 8 - w 7).toInt = (w 1).toInt * (w 8).toInt - (w 7).toInt := ti_sub e2 rfl (by omega) (by omega)
  have e4 := ti_sub e3 (show (1 : Int32).toInt = 1 from rfl) (by omega) (by omega)
  exact ⟨e1, e4, ti_wrap e4 e1 (by omega) (by omega) (by omega) (by omega)⟩
theorem mul_ge (n G : Nat) (h : 1 ≤ G) : n ≤ n * G := by
  have := Nat.mul_le_mul (Nat.le_refl n) h
  omega

section Stage41
variable (d : Nat) (mb : Nat → AB) (x a : mA) (f : mF)
theorem p_listen41 (w r : Nat → Int32) (act : Int32) (T : Nat) (hT : T ≤ 60) (h : RO w r) : ab_Ex (d + 2) 0 yX2_listen [vR 41 0, vI act, vI (nI T), vI (wrapI (w 1 * w 8 - w 7 - 1) (100 * w 8)), vI (100 * w 8), vI (r 2)] (hX mb (mS (mS x 42 w) 41 r) a f) none (hX mb (mS (mS x 42 w) 41 (lisR (okP act (r 3) w (x 17 8) (a 21 3) (a 21 1) (a 21 0)) (r 2).toNatClampNeg (100 * w 8).toNatClampNeg (T * 100 * (r 2).toNatClampNeg) (T * 100 * (r 2).toNatClampNeg + 1) (wrapI (w 1 * w 8 - w 7 - 1) (100 * w 8)).toNatClampNeg r)) a f) := by
  obtain ⟨e1, e2, e3⟩ := RO_wrap h
  obtain ⟨⟨a1, a2⟩, ⟨b1, b2⟩, ⟨c1, c2⟩, d1, d2⟩ := h
  have h3 := Int.emod_nonneg ((w 1).toInt * (w 8).toInt - (w 7).toInt - 1) (show 100 * (w 8).toInt ≠ 0 by omega)
  have h4 := Int.emod_lt_of_pos ((w 1).toInt * (w 8).toInt - (w 7).toInt - 1) (show 0 < 100 * (w 8).toInt by omega)
  have n1 := ti_clamp (x := r 2) (by omega)
  have n2 := ti_clamp (x := 100 * w 8) (by omega)
  have n3 := ti_clamp (x := wrapI (w 1 * w 8 - w 7 - 1) (100 * w 8)) (by omega)
  have hG1 : 1 ≤ (100 * w 8).toNatClampNeg := by omega
  have L := r_listen41 d mb x a f w r act T (wrapI (w 1 * w 8 - w 7 - 1) (100 * w 8)).toNatClampNeg (100 * w 8).toNatClampNeg (r 2).toNatClampNeg (T * 100 * (r 2).toNatClampNeg + 1) hT hG1 (by omega) (by omega) (by omega) (by omega) (by
    have := mul_ge (T * 100 * (r 2).toNatClampNeg + 1) _ hG1
    omega)
  rw [← ti_nat (x := r 2) (by omega), ← ti_nat (x := 100 * w 8) (by omega), ← ti_nat (x := wrapI (w 1 * w 8 - w 7 - 1) (100 * w 8)) (by omega)] at L
  exact L
set_option maxRecDepth 100000 in
theorem p_stage41 (w0 w r : Nat → Int32) (act gear : Int32) (T : Nat) (hT : T ≤ 60) (hn : x 17 3 ≤ 5) (h8 : 0 < w0 8) (hw : w = rW w0 (downX (w0 0) (w0 6) (x 17 1) gear (x 17 3) (a 18))) (h : RO w r) : ab_Ex (d + 3) 0 yX2_passStage [vR 41 0, vI act, vI gear, vI (nI T)] (hX mb (mS (mS x 42 w0) 41 r) a f) none (hX mb (mS (mS x 42 (psW act T ((psR (okP act (r 3) w (x 17 8) (a 21 3) (a 21 1) (a 21 0)) act T w r) 2) w)) 41 (psT T (psR (okP act (r 3) w (x 17 8) (a 21 3) (a 21 1) (a 21 0)) act T w r))) a f) := by
  refine ab_meth oX2_passStage (d + 2) _ _ _ _ (Nat.le_refl _) rfl (fun E => ?_)
  have H62 : ∀ r1 : Nat → Int32, r1 = psR (okP act (r 3) w (x 17 8) (a 21 3) (a 21 1) (a 21 0)) act T w r → ab_W jX2_passStage (d + 2) E (hX mb (mS (mS x 42 w0) 41 r) a f) 70 (fun v1 h1 => v1 = none ∧ h1 = (hX mb (mS (mS x 42 (psW act T ((psR (okP act (r 3) w (x 17 8) (a 21 3) (a 21 1) (a 21 0)) act T w r) 2) w)) 41 (psT T (psR (okP act (r 3) w (x 17 8) (a 21 3) (a 21 1) (a 21 0)) act T w r))) a f)) (ab_at iX2_passStage 62) [(0, vR 41 0), (1, vI act), (2, vI gear), (3, vI (nI T))] [] (hX mb (mS (mS x 42 w) 41 r1) a f) := by
    intro r1 hr1
    refine ab_run [] 100 oX2_passStage.1 (Nat.le_refl _) 62 ?_
    refine ⟨_, _, r_partsInStep41 d mb x a f w r1 act, Nat.le_refl _, ?_⟩
    refine ⟨_, _, f_move d (b := 42) (o := 0) (v := w) (Nat.le_refl _) (ok42 mb a f _) rfl _, Nat.le_refl _, ?_⟩
    refine ⟨rfl, ?_⟩
    rw [← hr1]
    rfl
  refine ab_run [62] 100 oX2_passStage.1 (Nat.le_refl _) 0 ?_
  have hsh := r_shift41 (d) mb x a f w0 r hn h8 gear
  rw [← hw] at hsh
  refine ⟨_, _, hsh, Nat.le_refl _, ?_⟩
  refine ⟨fun c1 => ?_, fun c1 => ?_⟩
  · have c1 : ¬ w 0 = 4 := c1
    refine ⟨fun c2 => ?_, fun c2 => ?_⟩
    · refine H62 r ?_
      rw [psR, if_neg c1, if_neg (le_nlt c2)]
    · refine ⟨_, _, f_parts d (b := 42) (o := 0) (v := w) (Nat.le_refl _) (ok42 mb a f _) rfl, Nat.le_refl _, ?_⟩
      refine ⟨_, _, p_listen41 d mb x a f w r act T hT h, Nat.le_refl _, ?_⟩
      refine H62 _ ?_
      rw [psR, if_neg c1, if_pos (nle_lt c2)]
  · have c1 : w 0 = 4 := c1
    refine ⟨_, _, r_listen41 d mb x a f w r act T 25 50 1 (T * 100 * 1 + 1) hT (by decide) (by decide) (by decide) (by decide) (by decide) (by omega), Nat.le_refl _, ?_⟩
    refine H62 _ ?_
    rw [psR, if_pos c1]
end Stage41
section Stage43
variable (d : Nat) (mb : Nat → AB) (x a : mA) (f : mF)
theorem p_listen43 (w r : Nat → Int32) (act : Int32) (T : Nat) (hT : T ≤ 60) (h : RO w r) : ab_Ex (d + 2) 0 yX2_listen [vR 43 0, vI act, vI (nI T), vI (wrapI (w 1 * w 8 - w 7 - 1) (100 * w 8)), vI (100 * w 8), vI (r 2)] (hX mb (mS (mS x 44 w) 43 r) a f) none (hX mb (mS (mS x 44 w) 43 (lisR (okP act (r 3) w (x 17 8) (a 21 3) (a 21 1) (a 21 0)) (r 2).toNatClampNeg (100 * w 8).toNatClampNeg (T * 100 * (r 2).toNatClampNeg) (T * 100 * (r 2).toNatClampNeg + 1) (wrapI (w 1 * w 8 - w 7 - 1) (100 * w 8)).toNatClampNeg r)) a f) := by
  obtain ⟨e1, e2, e3⟩ := RO_wrap h
  obtain ⟨⟨a1, a2⟩, ⟨b1, b2⟩, ⟨c1, c2⟩, d1, d2⟩ := h
  have h3 := Int.emod_nonneg ((w 1).toInt * (w 8).toInt - (w 7).toInt - 1) (show 100 * (w 8).toInt ≠ 0 by omega)
  have h4 := Int.emod_lt_of_pos ((w 1).toInt * (w 8).toInt - (w 7).toInt - 1) (show 0 < 100 * (w 8).toInt by omega)
  have n1 := ti_clamp (x := r 2) (by omega)
  have n2 := ti_clamp (x := 100 * w 8) (by omega)
  have n3 := ti_clamp (x := wrapI (w 1 * w 8 - w 7 - 1) (100 * w 8)) (by omega)
  have hG1 : 1 ≤ (100 * w 8).toNatClampNeg := by omega
  have L := r_listen43 d mb x a f w r act T (wrapI (w 1 * w 8 - w 7 - 1) (100 * w 8)).toNatClampNeg (100 * w 8).toNatClampNeg (r 2).toNatClampNeg (T * 100 * (r 2).toNatClampNeg + 1) hT hG1 (by omega) (by omega) (by omega) (by omega) (by
    have := mul_ge (T * 100 * (r 2).toNatClampNeg + 1) _ hG1
    omega)
  rw [← ti_nat (x := r 2) (by omega), ← ti_nat (x := 100 * w 8) (by omega), ← ti_nat (x := wrapI (w 1 * w 8 - w 7 - 1) (100 * w 8)) (by omega)] at L
  exact L
set_option maxRecDepth 100000 in
theorem p_stage43 (w0 w r : Nat → Int32) (act gear : Int32) (T : Nat) (hT : T ≤ 60) (hn : x 17 3 ≤ 5) (h8 : 0 < w0 8) (hw : w = rW w0 (downX (w0 0) (w0 6) (x 17 1) gear (x 17 3) (a 18))) (h : RO w r) : ab_Ex (d + 3) 0 yX2_passStage [vR 43 0, vI act, vI gear, vI (nI T)] (hX mb (mS (mS x 44 w0) 43 r) a f) none (hX mb (mS (mS x 44 (psW act T ((psR (okP act (r 3) w (x 17 8) (a 21 3) (a 21 1) (a 21 0)) act T w r) 2) w)) 43 (psT T (psR (okP act (r 3) w (x 17 8) (a 21 3) (a 21 1) (a 21 0)) act T w r))) a f) := by
  refine ab_meth oX2_passStage (d + 2) _ _ _ _ (Nat.le_refl _) rfl (fun E => ?_)
  have H62 : ∀ r1 : Nat → Int32, r1 = psR (okP act (r 3) w (x 17 8) (a 21 3) (a 21 1) (a 21 0)) act T w r → ab_W jX2_passStage (d + 2) E (hX mb (mS (mS x 44 w0) 43 r) a f) 70 (fun v1 h1 => v1 = none ∧ h1 = (hX mb (mS (mS x 44 (psW act T ((psR (okP act (r 3) w (x 17 8) (a 21 3) (a 21 1) (a 21 0)) act T w r) 2) w)) 43 (psT T (psR (okP act (r 3) w (x 17 8) (a 21 3) (a 21 1) (a 21 0)) act T w r))) a f)) (ab_at iX2_passStage 62) [(0, vR 43 0), (1, vI act), (2, vI gear), (3, vI (nI T))] [] (hX mb (mS (mS x 44 w) 43 r1) a f) := by
    intro r1 hr1
    refine ab_run [] 100 oX2_passStage.1 (Nat.le_refl _) 62 ?_
    refine ⟨_, _, r_partsInStep43 d mb x a f w r1 act, Nat.le_refl _, ?_⟩
    refine ⟨_, _, f_move d (b := 44) (o := 0) (v := w) (Nat.le_refl _) (ok44 mb a f _) rfl _, Nat.le_refl _, ?_⟩
    refine ⟨rfl, ?_⟩
    rw [← hr1]
    rfl
  refine ab_run [62] 100 oX2_passStage.1 (Nat.le_refl _) 0 ?_
  have hsh := r_shift43 (d) mb x a f w0 r hn h8 gear
  rw [← hw] at hsh
  refine ⟨_, _, hsh, Nat.le_refl _, ?_⟩
  refine ⟨fun c1 => ?_, fun c1 => ?_⟩
  · have c1 : ¬ w 0 = 4 := c1
    refine ⟨fun c2 => ?_, fun c2 => ?_⟩
    · refine H62 r ?_
      rw [psR, if_neg c1, if_neg (le_nlt c2)]
    · refine ⟨_, _, f_parts d (b := 44) (o := 0) (v := w) (Nat.le_refl _) (ok44 mb a f _) rfl, Nat.le_refl _, ?_⟩
      refine ⟨_, _, p_listen43 d mb x a f w r act T hT h, Nat.le_refl _, ?_⟩
      refine H62 _ ?_
      rw [psR, if_neg c1, if_pos (nle_lt c2)]
  · have c1 : w 0 = 4 := c1
    refine ⟨_, _, r_listen43 d mb x a f w r act T 25 50 1 (T * 100 * 1 + 1) hT (by decide) (by decide) (by decide) (by decide) (by decide) (by omega), Nat.le_refl _, ?_⟩
    refine H62 _ ?_
    rw [psR, if_pos c1]
end Stage43
