def stS (s : Nat → Int32) (n : Nat) (u v w : Int32) : Nat → Int32 := upd (upd (upd (upd s (88 + 3 * n) u) (88 + 3 * n + 1) v) (88 + 3 * n + 2) w) 4 (s 4 + 1)
theorem stS_o {s : Nat → Int32} {n : Nat} {u v w : Int32} {j : Nat} (h4 : j ≠ 4) (h : j < 88 + 3 * n ∨ 88 + 3 * n + 2 < j) : stS s n u v w j = s j := by
  unfold stS
  rw [upd_ne h4, upd_ne (by omega), upd_ne (by omega), upd_ne (by omega)]
theorem stS_0 {s : Nat → Int32} {n : Nat} {u v w : Int32} : stS s n u v w (88 + 3 * n) = u := by
  unfold stS
  rw [upd_ne (by omega), upd_ne (by omega), upd_ne (by omega), upd_at]
theorem stS_1 {s : Nat → Int32} {n : Nat} {u v w : Int32} : stS s n u v w (88 + 3 * n + 1) = v := by
  unfold stS
  rw [upd_ne (by omega), upd_ne (by omega), upd_at]
theorem stS_2 {s : Nat → Int32} {n : Nat} {u v w : Int32} : stS s n u v w (88 + 3 * n + 2) = w := by
  unfold stS
  rw [upd_ne (by omega), upd_at]
theorem WF_stage {s : Nat → Int32} {n : Nat} {u v w : Int32} (hn : n < 8) (en : s 4 = nI n) (hu : 0 ≤ u.toInt ∧ u.toInt ≤ 5) (hv : 0 ≤ v.toInt ∧ v.toInt < (s 2).toInt) (hw : 1 ≤ w.toInt ∧ w.toInt ≤ 60) (h : WF s) : WF (stS s n u v w) := by
  obtain ⟨⟨w0, w1, w2, w3, w4, w5, w6⟩, w7, w8, w9, w10⟩ := h
  have e : ∀ j, j ≠ 4 → j < 88 ∨ 88 + 3 * n + 2 < j → stS s n u v w j = s j := fun j h4 hj => stS_o h4 (by omega)
  have e4 : stS s n u v w 4 = nI (n + 1) := by
    show s 4 + 1 = _
    rw [en]; exact nI_add n 1
  have t4 : (nI (n + 1)).toInt = ((n + 1 : Nat) : Int) := nI_toInt (by omega)
  refine ⟨?_, ?_, ?_, ?_, ?_⟩
  · rw [e 0 (by omega) (by omega), e 1 (by omega) (by omega), e 2 (by omega) (by omega), e 3 (by omega) (by omega), e4, e 5 (by omega) (by omega), e 6 (by omega) (by omega), t4]
    exact ⟨w0, w1, w2, w3, by omega, w5, w6⟩
  · rw [e 7 (by omega) (by omega), e 8 (by omega) (by omega), e 9 (by omega) (by omega), e 10 (by omega) (by omega)]
    exact w7
  · intro j hj hj2
    rw [e 2 (by omega) (by omega)] at hj2
    rw [e _ (by omega) (by omega)]
    exact w8 j hj hj2
  · intro j hj hj2
    rw [e 3 (by omega) (by omega)] at hj2
    have := w9 j hj hj2
    unfold WFf at this ⊢
    rw [e _ (by omega) (by omega), e _ (by omega) (by omega), e _ (by omega) (by omega), e _ (by omega) (by omega), e _ (by omega) (by omega), e _ (by omega) (by omega), e _ (by omega) (by omega), e _ (by omega) (by omega), e _ (by omega) (by omega)]
    exact this
  · intro j hj hj2
    rw [e4, t4] at hj2
    rw [e 2 (by omega) (by omega)]
    by_cases q : j = n
    · subst q
      rw [stS_0, stS_1, stS_2]
      exact ⟨hu, hv, hw⟩
    · have o : ∀ c, c < 3 → stS s n u v w (88 + 3 * j + c) = s (88 + 3 * j + c) := fun c hc => stS_o (by omega) (by omega)
      rw [show stS s n u v w (88 + 3 * j) = s (88 + 3 * j) from o 0 (by omega), o 1 (by omega), o 2 (by omega)]
      exact w10 j hj (by rw [en, nI_toInt (by omega)]; omega)
def stA (a : mA) (n : Nat) (u v w : Int32) : mA := mS (mS (mS a 22 (upd (a 22) n u)) 23 (upd (a 23) n v)) 24 (upd (a 24) n w)
theorem BR_stage {s : Nat → Int32} {x a : mA} {f : mF} {n : Nat} {u v w : Int32} (hn : n < 8) (en : s 4 = nI n) (h : BR s x a f 17) : BR (stS s n u v w) (mS x 17 (upd (x 17) 12 (x 17 12 + 1))) (stA a n u v w) f 17 := by
  obtain ⟨⟨w0, w1, w2, w3, w4, w5, w6⟩, w7, w8, w9, w10⟩ := h
  have e : ∀ j, j ≠ 4 → j < 88 ∨ 88 + 3 * n + 2 < j → stS s n u v w j = s j := fun j h4 hj => stS_o h4 (by omega)
  have e4 : stS s n u v w 4 = nI (n + 1) := by
    show s 4 + 1 = _
    rw [en]; exact nI_add n 1
  have t4 : (nI (n + 1)).toInt = ((n + 1 : Nat) : Int) := nI_toInt (by omega)
  refine ⟨?_, ?_, ?_, ?_, ?_⟩
  · rw [e 0 (by omega) (by omega), e 1 (by omega) (by omega), e 2 (by omega) (by omega), e 3 (by omega) (by omega), e 5 (by omega) (by omega), e 6 (by omega) (by omega)]
    refine ⟨w0, w1, w2, w3, ?_, w5, w6⟩
    show s 4 + 1 = x 17 12 + 1
    rw [w4]
  · intro k hk
    rw [e _ (by omega) (by omega)]
    exact w7 k hk
  · intro j hj hj2
    rw [e 2 (by omega) (by omega)] at hj2
    rw [e _ (by omega) (by omega)]
    exact w8 j hj hj2
  · intro j hj hj2 c hc
    rw [e 3 (by omega) (by omega)] at hj2
    rw [e _ (by omega) (by omega)]
    exact w9 j hj hj2 c hc
  · intro j hj hj2
    rw [e4, t4] at hj2
    show _ = upd (a 22) n u j ∧ _ = upd (a 23) n v j ∧ _ = upd (a 24) n w j
    by_cases q : j = n
    · subst q
      rw [stS_0, stS_1, stS_2, upd_at, upd_at, upd_at]
      exact ⟨rfl, rfl, rfl⟩
    · have o : ∀ c, c < 3 → stS s n u v w (88 + 3 * j + c) = s (88 + 3 * j + c) := fun c hc => stS_o (by omega) (by omega)
      rw [show stS s n u v w (88 + 3 * j) = s (88 + 3 * j) from o 0 (by omega), o 1 (by omega), o 2 (by omega), upd_ne q, upd_ne q, upd_ne q]
      exact w10 j hj (by rw [en, nI_toInt (by omega)]; omega)
theorem b_addStage (d : Nat) (mb : Nat → AB) (x a : mA) (f : mF) {n : Nat} (hn : n < 8) (en : x 17 12 = nI n) (u v w : Int32) : ab_Ex (d + 1) 0 yX0_addStage [vR 17 0, vI u, vI v, vI w] (hX mb x a f) none (hX mb (mS x 17 (upd (x 17) 12 (x 17 12 + 1))) (stA a n u v w) f) := by
  refine ab_meth oX0_addStage d _ _ _ _ (Nat.le_refl _) rfl (fun E => ?_)
  refine ab_run [] 100 oX0_addStage.1 (Nat.le_refl _) 0 ?_
  have hl : x 17 12 < 8 := by rw [en]; exact ld_lt n 8 hn (by decide)
  have hv : vp_in (x 17 12) 8 := by rw [en]; exact vp_in_nI hn (by omega)
  have hc : n = (x 17 12).toNatClampNeg := by rw [en, nI_clamp (by omega)]
  rw [hc]
  refine ⟨fun (c : 8 ≤ x 17 12) => absurd hl (le_nlt c), fun c => ?_⟩
  refine ⟨hv, hv, hv, ?_⟩
  exact ⟨rfl, rfl⟩
