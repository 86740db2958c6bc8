theorem WF_oil {s : Nat → Int32} (h : WF s) : WF (upd s 6 (s 5)) := by
  obtain ⟨⟨w0, w1, w2, w3, w4, w5, w6⟩, w7, w8, w9, w10⟩ := h
  have e : ∀ j, j ≠ 6 → upd s 6 (s 5) j = s j := fun j hj => upd_ne hj
  refine ⟨⟨w0, w1, w2, w3, w4, w5, ?_⟩, w7, ?_, ?_, ?_⟩
  · rw [upd_at]; omega
  · intro j hj hj2
    rw [e _ (by omega)]
    exact w8 j hj hj2
  · intro j hj hj2
    have := w9 j hj hj2
    unfold WFf at this ⊢
    rw [e _ (by omega), e _ (by omega), e _ (by omega), e _ (by omega), e _ (by omega), e _ (by omega), e _ (by omega), e _ (by omega), e _ (by omega)]
    exact this
  · intro j hj hj2
    rw [e _ (by omega), e _ (by omega), e _ (by omega), e _ (by omega)]
    exact w10 j hj hj2
theorem BR_oil {s : Nat → Int32} {x a : mA} {f : mF} (h : BR s x a f 17) : BR (upd s 6 (s 5)) (mS x 17 (upd (x 17) 8 (x 17 7))) a f 17 := by
  obtain ⟨⟨w0, w1, w2, w3, w4, w5, w6⟩, w7, w8, w9, w10⟩ := h
  have e : ∀ j, j ≠ 6 → upd s 6 (s 5) j = s j := fun j hj => upd_ne hj
  refine ⟨⟨w0, w1, w2, w3, w4, w5, ?_⟩, ?_, ?_, ?_, ?_⟩
  · exact w5
  · intro k hk
    rw [e _ (by omega)]
    exact w7 k hk
  · intro j hj hj2
    rw [e _ (by omega)]
    exact w8 j hj hj2
  · intro j hj hj2 c hc
    rw [e _ (by omega)]
    exact w9 j hj hj2 c hc
  · intro j hj hj2
    rw [e _ (by omega), e _ (by omega), e _ (by omega)]
    exact w10 j hj hj2
theorem p_oil : P_oil IV 40 := by
  intro g A x a f h
  obtain ⟨m, hm, em, exm⟩ := IV_m h
  have hs : bx_sum (fun i => if f 20 i 0 = 5 then 1 else 0) m = bx_sum (fun i => if A 2 (16 + 9 * i) = 5 then 1 else 0) m := by
    refine bx_congr m (fun i hi => ?_)
    rw [show A 2 (16 + 9 * i) = f 20 i 0 from (IV_flt h em hm hi).2 0 (by decide)]
  refine pr_w (r := bx_sum (fun i => if A 2 (16 + 9 * i) = 5 then 1 else 0) m) (x' := mS x 17 (upd (x 17) 8 (x 17 7))) (a' := a) (f' := f) (g' := g) (A' := mS A 2 (upd (A 2) 6 (A 2 5))) (ex_r ?_ hs) (fun xs => ?_) ?_
  · refine ab_meth oX4_oil 39 _ _ _ _ (Nat.le_refl _) rfl (fun E => ?_)
    have loop : ∀ (k i : Nat), i + k = m → ab_W jX4_oil 39 E (hX (mbl g A) x a f) (hX (mbl g A) x a f).1 (fun v1 h1 => v1 = some (vI (bx_sum (fun i => if f 20 i 0 = 5 then 1 else 0) m)) ∧ h1 = hX (mbl g A) (mS x 17 (upd (x 17) 8 (x 17 7))) a f) (ab_at iX4_oil 18) [(2, vI (nI i)), (1, vI (bx_sum (fun i => if f 20 i 0 = 5 then 1 else 0) i)), (0, vR 13 0)] [] (hX (mbl g A) (mS x 17 (upd (x 17) 8 (x 17 7))) a f) := by
      intro k
      induction k with
      | zero =>
        intro i hi
        refine ab_run [18] 100 oX4_oil.1 (Nat.le_refl _) 18 ?_
        refine ⟨fun c1 => ?_, fun (c1 : ¬ x 17 5 ≤ nI i) => ?_⟩
        · refine ⟨?_, rfl⟩
          rw [show i = m by omega]
        · rw [exm] at c1
          exact absurd (nI_le (by omega) (by omega)) c1
      | succ k ih =>
        intro i hi
        refine ab_run [18] 100 oX4_oil.1 (Nat.le_refl _) 18 ?_
        refine ⟨fun (c1 : x 17 5 ≤ nI i) => ?_, fun c1 => ?_⟩
        · rw [exm] at c1
          exact absurd c1 (nI_lt_m (by omega) (by omega))
        refine ⟨vp_in_nI (by omega) (by omega), ⟨(20, i), by rw [nI_clamp (by omega)]; exact ab_fa_at 20 (by omega), ?_⟩⟩
        refine ⟨ck20 (by omega), ?_⟩
        have := ih (i + 1) (by omega)
        rw [nI_succ, show bx_sum (fun i => if f 20 i 0 = 5 then (1 : Int32) else 0) (i + 1) = bx_sum (fun i => if f 20 i 0 = 5 then 1 else 0) i + (if f 20 i 0 = 5 then 1 else 0) from rfl] at this
        refine ⟨fun (c : ¬ f 20 i 0 = 5) => ?_, fun (c : f 20 i 0 = 5) => ?_⟩
        · rw [if_neg c] at this
          exact this
        · rw [if_pos c] at this
          exact this
    refine ab_run [18] 100 oX4_oil.1 (Nat.le_refl _) 0 ?_
    exact loop m 0 (by omega)
  · refine ab_meth oX5_oil 39 _ _ _ _ (Nat.le_refl _) rfl (fun E => ?_)
    have loop : ∀ (k i : Nat), i + k = m → ab_W jX5_oil 39 E (hM g A xs) (hM g A xs).1 (fun v1 h1 => v1 = some (vI (bx_sum (fun i => if A 2 (16 + 9 * i) = 5 then 1 else 0) m)) ∧ h1 = hM g (mS A 2 (upd (A 2) 6 (A 2 5))) xs) (ab_at iX5_oil 17) [(2, vI (nI i)), (1, vI (bx_sum (fun i => if A 2 (16 + 9 * i) = 5 then 1 else 0) i)), (0, vR 0 0)] [] (hM g (mS A 2 (upd (A 2) 6 (A 2 5))) xs) := by
      intro k
      induction k with
      | zero =>
        intro i hi
        refine ab_run [17] 100 oX5_oil.1 (Nat.le_refl _) 17 ?_
        refine ⟨vp_d rfl, ?_⟩
        refine ⟨fun c1 => ?_, fun (c1 : ¬ A 2 3 ≤ nI i) => ?_⟩
        · refine ⟨?_, rfl⟩
          rw [show i = m by omega]
        · rw [em] at c1
          exact absurd (nI_le (by omega) (by omega)) c1
      | succ k ih =>
        intro i hi
        refine ab_run [17] 100 oX5_oil.1 (Nat.le_refl _) 17 ?_
        refine ⟨vp_d rfl, ?_⟩
        refine ⟨fun (c1 : A 2 3 ≤ nI i) => ?_, fun c1 => ?_⟩
        · rw [em] at c1
          exact absurd c1 (nI_lt_m (by omega) (by omega))
        refine ⟨_, _, m_get0 _ g (mS A 2 (upd (A 2) 6 (A 2 5))) xs i (by omega), Nat.le_refl _, ?_⟩
        have eq : (mS A 2 (upd (A 2) 6 (A 2 5))) 2 (16 + 9 * i) = A 2 (16 + 9 * i) := by
          rw [mS_eq]
          exact upd_ne (by omega)
        rw [eq]
        have := ih (i + 1) (by omega)
        rw [nI_succ, show bx_sum (fun i => if A 2 (16 + 9 * i) = 5 then (1 : Int32) else 0) (i + 1) = bx_sum (fun i => if A 2 (16 + 9 * i) = 5 then 1 else 0) i + (if A 2 (16 + 9 * i) = 5 then 1 else 0) from rfl] at this
        refine ⟨fun (c : ¬ A 2 (16 + 9 * i) = 5) => ?_, fun (c : A 2 (16 + 9 * i) = 5) => ?_⟩
        · rw [if_neg c] at this
          exact this
        · rw [if_pos c] at this
          exact this
    refine ab_run [17] 100 oX5_oil.1 (Nat.le_refl _) 0 ?_
    refine ⟨vp_d rfl, vp_d rfl, ?_⟩
    exact loop m 0 (by omega)
  · obtain ⟨h1, h2, h3, h4, h5, h6, h7⟩ := h
    exact ⟨h1, h2, h3, h4, WF_oil h5, BR_oil h6, h7⟩
