-- THE INVARIANT BETWEEN THE CLASS AND THE MODEL
def IV : IT := fun g A x a f =>
  (∀ k : Nat, k < 7 → A 1 k = a 48 k) ∧ (∃ n : Nat, n ≤ 64 ∧ g 7 = nI n ∧ x 14 1 = nI n ∧ ∀ k : Nat, k < n → A 5 k = a 15 k) ∧ (∃ n : Nat, n ≤ 8 ∧ g 24 = nI n ∧ x 13 10 = nI n ∧ ∀ k : Nat, k < n → A 12 k = a 47 k) ∧
  (g 4 = x 13 4 ∧ (g 4 = 0 ∨ g 4 = 1)) ∧ WF (A 2) ∧ BR (A 2) x a f 17 ∧ (g 4 = 1 → WF (A 3) ∧ BR (A 3) x a f 33)
theorem BR_congr {s : Nat → Int32} {x x' a a' : mA} {f f' : mF} {b : Nat} (hx : x' b = x b) (h1 : a' (b + 1) = a (b + 1)) (h4 : a' (b + 4) = a (b + 4)) (h5 : a' (b + 5) = a (b + 5)) (h6 : a' (b + 6) = a (b + 6)) (h7 : a' (b + 7) = a (b + 7)) (hf : f' (b + 3) = f (b + 3)) (h : BR s x a f b) : BR s x' a' f' b := by
  unfold BR
  rw [hx, h1, h4, h5, h6, h7, hf]
  exact h
theorem IV_congr {g g' : mG} {A A' x x' a a' : mA} {f : mF} (hA : ∀ k, k = 1 ∨ k = 2 ∨ k = 3 ∨ k = 5 ∨ k = 12 → A' k = A k) (hg : ∀ k, k = 4 ∨ k = 7 ∨ k = 24 → g' k = g k) (hx : ∀ k, k = 13 ∨ k = 14 ∨ k = 17 ∨ k = 33 → x' k = x k) (ha : ∀ k, k ≠ 45 → k ≠ 46 → a' k = a k) (h : IV g A x a f) : IV g' A' x' a' f := by
  obtain ⟨h1, h2, h3, h4, h5, h6, h7⟩ := h
  have a1 := hA 1 (by decide)
  have a2 := hA 2 (by decide)
  have a3 := hA 3 (by decide)
  have a5 := hA 5 (by decide)
  have a12 := hA 12 (by decide)
  have g4 := hg 4 (by decide)
  have g7 := hg 7 (by decide)
  have g24 := hg 24 (by decide)
  have x13 := hx 13 (by decide)
  have x14 := hx 14 (by decide)
  have x17 := hx 17 (by decide)
  have x33 := hx 33 (by decide)
  have hb := fun k (h1 : k ≠ 45) (h2 : k ≠ 46) => ha k h1 h2
  unfold IV
  rw [a1, a2, a3, a5, a12, g4, g7, g24, x13, x14, hb 48 (by decide) (by decide), hb 15 (by decide) (by decide), hb 47 (by decide) (by decide)]
  exact ⟨h1, h2, h3, h4, h5, BR_congr x17 (hb _ (by decide) (by decide)) (hb _ (by decide) (by decide)) (hb _ (by decide) (by decide)) (hb _ (by decide) (by decide)) (hb _ (by decide) (by decide)) rfl h6, fun q => ⟨(h7 q).1, BR_congr x33 (hb _ (by decide) (by decide)) (hb _ (by decide) (by decide)) (hb _ (by decide) (by decide)) (hb _ (by decide) (by decide)) (hb _ (by decide) (by decide)) rfl (h7 q).2⟩⟩
def RC (c : Int32) : Prop := c = -1 ∨ c = -2 ∨ c = -3 ∨ c = -4 ∨ c = -6
def rfX (a : mA) (c : Int32) : mA := mS a 48 (upd (a 48) (-c).toNatClampNeg (a 48 (-c).toNatClampNeg + 1))
def rfM (A : mA) (c : Int32) : mA := mS A 1 (upd (A 1) (-c).toNatClampNeg (A 1 (-c).toNatClampNeg + 1))
theorem x_rf (d : Nat) (mb : Nat → AB) (x a : mA) (f : mF) {c : Int32} (hc : RC c) : ab_Ex (d + 1) 0 yX4_refuse [vR 13 0, vI c] (hX mb x a f) (some (vI c)) (hX mb x (rfX a c) f) := by
  refine x_refuse d mb x a f c ?_ ?_
  · rcases hc with rfl | rfl | rfl | rfl | rfl <;> decide
  · rcases hc with rfl | rfl | rfl | rfl | rfl <;> exact vp_d rfl
theorem m_rf (d : Nat) (g : mG) (A : mA) (xs : List AB) {c : Int32} (hc : RC c) : ab_Ex (d + 1) 0 yX5_refuse [vR 0 0, vI c] (hM g A xs) (some (vI c)) (hM g (rfM A c) xs) := by
  refine m_refuse d g A xs c ?_
  rcases hc with rfl | rfl | rfl | rfl | rfl <;> exact vp_d rfl
theorem IV_rf {g : mG} {A x a : mA} {f : mF} (h : IV g A x a f) {c : Int32} (hc : RC c) : IV g (rfM A c) x (rfX a c) f := by
  obtain ⟨h1, h2, h3, h4, h5, h6, h7⟩ := h
  have e : ∀ k : Nat, k < 7 → rfM A c 1 k = rfX a c 48 k := by
    intro k hk
    unfold rfM rfX
    rw [mS_eq, mS_eq]
    show (if k = (-c).toNatClampNeg then _ else _) = if k = (-c).toNatClampNeg then _ else _
    by_cases hq : k = (-c).toNatClampNeg
    · rw [if_pos hq, if_pos hq, ← hq, h1 k hk]
    · rw [if_neg hq, if_neg hq, h1 k hk]
  refine ⟨e, h2, h3, h4, h5, h6, h7⟩
theorem IV_m {g : mG} {A x a : mA} {f : mF} (h : IV g A x a f) : ∃ m : Nat, m ≤ 8 ∧ A 2 3 = nI m ∧ x 17 5 = nI m := by
  obtain ⟨-, -, -, -, h5, h6, -⟩ := h
  have h3 := h5.1.2.2.2.1
  have c := ti_clamp (x := A 2 3) h3.1
  exact ⟨(A 2 3).toNatClampNeg, by omega, ti_nat h3.1, by rw [← h6.1.2.2.2.1]; exact ti_nat h3.1⟩
theorem IV_ns {g : mG} {A x a : mA} {f : mF} (h : IV g A x a f) : ∃ m : Nat, m ≤ 8 ∧ A 2 4 = nI m ∧ x 17 12 = nI m := by
  obtain ⟨-, -, -, -, h5, h6, -⟩ := h
  have h3 := h5.1.2.2.2.2.1
  have c := ti_clamp (x := A 2 4) h3.1
  exact ⟨(A 2 4).toNatClampNeg, by omega, ti_nat h3.1, by rw [← h6.1.2.2.2.2.1]; exact ti_nat h3.1⟩
theorem IV_ng {g : mG} {A x a : mA} {f : mF} (h : IV g A x a f) : ∃ m : Nat, m ≤ 5 ∧ A 2 2 = nI m ∧ x 17 3 = nI m := by
  obtain ⟨-, -, -, -, h5, h6, -⟩ := h
  have h3 := h5.1.2.2.1
  have c := ti_clamp (x := A 2 2) h3.1
  exact ⟨(A 2 2).toNatClampNeg, by omega, ti_nat h3.1, by rw [← h6.1.2.2.1]; exact ti_nat h3.1⟩
theorem ix_of {v : Int32} {m : Nat} (hm : m ≤ 1000) (h : 0 ≤ v ∧ v < nI m) : ∃ i : Nat, i < m ∧ v = nI i := by
  have h1 := Int32.le_iff_toInt_le.mp h.1
  have h2 := Int32.lt_iff_toInt_lt.mp h.2
  rw [nI_toInt (by omega)] at h2
  have h0 : (0 : Int32).toInt = 0 := rfl
  have c := ti_clamp (x := v) (by omega)
  exact ⟨v.toNatClampNeg, by omega, ti_nat (by omega)⟩
/-- both refuse: what is left to show of a pair -/
theorem pr_rf {d : Nat} {yx ym : MethodName} {as : List AV} {g : mG} {A x a : mA} {f : mF} (h : IV g A x a f) {c : Int32} (hc : RC c) (e1 : ab_Ex d 0 yx (vR 13 0 :: as) (hX (mbl g A) x a f) (some (vI c)) (hX (mbl g A) x (rfX a c) f)) (e2 : ∀ xs, ab_Ex d 0 ym (vR 0 0 :: as) (hM g A xs) (some (vI c)) (hM g (rfM A c) xs)) : ∃ (r : Int32) (x' a' : mA) (f' : mF) (g' : mG) (A' : mA), ab_Ex d 0 yx (vR 13 0 :: as) (hM g A (xl x a f)) (some (vI r)) (hM g A (xl x' a' f')) ∧ ab_Ex d 0 ym (vR 0 0 :: as) (hM g A (xl x' a' f')) (some (vI r)) (hM g' A' (xl x' a' f')) ∧ IV g' A' x' a' f' :=
  ⟨c, x, rfX a c, f, g, rfM A c, e1, e2 _, IV_rf h hc⟩
/-- both answer, and nothing changes -/
theorem pr_rd {d : Nat} {yx ym : MethodName} {as : List AV} {g : mG} {A x a : mA} {f : mF} (h : IV g A x a f) {r : Int32} (e1 : ab_Ex d 0 yx (vR 13 0 :: as) (hX (mbl g A) x a f) (some (vI r)) (hX (mbl g A) x a f)) (e2 : ∀ xs, ab_Ex d 0 ym (vR 0 0 :: as) (hM g A xs) (some (vI r)) (hM g A xs)) : ∃ (r : Int32) (x' a' : mA) (f' : mF) (g' : mG) (A' : mA), ab_Ex d 0 yx (vR 13 0 :: as) (hM g A (xl x a f)) (some (vI r)) (hM g A (xl x' a' f')) ∧ ab_Ex d 0 ym (vR 0 0 :: as) (hM g A (xl x' a' f')) (some (vI r)) (hM g' A' (xl x' a' f')) ∧ IV g' A' x' a' f' :=
  ⟨r, x, a, f, g, A, e1, e2 _, h⟩
-- drop
theorem p_drop : P_drop IV 40 := by
  intro g A x a f h
  obtain ⟨h1, h2, h3, h4, h5, h6, h7⟩ := h
  refine ⟨A 2 4, mS x 17 (upd (x 17) 12 0), a, f, g, mS A 2 (upd (A 2) 4 0), ?_, ?_, ?_⟩
  · refine ex_r (r := x 17 12) ?_ h6.1.2.2.2.2.1.symm
    refine ab_meth oX4_drop 39 _ _ _ _ (Nat.le_refl _) rfl (fun E => ?_)
    refine ab_run [] 50 oX4_drop.1 (Nat.le_refl _) 0 ?_
    exact ⟨rfl, rfl⟩
  · refine ab_meth oX5_drop 39 _ _ _ _ (Nat.le_refl _) rfl (fun E => ?_)
    refine ab_run [] 50 oX5_drop.1 (Nat.le_refl _) 0 ?_
    refine ⟨vp_d rfl, vp_d rfl, ?_⟩
    exact ⟨rfl, rfl⟩
  · refine ⟨h1, h2, h3, h4, ?_, ?_, h7⟩
    · obtain ⟨⟨w0, w1, w2, w3, w4, w5, w6⟩, w7, w8, w9, w10⟩ := h5
      have e : ∀ k, k ≠ 4 → (mS A 2 (upd (A 2) 4 0)) 2 k = A 2 k := by
        intro k hk
        rw [mS_eq]
        exact if_neg hk
      refine ⟨⟨w0, w1, w2, w3, (by show 0 ≤ (0 : Int32).toInt ∧ (0 : Int32).toInt ≤ 8; decide), w5, w6⟩, w7, ?_, ?_, ?_⟩
      · intro k hk hk2
        rw [e _ (by omega)]
        exact w8 k hk hk2
      · intro j hj hj2
        have := w9 j hj hj2
        unfold WFf at this ⊢
        rw [e _ (by omega), e _ (by omega), e _ (by omega), e _ (by omega), e _ (by omega), e _ (by omega), e _ (by omega), e _ (by omega), e _ (by omega)]
        exact this
      · intro i hi hi2
        have hz : ((mS A 2 (upd (A 2) 4 0)) 2 4).toInt = 0 := rfl
        rw [hz] at hi2
        omega
    · obtain ⟨⟨w0, w1, w2, w3, w4, w5, w6⟩, w7, w8, w9, w10⟩ := h6
      have e : ∀ k, k ≠ 4 → (mS A 2 (upd (A 2) 4 0)) 2 k = A 2 k := by
        intro k hk
        rw [mS_eq]
        exact if_neg hk
      refine ⟨⟨w0, w1, w2, w3, rfl, w5, w6⟩, ?_, ?_, ?_, ?_⟩
      · intro k hk
        rw [e _ (by omega)]
        exact w7 k hk
      · intro k hk hk2
        rw [e _ (by omega)]
        exact w8 k hk hk2
      · intro j hj hj2 k hk
        rw [e _ (by omega)]
        exact w9 j hj hj2 k hk
      · intro i hi hi2
        have hz : ((mS A 2 (upd (A 2) 4 0)) 2 4).toInt = 0 := rfl
        rw [hz] at hi2
        omega
