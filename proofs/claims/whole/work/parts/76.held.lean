set_option maxRecDepth 100000 in
theorem m_heldend {A : mA} {m : Nat} (hm : m ≤ 8) (em : A 2 3 = nI m) (hp : ∀ i, i < m → A 2 (16 + 9 * i + 4) = nI (miN A i)) (hw : ∀ i, i < m → A 2 (16 + 9 * i + 3) = nI (wtN A i)) (g : mG) (e6 : g 24 = nI m) (xs : List AB) (c10 c11 : Nat → Int32) (v : Int32) (oT : Nat → Nat) (hT : ∀ k, k < m → A 12 k = nI (oT k) ∧ oT k < m) (w1 w2 w3 : Int32) (h0 : AH) (E : Nat × (Nat → Int32)) : ab_W jX5_held 39 E h0 70 (fun v1 h1 => v1 = some (vI (nI (oC (miN A) (wtN A) 0 (oP oT m)) - v)) ∧ h1 = hM (upd (upd g 22 v) 24 0) (mS (mS A 10 (mcp c10 (A 12) m)) 11 c11) xs) (ab_at iX5_held 132) [(4, vI (nI 0)), (3, vI w3), (2, vI w2), (1, vI w1), (0, vR 0 0)] [] (oH g A v c10 c11 xs) := by
  have hS : ab_Ex 39 0 yX5_sumOf [vR 0 0, vI (A 2 3)] (hM (upd (upd g 22 v) 24 0) (mS (mS A 10 (mcp c10 (A 12) m)) 11 c11) xs) (some (vI (nI (oC (miN A) (wtN A) 0 (oP oT m))))) (hM (upd (upd g 22 v) 24 0) (mS (mS A 10 (mcp c10 (A 12) m)) 11 c11) xs) := by
    rw [em]
    exact m_sumOf (Nat.le_refl m) hm hp hw 37 _ (mS (mS A 10 (mcp c10 (A 12) m)) 11 c11) xs rfl oT (fun k hk => ⟨(mcp_lt hk).trans (hT k hk).1, (hT k hk).2⟩)
  have loop : ∀ (k i : Nat), i + k = m → ab_W jX5_held 39 E h0 70 (fun v1 h1 => v1 = some (vI (nI (oC (miN A) (wtN A) 0 (oP oT m)) - v)) ∧ h1 = hM (upd (upd g 22 v) 24 0) (mS (mS A 10 (mcp c10 (A 12) m)) 11 c11) xs) (ab_at iX5_held 132) [(4, vI (nI i)), (3, vI w3), (2, vI w2), (1, vI w1), (0, vR 0 0)] [] (oH g A v (mcp c10 (A 12) i) c11 xs) := by
    intro k
    induction k with
    | zero =>
      intro i hi
      rw [show i = m by omega]
      refine ab_run [132] 100 oX5_held.1 (Nat.le_refl _) 132 ?_
      refine ⟨fun _ => ?_, fun (c1 : ¬ g 24 ≤ nI m) => ?_⟩
      · refine ⟨vp_d rfl, ?_⟩
        refine ⟨_, _, hS, Nat.le_refl _, ?_⟩
        exact ⟨rfl, rfl⟩
      · rw [e6] at c1
        exact absurd (nI_le (by omega) (by omega)) c1
    | succ k ih =>
      intro i hi
      have h9 := ih (i + 1) (by omega)
      rw [nI_succ, ← mcp_s c10 (A 12) i] at h9
      generalize mcp c10 (A 12) i = cc at h9 ⊢
      refine ab_run [132] 100 oX5_held.1 (Nat.le_refl _) 132 ?_
      refine ⟨fun (c1 : g 24 ≤ nI i) => ?_, fun _ => ?_⟩
      · rw [e6] at c1
        exact absurd c1 (nI_lt_m (by omega) (by omega))
      refine ⟨(vp_in_nI (by omega) (by omega) : vp_in (nI i) 8), (vp_in_nI (by omega) (by omega) : vp_in (nI i) 8), ?_⟩
      rw [nI_clamp (by omega)]
      exact h9
  have h9 := loop m 0 (by omega)
  rw [mcp_0] at h9
  exact h9
theorem IV_tk {g : mG} {A x a : mA} {f : mF} (h : IV g A x a f) : IV (upd g 24 0) A (mS x 13 (upd (x 13) 10 0)) a f := ⟨h.1, h.2.1, ⟨0, by omega, nI_0.symm, nI_0.symm, fun k hk => absurd hk (Nat.not_lt_zero k)⟩, h.2.2.2⟩
theorem p_held : P_held IV 40 := by
  intro g A x a f h
  obtain ⟨m, hm, em, exm⟩ := IV_m h
  obtain ⟨n, hn8, e6, ex6, hr⟩ := h.2.2.1
  have hXt := x_told 37 (mbl g A) x a f (A 12) exm hm ex6 hn8 hr
  have hMt := fun xs => m_told g A xs em hm e6 hn8
  obtain ⟨R, hR⟩ : ∃ R : Int32, R = (if n = m then hvR (A 12) m n 0 0 else 0) := ⟨_, rfl⟩
  rw [← hR] at hXt hMt
  have hR1 : R = 0 ∨ R = 1 := by
    rw [hR]
    by_cases hnm : n = m
    · rw [if_pos hnm]
      exact hv_01 _ _ _ _ _
    · rw [if_neg hnm]
      exact Or.inl rfl
  rcases hR1 with hR0 | hR1
  · subst hR0
    refine pr_rf h rc3 ?_ (fun xs => ?_)
    · refine ab_meth oX4_held 39 _ _ _ _ (Nat.le_refl _) rfl (fun E => ?_)
      refine ab_run [] 100 oX4_held.1 (Nat.le_refl _) 0 ?_
      refine ⟨_, _, hXt, Nat.le_refl _, ?_⟩
      refine ⟨fun c => absurd rfl c, fun _ => ?_⟩
      exact ⟨_, _, x_rf _ _ x a f rc3, Nat.le_refl _, rfl, rfl⟩
    · refine ab_meth oX5_held 39 _ _ _ _ (Nat.le_refl _) rfl (fun E => ?_)
      refine hMt xs _ E _ (fun w3 w1 => ?_)
      refine ab_run [132] 100 oX5_held.1 (Nat.le_refl _) 88 ?_
      refine ⟨fun c => absurd rfl c, fun _ => ?_⟩
      refine ⟨fun c => absurd c (by decide), fun _ => ?_⟩
      exact ⟨_, _, m_rf _ g A xs rc3, Nat.le_refl _, rfl, rfl⟩
  have hnm : n = m := by
    by_cases q : n = m
    · exact q
    · rw [if_neg q] at hR
      rw [hR] at hR1
      exact absurd hR1 (by decide)
  rw [if_pos hnm, hR1] at hR
  have hv := hv_ok _ _ _ hR.symm
  subst hR1
  subst hnm
  by_cases c2 : 6 < n
  · have c2m : ¬ A 2 3 ≤ 6 := by rw [em]; exact nI_ge (b := n) (a := 6) c2 (by omega)
    have c2x : ¬ x 17 5 ≤ 6 := by rw [exm]; exact nI_ge (b := n) (a := 6) c2 (by omega)
    refine pr_rf h rc6 ?_ (fun xs => ?_)
    · refine ab_meth oX4_held 39 _ _ _ _ (Nat.le_refl _) rfl (fun E => ?_)
      refine ab_run [] 100 oX4_held.1 (Nat.le_refl _) 0 ?_
      refine ⟨_, _, hXt, Nat.le_refl _, ?_⟩
      refine ⟨fun _ => ?_, fun c => absurd c (by decide)⟩
      refine ⟨fun c => absurd c c2x, fun _ => ?_⟩
      exact ⟨_, _, x_rf _ _ x a f rc6, Nat.le_refl _, rfl, rfl⟩
    · refine ab_meth oX5_held 39 _ _ _ _ (Nat.le_refl _) rfl (fun E => ?_)
      refine hMt xs _ E _ (fun w3 w1 => ?_)
      refine ab_run [132] 100 oX5_held.1 (Nat.le_refl _) 88 ?_
      refine ⟨fun _ => ?_, fun c => absurd c (by decide)⟩
      refine ⟨vp_d rfl, fun c => absurd c c2m, fun _ => ?_⟩
      refine ⟨fun c => absurd c (by decide), fun _ => ?_⟩
      exact ⟨_, _, m_rf _ g A xs rc6, Nat.le_refl _, rfl, rfl⟩
  have c2m : A 2 3 ≤ 6 := by rw [em]; exact (show nI n ≤ nI 6 from nI_le (by omega) (by omega))
  have c2x : x 17 5 ≤ 6 := by rw [exm]; exact (show nI n ≤ nI 6 from nI_le (by omega) (by omega))
  obtain ⟨oT, hoT⟩ : ∃ oT : Nat → Nat, oT = fun k => (A 12 k).toNatClampNeg := ⟨_, rfl⟩
  have hT : ∀ k, k < n → A 12 k = nI (oT k) ∧ oT k < n := by
    intro k hk
    obtain ⟨i, hi, e⟩ := ix_of (m := n) (by omega) (hv k (by omega) (by omega))
    have e2 : oT k = i := by
      rw [hoT]
      show (A 12 k).toNatClampNeg = i
      rw [e, nI_clamp (by omega)]
    rw [e2]
    exact ⟨e, hi⟩
  obtain ⟨o, c, hS, hc, hXo⟩ := x_order h em hm 37 (mbl g A)
  obtain ⟨c10, c11, hc11, hMo⟩ := m_findLeast h em (by omega) hS (D := 39) (by omega)
  obtain ⟨f1, f2, f3⟩ := fnd_hyp h em (by omega)
  have hs47 := x_sumOf47 h em hm 38 (mbl g A) (mS x 13 (upd (x 13) 10 0)) (mS a 46 c) exm oT (fun k hk => ⟨(show a 47 k = nI (oT k) by rw [← hr k hk]; exact (hT k hk).1), (hT k hk).2⟩)
  have hs46 := x_sumOf46 h em hm 38 (mbl g A) (mS x 13 (upd (x 13) 10 0)) (mS a 46 c) exm o (fun k hk => ⟨hc k hk, hS.2.1 k hk⟩)
  refine pr_w (r := nI (oC (miN A) (wtN A) 0 (oP oT n)) - nI (oC (miN A) (wtN A) 0 (oP o n))) (x' := mS x 13 (upd (x 13) 10 0)) (a' := mS a 46 c) (f' := f) (g' := upd (upd g 22 (nI (oC (miN A) (wtN A) 0 (oP o n)))) 24 0) (A' := mS (mS A 10 (mcp c10 (A 12) n)) 11 c11) ?_ (fun xs => ?_) (IV_tk (IV_or h _ _ c11 c))
  · refine ab_meth oX4_held 39 _ _ _ _ (Nat.le_refl _) rfl (fun E => ?_)
    refine ab_run [] 100 oX4_held.1 (Nat.le_refl _) 0 ?_
    refine ⟨_, _, hXt, Nat.le_refl _, ?_⟩
    refine ⟨fun _ => ?_, fun c => absurd c (by decide)⟩
    refine ⟨fun _ => ?_, fun c => absurd c2x c⟩
    refine ⟨_, _, hXo, Nat.le_refl _, ?_⟩
    refine ⟨_, _, hs47, Nat.le_refl _, ?_⟩
    refine ⟨_, _, hs46, Nat.le_refl _, ?_⟩
    exact ⟨rfl, rfl⟩
  · refine ab_meth oX5_held 39 _ _ _ _ (Nat.le_refl _) rfl (fun E => ?_)
    refine hMt xs _ E _ (fun w3 w1 => ?_)
    refine ab_run [132] 100 oX5_held.1 (Nat.le_refl _) 88 ?_
    refine ⟨fun _ => ?_, fun c => absurd c (by decide)⟩
    refine ⟨vp_d rfl, fun _ => ?_, fun c => absurd c2m c⟩
    refine ⟨fun _ => ?_, fun c => absurd rfl c⟩
    refine ⟨_, _, hMo xs, Nat.le_refl _, ?_⟩
    exact m_heldend hm em f1 f2 g e6 xs c10 c11 _ oT hT w1 1 0 _ E
