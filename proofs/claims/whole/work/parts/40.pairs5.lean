theorem p_rounds : P_rounds IV 40 := by
  intro p1 p2 p3 g A x a f h
  have hb := h.2.2.2.2.2.1
  obtain ⟨m, hm, em, exm⟩ := IV_m h
  obtain ⟨ng, hng, eg, exg⟩ := IV_ng h
  have hx5 : x 17 3 ≤ 5 := by
    rw [exg, Int32.le_iff_toInt_le, nI_toInt (by omega)]
    have : (5 : Int32).toInt = 5 := rfl
    omega
  have rX : ∀ (hc : ¬ ((0 ≤ p1 ∧ p1 < nI m) ∧ (0 ≤ p2 ∧ p2 < nI ng))), ∃ (r : Int32) (x' a' : mA) (f' : mF) (g' : mG) (A' : mA), ab_Ex 40 0 yX4_rounds (vR 13 0 :: [vI p1, vI p2, vI p3]) (hM g A (xl x a f)) (some (vI r)) (hM g A (xl x' a' f')) ∧ ab_Ex 40 0 yX5_rounds (vR 0 0 :: [vI p1, vI p2, vI p3]) (hM g A (xl x' a' f')) (some (vI r)) (hM g' A' (xl x' a' f')) ∧ IV g' A' x' a' f' := by
    intro hc
    refine pr_rf h rc1 ?_ (fun xs => ?_)
    · refine ab_meth oX4_rounds 39 _ _ _ _ (Nat.le_refl _) rfl (fun E => ?_)
      refine ab_run [] 50 oX4_rounds.1 (Nat.le_refl _) 0 ?_
      refine ⟨_, _, x_isFault _ _ x a f _, Nat.le_refl _, ?_⟩
      refine br_z (fun c => ?_) (fun c => ?_)
      · exact ⟨_, _, x_rf _ _ x a f rc1, Nat.le_refl _, rfl, rfl⟩
      refine ⟨_, _, x_isGear _ _ x a f _, Nat.le_refl _, ?_⟩
      refine br_n (fun c' => absurd ⟨by rw [← exm]; exact c, by rw [← exg]; exact c'⟩ hc) (fun c => ?_)
      exact ⟨_, _, x_rf _ _ x a f rc1, Nat.le_refl _, rfl, rfl⟩
    · refine ab_meth oX5_rounds 39 _ _ _ _ (Nat.le_refl _) rfl (fun E => ?_)
      refine ab_run [] 50 oX5_rounds.1 (Nat.le_refl _) 0 ?_
      refine ⟨_, _, m_isFault _ g A xs _, Nat.le_refl _, ?_⟩
      refine br_z (fun c => ?_) (fun c => ?_)
      · exact ⟨_, _, m_rf _ g A xs rc1, Nat.le_refl _, rfl, rfl⟩
      refine ⟨_, _, m_isGear _ g A xs _, Nat.le_refl _, ?_⟩
      refine br_n (fun c' => absurd ⟨by rw [← em]; exact c, by rw [← eg]; exact c'⟩ hc) (fun c => ?_)
      exact ⟨_, _, m_rf _ g A xs rc1, Nat.le_refl _, rfl, rfl⟩
  by_cases c0 : (0 ≤ p1 ∧ p1 < nI m) ∧ (0 ≤ p2 ∧ p2 < nI ng)
  · obtain ⟨j, hj, rfl⟩ := ix_of (m := m) (by omega) c0.1
    obtain ⟨w, hw5, rfl⟩ := ix_of (m := ng) (by omega) c0.2
    have ⟨hw, hv⟩ := IV_flt h em hm hj
    have k0 : 0 ≤ nI j ∧ nI j < x 17 5 := by rw [exm]; exact c0.1
    have k1 : 0 ≤ nI w ∧ nI w < x 17 3 := by rw [exg]; exact c0.2
    have k2 : 0 ≤ nI j ∧ nI j < A 2 3 := by rw [em]; exact c0.1
    have k3 : 0 ≤ nI w ∧ nI w < A 2 2 := by rw [eg]; exact c0.2
    have hx : vp_in (nI j) 8 := vp_in_nI (by omega) (by omega)
    have hf : ab_fa 20 (nI j).toNatClampNeg = vR 20 j := by rw [nI_clamp (by omega)]; exact ab_fa_at 20 (by omega)
    have hj8 : j < 8 := by omega
    have e0 : f 20 j 0 = A 2 (16 + 9 * j) := (hv 0 (by decide)).symm
    have e5 := (hv 5 (by decide)).symm
    have e6 := (hv 6 (by decide)).symm
    by_cases c1 : p3 = 0
    · subst c1
      refine pr_rd h (r := upI (A 2 (16 + 9 * j)) (A 2 (16 + 9 * j + 5)) (A 2 0)) (ex_r (r := upI (f 20 j 0) (f 20 j 5) (x 17 0)) ?_ (by rw [e0, e5, hb.1.1])) (fun xs => ?_)
      · refine ab_meth oX4_rounds 39 _ _ _ _ (Nat.le_refl _) rfl (fun E => ?_)
        refine ab_run [] 50 oX4_rounds.1 (Nat.le_refl _) 0 ?_
        refine ⟨_, _, x_isFault _ _ x a f _, Nat.le_refl _, ?_⟩
        refine br_z (fun c => absurd k0 c) (fun c => ?_)
        refine ⟨_, _, x_isGear _ _ x a f _, Nat.le_refl _, ?_⟩
        refine br_n (fun c => ?_) (fun c => absurd k1 c)
        refine ⟨fun c => ?_, fun c => absurd rfl c⟩
        refine ⟨hx, ⟨(20, j), hf, ?_⟩⟩
        refine ⟨fun c => absurd rfl c, fun c => ?_⟩
        exact ⟨_, _, x_upOf _ _ x a f (hX_ok20 _ _ _ _ hj8) (hX_get20 _ _ _ _ _), Nat.le_refl _, rfl, rfl⟩
      · refine ab_meth oX5_rounds 39 _ _ _ _ (Nat.le_refl _) rfl (fun E => ?_)
        refine ab_run [] 50 oX5_rounds.1 (Nat.le_refl _) 0 ?_
        refine ⟨_, _, m_isFault _ g A xs _, Nat.le_refl _, ?_⟩
        refine br_z (fun c => absurd k2 c) (fun c => ?_)
        refine ⟨_, _, m_isGear _ g A xs _, Nat.le_refl _, ?_⟩
        refine br_n (fun c => ?_) (fun c => absurd k3 c)
        refine ⟨fun c => absurd rfl c, fun c => ?_⟩
        exact ⟨_, _, m_upOf _ g A xs j hj8, Nat.le_refl _, rfl, rfl⟩
    by_cases c2 : p3 = 1
    · subst c2
      refine pr_rd h (r := downI (A 2 (16 + 9 * j)) (A 2 (16 + 9 * j + 6)) (A 2 1) (A 2 (11 + w))) (ex_r (r := downX (f 20 j 0) (f 20 j 6) (x 17 1) (nI w) (x 17 3) (a 18)) ?_ (by rw [e0, e6]; exact dn_eq hb (by omega) (by rw [eg, nI_toInt (by omega)]; omega))) (fun xs => ?_)
      · refine ab_meth oX4_rounds 39 _ _ _ _ (Nat.le_refl _) rfl (fun E => ?_)
        refine ab_run [] 50 oX4_rounds.1 (Nat.le_refl _) 0 ?_
        refine ⟨_, _, x_isFault _ _ x a f _, Nat.le_refl _, ?_⟩
        refine br_z (fun c => absurd k0 c) (fun c => ?_)
        refine ⟨_, _, x_isGear _ _ x a f _, Nat.le_refl _, ?_⟩
        refine br_n (fun c => ?_) (fun c => absurd k1 c)
        refine ⟨fun c => absurd c (by decide), fun c => ⟨fun c => ?_, fun c => absurd rfl c⟩⟩
        refine ⟨hx, ⟨(20, j), hf, ?_⟩⟩
        refine ⟨fun c => ?_, fun c => absurd c (by decide)⟩
        exact ⟨_, _, x_downOf _ _ x a f (hX_ok20 _ _ _ _ hj8) (hX_get20 _ _ _ _ _) hx5 _, Nat.le_refl _, rfl, rfl⟩
      · refine ab_meth oX5_rounds 39 _ _ _ _ (Nat.le_refl _) rfl (fun E => ?_)
        refine ab_run [] 50 oX5_rounds.1 (Nat.le_refl _) 0 ?_
        refine ⟨_, _, m_isFault _ g A xs _, Nat.le_refl _, ?_⟩
        refine br_z (fun c => absurd k2 c) (fun c => ?_)
        refine ⟨_, _, m_isGear _ g A xs _, Nat.le_refl _, ?_⟩
        refine br_n (fun c => ?_) (fun c => absurd k3 c)
        refine ⟨fun c => ⟨fun c => absurd rfl c, fun c => ?_⟩, fun c => absurd c (by decide)⟩
        exact ⟨_, _, m_downOf _ g A xs j hj8 w (by omega), Nat.le_refl _, rfl, rfl⟩
    · refine pr_rf h rc2 ?_ (fun xs => ?_)
      · refine ab_meth oX4_rounds 39 _ _ _ _ (Nat.le_refl _) rfl (fun E => ?_)
        refine ab_run [] 50 oX4_rounds.1 (Nat.le_refl _) 0 ?_
        refine ⟨_, _, x_isFault _ _ x a f _, Nat.le_refl _, ?_⟩
        refine br_z (fun c => absurd k0 c) (fun c => ?_)
        refine ⟨_, _, x_isGear _ _ x a f _, Nat.le_refl _, ?_⟩
        refine br_n (fun c => ?_) (fun c => absurd k1 c)
        refine ⟨fun c => absurd c c1, fun c => ⟨fun c => absurd c c2, fun c => ?_⟩⟩
        exact ⟨_, _, x_rf _ _ x a f rc2, Nat.le_refl _, rfl, rfl⟩
      · refine ab_meth oX5_rounds 39 _ _ _ _ (Nat.le_refl _) rfl (fun E => ?_)
        refine ab_run [] 50 oX5_rounds.1 (Nat.le_refl _) 0 ?_
        refine ⟨_, _, m_isFault _ g A xs _, Nat.le_refl _, ?_⟩
        refine br_z (fun c => absurd k2 c) (fun c => ?_)
        refine ⟨_, _, m_isGear _ g A xs _, Nat.le_refl _, ?_⟩
        refine br_n (fun c => ?_) (fun c => absurd k3 c)
        refine ⟨fun c => ⟨fun c => ?_, fun c => absurd c c2⟩, fun c => absurd c c1⟩
        exact ⟨_, _, m_rf _ g A xs rc2, Nat.le_refl _, rfl, rfl⟩
  · exact rX c0
