theorem x_sh41 (d : Nat) (mb : Nat → AB) (x a : mA) (f : mF) (hn : x 17 3 ≤ 5) (W1 V1 W2 V2 : Nat → Int32) (h8 : 0 < W1 8) (gear : Int32) : ab_Ex (d + 2) 0 yX2_shiftTo [vR 41 0, vI gear] (hX mb (rr2 x W1 V1 W2 V2) a f) none (hX mb (rr2 x (rW W1 (downX (W1 0) (W1 6) (x 17 1) gear (x 17 3) (a 18))) V1 W2 V2) a f) := r_shift41 d mb (mS (mS x 44 W2) 43 V2) a f W1 V1 hn h8 gear
theorem x_sh43 (d : Nat) (mb : Nat → AB) (x a : mA) (f : mF) (hn : x 17 3 ≤ 5) (W1 V1 W2 V2 : Nat → Int32) (h8 : 0 < W2 8) (gear : Int32) : ab_Ex (d + 2) 0 yX2_shiftTo [vR 43 0, vI gear] (hX mb (rr2 x W1 V1 W2 V2) a f) none (hX mb (rr2 x W1 V1 (rW W2 (downX (W2 0) (W2 6) (x 17 1) gear (x 17 3) (a 18))) V2) a f) := by
  have h1 := r_shift43 d mb (mS (mS x 42 W1) 41 V1) a f W2 V2 hn h8 gear
  rw [rr2_swap, rr2_swap] at h1
  exact h1
theorem upd_self (s : Nat → Int32) (i : Nat) : upd s i (s i) = s := by
  funext k
  by_cases q1 : k = i
  · rw [q1, upd_at]
  · rw [upd_ne q1]
theorem beY_0 (B : mA) (i j : Nat) : beY B i j 0 = B 7 := by
  show upd (upd (B 7) i (B 7 i)) j (B 7 j) = B 7
  rw [upd_self, upd_self]
theorem p_beat : P_beat IV 40 := by
  intro p1 p2 p3 g A x a f h
  obtain ⟨m, hm, em, exm⟩ := IV_m h
  obtain ⟨ng, hng, eg, exg⟩ := IV_ng h
  by_cases c0 : ((0 ≤ p1 ∧ p1 < nI m) ∧ (0 ≤ p2 ∧ p2 < nI m) ∧ ¬ p1 = p2) ∧ (0 ≤ p3 ∧ p3 < nI ng)
  · have k0 : (0 ≤ p1 ∧ p1 < x 17 5) ∧ (0 ≤ p2 ∧ p2 < x 17 5) ∧ ¬ p1 = p2 := by rw [exm]; exact c0.1
    have k2 : (0 ≤ p1 ∧ p1 < A 2 3) ∧ (0 ≤ p2 ∧ p2 < A 2 3) ∧ ¬ p1 = p2 := by rw [em]; exact c0.1
    have k1 : 0 ≤ p3 ∧ p3 < x 17 3 := by rw [exg]; exact c0.2
    have k3 : 0 ≤ p3 ∧ p3 < A 2 2 := by rw [eg]; exact c0.2
    obtain ⟨i, hi, rfl⟩ := ix_of (m := m) (by omega) c0.1.1
    obtain ⟨j, hj, rfl⟩ := ix_of (m := m) (by omega) c0.1.2.1
    obtain ⟨w, hw5, rfl⟩ := ix_of (m := ng) (by omega) c0.2
    have hij : i ≠ j := fun q => c0.1.2.2 (by rw [q])
    have hgw : (w : Int) < (A 2 2).toInt := by rw [eg, nI_toInt (by omega)]; omega
    have hx5 := IV_x5 h
    obtain ⟨o1, RO1, w11, w18, w17, v12⟩ := bt_fct h em hm hi (w := w) (by omega) hgw (x 41)
    obtain ⟨o2, RO2, w21, w28, w27, v22⟩ := bt_fct h em hm hj (w := w) (by omega) hgw (x 43)
    have e2 : bgN m A 2 = A 2 := bgN_n m A (by decide) (by decide) (by decide)
    have eB2 : (opN w m (bgN m A)) 2 = A 2 := (opN_n w m _ (by decide) (by decide)).trans e2
    obtain ⟨N, hN⟩ : ∃ N : Nat, N = 2000 := ⟨_, rfl⟩
    obtain ⟨R, hR⟩ : ∃ R : Int32, R = btR (bcV (rW (f 20 i) (downX (f 20 i 0) (f 20 i 6) (x 17 1) (nI w) (x 17 3) (a 18))) (bgQ x f i (-9) (x 41)).2) (bcV (rW (f 20 j) (downX (f 20 j 0) (f 20 j 6) (x 17 1) (nI w) (x 17 3) (a 18))) (bgQ x f j (-9) (x 43)).2) N 0 := ⟨_, rfl⟩
    have hb8 : ∀ q, q < m → ¬ 100 * (opN w m (bgN m A)) 8 q = 0 := by
      intro q hq
      rw [(opN_lo w m _ hq).1, dnM_2 e2]
      exact (IV_dn h em hm hq (by omega) hgw).2.2.2
    obtain ⟨y, hMw⟩ := m_btloop 36 (bgG g A) (opN w m (bgN m A)) (hM g A) (i := i) (j := j) (by omega) (by omega) hij (hb8 i hi) (hb8 j hj) (nI w) R (bcV (rW (f 20 i) (downX (f 20 i 0) (f 20 i 6) (x 17 1) (nI w) (x 17 3) (a 18))) (bgQ x f i (-9) (x 41)).2) (bcV (rW (f 20 j) (downX (f 20 j 0) (f 20 j 6) (x 17 1) (nI w) (x 17 3) (a 18))) (bgQ x f j (-9) (x 43)).2) N hN (fun t ht => by
      rw [eB2, upM_2 eB2, ← w11, ← w18, ← w17, ← v12]
      exact bc_eq RO1 _ (by omega)) (fun t ht => by
      rw [eB2, upM_2 eB2, ← w21, ← w28, ← w27, ← v22]
      exact bc_eq RO2 _ (by omega)) N 0 (by omega) hR
    rw [beY_0, mS_id] at hMw
    have hXw := fun E => x_btloop 36 (mbl g A) x a f (hX (mbl g A) x a f) E (nI i) (nI j) (nI w) R (rW (f 20 i) (downX (f 20 i 0) (f 20 i 6) (x 17 1) (nI w) (x 17 3) (a 18))) (bgQ x f i (-9) (x 41)).2 (rW (f 20 j) (downX (f 20 j 0) (f 20 j 6) (x 17 1) (nI w) (x 17 3) (a 18))) (bgQ x f j (-9) (x 43)).2 N hN N 0 (by omega) hR
    clear hR RO1 RO2 w11 w18 w17 v12 w21 w28 w27 v22
    refine pr_w (r := R) (x' := rr2 x (rW (f 20 i) (downX (f 20 i 0) (f 20 i 6) (x 17 1) (nI w) (x 17 3) (a 18))) (bgQ x f i (-9) (x 41)).2 (rW (f 20 j) (downX (f 20 j 0) (f 20 j 6) (x 17 1) (nI w) (x 17 3) (a 18))) (bgQ x f j (-9) (x 43)).2) (a' := a) (f' := f) (g' := bgG g A) (A' := mS (opN w m (bgN m A)) 7 y) ?_ (fun xs => ?_) (IV_rr (IV_md (fun k h7 h8 h9 => by rw [mS_ne _ _ _ h7, opN_n _ _ _ h7 h8]; exact bgN_n m A h7 h8 h9) (fun k hk => bgG_k g A hk) h) _ _ _ _)
    · refine ab_meth oX4_beat 39 _ _ _ _ (Nat.le_refl _) rfl (fun E => ?_)
      refine ab_run [78] 100 oX4_beat.1 (Nat.le_refl _) 0 ?_
      refine ⟨_, _, x_areTwo _ _ x a f _ _, Nat.le_refl _, ?_⟩
      refine br_z (fun c => absurd k0 c) (fun c => ?_)
      refine ⟨_, _, x_isGear _ _ x a f _, Nat.le_refl _, ?_⟩
      refine br_n (fun c => ?_) (fun c => absurd k1 c)
      refine ⟨vp_in_nI (by omega) (by omega), ⟨(20, i), by rw [nI_clamp (by omega)]; exact ab_fa_at 20 (by omega), ?_⟩⟩
      refine ⟨_, _, x_bg41 _ (mbl g A) x a f (i := i) (by omega), Nat.le_refl _, ?_⟩
      refine ⟨vp_in_nI (by omega) (by omega), ⟨(20, j), by rw [nI_clamp (by omega)]; exact ab_fa_at 20 (by omega), ?_⟩⟩
      refine ⟨_, _, x_bg43 _ (mbl g A) x a f _ _ (i := j) (by omega), Nat.le_refl _, ?_⟩
      refine ⟨_, _, x_sh41 _ (mbl g A) x a f hx5 _ _ _ _ o1 (nI w), Nat.le_refl _, ?_⟩
      refine ⟨_, _, x_sh43 _ (mbl g A) x a f hx5 _ _ _ _ o2 (nI w), Nat.le_refl _, ?_⟩
      exact hXw E
    · refine ab_meth oX5_beat 39 _ _ _ _ (Nat.le_refl _) rfl (fun E => ?_)
      refine ab_run [35] 100 oX5_beat.1 (Nat.le_refl _) 0 ?_
      refine ⟨_, _, m_areTwo _ g A xs _ _, Nat.le_refl _, ?_⟩
      refine br_z (fun c => absurd k2 c) (fun c => ?_)
      refine ⟨_, _, m_isGear _ g A xs _, Nat.le_refl _, ?_⟩
      refine br_n (fun c => ?_) (fun c => absurd k3 c)
      refine ⟨_, _, m_begins 37 xs g A em hm, Nat.le_refl _, ?_⟩
      refine ⟨_, _, m_opensStage 36 xs (bgG g A) (bgN m A) (m := m) (w := w) (by rw [e2]; exact em) hm (by omega) (bgN_8 h em hm), Nat.le_refl _, ?_⟩
      exact hMw xs E
  · refine pr_rf h rc1 ?_ (fun xs => ?_)
    · refine ab_meth oX4_beat 39 _ _ _ _ (Nat.le_refl _) rfl (fun E => ?_)
      refine ab_run [78] 100 oX4_beat.1 (Nat.le_refl _) 0 ?_
      refine ⟨_, _, x_areTwo _ _ x a f _ _, Nat.le_refl _, ?_⟩
      refine br_z (fun _ => ⟨_, _, x_rf _ _ x a f rc1, Nat.le_refl _, rfl, rfl⟩) (fun b1 => ?_)
      refine ⟨_, _, x_isGear _ _ x a f _, Nat.le_refl _, ?_⟩
      refine br_n (fun b3 => ?_) (fun _ => ⟨_, _, x_rf _ _ x a f rc1, Nat.le_refl _, rfl, rfl⟩)
      rw [exm] at b1
      rw [exg] at b3
      exact absurd ⟨b1, b3⟩ c0
    · refine ab_meth oX5_beat 39 _ _ _ _ (Nat.le_refl _) rfl (fun E => ?_)
      refine ab_run [35] 100 oX5_beat.1 (Nat.le_refl _) 0 ?_
      refine ⟨_, _, m_areTwo _ g A xs _ _, Nat.le_refl _, ?_⟩
      refine br_z (fun _ => ⟨_, _, m_rf _ g A xs rc1, Nat.le_refl _, rfl, rfl⟩) (fun b1 => ?_)
      refine ⟨_, _, m_isGear _ g A xs _, Nat.le_refl _, ?_⟩
      refine br_n (fun b3 => ?_) (fun _ => ⟨_, _, m_rf _ g A xs rc1, Nat.le_refl _, rfl, rfl⟩)
      rw [em] at b1
      rw [eg] at b3
      exact absurd ⟨b1, b3⟩ c0
