theorem IV_flt {g : mG} {A x a : mA} {f : mF} (h : IV g A x a f) {m j : Nat} (em : A 2 3 = nI m) (hm : m ≤ 8) (hj : j < m) : WFf (A 2) j ∧ ∀ k, k < 9 → A 2 (16 + 9 * j + k) = f 20 j k := by
  have ht : (j : Int) < (A 2 3).toInt := by rw [em, nI_toInt (by omega)]; omega
  exact ⟨h.2.2.2.2.1.2.2.2.1 j (by omega) ht, h.2.2.2.2.2.1.2.2.2.1 j (by omega) ht⟩
-- fault
theorem p_fault : P_fault IV 40 := by
  intro p1 p2 g A x a f h
  have hb := h.2.2.2.2.2.1
  obtain ⟨m, hm, em, exm⟩ := IV_m h
  by_cases c0 : 0 ≤ p1 ∧ p1 < nI m
  · obtain ⟨j, hj, rfl⟩ := ix_of (m := m) (by omega) c0
    have ⟨hw, hv⟩ := IV_flt h em hm hj
    have k0 : 0 ≤ nI j ∧ nI j < x 17 5 := by rw [exm]; exact c0
    have k2 : 0 ≤ nI j ∧ nI j < A 2 3 := by rw [em]; exact c0
    have hx : vp_in (nI j) 8 := vp_in_nI (by omega) (by omega)
    have hf : ab_fa 20 (nI j).toNatClampNeg = vR 20 j := by rw [nI_clamp (by omega)]; exact ab_fa_at 20 (by omega)
    have hfa := fun k hk => (hv k hk).symm
    have hj8 : j < 8 := by omega
    have hl : limX (f 20 j 0) (f 20 j 2) (x 17 7) = limI (A 2 (16 + 9 * j)) (A 2 (16 + 9 * j + 2)) (A 2 5) := by
      rw [← hv 0 (by decide), ← hv 2 (by decide), ← hb.1.2.2.2.2.2.1]
      exact lim_eq hw.2.2.1.1 hw.2.2.1.2 h.2.2.2.2.1.1.2.2.2.2.2.1.1 (by have := h.2.2.2.2.1.1.2.2.2.2.2.1.2; omega)
    by_cases c10 : p2 = 0
    · subst c10
      refine pr_rd h (r := A 2 (16 + 9 * j)) (ex_r (r := f 20 j 0) ?_ (hfa 0 (by decide))) (fun xs => ?_)
      · refine ab_meth oX4_fault 39 _ _ _ _ (Nat.le_refl _) rfl (fun E => ?_)
        refine ab_run [] 50 oX4_fault.1 (Nat.le_refl _) 0 ?_
        refine ⟨_, _, x_isFault _ _ x a f _, Nat.le_refl _, ?_⟩
        refine br_n (fun c => ?_) (fun c => absurd k0 c)
        refine ⟨hx, ⟨(20, j), hf, ?_⟩⟩
        refine ⟨fun c => ?_, fun c => absurd rfl c⟩
        exact ⟨ck20 hj8, rfl, rfl⟩
      · refine ab_meth oX5_fault 39 _ _ _ _ (Nat.le_refl _) rfl (fun E => ?_)
        refine ab_run [] 50 oX5_fault.1 (Nat.le_refl _) 0 ?_
        refine ⟨_, _, m_isFault _ g A xs _, Nat.le_refl _, ?_⟩
        refine br_n (fun c => ?_) (fun c => absurd k2 c)
        refine ⟨fun c => ?_, fun c => absurd rfl c⟩
        exact ⟨_, _, m_get0 _ g A xs j (by omega), Nat.le_refl _, rfl, rfl⟩
    by_cases c11 : p2 = 1
    · subst c11
      refine pr_rd h (r := A 2 (16 + 9 * j + 1)) (ex_r (r := f 20 j 1) ?_ (hfa 1 (by decide))) (fun xs => ?_)
      · refine ab_meth oX4_fault 39 _ _ _ _ (Nat.le_refl _) rfl (fun E => ?_)
        refine ab_run [] 50 oX4_fault.1 (Nat.le_refl _) 0 ?_
        refine ⟨_, _, x_isFault _ _ x a f _, Nat.le_refl _, ?_⟩
        refine br_n (fun c => ?_) (fun c => absurd k0 c)
        refine ⟨hx, ⟨(20, j), hf, ?_⟩⟩
        refine ⟨fun c => absurd c (by decide), fun c => ⟨fun c => ?_, fun c => absurd rfl c⟩⟩
        exact ⟨ck20 hj8, rfl, rfl⟩
      · refine ab_meth oX5_fault 39 _ _ _ _ (Nat.le_refl _) rfl (fun E => ?_)
        refine ab_run [] 50 oX5_fault.1 (Nat.le_refl _) 0 ?_
        refine ⟨_, _, m_isFault _ g A xs _, Nat.le_refl _, ?_⟩
        refine br_n (fun c => ?_) (fun c => absurd k2 c)
        refine ⟨fun c => absurd c (by decide), fun c => ⟨fun c => ?_, fun c => absurd rfl c⟩⟩
        exact ⟨_, _, m_get _ g A xs j 1 (by omega), Nat.le_refl _, rfl, rfl⟩
    by_cases c12 : p2 = 2
    · subst c12
      refine pr_rd h (r := A 2 (16 + 9 * j + 2)) (ex_r (r := f 20 j 2) ?_ (hfa 2 (by decide))) (fun xs => ?_)
      · refine ab_meth oX4_fault 39 _ _ _ _ (Nat.le_refl _) rfl (fun E => ?_)
        refine ab_run [] 50 oX4_fault.1 (Nat.le_refl _) 0 ?_
        refine ⟨_, _, x_isFault _ _ x a f _, Nat.le_refl _, ?_⟩
        refine br_n (fun c => ?_) (fun c => absurd k0 c)
        refine ⟨hx, ⟨(20, j), hf, ?_⟩⟩
        refine ⟨fun c => absurd c (by decide), fun c => ⟨fun c => absurd c (by decide), fun c => ⟨fun c => ?_, fun c => absurd rfl c⟩⟩⟩
        exact ⟨ck20 hj8, rfl, rfl⟩
      · refine ab_meth oX5_fault 39 _ _ _ _ (Nat.le_refl _) rfl (fun E => ?_)
        refine ab_run [] 50 oX5_fault.1 (Nat.le_refl _) 0 ?_
        refine ⟨_, _, m_isFault _ g A xs _, Nat.le_refl _, ?_⟩
        refine br_n (fun c => ?_) (fun c => absurd k2 c)
        refine ⟨fun c => absurd c (by decide), fun c => ⟨fun c => absurd c (by decide), fun c => ⟨fun c => ?_, fun c => absurd rfl c⟩⟩⟩
        exact ⟨_, _, m_get _ g A xs j 2 (by omega), Nat.le_refl _, rfl, rfl⟩
    by_cases c13 : p2 = 3
    · subst c13
      refine pr_rd h (r := A 2 (16 + 9 * j + 3)) (ex_r (r := f 20 j 3) ?_ (hfa 3 (by decide))) (fun xs => ?_)
      · refine ab_meth oX4_fault 39 _ _ _ _ (Nat.le_refl _) rfl (fun E => ?_)
        refine ab_run [] 50 oX4_fault.1 (Nat.le_refl _) 0 ?_
        refine ⟨_, _, x_isFault _ _ x a f _, Nat.le_refl _, ?_⟩
        refine br_n (fun c => ?_) (fun c => absurd k0 c)
        refine ⟨hx, ⟨(20, j), hf, ?_⟩⟩
        refine ⟨fun c => absurd c (by decide), fun c => ⟨fun c => absurd c (by decide), fun c => ⟨fun c => absurd c (by decide), fun c => ⟨fun c => ?_, fun c => absurd rfl c⟩⟩⟩⟩
        exact ⟨ck20 hj8, rfl, rfl⟩
      · refine ab_meth oX5_fault 39 _ _ _ _ (Nat.le_refl _) rfl (fun E => ?_)
        refine ab_run [] 50 oX5_fault.1 (Nat.le_refl _) 0 ?_
        refine ⟨_, _, m_isFault _ g A xs _, Nat.le_refl _, ?_⟩
        refine br_n (fun c => ?_) (fun c => absurd k2 c)
        refine ⟨fun c => absurd c (by decide), fun c => ⟨fun c => absurd c (by decide), fun c => ⟨fun c => absurd c (by decide), fun c => ⟨fun c => ?_, fun c => absurd rfl c⟩⟩⟩⟩
        exact ⟨_, _, m_get _ g A xs j 3 (by omega), Nat.le_refl _, rfl, rfl⟩
    by_cases c14 : p2 = 4
    · subst c14
      refine pr_rd h (r := A 2 (16 + 9 * j + 4)) (ex_r (r := f 20 j 4) ?_ (hfa 4 (by decide))) (fun xs => ?_)
      · refine ab_meth oX4_fault 39 _ _ _ _ (Nat.le_refl _) rfl (fun E => ?_)
        refine ab_run [] 50 oX4_fault.1 (Nat.le_refl _) 0 ?_
        refine ⟨_, _, x_isFault _ _ x a f _, Nat.le_refl _, ?_⟩
        refine br_n (fun c => ?_) (fun c => absurd k0 c)
        refine ⟨hx, ⟨(20, j), hf, ?_⟩⟩
        refine ⟨fun c => absurd c (by decide), fun c => ⟨fun c => absurd c (by decide), fun c => ⟨fun c => absurd c (by decide), fun c => ⟨fun c => absurd c (by decide), fun c => ⟨fun c => ?_, fun c => absurd rfl c⟩⟩⟩⟩⟩
        exact ⟨ck20 hj8, rfl, rfl⟩
      · refine ab_meth oX5_fault 39 _ _ _ _ (Nat.le_refl _) rfl (fun E => ?_)
        refine ab_run [] 50 oX5_fault.1 (Nat.le_refl _) 0 ?_
        refine ⟨_, _, m_isFault _ g A xs _, Nat.le_refl _, ?_⟩
        refine br_n (fun c => ?_) (fun c => absurd k2 c)
        refine ⟨fun c => absurd c (by decide), fun c => ⟨fun c => absurd c (by decide), fun c => ⟨fun c => absurd c (by decide), fun c => ⟨fun c => absurd c (by decide), fun c => ⟨fun c => ?_, fun c => absurd rfl c⟩⟩⟩⟩⟩
        exact ⟨_, _, m_get _ g A xs j 4 (by omega), Nat.le_refl _, rfl, rfl⟩
    by_cases c15 : p2 = 5
    · subst c15
      refine pr_rd h (r := A 2 (16 + 9 * j + 7)) (ex_r (r := f 20 j 7) ?_ (hfa 7 (by decide))) (fun xs => ?_)
      · refine ab_meth oX4_fault 39 _ _ _ _ (Nat.le_refl _) rfl (fun E => ?_)
        refine ab_run [] 50 oX4_fault.1 (Nat.le_refl _) 0 ?_
        refine ⟨_, _, x_isFault _ _ x a f _, Nat.le_refl _, ?_⟩
        refine br_n (fun c => ?_) (fun c => absurd k0 c)
        refine ⟨hx, ⟨(20, j), hf, ?_⟩⟩
        refine ⟨fun c => absurd c (by decide), fun c => ⟨fun c => absurd c (by decide), fun c => ⟨fun c => absurd c (by decide), fun c => ⟨fun c => absurd c (by decide), fun c => ⟨fun c => absurd c (by decide), fun c => ⟨fun c => ?_, fun c => absurd rfl c⟩⟩⟩⟩⟩⟩
        exact ⟨ck20 hj8, rfl, rfl⟩
      · refine ab_meth oX5_fault 39 _ _ _ _ (Nat.le_refl _) rfl (fun E => ?_)
        refine ab_run [] 50 oX5_fault.1 (Nat.le_refl _) 0 ?_
        refine ⟨_, _, m_isFault _ g A xs _, Nat.le_refl _, ?_⟩
        refine br_n (fun c => ?_) (fun c => absurd k2 c)
        refine ⟨fun c => absurd c (by decide), fun c => ⟨fun c => absurd c (by decide), fun c => ⟨fun c => absurd c (by decide), fun c => ⟨fun c => absurd c (by decide), fun c => ⟨fun c => absurd c (by decide), fun c => ⟨fun c => ?_, fun c => absurd rfl c⟩⟩⟩⟩⟩⟩
        exact ⟨_, _, m_get _ g A xs j 7 (by omega), Nat.le_refl _, rfl, rfl⟩
    by_cases c16 : p2 = 6
    · subst c16
      refine pr_rd h (r := limI (A 2 (16 + 9 * j)) (A 2 (16 + 9 * j + 2)) (A 2 5)) (ex_r (r := limX (f 20 j 0) (f 20 j 2) (x 17 7)) ?_ (hl)) (fun xs => ?_)
      · refine ab_meth oX4_fault 39 _ _ _ _ (Nat.le_refl _) rfl (fun E => ?_)
        refine ab_run [] 50 oX4_fault.1 (Nat.le_refl _) 0 ?_
        refine ⟨_, _, x_isFault _ _ x a f _, Nat.le_refl _, ?_⟩
        refine br_n (fun c => ?_) (fun c => absurd k0 c)
        refine ⟨hx, ⟨(20, j), hf, ?_⟩⟩
        refine ⟨fun c => absurd c (by decide), fun c => ⟨fun c => absurd c (by decide), fun c => ⟨fun c => absurd c (by decide), fun c => ⟨fun c => absurd c (by decide), fun c => ⟨fun c => absurd c (by decide), fun c => ⟨fun c => absurd c (by decide), fun c => ⟨fun c => ?_, fun c => absurd rfl c⟩⟩⟩⟩⟩⟩⟩
        exact ⟨ck20 hj8, _, _, f_limit _ (Nat.le_refl _) (hX_ok20 _ _ _ _ hj8) (hX_get20 _ _ _ _ _) _, Nat.le_refl _, rfl, rfl⟩
      · refine ab_meth oX5_fault 39 _ _ _ _ (Nat.le_refl _) rfl (fun E => ?_)
        refine ab_run [] 50 oX5_fault.1 (Nat.le_refl _) 0 ?_
        refine ⟨_, _, m_isFault _ g A xs _, Nat.le_refl _, ?_⟩
        refine br_n (fun c => ?_) (fun c => absurd k2 c)
        refine ⟨fun c => absurd c (by decide), fun c => ⟨fun c => absurd c (by decide), fun c => ⟨fun c => absurd c (by decide), fun c => ⟨fun c => absurd c (by decide), fun c => ⟨fun c => absurd c (by decide), fun c => ⟨fun c => absurd c (by decide), fun c => ⟨fun c => ?_, fun c => absurd rfl c⟩⟩⟩⟩⟩⟩⟩
        refine ⟨vp_d rfl, ?_⟩
        exact ⟨_, _, m_limitOf _ g A xs j hj8 _, Nat.le_refl _, rfl, rfl⟩
    · refine pr_rf h rc2 ?_ (fun xs => ?_)
      · refine ab_meth oX4_fault 39 _ _ _ _ (Nat.le_refl _) rfl (fun E => ?_)
        refine ab_run [] 50 oX4_fault.1 (Nat.le_refl _) 0 ?_
        refine ⟨_, _, x_isFault _ _ x a f _, Nat.le_refl _, ?_⟩
        refine br_n (fun c => ?_) (fun c => absurd k0 c)
        refine ⟨hx, ⟨(20, j), hf, ?_⟩⟩
        refine ⟨fun c => absurd c c10, fun c => ⟨fun c => absurd c c11, fun c => ⟨fun c => absurd c c12, fun c => ⟨fun c => absurd c c13, fun c => ⟨fun c => absurd c c14, fun c => ⟨fun c => absurd c c15, fun c => ⟨fun c => absurd c c16, fun c => ?_⟩⟩⟩⟩⟩⟩⟩
        exact ⟨_, _, x_rf _ _ x a f rc2, Nat.le_refl _, rfl, rfl⟩
      · refine ab_meth oX5_fault 39 _ _ _ _ (Nat.le_refl _) rfl (fun E => ?_)
        refine ab_run [] 50 oX5_fault.1 (Nat.le_refl _) 0 ?_
        refine ⟨_, _, m_isFault _ g A xs _, Nat.le_refl _, ?_⟩
        refine br_n (fun c => ?_) (fun c => absurd k2 c)
        refine ⟨fun c => absurd c c10, fun c => ⟨fun c => absurd c c11, fun c => ⟨fun c => absurd c c12, fun c => ⟨fun c => absurd c c13, fun c => ⟨fun c => absurd c c14, fun c => ⟨fun c => absurd c c15, fun c => ⟨fun c => absurd c c16, fun c => ?_⟩⟩⟩⟩⟩⟩⟩
        exact ⟨_, _, m_rf _ g A xs rc2, Nat.le_refl _, rfl, rfl⟩
  · have k0 : ¬ (0 ≤ p1 ∧ p1 < x 17 5) := by rw [exm]; exact c0
    have k2 : ¬ (0 ≤ p1 ∧ p1 < A 2 3) := by rw [em]; exact c0
    refine pr_rf h rc1 ?_ (fun xs => ?_)
    · refine ab_meth oX4_fault 39 _ _ _ _ (Nat.le_refl _) rfl (fun E => ?_)
      refine ab_run [] 50 oX4_fault.1 (Nat.le_refl _) 0 ?_
      refine ⟨_, _, x_isFault _ _ x a f _, Nat.le_refl _, ?_⟩
      refine br_n (fun c => absurd c k0) (fun c => ?_)
      exact ⟨_, _, x_rf _ _ x a f rc1, Nat.le_refl _, rfl, rfl⟩
    · refine ab_meth oX5_fault 39 _ _ _ _ (Nat.le_refl _) rfl (fun E => ?_)
      refine ab_run [] 50 oX5_fault.1 (Nat.le_refl _) 0 ?_
      refine ⟨_, _, m_isFault _ g A xs _, Nat.le_refl _, ?_⟩
      refine br_n (fun c => absurd c k2) (fun c => ?_)
      exact ⟨_, _, m_rf _ g A xs rc1, Nat.le_refl _, rfl, rfl⟩
theorem p_danger : P_danger IV 40 := by
  intro p1 g A x a f h
  have hb := h.2.2.2.2.2.1
  obtain ⟨m, hm, em, exm⟩ := IV_m h
  by_cases c0 : 0 ≤ p1 ∧ p1 < nI m
  · obtain ⟨j, hj, rfl⟩ := ix_of (m := m) (by omega) c0
    have ⟨hw, hv⟩ := IV_flt h em hm hj
    have k0 : 0 ≤ nI j ∧ nI j < x 17 5 := by rw [exm]; exact c0
    have k2 : 0 ≤ nI j ∧ nI j < A 2 3 := by rw [em]; exact c0
    have hx : vp_in (nI j) 8 := vp_in_nI (by omega) (by omega)
    have hf : ab_fa 20 (nI j).toNatClampNeg = vR 20 j := by rw [nI_clamp (by omega)]; exact ab_fa_at 20 (by omega)
    have hj8 : j < 8 := by omega
    have e0 : A 2 (16 + 9 * j) = f 20 j 0 := hv 0 (by decide)
    by_cases c1 : A 2 (16 + 9 * j) = 6
    · refine pr_rd h (r := if 20 * A 2 (16 + 9 * j + 2) - A 2 5 < 0 then 0 else 20 * A 2 (16 + 9 * j + 2) - A 2 5) ?_ (fun xs => ?_)
      · refine ab_meth oX4_danger 39 _ _ _ _ (Nat.le_refl _) rfl (fun E => ?_)
        refine ab_run [] 50 oX4_danger.1 (Nat.le_refl _) 0 ?_
        refine ⟨_, _, x_isFault _ _ x a f _, Nat.le_refl _, ?_⟩
        refine br_n (fun c => ?_) (fun c => absurd k0 c)
        refine ⟨hx, ⟨(20, j), hf, ?_⟩⟩
        refine ⟨ck20 hj8, ?_⟩
        refine ⟨fun c => ?_, fun (c : ¬ f 20 j 0 = 6) => absurd (e0 ▸ c1) c⟩
        refine ⟨ck20 hj8, ?_⟩
        refine ⟨?_, rfl⟩
        show some (vI (if 0 < f 20 j 2 * 20 - x 17 7 then f 20 j 2 * 20 - x 17 7 else 0)) = _
        rw [hv 2 (by decide), hb.1.2.2.2.2.2.1, Int32.mul_comm]
        by_cases c5 : 0 < 20 * f 20 j 2 - x 17 7
        · rw [if_pos c5, if_neg (fun q => Int32.lt_irrefl (Int32.lt_trans c5 q))]
        · rw [if_neg c5]
          by_cases c6 : 20 * f 20 j 2 - x 17 7 < 0
          · rw [if_pos c6]
          · rw [if_neg c6, Int32.le_antisymm (nlt_le c5) (nlt_le c6)]
      · refine ab_meth oX5_danger 39 _ _ _ _ (Nat.le_refl _) rfl (fun E => ?_)
        refine ab_run [] 50 oX5_danger.1 (Nat.le_refl _) 0 ?_
        refine ⟨_, _, m_isFault _ g A xs _, Nat.le_refl _, ?_⟩
        refine br_n (fun c => ?_) (fun c => absurd k2 c)
        refine ⟨_, _, m_get0 _ g A xs j (by omega), Nat.le_refl _, ?_⟩
        refine ⟨fun c => ?_, fun c => absurd c1 c⟩
        refine ⟨_, _, m_get _ g A xs j 2 (by omega), Nat.le_refl _, ?_⟩
        refine ⟨vp_d rfl, ?_⟩
        refine ⟨fun c => ?_, fun c => ?_⟩
        · have c : 0 ≤ 20 * A 2 (16 + 9 * j + 2) - A 2 5 := c
          refine ⟨?_, rfl⟩
          show some (vI (20 * A 2 (16 + 9 * j + 2) - A 2 5)) = _
          rw [if_neg (le_nlt c)]
        · have c : ¬ 0 ≤ 20 * A 2 (16 + 9 * j + 2) - A 2 5 := c
          refine ⟨?_, rfl⟩
          rw [if_pos (nle_lt c)]
    · refine pr_rf h rc3 ?_ (fun xs => ?_)
      · refine ab_meth oX4_danger 39 _ _ _ _ (Nat.le_refl _) rfl (fun E => ?_)
        refine ab_run [] 50 oX4_danger.1 (Nat.le_refl _) 0 ?_
        refine ⟨_, _, x_isFault _ _ x a f _, Nat.le_refl _, ?_⟩
        refine br_n (fun c => ?_) (fun c => absurd k0 c)
        refine ⟨hx, ⟨(20, j), hf, ?_⟩⟩
        refine ⟨ck20 hj8, ?_⟩
        refine ⟨fun (c : f 20 j 0 = 6) => absurd (e0.trans c) c1, fun c => ?_⟩
        exact ⟨_, _, x_rf _ _ x a f rc3, Nat.le_refl _, rfl, rfl⟩
      · refine ab_meth oX5_danger 39 _ _ _ _ (Nat.le_refl _) rfl (fun E => ?_)
        refine ab_run [] 50 oX5_danger.1 (Nat.le_refl _) 0 ?_
        refine ⟨_, _, m_isFault _ g A xs _, Nat.le_refl _, ?_⟩
        refine br_n (fun c => ?_) (fun c => absurd k2 c)
        refine ⟨_, _, m_get0 _ g A xs j (by omega), Nat.le_refl _, ?_⟩
        refine ⟨fun c => absurd c c1, fun c => ?_⟩
        exact ⟨_, _, m_rf _ g A xs rc3, Nat.le_refl _, rfl, rfl⟩
  · have k0 : ¬ (0 ≤ p1 ∧ p1 < x 17 5) := by rw [exm]; exact c0
    have k2 : ¬ (0 ≤ p1 ∧ p1 < A 2 3) := by rw [em]; exact c0
    refine pr_rf h rc1 ?_ (fun xs => ?_)
    · refine ab_meth oX4_danger 39 _ _ _ _ (Nat.le_refl _) rfl (fun E => ?_)
      refine ab_run [] 50 oX4_danger.1 (Nat.le_refl _) 0 ?_
      refine ⟨_, _, x_isFault _ _ x a f _, Nat.le_refl _, ?_⟩
      refine br_n (fun c => absurd c k0) (fun c => ?_)
      exact ⟨_, _, x_rf _ _ x a f rc1, Nat.le_refl _, rfl, rfl⟩
    · refine ab_meth oX5_danger 39 _ _ _ _ (Nat.le_refl _) rfl (fun E => ?_)
      refine ab_run [] 50 oX5_danger.1 (Nat.le_refl _) 0 ?_
      refine ⟨_, _, m_isFault _ g A xs _, Nat.le_refl _, ?_⟩
      refine br_n (fun c => absurd c k2) (fun c => ?_)
      exact ⟨_, _, m_rf _ g A xs rc1, Nat.le_refl _, rfl, rfl⟩
