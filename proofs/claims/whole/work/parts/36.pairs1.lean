-- THE PAIRS THAT ASK OR SET
theorem p_part : P_part IV 40 := by
  intro p1 g A x a f h
  obtain ⟨ng, hng, eg, exg⟩ := IV_ng h
  have hb := h.2.2.2.2.2.1
  by_cases c0 : p1 = 0
  · subst c0
    refine pr_rd h (r := A 2 0) (ex_r (r := x 17 0) ?_ hb.1.1.symm) (fun xs => ?_)
    · refine ab_meth oX4_part 39 _ _ _ _ (Nat.le_refl _) rfl (fun E => ?_)
      refine ab_run [] 50 oX4_part.1 (Nat.le_refl _) 0 ?_
      refine ⟨fun c => absurd rfl c, fun c => ?_⟩
      exact ⟨rfl, rfl⟩
    · refine ab_meth oX5_part 39 _ _ _ _ (Nat.le_refl _) rfl (fun E => ?_)
      refine ab_run [] 50 oX5_part.1 (Nat.le_refl _) 0 ?_
      refine ⟨fun c => ⟨vp_d rfl, rfl, rfl⟩, fun c => absurd rfl c⟩
  by_cases c1 : p1 = 1
  · subst c1
    refine pr_rd h (r := A 2 1) (ex_r (r := x 17 1) ?_ hb.1.2.1.symm) (fun xs => ?_)
    · refine ab_meth oX4_part 39 _ _ _ _ (Nat.le_refl _) rfl (fun E => ?_)
      refine ab_run [] 50 oX4_part.1 (Nat.le_refl _) 0 ?_
      refine ⟨fun c => ⟨fun c => absurd rfl c, fun c => ⟨rfl, rfl⟩⟩, fun c => absurd c (by decide)⟩
    · refine ab_meth oX5_part 39 _ _ _ _ (Nat.le_refl _) rfl (fun E => ?_)
      refine ab_run [] 50 oX5_part.1 (Nat.le_refl _) 0 ?_
      refine ⟨fun c => absurd c (by decide), fun c => ⟨fun c => absurd rfl c, fun c => ⟨vp_d rfl, rfl, rfl⟩⟩⟩
  by_cases c2 : p1 < 10
  · refine pr_rf h (c := -2) (Or.inr (Or.inl rfl)) ?_ (fun xs => ?_)
    · refine ab_meth oX4_part 39 _ _ _ _ (Nat.le_refl _) rfl (fun E => ?_)
      refine ab_run [] 50 oX4_part.1 (Nat.le_refl _) 0 ?_
      refine ⟨fun c => ⟨fun c => ⟨fun c => absurd c2 (le_nlt c), fun c => ?_⟩, fun c => absurd c c1⟩, fun c => absurd c c0⟩
      refine ⟨_, _, x_rf _ _ x a f (Or.inr (Or.inl rfl)), Nat.le_refl _, ?_⟩
      exact ⟨rfl, rfl⟩
    · refine ab_meth oX5_part 39 _ _ _ _ (Nat.le_refl _) rfl (fun E => ?_)
      refine ab_run [] 50 oX5_part.1 (Nat.le_refl _) 0 ?_
      refine ⟨fun c => absurd c c0, fun c => ⟨fun c => ⟨fun c => absurd c2 (le_nlt c), fun c => ?_⟩, fun c => absurd c c1⟩⟩
      refine ⟨_, _, m_rf _ g A xs (Or.inr (Or.inl rfl)), Nat.le_refl _, ?_⟩
      exact ⟨rfl, rfl⟩
  by_cases c3 : 0 ≤ p1 - 10 ∧ p1 - 10 < x 17 3
  · have c4 : 0 ≤ p1 - 10 ∧ p1 - 10 < A 2 2 := by rw [eg, ← exg]; exact c3
    obtain ⟨i, hi, ei⟩ := ix_of (m := ng) (by omega) (by rw [← exg]; exact c3)
    have e2 : 11 + p1 - 10 = nI (11 + i) := by
      rw [← nI_add, ← ei, Int32.sub_eq_add_neg, Int32.sub_eq_add_neg, Int32.add_assoc]
      rfl
    have hv := hb.2.2.1 i (by omega) (by rw [eg, nI_toInt (by omega)]; omega)
    refine pr_rd h (r := A 2 (11 + i)) (ex_r (r := a 18 i) ?_ hv.symm) (fun xs => ?_)
    · refine ab_meth oX4_part 39 _ _ _ _ (Nat.le_refl _) rfl (fun E => ?_)
      refine ab_run [] 50 oX4_part.1 (Nat.le_refl _) 0 ?_
      refine ⟨fun c => ⟨fun c => ⟨fun c => ?_, fun c => absurd (nlt_le c2) c⟩, fun c => absurd c c1⟩, fun c => absurd c c0⟩
      refine ⟨_, _, x_isGear _ _ x a f _, Nat.le_refl _, ?_⟩
      refine br_z (fun c => absurd c3 c) (fun c => ?_)
      rw [ei]
      refine ⟨vp_in_nI (by omega) (by omega), ?_⟩
      rw [nI_clamp (by omega)]
      exact ⟨rfl, rfl⟩
    · refine ab_meth oX5_part 39 _ _ _ _ (Nat.le_refl _) rfl (fun E => ?_)
      refine ab_run [] 50 oX5_part.1 (Nat.le_refl _) 0 ?_
      refine ⟨fun c => absurd c c0, fun c => ⟨fun c => ⟨fun c => ?_, fun c => absurd (nlt_le c2) c⟩, fun c => absurd c c1⟩⟩
      refine ⟨_, _, m_isGear _ g A xs _, Nat.le_refl _, ?_⟩
      refine br_z (fun c => absurd c4 c) (fun c => ?_)
      refine ⟨(by rw [e2]; exact vp_in_nI (by omega) (by omega) : vp_in (11 + p1 - 10) 112), ?_⟩
      refine ⟨?_, rfl⟩
      show some (vI (A 2 (11 + p1 - 10).toNatClampNeg)) = _
      rw [e2, nI_clamp (by omega)]
  · have c4 : ¬ (0 ≤ p1 - 10 ∧ p1 - 10 < A 2 2) := by rw [eg, ← exg]; exact c3
    refine pr_rf h (c := -1) (Or.inl rfl) ?_ (fun xs => ?_)
    · refine ab_meth oX4_part 39 _ _ _ _ (Nat.le_refl _) rfl (fun E => ?_)
      refine ab_run [] 50 oX4_part.1 (Nat.le_refl _) 0 ?_
      refine ⟨fun c => ⟨fun c => ⟨fun c => ?_, fun c => absurd (nlt_le c2) c⟩, fun c => absurd c c1⟩, fun c => absurd c c0⟩
      refine ⟨_, _, x_isGear _ _ x a f _, Nat.le_refl _, ?_⟩
      refine br_z (fun c => ?_) (fun c => absurd c c3)
      refine ⟨_, _, x_rf _ _ x a f (Or.inl rfl), Nat.le_refl _, ?_⟩
      exact ⟨rfl, rfl⟩
    · refine ab_meth oX5_part 39 _ _ _ _ (Nat.le_refl _) rfl (fun E => ?_)
      refine ab_run [] 50 oX5_part.1 (Nat.le_refl _) 0 ?_
      refine ⟨fun c => absurd c c0, fun c => ⟨fun c => ⟨fun c => ?_, fun c => absurd (nlt_le c2) c⟩, fun c => absurd c c1⟩⟩
      refine ⟨_, _, m_isGear _ g A xs _, Nat.le_refl _, ?_⟩
      refine br_z (fun c => ?_) (fun c => absurd c c4)
      refine ⟨_, _, m_rf _ g A xs (Or.inl rfl), Nat.le_refl _, ?_⟩
      exact ⟨rfl, rfl⟩
