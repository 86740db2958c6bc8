theorem p_feed : P_feed IV 40 := by
  intro p1 p2 g A x a f h
  obtain ⟨n, hn, en, exn, hr⟩ := h.2.1
  have z1 : (1 : Int32).toInt = 1 := rfl
  have z8 : (8 : Int32).toInt = 8 := rfl
  have z64 : (64 : Int32).toInt = 64 := rfl
  by_cases c1 : p1 < 1
  · refine pr_rf h rc4 ?_ (fun xs => ?_)
    · refine ab_meth oX4_feed 39 _ _ _ _ (Nat.le_refl _) rfl (fun E => ?_)
      refine ab_run [42] 50 oX4_feed.1 (Nat.le_refl _) 0 ?_
      refine ⟨fun c => absurd c1 (le_nlt c), fun c => ?_⟩
      exact ⟨_, _, x_rf _ _ x a f rc4, Nat.le_refl _, rfl, rfl⟩
    · refine ab_meth oX5_feed 39 _ _ _ _ (Nat.le_refl _) rfl (fun E => ?_)
      refine ab_run [39] 50 oX5_feed.1 (Nat.le_refl _) 0 ?_
      refine ⟨fun c => absurd c1 (le_nlt c), fun c => ?_⟩
      exact ⟨_, _, m_rf _ g A xs rc4, Nat.le_refl _, rfl, rfl⟩
  by_cases c2 : 8 < p1
  · refine pr_rf h rc6 ?_ (fun xs => ?_)
    · refine ab_meth oX4_feed 39 _ _ _ _ (Nat.le_refl _) rfl (fun E => ?_)
      refine ab_run [42] 50 oX4_feed.1 (Nat.le_refl _) 0 ?_
      refine ⟨fun c => ⟨fun c => ?_, fun c => absurd c2 c⟩, fun c => absurd (nlt_le c1) c⟩
      exact ⟨_, _, x_rf _ _ x a f rc6, Nat.le_refl _, rfl, rfl⟩
    · refine ab_meth oX5_feed 39 _ _ _ _ (Nat.le_refl _) rfl (fun E => ?_)
      refine ab_run [39] 50 oX5_feed.1 (Nat.le_refl _) 0 ?_
      refine ⟨fun c => ⟨fun c => ?_, fun c => absurd c2 c⟩, fun c => absurd (nlt_le c1) c⟩
      exact ⟨_, _, m_rf _ g A xs rc6, Nat.le_refl _, rfl, rfl⟩
  have q1 := Int32.le_iff_toInt_le.mp (nlt_le c1)
  have q2 := Int32.le_iff_toInt_le.mp (nlt_le c2)
  have cl := ti_clamp (x := p1) (by omega)
  obtain ⟨k, hk1, hk8, rfl⟩ : ∃ k : Nat, 1 ≤ k ∧ k ≤ 8 ∧ p1 = nI k := ⟨p1.toNatClampNeg, by omega, by omega, ti_nat (by omega)⟩
  by_cases c3 : n + k ≤ 64
  · refine pr_w (x_feed g A x a f p2 hk1 hk8 c3 exn) (fun xs => m_feed g A xs p2 hk1 hk8 c3 en) ?_
    obtain ⟨h1, h2, h3, h4, h5, h6, h7⟩ := h
    refine ⟨h1, ⟨n + k, c3, rfl, rfl, ?_⟩, h3, h4, h5, h6, h7⟩
    intro j hj
    rw [mS_eq, mS_eq, fdA_at, fdA_at]
    by_cases q : n ≤ j ∧ j < n + k
    · rw [if_pos q, if_pos q]
    · rw [if_neg q, if_neg q, hr j (by omega)]
  · have nn : ¬ nI (n + k) ≤ nI 64 := nI_ge (by omega) (by omega)
    refine pr_rf h rc6 ?_ (fun xs => ?_)
    · refine ab_meth oX4_feed 39 _ _ _ _ (Nat.le_refl _) rfl (fun E => ?_)
      refine ab_run [42] 50 oX4_feed.1 (Nat.le_refl _) 0 ?_
      refine ⟨fun c => ⟨fun c => absurd c c2, fun c => ?_⟩, fun c => absurd (nlt_le c1) c⟩
      refine ⟨fun (c : x 14 1 + nI k ≤ 64) => absurd (by rw [exn, nI_add] at c; exact c) nn, fun c => ?_⟩
      exact ⟨_, _, x_rf _ _ x a f rc6, Nat.le_refl _, rfl, rfl⟩
    · refine ab_meth oX5_feed 39 _ _ _ _ (Nat.le_refl _) rfl (fun E => ?_)
      refine ab_run [39] 50 oX5_feed.1 (Nat.le_refl _) 0 ?_
      refine ⟨fun c => ⟨fun c => absurd c c2, fun c => ?_⟩, fun c => absurd (nlt_le c1) c⟩
      refine ⟨fun (c : g 7 + nI k ≤ 64) => absurd (by rw [en, nI_add] at c; exact c) nn, fun c => ?_⟩
      exact ⟨_, _, m_rf _ g A xs rc6, Nat.le_refl _, rfl, rfl⟩
