theorem ld_lt (n m : Nat) (h : n < m) (hm : m ≤ 1000) : nI n < nI m := by
  rw [Int32.lt_iff_toInt_lt, nI_toInt (by omega), nI_toInt (by omega)]; omega
theorem p_row : P_row IV 40 := by
  intro p1 g A x a f h
  obtain ⟨n, hn, en, exn, hr⟩ := h.2.2.1
  by_cases c0 : p1 < 0
  · refine pr_rf h (c := -4) (Or.inr (Or.inr (Or.inr (Or.inl rfl)))) ?_ (fun xs => ?_)
    · refine ab_meth oX4_row 39 _ _ _ _ (Nat.le_refl _) rfl (fun E => ?_)
      refine ab_run [] 50 oX4_row.1 (Nat.le_refl _) 0 ?_
      refine ⟨fun c => absurd c0 (le_nlt c), fun c => ?_⟩
      refine ⟨_, _, x_rf _ _ x a f (Or.inr (Or.inr (Or.inr (Or.inl rfl)))), Nat.le_refl _, ?_⟩
      exact ⟨rfl, rfl⟩
    · refine ab_meth oX5_row 39 _ _ _ _ (Nat.le_refl _) rfl (fun E => ?_)
      refine ab_run [] 50 oX5_row.1 (Nat.le_refl _) 0 ?_
      refine ⟨_, _, m_within _ _ (Nat.le_refl _) _ _ _, Nat.le_refl _, ?_⟩
      have e : withI p1 0 32767 = -4 := if_pos c0
      rw [e]
      refine ⟨fun c => ?_, fun c => absurd c (by decide)⟩
      refine ⟨fun c => absurd c (by decide), fun c => ?_⟩
      refine ⟨_, _, m_rf _ g A xs (Or.inr (Or.inr (Or.inr (Or.inl rfl)))), Nat.le_refl _, ?_⟩
      exact ⟨rfl, rfl⟩
  by_cases c1 : 32767 < p1
  · refine pr_rf h (c := -6) (Or.inr (Or.inr (Or.inr (Or.inr rfl)))) ?_ (fun xs => ?_)
    · refine ab_meth oX4_row 39 _ _ _ _ (Nat.le_refl _) rfl (fun E => ?_)
      refine ab_run [] 50 oX4_row.1 (Nat.le_refl _) 0 ?_
      refine ⟨fun c => ⟨fun c => ?_, fun c => ?_⟩, fun c => absurd (nlt_le c0) c⟩
      · refine ⟨_, _, x_rf _ _ x a f (Or.inr (Or.inr (Or.inr (Or.inr rfl)))), Nat.le_refl _, ?_⟩
        exact ⟨rfl, rfl⟩
      · exact absurd c1 c
    · refine ab_meth oX5_row 39 _ _ _ _ (Nat.le_refl _) rfl (fun E => ?_)
      refine ab_run [] 50 oX5_row.1 (Nat.le_refl _) 0 ?_
      refine ⟨_, _, m_within _ _ (Nat.le_refl _) _ _ _, Nat.le_refl _, ?_⟩
      have e : withI p1 0 32767 = -6 := (if_neg c0).trans (if_pos c1)
      rw [e]
      refine ⟨fun c => ?_, fun c => absurd c (by decide)⟩
      refine ⟨fun c => absurd c (by decide), fun c => ?_⟩
      refine ⟨_, _, m_rf _ g A xs (Or.inr (Or.inr (Or.inr (Or.inr rfl)))), Nat.le_refl _, ?_⟩
      exact ⟨rfl, rfl⟩
  by_cases c2 : n = 8
  · subst c2
    refine pr_rf h (c := -6) (Or.inr (Or.inr (Or.inr (Or.inr rfl)))) ?_ (fun xs => ?_)
    · refine ab_meth oX4_row 39 _ _ _ _ (Nat.le_refl _) rfl (fun E => ?_)
      refine ab_run [] 50 oX4_row.1 (Nat.le_refl _) 0 ?_
      refine ⟨fun c => ⟨fun c => absurd c c1, fun c => ?_⟩, fun c => absurd (nlt_le c0) c⟩
      refine ⟨fun (c : x 13 10 < 8) => absurd c (by rw [exn]; decide), fun c => ?_⟩
      refine ⟨_, _, x_rf _ _ x a f (Or.inr (Or.inr (Or.inr (Or.inr rfl)))), Nat.le_refl _, ?_⟩
      exact ⟨rfl, rfl⟩
    · refine ab_meth oX5_row 39 _ _ _ _ (Nat.le_refl _) rfl (fun E => ?_)
      refine ab_run [] 50 oX5_row.1 (Nat.le_refl _) 0 ?_
      refine ⟨_, _, m_within _ _ (Nat.le_refl _) _ _ _, Nat.le_refl _, ?_⟩
      have e : withI p1 0 32767 = 0 := (if_neg c0).trans (if_neg c1)
      rw [e]
      refine ⟨fun c => absurd rfl c, fun c => ?_⟩
      refine ⟨fun (c : ¬ g 24 = 8) => absurd en c, fun c => ?_⟩
      refine ⟨fun c => absurd c (by decide), fun c => ?_⟩
      refine ⟨_, _, m_rf _ g A xs (Or.inr (Or.inr (Or.inr (Or.inr rfl)))), Nat.le_refl _, ?_⟩
      exact ⟨rfl, rfl⟩
  · have hn8 : n < 8 := by omega
    have hx8 : x 13 10 < 8 := by rw [exn]; exact ld_lt n 8 hn8 (by decide)
    have hg8 : ¬ g 24 = 8 := by
      rw [en]
      exact fun q => c2 (by have := congrArg Int32.toInt q; rw [nI_toInt (by omega)] at this; have e8 : (8 : Int32).toInt = 8 := rfl; omega)
    have ec : (x 13 10).toNatClampNeg = n := by rw [exn, nI_clamp (by omega)]
    have eg : (g 24).toNatClampNeg = n := by rw [en, nI_clamp (by omega)]
    have e1 : x 13 10 + 1 = nI (n + 1) := by rw [exn]; exact nI_add n 1
    have e2 : g 24 + 1 = nI (n + 1) := by rw [en]; exact nI_add n 1
    refine ⟨nI (n + 1), mS x 13 (upd (x 13) 10 (x 13 10 + 1)), mS a 47 (upd (a 47) (x 13 10).toNatClampNeg p1), f, upd g 24 (g 24 + 1), mS A 12 (upd (A 12) (g 24).toNatClampNeg p1), ex_r ?_ e1, ex_r ?_ e2, ?_⟩
    · refine ab_meth oX4_row 39 _ _ _ _ (Nat.le_refl _) rfl (fun E => ?_)
      refine ab_run [] 50 oX4_row.1 (Nat.le_refl _) 0 ?_
      refine ⟨fun c => ⟨fun c => absurd c c1, fun c => ?_⟩, fun c => absurd (nlt_le c0) c⟩
      refine ⟨fun c => ?_, fun c => absurd hx8 c⟩
      refine ⟨(by rw [exn]; exact vp_in_nI hn8 (by omega) : vp_in (x 13 10) 8), ?_⟩
      exact ⟨rfl, rfl⟩
    · refine ab_meth oX5_row 39 _ _ _ _ (Nat.le_refl _) rfl (fun E => ?_)
      refine ab_run [] 50 oX5_row.1 (Nat.le_refl _) 0 ?_
      refine ⟨_, _, m_within _ _ (Nat.le_refl _) _ _ _, Nat.le_refl _, ?_⟩
      have e : withI p1 0 32767 = 0 := (if_neg c0).trans (if_neg c1)
      rw [e]
      refine ⟨fun c => absurd rfl c, fun c => ?_⟩
      refine ⟨fun c => ?_, fun c => absurd c hg8⟩
      refine ⟨fun c => ?_, fun c => absurd rfl c⟩
      refine ⟨(by rw [en]; exact vp_in_nI hn8 (by omega) : vp_in (g 24) 8), ?_⟩
      exact ⟨rfl, rfl⟩
    · obtain ⟨h1, h2, h3, h4, h5, h6, h7⟩ := h
      refine ⟨h1, h2, ⟨n + 1, by omega, ?_, ?_, ?_⟩, h4, h5, h6, h7⟩
      · exact e2
      · exact e1
      · intro k hk
        rw [mS_eq, mS_eq, ec, eg]
        show (if k = n then _ else _) = if k = n then _ else _
        by_cases hq : k = n
        · rw [if_pos hq, if_pos hq]
        · rw [if_neg hq, if_neg hq, hr k (by omega)]
