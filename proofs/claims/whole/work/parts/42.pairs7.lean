theorem upd_ne {s : Nat → Int32} {i j : Nat} {v : Int32} (h : j ≠ i) : upd s i v j = s j := if_neg h
theorem upd_at {s : Nat → Int32} {i : Nat} {v : Int32} : upd s i v i = v := if_pos rfl
theorem WF_set {s : Nat → Int32} {k : Nat} {v : Int32} (hk : k < 4) (h0 : ¬ v < 0) (h1 : ¬ mstI (nI k) < v) (h : WF s) : WF (upd s (7 + k) v) := by
  obtain ⟨⟨w0, w1, w2, w3, w4, w5, w6⟩, w7, w8, w9, w10⟩ := h
  have e : ∀ j, j < 7 ∨ 11 ≤ j → upd s (7 + k) v j = s j := fun j hj => upd_ne (by omega)
  rw [Int32.lt_iff_toInt_lt] at h0 h1
  have z0 : (0 : Int32).toInt = 0 := rfl
  refine ⟨?_, ?_, ?_, ?_, ?_⟩
  · rw [e 0 (by omega), e 1 (by omega), e 2 (by omega), e 3 (by omega), e 4 (by omega), e 5 (by omega), e 6 (by omega)]
    exact ⟨w0, w1, w2, w3, w4, w5, w6⟩
  · obtain ⟨q0, q1, q2, q3⟩ := w7
    match k, hk, h1 with
    | 0, _, h1 =>
      have z1 : (mstI (nI 0)).toInt = 9 := rfl
      exact ⟨⟨by rw [upd_at]; omega, by rw [upd_at]; omega⟩, q1, q2, q3⟩
    | 1, _, h1 =>
      have z1 : (mstI (nI 1)).toInt = 1 := rfl
      refine ⟨q0, ?_, q2, q3⟩
      rw [upd_at]
      rcases (by omega : v.toInt = 0 ∨ v.toInt = 1) with q | q
      · exact Or.inl (Int32.toInt_inj.mp (by omega))
      · exact Or.inr (Int32.toInt_inj.mp (by have : (1 : Int32).toInt = 1 := rfl; omega))
    | 2, _, h1 =>
      have z1 : (mstI (nI 2)).toInt = 100 := rfl
      exact ⟨q0, q1, ⟨by rw [upd_at]; omega, by rw [upd_at]; omega⟩, q3⟩
    | 3, _, h1 =>
      have z1 : (mstI (nI 3)).toInt = 99 := rfl
      exact ⟨q0, q1, q2, ⟨by rw [upd_at]; omega, by rw [upd_at]; omega⟩⟩
  · intro j hj hj2
    rw [e 2 (by omega)] at hj2
    rw [e _ (by omega)]
    exact w8 j hj hj2
  · intro j hj hj2
    rw [e 3 (by omega)] at hj2
    have := w9 j hj hj2
    unfold WFf at this ⊢
    rw [e _ (by omega), e _ (by omega), e _ (by omega), e _ (by omega), e _ (by omega), e _ (by omega), e _ (by omega), e _ (by omega), e _ (by omega)]
    exact this
  · intro j hj hj2
    rw [e 4 (by omega)] at hj2
    rw [e _ (by omega), e _ (by omega), e _ (by omega), e _ (by omega)]
    exact w10 j hj hj2
theorem BR_set {s : Nat → Int32} {x a : mA} {f : mF} {k : Nat} {v : Int32} (hk : k < 4) (h : BR s x a f 17) : BR (upd s (7 + k) v) x (mS a 21 (upd (a 21) k v)) f 17 := by
  obtain ⟨⟨w0, w1, w2, w3, w4, w5, w6⟩, w7, w8, w9, w10⟩ := h
  have e : ∀ j, j < 7 ∨ 11 ≤ j → upd s (7 + k) v j = s j := fun j hj => upd_ne (by omega)
  refine ⟨?_, ?_, ?_, ?_, ?_⟩
  · rw [e 0 (by omega), e 1 (by omega), e 2 (by omega), e 3 (by omega), e 4 (by omega), e 5 (by omega), e 6 (by omega)]
    exact ⟨w0, w1, w2, w3, w4, w5, w6⟩
  · intro j hj
    show upd s (7 + k) v (7 + j) = upd (a 21) k v j
    by_cases q : j = k
    · subst q
      rw [upd_at, upd_at]
    · rw [upd_ne (by omega), upd_ne q]
      exact w7 j hj
  · intro j hj hj2
    rw [e 2 (by omega)] at hj2
    rw [e _ (by omega)]
    exact w8 j hj hj2
  · intro j hj hj2 c hc
    rw [e 3 (by omega)] at hj2
    rw [e _ (by omega)]
    exact w9 j hj hj2 c hc
  · intro j hj hj2
    rw [e 4 (by omega)] at hj2
    rw [e _ (by omega), e _ (by omega), e _ (by omega)]
    exact w10 j hj hj2
theorem ms_eq {k : Nat} (hk : k < 4) : ab_ms k = mstI (nI k) := by
  match k, hk with
  | 0, _ => rfl
  | 1, _ => rfl
  | 2, _ => rfl
  | 3, _ => rfl
theorem p_set : P_set IV 40 := by
  intro p1 p2 g A x a f h
  by_cases c0 : 0 ≤ p1 ∧ p1 < 4
  · obtain ⟨k, hk, rfl⟩ := ix_of (m := 4) (by omega) c0
    have ek : (nI k).toNatClampNeg = k := nI_clamp (by omega)
    have hm : ab_ms (nI k).toNatClampNeg = mstI (nI k) := by rw [ek]; exact ms_eq hk
    have e7 : (7 : Int32) + nI k = nI (7 + k) := nI_add 7 k
    by_cases c1 : p2 < 0
    · refine pr_rf h rc4 ?_ (fun xs => ?_)
      · refine ab_meth oX4_set 39 _ _ _ _ (Nat.le_refl _) rfl (fun E => ?_)
        refine ab_run [] 50 oX4_set.1 (Nat.le_refl _) 0 ?_
        refine ⟨fun c => absurd c (le_nlt c0.1), fun c => ⟨fun c => ?_, fun c => absurd c0.2 c⟩⟩
        refine ⟨fun c => absurd c1 (le_nlt c), fun c => ?_⟩
        exact ⟨_, _, x_rf _ _ x a f rc4, Nat.le_refl _, rfl, rfl⟩
      · refine ab_meth oX5_set 39 _ _ _ _ (Nat.le_refl _) rfl (fun E => ?_)
        refine ab_run [] 50 oX5_set.1 (Nat.le_refl _) 0 ?_
        refine ⟨_, _, m_isIn _ _ (Nat.le_refl _) _ _, Nat.le_refl _, ?_⟩
        refine br_n (fun c => ?_) (fun c => absurd c0 c)
        refine ⟨_, _, m_most _ _ (Nat.le_refl _) _, Nat.le_refl _, ?_⟩
        refine ⟨_, _, m_within _ _ (Nat.le_refl _) _ _ _, Nat.le_refl _, ?_⟩
        have e : withI p2 0 (mstI (nI k)) = -4 := if_pos c1
        rw [e]
        refine ⟨fun c => absurd c (by decide), fun c => ?_⟩
        exact ⟨_, _, m_rf _ g A xs rc4, Nat.le_refl _, rfl, rfl⟩
    by_cases c2 : mstI (nI k) < p2
    · refine pr_rf h rc6 ?_ (fun xs => ?_)
      · refine ab_meth oX4_set 39 _ _ _ _ (Nat.le_refl _) rfl (fun E => ?_)
        refine ab_run [] 50 oX4_set.1 (Nat.le_refl _) 0 ?_
        refine ⟨fun c => absurd c (le_nlt c0.1), fun c => ⟨fun c => ?_, fun c => absurd c0.2 c⟩⟩
        refine ⟨fun c => ?_, fun c => absurd (nlt_le c1) c⟩
        refine ⟨vp_in_nI hk (by omega), ?_⟩
        refine ⟨fun (c : p2 ≤ ab_ms (nI k).toNatClampNeg) => absurd c2 (by rw [← hm]; exact le_nlt c), fun c => ?_⟩
        exact ⟨_, _, x_rf _ _ x a f rc6, Nat.le_refl _, rfl, rfl⟩
      · refine ab_meth oX5_set 39 _ _ _ _ (Nat.le_refl _) rfl (fun E => ?_)
        refine ab_run [] 50 oX5_set.1 (Nat.le_refl _) 0 ?_
        refine ⟨_, _, m_isIn _ _ (Nat.le_refl _) _ _, Nat.le_refl _, ?_⟩
        refine br_n (fun c => ?_) (fun c => absurd c0 c)
        refine ⟨_, _, m_most _ _ (Nat.le_refl _) _, Nat.le_refl _, ?_⟩
        refine ⟨_, _, m_within _ _ (Nat.le_refl _) _ _ _, Nat.le_refl _, ?_⟩
        have e : withI p2 0 (mstI (nI k)) = -6 := (if_neg c1).trans (if_pos c2)
        rw [e]
        refine ⟨fun c => absurd c (by decide), fun c => ?_⟩
        exact ⟨_, _, m_rf _ g A xs rc6, Nat.le_refl _, rfl, rfl⟩
    · have h21 : A 2 (7 + k) = a 21 k := h.2.2.2.2.2.1.2.1 k hk
      refine ⟨A 2 (7 + k), x, mS a 21 (upd (a 21) k p2), f, g, mS A 2 (upd (A 2) (7 + k) p2), ex_r (r := a 21 k) ?_ h21.symm, ?_, ?_⟩
      · refine ab_meth oX4_set 39 _ _ _ _ (Nat.le_refl _) rfl (fun E => ?_)
        refine ab_run [] 50 oX4_set.1 (Nat.le_refl _) 0 ?_
        refine ⟨fun c => absurd c (le_nlt c0.1), fun c => ⟨fun c => ?_, fun c => absurd c0.2 c⟩⟩
        refine ⟨fun c => ?_, fun c => absurd (nlt_le c1) c⟩
        refine ⟨vp_in_nI hk (by omega), ?_⟩
        refine ⟨fun c => ?_, fun (c : ¬ p2 ≤ ab_ms (nI k).toNatClampNeg) => absurd (by rw [hm]; exact nlt_le c2) c⟩
        refine ⟨vp_in_nI hk (by omega), vp_in_nI hk (by omega), ?_⟩
        rw [ek]
        exact ⟨rfl, rfl⟩
      · refine ab_meth oX5_set 39 _ _ _ _ (Nat.le_refl _) rfl (fun E => ?_)
        refine ab_run [] 50 oX5_set.1 (Nat.le_refl _) 0 ?_
        refine ⟨_, _, m_isIn _ _ (Nat.le_refl _) _ _, Nat.le_refl _, ?_⟩
        refine br_n (fun c => ?_) (fun c => absurd c0 c)
        refine ⟨_, _, m_most _ _ (Nat.le_refl _) _, Nat.le_refl _, ?_⟩
        refine ⟨_, _, m_within _ _ (Nat.le_refl _) _ _ _, Nat.le_refl _, ?_⟩
        have e : withI p2 0 (mstI (nI k)) = 0 := (if_neg c1).trans (if_neg c2)
        rw [e]
        refine ⟨fun c => ?_, fun c => absurd rfl c⟩
        rw [← show ((7 : Int32) + nI k).toNatClampNeg = 7 + k by rw [e7]; exact nI_clamp (by omega)]
        refine ⟨(by rw [e7]; exact vp_in_nI (by omega) (by omega) : vp_in (7 + nI k) 112), (by rw [e7]; exact vp_in_nI (by omega) (by omega) : vp_in (7 + nI k) 112), ?_⟩
        exact ⟨rfl, rfl⟩
      · obtain ⟨h1, h2, h3, h4, h5, h6, h7⟩ := h
        exact ⟨h1, h2, h3, h4, WF_set hk c1 c2 h5, BR_set hk h6, h7⟩
  · refine pr_rf h rc2 ?_ (fun xs => ?_)
    · refine ab_meth oX4_set 39 _ _ _ _ (Nat.le_refl _) rfl (fun E => ?_)
      refine ab_run [] 50 oX4_set.1 (Nat.le_refl _) 0 ?_
      refine ⟨fun c => ?_, fun c => ⟨fun c' => absurd ⟨nlt_le c, c'⟩ c0, fun c => ?_⟩⟩
      · exact ⟨_, _, x_rf _ _ x a f rc2, Nat.le_refl _, rfl, rfl⟩
      · exact ⟨_, _, x_rf _ _ x a f rc2, Nat.le_refl _, rfl, rfl⟩
    · refine ab_meth oX5_set 39 _ _ _ _ (Nat.le_refl _) rfl (fun E => ?_)
      refine ab_run [] 50 oX5_set.1 (Nat.le_refl _) 0 ?_
      refine ⟨_, _, m_isIn _ _ (Nat.le_refl _) _ _, Nat.le_refl _, ?_⟩
      refine br_n (fun c => absurd c c0) (fun c => ?_)
      exact ⟨_, _, m_rf _ g A xs rc2, Nat.le_refl _, rfl, rfl⟩
