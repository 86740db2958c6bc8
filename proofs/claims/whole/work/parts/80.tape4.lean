def mBall (P : Nat → Int32) (p : Nat) (T : Nat → Int32) (k : Nat → (Nat → Int32) → CR) : CR := cS P 44 p T fun p T => cN P 5 1 2 p T fun p T => cS P 47 p T fun p T => cN P 6 1 2 p T k
def mFlt (P : Nat → Int32) (kd : Int32) (p : Nat) (T : Nat → Int32) (k : Nat → (Nat → Int32) → CR) : CR := cN P 1 2 2 p T fun p T => cS P 44 p T fun p T => cN P 2 1 1 p T fun p T => cS P 44 p T fun p T => cN P 3 1 2 p T fun p T => cS P 44 p T fun p T => cN P 4 1 2 p T fun p T => if kd = 1 then mBall P p (upd (upd T 5 1) 6 1) k else k p (upd (upd T 5 1) 6 1)
def mStm (P : Nat → Int32) (p : Nat) (T : Nat → Int32) : CR := if P p = 113 then (if kinI (P (p + 1)) (-9) < 0 then (0, p + 1, upd T 0 (kinI (P (p + 1)) (-9))) else mFlt P (kinI (P (p + 1)) (-9)) (p + 1 + 1) (upd T 0 (kinI (P (p + 1)) (-9))) fun p T => cS P 59 p T cE) else if P p = 102 ∨ P p = 107 ∨ P p = 114 then cN P 0 1 3 (p + 1) T fun p T => cS P 59 p T cE else (0, p, T)
section TapeMS
variable (d : Nat) (g : mG) (A : mA) (xs : List AB) (T : Nat → Int32) {n : Nat}
set_option maxRecDepth 100000 in
set_option maxHeartbeats 4000000 in
theorem m_statement (hg : g 7 = nI n) (hn : n ≤ 64) {p : Nat} (b0 : p ≤ n) : ab_Ex (d + 3) 0 yX5_readsStatement [vR 0 0] (mH g A xs T p) (some (vI (mStm (pk (A 5) n) p T).1)) (mH g A xs (mStm (pk (A 5) n) p T).2.2 (mStm (pk (A 5) n) p T).2.1) := by
  obtain ⟨R, hR⟩ : ∃ R : CR, mStm (pk (A 5) n) p T = R := ⟨_, rfl⟩
  rw [hR]
  unfold mStm at hR
  have hlt := fun (c : Int32) (h : (pk (A 5) n) p = c) (hc : ¬ c = -1) => tk_lt h hc
  refine ab_meth oX5_readsStatement (d + 2) _ _ _ _ (Nat.le_refl _) rfl (fun E => ?_)
  have Kn : ¬ (pk (A 5) n) p = 113 → ((pk (A 5) n) p = 102 ∨ (pk (A 5) n) p = 107 ∨ (pk (A 5) n) p = 114) → ab_W jX5_readsStatement (d + 2) E (mH g A xs T p) 70 (fun v1 h1 => v1 = some (vI R.1) ∧ h1 = mH g A xs R.2.2 R.2.1) (ab_at iX5_readsStatement 31) [(1, vI ((pk (A 5) n) p)), (0, vR 0 0)] [] (mH g A xs T p) := by
    intro h1 h2
    have g0 : p + 1 ≤ n := by
      rcases h2 with z | z | z
      · exact hlt _ z (by decide)
      · exact hlt _ z (by decide)
      · exact hlt _ z (by decide)
    rw [if_neg h1, if_pos h2] at hR
    refine ab_run [] 200 oX5_readsStatement.1 (Nat.le_refl _) 31 ?_
    refine ⟨fun c => absurd c h1, fun _ => ?_⟩
    have hn1 := m_num d g A xs T hg hn g0 0 1 3 (by omega) (by omega) (by omega)
    obtain ⟨q1, eq1⟩ : ∃ q, nuQ (pk (A 5) n) 3 (p + 1) = q := ⟨_, rfl⟩
    obtain ⟨N1, eN1⟩ : ∃ N', upd T 0 (nuV (pk (A 5) n) 3 (p + 1)) = N' := ⟨_, rfl⟩
    have b1 : q1 ≤ n := by rw [← eq1]; exact nuQ_le 3 g0
    rw [eq1, eN1] at hn1
    unfold mH at hn1
    rw [nI_succ p] at hn1
    rcases Nat.lt_or_ge (nuD (pk (A 5) n) 3 (p + 1)) 1 with k1 | k1
    · rw [cN_f k1, eq1, eN1] at hR
      rw [bI_f (show ¬ 1 ≤ nuD (pk (A 5) n) 3 (p + 1) by omega)] at hn1
      refine ⟨_, _, hn1, Nat.le_refl _, ?_⟩
      refine ⟨fun _ => ?_, fun c => absurd rfl c⟩
      rw [← hR]
      exact ⟨Or.inl rfl, rfl, rfl⟩
    rw [cN_t k1, eq1, eN1] at hR
    rw [bI_t k1] at hn1
    refine ⟨_, _, hn1, Nat.le_refl _, ?_⟩
    refine ⟨fun c => absurd c (by decide), fun _ => ?_⟩
    by_cases s2 : ¬ (pk (A 5) n) q1 = 59
    · rw [cS_f s2] at hR
      refine ⟨_, _, m_take0 d g A xs N1 hg hn (by omega) s2, Nat.le_refl _, ?_⟩
      refine ⟨fun _ => ?_, fun c => absurd rfl c⟩
      rw [← hR]
      exact ⟨Or.inl rfl, rfl, rfl⟩
    have s2 : (pk (A 5) n) q1 = 59 := Classical.not_not.mp s2
    have l2 : q1 < n := tk_lt s2 (by decide)
    have g2 : q1 + 1 ≤ n := l2
    rw [cS_t s2] at hR
    refine ⟨_, _, m_take1 d g A xs N1 hg hn (by omega) s2, Nat.le_refl _, ?_⟩
    refine ⟨fun c => absurd c (by decide), fun _ => ?_⟩
    rw [← hR]
    exact ⟨Or.inr rfl, rfl, rfl⟩
  have Kq : (pk (A 5) n) p = 113 → ab_W jX5_readsStatement (d + 2) E (mH g A xs T p) 70 (fun v1 h1 => v1 = some (vI R.1) ∧ h1 = mH g A xs R.2.2 R.2.1) (ab_at iX5_readsStatement 31) [(1, vI ((pk (A 5) n) p)), (0, vR 0 0)] [] (mH g A xs T p) := by
    intro h1
    have g0 : p + 1 ≤ n := hlt _ h1 (by decide)
    rw [if_pos h1] at hR
    have hS := m_sign (d + 1) g A xs T hg hn (p := p + 1) (by omega)
    have hK := m_kindOf (d + 1) (mH g A xs T (p + 1)) (Nat.le_refl _) ((pk (A 5) n) (p + 1))
    have hkl := fun (z : ¬ kinI ((pk (A 5) n) (p + 1)) (-9) < 0) => kin_lt (t := A 5) (n := n) (p := p + 1) (no := -9) (by decide) z
    generalize hkd : kinI ((pk (A 5) n) (p + 1)) (-9) = kd at hR hK hkl
    unfold mH at hS hK
    rw [nI_succ p] at hS hK
    refine ab_run [] 300 oX5_readsStatement.1 (Nat.le_refl _) 31 ?_
    refine ⟨fun _ => ?_, fun c => absurd h1 c⟩
    refine ⟨_, _, hS, Nat.le_refl _, ?_⟩
    refine ⟨_, _, hK, Nat.le_refl _, ?_⟩
    refine ⟨vp_d rfl, vp_d rfl, ?_⟩
    refine ⟨fun (c : 0 ≤ kd) => ?_, fun (c : ¬ 0 ≤ kd) => ?_⟩
    rotate_left
    · rw [if_pos (nle_lt c)] at hR
      rw [← hR]
      refine ⟨Or.inl rfl, rfl, ?_⟩
      unfold mH
      rw [nI_succ]
      rfl
    rw [if_neg (le_nlt c)] at hR
    have g0 : p + 1 + 1 ≤ n := hkl (le_nlt c)
    have z0 : upd T 0 kd 0 = kd := upd_at
    unfold mFlt at hR
    have hn1 := m_num d g A xs (upd T 0 kd) hg hn g0 1 2 2 (by omega) (by omega) (by omega)
    obtain ⟨q1, eq1⟩ : ∃ q, nuQ (pk (A 5) n) 2 (p + 1 + 1) = q := ⟨_, rfl⟩
    obtain ⟨N1, eN1⟩ : ∃ N', upd (upd T 0 kd) 1 (nuV (pk (A 5) n) 2 (p + 1 + 1)) = N' := ⟨_, rfl⟩
    have b1 : q1 ≤ n := by rw [← eq1]; exact nuQ_le 2 g0
    rw [eq1, eN1] at hn1
    have z1 : N1 0 = kd := by rw [← eN1, upd_ne (by decide)]; exact z0
    unfold mH at hn1
    rw [nI_succ (p + 1), nI_succ p] at hn1
    rcases Nat.lt_or_ge (nuD (pk (A 5) n) 2 (p + 1 + 1)) 2 with k1 | k1
    · rw [cN_f k1, eq1, eN1] at hR
      rw [bI_f (show ¬ 2 ≤ nuD (pk (A 5) n) 2 (p + 1 + 1) by omega)] at hn1
      refine ⟨_, _, hn1, Nat.le_refl _, ?_⟩
      refine ⟨fun _ => ?_, fun c => absurd rfl c⟩
      rw [← hR]
      exact ⟨Or.inl rfl, rfl, rfl⟩
    rw [cN_t k1, eq1, eN1] at hR
    rw [bI_t k1] at hn1
    refine ⟨_, _, hn1, Nat.le_refl _, ?_⟩
    refine ⟨fun c => absurd c (by decide), fun _ => ?_⟩
    by_cases s2 : ¬ (pk (A 5) n) q1 = 44
    · rw [cS_f s2] at hR
      refine ⟨_, _, m_take0 d g A xs N1 hg hn (by omega) s2, Nat.le_refl _, ?_⟩
      refine ⟨fun _ => ?_, fun c => absurd rfl c⟩
      rw [← hR]
      exact ⟨Or.inl rfl, rfl, rfl⟩
    have s2 : (pk (A 5) n) q1 = 44 := Classical.not_not.mp s2
    have l2 : q1 < n := tk_lt s2 (by decide)
    have g2 : q1 + 1 ≤ n := l2
    rw [cS_t s2] at hR
    refine ⟨_, _, m_take1 d g A xs N1 hg hn (by omega) s2, Nat.le_refl _, ?_⟩
    refine ⟨fun c => absurd c (by decide), fun _ => ?_⟩
    have hn3 := m_num d g A xs N1 hg hn g2 2 1 1 (by omega) (by omega) (by omega)
    obtain ⟨q3, eq3⟩ : ∃ q, nuQ (pk (A 5) n) 1 (q1 + 1) = q := ⟨_, rfl⟩
    obtain ⟨N3, eN3⟩ : ∃ N', upd N1 2 (nuV (pk (A 5) n) 1 (q1 + 1)) = N' := ⟨_, rfl⟩
    have b3 : q3 ≤ n := by rw [← eq3]; exact nuQ_le 1 g2
    rw [eq3, eN3] at hn3
    have z3 : N3 0 = kd := by rw [← eN3, upd_ne (by decide)]; exact z1
    rcases Nat.lt_or_ge (nuD (pk (A 5) n) 1 (q1 + 1)) 1 with k3 | k3
    · rw [cN_f k3, eq3, eN3] at hR
      rw [bI_f (show ¬ 1 ≤ nuD (pk (A 5) n) 1 (q1 + 1) by omega)] at hn3
      refine ⟨_, _, hn3, Nat.le_refl _, ?_⟩
      refine ⟨fun _ => ?_, fun c => absurd rfl c⟩
      rw [← hR]
      exact ⟨Or.inl rfl, rfl, rfl⟩
    rw [cN_t k3, eq3, eN3] at hR
    rw [bI_t k3] at hn3
    refine ⟨_, _, hn3, Nat.le_refl _, ?_⟩
    refine ⟨fun c => absurd c (by decide), fun _ => ?_⟩
    by_cases s4 : ¬ (pk (A 5) n) q3 = 44
    · rw [cS_f s4] at hR
      refine ⟨_, _, m_take0 d g A xs N3 hg hn (by omega) s4, Nat.le_refl _, ?_⟩
      refine ⟨fun _ => ?_, fun c => absurd rfl c⟩
      rw [← hR]
      exact ⟨Or.inl rfl, rfl, rfl⟩
    have s4 : (pk (A 5) n) q3 = 44 := Classical.not_not.mp s4
    have l4 : q3 < n := tk_lt s4 (by decide)
    have g4 : q3 + 1 ≤ n := l4
    rw [cS_t s4] at hR
    refine ⟨_, _, m_take1 d g A xs N3 hg hn (by omega) s4, Nat.le_refl _, ?_⟩
    refine ⟨fun c => absurd c (by decide), fun _ => ?_⟩
    have hn5 := m_num d g A xs N3 hg hn g4 3 1 2 (by omega) (by omega) (by omega)
    obtain ⟨q5, eq5⟩ : ∃ q, nuQ (pk (A 5) n) 2 (q3 + 1) = q := ⟨_, rfl⟩
    obtain ⟨N5, eN5⟩ : ∃ N', upd N3 3 (nuV (pk (A 5) n) 2 (q3 + 1)) = N' := ⟨_, rfl⟩
    have b5 : q5 ≤ n := by rw [← eq5]; exact nuQ_le 2 g4
    rw [eq5, eN5] at hn5
    have z5 : N5 0 = kd := by rw [← eN5, upd_ne (by decide)]; exact z3
    rcases Nat.lt_or_ge (nuD (pk (A 5) n) 2 (q3 + 1)) 1 with k5 | k5
    · rw [cN_f k5, eq5, eN5] at hR
      rw [bI_f (show ¬ 1 ≤ nuD (pk (A 5) n) 2 (q3 + 1) by omega)] at hn5
      refine ⟨_, _, hn5, Nat.le_refl _, ?_⟩
      refine ⟨fun _ => ?_, fun c => absurd rfl c⟩
      rw [← hR]
      exact ⟨Or.inl rfl, rfl, rfl⟩
    rw [cN_t k5, eq5, eN5] at hR
    rw [bI_t k5] at hn5
    refine ⟨_, _, hn5, Nat.le_refl _, ?_⟩
    refine ⟨fun c => absurd c (by decide), fun _ => ?_⟩
    by_cases s6 : ¬ (pk (A 5) n) q5 = 44
    · rw [cS_f s6] at hR
      refine ⟨_, _, m_take0 d g A xs N5 hg hn (by omega) s6, Nat.le_refl _, ?_⟩
      refine ⟨fun _ => ?_, fun c => absurd rfl c⟩
      rw [← hR]
      exact ⟨Or.inl rfl, rfl, rfl⟩
    have s6 : (pk (A 5) n) q5 = 44 := Classical.not_not.mp s6
    have l6 : q5 < n := tk_lt s6 (by decide)
    have g6 : q5 + 1 ≤ n := l6
    rw [cS_t s6] at hR
    refine ⟨_, _, m_take1 d g A xs N5 hg hn (by omega) s6, Nat.le_refl _, ?_⟩
    refine ⟨fun c => absurd c (by decide), fun _ => ?_⟩
    have hn7 := m_num d g A xs N5 hg hn g6 4 1 2 (by omega) (by omega) (by omega)
    obtain ⟨q7, eq7⟩ : ∃ q, nuQ (pk (A 5) n) 2 (q5 + 1) = q := ⟨_, rfl⟩
    obtain ⟨N7, eN7⟩ : ∃ N', upd N5 4 (nuV (pk (A 5) n) 2 (q5 + 1)) = N' := ⟨_, rfl⟩
    have b7 : q7 ≤ n := by rw [← eq7]; exact nuQ_le 2 g6
    rw [eq7, eN7] at hn7
    have z7 : N7 0 = kd := by rw [← eN7, upd_ne (by decide)]; exact z5
    rcases Nat.lt_or_ge (nuD (pk (A 5) n) 2 (q5 + 1)) 1 with k7 | k7
    · rw [cN_f k7, eq7, eN7] at hR
      rw [bI_f (show ¬ 1 ≤ nuD (pk (A 5) n) 2 (q5 + 1) by omega)] at hn7
      refine ⟨_, _, hn7, Nat.le_refl _, ?_⟩
      refine ⟨fun c => absurd rfl c, fun _ => ?_⟩
      rw [← hR]
      exact ⟨Or.inl rfl, rfl, rfl⟩
    rw [cN_t k7, eq7, eN7] at hR
    rw [bI_t k7] at hn7
    refine ⟨_, _, hn7, Nat.le_refl _, ?_⟩
    refine ⟨fun _ => ?_, fun c => absurd c (by decide)⟩
    refine ⟨vp_d rfl, vp_d rfl, vp_d rfl, ?_⟩
    refine ⟨fun (c2 : ¬ N7 0 = 1) => ?_, fun (c2 : N7 0 = 1) => ?_⟩
    · rw [z7] at c2
      rw [if_neg c2] at hR
      dsimp only at hR
      by_cases s8 : ¬ (pk (A 5) n) q7 = 59
      · rw [cS_f s8] at hR
        refine ⟨_, _, m_take0 d g A xs (upd (upd N7 5 1) 6 1) hg hn (by omega) s8, Nat.le_refl _, ?_⟩
        rw [← hR]
        exact ⟨Or.inl rfl, rfl, rfl⟩
      have s8 : (pk (A 5) n) q7 = 59 := Classical.not_not.mp s8
      rw [cS_t s8] at hR
      refine ⟨_, _, m_take1 d g A xs (upd (upd N7 5 1) 6 1) hg hn (by omega) s8, Nat.le_refl _, ?_⟩
      rw [← hR]
      exact ⟨Or.inr rfl, rfl, rfl⟩
    rw [z7] at c2
    rw [if_pos c2] at hR
    unfold mBall at hR
    by_cases s9 : ¬ (pk (A 5) n) q7 = 44
    · rw [cS_f s9] at hR
      refine ⟨_, _, m_take0 d g A xs (upd (upd N7 5 1) 6 1) hg hn (by omega) s9, Nat.le_refl _, ?_⟩
      refine ⟨fun _ => ?_, fun c => absurd rfl c⟩
      rw [← hR]
      exact ⟨Or.inl rfl, rfl, rfl⟩
    have s9 : (pk (A 5) n) q7 = 44 := Classical.not_not.mp s9
    have l9 : q7 < n := tk_lt s9 (by decide)
    have g9 : q7 + 1 ≤ n := l9
    rw [cS_t s9] at hR
    refine ⟨_, _, m_take1 d g A xs (upd (upd N7 5 1) 6 1) hg hn (by omega) s9, Nat.le_refl _, ?_⟩
    refine ⟨fun c => absurd c (by decide), fun _ => ?_⟩
    have hn10 := m_num d g A xs (upd (upd N7 5 1) 6 1) hg hn g9 5 1 2 (by omega) (by omega) (by omega)
    obtain ⟨q10, eq10⟩ : ∃ q, nuQ (pk (A 5) n) 2 (q7 + 1) = q := ⟨_, rfl⟩
    obtain ⟨N10, eN10⟩ : ∃ N', upd (upd (upd N7 5 1) 6 1) 5 (nuV (pk (A 5) n) 2 (q7 + 1)) = N' := ⟨_, rfl⟩
    have b10 : q10 ≤ n := by rw [← eq10]; exact nuQ_le 2 g9
    rw [eq10, eN10] at hn10
    rcases Nat.lt_or_ge (nuD (pk (A 5) n) 2 (q7 + 1)) 1 with k10 | k10
    · rw [cN_f k10, eq10, eN10] at hR
      rw [bI_f (show ¬ 1 ≤ nuD (pk (A 5) n) 2 (q7 + 1) by omega)] at hn10
      refine ⟨_, _, hn10, Nat.le_refl _, ?_⟩
      refine ⟨fun _ => ?_, fun c => absurd rfl c⟩
      rw [← hR]
      exact ⟨Or.inl rfl, rfl, rfl⟩
    rw [cN_t k10, eq10, eN10] at hR
    rw [bI_t k10] at hn10
    refine ⟨_, _, hn10, Nat.le_refl _, ?_⟩
    refine ⟨fun c => absurd c (by decide), fun _ => ?_⟩
    by_cases s11 : ¬ (pk (A 5) n) q10 = 47
    · rw [cS_f s11] at hR
      refine ⟨_, _, m_take0 d g A xs N10 hg hn (by omega) s11, Nat.le_refl _, ?_⟩
      refine ⟨fun _ => ?_, fun c => absurd rfl c⟩
      rw [← hR]
      exact ⟨Or.inl rfl, rfl, rfl⟩
    have s11 : (pk (A 5) n) q10 = 47 := Classical.not_not.mp s11
    have l11 : q10 < n := tk_lt s11 (by decide)
    have g11 : q10 + 1 ≤ n := l11
    rw [cS_t s11] at hR
    refine ⟨_, _, m_take1 d g A xs N10 hg hn (by omega) s11, Nat.le_refl _, ?_⟩
    refine ⟨fun c => absurd c (by decide), fun _ => ?_⟩
    have hn12 := m_num d g A xs N10 hg hn g11 6 1 2 (by omega) (by omega) (by omega)
    obtain ⟨q12, eq12⟩ : ∃ q, nuQ (pk (A 5) n) 2 (q10 + 1) = q := ⟨_, rfl⟩
    obtain ⟨N12, eN12⟩ : ∃ N', upd N10 6 (nuV (pk (A 5) n) 2 (q10 + 1)) = N' := ⟨_, rfl⟩
    have b12 : q12 ≤ n := by rw [← eq12]; exact nuQ_le 2 g11
    rw [eq12, eN12] at hn12
    rcases Nat.lt_or_ge (nuD (pk (A 5) n) 2 (q10 + 1)) 1 with k12 | k12
    · rw [cN_f k12, eq12, eN12] at hR
      rw [bI_f (show ¬ 1 ≤ nuD (pk (A 5) n) 2 (q10 + 1) by omega)] at hn12
      refine ⟨_, _, hn12, Nat.le_refl _, ?_⟩
      refine ⟨fun c => absurd rfl c, fun _ => ?_⟩
      rw [← hR]
      exact ⟨Or.inl rfl, rfl, rfl⟩
    rw [cN_t k12, eq12, eN12] at hR
    rw [bI_t k12] at hn12
    refine ⟨_, _, hn12, Nat.le_refl _, ?_⟩
    refine ⟨fun _ => ?_, fun c => absurd c (by decide)⟩
    by_cases s13 : ¬ (pk (A 5) n) q12 = 59
    · rw [cS_f s13] at hR
      refine ⟨_, _, m_take0 d g A xs N12 hg hn (by omega) s13, Nat.le_refl _, ?_⟩
      rw [← hR]
      exact ⟨Or.inl rfl, rfl, rfl⟩
    have s13 : (pk (A 5) n) q12 = 59 := Classical.not_not.mp s13
    rw [cS_t s13] at hR
    refine ⟨_, _, m_take1 d g A xs N12 hg hn (by omega) s13, Nat.le_refl _, ?_⟩
    rw [← hR]
    exact ⟨Or.inr rfl, rfl, rfl⟩
  refine ab_run [31] 100 oX5_readsStatement.1 (Nat.le_refl _) 0 ?_
  refine ⟨_, _, m_sign (d + 1) g A xs T hg hn (p := p) (by omega), Nat.le_refl _, ?_⟩
  refine ⟨fun c2 => Kn (fun z => by rw [z] at c2; exact absurd c2 (by decide)) (Or.inl c2), fun c2 => ?_⟩
  refine ⟨fun c3 => Kn (fun z => by rw [z] at c3; exact absurd c3 (by decide)) (Or.inr (Or.inl c3)), fun c3 => ?_⟩
  refine ⟨fun c4 => Kn (fun z => by rw [z] at c4; exact absurd c4 (by decide)) (Or.inr (Or.inr c4)), fun c4 => ?_⟩
  refine ⟨fun c5 => Kq c5, fun c5 => ?_⟩
  rw [if_neg c5, if_neg (fun z => z.elim c2 (fun z => z.elim c3 c4))] at hR
  rw [← hR]
  exact ⟨Or.inl rfl, rfl, rfl⟩
end TapeMS
