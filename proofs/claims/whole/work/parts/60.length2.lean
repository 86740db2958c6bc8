theorem rr2_ne (x : mA) (W1 V1 W2 V2 : Nat → Int32) {k : Nat} (h : k < 41) : rr2 x W1 V1 W2 V2 k = x k := by
  unfold rr2
  rw [mS_ne _ _ _ (by omega), mS_ne _ _ _ (by omega), mS_ne _ _ _ (by omega), mS_ne _ _ _ (by omega)]
theorem IV_rr {g : mG} {A x a : mA} {f : mF} (h : IV g A x a f) (W1 V1 W2 V2 : Nat → Int32) : IV g A (rr2 x W1 V1 W2 V2) a f := IV_congr (fun _ _ => rfl) (fun _ _ => rfl) (fun k hk => rr2_ne x W1 V1 W2 V2 (by omega)) (fun _ _ _ => rfl) h
theorem x_bg41 (d : Nat) (mb : Nat → AB) (x a : mA) (f : mF) {i : Nat} (hi : i < 8) : ab_Ex (d + 2) 0 yX2_begin [vR 41 0, vR 20 i, vI (-9)] (hX mb x a f) none (hX mb (mS (mS x 42 (bgQ x f i (-9) (x 41)).1) 41 (bgQ x f i (-9) (x 41)).2) a f) := by
  have h1 := r_begin41 d mb x a f (x 42) (x 41) hi (-9)
  rw [rX] at h1
  exact h1
theorem x_bg43 (d : Nat) (mb : Nat → AB) (x a : mA) (f : mF) (W V : Nat → Int32) {i : Nat} (hi : i < 8) : ab_Ex (d + 2) 0 yX2_begin [vR 43 0, vR 20 i, vI (-9)] (hX mb (mS (mS x 42 W) 41 V) a f) none (hX mb (rr2 x W V (bgQ x f i (-9) (x 43)).1 (bgQ x f i (-9) (x 43)).2) a f) := by
  have h1 := r_begin43 d mb (mS (mS x 42 W) 41 V) a f (x 44) (x 43) hi (-9)
  rw [rr2_swap, rr2_swap] at h1
  have e : rr2 x W V (x 44) (x 43) = mS (mS x 42 W) 41 V := by
    unfold rr2
    rw [mS_id, mS_id]
  rw [e] at h1
  exact h1
set_option maxRecDepth 100000 in
theorem m_length {g : mG} {A x a : mA} {f : mF} (h : IV g A x a f) {m w i j : Nat} (em : A 2 3 = nI m) (hm : m ≤ 8) (hw : w < 5) (hg : (w : Int) < (A 2 2).toInt) (hi : i < m) (hj : j < m) (act : Int32) (d : Nat) (dd R w6 : Int32) : ∀ (k t : Nat), t + k = 60 → R = lnR (lnC g A m w act i j) dd k t → ∃ t' : Nat, ∀ xs E, ab_W jX5_length (d + 4) E (hM g A xs) 70 (fun vv h1 => vv = some (vI R) ∧ h1 = hM (sgN m act t' (bgG g A, opN w m (bgN m A))).1 (sgN m act t' (bgG g A, opN w m (bgN m A))).2 xs) (ab_at iX5_length 65) [(7, vI (nI (t + 1))), (6, vI w6), (0, vR 0 0), (1, vI (nI i)), (2, vI (nI j)), (3, vI act), (4, vI (nI w)), (5, vI dd)] [] (hM (sgN m act t (bgG g A, opN w m (bgN m A))).1 (sgN m act t (bgG g A, opN w m (bgN m A))).2 xs) := by
  have e2 : bgN m A 2 = A 2 := bgN_n m A (by decide) (by decide) (by decide)
  have h8 : ∀ (t q : Nat), q < m → ¬ 100 * (sgN m act t (bgG g A, opN w m (bgN m A))).2 8 q = 0 := by
    intro t q hq
    rw [sgN_A _ _ _ _ (by decide) (by decide)]
    show ¬ 100 * opN w m (bgN m A) 8 q = 0
    rw [(opN_lo w m _ hq).1, dnM_2 e2]
    exact (IV_dn h em hm hq hw hg).2.2.2
  intro k
  induction k with
  | zero =>
    intro t ht hR
    refine ⟨t, fun xs E => ?_⟩
    generalize sgN m act t (bgG g A, opN w m (bgN m A)) = Q
    refine ab_run [65, 75] 100 oX5_length.1 (Nat.le_refl _) 65 ?_
    refine ⟨fun c1 => ?_, fun c1 => absurd (show nI 60 < nI (t + 1) from nI_lt (by omega) (by omega)) c1⟩
    have hR : R = -9 := hR
    rw [hR]
    exact ⟨rfl, rfl⟩
  | succ k ih =>
    intro t ht hR
    -- a turn, whatever comes behind it
    have turn : ∀ (Q0 : Option AV → AH → Prop) (xs : List AB) (E : Nat × (Nat → Int32)),
        (¬ dd ≤ lnC g A m w act i j (t + 1) → ab_W jX5_length (d + 4) E (hM g A xs) 70 Q0 (ab_at iX5_length 65) [(7, vI (nI (t + 1) + 1)), (6, vI w6), (0, vR 0 0), (1, vI (nI i)), (2, vI (nI j)), (3, vI act), (4, vI (nI w)), (5, vI dd)] [] (hM (sgN m act (t + 1) (bgG g A, opN w m (bgN m A))).1 (sgN m act (t + 1) (bgG g A, opN w m (bgN m A))).2 xs)) →
        (dd ≤ lnC g A m w act i j (t + 1) → Q0 (some (vI (nI (t + 1)))) (hM (sgN m act (t + 1) (bgG g A, opN w m (bgN m A))).1 (sgN m act (t + 1) (bgG g A, opN w m (bgN m A))).2 xs)) →
        ab_W jX5_length (d + 4) E (hM g A xs) 70 Q0 (ab_at iX5_length 65) [(7, vI (nI (t + 1))), (6, vI w6), (0, vR 0 0), (1, vI (nI i)), (2, vI (nI j)), (3, vI act), (4, vI (nI w)), (5, vI dd)] [] (hM (sgN m act t (bgG g A, opN w m (bgN m A))).1 (sgN m act t (bgG g A, opN w m (bgN m A))).2 xs) := by
      intro Q0 xs E K1 K2
      have eM : sgN m act (t + 1) (bgG g A, opN w m (bgN m A)) = tuT m act (sgN m act t (bgG g A, opN w m (bgN m A))) := rfl
      have h8 := h8 t
      have hB2 : (sgN m act t (bgG g A, opN w m (bgN m A))).2 2 = A 2 := sg_2
      unfold lnC at K1 K2
      rw [eM] at K1 K2
      generalize sgN m act t (bgG g A, opN w m (bgN m A)) = Q at h8 hB2 K1 K2 ⊢
      have inner : ∀ (l u : Nat) (gi : mG) (Ai : mA), u + l = 100 → (gi, Ai) = tuN m act u Q → ab_W jX5_length (d + 4) E (hM g A xs) 70 Q0 (ab_at iX5_length 75) [(8, vI (nI u)), (7, vI (nI (t + 1))), (6, vI w6), (0, vR 0 0), (1, vI (nI i)), (2, vI (nI j)), (3, vI act), (4, vI (nI w)), (5, vI dd)] [] (hM gi Ai xs) := by
        intro l
        induction l with
        | zero =>
          intro u gi Ai hu hq
          have eT : tuT m act Q = (upd gi 12 (gi 12 + 1), Ai) := by
            unfold tuT
            rw [← show u = 100 by omega, ← hq]
          rw [eT] at K1 K2
          refine ab_run [65, 75] 100 oX5_length.1 (Nat.le_refl _) 75 ?_
          refine ⟨fun _ => ?_, fun c1 => absurd (nI_le (a := 100) (b := u) (by omega) (by omega)) c1⟩
          refine ⟨(vp_in_nI (by omega) (by omega) : vp_in (nI i) 8), (vp_in_nI (by omega) (by omega) : vp_in (nI j) 8), ?_⟩
          rw [nI_clamp (by omega), nI_clamp (by omega)]
          refine ⟨_, _, m_amount _ _ (Nat.le_refl _) (Ai 9 i - Ai 9 j), Nat.le_refl _, ?_⟩
          refine ⟨fun c2 => ?_, fun c2 => ?_⟩
          · exact ab_W_lv (lv_pk [0, 2, 3, 4, 5, 6, 7, 8] rfl) (K1 (lt_nle c2))
          · exact K2 (nlt_le c2)
        | succ l ihl =>
          intro u gi Ai hu hq
          have e2' : Ai 2 = A 2 := by
            have h1 := tuN_A m act u Q (j := 2) (by decide) (by decide)
            rw [← hq] at h1
            exact h1.trans hB2
          have e8 : Ai 8 = Q.2 8 := by
            have h1 := tuN_A m act u Q (j := 8) (by decide) (by decide)
            rw [← hq] at h1
            exact h1
          refine ab_run [65, 75] 100 oX5_length.1 (Nat.le_refl _) 75 ?_
          refine ⟨fun c1 => absurd c1 (nI_ge (a := u) (b := 100) (by omega) (by omega)), fun _ => ?_⟩
          refine ⟨_, _, m_goesStep d xs gi Ai (m := m) (by rw [e2']; exact em) hm act (nI u) (fun q hq => by rw [e8]; exact h8 q hq), Nat.le_refl _, ?_⟩
          have h9 := ihl (u + 1) (gsS m act (nI u) (gi, Ai)).1 (gsS m act (nI u) (gi, Ai)).2 (by omega) (by rw [hq]; rfl)
          rw [nI_succ u] at h9
          exact h9
      refine ab_run [65, 75] 100 oX5_length.1 (Nat.le_refl _) 65 ?_
      refine ⟨fun c1 => absurd c1 (show ¬ nI 60 < nI (t + 1) from nI_nlt (by omega) (by omega)), fun _ => ?_⟩
      exact inner 100 0 Q.1 Q.2 (by omega) rfl
    by_cases c3 : dd ≤ lnC g A m w act i j (t + 1)
    · have hR : R = nI (t + 1) := by rw [hR]; exact if_pos c3
      refine ⟨t + 1, fun xs E => turn _ xs E (fun q => absurd c3 q) (fun _ => ?_)⟩
      rw [hR]
      exact ⟨rfl, rfl⟩
    · obtain ⟨t', hW⟩ := ih (t + 1) (by omega) (by rw [hR]; exact if_neg c3)
      refine ⟨t', fun xs E => turn _ xs E (fun _ => ?_) (fun q => absurd q c3)⟩
      have h9 := hW xs E
      rw [nI_succ (t + 1)] at h9
      exact h9
theorem p_length : P_length IV 40 := by
  intro p1 p2 p3 p4 p5 g A x a f h
  obtain ⟨m, hm, em, exm⟩ := IV_m h
  obtain ⟨ng, hng, eg, exg⟩ := IV_ng h
  have z1 : (1 : Int32).toInt = 1 := rfl
  have z6 : (6 : Int32).toInt = 6 := rfl
  have z0 : (0 : Int32).toInt = 0 := rfl
  by_cases c0 : ((0 ≤ p1 ∧ p1 < nI m) ∧ (0 ≤ p2 ∧ p2 < nI m) ∧ ¬ p1 = p2) ∧ (0 ≤ p3 ∧ p3 < 6) ∧ (0 ≤ p4 ∧ p4 < nI ng)
  · have k0 : (0 ≤ p1 ∧ p1 < x 17 5) ∧ (0 ≤ p2 ∧ p2 < x 17 5) ∧ ¬ p1 = p2 := by rw [exm]; exact c0.1
    have k2 : (0 ≤ p1 ∧ p1 < A 2 3) ∧ (0 ≤ p2 ∧ p2 < A 2 3) ∧ ¬ p1 = p2 := by rw [em]; exact c0.1
    have k1 : 0 ≤ p4 ∧ p4 < x 17 3 := by rw [exg]; exact c0.2.2
    have k3 : 0 ≤ p4 ∧ p4 < A 2 2 := by rw [eg]; exact c0.2.2
    by_cases c1 : p5 < 1
    · refine pr_rf h rc4 ?_ (fun xs => ?_)
      · refine ab_meth oX4_length 39 _ _ _ _ (Nat.le_refl _) rfl (fun E => ?_)
        refine ab_run [98] 100 oX4_length.1 (Nat.le_refl _) 0 ?_
        refine ⟨_, _, x_areTwo _ _ x a f _ _, Nat.le_refl _, ?_⟩
        refine br_z (fun c => absurd k0 c) (fun c => ?_)
        refine ⟨_, _, x_isAct _ _ (Nat.le_refl _) _, Nat.le_refl _, ?_⟩
        refine br_z (fun c => absurd c0.2.1 c) (fun c => ?_)
        refine ⟨_, _, x_isGear _ _ x a f _, Nat.le_refl _, ?_⟩
        refine br_n (fun c => ?_) (fun c => absurd k1 c)
        refine ⟨fun c => absurd c1 (le_nlt c), fun c => ?_⟩
        exact ⟨_, _, x_rf _ _ x a f rc4, Nat.le_refl _, rfl, rfl⟩
      · refine ab_meth oX5_length 39 _ _ _ _ (Nat.le_refl _) rfl (fun E => ?_)
        refine ab_run [65, 75] 100 oX5_length.1 (Nat.le_refl _) 0 ?_
        refine ⟨_, _, m_areTwo _ g A xs _ _, Nat.le_refl _, ?_⟩
        refine br_z (fun c => absurd k2 c) (fun c => ?_)
        refine ⟨_, _, m_isAct _ _ (Nat.le_refl _) _, Nat.le_refl _, ?_⟩
        refine br_z (fun c => absurd c0.2.1 c) (fun c => ?_)
        refine ⟨_, _, m_isGear _ g A xs _, Nat.le_refl _, ?_⟩
        refine br_z (fun c => absurd k3 c) (fun c => ?_)
        refine ⟨_, _, m_within _ _ (Nat.le_refl _) _ _ _, Nat.le_refl _, ?_⟩
        rw [show withI p5 1 999 = -4 from if_pos c1]
        refine ⟨fun c => absurd c (by decide), fun c => ?_⟩
        exact ⟨_, _, m_rf _ g A xs rc4, Nat.le_refl _, rfl, rfl⟩
    by_cases c2 : 999 < p5
    · refine pr_rf h rc6 ?_ (fun xs => ?_)
      · refine ab_meth oX4_length 39 _ _ _ _ (Nat.le_refl _) rfl (fun E => ?_)
        refine ab_run [98] 100 oX4_length.1 (Nat.le_refl _) 0 ?_
        refine ⟨_, _, x_areTwo _ _ x a f _ _, Nat.le_refl _, ?_⟩
        refine br_z (fun c => absurd k0 c) (fun c => ?_)
        refine ⟨_, _, x_isAct _ _ (Nat.le_refl _) _, Nat.le_refl _, ?_⟩
        refine br_z (fun c => absurd c0.2.1 c) (fun c => ?_)
        refine ⟨_, _, x_isGear _ _ x a f _, Nat.le_refl _, ?_⟩
        refine br_n (fun c => ?_) (fun c => absurd k1 c)
        refine ⟨fun c => ?_, fun c => absurd (nlt_le c1) c⟩
        refine ⟨fun c => absurd c2 (le_nlt c), fun c => ?_⟩
        exact ⟨_, _, x_rf _ _ x a f rc6, Nat.le_refl _, rfl, rfl⟩
      · refine ab_meth oX5_length 39 _ _ _ _ (Nat.le_refl _) rfl (fun E => ?_)
        refine ab_run [65, 75] 100 oX5_length.1 (Nat.le_refl _) 0 ?_
        refine ⟨_, _, m_areTwo _ g A xs _ _, Nat.le_refl _, ?_⟩
        refine br_z (fun c => absurd k2 c) (fun c => ?_)
        refine ⟨_, _, m_isAct _ _ (Nat.le_refl _) _, Nat.le_refl _, ?_⟩
        refine br_z (fun c => absurd c0.2.1 c) (fun c => ?_)
        refine ⟨_, _, m_isGear _ g A xs _, Nat.le_refl _, ?_⟩
        refine br_z (fun c => absurd k3 c) (fun c => ?_)
        refine ⟨_, _, m_within _ _ (Nat.le_refl _) _ _ _, Nat.le_refl _, ?_⟩
        rw [show withI p5 1 999 = -6 from (if_neg c1).trans (if_pos c2)]
        refine ⟨fun c => absurd c (by decide), fun c => ?_⟩
        exact ⟨_, _, m_rf _ g A xs rc6, Nat.le_refl _, rfl, rfl⟩
    obtain ⟨i, hi, rfl⟩ := ix_of (m := m) (by omega) c0.1.1
    obtain ⟨j, hj, rfl⟩ := ix_of (m := m) (by omega) c0.1.2.1
    obtain ⟨w, hw5, rfl⟩ := ix_of (m := ng) (by omega) c0.2.2
    have a1 := Int32.le_iff_toInt_le.mp c0.2.1.1
    have a2 := Int32.lt_iff_toInt_lt.mp c0.2.1.2
    have d1 := Int32.le_iff_toInt_le.mp (nlt_le c1)
    have hgw : (w : Int) < (A 2 2).toInt := by rw [eg, nI_toInt (by omega)]; omega
    obtain ⟨R, hR⟩ : ∃ R : Int32, R = lnR (lnC g A m w p3 i j) p5 60 0 := ⟨_, rfl⟩
    obtain ⟨t1, hXw⟩ := x_length h em hm (w := w) (by omega) hgw hi hj (act := p3) (by omega) (by omega) 36 (mbl g A) (hX (mbl g A) x a f) (x 41) (x 43) p5 R (by omega) 60 0 (by omega) hR
    obtain ⟨t2, hMw⟩ := m_length h em hm (w := w) (by omega) hgw hi hj p3 35 p5 R 0 60 0 (by omega) hR
    have e2 : bgN m A 2 = A 2 := bgN_n m A (by decide) (by decide) (by decide)
    refine pr_w (r := R) (x' := rr2 x (lnQ x a p3 w t1 (bgQ x f i (-9) (x 41))).1 (lnQ x a p3 w t1 (bgQ x f i (-9) (x 41))).2 (lnQ x a p3 w t1 (bgQ x f j (-9) (x 43))).1 (lnQ x a p3 w t1 (bgQ x f j (-9) (x 43))).2) (a' := a) (f' := f) (g' := (sgN m p3 t2 (bgG g A, opN w m (bgN m A))).1) (A' := (sgN m p3 t2 (bgG g A, opN w m (bgN m A))).2) ?_ (fun xs => ?_) (IV_rr (IV_sg m w t2 p3 h) _ _ _ _)
    · refine ab_meth oX4_length 39 _ _ _ _ (Nat.le_refl _) rfl (fun E => ?_)
      refine ab_run [98] 100 oX4_length.1 (Nat.le_refl _) 0 ?_
      refine ⟨_, _, x_areTwo _ _ x a f _ _, Nat.le_refl _, ?_⟩
      refine br_z (fun c => absurd k0 c) (fun c => ?_)
      refine ⟨_, _, x_isAct _ _ (Nat.le_refl _) _, Nat.le_refl _, ?_⟩
      refine br_z (fun c => absurd c0.2.1 c) (fun c => ?_)
      refine ⟨_, _, x_isGear _ _ x a f _, Nat.le_refl _, ?_⟩
      refine br_n (fun c => ?_) (fun c => absurd k1 c)
      refine ⟨fun c => ?_, fun c => absurd (nlt_le c1) c⟩
      refine ⟨fun c => ?_, fun c => absurd (nlt_le c2) c⟩
      refine ⟨vp_in_nI (by omega) (by omega), ⟨(20, i), by rw [nI_clamp (by omega)]; exact ab_fa_at 20 (by omega), ?_⟩⟩
      refine ⟨_, _, x_bg41 _ (mbl g A) x a f (i := i) (by omega), Nat.le_refl _, ?_⟩
      refine ⟨vp_in_nI (by omega) (by omega), ⟨(20, j), by rw [nI_clamp (by omega)]; exact ab_fa_at 20 (by omega), ?_⟩⟩
      refine ⟨_, _, x_bg43 _ (mbl g A) x a f _ _ (i := j) (by omega), Nat.le_refl _, ?_⟩
      exact hXw E
    · refine ab_meth oX5_length 39 _ _ _ _ (Nat.le_refl _) rfl (fun E => ?_)
      refine ab_run [65, 75] 100 oX5_length.1 (Nat.le_refl _) 0 ?_
      refine ⟨_, _, m_areTwo _ g A xs _ _, Nat.le_refl _, ?_⟩
      refine br_z (fun c => absurd k2 c) (fun c => ?_)
      refine ⟨_, _, m_isAct _ _ (Nat.le_refl _) _, Nat.le_refl _, ?_⟩
      refine br_z (fun c => absurd c0.2.1 c) (fun c => ?_)
      refine ⟨_, _, m_isGear _ g A xs _, Nat.le_refl _, ?_⟩
      refine br_z (fun c => absurd k3 c) (fun c => ?_)
      refine ⟨_, _, m_within _ _ (Nat.le_refl _) _ _ _, Nat.le_refl _, ?_⟩
      rw [show withI p5 1 999 = 0 from (if_neg c1).trans (if_neg c2)]
      refine ⟨fun c => ?_, fun c => absurd rfl c⟩
      refine ⟨_, _, m_begins 37 xs g A em hm, Nat.le_refl _, ?_⟩
      refine ⟨_, _, m_opensStage 36 xs (bgG g A) (bgN m A) (m := m) (w := w) (by rw [e2]; exact em) hm (by omega) (bgN_8 h em hm), Nat.le_refl _, ?_⟩
      exact hMw xs E
  · refine pr_rf h rc1 ?_ (fun xs => ?_)
    · refine ab_meth oX4_length 39 _ _ _ _ (Nat.le_refl _) rfl (fun E => ?_)
      refine ab_run [98] 100 oX4_length.1 (Nat.le_refl _) 0 ?_
      refine ⟨_, _, x_areTwo _ _ x a f _ _, Nat.le_refl _, ?_⟩
      refine br_z (fun _ => ⟨_, _, x_rf _ _ x a f rc1, Nat.le_refl _, rfl, rfl⟩) (fun b1 => ?_)
      refine ⟨_, _, x_isAct _ _ (Nat.le_refl _) _, Nat.le_refl _, ?_⟩
      refine br_z (fun _ => ⟨_, _, x_rf _ _ x a f rc1, Nat.le_refl _, rfl, rfl⟩) (fun b2 => ?_)
      refine ⟨_, _, x_isGear _ _ x a f _, Nat.le_refl _, ?_⟩
      refine br_n (fun b3 => ?_) (fun _ => ⟨_, _, x_rf _ _ x a f rc1, Nat.le_refl _, rfl, rfl⟩)
      rw [exm] at b1
      rw [exg] at b3
      exact absurd ⟨b1, b2, b3⟩ c0
    · refine ab_meth oX5_length 39 _ _ _ _ (Nat.le_refl _) rfl (fun E => ?_)
      refine ab_run [65, 75] 100 oX5_length.1 (Nat.le_refl _) 0 ?_
      have fin : (¬ (-1 : Int32) = 0) := by decide
      refine ⟨_, _, m_areTwo _ g A xs _ _, Nat.le_refl _, ?_⟩
      refine br_z (fun _ => ⟨fun q => absurd q fin, fun _ => ⟨_, _, m_rf _ g A xs rc1, Nat.le_refl _, rfl, rfl⟩⟩) (fun b1 => ?_)
      refine ⟨_, _, m_isAct _ _ (Nat.le_refl _) _, Nat.le_refl _, ?_⟩
      refine br_z (fun _ => ⟨fun q => absurd q fin, fun _ => ⟨_, _, m_rf _ g A xs rc1, Nat.le_refl _, rfl, rfl⟩⟩) (fun b2 => ?_)
      refine ⟨_, _, m_isGear _ g A xs _, Nat.le_refl _, ?_⟩
      refine br_z (fun _ => ⟨fun q => absurd q fin, fun _ => ⟨_, _, m_rf _ g A xs rc1, Nat.le_refl _, rfl, rfl⟩⟩) (fun b3 => ?_)
      rw [em] at b1
      rw [eg] at b3
      exact absurd ⟨b1, b2, b3⟩ c0
