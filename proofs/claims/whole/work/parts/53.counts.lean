set_option maxRecDepth 100000 in
theorem x_cis {g : mG} {A x a : mA} {f : mF} (h : IV g A x a f) {m j w T : Nat} (em : A 2 3 = nI m) (hm : m ≤ 8) (hj : j < m) (hw : w < 5) (hg : (w : Int) < (A 2 2).toInt) (hT : T ≤ 60) {act : Int32} (ha1 : 0 ≤ act.toInt) (ha2 : act.toInt ≤ 5) (d : Nat) (mb : Nat → AB) (u r : Nat → Int32) : ab_Ex (d + 4) 0 yX4_clicksInStage [vR 13 0, vI (nI j), vI act, vI (nI w), vI (nI T)] (hX mb (mS (mS x 42 u) 41 r) a f) (some (vI ((sgN m act T (bgG g A, opN w m (bgN m A))).2 9 j))) (hX mb (mS (mS x 42 (stX x a act (nI w) T (bgQ x f j (-9) r)).1) 41 (stX x a act (nI w) T (bgQ x f j (-9) r)).2) a f) := by
  have e2 : bgN m A 2 = A 2 := bgN_n m A (by decide) (by decide) (by decide)
  have h0 := IV_r0 h
  have hRJ := RJ_begin h em hm hj (G := bgG g A) rfl rfl (-9) r
  obtain ⟨s1, ⟨s2, s3⟩, -⟩ := RJ_stage (f := f) (x := x) (a := a) (w := w) (T := T) (act := act) (by rw [e2]; exact h.2.2.2.2.1) (by rw [e2]; exact h.2.2.2.2.2.1) (by rw [e2]; exact em) hj hm hw (by rw [e2]; exact hg) hT ha1 ha2 h0.1 (by show (A 2 5).toInt ≤ 20000; omega) hRJ
  refine ab_meth oX4_clicksInStage (d + 3) _ _ _ _ (Nat.le_refl _) rfl (fun E => ?_)
  refine ab_run [] 100 oX4_clicksInStage.1 (Nat.le_refl _) 0 ?_
  refine ⟨vp_in_nI (by omega) (by omega), ⟨(20, j), by rw [nI_clamp (by omega)]; exact ab_fa_at 20 (by omega), ?_⟩⟩
  refine ⟨_, _, r_begin41 (d + 1) mb x a f u r (i := j) (by omega) (-9), Nat.le_refl _, ?_⟩
  refine ⟨_, _, p_stage41 d mb x a f (bgQ x f j (-9) r).1 _ (bgQ x f j (-9) r).2 act (nI w) T hT (IV_x5 h) s2 rfl s3, Nat.le_refl _, ?_⟩
  refine ⟨?_, rfl⟩
  show some (vI ((stX x a act (nI w) T (bgQ x f j (-9) r)).2 5)) = _
  rw [s1.2.2.2.2.2.2.1]
set_option maxRecDepth 100000 in
theorem m_stageAlone {g : mG} {A x a : mA} {f : mF} (h : IV g A x a f) {m w T : Nat} (em : A 2 3 = nI m) (hm : m ≤ 8) (hw : w < 5) (hg : (w : Int) < (A 2 2).toInt) (hT : T ≤ 60) (act : Int32) (d : Nat) (xs : List AB) : ab_Ex (d + 6) 0 yX5_stageAlone [vR 0 0, vI act, vI (nI w), vI (nI T)] (hM g A xs) none (hM (sgN m act T (bgG g A, opN w m (bgN m A))).1 (sgN m act T (bgG g A, opN w m (bgN m A))).2 xs) := by
  have e2 : bgN m A 2 = A 2 := bgN_n m A (by decide) (by decide) (by decide)
  refine ab_meth oX5_stageAlone (d + 5) _ _ _ _ (Nat.le_refl _) rfl (fun E => ?_)
  refine ab_run [] 100 oX5_stageAlone.1 (Nat.le_refl _) 0 ?_
  refine ⟨_, _, m_begins (d + 3) xs g A em hm, Nat.le_refl _, ?_⟩
  refine ⟨_, _, m_goesStage d xs (bgG g A) (bgN m A) (m := m) (w := w) (n := T) (by rw [e2]; exact em) hm hw hT (bgN_8 h em hm) (fun i hi => by rw [(opN_lo w m _ hi).1, dnM_2 e2]; exact (IV_dn h em hm hi hw hg).2.2.2) act, Nat.le_refl _, ?_⟩
  exact ⟨rfl, rfl⟩
theorem IV_rsG {g G : mG} {A x a : mA} {f : mF} (m ns : Nat) (hG : ∀ k, k = 4 ∨ k = 7 ∨ k = 24 → G k = g k) (h : IV g A x a f) : IV (rsN m ns (G, bgN m A)).1 (rsN m ns (G, bgN m A)).2 x a f := by
  refine IV_md (fun k h7 h8 h9 => ?_) (fun k hk => ?_) h
  · rw [rsN_A _ _ _ h7 h8 h9]
    exact bgN_n m A h7 h8 h9
  · rw [rsN_g _ _ _ (by omega) (by omega) (by omega) (by omega) (by omega)]
    exact hG k hk
theorem bgG_k (g : mG) (A : mA) {k : Nat} (hk : k = 4 ∨ k = 7 ∨ k = 24) : bgG g A k = g k := by
  rcases hk with rfl | rfl | rfl <;> rfl
theorem IV_sg {g : mG} {A x a : mA} {f : mF} (m w T : Nat) (act : Int32) (h : IV g A x a f) : IV (sgN m act T (bgG g A, opN w m (bgN m A))).1 (sgN m act T (bgG g A, opN w m (bgN m A))).2 x a f := by
  refine IV_md (fun k h7 h8 h9 => ?_) (fun k hk => ?_) h
  · rw [sgN_A _ _ _ _ h7 h9]
    show opN w m (bgN m A) k = A k
    rw [opN_n _ _ _ h7 h8]
    exact bgN_n m A h7 h8 h9
  · rw [sgN_g _ _ _ _ (by omega) (by omega) (by omega) (by omega) (by omega)]
    exact bgG_k g A hk
theorem p_counts : P_counts IV 40 := by
  intro p1 g A x a f h
  obtain ⟨m, hm, em, exm⟩ := IV_m h
  obtain ⟨ns, hn, en, exn⟩ := IV_ns h
  by_cases c0 : 0 ≤ p1 ∧ p1 < nI m
  · obtain ⟨j, hj, rfl⟩ := ix_of (m := m) (by omega) c0
    have k0 : 0 ≤ nI j ∧ nI j < x 17 5 := by rw [exm]; exact c0
    have k2 : 0 ≤ nI j ∧ nI j < A 2 3 := by rw [em]; exact c0
    have hR := x_ride h em hm en hn hj (G := bgG g A) rfl rfl 35 (mbl g A) (x 42) (x 41) (-9)
    rw [rX] at hR
    refine pr_w (r := (rsN m ns (bgG g A, bgN m A)).2 9 j) (x' := mS (mS x 42 (rdN x a ns (bgQ x f j (-9) (x 41))).1) 41 (rdN x a ns (bgQ x f j (-9) (x 41))).2) (a' := a) (f' := f) (g' := (rsN m ns (bgG g A, bgN m A)).1) (A' := (rsN m ns (bgG g A, bgN m A)).2) ?_ (fun xs => ?_) (IV_wr (IV_rs m ns h) _ _)
    · refine ab_meth oX4_counts 39 _ _ _ _ (Nat.le_refl _) rfl (fun E => ?_)
      refine ab_run [] 100 oX4_counts.1 (Nat.le_refl _) 0 ?_
      refine ⟨_, _, x_isFault _ _ x a f _, Nat.le_refl _, ?_⟩
      refine br_n (fun c => ?_) (fun c => absurd k0 c)
      refine ⟨vp_in_nI (by omega) (by omega), ⟨(20, j), by rw [nI_clamp (by omega)]; exact ab_fa_at 20 (by omega), ?_⟩⟩
      exact ⟨_, _, hR, Nat.le_refl _, rfl, rfl⟩
    · refine ab_meth oX5_counts 39 _ _ _ _ (Nat.le_refl _) rfl (fun E => ?_)
      refine ab_run [] 100 oX5_counts.1 (Nat.le_refl _) 0 ?_
      refine ⟨_, _, m_isFault _ g A xs _, Nat.le_refl _, ?_⟩
      refine br_n (fun c => ?_) (fun c => absurd k2 c)
      refine ⟨_, _, m_counted h em hm en hn 32 xs, Nat.le_refl _, ?_⟩
      refine ⟨(vp_in_nI (by omega) (by omega) : vp_in (nI j) 8), ?_⟩
      rw [nI_clamp (by omega)]
      exact ⟨rfl, rfl⟩
  · have k0 : ¬ (0 ≤ p1 ∧ p1 < x 17 5) := by rw [exm]; exact c0
    have k2 : ¬ (0 ≤ p1 ∧ p1 < A 2 3) := by rw [em]; exact c0
    refine pr_rf h rc1 ?_ (fun xs => ?_)
    · refine ab_meth oX4_counts 39 _ _ _ _ (Nat.le_refl _) rfl (fun E => ?_)
      refine ab_run [] 100 oX4_counts.1 (Nat.le_refl _) 0 ?_
      refine ⟨_, _, x_isFault _ _ x a f _, Nat.le_refl _, ?_⟩
      refine br_n (fun c => absurd c k0) (fun c => ?_)
      exact ⟨_, _, x_rf _ _ x a f rc1, Nat.le_refl _, rfl, rfl⟩
    · refine ab_meth oX5_counts 39 _ _ _ _ (Nat.le_refl _) rfl (fun E => ?_)
      refine ab_run [] 100 oX5_counts.1 (Nat.le_refl _) 0 ?_
      refine ⟨_, _, m_isFault _ g A xs _, Nat.le_refl _, ?_⟩
      refine br_n (fun c => absurd c k2) (fun c => ?_)
      exact ⟨_, _, m_rf _ g A xs rc1, Nat.le_refl _, rfl, rfl⟩
theorem p_stageCounts : P_stageCounts IV 40 := by
  intro p1 p2 p3 p4 g A x a f h
  obtain ⟨m, hm, em, exm⟩ := IV_m h
  obtain ⟨ng, hng, eg, exg⟩ := IV_ng h
  have z1 : (1 : Int32).toInt = 1 := rfl
  have z60 : (60 : Int32).toInt = 60 := rfl
  have z6 : (6 : Int32).toInt = 6 := rfl
  have z0 : (0 : Int32).toInt = 0 := rfl
  by_cases c0 : (0 ≤ p1 ∧ p1 < nI m) ∧ (0 ≤ p2 ∧ p2 < 6) ∧ (0 ≤ p3 ∧ p3 < nI ng)
  · obtain ⟨j, hj, rfl⟩ := ix_of (m := m) (by omega) c0.1
    obtain ⟨w, hw5, rfl⟩ := ix_of (m := ng) (by omega) c0.2.2
    have k0 : 0 ≤ nI j ∧ nI j < x 17 5 := by rw [exm]; exact c0.1
    have k2 : 0 ≤ nI j ∧ nI j < A 2 3 := by rw [em]; exact c0.1
    have k1 : 0 ≤ nI w ∧ nI w < x 17 3 := by rw [exg]; exact c0.2.2
    have k3 : 0 ≤ nI w ∧ nI w < A 2 2 := by rw [eg]; exact c0.2.2
    by_cases c1 : p4 < 1
    · refine pr_rf h rc4 ?_ (fun xs => ?_)
      · refine ab_meth oX4_stageCounts 39 _ _ _ _ (Nat.le_refl _) rfl (fun E => ?_)
        refine ab_run [] 100 oX4_stageCounts.1 (Nat.le_refl _) 0 ?_
        refine ⟨_, _, x_isFault _ _ x a f _, Nat.le_refl _, ?_⟩
        refine br_z (fun c => absurd k0 c) (fun c => ?_)
        refine ⟨_, _, x_isAct _ _ (Nat.le_refl _) _, Nat.le_refl _, ?_⟩
        refine br_z (fun c => absurd c0.2.1 c) (fun c => ?_)
        refine ⟨_, _, x_isGear _ _ x a f _, Nat.le_refl _, ?_⟩
        refine br_n (fun c => ?_) (fun c => absurd k1 c)
        refine ⟨fun c => absurd c1 (le_nlt c), fun c => ?_⟩
        exact ⟨_, _, x_rf _ _ x a f rc4, Nat.le_refl _, rfl, rfl⟩
      · refine ab_meth oX5_stageCounts 39 _ _ _ _ (Nat.le_refl _) rfl (fun E => ?_)
        refine ab_run [] 100 oX5_stageCounts.1 (Nat.le_refl _) 0 ?_
        refine ⟨_, _, m_isFault _ g A xs _, Nat.le_refl _, ?_⟩
        refine br_z (fun c => absurd k2 c) (fun c => ?_)
        refine ⟨_, _, m_isAct _ _ (Nat.le_refl _) _, Nat.le_refl _, ?_⟩
        refine br_z (fun c => absurd c0.2.1 c) (fun c => ?_)
        refine ⟨_, _, m_isGear _ g A xs _, Nat.le_refl _, ?_⟩
        refine br_z (fun c => absurd k3 c) (fun c => ?_)
        refine ⟨_, _, m_within _ _ (Nat.le_refl _) _ _ _, Nat.le_refl _, ?_⟩
        rw [show withI p4 1 60 = -4 from if_pos c1]
        refine ⟨fun c => absurd c (by decide), fun c => ?_⟩
        exact ⟨_, _, m_rf _ g A xs rc4, Nat.le_refl _, rfl, rfl⟩
    by_cases c2 : 60 < p4
    · refine pr_rf h rc6 ?_ (fun xs => ?_)
      · refine ab_meth oX4_stageCounts 39 _ _ _ _ (Nat.le_refl _) rfl (fun E => ?_)
        refine ab_run [] 100 oX4_stageCounts.1 (Nat.le_refl _) 0 ?_
        refine ⟨_, _, x_isFault _ _ x a f _, Nat.le_refl _, ?_⟩
        refine br_z (fun c => absurd k0 c) (fun c => ?_)
        refine ⟨_, _, x_isAct _ _ (Nat.le_refl _) _, Nat.le_refl _, ?_⟩
        refine br_z (fun c => absurd c0.2.1 c) (fun c => ?_)
        refine ⟨_, _, x_isGear _ _ x a f _, Nat.le_refl _, ?_⟩
        refine br_n (fun c => ?_) (fun c => absurd k1 c)
        refine ⟨fun c => ?_, fun c => absurd (nlt_le c1) c⟩
        refine ⟨fun c => absurd c2 (le_nlt c), fun c => ?_⟩
        exact ⟨_, _, x_rf _ _ x a f rc6, Nat.le_refl _, rfl, rfl⟩
      · refine ab_meth oX5_stageCounts 39 _ _ _ _ (Nat.le_refl _) rfl (fun E => ?_)
        refine ab_run [] 100 oX5_stageCounts.1 (Nat.le_refl _) 0 ?_
        refine ⟨_, _, m_isFault _ g A xs _, Nat.le_refl _, ?_⟩
        refine br_z (fun c => absurd k2 c) (fun c => ?_)
        refine ⟨_, _, m_isAct _ _ (Nat.le_refl _) _, Nat.le_refl _, ?_⟩
        refine br_z (fun c => absurd c0.2.1 c) (fun c => ?_)
        refine ⟨_, _, m_isGear _ g A xs _, Nat.le_refl _, ?_⟩
        refine br_z (fun c => absurd k3 c) (fun c => ?_)
        refine ⟨_, _, m_within _ _ (Nat.le_refl _) _ _ _, Nat.le_refl _, ?_⟩
        rw [show withI p4 1 60 = -6 from (if_neg c1).trans (if_pos c2)]
        refine ⟨fun c => absurd c (by decide), fun c => ?_⟩
        exact ⟨_, _, m_rf _ g A xs rc6, Nat.le_refl _, rfl, rfl⟩
    have q1 := Int32.le_iff_toInt_le.mp (nlt_le c1)
    have q2 := Int32.le_iff_toInt_le.mp (nlt_le c2)
    have cl := ti_clamp (x := p4) (by omega)
    obtain ⟨T, hT1, hT60, rfl⟩ : ∃ T : Nat, 1 ≤ T ∧ T ≤ 60 ∧ p4 = nI T := ⟨p4.toNatClampNeg, by omega, by omega, ti_nat (by omega)⟩
    have a1 := Int32.le_iff_toInt_le.mp c0.2.1.1
    have a2 := Int32.lt_iff_toInt_lt.mp c0.2.1.2
    have hgw : (w : Int) < (A 2 2).toInt := by rw [eg, nI_toInt (by omega)]; omega
    have hR := x_cis h em hm hj (w := w) (T := T) (by omega) hgw hT60 (act := p2) (by omega) (by omega) 35 (mbl g A) (x 42) (x 41)
    rw [rX] at hR
    refine pr_w (r := (sgN m p2 T (bgG g A, opN w m (bgN m A))).2 9 j) (x' := mS (mS x 42 (stX x a p2 (nI w) T (bgQ x f j (-9) (x 41))).1) 41 (stX x a p2 (nI w) T (bgQ x f j (-9) (x 41))).2) (a' := a) (f' := f) (g' := (sgN m p2 T (bgG g A, opN w m (bgN m A))).1) (A' := (sgN m p2 T (bgG g A, opN w m (bgN m A))).2) ?_ (fun xs => ?_) (IV_wr (IV_sg m w T p2 h) _ _)
    · refine ab_meth oX4_stageCounts 39 _ _ _ _ (Nat.le_refl _) rfl (fun E => ?_)
      refine ab_run [] 100 oX4_stageCounts.1 (Nat.le_refl _) 0 ?_
      refine ⟨_, _, x_isFault _ _ x a f _, Nat.le_refl _, ?_⟩
      refine br_z (fun c => absurd k0 c) (fun c => ?_)
      refine ⟨_, _, x_isAct _ _ (Nat.le_refl _) _, Nat.le_refl _, ?_⟩
      refine br_z (fun c => absurd c0.2.1 c) (fun c => ?_)
      refine ⟨_, _, x_isGear _ _ x a f _, Nat.le_refl _, ?_⟩
      refine br_n (fun c => ?_) (fun c => absurd k1 c)
      refine ⟨fun c => ?_, fun c => absurd (nlt_le c1) c⟩
      refine ⟨fun c => ?_, fun c => absurd (nlt_le c2) c⟩
      exact ⟨_, _, hR, Nat.le_refl _, rfl, rfl⟩
    · refine ab_meth oX5_stageCounts 39 _ _ _ _ (Nat.le_refl _) rfl (fun E => ?_)
      refine ab_run [] 100 oX5_stageCounts.1 (Nat.le_refl _) 0 ?_
      refine ⟨_, _, m_isFault _ g A xs _, Nat.le_refl _, ?_⟩
      refine br_z (fun c => absurd k2 c) (fun c => ?_)
      refine ⟨_, _, m_isAct _ _ (Nat.le_refl _) _, Nat.le_refl _, ?_⟩
      refine br_z (fun c => absurd c0.2.1 c) (fun c => ?_)
      refine ⟨_, _, m_isGear _ g A xs _, Nat.le_refl _, ?_⟩
      refine br_z (fun c => absurd k3 c) (fun c => ?_)
      refine ⟨_, _, m_within _ _ (Nat.le_refl _) _ _ _, Nat.le_refl _, ?_⟩
      rw [show withI (nI T) 1 60 = 0 from (if_neg c1).trans (if_neg c2)]
      refine ⟨fun c => ?_, fun c => absurd rfl c⟩
      refine ⟨_, _, m_stageAlone h em hm (by omega) hgw hT60 p2 33 xs, Nat.le_refl _, ?_⟩
      refine ⟨(vp_in_nI (by omega) (by omega) : vp_in (nI j) 8), ?_⟩
      rw [nI_clamp (by omega)]
      exact ⟨rfl, rfl⟩
  · refine pr_rf h rc1 ?_ (fun xs => ?_)
    · refine ab_meth oX4_stageCounts 39 _ _ _ _ (Nat.le_refl _) rfl (fun E => ?_)
      refine ab_run [] 100 oX4_stageCounts.1 (Nat.le_refl _) 0 ?_
      refine ⟨_, _, x_isFault _ _ x a f _, Nat.le_refl _, ?_⟩
      refine br_z (fun _ => ⟨_, _, x_rf _ _ x a f rc1, Nat.le_refl _, rfl, rfl⟩) (fun b1 => ?_)
      refine ⟨_, _, x_isAct _ _ (Nat.le_refl _) _, Nat.le_refl _, ?_⟩
      refine br_z (fun _ => ⟨_, _, x_rf _ _ x a f rc1, Nat.le_refl _, rfl, rfl⟩) (fun b2 => ?_)
      refine ⟨_, _, x_isGear _ _ x a f _, Nat.le_refl _, ?_⟩
      refine br_n (fun b3 => ?_) (fun _ => ⟨_, _, x_rf _ _ x a f rc1, Nat.le_refl _, rfl, rfl⟩)
      rw [exm] at b1
      rw [exg] at b3
      exact absurd ⟨b1, b2, b3⟩ c0
    · refine ab_meth oX5_stageCounts 39 _ _ _ _ (Nat.le_refl _) rfl (fun E => ?_)
      refine ab_run [] 100 oX5_stageCounts.1 (Nat.le_refl _) 0 ?_
      have fin : (¬ (-1 : Int32) = 0) := by decide
      refine ⟨_, _, m_isFault _ g A xs _, Nat.le_refl _, ?_⟩
      refine br_z (fun _ => ⟨fun q => absurd q fin, fun _ => ⟨_, _, m_rf _ g A xs rc1, Nat.le_refl _, rfl, rfl⟩⟩) (fun b1 => ?_)
      refine ⟨_, _, m_isAct _ _ (Nat.le_refl _) _, Nat.le_refl _, ?_⟩
      refine br_z (fun _ => ⟨fun q => absurd q fin, fun _ => ⟨_, _, m_rf _ g A xs rc1, Nat.le_refl _, rfl, rfl⟩⟩) (fun b2 => ?_)
      refine ⟨_, _, m_isGear _ g A xs _, Nat.le_refl _, ?_⟩
      refine br_z (fun _ => ⟨fun q => absurd q fin, fun _ => ⟨_, _, m_rf _ g A xs rc1, Nat.le_refl _, rfl, rfl⟩⟩) (fun b3 => ?_)
      rw [em] at b1
      rw [eg] at b3
      exact absurd ⟨b1, b2, b3⟩ c0
theorem p_when : P_when IV 40 := by
  intro p1 p2 g A x a f h
  obtain ⟨m, hm, em, exm⟩ := IV_m h
  obtain ⟨ns, hn, en, exn⟩ := IV_ns h
  by_cases c0 : 0 ≤ p1 ∧ p1 < nI m
  · obtain ⟨j, hj, rfl⟩ := ix_of (m := m) (by omega) c0
    have k0 : 0 ≤ nI j ∧ nI j < x 17 5 := by rw [exm]; exact c0
    have k2 : 0 ≤ nI j ∧ nI j < A 2 3 := by rw [em]; exact c0
    by_cases c1 : p2 < 0
    · refine pr_rf h rc4 ?_ (fun xs => ?_)
      · refine ab_meth oX4_when 39 _ _ _ _ (Nat.le_refl _) rfl (fun E => ?_)
        refine ab_run [] 100 oX4_when.1 (Nat.le_refl _) 0 ?_
        refine ⟨_, _, x_isFault _ _ x a f _, Nat.le_refl _, ?_⟩
        refine br_n (fun c => ?_) (fun c => absurd k0 c)
        refine ⟨fun c => absurd c1 (le_nlt c), fun c => ?_⟩
        exact ⟨_, _, x_rf _ _ x a f rc4, Nat.le_refl _, rfl, rfl⟩
      · refine ab_meth oX5_when 39 _ _ _ _ (Nat.le_refl _) rfl (fun E => ?_)
        refine ab_run [] 100 oX5_when.1 (Nat.le_refl _) 0 ?_
        refine ⟨_, _, m_isFault _ g A xs _, Nat.le_refl _, ?_⟩
        refine br_n (fun c => ?_) (fun c => absurd k2 c)
        refine ⟨fun c => absurd c1 (le_nlt c), fun c => ?_⟩
        exact ⟨_, _, m_rf _ g A xs rc4, Nat.le_refl _, rfl, rfl⟩
    have e2 : bgN m A 2 = A 2 := bgN_n m A (by decide) (by decide) (by decide)
    have hN := (ride_RN h em hm en hn hj (G := (upd (upd (bgG g A) 17 (nI j)) 18 p2)) rfl rfl p2 (x 41) ns (Nat.le_refl _)).2.2.2.2.2 rfl rfl rfl
    have hR := x_ride h em hm en hn hj (G := (upd (upd (bgG g A) 17 (nI j)) 18 p2)) rfl rfl 35 (mbl g A) (x 42) (x 41) p2
    rw [rX] at hR
    refine pr_w (r := (rsN m ns ((upd (upd (bgG g A) 17 (nI j)) 18 p2), bgN m A)).1 19) (x' := mS (mS x 42 (rdN x a ns (bgQ x f j p2 (x 41))).1) 41 (rdN x a ns (bgQ x f j p2 (x 41))).2) (a' := a) (f' := f) (g' := (rsN m ns ((upd (upd (bgG g A) 17 (nI j)) 18 p2), bgN m A)).1) (A' := (rsN m ns ((upd (upd (bgG g A) 17 (nI j)) 18 p2), bgN m A)).2) (ex_r (r := (rdN x a ns (bgQ x f j p2 (x 41))).2 7) ?_ hN) (fun xs => ?_) (IV_wr (IV_rsG m ns (fun k hk => by rcases hk with rfl | rfl | rfl <;> rfl) h) _ _)
    · refine ab_meth oX4_when 39 _ _ _ _ (Nat.le_refl _) rfl (fun E => ?_)
      refine ab_run [] 100 oX4_when.1 (Nat.le_refl _) 0 ?_
      refine ⟨_, _, x_isFault _ _ x a f _, Nat.le_refl _, ?_⟩
      refine br_n (fun c => ?_) (fun c => absurd k0 c)
      refine ⟨fun c => ?_, fun c => absurd (nlt_le c1) c⟩
      refine ⟨vp_in_nI (by omega) (by omega), ⟨(20, j), by rw [nI_clamp (by omega)]; exact ab_fa_at 20 (by omega), ?_⟩⟩
      refine ⟨_, _, hR, Nat.le_refl _, ?_⟩
      exact ⟨rfl, rfl⟩
    · refine ab_meth oX5_when 39 _ _ _ _ (Nat.le_refl _) rfl (fun E => ?_)
      refine ab_run [] 100 oX5_when.1 (Nat.le_refl _) 0 ?_
      refine ⟨_, _, m_isFault _ g A xs _, Nat.le_refl _, ?_⟩
      refine br_n (fun c => ?_) (fun c => absurd k2 c)
      refine ⟨fun c => ?_, fun c => absurd (nlt_le c1) c⟩
      refine ⟨_, _, m_begins 37 xs g A em hm, Nat.le_refl _, ?_⟩
      refine ⟨_, _, m_rides 33 xs (upd (upd (bgG g A) 17 (nI j)) 18 p2) (bgN m A) (m := m) (ns := ns) (by rw [e2]; exact em) hm (by rw [e2]; exact en) hn (bgN_8 h em hm) (by rw [e2]; exact SOK_of e2 h.2.2.2.2.1 em hm en hn), Nat.le_refl _, ?_⟩
      exact ⟨rfl, rfl⟩
  · have k0 : ¬ (0 ≤ p1 ∧ p1 < x 17 5) := by rw [exm]; exact c0
    have k2 : ¬ (0 ≤ p1 ∧ p1 < A 2 3) := by rw [em]; exact c0
    refine pr_rf h rc1 ?_ (fun xs => ?_)
    · refine ab_meth oX4_when 39 _ _ _ _ (Nat.le_refl _) rfl (fun E => ?_)
      refine ab_run [] 100 oX4_when.1 (Nat.le_refl _) 0 ?_
      refine ⟨_, _, x_isFault _ _ x a f _, Nat.le_refl _, ?_⟩
      refine br_n (fun c => absurd c k0) (fun c => ?_)
      exact ⟨_, _, x_rf _ _ x a f rc1, Nat.le_refl _, rfl, rfl⟩
    · refine ab_meth oX5_when 39 _ _ _ _ (Nat.le_refl _) rfl (fun E => ?_)
      refine ab_run [] 100 oX5_when.1 (Nat.le_refl _) 0 ?_
      refine ⟨_, _, m_isFault _ g A xs _, Nat.le_refl _, ?_⟩
      refine br_n (fun c => absurd c k2) (fun c => ?_)
      exact ⟨_, _, m_rf _ g A xs rc1, Nat.le_refl _, rfl, rfl⟩
