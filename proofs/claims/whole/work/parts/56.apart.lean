noncomputable def cvU (x a : mA) (f : mF) (T i : Nat) : Nat → Nat → Int32 := fun act w => cvV x a f (nI act) w T i
theorem x_cisV {g : mG} {A x a : mA} {f : mF} (h : IV g A x a f) {m ng j w T act : Nat} (em : A 2 3 = nI m) (hm : m ≤ 8) (eg : A 2 2 = nI ng) (hng : ng ≤ 5) (hj : j < m) (hw : w < ng) (hT : T ≤ 60) (ha : act < 4) (d : Nat) (mb : Nat → AB) (u r : Nat → Int32) : ∃ u' r' : Nat → Int32, ab_Ex (d + 4) 0 yX4_clicksInStage [vR 13 0, vI (nI j), vI (nI act), vI (nI w), vI (nI T)] (hX mb (mS (mS x 42 u) 41 r) a f) (some (vI (cvU x a f T j act w))) (hX mb (mS (mS x 42 u') 41 r') a f) := by
  have hg : (w : Int) < (A 2 2).toInt := by rw [eg, nI_toInt (by omega)]; omega
  have hr := act_rng ha
  exact ⟨_, _, ex_r (x_cis h em hm hj (by omega) hg hT hr.1 hr.2 d mb u r) (cis_val h em hm hj (by omega) hg hT hr.1 hr.2)⟩
theorem sg_2 {G : mG} {B : mA} {m w T : Nat} {act : Int32} : (sgN m act T (bgG G B, opN w m (bgN m B))).2 2 = B 2 := by
  rw [sgN_A _ _ _ _ (by decide) (by decide)]
  show opN w m (bgN m B) 2 = B 2
  rw [opN_n _ _ _ (by decide) (by decide)]
  exact bgN_n m B (by decide) (by decide) (by decide)
def apI (u v : Nat → Nat → Int32) (act : Nat) (nx : Int32) : Nat → Nat → Int32
  | 0, _ => nx
  | k + 1, w => if u act w = v act w then apI u v act nx k (w + 1) else 10 * nI act + nI w
def apO (u v : Nat → Nat → Int32) (ng : Nat) : Nat → Nat → Int32
  | 0, _ => -9
  | k + 1, act => apI u v act (apO u v ng k (act + 1)) ng 0
set_option maxRecDepth 100000 in
theorem x_apart {g : mG} {A x a : mA} {f : mF} (h : IV g A x a f) {m ng i j : Nat} (em : A 2 3 = nI m) (hm : m ≤ 8) (eg : A 2 2 = nI ng) (hng : ng ≤ 5) (hi : i < m) (hj : j < m) (d : Nat) (mb : Nat → AB) (h0 : AH) (R : Int32) : ∀ (k act : Nat) (u r : Nat → Int32), act + k = 4 → R = apO (cvU x a f 20 i) (cvU x a f 20 j) ng k act → ∃ u' r' : Nat → Int32, ∀ E, ab_W jX4_apart (d + 4) E h0 70 (fun v1 h1 => v1 = some (vI R) ∧ h1 = hX mb (mS (mS x 42 u') 41 r') a f) (ab_at iX4_apart 17) [(3, vI (nI act)), (0, vR 13 0), (1, vI (nI i)), (2, vI (nI j))] [] (hX mb (mS (mS x 42 u) 41 r) a f) := by
  have exg : x 17 3 = nI ng := by rw [← h.2.2.2.2.2.1.1.2.2.1]; exact eg
  intro k
  induction k with
  | zero =>
    intro act u r ha hR
    refine ⟨u, r, fun E => ?_⟩
    refine ab_run [17, 25] 100 oX4_apart.1 (Nat.le_refl _) 17 ?_
    refine ⟨fun c1 => ?_, fun c1 => absurd (show nI 4 ≤ nI act from nI_le (by omega) (by omega)) c1⟩
    have hR : R = -9 := hR
    rw [hR]
    exact ⟨rfl, rfl⟩
  | succ k ih =>
    intro act u r ha hR
    have inner : ∀ (l w : Nat) (u r : Nat → Int32), w + l = ng → R = apI (cvU x a f 20 i) (cvU x a f 20 j) act (apO (cvU x a f 20 i) (cvU x a f 20 j) ng k (act + 1)) l w → ∃ u' r' : Nat → Int32, ∀ E, ab_W jX4_apart (d + 4) E h0 70 (fun v1 h1 => v1 = some (vI R) ∧ h1 = hX mb (mS (mS x 42 u') 41 r') a f) (ab_at iX4_apart 25) [(4, vI (nI w)), (3, vI (nI act)), (0, vR 13 0), (1, vI (nI i)), (2, vI (nI j))] [] (hX mb (mS (mS x 42 u) 41 r) a f) := by
      intro l
      induction l with
      | zero =>
        intro w u r hw hR
        obtain ⟨u', r', hW⟩ := ih (act + 1) u r (by omega) hR
        refine ⟨u', r', fun E => ?_⟩
        refine ab_run [17, 25] 100 oX4_apart.1 (Nat.le_refl _) 25 ?_
        refine ⟨fun c1 => ?_, fun (c1 : ¬ x 17 3 ≤ nI w) => ?_⟩
        · have h9 := hW E
          rw [nI_succ] at h9
          exact ab_W_lv (lv_pk [0, 2, 3, 4] rfl) h9
        · rw [exg] at c1
          exact absurd (nI_le (by omega) (by omega)) c1
      | succ l ihl =>
        intro w u r hw hR
        obtain ⟨u1, r1, e1⟩ := x_cisV h em hm eg hng hi (w := w) (T := 20) (act := act) (by omega) (by omega) (by omega) d mb u r
        obtain ⟨u2, r2, e2⟩ := x_cisV h em hm eg hng hj (w := w) (T := 20) (act := act) (by omega) (by omega) (by omega) d mb u1 r1
        by_cases c2 : cvU x a f 20 i act w = cvU x a f 20 j act w
        · obtain ⟨u', r', hW⟩ := ihl (w + 1) u2 r2 (by omega) (by rw [hR]; exact if_pos c2)
          refine ⟨u', r', fun E => ?_⟩
          refine ab_run [17, 25] 100 oX4_apart.1 (Nat.le_refl _) 25 ?_
          refine ⟨fun (c1 : x 17 3 ≤ nI w) => ?_, fun c1 => ?_⟩
          · rw [exg] at c1
            exact absurd c1 (nI_lt_m (by omega) (by omega))
          refine ⟨_, _, e1, Nat.le_refl _, _, _, e2, Nat.le_refl _, fun c3 => ?_, fun c3 => absurd c2 c3⟩
          have h9 := hW E
          rw [nI_succ] at h9
          exact ab_W_lv (lv_pk [0, 2, 3, 4, 5] rfl) h9
        · have hR : R = 10 * nI act + nI w := by rw [hR]; exact if_neg c2
          refine ⟨u2, r2, fun E => ?_⟩
          refine ab_run [17, 25] 100 oX4_apart.1 (Nat.le_refl _) 25 ?_
          refine ⟨fun (c1 : x 17 3 ≤ nI w) => ?_, fun c1 => ?_⟩
          · rw [exg] at c1
            exact absurd c1 (nI_lt_m (by omega) (by omega))
          refine ⟨_, _, e1, Nat.le_refl _, _, _, e2, Nat.le_refl _, fun c3 => absurd c3 c2, fun c3 => ?_⟩
          rw [hR]
          exact ⟨rfl, rfl⟩
    obtain ⟨u', r', hW⟩ := inner ng 0 u r (by omega) hR
    refine ⟨u', r', fun E => ?_⟩
    refine ab_run [17, 25] 100 oX4_apart.1 (Nat.le_refl _) 17 ?_
    refine ⟨fun c1 => absurd c1 (nI_ge (a := act) (b := 4) (by omega) (by omega)), fun c1 => ?_⟩
    exact hW E
set_option maxRecDepth 100000 in
theorem m_apart {g : mG} {A x a : mA} {f : mF} (s : Nat → Int32) {m ng i j : Nat} (em : s 3 = nI m) (hm : m ≤ 8) (eg : s 2 = nI ng) (hng : ng ≤ 5) (hi : i < m) (hj : j < m) (d : Nat) (R : Int32) : ∀ (k act : Nat) (G : mG) (B : mA), act + k = 4 → R = apO (cvU x a f 20 i) (cvU x a f 20 j) ng k act → IV G B x a f → B 2 = s → ∃ (G' : mG) (B' : mA), IV G' B' x a f ∧ ∀ xs E, ab_W jX5_apart (d + 6) E (hM g A xs) 70 (fun v1 h1 => v1 = some (vI R) ∧ h1 = hM G' B' xs) (ab_at iX5_apart 17) [(3, vI (nI act)), (0, vR 0 0), (1, vI (nI i)), (2, vI (nI j))] [] (hM G B xs) := by
  intro k
  induction k with
  | zero =>
    intro act G B ha hR hI hB
    refine ⟨G, B, hI, fun xs E => ?_⟩
    refine ab_run [17, 25] 100 oX5_apart.1 (Nat.le_refl _) 17 ?_
    refine ⟨fun c1 => ?_, fun c1 => absurd (show nI 4 ≤ nI act from nI_le (by omega) (by omega)) c1⟩
    have hR : R = -9 := hR
    rw [hR]
    exact ⟨rfl, rfl⟩
  | succ k ih =>
    intro act G B ha hR hI hB
    have inner : ∀ (l w : Nat) (G : mG) (B : mA), w + l = ng → R = apI (cvU x a f 20 i) (cvU x a f 20 j) act (apO (cvU x a f 20 i) (cvU x a f 20 j) ng k (act + 1)) l w → IV G B x a f → B 2 = s → ∃ (G' : mG) (B' : mA), IV G' B' x a f ∧ ∀ xs E, ab_W jX5_apart (d + 6) E (hM g A xs) 70 (fun v1 h1 => v1 = some (vI R) ∧ h1 = hM G' B' xs) (ab_at iX5_apart 25) [(4, vI (nI w)), (3, vI (nI act)), (0, vR 0 0), (1, vI (nI i)), (2, vI (nI j))] [] (hM G B xs) := by
      intro l
      induction l with
      | zero =>
        intro w G B hw hR hI hB
        obtain ⟨G', B', hI', hW⟩ := ih (act + 1) G B (by omega) hR hI hB
        refine ⟨G', B', hI', fun xs E => ?_⟩
        refine ab_run [17, 25] 100 oX5_apart.1 (Nat.le_refl _) 25 ?_
        refine ⟨vp_d rfl, fun c1 => ?_, fun (c1 : ¬ B 2 2 ≤ nI w) => ?_⟩
        · have h9 := hW xs E
          rw [nI_succ] at h9
          exact ab_W_lv (lv_pk [0, 2, 3, 4] rfl) h9
        · rw [hB, eg] at c1
          exact absurd (nI_le (by omega) (by omega)) c1
      | succ l ihl =>
        intro w G B hw hR hI hB
        have emB : B 2 3 = nI m := by rw [hB]; exact em
        have hgB : (w : Int) < (B 2 2).toInt := by rw [hB, eg, nI_toInt (by omega)]; omega
        have hr := act_rng (k := act) (by omega)
        have hS := fun xs => m_stageAlone hI emB hm (w := w) (T := 20) (by omega) hgB (by omega) (nI act) d xs
        have hI2 := IV_sg m w 20 (nI act) hI
        have hB2 : (sgN m (nI act) 20 (bgG G B, opN w m (bgN m B))).2 2 = s := sg_2.trans hB
        have v1 := cis_val hI emB hm hi (w := w) (T := 20) (by omega) hgB (by omega) hr.1 hr.2
        have v2 := cis_val hI emB hm hj (w := w) (T := 20) (by omega) hgB (by omega) hr.1 hr.2
        generalize sgN m (nI act) 20 (bgG G B, opN w m (bgN m B)) = Q at hS hI2 hB2 v1 v2
        by_cases c2 : cvU x a f 20 i act w = cvU x a f 20 j act w
        · obtain ⟨G', B', hI', hW⟩ := ihl (w + 1) Q.1 Q.2 (by omega) (by rw [hR]; exact if_pos c2) hI2 hB2
          refine ⟨G', B', hI', fun xs E => ?_⟩
          refine ab_run [17, 25] 100 oX5_apart.1 (Nat.le_refl _) 25 ?_
          refine ⟨vp_d rfl, fun (c1 : B 2 2 ≤ nI w) => ?_, fun c1 => ?_⟩
          · rw [hB, eg] at c1
            exact absurd c1 (nI_lt_m (by omega) (by omega))
          refine ⟨_, _, hS xs, Nat.le_refl _, (vp_in_nI (by omega) (by omega) : vp_in (nI i) 8), (vp_in_nI (by omega) (by omega) : vp_in (nI j) 8), ?_⟩
          rw [nI_clamp (by omega), nI_clamp (by omega)]
          refine ⟨fun c3 => ?_, fun (c3 : ¬ Q.2 9 i = Q.2 9 j) => absurd (v1.trans (Eq.trans c2 v2.symm)) c3⟩
          have h9 := hW xs E
          rw [nI_succ] at h9
          exact h9
        · have hR : R = 10 * nI act + nI w := by rw [hR]; exact if_neg c2
          refine ⟨Q.1, Q.2, hI2, fun xs E => ?_⟩
          refine ab_run [17, 25] 100 oX5_apart.1 (Nat.le_refl _) 25 ?_
          refine ⟨vp_d rfl, fun (c1 : B 2 2 ≤ nI w) => ?_, fun c1 => ?_⟩
          · rw [hB, eg] at c1
            exact absurd c1 (nI_lt_m (by omega) (by omega))
          refine ⟨_, _, hS xs, Nat.le_refl _, (vp_in_nI (by omega) (by omega) : vp_in (nI i) 8), (vp_in_nI (by omega) (by omega) : vp_in (nI j) 8), ?_⟩
          rw [nI_clamp (by omega), nI_clamp (by omega)]
          refine ⟨fun (c3 : Q.2 9 i = Q.2 9 j) => absurd (v1.symm.trans (Eq.trans c3 v2)) c2, fun c3 => ?_⟩
          rw [hR]
          exact ⟨rfl, rfl⟩
    obtain ⟨G', B', hI', hW⟩ := inner ng 0 G B (by omega) hR hI hB
    refine ⟨G', B', hI', fun xs E => ?_⟩
    refine ab_run [17, 25] 100 oX5_apart.1 (Nat.le_refl _) 17 ?_
    refine ⟨fun c1 => absurd c1 (nI_ge (a := act) (b := 4) (by omega) (by omega)), fun c1 => ?_⟩
    exact hW xs E
theorem p_apart : P_apart IV 40 := by
  intro p1 p2 g A x a f h
  obtain ⟨m, hm, em, exm⟩ := IV_m h
  obtain ⟨ng, hng, eg, exg⟩ := IV_ng h
  by_cases c0 : (0 ≤ p1 ∧ p1 < nI m) ∧ (0 ≤ p2 ∧ p2 < nI m) ∧ ¬ p1 = p2
  · have k0 : (0 ≤ p1 ∧ p1 < x 17 5) ∧ (0 ≤ p2 ∧ p2 < x 17 5) ∧ ¬ p1 = p2 := by rw [exm]; exact c0
    have k2 : (0 ≤ p1 ∧ p1 < A 2 3) ∧ (0 ≤ p2 ∧ p2 < A 2 3) ∧ ¬ p1 = p2 := by rw [em]; exact c0
    obtain ⟨i, hi, rfl⟩ := ix_of (m := m) (by omega) c0.1
    obtain ⟨j, hj, rfl⟩ := ix_of (m := m) (by omega) c0.2.1
    obtain ⟨R, hR⟩ : ∃ R : Int32, R = apO (cvU x a f 20 i) (cvU x a f 20 j) ng 4 0 := ⟨_, rfl⟩
    obtain ⟨u', r', hX⟩ := x_apart h em hm eg hng hi hj 35 (mbl g A) (hX (mbl g A) x a f) R 4 0 (x 42) (x 41) (by omega) hR
    obtain ⟨G', B', hI', hM⟩ := m_apart (g := g) (A := A) (A 2) em hm eg hng hi hj 33 R 4 0 g A (by omega) hR h rfl
    rw [rX] at hX
    refine pr_w (r := R) (x' := mS (mS x 42 u') 41 r') (a' := a) (f' := f) (g' := G') (A' := B') ?_ (fun xs => ?_) (IV_wr hI' u' r')
    · refine ab_meth oX4_apart 39 _ _ _ _ (Nat.le_refl _) rfl (fun E => ?_)
      refine ab_run [17, 25] 100 oX4_apart.1 (Nat.le_refl _) 0 ?_
      refine ⟨_, _, x_areTwo _ _ x a f _ _, Nat.le_refl _, ?_⟩
      refine br_n (fun c => ?_) (fun c => absurd k0 c)
      exact hX E
    · refine ab_meth oX5_apart 39 _ _ _ _ (Nat.le_refl _) rfl (fun E => ?_)
      refine ab_run [17, 25] 100 oX5_apart.1 (Nat.le_refl _) 0 ?_
      refine ⟨_, _, m_areTwo _ g A xs _ _, Nat.le_refl _, ?_⟩
      refine br_n (fun c => ?_) (fun c => absurd k2 c)
      exact hM xs E
  · have k0 : ¬ ((0 ≤ p1 ∧ p1 < x 17 5) ∧ (0 ≤ p2 ∧ p2 < x 17 5) ∧ ¬ p1 = p2) := by rw [exm]; exact c0
    have k2 : ¬ ((0 ≤ p1 ∧ p1 < A 2 3) ∧ (0 ≤ p2 ∧ p2 < A 2 3) ∧ ¬ p1 = p2) := by rw [em]; exact c0
    refine pr_rf h rc1 ?_ (fun xs => ?_)
    · refine ab_meth oX4_apart 39 _ _ _ _ (Nat.le_refl _) rfl (fun E => ?_)
      refine ab_run [17, 25] 100 oX4_apart.1 (Nat.le_refl _) 0 ?_
      refine ⟨_, _, x_areTwo _ _ x a f _ _, Nat.le_refl _, ?_⟩
      refine br_n (fun c => absurd c k0) (fun c => ?_)
      exact ⟨_, _, x_rf _ _ x a f rc1, Nat.le_refl _, rfl, rfl⟩
    · refine ab_meth oX5_apart 39 _ _ _ _ (Nat.le_refl _) rfl (fun E => ?_)
      refine ab_run [17, 25] 100 oX5_apart.1 (Nat.le_refl _) 0 ?_
      refine ⟨_, _, m_areTwo _ g A xs _ _, Nat.le_refl _, ?_⟩
      refine br_n (fun c => absurd c k2) (fun c => ?_)
      exact ⟨_, _, m_rf _ g A xs rc1, Nat.le_refl _, rfl, rfl⟩
