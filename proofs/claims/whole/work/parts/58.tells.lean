def tlI (V : Nat → Nat → Int32) (act : Nat) (nx : Int32 → Int32 → Int32) : Nat → Nat → Int32 → Int32 → Int32
  | 0, _, b, mo => nx b mo
  | k + 1, w, b, mo => if mo < V act w then tlI V act nx k (w + 1) (10 * nI act + nI w) (V act w) else tlI V act nx k (w + 1) b mo
def tlO (V : Nat → Nat → Int32) (ng : Nat) (wh : Int32) : Nat → Nat → Int32 → Int32 → Int32
  | 0, _, b, mo => if wh = 0 then b else mo
  | k + 1, act, b, mo => tlI V act (tlO V ng wh k (act + 1)) ng 0 b mo
noncomputable def tlV (x a : mA) (f : mF) (T m : Nat) : Nat → Nat → Int32 := fun act w => ulN (fun j => cvU x a f T j act w) m
set_option maxRecDepth 100000 in
theorem x_tells {g : mG} {A x a : mA} {f : mF} (h : IV g A x a f) {m ng T : Nat} (em : A 2 3 = nI m) (hm : m ≤ 8) (eg : A 2 2 = nI ng) (hng : ng ≤ 5) (hT : T ≤ 60) (d : Nat) (mb : Nat → AB) (h0 : AH) (wh R : Int32) : ∀ (k act : Nat) (b mo : Int32) (u r c : Nat → Int32), act + k = 4 → R = tlO (tlV x a f T m) ng wh k act b mo → ∃ u' r' c' : Nat → Int32, ∀ E, ab_W jX4_tells (d + 5) E h0 70 (fun v1 h1 => v1 = some (vI R) ∧ h1 = hX mb (mS (mS x 42 u') 41 r') (mS a 45 c') f) (ab_at iX4_tells 77) [(5, vI (nI act)), (4, vI mo), (3, vI b), (0, vR 13 0), (1, vI (nI T)), (2, vI wh)] [] (hX mb (mS (mS x 42 u) 41 r) (mS a 45 c) f) := by
  have exg : x 17 3 = nI ng := by rw [← h.2.2.2.2.2.1.1.2.2.1]; exact eg
  intro k
  induction k with
  | zero =>
    intro act b mo u r c ha hR
    refine ⟨u, r, c, fun E => ?_⟩
    refine ab_run [77, 86] 100 oX4_tells.1 (Nat.le_refl _) 77 ?_
    refine ⟨fun c1 => ?_, fun c1 => absurd (show nI 4 ≤ nI act from nI_le (by omega) (by omega)) c1⟩
    have hR : R = if wh = 0 then b else mo := hR
    refine ⟨fun c2 => ?_, fun c2 => ?_⟩
    · rw [if_neg c2] at hR
      rw [hR]
      exact ⟨rfl, rfl⟩
    · rw [if_pos c2] at hR
      rw [hR]
      exact ⟨rfl, rfl⟩
  | succ k ih =>
    intro act b mo u r c ha hR
    have inner : ∀ (l w : Nat) (b mo : Int32) (u r c : Nat → Int32), w + l = ng → R = tlI (tlV x a f T m) act (tlO (tlV x a f T m) ng wh k (act + 1)) l w b mo → ∃ u' r' c' : Nat → Int32, ∀ E, ab_W jX4_tells (d + 5) E h0 70 (fun v1 h1 => v1 = some (vI R) ∧ h1 = hX mb (mS (mS x 42 u') 41 r') (mS a 45 c') f) (ab_at iX4_tells 86) [(6, vI (nI w)), (5, vI (nI act)), (4, vI mo), (3, vI b), (0, vR 13 0), (1, vI (nI T)), (2, vI wh)] [] (hX mb (mS (mS x 42 u) 41 r) (mS a 45 c) f) := by
      intro l
      induction l with
      | zero =>
        intro w b mo u r c hw hR
        obtain ⟨u', r', c', hW⟩ := ih (act + 1) b mo u r c (by omega) hR
        refine ⟨u', r', c', fun E => ?_⟩
        refine ab_run [77, 86] 100 oX4_tells.1 (Nat.le_refl _) 86 ?_
        refine ⟨fun c1 => ?_, fun (c1 : ¬ x 17 3 ≤ nI w) => ?_⟩
        · have h9 := hW E
          rw [nI_succ] at h9
          exact ab_W_lv (lv_pk [0, 2, 3, 4, 5, 6] rfl) h9
        · rw [exg] at c1
          exact absurd (nI_le (by omega) (by omega)) c1
      | succ l ihl =>
        intro w b mo u r c hw hR
        obtain ⟨u1, r1, c1, e1⟩ := x_unlike h em hm eg hng (w := w) (T := T) (act := act) (by omega) hT (by omega) d mb u r c
        by_cases c2 : mo < tlV x a f T m act w
        · obtain ⟨u', r', c', hW⟩ := ihl (w + 1) (10 * nI act + nI w) (tlV x a f T m act w) u1 r1 c1 (by omega) (by rw [hR]; exact if_pos c2)
          refine ⟨u', r', c', fun E => ?_⟩
          refine ab_run [77, 86] 100 oX4_tells.1 (Nat.le_refl _) 86 ?_
          refine ⟨fun (c1 : x 17 3 ≤ nI w) => ?_, fun c1 => ?_⟩
          · rw [exg] at c1
            exact absurd c1 (nI_lt_m (by omega) (by omega))
          refine ⟨_, _, e1, Nat.le_refl _, fun c3 => absurd c2 (le_nlt c3), fun c3 => ?_⟩
          have h9 := hW E
          rw [nI_succ] at h9
          exact ab_W_lv (lv_pk [0, 4, 2, 1, 5, 6, 7] rfl) h9
        · obtain ⟨u', r', c', hW⟩ := ihl (w + 1) b mo u1 r1 c1 (by omega) (by rw [hR]; exact if_neg c2)
          refine ⟨u', r', c', fun E => ?_⟩
          refine ab_run [77, 86] 100 oX4_tells.1 (Nat.le_refl _) 86 ?_
          refine ⟨fun (c1 : x 17 3 ≤ nI w) => ?_, fun c1 => ?_⟩
          · rw [exg] at c1
            exact absurd c1 (nI_lt_m (by omega) (by omega))
          refine ⟨_, _, e1, Nat.le_refl _, fun c3 => ?_, fun c3 => absurd (nle_lt c3) c2⟩
          have h9 := hW E
          rw [nI_succ] at h9
          exact ab_W_lv (lv_pk [0, 2, 3, 4, 5, 6, 7] rfl) h9
    obtain ⟨u', r', c', hW⟩ := inner ng 0 b mo u r c (by omega) hR
    refine ⟨u', r', c', fun E => ?_⟩
    refine ab_run [77, 86] 100 oX4_tells.1 (Nat.le_refl _) 77 ?_
    refine ⟨fun c1 => absurd c1 (nI_ge (a := act) (b := 4) (by omega) (by omega)), fun c1 => ?_⟩
    exact hW E
set_option maxRecDepth 100000 in
theorem m_tells {g : mG} {A x a : mA} {f : mF} (s : Nat → Int32) {m ng T : Nat} (em : s 3 = nI m) (hm : m ≤ 8) (eg : s 2 = nI ng) (hng : ng ≤ 5) (hT : T ≤ 60) (d : Nat) (wh R w3 : Int32) : ∀ (k act : Nat) (b mo : Int32) (G : mG) (B : mA), act + k = 4 → R = tlO (tlV x a f T m) ng wh k act b mo → IV G B x a f → B 2 = s → ∃ (G' : mG) (B' : mA), IV G' B' x a f ∧ ∀ xs E, ab_W jX5_tells (d + 6) E (hM g A xs) 70 (fun v1 h1 => v1 = some (vI R) ∧ h1 = hM G' B' xs) (ab_at iX5_tells 68) [(6, vI (nI act)), (5, vI mo), (4, vI b), (3, vI w3), (0, vR 0 0), (1, vI (nI T)), (2, vI wh)] [] (hM G B xs) := by
  intro k
  induction k with
  | zero =>
    intro act b mo G B ha hR hI hB
    refine ⟨G, B, hI, fun xs E => ?_⟩
    refine ab_run [68, 77] 100 oX5_tells.1 (Nat.le_refl _) 68 ?_
    refine ⟨fun c1 => ?_, fun c1 => absurd (show nI 4 ≤ nI act from nI_le (by omega) (by omega)) c1⟩
    have hR : R = if wh = 0 then b else mo := hR
    refine ⟨fun c2 => ?_, fun c2 => ?_⟩
    · rw [if_neg c2] at hR
      rw [hR]
      exact ⟨rfl, rfl⟩
    · rw [if_pos c2] at hR
      rw [hR]
      exact ⟨rfl, rfl⟩
  | succ k ih =>
    intro act b mo G B ha hR hI hB
    have inner : ∀ (l w : Nat) (b mo : Int32) (G : mG) (B : mA), w + l = ng → R = tlI (tlV x a f T m) act (tlO (tlV x a f T m) ng wh k (act + 1)) l w b mo → IV G B x a f → B 2 = s → ∃ (G' : mG) (B' : mA), IV G' B' x a f ∧ ∀ xs E, ab_W jX5_tells (d + 6) E (hM g A xs) 70 (fun v1 h1 => v1 = some (vI R) ∧ h1 = hM G' B' xs) (ab_at iX5_tells 77) [(7, vI (nI w)), (6, vI (nI act)), (5, vI mo), (4, vI b), (3, vI w3), (0, vR 0 0), (1, vI (nI T)), (2, vI wh)] [] (hM G B xs) := by
      intro l
      induction l with
      | zero =>
        intro w b mo G B hw hR hI hB
        obtain ⟨G', B', hI', hW⟩ := ih (act + 1) b mo G B (by omega) hR hI hB
        refine ⟨G', B', hI', fun xs E => ?_⟩
        refine ab_run [68, 77] 100 oX5_tells.1 (Nat.le_refl _) 77 ?_
        refine ⟨vp_d rfl, fun c1 => ?_, fun (c1 : ¬ B 2 2 ≤ nI w) => ?_⟩
        · have h9 := hW xs E
          rw [nI_succ] at h9
          exact ab_W_lv (lv_pk [0, 2, 3, 4, 5, 6, 7] rfl) h9
        · rw [hB, eg] at c1
          exact absurd (nI_le (by omega) (by omega)) c1
      | succ l ihl =>
        intro w b mo G B hw hR hI hB
        have emB : B 2 3 = nI m := by rw [hB]; exact em
        have hgB : (w : Int) < (B 2 2).toInt := by rw [hB, eg, nI_toInt (by omega)]; omega
        have hr := act_rng (k := act) (by omega)
        have hS := fun xs => m_stageAlone hI emB hm (w := w) (T := T) (by omega) hgB hT (nI act) d xs
        have hI2 := IV_sg m w T (nI act) hI
        have hB2 : (sgN m (nI act) T (bgG G B, opN w m (bgN m B))).2 2 = s := sg_2.trans hB
        have hv : ulN ((sgN m (nI act) T (bgG G B, opN w m (bgN m B))).2 9) m = tlV x a f T m act w := ulN_congr m (fun j hj => cis_val hI emB hm hj (w := w) (T := T) (by omega) hgB hT hr.1 hr.2)
        generalize sgN m (nI act) T (bgG G B, opN w m (bgN m B)) = Q at hS hI2 hB2 hv
        have hU := fun xs => m_unlike (d + 5) Q.1 Q.2 xs (m := m) (by rw [hB2]; exact em) hm
        rw [hv] at hU
        by_cases c2 : mo < tlV x a f T m act w
        · obtain ⟨G', B', hI', hW⟩ := ihl (w + 1) (10 * nI act + nI w) (tlV x a f T m act w) Q.1 Q.2 (by omega) (by rw [hR]; exact if_pos c2) hI2 hB2
          refine ⟨G', B', hI', fun xs E => ?_⟩
          refine ab_run [68, 77] 100 oX5_tells.1 (Nat.le_refl _) 77 ?_
          refine ⟨vp_d rfl, fun (c1 : B 2 2 ≤ nI w) => ?_, fun c1 => ?_⟩
          · rw [hB, eg] at c1
            exact absurd c1 (nI_lt_m (by omega) (by omega))
          refine ⟨_, _, hS xs, Nat.le_refl _, _, _, hU xs, Nat.le_refl _, ?_⟩
          refine ⟨fun c3 => ?_, fun c3 => absurd c2 c3⟩
          refine ⟨_, _, hU xs, Nat.le_refl _, ?_⟩
          have h9 := hW xs E
          rw [nI_succ] at h9
          exact ab_W_lv (lv_pk [0, 3, 1, 2, 4, 5, 6, 7] rfl) h9
        · obtain ⟨G', B', hI', hW⟩ := ihl (w + 1) b mo Q.1 Q.2 (by omega) (by rw [hR]; exact if_neg c2) hI2 hB2
          refine ⟨G', B', hI', fun xs E => ?_⟩
          refine ab_run [68, 77] 100 oX5_tells.1 (Nat.le_refl _) 77 ?_
          refine ⟨vp_d rfl, fun (c1 : B 2 2 ≤ nI w) => ?_, fun c1 => ?_⟩
          · rw [hB, eg] at c1
            exact absurd c1 (nI_lt_m (by omega) (by omega))
          refine ⟨_, _, hS xs, Nat.le_refl _, _, _, hU xs, Nat.le_refl _, ?_⟩
          refine ⟨fun c3 => absurd c3 c2, fun c3 => ?_⟩
          have h9 := hW xs E
          rw [nI_succ] at h9
          exact h9
    obtain ⟨G', B', hI', hW⟩ := inner ng 0 b mo G B (by omega) hR hI hB
    refine ⟨G', B', hI', fun xs E => ?_⟩
    refine ab_run [68, 77] 100 oX5_tells.1 (Nat.le_refl _) 68 ?_
    refine ⟨fun c1 => absurd c1 (nI_ge (a := act) (b := 4) (by omega) (by omega)), fun c1 => ?_⟩
    exact hW xs E
set_option maxRecDepth 100000 in
theorem p_tells : P_tells IV 40 := by
  intro p1 p2 g A x a f h
  obtain ⟨m, hm, em, exm⟩ := IV_m h
  obtain ⟨ng, hng, eg, exg⟩ := IV_ng h
  have z0 : (0 : Int32).toInt = 0 := rfl
  have z1 : (1 : Int32).toInt = 1 := rfl
  have z2 : (2 : Int32).toInt = 2 := rfl
  have z60 : (60 : Int32).toInt = 60 := rfl
  by_cases c0 : 0 ≤ p2 ∧ p2 < 2
  · have hk2 : ¬ p2 = 0 → ¬ p2 = 1 → False := by
      intro c1 c2
      have q1 := Int32.le_iff_toInt_le.mp c0.1
      have q2 := Int32.lt_iff_toInt_lt.mp c0.2
      rcases (by omega : p2.toInt = 0 ∨ p2.toInt = 1) with q | q
      · exact absurd (Int32.toInt_inj.mp (by omega)) c1
      · exact absurd (Int32.toInt_inj.mp (by omega)) c2
    by_cases c1 : p1 < 1
    · refine pr_rf h rc4 ?_ (fun xs => ?_)
      · refine ab_meth oX4_tells 39 _ _ _ _ (Nat.le_refl _) rfl (fun E => ?_)
        have K : ab_W jX4_tells 39 E (hX (mbl g A) x a f) 70 (fun v1 h1 => v1 = some (vI (-4)) ∧ h1 = hX (mbl g A) x (rfX a (-4)) f) (ab_at iX4_tells 16) [(0, vR 13 0), (1, vI p1), (2, vI p2)] [] (hX (mbl g A) x a f) := by
          refine ab_run [77, 86] 100 oX4_tells.1 (Nat.le_refl _) 16 ?_
          refine ⟨fun c => absurd c1 (le_nlt c), fun c => ?_⟩
          exact ⟨_, _, x_rf _ _ x a f rc4, Nat.le_refl _, rfl, rfl⟩
        refine ab_run [16] 100 oX4_tells.1 (Nat.le_refl _) 0 ?_
        exact ⟨fun _ => K, fun d1 => ⟨fun _ => K, fun d2 => (hk2 d1 d2).elim⟩⟩
      · refine ab_meth oX5_tells 39 _ _ _ _ (Nat.le_refl _) rfl (fun E => ?_)
        refine ab_run [68, 77] 100 oX5_tells.1 (Nat.le_refl _) 0 ?_
        refine ⟨_, _, m_isIn _ _ (Nat.le_refl _) _ _, Nat.le_refl _, ?_⟩
        refine br_n (fun c => ?_) (fun c => absurd c0 c)
        refine ⟨_, _, m_within _ _ (Nat.le_refl _) _ _ _, Nat.le_refl _, ?_⟩
        rw [show withI p1 1 60 = -4 from if_pos c1]
        refine ⟨fun c => ?_, fun c => absurd c (by decide)⟩
        refine ⟨fun c => absurd c (by decide), fun c => ?_⟩
        exact ⟨_, _, m_rf _ g A xs rc4, Nat.le_refl _, rfl, rfl⟩
    by_cases c2 : 60 < p1
    · refine pr_rf h rc6 ?_ (fun xs => ?_)
      · refine ab_meth oX4_tells 39 _ _ _ _ (Nat.le_refl _) rfl (fun E => ?_)
        have K : ab_W jX4_tells 39 E (hX (mbl g A) x a f) 70 (fun v1 h1 => v1 = some (vI (-6)) ∧ h1 = hX (mbl g A) x (rfX a (-6)) f) (ab_at iX4_tells 16) [(0, vR 13 0), (1, vI p1), (2, vI p2)] [] (hX (mbl g A) x a f) := by
          refine ab_run [77, 86] 100 oX4_tells.1 (Nat.le_refl _) 16 ?_
          refine ⟨fun c => ?_, fun c => absurd (nlt_le c1) c⟩
          refine ⟨fun c => absurd c2 (le_nlt c), fun c => ?_⟩
          exact ⟨_, _, x_rf _ _ x a f rc6, Nat.le_refl _, rfl, rfl⟩
        refine ab_run [16] 100 oX4_tells.1 (Nat.le_refl _) 0 ?_
        exact ⟨fun _ => K, fun d1 => ⟨fun _ => K, fun d2 => (hk2 d1 d2).elim⟩⟩
      · refine ab_meth oX5_tells 39 _ _ _ _ (Nat.le_refl _) rfl (fun E => ?_)
        refine ab_run [68, 77] 100 oX5_tells.1 (Nat.le_refl _) 0 ?_
        refine ⟨_, _, m_isIn _ _ (Nat.le_refl _) _ _, Nat.le_refl _, ?_⟩
        refine br_n (fun c => ?_) (fun c => absurd c0 c)
        refine ⟨_, _, m_within _ _ (Nat.le_refl _) _ _ _, Nat.le_refl _, ?_⟩
        rw [show withI p1 1 60 = -6 from (if_neg c1).trans (if_pos c2)]
        refine ⟨fun c => ?_, fun c => absurd c (by decide)⟩
        refine ⟨fun c => absurd c (by decide), fun c => ?_⟩
        exact ⟨_, _, m_rf _ g A xs rc6, Nat.le_refl _, rfl, rfl⟩
    by_cases c3 : A 2 2 = 0 ∨ A 2 3 = 0
    · have c3x : x 17 3 = 0 ∨ x 17 5 = 0 := by rw [← h.2.2.2.2.2.1.1.2.2.1, ← h.2.2.2.2.2.1.1.2.2.2.1]; exact c3
      refine pr_rf h rc3 ?_ (fun xs => ?_)
      · refine ab_meth oX4_tells 39 _ _ _ _ (Nat.le_refl _) rfl (fun E => ?_)
        have K : ab_W jX4_tells 39 E (hX (mbl g A) x a f) 70 (fun v1 h1 => v1 = some (vI (-3)) ∧ h1 = hX (mbl g A) x (rfX a (-3)) f) (ab_at iX4_tells 16) [(0, vR 13 0), (1, vI p1), (2, vI p2)] [] (hX (mbl g A) x a f) := by
          refine ab_run [77, 86] 100 oX4_tells.1 (Nat.le_refl _) 16 ?_
          refine ⟨fun c => ?_, fun c => absurd (nlt_le c1) c⟩
          refine ⟨fun c => ?_, fun c => absurd (nlt_le c2) c⟩
          refine ⟨fun c => ⟨_, _, x_rf _ _ x a f rc3, Nat.le_refl _, rfl, rfl⟩, fun (c : ¬ x 17 3 = 0) => ⟨fun (c' : ¬ x 17 5 = 0) => absurd c3x (fun q => q.elim c c'), fun c' => ?_⟩⟩
          exact ⟨_, _, x_rf _ _ x a f rc3, Nat.le_refl _, rfl, rfl⟩
        refine ab_run [16] 100 oX4_tells.1 (Nat.le_refl _) 0 ?_
        exact ⟨fun _ => K, fun d1 => ⟨fun _ => K, fun d2 => (hk2 d1 d2).elim⟩⟩
      · refine ab_meth oX5_tells 39 _ _ _ _ (Nat.le_refl _) rfl (fun E => ?_)
        refine ab_run [68, 77] 100 oX5_tells.1 (Nat.le_refl _) 0 ?_
        refine ⟨_, _, m_isIn _ _ (Nat.le_refl _) _ _, Nat.le_refl _, ?_⟩
        refine br_n (fun c => ?_) (fun c => absurd c0 c)
        refine ⟨_, _, m_within _ _ (Nat.le_refl _) _ _ _, Nat.le_refl _, ?_⟩
        rw [show withI p1 1 60 = 0 from (if_neg c1).trans (if_neg c2)]
        refine ⟨fun c => absurd rfl c, fun c => ?_⟩
        refine ⟨vp_d rfl, fun (c : A 2 2 = 0) => ?_, fun (c : ¬ A 2 2 = 0) => ⟨vp_d rfl, fun (c' : ¬ A 2 3 = 0) => absurd c3 (fun q => q.elim c c'), fun c' => ?_⟩⟩
        · refine ⟨fun c => absurd c (by decide), fun c => ?_⟩
          exact ⟨_, _, m_rf _ g A xs rc3, Nat.le_refl _, rfl, rfl⟩
        · refine ⟨fun c => absurd c (by decide), fun c => ?_⟩
          exact ⟨_, _, m_rf _ g A xs rc3, Nat.le_refl _, rfl, rfl⟩
    have n2 : ¬ A 2 2 = 0 := fun q => c3 (Or.inl q)
    have n3 : ¬ A 2 3 = 0 := fun q => c3 (Or.inr q)
    have n2x : ¬ x 17 3 = 0 := by rw [← h.2.2.2.2.2.1.1.2.2.1]; exact n2
    have n3x : ¬ x 17 5 = 0 := by rw [← h.2.2.2.2.2.1.1.2.2.2.1]; exact n3
    have q1 := Int32.le_iff_toInt_le.mp (nlt_le c1)
    have q2 := Int32.le_iff_toInt_le.mp (nlt_le c2)
    have cl := ti_clamp (x := p1) (by omega)
    obtain ⟨T, hT1, hT60, rfl⟩ : ∃ T : Nat, 1 ≤ T ∧ T ≤ 60 ∧ p1 = nI T := ⟨p1.toNatClampNeg, by omega, by omega, ti_nat (by omega)⟩
    obtain ⟨R, hR⟩ : ∃ R : Int32, R = tlO (tlV x a f T m) ng p2 4 0 (-9) 0 := ⟨_, rfl⟩
    obtain ⟨u', r', c', hXw⟩ := x_tells h em hm eg hng hT60 34 (mbl g A) (hX (mbl g A) x a f) p2 R 4 0 (-9) 0 (x 42) (x 41) (a 45) (by omega) hR
    obtain ⟨G', B', hI', hMw⟩ := m_tells (g := g) (A := A) (A 2) em hm eg hng hT60 33 p2 R 0 4 0 (-9) 0 g A (by omega) hR h rfl
    rw [rX, mS_id] at hXw
    refine pr_w (r := R) (x' := mS (mS x 42 u') 41 r') (a' := mS a 45 c') (f' := f) (g' := G') (A' := B') ?_ (fun xs => ?_) (IV_wr (IV_cl hI' c') u' r')
    · refine ab_meth oX4_tells 39 _ _ _ _ (Nat.le_refl _) rfl (fun E => ?_)
      have K : ab_W jX4_tells 39 E (hX (mbl g A) x a f) 70 (fun v1 h1 => v1 = some (vI (R)) ∧ h1 = hX (mbl g A) (mS (mS x 42 u') 41 r') (mS a 45 c') f) (ab_at iX4_tells 16) [(0, vR 13 0), (1, vI (nI T)), (2, vI p2)] [] (hX (mbl g A) x a f) := by
        refine ab_run [77, 86] 100 oX4_tells.1 (Nat.le_refl _) 16 ?_
        refine ⟨fun c => ?_, fun c => absurd (nlt_le c1) c⟩
        refine ⟨fun c => ?_, fun c => absurd (nlt_le c2) c⟩
        refine ⟨fun c => absurd c n2x, fun _ => ⟨fun _ => ?_, fun c => absurd c n3x⟩⟩
        exact hXw E
      refine ab_run [16] 100 oX4_tells.1 (Nat.le_refl _) 0 ?_
      exact ⟨fun _ => K, fun d1 => ⟨fun _ => K, fun d2 => (hk2 d1 d2).elim⟩⟩
    · refine ab_meth oX5_tells 39 _ _ _ _ (Nat.le_refl _) rfl (fun E => ?_)
      refine ab_run [68, 77] 100 oX5_tells.1 (Nat.le_refl _) 0 ?_
      refine ⟨_, _, m_isIn _ _ (Nat.le_refl _) _ _, Nat.le_refl _, ?_⟩
      refine br_n (fun c => ?_) (fun c => absurd c0 c)
      refine ⟨_, _, m_within _ _ (Nat.le_refl _) _ _ _, Nat.le_refl _, ?_⟩
      rw [show withI (nI T) 1 60 = 0 from (if_neg c1).trans (if_neg c2)]
      refine ⟨fun c => absurd rfl c, fun c => ?_⟩
      refine ⟨vp_d rfl, fun c => absurd c n2, fun _ => ⟨vp_d rfl, fun _ => ?_, fun c => absurd c n3⟩⟩
      refine ⟨fun _ => ?_, fun c => absurd rfl c⟩
      exact hMw xs E
  · have d0 : ¬ p2 = 0 := fun q => c0 (by rw [q]; decide)
    have d1 : ¬ p2 = 1 := fun q => c0 (by rw [q]; decide)
    refine pr_rf h rc2 ?_ (fun xs => ?_)
    · refine ab_meth oX4_tells 39 _ _ _ _ (Nat.le_refl _) rfl (fun E => ?_)
      refine ab_run [16] 100 oX4_tells.1 (Nat.le_refl _) 0 ?_
      refine ⟨fun c => absurd c d0, fun c => ?_⟩
      refine ⟨fun c => absurd c d1, fun c => ?_⟩
      exact ⟨_, _, x_rf _ _ x a f rc2, Nat.le_refl _, rfl, rfl⟩
    · refine ab_meth oX5_tells 39 _ _ _ _ (Nat.le_refl _) rfl (fun E => ?_)
      refine ab_run [68, 77] 100 oX5_tells.1 (Nat.le_refl _) 0 ?_
      refine ⟨_, _, m_isIn _ _ (Nat.le_refl _) _ _, Nat.le_refl _, ?_⟩
      refine br_n (fun c => absurd c c0) (fun c => ?_)
      exact ⟨_, _, m_rf _ g A xs rc2, Nat.le_refl _, rfl, rfl⟩
