theorem pr_w {d : Nat} {yx ym : MethodName} {as : List AV} {g : mG} {A x a : mA} {f : mF} {r : Int32} {x' a' : mA} {f' : mF} {g' : mG} {A' : mA} (e1 : ab_Ex d 0 yx (vR 13 0 :: as) (hX (mbl g A) x a f) (some (vI r)) (hX (mbl g A) x' a' f')) (e2 : ∀ xs, ab_Ex d 0 ym (vR 0 0 :: as) (hM g A xs) (some (vI r)) (hM g' A' xs)) (hI : IV g' A' x' a' f') : ∃ (r : Int32) (x' a' : mA) (f' : mF) (g' : mG) (A' : mA), ab_Ex d 0 yx (vR 13 0 :: as) (hM g A (xl x a f)) (some (vI r)) (hM g A (xl x' a' f')) ∧ ab_Ex d 0 ym (vR 0 0 :: as) (hM g A (xl x' a' f')) (some (vI r)) (hM g' A' (xl x' a' f')) ∧ IV g' A' x' a' f' :=
  ⟨r, x', a', f', g', A', e1, e2 _, hI⟩
theorem p_stage : P_stage IV 40 := by
  intro p1 p2 p3 g A x a f h
  have hb := h.2.2.2.2.2.1
  obtain ⟨n, hn, en, exn⟩ := IV_ns h
  obtain ⟨ng, hng, eg, exg⟩ := IV_ng h
  have z1 : (1 : Int32).toInt = 1 := rfl
  have z60 : (60 : Int32).toInt = 60 := rfl
  have z6 : (6 : Int32).toInt = 6 := rfl
  have z0 : (0 : Int32).toInt = 0 := rfl
  by_cases c0 : (0 ≤ p1 ∧ p1 < 6) ∧ (0 ≤ p2 ∧ p2 < nI ng)
  · have k1 : 0 ≤ p2 ∧ p2 < x 17 3 := by rw [exg]; exact c0.2
    have k3 : 0 ≤ p2 ∧ p2 < A 2 2 := by rw [eg]; exact c0.2
    by_cases c1 : p3 < 1
    · refine pr_rf h rc4 ?_ (fun xs => ?_)
      · refine ab_meth oX4_stage 39 _ _ _ _ (Nat.le_refl _) rfl (fun E => ?_)
        refine ab_run [] 50 oX4_stage.1 (Nat.le_refl _) 0 ?_
        refine ⟨_, _, x_isAct _ _ (Nat.le_refl _) _, Nat.le_refl _, ?_⟩
        refine br_z (fun c => absurd c0.1 c) (fun c => ?_)
        refine ⟨_, _, x_isGear _ _ x a f _, Nat.le_refl _, ?_⟩
        refine br_n (fun c => ?_) (fun c => absurd k1 c)
        refine ⟨fun c => absurd c1 (le_nlt c), fun c => ?_⟩
        exact ⟨_, _, x_rf _ _ x a f rc4, Nat.le_refl _, rfl, rfl⟩
      · refine ab_meth oX5_stage 39 _ _ _ _ (Nat.le_refl _) rfl (fun E => ?_)
        refine ab_run [] 100 oX5_stage.1 (Nat.le_refl _) 0 ?_
        refine ⟨_, _, m_isAct _ _ (Nat.le_refl _) _, Nat.le_refl _, ?_⟩
        refine br_z (fun c => absurd c0.1 c) (fun c => ?_)
        refine ⟨_, _, m_isGear _ g A xs _, Nat.le_refl _, ?_⟩
        refine br_z (fun c => absurd k3 c) (fun c => ?_)
        refine ⟨_, _, m_within _ _ (Nat.le_refl _) _ _ _, Nat.le_refl _, ?_⟩
        have e : withI p3 1 60 = -4 := if_pos c1
        rw [e]
        refine ⟨fun c => ?_, fun c => absurd c (by decide)⟩
        refine ⟨fun c => absurd c (by decide), fun c => ?_⟩
        exact ⟨_, _, m_rf _ g A xs rc4, Nat.le_refl _, rfl, rfl⟩
    by_cases c2 : 60 < p3
    · refine pr_rf h rc6 ?_ (fun xs => ?_)
      · refine ab_meth oX4_stage 39 _ _ _ _ (Nat.le_refl _) rfl (fun E => ?_)
        refine ab_run [] 50 oX4_stage.1 (Nat.le_refl _) 0 ?_
        refine ⟨_, _, x_isAct _ _ (Nat.le_refl _) _, Nat.le_refl _, ?_⟩
        refine br_z (fun c => absurd c0.1 c) (fun c => ?_)
        refine ⟨_, _, x_isGear _ _ x a f _, Nat.le_refl _, ?_⟩
        refine br_n (fun c => ?_) (fun c => absurd k1 c)
        refine ⟨fun c => ?_, fun c => absurd (nlt_le c1) c⟩
        refine ⟨fun c => ?_, fun c => absurd c2 c⟩
        exact ⟨_, _, x_rf _ _ x a f rc6, Nat.le_refl _, rfl, rfl⟩
      · refine ab_meth oX5_stage 39 _ _ _ _ (Nat.le_refl _) rfl (fun E => ?_)
        refine ab_run [] 100 oX5_stage.1 (Nat.le_refl _) 0 ?_
        refine ⟨_, _, m_isAct _ _ (Nat.le_refl _) _, Nat.le_refl _, ?_⟩
        refine br_z (fun c => absurd c0.1 c) (fun c => ?_)
        refine ⟨_, _, m_isGear _ g A xs _, Nat.le_refl _, ?_⟩
        refine br_z (fun c => absurd k3 c) (fun c => ?_)
        refine ⟨_, _, m_within _ _ (Nat.le_refl _) _ _ _, Nat.le_refl _, ?_⟩
        have e : withI p3 1 60 = -6 := (if_neg c1).trans (if_pos c2)
        rw [e]
        refine ⟨fun c => ?_, fun c => absurd c (by decide)⟩
        refine ⟨fun c => absurd c (by decide), fun c => ?_⟩
        exact ⟨_, _, m_rf _ g A xs rc6, Nat.le_refl _, rfl, rfl⟩
    by_cases c3 : n = 8
    · subst c3
      refine pr_rf h rc6 ?_ (fun xs => ?_)
      · refine ab_meth oX4_stage 39 _ _ _ _ (Nat.le_refl _) rfl (fun E => ?_)
        refine ab_run [] 50 oX4_stage.1 (Nat.le_refl _) 0 ?_
        refine ⟨_, _, x_isAct _ _ (Nat.le_refl _) _, Nat.le_refl _, ?_⟩
        refine br_z (fun c => absurd c0.1 c) (fun c => ?_)
        refine ⟨_, _, x_isGear _ _ x a f _, Nat.le_refl _, ?_⟩
        refine br_n (fun c => ?_) (fun c => absurd k1 c)
        refine ⟨fun c => ?_, fun c => absurd (nlt_le c1) c⟩
        refine ⟨fun c => absurd c c2, fun c => ?_⟩
        refine ⟨fun (c : x 17 12 < 8) => absurd c (by rw [exn]; decide), fun c => ?_⟩
        exact ⟨_, _, x_rf _ _ x a f rc6, Nat.le_refl _, rfl, rfl⟩
      · refine ab_meth oX5_stage 39 _ _ _ _ (Nat.le_refl _) rfl (fun E => ?_)
        refine ab_run [] 100 oX5_stage.1 (Nat.le_refl _) 0 ?_
        refine ⟨_, _, m_isAct _ _ (Nat.le_refl _) _, Nat.le_refl _, ?_⟩
        refine br_z (fun c => absurd c0.1 c) (fun c => ?_)
        refine ⟨_, _, m_isGear _ g A xs _, Nat.le_refl _, ?_⟩
        refine br_z (fun c => absurd k3 c) (fun c => ?_)
        refine ⟨_, _, m_within _ _ (Nat.le_refl _) _ _ _, Nat.le_refl _, ?_⟩
        have e : withI p3 1 60 = 0 := (if_neg c1).trans (if_neg c2)
        rw [e]
        refine ⟨fun c => absurd rfl c, fun c => ?_⟩
        refine ⟨vp_d rfl, ?_⟩
        refine ⟨fun (c : ¬ A 2 4 = 8) => absurd en c, fun c => ?_⟩
        refine ⟨fun c => absurd c (by decide), fun c => ?_⟩
        exact ⟨_, _, m_rf _ g A xs rc6, Nat.le_refl _, rfl, rfl⟩
    · have hn8 : n < 8 := by omega
      have hx8 : x 17 12 < 8 := by rw [exn]; exact ld_lt n 8 hn8 (by decide)
      have hg8 : ¬ A 2 4 = 8 := by
        rw [en]
        exact fun q => c3 (by have := congrArg Int32.toInt q; rw [nI_toInt (by omega)] at this; have e8 : (8 : Int32).toInt = 8 := rfl; omega)
      have e1 : x 17 12 + 1 = nI (n + 1) := by rw [exn]; exact nI_add n 1
      have e2 : A 2 4 + 1 = nI (n + 1) := by rw [en]; exact nI_add n 1
      refine pr_w (r := nI (n + 1)) (x' := mS x 17 (upd (x 17) 12 (x 17 12 + 1))) (a' := stA a n p1 p2 p3) (f' := f) (g' := g) (A' := mS A 2 (stS (A 2) n p1 p2 p3)) (ex_r ?_ e1) (fun xs => ex_r ?_ e2) ?_
      · refine ab_meth oX4_stage 39 _ _ _ _ (Nat.le_refl _) rfl (fun E => ?_)
        refine ab_run [] 50 oX4_stage.1 (Nat.le_refl _) 0 ?_
        refine ⟨_, _, x_isAct _ _ (Nat.le_refl _) _, Nat.le_refl _, ?_⟩
        refine br_z (fun c => absurd c0.1 c) (fun c => ?_)
        refine ⟨_, _, x_isGear _ _ x a f _, Nat.le_refl _, ?_⟩
        refine br_n (fun c => ?_) (fun c => absurd k1 c)
        refine ⟨fun c => ?_, fun c => absurd (nlt_le c1) c⟩
        refine ⟨fun c => absurd c c2, fun c => ?_⟩
        refine ⟨fun c => ?_, fun c => absurd hx8 c⟩
        exact ⟨_, _, b_addStage _ _ x a f hn8 exn _ _ _, Nat.le_refl _, rfl, rfl⟩
      · refine ab_meth oX5_stage 39 _ _ _ _ (Nat.le_refl _) rfl (fun E => ?_)
        refine ab_run [] 100 oX5_stage.1 (Nat.le_refl _) 0 ?_
        refine ⟨_, _, m_isAct _ _ (Nat.le_refl _) _, Nat.le_refl _, ?_⟩
        refine br_z (fun c => absurd c0.1 c) (fun c => ?_)
        refine ⟨_, _, m_isGear _ g A xs _, Nat.le_refl _, ?_⟩
        refine br_z (fun c => absurd k3 c) (fun c => ?_)
        refine ⟨_, _, m_within _ _ (Nat.le_refl _) _ _ _, Nat.le_refl _, ?_⟩
        have e : withI p3 1 60 = 0 := (if_neg c1).trans (if_neg c2)
        rw [e]
        refine ⟨fun c => absurd rfl c, fun c => ?_⟩
        refine ⟨vp_d rfl, ?_⟩
        refine ⟨fun c => ?_, fun c => absurd c hg8⟩
        refine ⟨fun c => ?_, fun c => absurd rfl c⟩
        have i0 : (88 : Int32) + 3 * A 2 4 = nI (88 + 3 * n) := by rw [en]; exact ix_s0 n
        have i1 : (88 : Int32) + 3 * A 2 4 + 1 = nI (88 + 3 * n + 1) := by rw [en]; exact ix_s n 1
        have i2 : (88 : Int32) + 3 * A 2 4 + 2 = nI (88 + 3 * n + 2) := by rw [en]; exact ix_s n 2
        have v0 : vp_in ((88 : Int32) + 3 * A 2 4) 112 := by rw [i0]; exact vp_in_nI (by omega) (by omega)
        have v1 : vp_in ((88 : Int32) + 3 * A 2 4 + 1) 112 := by rw [i1]; exact vp_in_nI (by omega) (by omega)
        have v2 : vp_in ((88 : Int32) + 3 * A 2 4 + 2) 112 := by rw [i2]; exact vp_in_nI (by omega) (by omega)
        have n0 : ((88 : Int32) + 3 * A 2 4).toNatClampNeg = 88 + 3 * n := by rw [i0]; exact nI_clamp (by omega)
        have n1 : ((88 : Int32) + 3 * A 2 4 + 1).toNatClampNeg = 88 + 3 * n + 1 := by rw [i1]; exact nI_clamp (by omega)
        have n2 : ((88 : Int32) + 3 * A 2 4 + 2).toNatClampNeg = 88 + 3 * n + 2 := by rw [i2]; exact nI_clamp (by omega)
        refine ⟨vp_d rfl, v0, v1, v2, ?_⟩
        have hz : (upd (upd (upd (A 2) ((88 : Int32) + 3 * A 2 4).toNatClampNeg p1) ((88 : Int32) + 3 * A 2 4 + 1).toNatClampNeg p2) ((88 : Int32) + 3 * A 2 4 + 2).toNatClampNeg p3) 4 = A 2 4 := by
          rw [n0, n1, n2, upd_ne (by omega), upd_ne (by omega), upd_ne (by omega)]
        refine ⟨vp_d rfl, vp_d rfl, vp_d rfl, ?_, ?_⟩
        · show some (vI ((upd (upd (upd (A 2) ((88 : Int32) + 3 * A 2 4).toNatClampNeg p1) ((88 : Int32) + 3 * A 2 4 + 1).toNatClampNeg p2) ((88 : Int32) + 3 * A 2 4 + 2).toNatClampNeg p3) 4 + 1)) = some (vI (A 2 4 + 1))
          rw [hz]
        · show hM g (mS A 2 (upd (upd (upd (upd (A 2) ((88 : Int32) + 3 * A 2 4).toNatClampNeg p1) ((88 : Int32) + 3 * A 2 4 + 1).toNatClampNeg p2) ((88 : Int32) + 3 * A 2 4 + 2).toNatClampNeg p3) 4 ((upd (upd (upd (A 2) ((88 : Int32) + 3 * A 2 4).toNatClampNeg p1) ((88 : Int32) + 3 * A 2 4 + 1).toNatClampNeg p2) ((88 : Int32) + 3 * A 2 4 + 2).toNatClampNeg p3) 4 + 1))) xs = _
          rw [hz, n0, n1, n2]
          rfl
      · obtain ⟨h1, h2, h3, h4, h5, h6, h7⟩ := h
        have q1 := Int32.le_iff_toInt_le.mp c0.1.1
        have q2 := Int32.lt_iff_toInt_lt.mp c0.1.2
        have q3 := Int32.le_iff_toInt_le.mp k3.1
        have q4 := Int32.lt_iff_toInt_lt.mp k3.2
        rw [Int32.lt_iff_toInt_lt] at c1 c2
        exact ⟨h1, h2, h3, h4, WF_stage hn8 en (by omega) (by omega) (by omega) h5, BR_stage hn8 en h6, h7⟩
  · refine pr_rf h rc1 ?_ (fun xs => ?_)
    · refine ab_meth oX4_stage 39 _ _ _ _ (Nat.le_refl _) rfl (fun E => ?_)
      refine ab_run [] 50 oX4_stage.1 (Nat.le_refl _) 0 ?_
      refine ⟨_, _, x_isAct _ _ (Nat.le_refl _) _, Nat.le_refl _, ?_⟩
      refine br_z (fun c => ?_) (fun c => ?_)
      · exact ⟨_, _, x_rf _ _ x a f rc1, Nat.le_refl _, rfl, rfl⟩
      refine ⟨_, _, x_isGear _ _ x a f _, Nat.le_refl _, ?_⟩
      refine br_n (fun c' => absurd ⟨c, by rw [← exg]; exact c'⟩ c0) (fun c => ?_)
      exact ⟨_, _, x_rf _ _ x a f rc1, Nat.le_refl _, rfl, rfl⟩
    · refine ab_meth oX5_stage 39 _ _ _ _ (Nat.le_refl _) rfl (fun E => ?_)
      refine ab_run [] 100 oX5_stage.1 (Nat.le_refl _) 0 ?_
      refine ⟨_, _, m_isAct _ _ (Nat.le_refl _) _, Nat.le_refl _, ?_⟩
      refine br_z (fun c => ?_) (fun c => ?_)
      · refine ⟨fun c => ?_, fun c => absurd c (by decide)⟩
        refine ⟨fun c => absurd c (by decide), fun c => ?_⟩
        exact ⟨_, _, m_rf _ g A xs rc1, Nat.le_refl _, rfl, rfl⟩
      refine ⟨_, _, m_isGear _ g A xs _, Nat.le_refl _, ?_⟩
      refine br_z (fun c => ?_) (fun c' => absurd ⟨c, by rw [← eg]; exact c'⟩ c0)
      refine ⟨fun c => ?_, fun c => absurd c (by decide)⟩
      refine ⟨fun c => absurd c (by decide), fun c => ?_⟩
      exact ⟨_, _, m_rf _ g A xs rc1, Nat.le_refl _, rfl, rfl⟩
