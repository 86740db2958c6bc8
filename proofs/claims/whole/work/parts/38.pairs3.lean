theorem rc1 : RC (-1) := Or.inl rfl
theorem rc2 : RC (-2) := Or.inr (Or.inl rfl)
theorem rc3 : RC (-3) := Or.inr (Or.inr (Or.inl rfl))
theorem rc4 : RC (-4) := Or.inr (Or.inr (Or.inr (Or.inl rfl)))
theorem rc6 : RC (-6) := Or.inr (Or.inr (Or.inr (Or.inr rfl)))
theorem p_load : P_load IV 40 := by
  intro p1 p2 g A x a f h
  have hb := h.2.2.2.2.2.1
  have hv : A 2 7 = a 21 0 := hb.2.1 0 (by decide)
  by_cases c0 : 0 ≤ p1 ∧ p1 < 6
  · by_cases c1 : p2 < 0
    · refine pr_rf h rc4 ?_ (fun xs => ?_)
      · refine ab_meth oX4_load 39 _ _ _ _ (Nat.le_refl _) rfl (fun E => ?_)
        refine ab_run [] 50 oX4_load.1 (Nat.le_refl _) 0 ?_
        refine ⟨_, _, x_isAct _ _ (Nat.le_refl _) _, Nat.le_refl _, ?_⟩
        refine br_n (fun c => ?_) (fun c => absurd c0 c)
        refine ⟨fun c => absurd c1 (le_nlt c), fun c => ?_⟩
        exact ⟨_, _, x_rf _ _ x a f rc4, Nat.le_refl _, rfl, rfl⟩
      · refine ab_meth oX5_load 39 _ _ _ _ (Nat.le_refl _) rfl (fun E => ?_)
        refine ab_run [] 50 oX5_load.1 (Nat.le_refl _) 0 ?_
        refine ⟨_, _, m_isAct _ _ (Nat.le_refl _) _, Nat.le_refl _, ?_⟩
        refine br_z (fun c => absurd c0 c) (fun c => ?_)
        refine ⟨_, _, m_within _ _ (Nat.le_refl _) _ _ _, Nat.le_refl _, ?_⟩
        have e : withI p2 0 99 = -4 := if_pos c1
        rw [e]
        refine ⟨fun c => absurd c (by decide), fun c => ?_⟩
        exact ⟨_, _, m_rf _ g A xs rc4, Nat.le_refl _, rfl, rfl⟩
    by_cases c2 : 100 ≤ p2
    · have c3 : 99 < p2 := by
        rw [Int32.lt_iff_toInt_lt]
        rw [Int32.le_iff_toInt_le] at c2
        have e1 : (100 : Int32).toInt = 100 := rfl
        have e2 : (99 : Int32).toInt = 99 := rfl
        omega
      refine pr_rf h rc6 ?_ (fun xs => ?_)
      · refine ab_meth oX4_load 39 _ _ _ _ (Nat.le_refl _) rfl (fun E => ?_)
        refine ab_run [] 50 oX4_load.1 (Nat.le_refl _) 0 ?_
        refine ⟨_, _, x_isAct _ _ (Nat.le_refl _) _, Nat.le_refl _, ?_⟩
        refine br_n (fun c => ?_) (fun c => absurd c0 c)
        refine ⟨fun c => ?_, fun c => absurd (nlt_le c1) c⟩
        refine ⟨fun c => absurd c (le_nlt c2), fun c => ?_⟩
        exact ⟨_, _, x_rf _ _ x a f rc6, Nat.le_refl _, rfl, rfl⟩
      · refine ab_meth oX5_load 39 _ _ _ _ (Nat.le_refl _) rfl (fun E => ?_)
        refine ab_run [] 50 oX5_load.1 (Nat.le_refl _) 0 ?_
        refine ⟨_, _, m_isAct _ _ (Nat.le_refl _) _, Nat.le_refl _, ?_⟩
        refine br_z (fun c => absurd c0 c) (fun c => ?_)
        refine ⟨_, _, m_within _ _ (Nat.le_refl _) _ _ _, Nat.le_refl _, ?_⟩
        have e : withI p2 0 99 = -6 := (if_neg c1).trans (if_pos c3)
        rw [e]
        refine ⟨fun c => absurd c (by decide), fun c => ?_⟩
        exact ⟨_, _, m_rf _ g A xs rc6, Nat.le_refl _, rfl, rfl⟩
    · have c3 : ¬ 99 < p2 := by
        rw [Int32.lt_iff_toInt_lt]
        rw [Int32.le_iff_toInt_le] at c2
        have e1 : (100 : Int32).toInt = 100 := rfl
        have e2 : (99 : Int32).toInt = 99 := rfl
        omega
      refine pr_rd h (r := loadI p1 p2 (A 2 7)) (ex_r (r := loadI p1 p2 (a 21 0)) ?_ (by rw [hv])) (fun xs => ?_)
      · refine ab_meth oX4_load 39 _ _ _ _ (Nat.le_refl _) rfl (fun E => ?_)
        refine ab_run [] 50 oX4_load.1 (Nat.le_refl _) 0 ?_
        refine ⟨_, _, x_isAct _ _ (Nat.le_refl _) _, Nat.le_refl _, ?_⟩
        refine br_n (fun c => ?_) (fun c => absurd c0 c)
        refine ⟨fun c => ?_, fun c => absurd (nlt_le c1) c⟩
        refine ⟨fun c => ?_, fun c => absurd (nle_lt c2) c⟩
        exact ⟨_, _, x_loadIn _ _ x a f _ _, Nat.le_refl _, rfl, rfl⟩
      · refine ab_meth oX5_load 39 _ _ _ _ (Nat.le_refl _) rfl (fun E => ?_)
        refine ab_run [] 50 oX5_load.1 (Nat.le_refl _) 0 ?_
        refine ⟨_, _, m_isAct _ _ (Nat.le_refl _) _, Nat.le_refl _, ?_⟩
        refine br_z (fun c => absurd c0 c) (fun c => ?_)
        refine ⟨_, _, m_within _ _ (Nat.le_refl _) _ _ _, Nat.le_refl _, ?_⟩
        have e : withI p2 0 99 = 0 := (if_neg c1).trans (if_neg c3)
        rw [e]
        refine ⟨fun c => ?_, fun c => absurd rfl c⟩
        exact ⟨_, _, m_loadOf _ g A xs _ _, Nat.le_refl _, rfl, rfl⟩
  · refine pr_rf h rc1 ?_ (fun xs => ?_)
    · refine ab_meth oX4_load 39 _ _ _ _ (Nat.le_refl _) rfl (fun E => ?_)
      refine ab_run [] 50 oX4_load.1 (Nat.le_refl _) 0 ?_
      refine ⟨_, _, x_isAct _ _ (Nat.le_refl _) _, Nat.le_refl _, ?_⟩
      refine br_n (fun c => absurd c c0) (fun c => ?_)
      exact ⟨_, _, x_rf _ _ x a f rc1, Nat.le_refl _, rfl, rfl⟩
    · refine ab_meth oX5_load 39 _ _ _ _ (Nat.le_refl _) rfl (fun E => ?_)
      refine ab_run [] 50 oX5_load.1 (Nat.le_refl _) 0 ?_
      refine ⟨_, _, m_isAct _ _ (Nat.le_refl _) _, Nat.le_refl _, ?_⟩
      refine br_z (fun c => ?_) (fun c => absurd c c0)
      refine ⟨fun c => absurd c (by decide), fun c => ?_⟩
      exact ⟨_, _, m_rf _ g A xs rc1, Nat.le_refl _, rfl, rfl⟩
-- stageOf
theorem ix_sk (i k : Nat) : (88 : Int32) + 3 * nI i + nI k = nI (88 + 3 * i + k) := by
  rw [show (88 : Int32) = nI 88 from rfl, show (3 : Int32) = nI 3 from rfl, pk_mul, nI_add, nI_add]
theorem m_stageOf (d : Nat) (g : mG) (A : mA) (xs : List AB) {i k n : Nat} (hi : i < n) (hn : n ≤ 8) (en : A 2 4 = nI n) (hk : k < 3) : ab_Ex (d + 2) 0 yX5_stageOf [vR 0 0, vI (nI i), vI (nI k)] (hM g A xs) (some (vI (A 2 (88 + 3 * i + k)))) (hM g A xs) := by
  have k2 : 0 ≤ nI i ∧ nI i < A 2 4 := by rw [en]; exact ⟨nI_pos' (by omega), ld_lt i n hi (by omega)⟩
  have k3 : 0 ≤ nI k ∧ nI k < 3 := ⟨nI_pos' (by omega), ld_lt k 3 hk (by omega)⟩
  refine ab_meth oX5_stageOf (d + 1) _ _ _ _ (Nat.le_refl _) rfl (fun E => ?_)
  refine ab_run [] 50 oX5_stageOf.1 (Nat.le_refl _) 0 ?_
  refine ⟨vp_d rfl, ?_⟩
  refine ⟨_, _, m_isIn _ _ (Nat.le_refl _) _ _, Nat.le_refl _, ?_⟩
  refine br_n (fun c => ?_) (fun c => absurd k2 c)
  refine ⟨_, _, m_isIn _ _ (Nat.le_refl _) _ _, Nat.le_refl _, ?_⟩
  refine br_z (fun c => absurd k3 c) (fun c => ?_)
  refine ⟨(by rw [ix_sk]; exact vp_in_nI (by omega) (by omega) : vp_in (88 + 3 * nI i + nI k) 112), ?_⟩
  refine ⟨?_, rfl⟩
  show some (vI (A 2 (88 + 3 * nI i + nI k).toNatClampNeg)) = _
  rw [ix_sk, nI_clamp (by omega)]
theorem p_stageOf : P_stageOf IV 40 := by
  intro p1 p2 g A x a f h
  have hb := h.2.2.2.2.2.1
  obtain ⟨n, hn, en, exn⟩ := IV_ns h
  by_cases c0 : 0 ≤ p1 ∧ p1 < nI n
  · obtain ⟨i, hi, rfl⟩ := ix_of (m := n) (by omega) c0
    have hv := hb.2.2.2.2 i (by omega) (by rw [en, nI_toInt (by omega)]; omega)
    have k0 : 0 ≤ nI i := c0.1
    have k1 : nI i < x 17 12 := by rw [exn]; exact c0.2
    have k2 : 0 ≤ nI i ∧ nI i < A 2 4 := by rw [en]; exact c0
    have hx : ∀ E : Nat × (Nat → Int32), vp_in (nI i) 8 := fun _ => vp_in_nI (by omega) (by omega)
    by_cases c1 : p2 = 0
    · subst c1
      refine pr_rd h (r := A 2 (88 + 3 * i)) (ex_r (r := a 22 i) ?_ hv.1.symm) (fun xs => m_stageOf 38 g A xs (k := 0) hi hn en (by decide))
      refine ab_meth oX4_stageOf 39 _ _ _ _ (Nat.le_refl _) rfl (fun E => ?_)
      refine ab_run [] 50 oX4_stageOf.1 (Nat.le_refl _) 0 ?_
      refine ⟨fun c => absurd c (le_nlt k0), fun c => ⟨fun c => ?_, fun c => absurd k1 c⟩⟩
      refine ⟨fun c => ?_, fun c => absurd rfl c⟩
      refine ⟨hx E, ?_, rfl⟩
      show some (vI (a 22 (nI i).toNatClampNeg)) = _
      rw [nI_clamp (by omega)]
    by_cases c2 : p2 = 1
    · subst c2
      refine pr_rd h (r := A 2 (88 + 3 * i + 1)) (ex_r (r := a 23 i) ?_ hv.2.1.symm) (fun xs => m_stageOf 38 g A xs (k := 1) hi hn en (by decide))
      refine ab_meth oX4_stageOf 39 _ _ _ _ (Nat.le_refl _) rfl (fun E => ?_)
      refine ab_run [] 50 oX4_stageOf.1 (Nat.le_refl _) 0 ?_
      refine ⟨fun c => absurd c (le_nlt k0), fun c => ⟨fun c => ?_, fun c => absurd k1 c⟩⟩
      refine ⟨fun c => absurd c (by decide), fun c => ⟨fun c => ?_, fun c => absurd rfl c⟩⟩
      refine ⟨hx E, ?_, rfl⟩
      show some (vI (a 23 (nI i).toNatClampNeg)) = _
      rw [nI_clamp (by omega)]
    by_cases c3 : p2 = 2
    · subst c3
      refine pr_rd h (r := A 2 (88 + 3 * i + 2)) (ex_r (r := a 24 i) ?_ hv.2.2.symm) (fun xs => m_stageOf 38 g A xs (k := 2) hi hn en (by decide))
      refine ab_meth oX4_stageOf 39 _ _ _ _ (Nat.le_refl _) rfl (fun E => ?_)
      refine ab_run [] 50 oX4_stageOf.1 (Nat.le_refl _) 0 ?_
      refine ⟨fun c => absurd c (le_nlt k0), fun c => ⟨fun c => ?_, fun c => absurd k1 c⟩⟩
      refine ⟨fun c => absurd c (by decide), fun c => ⟨fun c => absurd c (by decide), fun c => ⟨fun c => ?_, fun c => absurd rfl c⟩⟩⟩
      refine ⟨hx E, ?_, rfl⟩
      show some (vI (a 24 (nI i).toNatClampNeg)) = _
      rw [nI_clamp (by omega)]
    · have c4 : ¬ (0 ≤ p2 ∧ p2 < 3) := by
        intro q
        obtain ⟨j, hj, rfl⟩ := ix_of (v := p2) (m := 3) (by omega) q
        match j, hj with
        | 0, _ => exact c1 rfl
        | 1, _ => exact c2 rfl
        | 2, _ => exact c3 rfl
      refine pr_rf h rc2 ?_ (fun xs => ?_)
      · refine ab_meth oX4_stageOf 39 _ _ _ _ (Nat.le_refl _) rfl (fun E => ?_)
        refine ab_run [] 50 oX4_stageOf.1 (Nat.le_refl _) 0 ?_
        refine ⟨fun c => absurd c (le_nlt k0), fun c => ⟨fun c => ?_, fun c => absurd k1 c⟩⟩
        refine ⟨fun c => absurd c c1, fun c => ⟨fun c => absurd c c2, fun c => ⟨fun c => absurd c c3, fun c => ?_⟩⟩⟩
        exact ⟨_, _, x_rf _ _ x a f rc2, Nat.le_refl _, rfl, rfl⟩
      · refine ab_meth oX5_stageOf 39 _ _ _ _ (Nat.le_refl _) rfl (fun E => ?_)
        refine ab_run [] 50 oX5_stageOf.1 (Nat.le_refl _) 0 ?_
        refine ⟨vp_d rfl, ?_⟩
        refine ⟨_, _, m_isIn _ _ (Nat.le_refl _) _ _, Nat.le_refl _, ?_⟩
        refine br_n (fun c => ?_) (fun c => absurd k2 c)
        refine ⟨_, _, m_isIn _ _ (Nat.le_refl _) _ _, Nat.le_refl _, ?_⟩
        refine br_z (fun c => ?_) (fun c => absurd c c4)
        exact ⟨_, _, m_rf _ g A xs rc2, Nat.le_refl _, rfl, rfl⟩
  · have k2 : ¬ (0 ≤ p1 ∧ p1 < A 2 4) := by rw [en]; exact c0
    refine pr_rf h rc1 ?_ (fun xs => ?_)
    · refine ab_meth oX4_stageOf 39 _ _ _ _ (Nat.le_refl _) rfl (fun E => ?_)
      refine ab_run [] 50 oX4_stageOf.1 (Nat.le_refl _) 0 ?_
      refine ⟨fun c => ?_, fun c => ⟨fun c' => absurd ⟨nlt_le c, by rw [← exn]; exact c'⟩ c0, fun c => ?_⟩⟩
      · exact ⟨_, _, x_rf _ _ x a f rc1, Nat.le_refl _, rfl, rfl⟩
      · exact ⟨_, _, x_rf _ _ x a f rc1, Nat.le_refl _, rfl, rfl⟩
    · refine ab_meth oX5_stageOf 39 _ _ _ _ (Nat.le_refl _) rfl (fun E => ?_)
      refine ab_run [] 50 oX5_stageOf.1 (Nat.le_refl _) 0 ?_
      refine ⟨vp_d rfl, ?_⟩
      refine ⟨_, _, m_isIn _ _ (Nat.le_refl _) _ _, Nat.le_refl _, ?_⟩
      refine br_n (fun c => absurd c k2) (fun c => ?_)
      exact ⟨_, _, m_rf _ g A xs rc1, Nat.le_refl _, rfl, rfl⟩
