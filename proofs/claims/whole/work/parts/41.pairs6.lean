theorem bx_congr {u v : Nat → Int32} : ∀ (n : Nat), (∀ i, i < n → u i = v i) → bx_sum u n = bx_sum v n := by
  intro n
  induction n with
  | zero => intro _; rfl
  | succ n ih =>
    intro h
    show bx_sum u n + u n = bx_sum v n + v n
    rw [ih (fun i hi => h i (by omega)), h n (by omega)]
theorem sh_m1 (i : Nat) (hi : i < 8) : ((-1 : Int32) >>> (nI i &&& 31)) &&& 1 = 1 := by
  match i, hi with
  | 0, _ => decide
  | 1, _ => decide
  | 2, _ => decide
  | 3, _ => decide
  | 4, _ => decide
  | 5, _ => decide
  | 6, _ => decide
  | 7, _ => decide
theorem IV_wts {g : mG} {A x a : mA} {f : mF} (h : IV g A x a f) {m : Nat} (em : A 2 3 = nI m) (hm : m ≤ 8) : bx_sum (fun i => (((-1 : Int32) >>> (nI i &&& 31)) &&& 1) * f 20 i 3) m = bx_sum (fun i => A 2 (16 + 9 * i + 3)) m := by
  refine bx_congr m (fun i hi => ?_)
  rw [sh_m1 i (by omega), Int32.one_mul, (IV_flt h em hm hi).2 3 (by decide)]
theorem p_count : P_count IV 40 := by
  intro p1 g A x a f h
  have hb := h.2.2.2.2.2.1
  obtain ⟨m, hm, em, exm⟩ := IV_m h
  by_cases c0 : 10 < p1 ∧ p1 < 17
  · have d1 : 11 ≤ p1 := by
      have := Int32.lt_iff_toInt_lt.mp c0.1
      rw [Int32.le_iff_toInt_le]
      have e1 : (10 : Int32).toInt = 10 := rfl
      have e2 : (11 : Int32).toInt = 11 := rfl
      omega
    have d2 : p1 ≤ 16 := by
      have := Int32.lt_iff_toInt_lt.mp c0.2
      rw [Int32.le_iff_toInt_le]
      have e1 : (17 : Int32).toInt = 17 := rfl
      have e2 : (16 : Int32).toInt = 16 := rfl
      omega
    obtain ⟨k, hk, ek⟩ : ∃ k : Nat, k < 7 ∧ p1 - 10 = nI k := by
      have q1 := Int32.lt_iff_toInt_lt.mp c0.1
      have q2 := Int32.lt_iff_toInt_lt.mp c0.2
      have e1 : (10 : Int32).toInt = 10 := rfl
      have e2 : (17 : Int32).toInt = 17 := rfl
      have e3 : (p1 - 10).toInt = p1.toInt - 10 := ti_sub rfl rfl (by omega) (by omega)
      refine ⟨(p1.toInt - 10).toNat, by omega, nI_ti ?_⟩
      rw [e3]; omega
    refine pr_rd h (r := A 1 k) (ex_r (r := a 48 k) ?_ (h.1 k hk).symm) (fun xs => ?_)
    · refine ab_meth oX4_count 39 _ _ _ _ (Nat.le_refl _) rfl (fun E => ?_)
      refine ab_run [] 50 oX4_count.1 (Nat.le_refl _) 0 ?_
      refine ⟨fun c => absurd c (le_nlt d1), fun c => ⟨fun c => absurd c (le_nlt d2), fun c => ?_⟩⟩
      refine ⟨(by rw [ek]; exact vp_in_nI hk (by omega) : vp_in (p1 - 10) 7), ?_, rfl⟩
      show some (vI (a 48 (p1 - 10).toNatClampNeg)) = _
      rw [ek, nI_clamp (by omega)]
    · refine ab_meth oX5_count 39 _ _ _ _ (Nat.le_refl _) rfl (fun E => ?_)
      refine ab_run [] 50 oX5_count.1 (Nat.le_refl _) 0 ?_
      refine ⟨fun c => absurd c0.1 (le_nlt c), fun c => ⟨fun c => absurd c0.2 (le_nlt c), fun c => ?_⟩⟩
      refine ⟨(by rw [ek]; exact vp_in_nI hk (by omega) : vp_in (p1 - 10) 7), ?_, rfl⟩
      show some (vI (A 1 (p1 - 10).toNatClampNeg)) = _
      rw [ek, nI_clamp (by omega)]
  obtain ⟨n5, -, e51, e52, -⟩ := h.2.1
  obtain ⟨n6, -, e61, e62, -⟩ := h.2.2.1
  have h5 : x 14 1 = g 7 := e52.trans e51.symm
  have h6 : x 13 10 = g 24 := e62.trans e61.symm
  by_cases c10 : p1 = 0
  · subst c10
    refine pr_rd h (r := A 2 3) (ex_r (r := x 17 5) ?_ (hb.1.2.2.2.1.symm)) (fun xs => ?_)
    · refine ab_meth oX4_count 39 _ _ _ _ (Nat.le_refl _) rfl (fun E => ?_)
      refine ab_run [] 50 oX4_count.1 (Nat.le_refl _) 0 ?_
      refine ⟨fun c => ?_, fun c => absurd (by decide) c⟩
      refine ⟨fun c => ?_, fun c => absurd rfl c⟩
      exact ⟨rfl, rfl⟩
    · refine ab_meth oX5_count 39 _ _ _ _ (Nat.le_refl _) rfl (fun E => ?_)
      refine ab_run [] 50 oX5_count.1 (Nat.le_refl _) 0 ?_
      refine ⟨fun c => ?_, fun c => absurd (by decide) c⟩
      refine ⟨fun c => ?_, fun c => absurd rfl c⟩
      exact ⟨vp_d rfl, rfl, rfl⟩
  by_cases c11 : p1 = 1
  · subst c11
    refine pr_rd h (r := A 2 2) (ex_r (r := x 17 3) ?_ (hb.1.2.2.1.symm)) (fun xs => ?_)
    · refine ab_meth oX4_count 39 _ _ _ _ (Nat.le_refl _) rfl (fun E => ?_)
      refine ab_run [] 50 oX4_count.1 (Nat.le_refl _) 0 ?_
      refine ⟨fun c => ?_, fun c => absurd (by decide) c⟩
      refine ⟨fun c => absurd c (by decide), fun c => ⟨fun c => ?_, fun c => absurd rfl c⟩⟩
      exact ⟨rfl, rfl⟩
    · refine ab_meth oX5_count 39 _ _ _ _ (Nat.le_refl _) rfl (fun E => ?_)
      refine ab_run [] 50 oX5_count.1 (Nat.le_refl _) 0 ?_
      refine ⟨fun c => ?_, fun c => absurd (by decide) c⟩
      refine ⟨fun c => absurd c (by decide), fun c => ⟨fun c => ?_, fun c => absurd rfl c⟩⟩
      exact ⟨vp_d rfl, rfl, rfl⟩
  by_cases c12 : p1 = 2
  · subst c12
    refine pr_rd h (r := A 2 4) (ex_r (r := x 17 12) ?_ (hb.1.2.2.2.2.1.symm)) (fun xs => ?_)
    · refine ab_meth oX4_count 39 _ _ _ _ (Nat.le_refl _) rfl (fun E => ?_)
      refine ab_run [] 50 oX4_count.1 (Nat.le_refl _) 0 ?_
      refine ⟨fun c => ?_, fun c => absurd (by decide) c⟩
      refine ⟨fun c => absurd c (by decide), fun c => ⟨fun c => absurd c (by decide), fun c => ⟨fun c => ?_, fun c => absurd rfl c⟩⟩⟩
      exact ⟨rfl, rfl⟩
    · refine ab_meth oX5_count 39 _ _ _ _ (Nat.le_refl _) rfl (fun E => ?_)
      refine ab_run [] 50 oX5_count.1 (Nat.le_refl _) 0 ?_
      refine ⟨fun c => ?_, fun c => absurd (by decide) c⟩
      refine ⟨fun c => absurd c (by decide), fun c => ⟨fun c => absurd c (by decide), fun c => ⟨fun c => ?_, fun c => absurd rfl c⟩⟩⟩
      exact ⟨vp_d rfl, rfl, rfl⟩
  by_cases c13 : p1 = 3
  · subst c13
    refine pr_rd h (r := A 2 5) (ex_r (r := x 17 7) ?_ (hb.1.2.2.2.2.2.1.symm)) (fun xs => ?_)
    · refine ab_meth oX4_count 39 _ _ _ _ (Nat.le_refl _) rfl (fun E => ?_)
      refine ab_run [] 50 oX4_count.1 (Nat.le_refl _) 0 ?_
      refine ⟨fun c => ?_, fun c => absurd (by decide) c⟩
      refine ⟨fun c => absurd c (by decide), fun c => ⟨fun c => absurd c (by decide), fun c => ⟨fun c => absurd c (by decide), fun c => ⟨fun c => ?_, fun c => absurd rfl c⟩⟩⟩⟩
      exact ⟨rfl, rfl⟩
    · refine ab_meth oX5_count 39 _ _ _ _ (Nat.le_refl _) rfl (fun E => ?_)
      refine ab_run [] 50 oX5_count.1 (Nat.le_refl _) 0 ?_
      refine ⟨fun c => ?_, fun c => absurd (by decide) c⟩
      refine ⟨fun c => absurd c (by decide), fun c => ⟨fun c => absurd c (by decide), fun c => ⟨fun c => absurd c (by decide), fun c => ⟨fun c => ?_, fun c => absurd rfl c⟩⟩⟩⟩
      exact ⟨vp_d rfl, rfl, rfl⟩
  by_cases c14 : p1 = 4
  · subst c14
    refine pr_rd h (r := (if A 2 6 < 0 then -9 else A 2 5 - A 2 6)) (ex_r (r := (if A 2 6 < 0 then -9 else A 2 5 - A 2 6)) ?_ (rfl)) (fun xs => ?_)
    · refine ab_meth oX4_count 39 _ _ _ _ (Nat.le_refl _) rfl (fun E => ?_)
      refine ab_run [] 50 oX4_count.1 (Nat.le_refl _) 0 ?_
      refine ⟨fun c => ?_, fun c => absurd (by decide) c⟩
      refine ⟨fun c => absurd c (by decide), fun c => ⟨fun c => absurd c (by decide), fun c => ⟨fun c => absurd c (by decide), fun c => ⟨fun c => absurd c (by decide), fun c => ⟨fun c => ?_, fun c => absurd rfl c⟩⟩⟩⟩⟩
      refine ⟨_, _, x_wasOiled _ _ x a f, Nat.le_refl _, ?_⟩
      rw [hb.1.2.2.2.2.2.1, hb.1.2.2.2.2.2.2]
      refine br_z (fun c => ?_) (fun c => ?_)
      · rw [if_pos (nle_lt c)]
        exact ⟨rfl, rfl⟩
      · rw [if_neg (le_nlt c)]
        exact ⟨rfl, rfl⟩
    · refine ab_meth oX5_count 39 _ _ _ _ (Nat.le_refl _) rfl (fun E => ?_)
      refine ab_run [] 50 oX5_count.1 (Nat.le_refl _) 0 ?_
      refine ⟨fun c => ?_, fun c => absurd (by decide) c⟩
      refine ⟨fun c => absurd c (by decide), fun c => ⟨fun c => absurd c (by decide), fun c => ⟨fun c => absurd c (by decide), fun c => ⟨fun c => absurd c (by decide), fun c => ⟨fun c => ?_, fun c => absurd rfl c⟩⟩⟩⟩⟩
      refine ⟨vp_d rfl, ?_⟩
      refine ⟨fun c => ?_, fun c => ?_⟩
      · have c : 0 ≤ A 2 6 := c
        rw [if_neg (le_nlt c)]
        exact ⟨vp_d rfl, vp_d rfl, rfl, rfl⟩
      · have c : ¬ 0 ≤ A 2 6 := c
        rw [if_pos (nle_lt c)]
        exact ⟨rfl, rfl⟩
  by_cases c15 : p1 = 5
  · subst c15
    refine pr_rd h (r := g 7) (ex_r (r := x 14 1) ?_ (h5)) (fun xs => ?_)
    · refine ab_meth oX4_count 39 _ _ _ _ (Nat.le_refl _) rfl (fun E => ?_)
      refine ab_run [] 50 oX4_count.1 (Nat.le_refl _) 0 ?_
      refine ⟨fun c => ?_, fun c => absurd (by decide) c⟩
      refine ⟨fun c => absurd c (by decide), fun c => ⟨fun c => absurd c (by decide), fun c => ⟨fun c => absurd c (by decide), fun c => ⟨fun c => absurd c (by decide), fun c => ⟨fun c => absurd c (by decide), fun c => ⟨fun c => ?_, fun c => absurd rfl c⟩⟩⟩⟩⟩⟩
      exact ⟨rfl, rfl⟩
    · refine ab_meth oX5_count 39 _ _ _ _ (Nat.le_refl _) rfl (fun E => ?_)
      refine ab_run [] 50 oX5_count.1 (Nat.le_refl _) 0 ?_
      refine ⟨fun c => ?_, fun c => absurd (by decide) c⟩
      refine ⟨fun c => absurd c (by decide), fun c => ⟨fun c => absurd c (by decide), fun c => ⟨fun c => absurd c (by decide), fun c => ⟨fun c => absurd c (by decide), fun c => ⟨fun c => absurd c (by decide), fun c => ⟨fun c => ?_, fun c => absurd rfl c⟩⟩⟩⟩⟩⟩
      exact ⟨rfl, rfl⟩
  by_cases c16 : p1 = 6
  · subst c16
    refine pr_rd h (r := g 24) (ex_r (r := x 13 10) ?_ (h6)) (fun xs => ?_)
    · refine ab_meth oX4_count 39 _ _ _ _ (Nat.le_refl _) rfl (fun E => ?_)
      refine ab_run [] 50 oX4_count.1 (Nat.le_refl _) 0 ?_
      refine ⟨fun c => ?_, fun c => absurd (by decide) c⟩
      refine ⟨fun c => absurd c (by decide), fun c => ⟨fun c => absurd c (by decide), fun c => ⟨fun c => absurd c (by decide), fun c => ⟨fun c => absurd c (by decide), fun c => ⟨fun c => absurd c (by decide), fun c => ⟨fun c => absurd c (by decide), fun c => ⟨fun c => ?_, fun c => absurd rfl c⟩⟩⟩⟩⟩⟩⟩
      exact ⟨rfl, rfl⟩
    · refine ab_meth oX5_count 39 _ _ _ _ (Nat.le_refl _) rfl (fun E => ?_)
      refine ab_run [] 50 oX5_count.1 (Nat.le_refl _) 0 ?_
      refine ⟨fun c => ?_, fun c => absurd (by decide) c⟩
      refine ⟨fun c => absurd c (by decide), fun c => ⟨fun c => absurd c (by decide), fun c => ⟨fun c => absurd c (by decide), fun c => ⟨fun c => absurd c (by decide), fun c => ⟨fun c => absurd c (by decide), fun c => ⟨fun c => absurd c (by decide), fun c => ⟨fun c => ?_, fun c => absurd rfl c⟩⟩⟩⟩⟩⟩⟩
      exact ⟨rfl, rfl⟩
  by_cases c17 : p1 = 7
  · subst c17
    refine pr_rd h (r := bx_sum (fun i => A 2 (16 + 9 * i + 3)) m) (ex_r (r := bx_sum (fun i => (((-1 : Int32) >>> (nI i &&& 31)) &&& 1) * f 20 i 3) m) ?_ (IV_wts h em hm)) (fun xs => ?_)
    · refine ab_meth oX4_count 39 _ _ _ _ (Nat.le_refl _) rfl (fun E => ?_)
      refine ab_run [] 50 oX4_count.1 (Nat.le_refl _) 0 ?_
      refine ⟨fun c => ?_, fun c => absurd (by decide) c⟩
      refine ⟨fun c => absurd c (by decide), fun c => ⟨fun c => absurd c (by decide), fun c => ⟨fun c => absurd c (by decide), fun c => ⟨fun c => absurd c (by decide), fun c => ⟨fun c => absurd c (by decide), fun c => ⟨fun c => absurd c (by decide), fun c => ⟨fun c => absurd c (by decide), fun c => ⟨fun c => ?_, fun c => absurd rfl c⟩⟩⟩⟩⟩⟩⟩⟩
      exact ⟨_, _, x_weightOf _ _ x a f exm hm _, Nat.le_refl _, rfl, rfl⟩
    · refine ab_meth oX5_count 39 _ _ _ _ (Nat.le_refl _) rfl (fun E => ?_)
      refine ab_run [] 50 oX5_count.1 (Nat.le_refl _) 0 ?_
      refine ⟨fun c => ?_, fun c => absurd (by decide) c⟩
      refine ⟨fun c => absurd c (by decide), fun c => ⟨fun c => absurd c (by decide), fun c => ⟨fun c => absurd c (by decide), fun c => ⟨fun c => absurd c (by decide), fun c => ⟨fun c => absurd c (by decide), fun c => ⟨fun c => absurd c (by decide), fun c => ⟨fun c => absurd c (by decide), fun c => ⟨fun c => ?_, fun c => absurd rfl c⟩⟩⟩⟩⟩⟩⟩⟩
      exact ⟨_, _, m_weights _ g A xs em hm, Nat.le_refl _, rfl, rfl⟩
  · refine pr_rd h (r := -9) ?_ (fun xs => ?_)
    · refine ab_meth oX4_count 39 _ _ _ _ (Nat.le_refl _) rfl (fun E => ?_)
      refine ab_run [] 50 oX4_count.1 (Nat.le_refl _) 0 ?_
      refine ⟨fun c => ⟨fun c => absurd c c10, fun c => ⟨fun c => absurd c c11, fun c => ⟨fun c => absurd c c12, fun c => ⟨fun c => absurd c c13, fun c => ⟨fun c => absurd c c14, fun c => ⟨fun c => absurd c c15, fun c => ⟨fun c => absurd c c16, fun c => ⟨fun c => absurd c c17, fun c => ⟨rfl, rfl⟩⟩⟩⟩⟩⟩⟩⟩⟩, fun c1 => ⟨fun c => ⟨fun c => absurd c c10, fun c => ⟨fun c => absurd c c11, fun c => ⟨fun c => absurd c c12, fun c => ⟨fun c => absurd c c13, fun c => ⟨fun c => absurd c c14, fun c => ⟨fun c => absurd c c15, fun c => ⟨fun c => absurd c c16, fun c => ⟨fun c => absurd c c17, fun c => ⟨rfl, rfl⟩⟩⟩⟩⟩⟩⟩⟩⟩, fun c2 => absurd ?_ c0⟩⟩
      have c1 : ¬ p1 < 11 := c1
      have c2 : ¬ 16 < p1 := c2
      rw [Int32.lt_iff_toInt_lt] at c1 c2
      have e1 : (11 : Int32).toInt = 11 := rfl
      have e2 : (16 : Int32).toInt = 16 := rfl
      have e3 : (10 : Int32).toInt = 10 := rfl
      have e4 : (17 : Int32).toInt = 17 := rfl
      constructor
      · rw [Int32.lt_iff_toInt_lt]; omega
      · rw [Int32.lt_iff_toInt_lt]; omega
    · refine ab_meth oX5_count 39 _ _ _ _ (Nat.le_refl _) rfl (fun E => ?_)
      refine ab_run [] 50 oX5_count.1 (Nat.le_refl _) 0 ?_
      refine ⟨fun c => ⟨fun c => absurd c c10, fun c => ⟨fun c => absurd c c11, fun c => ⟨fun c => absurd c c12, fun c => ⟨fun c => absurd c c13, fun c => ⟨fun c => absurd c c14, fun c => ⟨fun c => absurd c c15, fun c => ⟨fun c => absurd c c16, fun c => ⟨fun c => absurd c c17, fun c => ⟨rfl, rfl⟩⟩⟩⟩⟩⟩⟩⟩⟩, fun c1 => ⟨fun c => ⟨fun c => absurd c c10, fun c => ⟨fun c => absurd c c11, fun c => ⟨fun c => absurd c c12, fun c => ⟨fun c => absurd c c13, fun c => ⟨fun c => absurd c c14, fun c => ⟨fun c => absurd c c15, fun c => ⟨fun c => absurd c c16, fun c => ⟨fun c => absurd c c17, fun c => ⟨rfl, rfl⟩⟩⟩⟩⟩⟩⟩⟩⟩, fun c2 => absurd ⟨nle_lt c1, nle_lt c2⟩ c0⟩⟩
