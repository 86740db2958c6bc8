def dyT (A : mA) (i : Nat) : Nat := if A 2 (16 + 9 * i) = 5 then wtN A i else 0
theorem dy_m {g : mG} {A x a : mA} {f : mF} (h : IV g A x a f) {m : Nat} (em : A 2 3 = nI m) (hm : m ≤ 8) : bx_sum (fun i => if A 2 (16 + 9 * i) = 5 then A 2 (16 + 9 * i + 3) else 0) m = nI (nsN (dyT A) m) ∧ bx_sum (fun i => if f 20 i 0 = 5 then f 20 i 3 else 0) m = nI (nsN (dyT A) m) ∧ nsN (dyT A) m ≤ 1000 := by
  have h1 : bx_sum (fun i => if A 2 (16 + 9 * i) = 5 then A 2 (16 + 9 * i + 3) else 0) m = nI (nsN (dyT A) m) := by
    refine bx_nat m (fun i hi => ?_)
    obtain ⟨e1, e2, -, -⟩ := wtN_ok h em hm hi
    show (if A 2 (16 + 9 * i) = 5 then A 2 (16 + 9 * i + 3) else 0) = nI (dyT A i)
    unfold dyT
    by_cases q : A 2 (16 + 9 * i) = 5
    · rw [if_pos q, if_pos q, e1]
    · rw [if_neg q, if_neg q, nI_0]
  refine ⟨h1, ?_, ?_⟩
  · rw [← h1]
    refine bx_congr m (fun i hi => ?_)
    obtain ⟨e1, e2, -, -⟩ := wtN_ok h em hm hi
    show (if f 20 i 0 = 5 then f 20 i 3 else 0) = (if A 2 (16 + 9 * i) = 5 then A 2 (16 + 9 * i + 3) else 0)
    rw [e1, e2, show A 2 (16 + 9 * i) = f 20 i 0 from (IV_flt h em hm hi).2 0 (by decide)]
  · have h2 := nsN_le (t := dyT A) m (fun i hi => by
      have := wtN_ok h em hm hi
      unfold dyT
      split
      · omega
      · omega)
    omega
theorem wt_m {g : mG} {A x a : mA} {f : mF} (h : IV g A x a f) {m : Nat} (em : A 2 3 = nI m) (hm : m ≤ 8) (h0 : 0 < m) : bx_sum (fun i => A 2 (16 + 9 * i + 3)) m = nI (nsN (wtN A) m) ∧ 1 ≤ nsN (wtN A) m ∧ nsN (wtN A) m ≤ 1000 := by
  have h1 := nsN_ge (t := wtN A) m h0
  have h2 := (wtN_ok h em hm h0).2.2.1
  have h3 := nsN_le (t := wtN A) m (fun i hi => (wtN_ok h em hm hi).2.2.2)
  exact ⟨bx_nat m (fun i hi => (wtN_ok h em hm hi).1), by omega, by omega⟩
set_option maxRecDepth 100000 in
theorem x_away (mb : Nat → AB) (x a : mA) (f : mF) {m : Nat} (exm : x 17 5 = nI m) (hm : m ≤ 8) (p1 R : Int32) (h0 : AH) (E : Nat × (Nat → Int32)) (hL : ab_Ex 39 1 yX4_leastTerm [vI (bx_sum (fun i => if f 20 i 0 = 5 then f 20 i 3 else 0) m), vI (bx_sum (fun i => (((-1 : Int32) >>> (nI i &&& 31)) &&& 1) * f 20 i 3) m), vI p1] (hX mb x a f) (some (vI R)) (hX mb x a f)) : ab_W jX4_away 39 E h0 70 (fun v1 h1 => v1 = some (vI R) ∧ h1 = hX mb x a f) (ab_at iX4_away 37) [(3, vI (nI 0)), (2, vI 0), (0, vR 13 0), (1, vI p1)] [] (hX mb x a f) := by
  have loop : ∀ (k i : Nat), i + k = m → ab_W jX4_away 39 E h0 70 (fun v1 h1 => v1 = some (vI R) ∧ h1 = hX mb x a f) (ab_at iX4_away 37) [(3, vI (nI i)), (2, vI (bx_sum (fun i => if f 20 i 0 = 5 then f 20 i 3 else 0) i)), (0, vR 13 0), (1, vI p1)] [] (hX mb x a f) := by
    intro k
    induction k with
    | zero =>
      intro i hi
      have him : i = m := by omega
      subst him
      refine ab_run [37] 100 oX4_away.1 (Nat.le_refl _) 37 ?_
      refine ⟨fun _ => ?_, fun (c1 : ¬ x 17 5 ≤ nI i) => ?_⟩
      · refine ⟨_, _, x_weightOf _ mb x a f exm hm (-1), Nat.le_refl _, ?_⟩
        refine ⟨_, _, hL, Nat.le_refl _, ?_⟩
        exact ⟨rfl, rfl⟩
      · rw [exm] at c1
        exact absurd (nI_le (by omega) (by omega)) c1
    | succ k ih =>
      intro i hi
      have h9 := ih (i + 1) (by omega)
      rw [nI_succ, show bx_sum (fun i => if f 20 i 0 = 5 then f 20 i 3 else 0) (i + 1) = bx_sum (fun i => if f 20 i 0 = 5 then f 20 i 3 else 0) i + (if f 20 i 0 = 5 then f 20 i 3 else 0) from rfl] at h9
      refine ab_run [37] 100 oX4_away.1 (Nat.le_refl _) 37 ?_
      refine ⟨fun (c1 : x 17 5 ≤ nI i) => ?_, fun _ => ?_⟩
      · rw [exm] at c1
        exact absurd c1 (nI_lt_m (by omega) (by omega))
      refine ⟨vp_in_nI (by omega) (by omega), ⟨(20, i), by rw [nI_clamp (by omega)]; exact ab_fa_at 20 (by omega), ?_⟩⟩
      refine ⟨ck20 (by omega), ?_⟩
      refine ⟨fun (c2 : ¬ f 20 i 0 = 5) => ?_, fun (c2 : f 20 i 0 = 5) => ?_⟩
      · rw [if_neg c2] at h9
        exact h9
      · rw [if_pos c2] at h9
        refine ⟨vp_in_nI (by omega) (by omega), ⟨(20, i), by rw [nI_clamp (by omega)]; exact ab_fa_at 20 (by omega), ?_⟩⟩
        refine ⟨ck20 (by omega), ?_⟩
        exact h9
  exact loop m 0 (by omega)
set_option maxRecDepth 100000 in
theorem m_away (g : mG) (A : mA) (xs : List AB) {m : Nat} (em : A 2 3 = nI m) (hm : m ≤ 8) (p1 R : Int32) (h0 : AH) (E : Nat × (Nat → Int32)) (hL : ab_Ex 39 0 yX5_partOf [vR 0 0, vI (bx_sum (fun i => if A 2 (16 + 9 * i) = 5 then A 2 (16 + 9 * i + 3) else 0) m), vI (bx_sum (fun i => A 2 (16 + 9 * i + 3)) m), vI p1] (hM g A xs) (some (vI R)) (hM g A xs)) : ab_W jX5_away 39 E h0 70 (fun v1 h1 => v1 = some (vI R) ∧ h1 = hM g A xs) (ab_at iX5_away 35) [(3, vI (nI 0)), (2, vI 0), (0, vR 0 0), (1, vI p1)] [] (hM g A xs) := by
  have loop : ∀ (k i : Nat), i + k = m → ab_W jX5_away 39 E h0 70 (fun v1 h1 => v1 = some (vI R) ∧ h1 = hM g A xs) (ab_at iX5_away 35) [(3, vI (nI i)), (2, vI (bx_sum (fun i => if A 2 (16 + 9 * i) = 5 then A 2 (16 + 9 * i + 3) else 0) i)), (0, vR 0 0), (1, vI p1)] [] (hM g A xs) := by
    intro k
    induction k with
    | zero =>
      intro i hi
      have him : i = m := by omega
      subst him
      refine ab_run [35] 100 oX5_away.1 (Nat.le_refl _) 35 ?_
      refine ⟨vp_d rfl, fun _ => ?_, fun (c1 : ¬ A 2 3 ≤ nI i) => ?_⟩
      · refine ⟨_, _, m_weights _ g A xs em hm, Nat.le_refl _, ?_⟩
        refine ⟨_, _, hL, Nat.le_refl _, ?_⟩
        exact ⟨rfl, rfl⟩
      · rw [em] at c1
        exact absurd (nI_le (by omega) (by omega)) c1
    | succ k ih =>
      intro i hi
      have h9 := ih (i + 1) (by omega)
      rw [nI_succ, show bx_sum (fun i => if A 2 (16 + 9 * i) = 5 then A 2 (16 + 9 * i + 3) else 0) (i + 1) = bx_sum (fun i => if A 2 (16 + 9 * i) = 5 then A 2 (16 + 9 * i + 3) else 0) i + (if A 2 (16 + 9 * i) = 5 then A 2 (16 + 9 * i + 3) else 0) from rfl] at h9
      refine ab_run [35] 100 oX5_away.1 (Nat.le_refl _) 35 ?_
      refine ⟨vp_d rfl, fun (c1 : A 2 3 ≤ nI i) => ?_, fun _ => ?_⟩
      · rw [em] at c1
        exact absurd c1 (nI_lt_m (by omega) (by omega))
      refine ⟨_, _, m_get0 _ g A xs i (by omega), Nat.le_refl _, ?_⟩
      refine ⟨fun c2 => ?_, fun c2 => ?_⟩
      · rw [if_neg c2] at h9
        exact h9
      · rw [if_pos c2] at h9
        refine ⟨_, _, m_get _ g A xs i 3 (by omega), Nat.le_refl _, ?_⟩
        exact h9
  exact loop m 0 (by omega)
set_option maxRecDepth 100000 in
theorem p_away : P_away IV 40 := by
  intro p1 g A x a f h
  obtain ⟨m, hm, em, exm⟩ := IV_m h
  have z0 : (0 : Int32).toInt = 0 := rfl
  have z1 : (1 : Int32).toInt = 1 := rfl
  have z2 : (2 : Int32).toInt = 2 := rfl
  by_cases c0 : 0 ≤ p1 ∧ p1 < 2
  · have hk2 : ¬ p1 = 0 → ¬ p1 = 1 → False := by
      intro c1 c2
      have q1 := Int32.le_iff_toInt_le.mp c0.1
      have q2 := Int32.lt_iff_toInt_lt.mp c0.2
      rcases (by omega : p1.toInt = 0 ∨ p1.toInt = 1) with q | q
      · exact absurd (Int32.toInt_inj.mp (by omega)) c1
      · exact absurd (Int32.toInt_inj.mp (by omega)) c2
    by_cases c3 : A 2 3 = 0
    · have c3x : x 17 5 = 0 := by rw [← h.2.2.2.2.2.1.1.2.2.2.1]; exact c3
      refine pr_rf h rc3 ?_ (fun xs => ?_)
      · refine ab_meth oX4_away 39 _ _ _ _ (Nat.le_refl _) rfl (fun E => ?_)
        have K : ab_W jX4_away 39 E (hX (mbl g A) x a f) 70 (fun v1 h1 => v1 = some (vI (-3)) ∧ h1 = hX (mbl g A) x (rfX a (-3)) f) (ab_at iX4_away 16) [(0, vR 13 0), (1, vI p1)] [] (hX (mbl g A) x a f) := by
          refine ab_run [37] 100 oX4_away.1 (Nat.le_refl _) 16 ?_
          refine ⟨fun c => absurd c3x c, fun c => ?_⟩
          exact ⟨_, _, x_rf _ _ x a f rc3, Nat.le_refl _, rfl, rfl⟩
        refine ab_run [16] 100 oX4_away.1 (Nat.le_refl _) 0 ?_
        exact ⟨fun _ => K, fun d1 => ⟨fun _ => K, fun d2 => (hk2 d1 d2).elim⟩⟩
      · refine ab_meth oX5_away 39 _ _ _ _ (Nat.le_refl _) rfl (fun E => ?_)
        refine ab_run [35] 100 oX5_away.1 (Nat.le_refl _) 0 ?_
        refine ⟨_, _, m_isIn _ _ (Nat.le_refl _) _ _, Nat.le_refl _, ?_⟩
        refine br_n (fun c => ?_) (fun c => absurd c0 c)
        refine ⟨vp_d rfl, ?_⟩
        refine ⟨fun c => absurd c3 c, fun c => ?_⟩
        exact ⟨_, _, m_rf _ g A xs rc3, Nat.le_refl _, rfl, rfl⟩
    have c3x : ¬ x 17 5 = 0 := by rw [← h.2.2.2.2.2.1.1.2.2.2.1]; exact c3
    have hm0 : 0 < m := Nat.pos_of_ne_zero (fun z => c3 (by rw [em, z]; exact nI_0))
    obtain ⟨d1, d2, d3⟩ := dy_m h em hm
    obtain ⟨w1, w2, w3⟩ := wt_m h em hm hm0
    have hLT : ab_Ex 39 1 yX4_leastTerm [vI (bx_sum (fun i => if f 20 i 0 = 5 then f 20 i 3 else 0) m), vI (bx_sum (fun i => (((-1 : Int32) >>> (nI i &&& 31)) &&& 1) * f 20 i 3) m), vI p1] (hX (mbl g A) x a f) (some (vI (nI ((if p1 = 0 then nsN (dyT A) m else nsN (wtN A) m) / Nat.gcd (nsN (dyT A) m) (nsN (wtN A) m))))) (hX (mbl g A) x a f) := by
      rw [d2, IV_wts h em hm, w1]
      exact x_leastTerm 38 _ (Nat.le_refl _) d3 w2 w3 p1
    have hPO : ∀ xs, ab_Ex 39 0 yX5_partOf [vR 0 0, vI (bx_sum (fun i => if A 2 (16 + 9 * i) = 5 then A 2 (16 + 9 * i + 3) else 0) m), vI (bx_sum (fun i => A 2 (16 + 9 * i + 3)) m), vI p1] (hM g A xs) (some (vI (nI ((if p1 = 0 then nsN (dyT A) m else nsN (wtN A) m) / Nat.gcd (nsN (dyT A) m) (nsN (wtN A) m))))) (hM g A xs) := by
      intro xs
      rw [d1, w1]
      exact m_partOf 17 g A xs d3 w2 w3 p1
    refine pr_rd h (r := nI ((if p1 = 0 then nsN (dyT A) m else nsN (wtN A) m) / Nat.gcd (nsN (dyT A) m) (nsN (wtN A) m))) ?_ (fun xs => ?_)
    · refine ab_meth oX4_away 39 _ _ _ _ (Nat.le_refl _) rfl (fun E => ?_)
      have K : ab_W jX4_away 39 E (hX (mbl g A) x a f) 70 (fun v1 h1 => v1 = some (vI (nI ((if p1 = 0 then nsN (dyT A) m else nsN (wtN A) m) / Nat.gcd (nsN (dyT A) m) (nsN (wtN A) m)))) ∧ h1 = hX (mbl g A) x a f) (ab_at iX4_away 16) [(0, vR 13 0), (1, vI p1)] [] (hX (mbl g A) x a f) := by
        refine ab_run [37] 100 oX4_away.1 (Nat.le_refl _) 16 ?_
        refine ⟨fun c => ?_, fun c => absurd c c3x⟩
        exact x_away (mbl g A) x a f exm hm p1 _ _ E hLT
      refine ab_run [16] 100 oX4_away.1 (Nat.le_refl _) 0 ?_
      exact ⟨fun _ => K, fun d1 => ⟨fun _ => K, fun d2 => (hk2 d1 d2).elim⟩⟩
    · refine ab_meth oX5_away 39 _ _ _ _ (Nat.le_refl _) rfl (fun E => ?_)
      refine ab_run [35] 100 oX5_away.1 (Nat.le_refl _) 0 ?_
      refine ⟨_, _, m_isIn _ _ (Nat.le_refl _) _ _, Nat.le_refl _, ?_⟩
      refine br_n (fun c => ?_) (fun c => absurd c0 c)
      refine ⟨vp_d rfl, ?_⟩
      refine ⟨fun c => ?_, fun c => absurd c c3⟩
      exact m_away g A xs em hm p1 _ _ E (hPO xs)
  · have d0 : ¬ p1 = 0 := fun q => c0 (by rw [q]; decide)
    have d1 : ¬ p1 = 1 := fun q => c0 (by rw [q]; decide)
    refine pr_rf h rc2 ?_ (fun xs => ?_)
    · refine ab_meth oX4_away 39 _ _ _ _ (Nat.le_refl _) rfl (fun E => ?_)
      refine ab_run [16] 100 oX4_away.1 (Nat.le_refl _) 0 ?_
      refine ⟨fun c => absurd c d0, fun c => ?_⟩
      refine ⟨fun c => absurd c d1, fun c => ?_⟩
      exact ⟨_, _, x_rf _ _ x a f rc2, Nat.le_refl _, rfl, rfl⟩
    · refine ab_meth oX5_away 39 _ _ _ _ (Nat.le_refl _) rfl (fun E => ?_)
      refine ab_run [35] 100 oX5_away.1 (Nat.le_refl _) 0 ?_
      refine ⟨_, _, m_isIn _ _ (Nat.le_refl _) _ _, Nat.le_refl _, ?_⟩
      refine br_n (fun c => absurd c c0) (fun c => ?_)
      exact ⟨_, _, m_rf _ g A xs rc2, Nat.le_refl _, rfl, rfl⟩
