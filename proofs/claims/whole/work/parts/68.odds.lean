theorem bit01 (y : Int32) : y &&& 1 = 0 ∨ y &&& 1 = 1 := by
  obtain ⟨j, hj, e⟩ := pk_andE y (m := 1) 1 rfl
  rw [e]
  rcases (by omega : j = 0 ∨ j = 1) with rfl | rfl
  · exact Or.inl rfl
  · exact Or.inr rfl
def wtN (A : mA) (i : Nat) : Nat := (A 2 (16 + 9 * i + 3)).toNatClampNeg
theorem wtN_ok {g : mG} {A x a : mA} {f : mF} (h : IV g A x a f) {m i : Nat} (em : A 2 3 = nI m) (hm : m ≤ 8) (hi : i < m) : A 2 (16 + 9 * i + 3) = nI (wtN A i) ∧ f 20 i 3 = nI (wtN A i) ∧ 1 ≤ wtN A i ∧ wtN A i ≤ 99 := by
  obtain ⟨hw, hv⟩ := IV_flt h em hm hi
  have h3 := hw.2.2.2.1
  have c := ti_clamp (x := A 2 (16 + 9 * i + 3)) (by omega)
  have e : A 2 (16 + 9 * i + 3) = nI (wtN A i) := ti_nat (by omega)
  unfold wtN at *
  exact ⟨e, (hv 3 (by decide)).symm.trans e, by omega, by omega⟩
def odT (A : mA) (S : Int32) (i : Nat) : Nat := if (S >>> (nI i &&& 31)) &&& 1 = 1 then wtN A i else 0
theorem odT_x {g : mG} {A x a : mA} {f : mF} (h : IV g A x a f) {m : Nat} (em : A 2 3 = nI m) (hm : m ≤ 8) (S : Int32) : bx_sum (fun i => ((S >>> (nI i &&& 31)) &&& 1) * f 20 i 3) m = nI (nsN (odT A S) m) := by
  refine bx_nat m (fun i hi => ?_)
  obtain ⟨e1, e2, -, -⟩ := wtN_ok h em hm hi
  show ((S >>> (nI i &&& 31)) &&& 1) * f 20 i 3 = nI (odT A S i)
  unfold odT
  rcases bit01 (S >>> (nI i &&& 31)) with q | q
  · rw [q, if_neg (by decide), Int32.zero_mul, nI_0]
  · rw [q, if_pos rfl, Int32.one_mul, e2]
theorem odT_m {g : mG} {A x a : mA} {f : mF} (h : IV g A x a f) {m : Nat} (em : A 2 3 = nI m) (hm : m ≤ 8) (S : Int32) : bx_sum (fun i => if (S >>> (nI i &&& 31)) &&& 1 = 1 then A 2 (16 + 9 * i + 3) else 0) m = nI (nsN (odT A S) m) := by
  refine bx_nat m (fun i hi => ?_)
  obtain ⟨e1, e2, -, -⟩ := wtN_ok h em hm hi
  show (if (S >>> (nI i &&& 31)) &&& 1 = 1 then A 2 (16 + 9 * i + 3) else 0) = nI (odT A S i)
  unfold odT
  by_cases q : (S >>> (nI i &&& 31)) &&& 1 = 1
  · rw [if_pos q, if_pos q, e1]
  · rw [if_neg q, if_neg q, nI_0]
theorem odT_le {g : mG} {A x a : mA} {f : mF} (h : IV g A x a f) {m : Nat} (em : A 2 3 = nI m) (hm : m ≤ 8) (S : Int32) : nsN (odT A S) m ≤ 1000 := by
  have h1 := nsN_le (t := odT A S) m (fun i hi => by
    have := wtN_ok h em hm hi
    unfold odT
    split
    · omega
    · omega)
  omega
set_option maxRecDepth 100000 in
theorem m_oddsum (G : mG) (B : mA) (xs : List AB) {m : Nat} (em : B 2 3 = nI m) (hm : m ≤ 8) (S p2 p3 p4 w5 : Int32) {j : Nat} (hj : j < 8) (R : Int32) (h0 : AH) (E : Nat × (Nat → Int32)) (hP : ab_Ex 39 0 yX5_partOf [vR 0 0, vI (B 2 (16 + 9 * j + 3)), vI (bx_sum (fun i => if (S >>> (nI i &&& 31)) &&& 1 = 1 then B 2 (16 + 9 * i + 3) else 0) m), vI p4] (hM G B xs) (some (vI R)) (hM G B xs)) : ab_W jX5_odds 39 E h0 70 (fun v1 h1 => v1 = some (vI R) ∧ h1 = hM G B xs) (ab_at iX5_odds 79) [(8, vI (nI 0)), (7, vI 0), (6, vI S), (5, vI w5), (0, vR 0 0), (1, vI (nI j)), (2, vI p2), (3, vI p3), (4, vI p4)] [] (hM G B xs) := by
  have loop : ∀ (k i : Nat), i + k = m → ab_W jX5_odds 39 E h0 70 (fun v1 h1 => v1 = some (vI R) ∧ h1 = hM G B xs) (ab_at iX5_odds 79) [(8, vI (nI i)), (7, vI (bx_sum (fun i => if (S >>> (nI i &&& 31)) &&& 1 = 1 then B 2 (16 + 9 * i + 3) else 0) i)), (6, vI S), (5, vI w5), (0, vR 0 0), (1, vI (nI j)), (2, vI p2), (3, vI p3), (4, vI p4)] [] (hM G B xs) := by
    intro k
    induction k with
    | zero =>
      intro i hi
      have him : i = m := by omega
      subst him
      refine ab_run [79] 100 oX5_odds.1 (Nat.le_refl _) 79 ?_
      refine ⟨vp_d rfl, fun _ => ?_, fun (c1 : ¬ B 2 3 ≤ nI i) => ?_⟩
      · refine ⟨_, _, m_get _ G B xs j 3 (by omega), Nat.le_refl _, ?_⟩
        refine ⟨_, _, hP, Nat.le_refl _, ?_⟩
        exact ⟨rfl, rfl⟩
      · rw [em] at c1
        exact absurd (nI_le (by omega) (by omega)) c1
    | succ k ih =>
      intro i hi
      have h9 := ih (i + 1) (by omega)
      rw [nI_succ, show bx_sum (fun i => if (S >>> (nI i &&& 31)) &&& 1 = 1 then B 2 (16 + 9 * i + 3) else 0) (i + 1) = bx_sum (fun i => if (S >>> (nI i &&& 31)) &&& 1 = 1 then B 2 (16 + 9 * i + 3) else 0) i + (if (S >>> (nI i &&& 31)) &&& 1 = 1 then B 2 (16 + 9 * i + 3) else 0) from rfl] at h9
      refine ab_run [79] 100 oX5_odds.1 (Nat.le_refl _) 79 ?_
      refine ⟨vp_d rfl, fun (c1 : B 2 3 ≤ nI i) => ?_, fun _ => ?_⟩
      · rw [em] at c1
        exact absurd c1 (nI_lt_m (by omega) (by omega))
      refine ⟨fun c2 => ?_, fun c2 => ?_⟩
      · rw [if_neg c2] at h9
        exact h9
      · rw [if_pos c2] at h9
        refine ⟨_, _, m_get _ G B xs i 3 (by omega), Nat.le_refl _, ?_⟩
        exact h9
  exact loop m 0 (by omega)
set_option maxRecDepth 100000 in
theorem p_odds : P_odds IV 40 := by
  intro p1 p2 p3 p4 g A x a f h
  obtain ⟨m, hm, em, exm⟩ := IV_m h
  obtain ⟨ns, hn, en, exn⟩ := IV_ns h
  have z0 : (0 : Int32).toInt = 0 := rfl
  have z1 : (1 : Int32).toInt = 1 := rfl
  have z2 : (2 : Int32).toInt = 2 := rfl
  by_cases cf : 0 ≤ p1 ∧ p1 < nI m
  · obtain ⟨j, hj, rfl⟩ := ix_of (m := m) (by omega) cf
    have k0 : 0 ≤ nI j ∧ nI j < x 17 5 := by rw [exm]; exact cf
    have k2 : 0 ≤ nI j ∧ nI j < A 2 3 := by rw [em]; exact cf
    by_cases c0 : 0 ≤ p4 ∧ p4 < 2
    · have hk2 : ¬ p4 = 0 → ¬ p4 = 1 → False := by
        intro c1 c2
        have q1 := Int32.le_iff_toInt_le.mp c0.1
        have q2 := Int32.lt_iff_toInt_lt.mp c0.2
        rcases (by omega : p4.toInt = 0 ∨ p4.toInt = 1) with q | q
        · exact absurd (Int32.toInt_inj.mp (by omega)) c1
        · exact absurd (Int32.toInt_inj.mp (by omega)) c2
      by_cases c1 : p2 < 0 ∨ p3 < 0
      · refine pr_rf h rc4 ?_ (fun xs => ?_)
        · refine ab_meth oX4_odds 39 _ _ _ _ (Nat.le_refl _) rfl (fun E => ?_)
          have K : ab_W jX4_odds 39 E (hX (mbl g A) x a f) 70 (fun v1 h1 => v1 = some (vI (-4)) ∧ h1 = hX (mbl g A) x (rfX a (-4)) f) (ab_at iX4_odds 32) [(0, vR 13 0), (1, vI (nI j)), (2, vI p2), (3, vI p3), (4, vI p4)] [] (hX (mbl g A) x a f) := by
            refine ab_run [] 100 oX4_odds.1 (Nat.le_refl _) 32 ?_
            exact ⟨fun c => ⟨_, _, x_rf _ _ x a f rc4, Nat.le_refl _, rfl, rfl⟩, fun c => ⟨fun c' => absurd c1 (fun q => q.elim c (le_nlt c')), fun c' => ⟨_, _, x_rf _ _ x a f rc4, Nat.le_refl _, rfl, rfl⟩⟩⟩
          refine ab_run [32] 100 oX4_odds.1 (Nat.le_refl _) 0 ?_
          refine ⟨_, _, x_isFault _ _ x a f _, Nat.le_refl _, ?_⟩
          refine br_n (fun c => ?_) (fun c => absurd k0 c)
          exact ⟨fun _ => K, fun d1 => ⟨fun _ => K, fun d2 => (hk2 d1 d2).elim⟩⟩
        · refine ab_meth oX5_odds 39 _ _ _ _ (Nat.le_refl _) rfl (fun E => ?_)
          refine ab_run [79] 100 oX5_odds.1 (Nat.le_refl _) 0 ?_
          refine ⟨_, _, m_isFault _ g A xs _, Nat.le_refl _, ?_⟩
          refine br_n (fun c => ?_) (fun c => absurd k2 c)
          refine ⟨_, _, m_isIn _ _ (Nat.le_refl _) _ _, Nat.le_refl _, ?_⟩
          refine br_n (fun c => ?_) (fun c => absurd c0 c)
          refine ⟨_, _, m_wrongCount _ _ (Nat.le_refl _) _ _, Nat.le_refl _, ?_⟩
          rw [show wrongI p2 p3 = -4 from if_pos c1]
          refine ⟨fun c => absurd c (by decide), fun c => ?_⟩
          exact ⟨_, _, m_rf _ g A xs rc4, Nat.le_refl _, rfl, rfl⟩
      by_cases c2 : 9999 < p2 ∨ 9999 < p3
      · refine pr_rf h rc6 ?_ (fun xs => ?_)
        · refine ab_meth oX4_odds 39 _ _ _ _ (Nat.le_refl _) rfl (fun E => ?_)
          have K : ab_W jX4_odds 39 E (hX (mbl g A) x a f) 70 (fun v1 h1 => v1 = some (vI (-6)) ∧ h1 = hX (mbl g A) x (rfX a (-6)) f) (ab_at iX4_odds 32) [(0, vR 13 0), (1, vI (nI j)), (2, vI p2), (3, vI p3), (4, vI p4)] [] (hX (mbl g A) x a f) := by
            refine ab_run [] 100 oX4_odds.1 (Nat.le_refl _) 32 ?_
            refine ⟨fun c => absurd (Or.inl c) c1, fun c => ⟨fun c' => ?_, fun c' => absurd (Or.inr (nle_lt c')) c1⟩⟩
            exact ⟨fun c => ⟨_, _, x_rf _ _ x a f rc6, Nat.le_refl _, rfl, rfl⟩, fun c => ⟨fun c' => absurd c2 (fun q => q.elim c (le_nlt c')), fun c' => ⟨_, _, x_rf _ _ x a f rc6, Nat.le_refl _, rfl, rfl⟩⟩⟩
          refine ab_run [32] 100 oX4_odds.1 (Nat.le_refl _) 0 ?_
          refine ⟨_, _, x_isFault _ _ x a f _, Nat.le_refl _, ?_⟩
          refine br_n (fun c => ?_) (fun c => absurd k0 c)
          exact ⟨fun _ => K, fun d1 => ⟨fun _ => K, fun d2 => (hk2 d1 d2).elim⟩⟩
        · refine ab_meth oX5_odds 39 _ _ _ _ (Nat.le_refl _) rfl (fun E => ?_)
          refine ab_run [79] 100 oX5_odds.1 (Nat.le_refl _) 0 ?_
          refine ⟨_, _, m_isFault _ g A xs _, Nat.le_refl _, ?_⟩
          refine br_n (fun c => ?_) (fun c => absurd k2 c)
          refine ⟨_, _, m_isIn _ _ (Nat.le_refl _) _ _, Nat.le_refl _, ?_⟩
          refine br_n (fun c => ?_) (fun c => absurd c0 c)
          refine ⟨_, _, m_wrongCount _ _ (Nat.le_refl _) _ _, Nat.le_refl _, ?_⟩
          rw [show wrongI p2 p3 = -6 from (if_neg c1).trans (if_pos c2)]
          refine ⟨fun c => absurd c (by decide), fun c => ?_⟩
          exact ⟨_, _, m_rf _ g A xs rc6, Nat.le_refl _, rfl, rfl⟩
      obtain ⟨w, r, ca, hx⟩ := x_fit h em hm en hn p2 p3 33 (mbl g A)
      have hmf := fun xs => m_fit h em hm en hn p2 p3 31 xs
      have hIV := IV_wr (IV_cl (IV_rs m ns h) ca) w r
      have e2 : (rsN m ns (bgG g A, bgN m A)).2 2 = A 2 := by
        rw [rsN_A _ _ _ (by decide) (by decide) (by decide)]
        exact bgN_n m A (by decide) (by decide) (by decide)
      generalize ftN ((rsN m ns (bgG g A, bgN m A)).2 9) p2 p3 m = S at hx hmf
      generalize rsN m ns (bgG g A, bgN m A) = Q at hmf hIV e2
      by_cases c3 : (S >>> (nI j &&& 31)) &&& 1 = 0
      · refine pr_w (r := -3) (x' := mS (mS x 42 w) 41 r) (a' := rfX (mS a 45 ca) (-3)) (f' := f) (g' := Q.1) (A' := rfM Q.2 (-3)) ?_ (fun xs => ?_) (IV_rf hIV rc3)
        · refine ab_meth oX4_odds 39 _ _ _ _ (Nat.le_refl _) rfl (fun E => ?_)
          have K : ab_W jX4_odds 39 E (hX (mbl g A) x a f) 70 (fun v1 h1 => v1 = some (vI (-3)) ∧ h1 = hX (mbl g A) (mS (mS x 42 w) 41 r) (rfX (mS a 45 ca) (-3)) f) (ab_at iX4_odds 32) [(0, vR 13 0), (1, vI (nI j)), (2, vI p2), (3, vI p3), (4, vI p4)] [] (hX (mbl g A) x a f) := by
            refine ab_run [] 100 oX4_odds.1 (Nat.le_refl _) 32 ?_
            refine ⟨fun c => absurd (Or.inl c) c1, fun c => ⟨fun c' => ?_, fun c' => absurd (Or.inr (nle_lt c')) c1⟩⟩
            refine ⟨fun c => absurd (Or.inl c) c2, fun c => ⟨fun c' => ?_, fun c' => absurd (Or.inr (nle_lt c')) c2⟩⟩
            refine ⟨_, _, hx, Nat.le_refl _, ?_⟩
            refine ⟨fun c => absurd c3 c, fun c => ?_⟩
            exact ⟨_, _, x_rf _ _ (mS (mS x 42 w) 41 r) (mS a 45 ca) f rc3, Nat.le_refl _, rfl, rfl⟩
          refine ab_run [32] 100 oX4_odds.1 (Nat.le_refl _) 0 ?_
          refine ⟨_, _, x_isFault _ _ x a f _, Nat.le_refl _, ?_⟩
          refine br_n (fun c => ?_) (fun c => absurd k0 c)
          exact ⟨fun _ => K, fun d1 => ⟨fun _ => K, fun d2 => (hk2 d1 d2).elim⟩⟩
        · refine ab_meth oX5_odds 39 _ _ _ _ (Nat.le_refl _) rfl (fun E => ?_)
          refine ab_run [79] 100 oX5_odds.1 (Nat.le_refl _) 0 ?_
          refine ⟨_, _, m_isFault _ g A xs _, Nat.le_refl _, ?_⟩
          refine br_n (fun c => ?_) (fun c => absurd k2 c)
          refine ⟨_, _, m_isIn _ _ (Nat.le_refl _) _ _, Nat.le_refl _, ?_⟩
          refine br_n (fun c => ?_) (fun c => absurd c0 c)
          refine ⟨_, _, m_wrongCount _ _ (Nat.le_refl _) _ _, Nat.le_refl _, ?_⟩
          rw [show wrongI p2 p3 = 0 from (if_neg c1).trans (if_neg c2)]
          refine ⟨fun c => ?_, fun c => absurd rfl c⟩
          refine ⟨_, _, hmf xs, Nat.le_refl _, ?_⟩
          refine ⟨fun c => absurd c3 c, fun c => ?_⟩
          exact ⟨_, _, m_rf _ Q.1 Q.2 xs rc3, Nat.le_refl _, rfl, rfl⟩
      have cb : (S >>> (nI j &&& 31)) &&& 1 = 1 := (bit01 _).resolve_left c3
      obtain ⟨w1, w2, w3, w4⟩ := wtN_ok h em hm hj
      have hV := odT_le h em hm S
      have hV1 : wtN A j ≤ nsN (odT A S) m := by
        have h1 := nsN_ge (t := odT A S) m hj
        have h2 : odT A S j = wtN A j := if_pos cb
        rw [h2] at h1
        exact h1
      have hLT : ab_Ex 39 1 yX4_leastTerm [vI (f 20 j 3), vI (bx_sum (fun i => ((S >>> (nI i &&& 31)) &&& 1) * f 20 i 3) m), vI p4] (hX (mbl g A) (mS (mS x 42 w) 41 r) (mS a 45 ca) f) (some (vI (nI ((if p4 = 0 then wtN A j else nsN (odT A S) m) / Nat.gcd (wtN A j) (nsN (odT A S) m))))) (hX (mbl g A) (mS (mS x 42 w) 41 r) (mS a 45 ca) f) := by
        rw [w2, odT_x h em hm S]
        exact x_leastTerm 38 _ (Nat.le_refl _) (by omega) (by omega) hV p4
      have hPO : ∀ xs, ab_Ex 39 0 yX5_partOf [vR 0 0, vI (Q.2 2 (16 + 9 * j + 3)), vI (bx_sum (fun i => if (S >>> (nI i &&& 31)) &&& 1 = 1 then Q.2 2 (16 + 9 * i + 3) else 0) m), vI p4] (hM Q.1 Q.2 xs) (some (vI (nI ((if p4 = 0 then wtN A j else nsN (odT A S) m) / Nat.gcd (wtN A j) (nsN (odT A S) m))))) (hM Q.1 Q.2 xs) := by
        intro xs
        rw [e2, odT_m h em hm S, w1]
        exact m_partOf 17 Q.1 Q.2 xs (by omega) (by omega) hV p4
      refine pr_w (r := nI ((if p4 = 0 then wtN A j else nsN (odT A S) m) / Nat.gcd (wtN A j) (nsN (odT A S) m))) (x' := mS (mS x 42 w) 41 r) (a' := mS a 45 ca) (f' := f) (g' := Q.1) (A' := Q.2) ?_ (fun xs => ?_) hIV
      · refine ab_meth oX4_odds 39 _ _ _ _ (Nat.le_refl _) rfl (fun E => ?_)
        have K : ab_W jX4_odds 39 E (hX (mbl g A) x a f) 70 (fun v1 h1 => v1 = some (vI (nI ((if p4 = 0 then wtN A j else nsN (odT A S) m) / Nat.gcd (wtN A j) (nsN (odT A S) m)))) ∧ h1 = hX (mbl g A) (mS (mS x 42 w) 41 r) (mS a 45 ca) f) (ab_at iX4_odds 32) [(0, vR 13 0), (1, vI (nI j)), (2, vI p2), (3, vI p3), (4, vI p4)] [] (hX (mbl g A) x a f) := by
          refine ab_run [] 100 oX4_odds.1 (Nat.le_refl _) 32 ?_
          refine ⟨fun c => absurd (Or.inl c) c1, fun c => ⟨fun c' => ?_, fun c' => absurd (Or.inr (nle_lt c')) c1⟩⟩
          refine ⟨fun c => absurd (Or.inl c) c2, fun c => ⟨fun c' => ?_, fun c' => absurd (Or.inr (nle_lt c')) c2⟩⟩
          refine ⟨_, _, hx, Nat.le_refl _, ?_⟩
          refine ⟨fun c => ?_, fun c => absurd c c3⟩
          refine ⟨vp_in_nI (by omega) (by omega), ⟨(20, j), by rw [nI_clamp (by omega)]; exact ab_fa_at 20 (by omega), ?_⟩⟩
          refine ⟨ck20 (by omega), ?_⟩
          refine ⟨_, _, x_weightOf _ (mbl g A) (mS (mS x 42 w) 41 r) (mS a 45 ca) f (m := m) exm hm S, Nat.le_refl _, ?_⟩
          refine ⟨_, _, hLT, Nat.le_refl _, ?_⟩
          exact ⟨rfl, rfl⟩
        refine ab_run [32] 100 oX4_odds.1 (Nat.le_refl _) 0 ?_
        refine ⟨_, _, x_isFault _ _ x a f _, Nat.le_refl _, ?_⟩
        refine br_n (fun c => ?_) (fun c => absurd k0 c)
        exact ⟨fun _ => K, fun d1 => ⟨fun _ => K, fun d2 => (hk2 d1 d2).elim⟩⟩
      · refine ab_meth oX5_odds 39 _ _ _ _ (Nat.le_refl _) rfl (fun E => ?_)
        refine ab_run [79] 100 oX5_odds.1 (Nat.le_refl _) 0 ?_
        refine ⟨_, _, m_isFault _ g A xs _, Nat.le_refl _, ?_⟩
        refine br_n (fun c => ?_) (fun c => absurd k2 c)
        refine ⟨_, _, m_isIn _ _ (Nat.le_refl _) _ _, Nat.le_refl _, ?_⟩
        refine br_n (fun c => ?_) (fun c => absurd c0 c)
        refine ⟨_, _, m_wrongCount _ _ (Nat.le_refl _) _ _, Nat.le_refl _, ?_⟩
        rw [show wrongI p2 p3 = 0 from (if_neg c1).trans (if_neg c2)]
        refine ⟨fun c => ?_, fun c => absurd rfl c⟩
        refine ⟨_, _, hmf xs, Nat.le_refl _, ?_⟩
        refine ⟨fun c => ?_, fun c => absurd c c3⟩
        exact m_oddsum Q.1 Q.2 xs (by rw [e2]; exact em) hm S p2 p3 p4 0 (j := j) (by omega) _ _ E (hPO xs)
    · have d0 : ¬ p4 = 0 := fun q => c0 (by rw [q]; decide)
      have d1 : ¬ p4 = 1 := fun q => c0 (by rw [q]; decide)
      refine pr_rf h rc2 ?_ (fun xs => ?_)
      · refine ab_meth oX4_odds 39 _ _ _ _ (Nat.le_refl _) rfl (fun E => ?_)
        refine ab_run [32] 100 oX4_odds.1 (Nat.le_refl _) 0 ?_
        refine ⟨_, _, x_isFault _ _ x a f _, Nat.le_refl _, ?_⟩
        refine br_n (fun c => ?_) (fun c => absurd k0 c)
        refine ⟨fun c => absurd c d0, fun c => ?_⟩
        refine ⟨fun c => absurd c d1, fun c => ?_⟩
        exact ⟨_, _, x_rf _ _ x a f rc2, Nat.le_refl _, rfl, rfl⟩
      · refine ab_meth oX5_odds 39 _ _ _ _ (Nat.le_refl _) rfl (fun E => ?_)
        refine ab_run [79] 100 oX5_odds.1 (Nat.le_refl _) 0 ?_
        refine ⟨_, _, m_isFault _ g A xs _, Nat.le_refl _, ?_⟩
        refine br_n (fun c => ?_) (fun c => absurd k2 c)
        refine ⟨_, _, m_isIn _ _ (Nat.le_refl _) _ _, Nat.le_refl _, ?_⟩
        refine br_n (fun c => absurd c c0) (fun c => ?_)
        exact ⟨_, _, m_rf _ g A xs rc2, Nat.le_refl _, rfl, rfl⟩
  · have k0 : ¬ (0 ≤ p1 ∧ p1 < x 17 5) := by rw [exm]; exact cf
    have k2 : ¬ (0 ≤ p1 ∧ p1 < A 2 3) := by rw [em]; exact cf
    refine pr_rf h rc1 ?_ (fun xs => ?_)
    · refine ab_meth oX4_odds 39 _ _ _ _ (Nat.le_refl _) rfl (fun E => ?_)
      refine ab_run [32] 100 oX4_odds.1 (Nat.le_refl _) 0 ?_
      refine ⟨_, _, x_isFault _ _ x a f _, Nat.le_refl _, ?_⟩
      refine br_n (fun c => absurd c k0) (fun c => ?_)
      exact ⟨_, _, x_rf _ _ x a f rc1, Nat.le_refl _, rfl, rfl⟩
    · refine ab_meth oX5_odds 39 _ _ _ _ (Nat.le_refl _) rfl (fun E => ?_)
      refine ab_run [79] 100 oX5_odds.1 (Nat.le_refl _) 0 ?_
      refine ⟨_, _, m_isFault _ g A xs _, Nat.le_refl _, ?_⟩
      refine br_n (fun c => absurd c k2) (fun c => ?_)
      exact ⟨_, _, m_rf _ g A xs rc1, Nat.le_refl _, rfl, rfl⟩
