theorem m_areTwo (d : Nat) (g : mG) (A : mA) (xs : List AB) (u v : Int32) : ab_Ex (d + 3) 0 yX5_areTwo [vR 0 0, vI u, vI v] (hM g A xs) (some (vI (bI ((0 ≤ u ∧ u < A 2 3) ∧ (0 ≤ v ∧ v < A 2 3) ∧ ¬ u = v)))) (hM g A xs) := by
  refine ab_meth oX5_areTwo (d + 2) _ _ _ _ (Nat.le_refl _) rfl (fun E => ?_)
  refine ab_run [] 50 oX5_areTwo.1 (Nat.le_refl _) 0 ?_
  refine ⟨_, _, m_isFault d g A xs u, Nat.le_refl _, br_z (fun c1 => ?_) (fun c1 => ?_)⟩
  · refine ⟨Or.inl rfl, ?_, rfl⟩
    rw [bI_f (fun q => c1 q.1)]
  refine ⟨_, _, m_isFault d g A xs v, Nat.le_refl _, br_z (fun c2 => ?_) (fun c2 => ?_)⟩
  · refine ⟨Or.inl rfl, ?_, rfl⟩
    rw [bI_f (fun q => c2 q.2.1)]
  refine ⟨fun c3 => ?_, fun c3 => ?_⟩
  · refine ⟨Or.inl rfl, ?_, rfl⟩
    rw [bI_f (fun q => q.2.2 c3)]
  · refine ⟨Or.inr rfl, ?_, rfl⟩
    rw [bI_t ⟨c1, c2, c3⟩]
-- judge
def jdN (t C : Nat → Int32) (n m : Nat) : Nat → Nat → Int32
  | 0, _ => if n = m then -9 else nI (min n m)
  | k + 1, i => if t i = C i then jdN t C n m k (i + 1) else nI i
set_option maxRecDepth 100000 in
theorem p_judge : P_judge IV 40 := by
  intro g A x a f h
  obtain ⟨m, hm, em, exm⟩ := IV_m h
  obtain ⟨ns, hn, en, exn⟩ := IV_ns h
  obtain ⟨n, hn8, e6, ex6, hr⟩ := h.2.2.1
  have h1 : IV (upd g 24 0) A (mS x 13 (upd (x 13) 10 0)) a f := ⟨h.1, h.2.1, ⟨0, by omega, nI_0.symm, nI_0.symm, fun k hk => absurd hk (Nat.not_lt_zero k)⟩, h.2.2.2⟩
  obtain ⟨w, r, ca, hc, hl⟩ := x_listen h1 em hm en hn 34 (mbl g A)
  have e2 : (rsN m ns (bgG (upd g 24 0) A, bgN m A)).2 2 = A 2 := by
    rw [rsN_A _ _ _ (by decide) (by decide) (by decide)]
    exact bgN_n m A (by decide) (by decide) (by decide)
  have e12 : (rsN m ns (bgG (upd g 24 0) A, bgN m A)).2 12 = A 12 := by
    rw [rsN_A _ _ _ (by decide) (by decide) (by decide)]
    exact bgN_n m A (by decide) (by decide) (by decide)
  have hcd := fun xs => m_counted h1 em hm en hn 32 xs
  have hIV := IV_wr (IV_cl (IV_rs m ns h1) ca) w r
  generalize rsN m ns (bgG (upd g 24 0) A, bgN m A) = Q at hc e2 e12 hcd hIV
  obtain ⟨R, hR0⟩ : ∃ R : Int32, R = jdN (A 12) (Q.2 9) n m (min n m) 0 := ⟨_, rfl⟩
  refine pr_w (r := R) (x' := mS (mS (mS x 13 (upd (x 13) 10 0)) 42 w) 41 r) (a' := mS a 45 ca) (f' := f) (g' := Q.1) (A' := Q.2) ?_ (fun xs => ?_) hIV
  · refine ab_meth oX4_judge 39 _ _ _ _ (Nat.le_refl _) rfl (fun E => ?_)
    have loop : ∀ (k i : Nat) (mn : Int32), mn = nI (min n m) → i + k = min n m → R = jdN (A 12) (Q.2 9) n m k i → ab_W jX4_judge 39 E (hX (mbl g A) x a f) 70 (fun v1 h1 => v1 = some (vI R) ∧ h1 = hX (mbl g A) (mS (mS (mS x 13 (upd (x 13) 10 0)) 42 w) 41 r) (mS a 45 ca) f) (ab_at iX4_judge 28) [(3, vI (nI i)), (2, vI mn), (1, vI (x 13 10)), (0, vR 13 0)] [] (hX (mbl g A) (mS (mS (mS x 13 (upd (x 13) 10 0)) 42 w) 41 r) (mS a 45 ca) f) := by
      intro k
      induction k with
      | zero =>
        intro i mn hmn hi hR
        refine ab_run [28] 100 oX4_judge.1 (Nat.le_refl _) 28 ?_
        rw [hmn]
        refine ⟨fun c1 => ?_, fun c1 => absurd (nI_le (by omega) (by omega)) c1⟩
        unfold jdN at hR
        refine ⟨fun (c2 : ¬ x 13 10 = x 17 5) => ?_, fun (c2 : x 13 10 = x 17 5) => ?_⟩
        · rw [ex6, exm] at c2
          rw [if_neg (fun q => c2 (by rw [q]))] at hR
          rw [hR]
          exact ⟨rfl, rfl⟩
        · rw [ex6, exm] at c2
          rw [if_pos ((nI_eq (by omega) (by omega)).mp c2)] at hR
          rw [hR]
          exact ⟨rfl, rfl⟩
      | succ k ih =>
        intro i mn hmn hi hR
        refine ab_run [28] 100 oX4_judge.1 (Nat.le_refl _) 28 ?_
        refine ⟨fun c1 => ?_, fun c1 => ?_⟩
        · rw [hmn] at c1
          exact absurd c1 (nI_ge (by omega) (by omega))
        refine ⟨(vp_in_nI (by omega) (by omega) : vp_in (nI i) 8), (vp_in_nI (by omega) (by omega) : vp_in (nI i) 8), ?_⟩
        rw [nI_clamp (by omega)]
        have hx : a 47 i = A 12 i := (hr i (by omega)).symm
        have hy : ca i = Q.2 9 i := hc i (by omega)
        unfold jdN at hR
        refine ⟨fun (c2 : a 47 i = ca i) => ?_, fun (c2 : ¬ a 47 i = ca i) => ?_⟩
        · rw [hx, hy] at c2
          rw [if_pos c2] at hR
          have h9 := ih (i + 1) mn hmn (by omega) hR
          rw [nI_succ] at h9
          exact h9
        · rw [hx, hy] at c2
          rw [if_neg c2] at hR
          have hR : R = nI i := hR
          rw [hR]
          exact ⟨rfl, rfl⟩
    refine ab_run [28] 100 oX4_judge.1 (Nat.le_refl _) 0 ?_
    refine ⟨_, _, hl, Nat.le_refl _, ?_⟩
    have hmn : (if x 17 5 < x 13 10 then x 17 5 else x 13 10) = nI (min n m) := by
      rw [ex6, exm]
      by_cases q : nI m < nI n
      · have q2 := (nI_ltI (by omega) (by omega)).mp q
        rw [if_pos q, show min n m = m by omega]
      · have q2 : ¬ m < n := fun z => q ((nI_ltI (by omega) (by omega)).mpr z)
        rw [if_neg q, show min n m = n by omega]
    exact loop (min n m) 0 _ hmn (by omega) hR0
  · refine ab_meth oX5_judge 39 _ _ _ _ (Nat.le_refl _) rfl (fun E => ?_)
    have loop : ∀ (k i : Nat), i + k = min n m → R = jdN (A 12) (Q.2 9) n m k i → ab_W jX5_judge 39 E (hM g A xs) 70 (fun v1 h1 => v1 = some (vI R) ∧ h1 = hM Q.1 Q.2 xs) (ab_at iX5_judge 16) [(2, vI (nI i)), (1, vI (g 24)), (0, vR 0 0)] [] (hM Q.1 Q.2 xs) := by
      intro k
      induction k with
      | zero =>
        intro i hi hR
        refine ab_run [16] 100 oX5_judge.1 (Nat.le_refl _) 16 ?_
        unfold jdN at hR
        refine ⟨vp_d rfl, fun (c1 : Q.2 2 3 ≤ nI i) => ?_, fun (c1 : ¬ Q.2 2 3 ≤ nI i) => ?_⟩
        · rw [e2, em] at c1
          have c1 := (nI_leI (by omega) (by omega)).mp c1
          refine ⟨vp_d rfl, fun (c2 : g 24 ≤ Q.2 2 3) => ?_, fun (c2 : ¬ g 24 ≤ Q.2 2 3) => ?_⟩
          · rw [e2, em, e6] at c2
            have c2 := (nI_leI (by omega) (by omega)).mp c2
            rw [if_pos (show n = m by omega)] at hR
            rw [hR]
            exact ⟨rfl, rfl⟩
          · rw [e2, em, e6] at c2
            rw [if_neg (fun q => c2 (by rw [q]; exact nI_le (Nat.le_refl _) (by omega)))] at hR
            refine ⟨vp_d rfl, ?_, rfl⟩
            rw [hR]
            show some (vI (Q.2 2 3)) = _
            rw [e2, em, show min n m = m by omega]
        · rw [e2, em] at c1
          have c1 : i < m := Nat.lt_of_not_le (fun z => c1 (nI_le z (by omega)))
          have hin : i = n := by omega
          refine ⟨fun c2 => absurd (by rw [e6, hin]) c2, fun c2 => ?_⟩
          rw [if_neg (show ¬ n = m by omega)] at hR
          refine ⟨?_, rfl⟩
          rw [hR, e6, show min n m = n by omega]
      | succ k ih =>
        intro i hi hR
        refine ab_run [16] 100 oX5_judge.1 (Nat.le_refl _) 16 ?_
        refine ⟨vp_d rfl, fun (c1 : Q.2 2 3 ≤ nI i) => ?_, fun c1 => ?_⟩
        · rw [e2, em] at c1
          exact absurd c1 (nI_lt_m (by omega) (by omega))
        refine ⟨fun c2 => ?_, fun c2 => ?_⟩
        · refine ⟨(vp_in_nI (by omega) (by omega) : vp_in (nI i) 8), (vp_in_nI (by omega) (by omega) : vp_in (nI i) 8), ?_⟩
          rw [nI_clamp (by omega)]
          unfold jdN at hR
          refine ⟨fun (c3 : Q.2 12 i = Q.2 9 i) => ?_, fun (c3 : ¬ Q.2 12 i = Q.2 9 i) => ?_⟩
          · rw [e12] at c3
            rw [if_pos c3] at hR
            have h9 := ih (i + 1) (by omega) hR
            rw [nI_succ] at h9
            exact h9
          · rw [e12] at c3
            rw [if_neg c3] at hR
            have hR : R = nI i := hR
            rw [hR]
            exact ⟨rfl, rfl⟩
        · rw [e6] at c2
          have := (nI_eq (by omega) (by omega)).mp c2
          omega
    refine ab_run [16] 100 oX5_judge.1 (Nat.le_refl _) 0 ?_
    refine ⟨_, _, hcd xs, Nat.le_refl _, ?_⟩
    exact loop (min n m) 0 (by omega) hR0
-- what a stage counts, said of the class's numbers alone
noncomputable def cvV (x a : mA) (f : mF) (act : Int32) (w T j : Nat) : Int32 := (stX x a act (nI w) T (bgQ x f j (-9) (fun _ => 0))).2 5
theorem cis_val {g : mG} {A x a : mA} {f : mF} (h : IV g A x a f) {m j w T : Nat} (em : A 2 3 = nI m) (hm : m ≤ 8) (hj : j < m) (hw : w < 5) (hg : (w : Int) < (A 2 2).toInt) (hT : T ≤ 60) {act : Int32} (ha1 : 0 ≤ act.toInt) (ha2 : act.toInt ≤ 5) : (sgN m act T (bgG g A, opN w m (bgN m A))).2 9 j = cvV x a f act w T j := by
  have e2 : bgN m A 2 = A 2 := bgN_n m A (by decide) (by decide) (by decide)
  have h0 := IV_r0 h
  have hRJ := RJ_begin h em hm hj (G := bgG g A) rfl rfl (-9) (fun _ => 0)
  obtain ⟨s1, -, -⟩ := RJ_stage (f := f) (x := x) (a := a) (w := w) (T := T) (act := act) (by rw [e2]; exact h.2.2.2.2.1) (by rw [e2]; exact h.2.2.2.2.2.1) (by rw [e2]; exact em) hj hm hw (by rw [e2]; exact hg) hT ha1 ha2 h0.1 (by show (A 2 5).toInt ≤ 20000; omega) hRJ
  exact s1.2.2.2.2.2.2.1.symm
theorem act_rng {k : Nat} (hk : k < 4) : 0 ≤ (nI k).toInt ∧ (nI k).toInt ≤ 5 := by
  rw [nI_toInt (by omega)]
  omega
