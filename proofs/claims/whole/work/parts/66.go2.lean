set_option maxRecDepth 100000 in
theorem m_gosum (g : mG) (A : mA) (xs : List AB) {ns : Nat} (en : A 2 4 = nI ns) (hn : ns ≤ 8) (h0 : AH) (E : Nat × (Nat → Int32)) (Q : Option AV → AH → Prop) (hk : ab_W jX5_go 39 E h0 70 Q (ab_at iX5_go 36) [(2, vI (nI ns)), (1, vI (bx_sum (fun i => A 2 (88 + 3 * i + 2)) ns)), (0, vR 0 0)] [] (hM g A xs)) : ab_W jX5_go 39 E h0 70 Q (ab_at iX5_go 4) [(2, vI (nI 0)), (1, vI (bx_sum (fun i => A 2 (88 + 3 * i + 2)) 0)), (0, vR 0 0)] [] (hM g A xs) := by
  have loop : ∀ (k i : Nat), i + k = ns → ab_W jX5_go 39 E h0 70 Q (ab_at iX5_go 4) [(2, vI (nI i)), (1, vI (bx_sum (fun i => A 2 (88 + 3 * i + 2)) i)), (0, vR 0 0)] [] (hM g A xs) := by
    intro k
    induction k with
    | zero =>
      intro i hi
      have hin : i = ns := by omega
      subst hin
      refine ab_run [4, 36] 100 oX5_go.1 (Nat.le_refl _) 4 ?_
      refine ⟨vp_d rfl, fun _ => hk, fun (c1 : ¬ A 2 4 ≤ nI i) => ?_⟩
      rw [en] at c1
      exact absurd (nI_le (by omega) (by omega)) c1
    | succ k ih =>
      intro i hi
      refine ab_run [4, 36] 100 oX5_go.1 (Nat.le_refl _) 4 ?_
      refine ⟨vp_d rfl, fun (c1 : A 2 4 ≤ nI i) => ?_, fun _ => ?_⟩
      · rw [en] at c1
        exact absurd c1 (nI_lt_m (by omega) (by omega))
      have i2 : (88 : Int32) + 3 * nI i + 2 = nI (88 + 3 * i + 2) := ix_sk i 2
      refine ⟨(by rw [i2]; exact vp_in_nI (by omega) (by omega) : vp_in ((88 : Int32) + 3 * nI i + 2) 112), ?_⟩
      have h9 := ih (i + 1) (by omega)
      rw [nI_succ] at h9
      rw [i2, nI_clamp (by omega)]
      exact h9
  exact loop ns 0 (by omega)
set_option maxRecDepth 100000 in
theorem m_goend (G : mG) (B : mA) (s : Nat → Int32) (xs : List AB) {m : Nat} (em : s 3 = nI m) (hm : m ≤ 8) (w1 w2 : Int32) (h0 : AH) (E : Nat × (Nat → Int32)) : ab_W jX5_go 39 E h0 70 (fun v1 h1 => v1 = some (vI (G 12)) ∧ h1 = hM G (mS B 2 (upd (goS s (B 7) (B 8) m) 5 (G 12))) xs) (ab_at iX5_go 87) [(3, vI (nI 0)), (2, vI w2), (1, vI w1), (0, vR 0 0)] [] (hM G (mS B 2 s) xs) := by
  have loop : ∀ (k i : Nat), i + k = m → ab_W jX5_go 39 E h0 70 (fun v1 h1 => v1 = some (vI (G 12)) ∧ h1 = hM G (mS B 2 (upd (goS s (B 7) (B 8) m) 5 (G 12))) xs) (ab_at iX5_go 87) [(3, vI (nI i)), (2, vI w2), (1, vI w1), (0, vR 0 0)] [] (hM G (mS B 2 (goS s (B 7) (B 8) i)) xs) := by
    intro k
    induction k with
    | zero =>
      intro i hi
      have hin : i = m := by omega
      subst hin
      have e3 : goS s (B 7) (B 8) i 3 = nI i := by rw [goS_ne s (B 7) (B 8) i (fun j hj => by omega)]; exact em
      generalize goS s (B 7) (B 8) i = S at e3 ⊢
      refine ab_run [87] 100 oX5_go.1 (Nat.le_refl _) 87 ?_
      refine ⟨vp_d rfl, fun _ => ?_, fun (c1 : ¬ S 3 ≤ nI i) => ?_⟩
      · exact ⟨vp_d rfl, vp_d rfl, rfl, rfl⟩
      · rw [e3] at c1
        exact absurd (nI_le (by omega) (by omega)) c1
    | succ k ih =>
      intro i hi
      have e3 : goS s (B 7) (B 8) i 3 = nI m := by rw [goS_ne s (B 7) (B 8) i (fun j hj => by omega)]; exact em
      have h9 := ih (i + 1) (by omega)
      rw [nI_succ, show goS s (B 7) (B 8) (i + 1) = upd (upd (goS s (B 7) (B 8) i) (16 + 9 * i + 7) (B 7 i)) (16 + 9 * i + 8) (B 8 i) from rfl] at h9
      generalize goS s (B 7) (B 8) i = S at e3 h9 ⊢
      refine ab_run [87] 100 oX5_go.1 (Nat.le_refl _) 87 ?_
      refine ⟨vp_d rfl, fun (c1 : S 3 ≤ nI i) => ?_, fun _ => ?_⟩
      · rw [e3] at c1
        exact absurd c1 (nI_lt_m (by omega) (by omega))
      have i7 : (16 : Int32) + 9 * nI i + 7 = nI (16 + 9 * i + 7) := ix_f i 7
      have i8 : (16 : Int32) + 9 * nI i + 8 = nI (16 + 9 * i + 8) := ix_f i 8
      refine ⟨(vp_in_nI (by omega) (by omega) : vp_in (nI i) 8), (by rw [i7]; exact vp_in_nI (by omega) (by omega) : vp_in ((16 : Int32) + 9 * nI i + 7) 112), ?_⟩
      refine ⟨(vp_in_nI (by omega) (by omega) : vp_in (nI i) 8), (by rw [i8]; exact vp_in_nI (by omega) (by omega) : vp_in ((16 : Int32) + 9 * nI i + 8) 112), ?_⟩
      rw [i7, i8, nI_clamp (by omega), nI_clamp (by omega), nI_clamp (by omega)]
      exact h9
  exact loop m 0 (by omega)
set_option maxRecDepth 100000 in
theorem x_goloop {g : mG} {A x a : mA} {f : mF} (h : IV g A x a f) {m ns : Nat} (em : A 2 3 = nI m) (hm : m ≤ 8) (en : A 2 4 = nI ns) (hn : ns ≤ 8) (mb : Nat → AB) (h0 : AH) (t : Int32) : ∀ (k i : Nat) (w r : Nat → Int32) (F : mF), i + k = m → (∀ j, j < i → ∀ q, q < 9 → F 20 j q = goV (A 2) ((rsN m ns (bgG g A, bgN m A)).2 7) ((rsN m ns (bgG g A, bgN m A)).2 8) j q) → (∀ j, i ≤ j → F 20 j = f 20 j) → (∀ b, b ≠ 20 → F b = f b) → ∃ (w' r' : Nat → Int32) (F' : mF), (∀ j, j < m → ∀ q, q < 9 → F' 20 j q = goV (A 2) ((rsN m ns (bgG g A, bgN m A)).2 7) ((rsN m ns (bgG g A, bgN m A)).2 8) j q) ∧ (∀ b, b ≠ 20 → F' b = f b) ∧ ∀ E, ab_W jX4_go 39 E h0 70 (fun v1 h1 => v1 = some (vI t) ∧ h1 = hX mb (mS (mS (mS x 42 w') 41 r') 17 (upd (x 17) 7 t)) a F') (ab_at iX4_go 49) [(2, vI (nI i)), (1, vI t), (0, vR 13 0)] [] (hX mb (mS (mS x 42 w) 41 r) a F) := by
  have exm : x 17 5 = nI m := by rw [← h.2.2.2.2.2.1.1.2.2.2.1]; exact em
  intro k
  induction k with
  | zero =>
    intro i w r F hi h1 h2 h3
    refine ⟨w, r, F, fun j hj => h1 j (by omega), h3, fun E => ?_⟩
    refine ab_run [49] 100 oX4_go.1 (Nat.le_refl _) 49 ?_
    refine ⟨fun _ => ⟨rfl, rfl⟩, fun (c1 : ¬ x 17 5 ≤ nI i) => ?_⟩
    rw [exm] at c1
    exact absurd (nI_le (by omega) (by omega)) c1
  | succ k ih =>
    intro i w r F hi h1 h2 h3
    have hv := (ride_V h em hm en hn (j := i) (by omega) (-9) r).1
    have hR := x_rideF h em hm en hn (j := i) (by omega) (h2 i (Nat.le_refl _)) 35 mb w r (-9)
    generalize rdN x a ns (bgQ x f i (-9) r) = q at hv hR
    obtain ⟨w', r', F', k1, k2, hW⟩ := ih (i + 1) q.1 q.2 (fS F 20 i q.1) (by omega) (by
      intro j hj p hp
      show (if j = i then q.1 else F 20 j) p = _
      by_cases e : j = i
      · rw [if_pos e, e]
        exact hv p hp
      · rw [if_neg e]
        exact h1 j (by omega) p hp) (by
      intro j hj
      show (if j = i then q.1 else F 20 j) = _
      rw [if_neg (by omega)]
      exact h2 j (by omega)) (by
      intro b hb
      show (if b = 20 then _ else F b) = _
      rw [if_neg hb]
      exact h3 b hb)
    have hc := f_copyFrom 38 (h := hX mb (mS (mS x 42 q.1) 41 q.2) a F) (b := 20) (o := i) (b2 := 42) (o2 := 0) (v := F 20 i) (v2 := q.1) (Nat.le_refl _) rfl (hX_ok20 _ _ _ _ (by omega)) rfl (ok42 mb a F _) rfl (by omega)
    rw [hX_set20] at hc
    refine ⟨w', r', F', k1, k2, fun E => ?_⟩
    refine ab_run [49] 100 oX4_go.1 (Nat.le_refl _) 49 ?_
    refine ⟨fun (c1 : x 17 5 ≤ nI i) => ?_, fun _ => ?_⟩
    · rw [exm] at c1
      exact absurd c1 (nI_lt_m (by omega) (by omega))
    refine ⟨vp_in_nI (by omega) (by omega), ⟨(20, i), by rw [nI_clamp (by omega)]; exact ab_fa_at 20 (by omega), ?_⟩⟩
    refine ⟨_, _, hR, Nat.le_refl _, ?_⟩
    refine ⟨vp_in_nI (by omega) (by omega), ⟨(20, i), by rw [nI_clamp (by omega)]; exact ab_fa_at 20 (by omega), ?_⟩⟩
    refine ⟨ck20 (by omega), ?_⟩
    refine ⟨_, _, hc, Nat.le_refl _, ?_⟩
    have h9 := hW E
    rw [nI_succ] at h9
    exact h9
theorem rs_pos {g : mG} {A x a : mA} {f : mF} (h : IV g A x a f) {ns : Nat} (en : A 2 4 = nI ns) (hn : ns ≤ 8) : ∀ n, n ≤ ns → 0 ≤ (A 2 5 + bx_sum (fun i => A 2 (88 + 3 * i + 2)) n).toInt := by
  have key : ∀ n, n ≤ ns → 0 ≤ (A 2 5 + bx_sum (fun i => A 2 (88 + 3 * i + 2)) n).toInt ∧ (A 2 5 + bx_sum (fun i => A 2 (88 + 3 * i + 2)) n).toInt ≤ 9999 + 60 * n := by
    intro n
    induction n with
    | zero =>
      intro _
      have h0 := IV_r0 h
      show 0 ≤ (A 2 5 + 0).toInt ∧ (A 2 5 + 0).toInt ≤ _
      rw [Int32.add_zero]
      omega
    | succ n ih =>
      intro hlt
      have h1 := ih (by omega)
      obtain ⟨w, T, -, -, -, hT, -, -, eT, -⟩ := stage_nums h.2.2.2.2.1 h.2.2.2.2.2.1 en (i := n) (by omega) hn
      show 0 ≤ (A 2 5 + (bx_sum (fun i => A 2 (88 + 3 * i + 2)) n + A 2 (88 + 3 * n + 2))).toInt ∧ (A 2 5 + (bx_sum (fun i => A 2 (88 + 3 * i + 2)) n + A 2 (88 + 3 * n + 2))).toInt ≤ _
      rw [eT, ← Int32.add_assoc, ti_add rfl (nI_toInt (show T < 2 ^ 31 by omega)) (by omega) (by omega)]
      omega
  exact fun n hn => (key n hn).1
theorem p_go : P_go IV 40 := by
  intro g A x a f h
  obtain ⟨m, hm, em, exm⟩ := IV_m h
  obtain ⟨ns, hn, en, exn⟩ := IV_ns h
  have hb := h.2.2.2.2.2.1
  have hsum : bx_sum (a 24) ns = bx_sum (fun i => A 2 (88 + 3 * i + 2)) ns := by
    refine bx_congr ns (fun i hi => ?_)
    obtain ⟨w, T, -, -, -, -, -, -, e1, e2, -⟩ := stage_nums h.2.2.2.2.1 hb en hi hn
    show a 24 i = A 2 (88 + 3 * i + 2)
    rw [e1, e2]
  have hall : x 17 7 + bx_sum (a 24) ns = A 2 5 + bx_sum (fun i => A 2 (88 + 3 * i + 2)) ns := by rw [hsum, hb.1.2.2.2.2.2.1]
  by_cases c0 : A 2 4 = 0
  · have c0x : x 17 12 = 0 := by rw [← hb.1.2.2.2.2.1]; exact c0
    refine pr_rf h rc3 ?_ (fun xs => ?_)
    · refine ab_meth oX4_go 39 _ _ _ _ (Nat.le_refl _) rfl (fun E => ?_)
      refine ab_run [49] 100 oX4_go.1 (Nat.le_refl _) 0 ?_
      refine ⟨fun c => absurd c0x c, fun c => ?_⟩
      exact ⟨_, _, x_rf _ _ x a f rc3, Nat.le_refl _, rfl, rfl⟩
    · refine ab_meth oX5_go 39 _ _ _ _ (Nat.le_refl _) rfl (fun E => ?_)
      refine ab_run [4] 100 oX5_go.1 (Nat.le_refl _) 0 ?_
      refine m_gosum g A xs en hn _ E _ ?_
      refine ab_run [87] 100 oX5_go.1 (Nat.le_refl _) 36 ?_
      refine ⟨vp_d rfl, fun c => absurd c0 c, fun c => ?_⟩
      refine ⟨fun c => absurd c (by decide), fun c => ?_⟩
      exact ⟨_, _, m_rf _ g A xs rc3, Nat.le_refl _, rfl, rfl⟩
  have c0x : ¬ x 17 12 = 0 := by rw [← hb.1.2.2.2.2.1]; exact c0
  by_cases c1 : A 2 5 + bx_sum (fun i => A 2 (88 + 3 * i + 2)) ns ≤ 9999
  · obtain ⟨w', r', F', k1, k2, hXw⟩ := x_goloop h em hm en hn (mbl g A) (hX (mbl g A) x a f) (x 17 7 + bx_sum (a 24) ns) m 0 (x 42) (x 41) f (by omega) (fun j hj => absurd hj (Nat.not_lt_zero j)) (fun _ _ => rfl) (fun _ _ => rfl)
    rw [rX] at hXw
    have e2 : (rsN m ns (bgG g A, bgN m A)).2 2 = A 2 := by
      rw [rsN_A _ _ _ (by decide) (by decide) (by decide)]
      exact bgN_n m A (by decide) (by decide) (by decide)
    have hvr := fun j (hj : j < m) => (ride_V h em hm en hn hj (-9) (fun _ => 0)).2
    have h12 := rs_12 h en hn (m := m) ns (Nat.le_refl _)
    have hcd := fun xs => m_counted h em hm en hn 32 xs
    have hIV := IV_rs m ns h
    have hS := rs_pos h en hn ns (Nat.le_refl _)
    generalize rsN m ns (bgG g A, bgN m A) = Q at k1 e2 hvr h12 hcd hIV
    refine pr_w (r := A 2 5 + bx_sum (fun i => A 2 (88 + 3 * i + 2)) ns) (x' := mS (mS (mS x 42 w') 41 r') 17 (upd (x 17) 7 (x 17 7 + bx_sum (a 24) ns))) (a' := a) (f' := F') (g' := Q.1) (A' := mS Q.2 2 (upd (goS (A 2) (Q.2 7) (Q.2 8) m) 5 (Q.1 12))) (ex_r (r := x 17 7 + bx_sum (a 24) ns) ?_ hall) (fun xs => ex_r (r := Q.1 12) ?_ h12) ?_
    · refine ab_meth oX4_go 39 _ _ _ _ (Nat.le_refl _) rfl (fun E => ?_)
      refine ab_run [49] 100 oX4_go.1 (Nat.le_refl _) 0 ?_
      refine ⟨fun c => ?_, fun c => absurd c c0x⟩
      refine ⟨_, _, x_turnsOfRide _ _ x a f exn hn, Nat.le_refl _, ?_⟩
      refine ⟨fun c => ?_, fun (c : ¬ x 17 7 + bx_sum (a 24) ns ≤ 9999) => absurd c1 (by rw [← hall]; exact c)⟩
      exact hXw E
    · refine ab_meth oX5_go 39 _ _ _ _ (Nat.le_refl _) rfl (fun E => ?_)
      refine ab_run [4] 100 oX5_go.1 (Nat.le_refl _) 0 ?_
      refine m_gosum g A xs en hn _ E _ ?_
      refine ab_run [87] 100 oX5_go.1 (Nat.le_refl _) 36 ?_
      refine ⟨vp_d rfl, fun c => ?_, fun c => absurd c c0⟩
      refine ⟨vp_d rfl, fun c => ?_, fun c => absurd c1 c⟩
      refine ⟨fun c => ?_, fun c => absurd rfl c⟩
      refine ⟨_, _, hcd xs, Nat.le_refl _, ?_⟩
      have h9 := m_goend Q.1 Q.2 (A 2) xs em hm (bx_sum (fun i => A 2 (88 + 3 * i + 2)) ns) 0 (hM g A xs) E
      rw [← e2, mS_id] at h9
      rw [← e2]
      exact h9
    · obtain ⟨h1, h2, h3, h4, h5, h6, h7⟩ := hIV
      rw [e2] at h5 h6
      have z9 : (9999 : Int32).toInt = 9999 := rfl
      have t1 := Int32.le_iff_toInt_le.mp c1
      have hW := WF_go (t := Q.1 12) h5 em hm (by rw [h12]; exact hS) (by rw [h12]; omega) hvr
      have hB := BR_go (x' := mS (mS (mS x 42 w') 41 r') 17 (upd (x 17) 7 (x 17 7 + bx_sum (a 24) ns))) (t := Q.1 12) h6 em hm (by rw [mS_eq, h12, hall]) k1
      refine ⟨h1, h2, h3, h4, hW, hB, fun q => ⟨(h7 q).1, BR_congr ?_ rfl rfl rfl rfl rfl (k2 36 (by decide)) (h7 q).2⟩⟩
      rw [mS_ne _ _ _ (by decide), mS_ne _ _ _ (by decide), mS_ne _ _ _ (by decide)]
  · refine pr_rf h rc6 ?_ (fun xs => ?_)
    · refine ab_meth oX4_go 39 _ _ _ _ (Nat.le_refl _) rfl (fun E => ?_)
      refine ab_run [49] 100 oX4_go.1 (Nat.le_refl _) 0 ?_
      refine ⟨fun c => ?_, fun c => absurd c c0x⟩
      refine ⟨_, _, x_turnsOfRide _ _ x a f exn hn, Nat.le_refl _, ?_⟩
      refine ⟨fun (c : x 17 7 + bx_sum (a 24) ns ≤ 9999) => absurd c (by rw [hall]; exact c1), fun c => ?_⟩
      exact ⟨_, _, x_rf _ _ x a f rc6, Nat.le_refl _, rfl, rfl⟩
    · refine ab_meth oX5_go 39 _ _ _ _ (Nat.le_refl _) rfl (fun E => ?_)
      refine ab_run [4] 100 oX5_go.1 (Nat.le_refl _) 0 ?_
      refine m_gosum g A xs en hn _ E _ ?_
      refine ab_run [87] 100 oX5_go.1 (Nat.le_refl _) 36 ?_
      refine ⟨vp_d rfl, fun c => ?_, fun c => absurd c c0⟩
      refine ⟨vp_d rfl, fun c => absurd c c1, fun c => ?_⟩
      refine ⟨fun c => absurd c (by decide), fun c => ?_⟩
      exact ⟨_, _, m_rf _ g A xs rc6, Nat.le_refl _, rfl, rfl⟩
