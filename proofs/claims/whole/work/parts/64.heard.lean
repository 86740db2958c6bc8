theorem heard_N {g : mG} {A x a : mA} {f : mF} (h : IV g A x a f) {m ns : Nat} (hm : m ≤ 8) (em : A 2 3 = nI m) (en : A 2 4 = nI ns) (hn : ns ≤ 8) (z : Int32) : ∃ N : Nat, N ≤ 384000 ∧ DI z (A 2 9) m (A 2) (rsN m ns ((upd (upd (bgG g A) 16 1) 14 z), bgN m A)) N := by
  have h0 : DI z (A 2 9) m (A 2) ((upd (upd (bgG g A) 16 1) 14 z), bgN m A) 0 := by
    refine ⟨rfl, rfl, ?_, rfl, bgN_n m A (by decide) (by decide) (by decide)⟩
    rw [nI_0]
    exact bx_0 _ m (fun i hi => (bgN_lo m A hi).2.2)
  obtain ⟨N, b, hN⟩ := DI_rs hm (s := A 2) rfl (ns := ns) (fun i hi => by
    obtain ⟨w, T, -, -, -, hT, -, -, eT, -⟩ := stage_nums h.2.2.2.2.1 h.2.2.2.2.2.1 en hi hn
    rw [eT, nI_clamp (by omega)]
    exact hT) h0 ns (Nat.le_refl _)
  exact ⟨N, by omega, hN⟩
theorem cnt_G {g : mG} {A x a : mA} {f : mF} (h : IV g A x a f) {m ns j : Nat} (em : A 2 3 = nI m) (hm : m ≤ 8) (en : A 2 4 = nI ns) (hn : ns ≤ 8) (hj : j < m) {G G' : mG} (h12 : G 12 = A 2 5) (h13 : G 13 = 0) (h12' : G' 12 = A 2 5) (h13' : G' 13 = 0) : (rsN m ns (G, bgN m A)).2 9 j = (rsN m ns (G', bgN m A)).2 9 j := by
  have h1 := (ride_RN h em hm en hn hj h12 h13 (-9) (fun _ => 0) ns (Nat.le_refl _)).1.2.2.2.2.2.2.1
  have h2 := (ride_RN h em hm en hn hj h12' h13' (-9) (fun _ => 0) ns (Nat.le_refl _)).1.2.2.2.2.2.2.1
  exact h1.symm.trans h2
set_option maxRecDepth 100000 in
theorem x_heard (mb : Nat → AB) (x a : mA) (f : mF) {m N : Nat} (exm : x 17 5 = nI m) (hm : m ≤ 8) (hN : N ≤ 384000) (z : Int32) (c : Nat → Int32) (hc : bx_sum c m = nI N) (h0 : AH) (E : Nat × (Nat → Int32)) : ab_W jX4_heard 39 E h0 70 (fun v1 h1 => v1 = some (vI (nI N - msN z (a 21 2) N)) ∧ h1 = hX mb x (mS a 45 c) f) (ab_at iX4_heard 8) [(3, vI 0), (2, vI 0), (0, vR 13 0), (1, vI z)] [] (hX mb x (mS a 45 c) f) := by
  have draws : ∀ (k i : Nat), i + k = N → ab_W jX4_heard 39 E h0 70 (fun v1 h1 => v1 = some (vI (nI N - msN z (a 21 2) N)) ∧ h1 = hX mb x (mS a 45 c) f) (ab_at iX4_heard 42) [(5, vI (nI i)), (4, vI (msN z (a 21 2) i)), (3, vI (sdN z i)), (2, vI (nI N)), (0, vR 13 0), (1, vI z)] [] (hX mb x (mS a 45 c) f) := by
    intro k
    induction k with
    | zero =>
      intro i hi
      refine ab_run [8, 42] 100 oX4_heard.1 (Nat.le_refl _) 42 ?_
      refine ⟨fun _ => ?_, fun c1 => absurd (nI_le (by omega) (by omega)) c1⟩
      rw [show i = N by omega]
      exact ⟨rfl, rfl⟩
    | succ k ih =>
      intro i hi
      have h9 := ih (i + 1) (by omega)
      rw [nI_succ, show msN z (a 21 2) (i + 1) = msN z (a 21 2) i + drwM (drwS (sdN z i)) (a 21 2) from rfl, show sdN z (i + 1) = drwS (sdN z i) from rfl] at h9
      generalize msN z (a 21 2) i = M at h9 ⊢
      generalize sdN z i = S at h9 ⊢
      refine ab_run [8, 42] 100 oX4_heard.1 (Nat.le_refl _) 42 ?_
      refine ⟨fun c1 => absurd c1 (nI_ge (by omega) (by omega)), fun _ => ?_⟩
      refine ⟨by decide, by decide, vp_d rfl, ?_⟩
      refine ⟨fun (c2 : a 21 2 ≤ ab_rem ((drwS S &&& 2147483647) / 256) 100) => ?_, fun (c2 : ¬ a 21 2 ≤ ab_rem ((drwS S &&& 2147483647) / 256) 100) => ?_⟩
      · have ed : drwM (drwS S) (a 21 2) = 0 := by rw [drwM, if_neg (le_nlt c2)]
        rw [ed] at h9
        exact ab_W_lv (lv_pk [0, 1, 3, 4, 5, 6] rfl) h9
      · have ed : drwM (drwS S) (a 21 2) = 1 := by rw [drwM, if_pos (nle_lt c2)]
        rw [ed] at h9
        exact ab_W_lv (lv_pk [0, 1, 3, 4, 5, 6] rfl) h9
  have sums : ∀ (k i : Nat), i + k = m → ab_W jX4_heard 39 E h0 70 (fun v1 h1 => v1 = some (vI (nI N - msN z (a 21 2) N)) ∧ h1 = hX mb x (mS a 45 c) f) (ab_at iX4_heard 8) [(3, vI (nI i)), (2, vI (bx_sum c i)), (0, vR 13 0), (1, vI z)] [] (hX mb x (mS a 45 c) f) := by
    intro k
    induction k with
    | zero =>
      intro i hi
      refine ab_run [8, 42] 100 oX4_heard.1 (Nat.le_refl _) 8 ?_
      refine ⟨fun _ => ?_, fun (c1 : ¬ x 17 5 ≤ nI i) => ?_⟩
      · rw [show i = m by omega, hc]
        have h9 := draws N 0 (by omega)
        exact h9
      · rw [exm] at c1
        exact absurd (nI_le (by omega) (by omega)) c1
    | succ k ih =>
      intro i hi
      refine ab_run [8, 42] 100 oX4_heard.1 (Nat.le_refl _) 8 ?_
      refine ⟨fun (c1 : x 17 5 ≤ nI i) => ?_, fun _ => ?_⟩
      · rw [exm] at c1
        exact absurd c1 (nI_lt_m (by omega) (by omega))
      refine ⟨(vp_in_nI (by omega) (by omega) : vp_in (nI i) 8), ?_⟩
      rw [nI_clamp (by omega)]
      have h9 := ih (i + 1) (by omega)
      rw [nI_succ] at h9
      exact h9
  exact sums m 0 (by omega)
set_option maxRecDepth 100000 in
theorem m_heard (G : mG) (B : mA) (xs : List AB) {m N : Nat} (em : B 2 3 = nI m) (hm : m ≤ 8) (z : Int32) (hc : bx_sum (B 9) m = nI N) (h0 : AH) (E : Nat × (Nat → Int32)) : ab_W jX5_heard 39 E h0 70 (fun v1 h1 => v1 = some (vI (nI N - G 15)) ∧ h1 = hM G B xs) (ab_at iX5_heard 22) [(3, vI 0), (2, vI 0), (0, vR 0 0), (1, vI z)] [] (hM G B xs) := by
  have sums : ∀ (k i : Nat), i + k = m → ab_W jX5_heard 39 E h0 70 (fun v1 h1 => v1 = some (vI (nI N - G 15)) ∧ h1 = hM G B xs) (ab_at iX5_heard 22) [(3, vI (nI i)), (2, vI (bx_sum (B 9) i)), (0, vR 0 0), (1, vI z)] [] (hM G B xs) := by
    intro k
    induction k with
    | zero =>
      intro i hi
      refine ab_run [22] 100 oX5_heard.1 (Nat.le_refl _) 22 ?_
      refine ⟨vp_d rfl, fun _ => ?_, fun (c1 : ¬ B 2 3 ≤ nI i) => ?_⟩
      · rw [show i = m by omega, hc]
        exact ⟨rfl, rfl⟩
      · rw [em] at c1
        exact absurd (nI_le (by omega) (by omega)) c1
    | succ k ih =>
      intro i hi
      refine ab_run [22] 100 oX5_heard.1 (Nat.le_refl _) 22 ?_
      refine ⟨vp_d rfl, fun (c1 : B 2 3 ≤ nI i) => ?_, fun _ => ?_⟩
      · rw [em] at c1
        exact absurd c1 (nI_lt_m (by omega) (by omega))
      refine ⟨(vp_in_nI (by omega) (by omega) : vp_in (nI i) 8), ?_⟩
      rw [nI_clamp (by omega)]
      have h9 := ih (i + 1) (by omega)
      rw [nI_succ] at h9
      exact h9
  exact sums m 0 (by omega)
theorem p_heard : P_heard IV 40 := by
  intro z g A x a f h
  obtain ⟨m, hm, em, exm⟩ := IV_m h
  obtain ⟨ns, hn, en, exn⟩ := IV_ns h
  have e2 : bgN m A 2 = A 2 := bgN_n m A (by decide) (by decide) (by decide)
  obtain ⟨N, hN, D1, D2, D3, D4, D5⟩ := heard_N h hm em en hn z
  obtain ⟨w, r, ca, hc, hl⟩ := x_listen h em hm en hn 34 (mbl g A)
  have hs : bx_sum ca m = nI N := by
    rw [← D3]
    exact bx_congr m (fun j hj => (hc j hj).trans (cnt_G h em hm en hn hj rfl rfl rfl rfl))
  have e9 : A 2 9 = a 21 2 := h.2.2.2.2.2.1.2.1 2 (by decide)
  rw [e9] at D2
  have hR := fun xs => m_rides 33 xs (upd (upd (bgG g A) 16 1) 14 z) (bgN m A) (m := m) (ns := ns) (by rw [e2]; exact em) hm (by rw [e2]; exact en) hn (bgN_8 h em hm) (by rw [e2]; exact SOK_of e2 h.2.2.2.2.1 em hm en hn)
  have hIV := IV_wr (IV_cl (IV_rsG (G := (upd (upd (bgG g A) 16 1) 14 z)) m ns (fun k hk => by rcases hk with rfl | rfl | rfl <;> rfl) h) ca) w r
  generalize (rsN m ns ((upd (upd (bgG g A) 16 1) 14 z), bgN m A)) = Q at D1 D2 D3 D4 D5 hR hIV
  refine pr_w (r := nI N - msN z (a 21 2) N) (x' := mS (mS x 42 w) 41 r) (a' := mS a 45 ca) (f' := f) (g' := Q.1) (A' := Q.2) ?_ (fun xs => ex_r (r := nI N - Q.1 15) ?_ (by rw [D2])) hIV
  · refine ab_meth oX4_heard 39 _ _ _ _ (Nat.le_refl _) rfl (fun E => ?_)
    refine ab_run [8, 42] 100 oX4_heard.1 (Nat.le_refl _) 0 ?_
    refine ⟨_, _, hl, Nat.le_refl _, ?_⟩
    exact x_heard (mbl g A) (mS (mS x 42 w) 41 r) a f exm hm hN z ca hs _ E
  · refine ab_meth oX5_heard 39 _ _ _ _ (Nat.le_refl _) rfl (fun E => ?_)
    refine ab_run [22] 100 oX5_heard.1 (Nat.le_refl _) 0 ?_
    refine ⟨_, _, m_begins 37 xs g A em hm, Nat.le_refl _, ?_⟩
    refine ⟨Or.inr rfl, ?_⟩
    refine ⟨_, _, hR xs, Nat.le_refl _, ?_⟩
    exact m_heard Q.1 Q.2 xs (by rw [D5]; exact em) hm z D3 _ E
