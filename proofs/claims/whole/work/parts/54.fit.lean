theorem abs_eq (v : Int32) : (if 0 ≤ v then v else 0 - v) = absI v := by
  unfold absI
  by_cases q : v < 0
  · rw [if_pos q, if_neg (lt_nle q), Int32.zero_sub]
  · rw [if_neg q, if_pos (nlt_le q)]
def ftN (c : Nat → Int32) (told off : Int32) : Nat → Int32
  | 0 => 0
  | i + 1 => if absI (c i - told) ≤ off then ftN c told off i ||| ((1 : Int32) <<< (nI i &&& 31)) else ftN c told off i
set_option maxRecDepth 100000 in
theorem x_fit {g : mG} {A x a : mA} {f : mF} (h : IV g A x a f) {m ns : Nat} (em : A 2 3 = nI m) (hm : m ≤ 8) (en : A 2 4 = nI ns) (hn : ns ≤ 8) (told off : Int32) (d : Nat) (mb : Nat → AB) : ∃ w r c : Nat → Int32, ab_Ex (d + 6) 0 yX4_fittingBits [vR 13 0, vI told, vI off] (hX mb x a f) (some (vI (ftN ((rsN m ns (bgG g A, bgN m A)).2 9) told off m))) (hX mb (mS (mS x 42 w) 41 r) (mS a 45 c) f) := by
  obtain ⟨w, r, c, hc, hl⟩ := x_listen h em hm en hn d mb
  have exm : x 17 5 = nI m := by rw [← h.2.2.2.2.2.1.1.2.2.2.1]; exact em
  refine ⟨w, r, c, ?_⟩
  refine ab_meth oX4_fittingBits (d + 5) _ _ _ _ (Nat.le_refl _) rfl (fun E => ?_)
  have loop : ∀ (k i : Nat), i + k = m → ab_W jX4_fittingBits (d + 5) E (hX mb x a f) 70 (fun v1 h1 => v1 = some (vI (ftN ((rsN m ns (bgG g A, bgN m A)).2 9) told off m)) ∧ h1 = hX mb (mS (mS x 42 w) 41 r) (mS a 45 c) f) (ab_at iX4_fittingBits 9) [(4, vI (nI i)), (3, vI (ftN ((rsN m ns (bgG g A, bgN m A)).2 9) told off i)), (0, vR 13 0), (1, vI told), (2, vI off)] [] (hX mb (mS (mS x 42 w) 41 r) (mS a 45 c) f) := by
    intro k
    induction k with
    | zero =>
      intro i hi
      refine ab_run [9] 100 oX4_fittingBits.1 (Nat.le_refl _) 9 ?_
      refine ⟨fun c1 => ?_, fun (c1 : ¬ x 17 5 ≤ nI i) => ?_⟩
      · refine ⟨?_, rfl⟩
        rw [show i = m by omega]
      · rw [exm] at c1
        exact absurd (nI_le (by omega) (by omega)) c1
    | succ k ih =>
      intro i hi
      have hnx := ih (i + 1) (by omega)
      rw [nI_succ] at hnx
      refine ab_run [9] 100 oX4_fittingBits.1 (Nat.le_refl _) 9 ?_
      refine ⟨fun (c1 : x 17 5 ≤ nI i) => ?_, fun c1 => ?_⟩
      · rw [exm] at c1
        exact absurd c1 (nI_lt_m (by omega) (by omega))
      refine ⟨(vp_in_nI (by omega) (by omega) : vp_in (nI i) 8), ?_⟩
      rw [nI_clamp (by omega)]
      refine ⟨_, _, x_isWithin _ _ (Nat.le_refl _) (c i) told off, Nat.le_refl _, ?_⟩
      rw [abs_eq, hc i (by omega)]
      refine br_z (fun c2 => ?_) (fun c2 => ?_)
      · rw [show ftN ((rsN m ns (bgG g A, bgN m A)).2 9) told off (i + 1) = ftN ((rsN m ns (bgG g A, bgN m A)).2 9) told off i from if_neg c2] at hnx
        exact hnx
      · rw [show ftN ((rsN m ns (bgG g A, bgN m A)).2 9) told off (i + 1) = ftN ((rsN m ns (bgG g A, bgN m A)).2 9) told off i ||| ((1 : Int32) <<< (nI i &&& 31)) from if_pos c2] at hnx
        exact hnx
  refine ab_run [9] 100 oX4_fittingBits.1 (Nat.le_refl _) 0 ?_
  refine ⟨_, _, hl, Nat.le_refl _, ?_⟩
  exact loop m 0 (by omega)
set_option maxRecDepth 100000 in
theorem m_fit {g : mG} {A x a : mA} {f : mF} (h : IV g A x a f) {m ns : Nat} (em : A 2 3 = nI m) (hm : m ≤ 8) (en : A 2 4 = nI ns) (hn : ns ≤ 8) (told off : Int32) (d : Nat) (xs : List AB) : ab_Ex (d + 8) 0 yX5_fitOf [vR 0 0, vI told, vI off] (hM g A xs) (some (vI (ftN ((rsN m ns (bgG g A, bgN m A)).2 9) told off m))) (hM (rsN m ns (bgG g A, bgN m A)).1 (rsN m ns (bgG g A, bgN m A)).2 xs) := by
  have hcd := m_counted h em hm en hn d xs
  have e2 : (rsN m ns (bgG g A, bgN m A)).2 2 = A 2 := by
    rw [rsN_A _ _ _ (by decide) (by decide) (by decide)]
    exact bgN_n m A (by decide) (by decide) (by decide)
  generalize hQ : rsN m ns (bgG g A, bgN m A) = Q at hcd e2 ⊢
  refine ab_meth oX5_fitOf (d + 7) _ _ _ _ (Nat.le_refl _) rfl (fun E => ?_)
  have loop : ∀ (k i : Nat), i + k = m → ab_W jX5_fitOf (d + 7) E (hM g A xs) 70 (fun v1 h1 => v1 = some (vI (ftN (Q.2 9) told off m)) ∧ h1 = hM Q.1 Q.2 xs) (ab_at iX5_fitOf 9) [(4, vI (nI i)), (3, vI (ftN (Q.2 9) told off i)), (0, vR 0 0), (1, vI told), (2, vI off)] [] (hM Q.1 Q.2 xs) := by
    intro k
    induction k with
    | zero =>
      intro i hi
      refine ab_run [9] 100 oX5_fitOf.1 (Nat.le_refl _) 9 ?_
      refine ⟨vp_d rfl, fun c1 => ?_, fun (c1 : ¬ Q.2 2 3 ≤ nI i) => ?_⟩
      · refine ⟨?_, rfl⟩
        rw [show i = m by omega]
      · rw [e2, em] at c1
        exact absurd (nI_le (by omega) (by omega)) c1
    | succ k ih =>
      intro i hi
      have hnx := ih (i + 1) (by omega)
      rw [nI_succ] at hnx
      refine ab_run [9] 100 oX5_fitOf.1 (Nat.le_refl _) 9 ?_
      refine ⟨vp_d rfl, fun (c1 : Q.2 2 3 ≤ nI i) => ?_, fun c1 => ?_⟩
      · rw [e2, em] at c1
        exact absurd c1 (nI_lt_m (by omega) (by omega))
      refine ⟨(vp_in_nI (by omega) (by omega) : vp_in (nI i) 8), ?_⟩
      rw [nI_clamp (by omega)]
      refine ⟨_, _, m_amount _ _ (Nat.le_refl _) (Q.2 9 i - told), Nat.le_refl _, ?_⟩
      refine ⟨fun c2 => ?_, fun c2 => ?_⟩
      · rw [show ftN (Q.2 9) told off (i + 1) = ftN (Q.2 9) told off i from if_neg (lt_nle c2), ← Int32.or_zero (a := ftN (Q.2 9) told off i)] at hnx
        exact hnx
      · rw [show ftN (Q.2 9) told off (i + 1) = ftN (Q.2 9) told off i ||| ((1 : Int32) <<< (nI i &&& 31)) from if_pos (nlt_le c2)] at hnx
        exact hnx
  refine ab_run [9] 100 oX5_fitOf.1 (Nat.le_refl _) 0 ?_
  refine ⟨_, _, hcd, Nat.le_refl _, ?_⟩
  exact loop m 0 (by omega)
theorem p_fit : P_fit IV 40 := by
  intro p1 p2 g A x a f h
  obtain ⟨m, hm, em, exm⟩ := IV_m h
  obtain ⟨ns, hn, en, exn⟩ := IV_ns h
  by_cases c0 : p1 < 0 ∨ p2 < 0
  · refine pr_rf h rc4 ?_ (fun xs => ?_)
    · refine ab_meth oX4_fit 39 _ _ _ _ (Nat.le_refl _) rfl (fun E => ?_)
      refine ab_run [] 100 oX4_fit.1 (Nat.le_refl _) 0 ?_
      exact ⟨fun c => ⟨_, _, x_rf _ _ x a f rc4, Nat.le_refl _, rfl, rfl⟩, fun c => ⟨fun c' => absurd c0 (fun q => q.elim c (le_nlt c')), fun c' => ⟨_, _, x_rf _ _ x a f rc4, Nat.le_refl _, rfl, rfl⟩⟩⟩
    · refine ab_meth oX5_fit 39 _ _ _ _ (Nat.le_refl _) rfl (fun E => ?_)
      refine ab_run [] 100 oX5_fit.1 (Nat.le_refl _) 0 ?_
      refine ⟨_, _, m_wrongCount _ _ (Nat.le_refl _) _ _, Nat.le_refl _, ?_⟩
      rw [show wrongI p1 p2 = -4 from if_pos c0]
      refine ⟨fun c => absurd c (by decide), fun c => ?_⟩
      exact ⟨_, _, m_rf _ g A xs rc4, Nat.le_refl _, rfl, rfl⟩
  by_cases c1 : 9999 < p1 ∨ 9999 < p2
  · refine pr_rf h rc6 ?_ (fun xs => ?_)
    · refine ab_meth oX4_fit 39 _ _ _ _ (Nat.le_refl _) rfl (fun E => ?_)
      refine ab_run [] 100 oX4_fit.1 (Nat.le_refl _) 0 ?_
      refine ⟨fun c => absurd (Or.inl c) c0, fun c => ⟨fun c' => ?_, fun c' => absurd (Or.inr (nle_lt c')) c0⟩⟩
      exact ⟨fun c => ⟨_, _, x_rf _ _ x a f rc6, Nat.le_refl _, rfl, rfl⟩, fun c => ⟨fun c' => absurd c1 (fun q => q.elim c (le_nlt c')), fun c' => ⟨_, _, x_rf _ _ x a f rc6, Nat.le_refl _, rfl, rfl⟩⟩⟩
    · refine ab_meth oX5_fit 39 _ _ _ _ (Nat.le_refl _) rfl (fun E => ?_)
      refine ab_run [] 100 oX5_fit.1 (Nat.le_refl _) 0 ?_
      refine ⟨_, _, m_wrongCount _ _ (Nat.le_refl _) _ _, Nat.le_refl _, ?_⟩
      rw [show wrongI p1 p2 = -6 from (if_neg c0).trans (if_pos c1)]
      refine ⟨fun c => absurd c (by decide), fun c => ?_⟩
      exact ⟨_, _, m_rf _ g A xs rc6, Nat.le_refl _, rfl, rfl⟩
  obtain ⟨w, r, c, hx⟩ := x_fit h em hm en hn p1 p2 33 (mbl g A)
  refine pr_w (r := ftN ((rsN m ns (bgG g A, bgN m A)).2 9) p1 p2 m) (x' := mS (mS x 42 w) 41 r) (a' := mS a 45 c) (f' := f) (g' := (rsN m ns (bgG g A, bgN m A)).1) (A' := (rsN m ns (bgG g A, bgN m A)).2) ?_ (fun xs => ?_) (IV_wr (IV_cl (IV_rs m ns h) c) w r)
  · refine ab_meth oX4_fit 39 _ _ _ _ (Nat.le_refl _) rfl (fun E => ?_)
    refine ab_run [] 100 oX4_fit.1 (Nat.le_refl _) 0 ?_
    refine ⟨fun c => absurd (Or.inl c) c0, fun c => ⟨fun c' => ?_, fun c' => absurd (Or.inr (nle_lt c')) c0⟩⟩
    refine ⟨fun c => absurd (Or.inl c) c1, fun c => ⟨fun c' => ?_, fun c' => absurd (Or.inr (nle_lt c')) c1⟩⟩
    exact ⟨_, _, hx, Nat.le_refl _, rfl, rfl⟩
  · refine ab_meth oX5_fit 39 _ _ _ _ (Nat.le_refl _) rfl (fun E => ?_)
    refine ab_run [] 100 oX5_fit.1 (Nat.le_refl _) 0 ?_
    refine ⟨_, _, m_wrongCount _ _ (Nat.le_refl _) _ _, Nat.le_refl _, ?_⟩
    rw [show wrongI p1 p2 = 0 from (if_neg c0).trans (if_neg c1)]
    refine ⟨fun c => ?_, fun c => absurd rfl c⟩
    exact ⟨_, _, m_fit h em hm en hn p1 p2 31 xs, Nat.le_refl _, rfl, rfl⟩
def twF (i : Int32) (n : Nat) : Int32 := if i = -1 then nI n else -9
def twI (Q : Nat → Int32) (told off i : Int32) (u : Nat) (nx : Nat → Int32) : Nat → Nat → Nat → Int32
  | 0, _, n => nx n
  | k + 1, v, n => if absI (Q u + Q v - told) ≤ off then (if nI n = i then 10 * nI u + nI v else twI Q told off i u nx k (v + 1) (n + 1)) else twI Q told off i u nx k (v + 1) n
def twO (Q : Nat → Int32) (told off i : Int32) (m : Nat) : Nat → Nat → Nat → Int32
  | 0, _, n => twF i n
  | k + 1, u, n => twI Q told off i u (twO Q told off i m k (u + 1)) (m - (u + 1)) (u + 1) n
set_option maxRecDepth 100000 in
theorem x_twos {m : Nat} {x a : mA} {f : mF} (exm : x 17 5 = nI m) (hm : m ≤ 8) (d : Nat) (mb : Nat → AB) (p1 p2 p3 : Int32) (R : Int32) (h0 : AH) (Q c : Nat → Int32) (hc : ∀ j, j < m → c j = Q j) (E : Nat × (Nat → Int32)) : ∀ (k u n : Nat), u + k = m → R = twO Q p1 p2 p3 m k u n → ab_W jX4_twos (d + 3) E h0 70 (fun v1 h1 => v1 = some (vI R) ∧ h1 = hX mb x (mS a 45 c) f) (ab_at iX4_twos 51) [(5, vI (nI u)), (4, vI (nI n)), (0, vR 13 0), (1, vI p1), (2, vI p2), (3, vI p3)] [] (hX mb x (mS a 45 c) f) := by
  intro k
  induction k with
  | zero =>
    intro u n hu hR
    refine ab_run [51, 69] 100 oX4_twos.1 (Nat.le_refl _) 51 ?_
    refine ⟨fun c1 => ?_, fun (c1 : ¬ x 17 5 ≤ nI u) => ?_⟩
    · rw [hR]
      show _ ∧ _
      unfold twO twF
      refine ⟨fun c2 => ?_, fun c2 => ?_⟩
      · rw [if_neg c2]
        exact ⟨rfl, rfl⟩
      · rw [if_pos c2]
        exact ⟨rfl, rfl⟩
    · rw [exm] at c1
      exact absurd (nI_le (by omega) (by omega)) c1
  | succ k ih =>
    intro u n hu hR
    have inner : ∀ (l v n : Nat), v + l = m → R = twI Q p1 p2 p3 u (twO Q p1 p2 p3 m k (u + 1)) l v n → ab_W jX4_twos (d + 3) E h0 70 (fun v1 h1 => v1 = some (vI R) ∧ h1 = hX mb x (mS a 45 c) f) (ab_at iX4_twos 69) [(6, vI (nI v)), (5, vI (nI u)), (4, vI (nI n)), (0, vR 13 0), (1, vI p1), (2, vI p2), (3, vI p3)] [] (hX mb x (mS a 45 c) f) := by
      intro l
      induction l with
      | zero =>
        intro v n hv hR
        refine ab_run [51, 69] 100 oX4_twos.1 (Nat.le_refl _) 69 ?_
        refine ⟨fun c1 => ?_, fun (c1 : ¬ x 17 5 ≤ nI v) => ?_⟩
        · have h9 := ih (u + 1) n (by omega) hR
          rw [nI_succ] at h9
          exact ab_W_lv (lv_pk [0, 2, 3, 4, 5, 6] rfl) h9
        · rw [exm] at c1
          exact absurd (nI_le (by omega) (by omega)) c1
      | succ l ihl =>
        intro v n hv hR
        refine ab_run [51, 69] 100 oX4_twos.1 (Nat.le_refl _) 69 ?_
        refine ⟨fun (c1 : x 17 5 ≤ nI v) => ?_, fun c1 => ?_⟩
        · rw [exm] at c1
          exact absurd c1 (nI_lt_m (by omega) (by omega))
        refine ⟨(vp_in_nI (by omega) (by omega) : vp_in (nI u) 8), (vp_in_nI (by omega) (by omega) : vp_in (nI v) 8), ?_⟩
        rw [nI_clamp (by omega), nI_clamp (by omega)]
        refine ⟨_, _, x_isWithin _ _ (Nat.le_refl _) (c u + c v) p1 p2, Nat.le_refl _, ?_⟩
        rw [abs_eq, hc u (by omega), hc v (by omega)]
        unfold twI at hR
        refine br_z (fun c2 => ?_) (fun c2 => ?_)
        · rw [if_neg c2] at hR
          have h9 := ihl (v + 1) n (by omega) hR
          rw [nI_succ] at h9
          exact h9
        · rw [if_pos c2] at hR
          refine ⟨fun c3 => ?_, fun c3 => ?_⟩
          · rw [if_neg c3] at hR
            have h9 := ihl (v + 1) (n + 1) (by omega) hR
            rw [nI_succ, nI_succ] at h9
            exact ab_W_lv (lv_pk [0, 2, 1, 3, 4, 5, 6] rfl) h9
          · rw [if_pos c3] at hR
            rw [hR]
            exact ⟨rfl, rfl⟩
    refine ab_run [51, 69] 100 oX4_twos.1 (Nat.le_refl _) 51 ?_
    refine ⟨fun (c1 : x 17 5 ≤ nI u) => ?_, fun c1 => ?_⟩
    · rw [exm] at c1
      exact absurd c1 (nI_lt_m (by omega) (by omega))
    have h9 := inner (m - (u + 1)) (u + 1) n (by omega) hR
    rw [nI_succ] at h9
    exact h9
set_option maxRecDepth 100000 in
theorem m_twos {m : Nat} (hm : m ≤ 8) (d : Nat) (xs : List AB) (p1 p2 p3 : Int32) (h3 : ¬ p3 < -1) (R : Int32) (h0 : AH) (G : mG) (B : mA) (em : B 2 3 = nI m) (E : Nat × (Nat → Int32)) (w4 : Int32) : ∀ (k u n : Nat), u + k = m → R = twO (B 9) p1 p2 p3 m k u n → ab_W jX5_twos (d + 3) E h0 70 (fun v1 h1 => v1 = some (vI R) ∧ h1 = hM G B xs) (ab_at iX5_twos 38) [(6, vI (nI u)), (5, vI (nI n)), (4, vI w4), (0, vR 0 0), (1, vI p1), (2, vI p2), (3, vI p3)] [] (hM G B xs) := by
  intro k
  induction k with
  | zero =>
    intro u n hu hR
    refine ab_run [38, 55] 100 oX5_twos.1 (Nat.le_refl _) 38 ?_
    refine ⟨vp_d rfl, fun c1 => ?_, fun (c1 : ¬ B 2 3 ≤ nI u) => ?_⟩
    · rw [hR]
      unfold twO twF
      refine ⟨fun c2 => ?_, fun c2 => ?_⟩
      · rw [if_neg (fun q => by rw [q] at c2; exact absurd c2 (by decide))]
        exact ⟨rfl, rfl⟩
      · have c2 := Int32.lt_iff_toInt_lt.mp (nle_lt c2)
        have c3 := Int32.le_iff_toInt_le.mp (nlt_le h3)
        have z0 : (0 : Int32).toInt = 0 := rfl
        have z1 : (-1 : Int32).toInt = -1 := rfl
        rw [if_pos (Int32.toInt_inj.mp (by omega))]
        exact ⟨rfl, rfl⟩
    · rw [em] at c1
      exact absurd (nI_le (by omega) (by omega)) c1
  | succ k ih =>
    intro u n hu hR
    have inner : ∀ (l v n : Nat), v + l = m → R = twI (B 9) p1 p2 p3 u (twO (B 9) p1 p2 p3 m k (u + 1)) l v n → ab_W jX5_twos (d + 3) E h0 70 (fun v1 h1 => v1 = some (vI R) ∧ h1 = hM G B xs) (ab_at iX5_twos 55) [(7, vI (nI v)), (6, vI (nI u)), (5, vI (nI n)), (4, vI w4), (0, vR 0 0), (1, vI p1), (2, vI p2), (3, vI p3)] [] (hM G B xs) := by
      intro l
      induction l with
      | zero =>
        intro v n hv hR
        refine ab_run [38, 55] 100 oX5_twos.1 (Nat.le_refl _) 55 ?_
        refine ⟨vp_d rfl, fun c1 => ?_, fun (c1 : ¬ B 2 3 ≤ nI v) => ?_⟩
        · have h9 := ih (u + 1) n (by omega) hR
          rw [nI_succ] at h9
          exact ab_W_lv (lv_pk [0, 2, 3, 4, 5, 6, 7] rfl) h9
        · rw [em] at c1
          exact absurd (nI_le (by omega) (by omega)) c1
      | succ l ihl =>
        intro v n hv hR
        refine ab_run [38, 55] 100 oX5_twos.1 (Nat.le_refl _) 55 ?_
        refine ⟨vp_d rfl, fun (c1 : B 2 3 ≤ nI v) => ?_, fun c1 => ?_⟩
        · rw [em] at c1
          exact absurd c1 (nI_lt_m (by omega) (by omega))
        refine ⟨(vp_in_nI (by omega) (by omega) : vp_in (nI u) 8), (vp_in_nI (by omega) (by omega) : vp_in (nI v) 8), ?_⟩
        rw [nI_clamp (by omega), nI_clamp (by omega)]
        refine ⟨_, _, m_amount _ _ (Nat.le_refl _) (B 9 u + B 9 v - p1), Nat.le_refl _, ?_⟩
        unfold twI at hR
        refine ⟨fun c2 => ?_, fun c2 => ?_⟩
        · rw [if_pos c2] at hR
          refine ⟨fun c3 => ?_, fun c3 => ?_⟩
          · rw [if_neg c3] at hR
            have h9 := ihl (v + 1) (n + 1) (by omega) hR
            rw [nI_succ, nI_succ] at h9
            exact ab_W_lv (lv_pk [0, 2, 1, 3, 4, 5, 6, 7] rfl) h9
          · rw [if_pos c3] at hR
            rw [hR]
            exact ⟨rfl, rfl⟩
        · rw [if_neg c2] at hR
          have h9 := ihl (v + 1) n (by omega) hR
          rw [nI_succ] at h9
          exact h9
    refine ab_run [38, 55] 100 oX5_twos.1 (Nat.le_refl _) 38 ?_
    refine ⟨vp_d rfl, fun (c1 : B 2 3 ≤ nI u) => ?_, fun c1 => ?_⟩
    · rw [em] at c1
      exact absurd c1 (nI_lt_m (by omega) (by omega))
    have h9 := inner (m - (u + 1)) (u + 1) n (by omega) hR
    rw [nI_succ] at h9
    exact h9
theorem p_twos : P_twos IV 40 := by
  intro p1 p2 p3 g A x a f h
  obtain ⟨m, hm, em, exm⟩ := IV_m h
  obtain ⟨ns, hn, en, exn⟩ := IV_ns h
  by_cases c0 : p1 < 0 ∨ p2 < 0 ∨ p3 < -1
  · refine pr_rf h rc4 ?_ (fun xs => ?_)
    · refine ab_meth oX4_twos 39 _ _ _ _ (Nat.le_refl _) rfl (fun E => ?_)
      refine ab_run [51, 69] 100 oX4_twos.1 (Nat.le_refl _) 0 ?_
      exact ⟨fun c => ⟨_, _, x_rf _ _ x a f rc4, Nat.le_refl _, rfl, rfl⟩, fun c => ⟨fun c' => ⟨_, _, x_rf _ _ x a f rc4, Nat.le_refl _, rfl, rfl⟩, fun c' => ⟨fun d' => absurd c0 (fun q => q.elim c (fun q => q.elim c' (le_nlt d'))), fun d' => ⟨_, _, x_rf _ _ x a f rc4, Nat.le_refl _, rfl, rfl⟩⟩⟩⟩
    · refine ab_meth oX5_twos 39 _ _ _ _ (Nat.le_refl _) rfl (fun E => ?_)
      refine ab_run [38, 55] 100 oX5_twos.1 (Nat.le_refl _) 0 ?_
      refine ⟨_, _, m_wrongCount _ _ (Nat.le_refl _) _ _, Nat.le_refl _, ?_⟩
      refine ⟨fun c => ?_, fun c => ?_⟩
      · have e4 : wrongI p1 p2 = -4 := if_pos (c0.elim Or.inl (fun q => q.elim Or.inr (fun q => absurd q (le_nlt c))))
        rw [e4]
        refine ⟨fun c => absurd c (by decide), fun c => ?_⟩
        exact ⟨_, _, m_rf _ g A xs rc4, Nat.le_refl _, rfl, rfl⟩
      · refine ⟨fun c => absurd c (by decide), fun c => ?_⟩
        exact ⟨_, _, m_rf _ g A xs rc4, Nat.le_refl _, rfl, rfl⟩
  have n3 : ¬ p3 < -1 := fun q => c0 (Or.inr (Or.inr q))
  have n0 : ¬ (p1 < 0 ∨ p2 < 0) := fun q => c0 (q.elim Or.inl (fun q => Or.inr (Or.inl q)))
  by_cases c1 : 9999 < p1 ∨ 9999 < p2
  · refine pr_rf h rc6 ?_ (fun xs => ?_)
    · refine ab_meth oX4_twos 39 _ _ _ _ (Nat.le_refl _) rfl (fun E => ?_)
      refine ab_run [51, 69] 100 oX4_twos.1 (Nat.le_refl _) 0 ?_
      refine ⟨fun c => absurd (Or.inl c) c0, fun c => ⟨fun c' => absurd (Or.inr (Or.inl c')) c0, fun c' => ⟨fun d' => ?_, fun d' => absurd (Or.inr (Or.inr (nle_lt d'))) c0⟩⟩⟩
      exact ⟨fun c => ⟨_, _, x_rf _ _ x a f rc6, Nat.le_refl _, rfl, rfl⟩, fun c => ⟨fun c' => absurd c1 (fun q => q.elim c (le_nlt c')), fun c' => ⟨_, _, x_rf _ _ x a f rc6, Nat.le_refl _, rfl, rfl⟩⟩⟩
    · refine ab_meth oX5_twos 39 _ _ _ _ (Nat.le_refl _) rfl (fun E => ?_)
      refine ab_run [38, 55] 100 oX5_twos.1 (Nat.le_refl _) 0 ?_
      refine ⟨_, _, m_wrongCount _ _ (Nat.le_refl _) _ _, Nat.le_refl _, ?_⟩
      rw [show wrongI p1 p2 = -6 from (if_neg n0).trans (if_pos c1)]
      refine ⟨fun c => ?_, fun c => absurd (nle_lt c) n3⟩
      refine ⟨fun c => absurd c (by decide), fun c => ?_⟩
      exact ⟨_, _, m_rf _ g A xs rc6, Nat.le_refl _, rfl, rfl⟩
  obtain ⟨w, r, ca, hc, hl⟩ := x_listen h em hm en hn 34 (mbl g A)
  refine pr_w (r := twO ((rsN m ns (bgG g A, bgN m A)).2 9) p1 p2 p3 m m 0 0) (x' := mS (mS x 42 w) 41 r) (a' := mS a 45 ca) (f' := f) (g' := (rsN m ns (bgG g A, bgN m A)).1) (A' := (rsN m ns (bgG g A, bgN m A)).2) ?_ (fun xs => ?_) (IV_wr (IV_cl (IV_rs m ns h) ca) w r)
  · refine ab_meth oX4_twos 39 _ _ _ _ (Nat.le_refl _) rfl (fun E => ?_)
    refine ab_run [51, 69] 100 oX4_twos.1 (Nat.le_refl _) 0 ?_
    refine ⟨fun c => absurd (Or.inl c) c0, fun c => ⟨fun c' => absurd (Or.inr (Or.inl c')) c0, fun c' => ⟨fun d' => ?_, fun d' => absurd (Or.inr (Or.inr (nle_lt d'))) c0⟩⟩⟩
    refine ⟨fun c => absurd (Or.inl c) c1, fun c => ⟨fun c' => ?_, fun c' => absurd (Or.inr (nle_lt c')) c1⟩⟩
    refine ⟨_, _, hl, Nat.le_refl _, ?_⟩
    exact x_twos (x := mS (mS x 42 w) 41 r) (a := a) (f := f) exm hm 36 (mbl g A) p1 p2 p3 _ _ _ ca hc E m 0 0 (by omega) rfl
  · have e2 : (rsN m ns (bgG g A, bgN m A)).2 2 = A 2 := by
      rw [rsN_A _ _ _ (by decide) (by decide) (by decide)]
      exact bgN_n m A (by decide) (by decide) (by decide)
    refine ab_meth oX5_twos 39 _ _ _ _ (Nat.le_refl _) rfl (fun E => ?_)
    refine ab_run [38, 55] 100 oX5_twos.1 (Nat.le_refl _) 0 ?_
    refine ⟨_, _, m_wrongCount _ _ (Nat.le_refl _) _ _, Nat.le_refl _, ?_⟩
    rw [show wrongI p1 p2 = 0 from (if_neg n0).trans (if_neg c1)]
    refine ⟨fun c => ?_, fun c => absurd (nle_lt c) n3⟩
    refine ⟨fun c => ?_, fun c => absurd rfl c⟩
    refine ⟨_, _, m_counted h em hm en hn 32 xs, Nat.le_refl _, ?_⟩
    exact m_twos hm 36 xs p1 p2 p3 n3 _ _ _ _ (by rw [e2]; exact em) E 0 m 0 0 (by omega) rfl
