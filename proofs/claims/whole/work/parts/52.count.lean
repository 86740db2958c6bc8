theorem rX (x : mA) : mS (mS x 42 (x 42)) 41 (x 41) = x := by rw [mS_id, mS_id]
theorem stX_congr {x x' a a' : mA} (hx : x' 17 = x 17) (h18 : a' 18 = a 18) (h21 : a' 21 = a 21) : stX x' a' = stX x a := by
  funext act gear T q
  unfold stX
  rw [hx, h18, h21]
theorem rdN_congr {x x' a a' : mA} (hx : x' 17 = x 17) (h18 : a' 18 = a 18) (h21 : a' 21 = a 21) (h22 : a' 22 = a 22) (h23 : a' 23 = a 23) (h24 : a' 24 = a 24) (n : Nat) (q : rQ) : rdN x' a' n q = rdN x a n q := by
  induction n with
  | zero => rfl
  | succ n ih =>
    show stX x' a' (a' 22 n) (a' 23 n) (a' 24 n).toNatClampNeg (rdN x' a' n q) = stX x a (a 22 n) (a 23 n) (a 24 n).toNatClampNeg (rdN x a n q)
    rw [stX_congr hx h18 h21, h22, h23, h24, ih]
def bgQ (x : mA) (f : mF) (j : Nat) (wanted : Int32) (r : Nat → Int32) : rQ := (f 20 j, rB (upI (f 20 j 0) (f 20 j 5) (x 17 0)) (x 17 7) wanted r)
theorem RJ_begin {g : mG} {A x a : mA} {f : mF} (h : IV g A x a f) {m j : Nat} (em : A 2 3 = nI m) (hm : m ≤ 8) (hj : j < m) {G : mG} (h12 : G 12 = A 2 5) (h13 : G 13 = 0) (wanted : Int32) (r : Nat → Int32) : RJ G (bgN m A) j (bgQ x f j wanted r) := by
  have e2 : bgN m A 2 = A 2 := bgN_n m A (by decide) (by decide) (by decide)
  obtain ⟨b7, b8, b9⟩ := bgN_lo m A hj
  obtain ⟨hw, hv⟩ := IV_flt h em hm hj
  have hb := h.2.2.2.2.2.1.1
  unfold RJ
  rw [e2, b7, b8, b9, upM_2 e2]
  refine ⟨fun k hk => (hv k (by omega)).symm, (hv 7 (by decide)).symm, (hv 8 (by decide)).symm, ?_, ?_, h13.symm, rfl, hw.2.2.2.2.2.2.2.1, hw.2.2.2.2.2.2.2.2⟩
  · show upI (f 20 j 0) (f 20 j 5) (x 17 0) = upI (A 2 (16 + 9 * j + 0)) (A 2 (16 + 9 * j + 5)) (A 2 0)
    rw [hv 0 (by decide), hv 5 (by decide), hb.1]
  · show x 17 7 = G 12
    rw [h12, hb.2.2.2.2.2.1]
theorem IV_r0 {g : mG} {A x a : mA} {f : mF} (h : IV g A x a f) : 0 ≤ (A 2 5).toInt ∧ (A 2 5).toInt ≤ 9999 := h.2.2.2.2.1.1.2.2.2.2.2.1
theorem IV_x5 {g : mG} {A x a : mA} {f : mF} (h : IV g A x a f) : x 17 3 ≤ 5 := by
  obtain ⟨ng, hng, eg, exg⟩ := IV_ng h
  rw [exg]
  exact (show nI ng ≤ nI 5 from nI_le hng (by omega))
theorem ride_RN {g : mG} {A x a : mA} {f : mF} (h : IV g A x a f) {m ns j : Nat} (em : A 2 3 = nI m) (hm : m ≤ 8) (en : A 2 4 = nI ns) (hn : ns ≤ 8) (hj : j < m) {G : mG} (h12 : G 12 = A 2 5) (h13 : G 13 = 0) (wanted : Int32) (r : Nat → Int32) : ∀ n, n ≤ ns → RN G (bgN m A) x a m j n (bgQ x f j wanted r) := by
  have e2 : bgN m A 2 = A 2 := bgN_n m A (by decide) (by decide) (by decide)
  have h0 := IV_r0 h
  exact RN_all (f := f) (by rw [e2]; exact h.2.2.2.2.1) (by rw [e2]; exact h.2.2.2.2.2.1) (by rw [e2]; exact em) hm (by rw [e2]; exact en) hn hj (by rw [h12]; exact h0.1) (by rw [h12]; exact h0.2) (RJ_begin h em hm hj h12 h13 wanted r)
theorem x_ride {g : mG} {A x a : mA} {f : mF} (h : IV g A x a f) {m ns j : Nat} (em : A 2 3 = nI m) (hm : m ≤ 8) (en : A 2 4 = nI ns) (hn : ns ≤ 8) (hj : j < m) {G : mG} (h12 : G 12 = A 2 5) (h13 : G 13 = 0) (d : Nat) (mb : Nat → AB) (w r : Nat → Int32) (wanted : Int32) : ab_Ex (d + 4) 0 yX2_passRide [vR 41 0, vR 20 j, vI wanted] (hX mb (mS (mS x 42 w) 41 r) a f) (some (vI ((rsN m ns (G, bgN m A)).2 9 j))) (hX mb (mS (mS x 42 (rdN x a ns (bgQ x f j wanted r)).1) 41 (rdN x a ns (bgQ x f j wanted r)).2) a f) := by
  have e2 : bgN m A 2 = A 2 := bgN_n m A (by decide) (by decide) (by decide)
  have hR := ride_RN h em hm en hn hj h12 h13 wanted r
  have exn : x 17 12 = nI ns := by rw [← h.2.2.2.2.2.1.1.2.2.2.2.1]; exact en
  refine ex_r (p_ride d mb x a f (i := j) (by omega) exn hn (IV_x5 h) w r wanted (bgQ x f j wanted r) rfl (fun n hlt => ?_)) ?_
  · obtain ⟨-, s1, s2⟩ := RN_step (f := f) (by rw [e2]; exact h.2.2.2.2.1) (by rw [e2]; exact h.2.2.2.2.2.1) (by rw [e2]; exact em) hm (by rw [e2]; exact en) hn hj hlt (hR n (by omega))
    obtain ⟨w', T, -, -, -, hT, -, -, -, eT, -⟩ := stage_nums h.2.2.2.2.1 h.2.2.2.2.2.1 en hlt hn
    exact ⟨s1, s2, T, hT, eT⟩
  · exact (hR ns (Nat.le_refl _)).1.2.2.2.2.2.2.1
theorem IV_cl {g : mG} {A x a : mA} {f : mF} (h : IV g A x a f) (c : Nat → Int32) : IV g A x (mS a 45 c) f := IV_congr (fun _ _ => rfl) (fun _ _ => rfl) (fun _ _ => rfl) (fun k h1 _ => mS_ne _ _ _ h1) h
theorem x41_ne (x : mA) (w r : Nat → Int32) {k : Nat} (h : k = 13 ∨ k = 14 ∨ k = 17 ∨ k = 33) : mS (mS x 42 w) 41 r k = x k := by rw [mS_ne _ _ _ (by omega), mS_ne _ _ _ (by omega)]
theorem IV_wr {g : mG} {A x a : mA} {f : mF} (h : IV g A x a f) (w r : Nat → Int32) : IV g A (mS (mS x 42 w) 41 r) a f := IV_congr (fun _ _ => rfl) (fun _ _ => rfl) (fun k hk => x41_ne x w r hk) (fun _ _ _ => rfl) h
set_option maxRecDepth 100000 in
theorem x_listen {g : mG} {A x a : mA} {f : mF} (h : IV g A x a f) {m ns : Nat} (em : A 2 3 = nI m) (hm : m ≤ 8) (en : A 2 4 = nI ns) (hn : ns ≤ 8) (d : Nat) (mb : Nat → AB) : ∃ w r c : Nat → Int32, (∀ j, j < m → c j = (rsN m ns (bgG g A, bgN m A)).2 9 j) ∧ ab_Ex (d + 5) 0 yX4_listenToRide [vR 13 0] (hX mb x a f) none (hX mb (mS (mS x 42 w) 41 r) (mS a 45 c) f) := by
  have exm : x 17 5 = nI m := by rw [← h.2.2.2.2.2.1.1.2.2.2.1]; exact em
  have loop : ∀ (k i : Nat) (w r c : Nat → Int32), i + k = m → (∀ j, j < i → c j = (rsN m ns (bgG g A, bgN m A)).2 9 j) → ∃ w' r' c' : Nat → Int32, (∀ j, j < m → c' j = (rsN m ns (bgG g A, bgN m A)).2 9 j) ∧ ∀ E, ab_W jX4_listenToRide (d + 4) E (hX mb x a f) 70 (fun v1 h1 => v1 = none ∧ h1 = hX mb (mS (mS x 42 w') 41 r') (mS a 45 c') f) (ab_at iX4_listenToRide 2) [(1, vI (nI i)), (0, vR 13 0)] [] (hX mb (mS (mS x 42 w) 41 r) (mS a 45 c) f) := by
    intro k
    induction k with
    | zero =>
      intro i w r c hi hc
      refine ⟨w, r, c, fun j hj => hc j (by omega), fun E => ?_⟩
      refine ab_run [2] 100 oX4_listenToRide.1 (Nat.le_refl _) 2 ?_
      refine ⟨fun c1 => ⟨rfl, rfl⟩, fun (c1 : ¬ x 17 5 ≤ nI i) => ?_⟩
      rw [exm] at c1
      exact absurd (nI_le (by omega) (by omega)) c1
    | succ k ih =>
      intro i w r c hi hc
      have hR := x_ride (IV_cl h c) em hm en hn (j := i) (by omega) (G := bgG g A) rfl rfl d mb w r (-9)
      obtain ⟨w', r', c', hc', hw⟩ := ih (i + 1) (rdN x (mS a 45 c) ns (bgQ x f i (-9) r)).1 (rdN x (mS a 45 c) ns (bgQ x f i (-9) r)).2 (upd c i ((rsN m ns (bgG g A, bgN m A)).2 9 i)) (by omega) (by
        intro j hj
        by_cases q : j = i
        · rw [q, upd_at]
        · rw [upd_ne q]
          exact hc j (by omega))
      refine ⟨w', r', c', hc', fun E => ?_⟩
      refine ab_run [2] 100 oX4_listenToRide.1 (Nat.le_refl _) 2 ?_
      refine ⟨fun (c1 : x 17 5 ≤ nI i) => ?_, fun c1 => ?_⟩
      · rw [exm] at c1
        exact absurd c1 (nI_lt_m (by omega) (by omega))
      refine ⟨vp_in_nI (by omega) (by omega), ⟨(20, i), by rw [nI_clamp (by omega)]; exact ab_fa_at 20 (by omega), ?_⟩⟩
      refine ⟨_, _, hR, Nat.le_refl _, ?_⟩
      refine ⟨(vp_in_nI (by omega) (by omega) : vp_in (nI i) 8), ?_⟩
      have := hw E
      rw [nI_succ] at this
      rw [nI_clamp (by omega)]
      exact this
  obtain ⟨w, r, c, hc, hw⟩ := loop m 0 (x 42) (x 41) (a 45) (by omega) (fun j hj => absurd hj (Nat.not_lt_zero j))
  refine ⟨w, r, c, hc, ?_⟩
  refine ab_meth oX4_listenToRide (d + 4) _ _ _ _ (Nat.le_refl _) rfl (fun E => ?_)
  refine ab_run [2] 100 oX4_listenToRide.1 (Nat.le_refl _) 0 ?_
  have := hw E
  rw [rX, mS_id] at this
  exact this
-- the model
theorem SOK_of {s : Nat → Int32} {A : mA} (e2 : A 2 = s) (hW : WF s) {m ns : Nat} (em : s 3 = nI m) (hm : m ≤ 8) (en : s 4 = nI ns) (hn : ns ≤ 8) : SOK s m ns A := by
  intro i hi
  have h2 := hW.1.2.2.1
  have hii : (i : Int) < (s 4).toInt := by rw [en, nI_toInt (by omega)]; omega
  obtain ⟨⟨h1, h1'⟩, ⟨h3, h4⟩, h5, h6⟩ := hW.2.2.2.2 i (by omega) hii
  have c1 := ti_clamp (x := s (88 + 3 * i + 1)) h3
  have c2 := ti_clamp (x := s (88 + 3 * i + 2)) (by omega)
  refine ⟨(s (88 + 3 * i + 1)).toNatClampNeg, (s (88 + 3 * i + 2)).toNatClampNeg, ti_nat h3, by omega, ti_nat (by omega), by omega, fun j hj => ?_⟩
  have hmj : (j : Int) < (s 3).toInt := by rw [em, nI_toInt (by omega)]; omega
  have hdn := dn_rng hW (hW.2.2.2.1 j (by omega) hmj) (w := (s (88 + 3 * i + 1)).toNatClampNeg) (by omega) (by omega)
  have e1 : (dnM A (s (88 + 3 * i + 1)).toNatClampNeg j).toInt = (downI (s (16 + 9 * j)) (s (16 + 9 * j + 6)) (s 1) (s (11 + (s (88 + 3 * i + 1)).toNatClampNeg))).toInt := by unfold dnM; rw [e2]
  rw [← e1] at hdn
  have z0 : (0 : Int32).toInt = 0 := rfl
  have e3 : (100 * dnM A (s (88 + 3 * i + 1)).toNatClampNeg j).toInt = 100 * (dnM A (s (88 + 3 * i + 1)).toNatClampNeg j).toInt := ti_mul (show (100 : Int32).toInt = 100 from rfl) rfl (by omega) (by omega)
  constructor
  · intro q
    rw [q] at hdn
    omega
  · intro q
    rw [q] at e3
    omega
theorem IV_dn {g : mG} {A x a : mA} {f : mF} (h : IV g A x a f) {m : Nat} (em : A 2 3 = nI m) (hm : m ≤ 8) {j w : Nat} (hj : j < m) (hw : w < 5) (hg : (w : Int) < (A 2 2).toInt) : 1 ≤ (dnM A w j).toInt ∧ (dnM A w j).toInt ≤ 140 ∧ ¬ dnM A w j = 0 ∧ ¬ 100 * dnM A w j = 0 := by
  have hdn := dn_rng h.2.2.2.2.1 (IV_flt h em hm hj).1 hw hg
  have hdn : 1 ≤ (dnM A w j).toInt ∧ (dnM A w j).toInt ≤ 140 := hdn
  have z0 : (0 : Int32).toInt = 0 := rfl
  have e3 : (100 * dnM A w j).toInt = 100 * (dnM A w j).toInt := ti_mul (show (100 : Int32).toInt = 100 from rfl) rfl (by omega) (by omega)
  refine ⟨hdn.1, hdn.2, fun q => ?_, fun q => ?_⟩
  · rw [q] at hdn
    omega
  · rw [q] at e3
    omega
theorem bgN_8 {g : mG} {A x a : mA} {f : mF} (h : IV g A x a f) {m : Nat} (em : A 2 3 = nI m) (hm : m ≤ 8) : ∀ j, j < m → ¬ bgN m A 8 j = 0 := by
  intro j hj q
  rw [(bgN_lo m A hj).2.1] at q
  have := (IV_flt h em hm hj).1.2.2.2.2.2.2.2.1
  rw [q] at this
  have z0 : (0 : Int32).toInt = 0 := rfl
  omega
set_option maxRecDepth 100000 in
theorem m_counted {g : mG} {A x a : mA} {f : mF} (h : IV g A x a f) {m ns : Nat} (em : A 2 3 = nI m) (hm : m ≤ 8) (en : A 2 4 = nI ns) (hn : ns ≤ 8) (d : Nat) (xs : List AB) : ab_Ex (d + 7) 0 yX5_counted [vR 0 0] (hM g A xs) none (hM (rsN m ns (bgG g A, bgN m A)).1 (rsN m ns (bgG g A, bgN m A)).2 xs) := by
  have e2 : bgN m A 2 = A 2 := bgN_n m A (by decide) (by decide) (by decide)
  refine ab_meth oX5_counted (d + 6) _ _ _ _ (Nat.le_refl _) rfl (fun E => ?_)
  refine ab_run [] 100 oX5_counted.1 (Nat.le_refl _) 0 ?_
  refine ⟨_, _, m_begins (d + 4) xs g A em hm, Nat.le_refl _, ?_⟩
  refine ⟨_, _, m_rides d xs (bgG g A) (bgN m A) (m := m) (ns := ns) (by rw [e2]; exact em) hm (by rw [e2]; exact en) hn (bgN_8 h em hm) (by rw [e2]; exact SOK_of e2 h.2.2.2.2.1 em hm en hn), Nat.le_refl _, ?_⟩
  exact ⟨rfl, rfl⟩
theorem tuN_g (m : Nat) (act : Int32) (n : Nat) (q : mGA) {k : Nat} (h13 : k ≠ 13) (h14 : k ≠ 14) (h15 : k ≠ 15) (h19 : k ≠ 19) : (tuN m act n q).1 k = q.1 k := by
  induction n with
  | zero => rfl
  | succ n ih =>
    show (upd (gsN act (nI n) m (tuN m act n q)).1 13 _) k = _
    rw [upd_ne h13, gsN_g _ _ _ _ h19 h14 h15]
    exact ih
theorem sgN_g (m : Nat) (act : Int32) (n : Nat) (q : mGA) {k : Nat} (h12 : k ≠ 12) (h13 : k ≠ 13) (h14 : k ≠ 14) (h15 : k ≠ 15) (h19 : k ≠ 19) : (sgN m act n q).1 k = q.1 k := by
  induction n with
  | zero => rfl
  | succ n ih =>
    show (upd (tuN m act 100 (sgN m act n q)).1 12 _) k = _
    rw [upd_ne h12, tuN_g _ _ _ _ h13 h14 h15 h19]
    exact ih
theorem rsN_g (m n : Nat) (q : mGA) {k : Nat} (h12 : k ≠ 12) (h13 : k ≠ 13) (h14 : k ≠ 14) (h15 : k ≠ 15) (h19 : k ≠ 19) : (rsN m n q).1 k = q.1 k := by
  induction n with
  | zero => rfl
  | succ n ih =>
    show (rsF m n (rsN m n q)).1 k = _
    unfold rsF
    rw [sgN_g _ _ _ _ h12 h13 h14 h15 h19]
    exact ih
/-- the invariant sees of the model's ride nothing -/
theorem IV_md {g G : mG} {A B x a : mA} {f : mF} (hA : ∀ k, k ≠ 7 → k ≠ 8 → k ≠ 9 → B k = A k) (hG : ∀ k, k = 4 ∨ k = 7 ∨ k = 24 → G k = g k) (h : IV g A x a f) : IV G B x a f := IV_congr (fun k hk => hA k (by omega) (by omega) (by omega)) hG (fun _ _ => rfl) (fun _ _ _ => rfl) h
theorem IV_rs {g : mG} {A x a : mA} {f : mF} (m ns : Nat) (h : IV g A x a f) : IV (rsN m ns (bgG g A, bgN m A)).1 (rsN m ns (bgG g A, bgN m A)).2 x a f := by
  refine IV_md (fun k h7 h8 h9 => ?_) (fun k hk => ?_) h
  · rw [rsN_A _ _ _ h7 h8 h9]
    exact bgN_n m A h7 h8 h9
  · rw [rsN_g _ _ _ (by omega) (by omega) (by omega) (by omega) (by omega)]
    rcases hk with rfl | rfl | rfl <;> rfl
