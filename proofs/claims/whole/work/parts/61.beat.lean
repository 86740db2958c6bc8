/-- whether the rider comes by in the step t of a SIT -/
def bcV (w r : Nat → Int32) (t : Nat) : Int32 := bI (wrapI (wrapI (w 1 * w 8 - w 7 - 1) (100 * w 8) - nI t * r 2) (100 * w 8) < r 2)
theorem bc_eq {w r : Nat → Int32} (h : RO w r) (kind : Int32) {t : Nat} (ht : t < 2000) : cbR 0 (w 1) (r 2) (w 8) (whT 0 kind (r 2) (w 8) (w 7) t) = bcV w r t := by
  obtain ⟨e1, e2, e3⟩ := RO_wrap h
  obtain ⟨⟨a1, a2⟩, ⟨b1, b2⟩, ⟨c1, c2⟩, d1, d2⟩ := h
  have n1 := ti_clamp (x := r 2) (by omega)
  have m8 := ti_clamp (x := w 8) (by omega)
  have m7 := ti_clamp (x := w 7) (by omega)
  have m1 := ti_clamp (x := w 1) (by omega)
  generalize hu : (r 2).toNatClampNeg = u at n1
  generalize hD : (w 8).toNatClampNeg = D at m8
  generalize hW : (w 7).toNatClampNeg = W at m7
  generalize hP : (w 1).toNatClampNeg = P at m1
  have q3 := Int.emod_nonneg ((w 1).toInt * (w 8).toInt - (w 7).toInt - 1) (show 100 * (w 8).toInt ≠ 0 by omega)
  have q4 := Int.emod_lt_of_pos ((w 1).toInt * (w 8).toInt - (w 7).toInt - 1) (show 0 < 100 * (w 8).toInt by omega)
  have htu : t * u ≤ 2000 * 60 := Nat.mul_le_mul (by omega) (by omega)
  have etu : (nI t * r 2).toInt = ((t * u : Nat) : Int) := by
    rw [ti_mul (nI_toInt (by omega)) n1.symm (by rw [← Int.natCast_mul]; omega) (by rw [← Int.natCast_mul]; omega), Int.natCast_mul]
  generalize hp0 : ((w 1).toInt * (w 8).toInt - (w 7).toInt - 1) % (100 * (w 8).toInt) = p0 at e3 q3 q4
  have e4 := ti_sub e3 etu (by omega) (by omega)
  have e5 := ti_wrap e4 e1 (by omega) (by omega) (by omega) (by omega)
  have r1 := Int.emod_nonneg (p0 - ((t * u : Nat) : Int)) (show 100 * (w 8).toInt ≠ 0 by omega)
  have r2' := Int.emod_lt_of_pos (p0 - ((t * u : Nat) : Int)) (show 0 < 100 * (w 8).toInt by omega)
  have r3 := Int.emod_add_mul_ediv (p0 - ((t * u : Nat) : Int)) (100 * (w 8).toInt)
  have r4 := Int.emod_add_mul_ediv ((w 1).toInt * (w 8).toInt - (w 7).toInt - 1) (100 * (w 8).toInt)
  rw [hp0] at r4
  generalize hy : (p0 - ((t * u : Nat) : Int)) % (100 * (w 8).toInt) = y at e5 r1 r2' r3
  have hRR : ((100 * D : Nat) : Int) = 100 * (w 8).toInt := by omega
  have ew : (whT 0 kind (r 2) (w 8) (w 7) t).toInt = (((W + t * u) % (100 * D) : Nat) : Int) := whT_on (by decide) (by decide) n1.symm m8.symm m7.symm (by omega) (by omega) (by omega) (by omega) t
  have ea := ahd_eq (place := w 1) (by_ := w 8) (c := P * D) (w := W) (u := u) (t := t) (p := t * u + y.toNat) (pl := P) m1.symm m8.symm rfl (by omega) (by omega) (by omega) ew (by
    refine ⟨-((p0 - ((t * u : Nat) : Int)) / (100 * (w 8).toInt)) - ((w 1).toInt * (w 8).toInt - (w 7).toInt - 1) / (100 * (w 8).toInt), ?_⟩
    rw [hRR, Int.mul_sub, Int.mul_neg, Int.natCast_mul, m1, m8, m7]
    omega) (by omega) (by omega)
  unfold cbR bcV
  rw [if_neg (by decide), if_neg (by decide)]
  have i1 := le_ti ea (show (r 2).toInt = (u : Int) from n1.symm)
  have i2 := lt_ti e5 (show (r 2).toInt = (u : Int) from n1.symm)
  unfold bI
  by_cases hc : y < (u : Int)
  · rw [if_pos (i1.mpr (by omega)), if_pos (i2.mpr hc)]
  · rw [if_neg (fun z => hc (by have := i1.mp z; omega)), if_neg (fun z => hc (i2.mp z))]
theorem bt_fct {g : mG} {A x a : mA} {f : mF} (h : IV g A x a f) {m j w : Nat} (em : A 2 3 = nI m) (hm : m ≤ 8) (hj : j < m) (hw : w < 5) (hg : (w : Int) < (A 2 2).toInt) (r : Nat → Int32) : 0 < f 20 j 8 ∧ RO (rW (f 20 j) (downX (f 20 j 0) (f 20 j 6) (x 17 1) (nI w) (x 17 3) (a 18))) (bgQ x f j (-9) r).2 ∧ (rW (f 20 j) (downX (f 20 j 0) (f 20 j 6) (x 17 1) (nI w) (x 17 3) (a 18))) 1 = A 2 (16 + 9 * j + 1) ∧ (rW (f 20 j) (downX (f 20 j 0) (f 20 j 6) (x 17 1) (nI w) (x 17 3) (a 18))) 8 = opN w m (bgN m A) 8 j ∧ (rW (f 20 j) (downX (f 20 j 0) (f 20 j 6) (x 17 1) (nI w) (x 17 3) (a 18))) 7 = opN w m (bgN m A) 7 j ∧ (bgQ x f j (-9) r).2 2 = upM A j := by
  have e2 : bgN m A 2 = A 2 := bgN_n m A (by decide) (by decide) (by decide)
  have h0 := IV_r0 h
  have hRJ := RJ_begin h em hm hj (G := bgG g A) rfl rfl (-9) r
  obtain ⟨-, ⟨s2, s3⟩, -⟩ := RJ_stage (f := f) (x := x) (a := a) (w := w) (T := 1) (act := 0) (by rw [e2]; exact h.2.2.2.2.1) (by rw [e2]; exact h.2.2.2.2.2.1) (by rw [e2]; exact em) hj hm hw (by rw [e2]; exact hg) (by omega) (by decide) (by decide) h0.1 (by show (A 2 5).toInt ≤ 20000; omega) hRJ
  obtain ⟨hwf, hv⟩ := IV_flt h em hm hj
  have ed : downX (f 20 j 0) (f 20 j 6) (x 17 1) (nI w) (x 17 3) (a 18) = dnM A w j := by
    rw [dn_eq h.2.2.2.2.2.1 hw hg, ← hv 0 (by decide), ← hv 6 (by decide)]
    rfl
  obtain ⟨o8, o7⟩ := opN_lo w m (bgN m A) hj
  obtain ⟨b7, b8, -⟩ := bgN_lo m A hj
  refine ⟨s2, s3, (hv 1 (by decide)).symm, ?_, ?_, ?_⟩
  · rw [o8, dnM_2 e2]
    exact ed
  · rw [o7, dnM_2 e2, b7, b8]
    show f 20 j 7 * downX (f 20 j 0) (f 20 j 6) (x 17 1) (nI w) (x 17 3) (a 18) / f 20 j 8 = _
    rw [ed, hv 7 (by decide), hv 8 (by decide)]
  · have := hRJ.2.2.2.1
    rw [this, upM_2 e2]
def btR (U V : Nat → Int32) : Nat → Nat → Int32
  | 0, _ => -9
  | k + 1, t => if U t = 0 then btR U V k (t + 1) else if V t = 0 then btR U V k (t + 1) else nI t
set_option maxRecDepth 100000 in
theorem x_btloop (d : Nat) (mb : Nat → AB) (x a : mA) (f : mF) (h0 : AH) (E : Nat × (Nat → Int32)) (i j gw R : Int32) (W1 V1 W2 V2 : Nat → Int32) (N : Nat) (hN : N = 2000) : ∀ (k t : Nat), t + k = N → R = btR (bcV W1 V1) (bcV W2 V2) k t → ab_W jX4_beat (d + 3) E h0 70 (fun v1 h1 => v1 = some (vI R) ∧ h1 = hX mb (rr2 x W1 V1 W2 V2) a f) (ab_at iX4_beat 78) [(4, vI (nI t)), (0, vR 13 0), (1, vI i), (2, vI j), (3, vI gw)] [] (hX mb (rr2 x W1 V1 W2 V2) a f) := by
  have C1 : ∀ t : Nat, ab_Ex (d + 3) 0 yX2_comesByIn [vR 41 0, vI (nI t)] (hX mb (rr2 x W1 V1 W2 V2) a f) (some (vI (bcV W1 V1 t))) (hX mb (rr2 x W1 V1 W2 V2) a f) := fun t => r_comesByIn41 d mb (mS (mS x 44 W2) 43 V2) a f W1 V1 (nI t)
  have C2 : ∀ t : Nat, ab_Ex (d + 3) 0 yX2_comesByIn [vR 43 0, vI (nI t)] (hX mb (rr2 x W1 V1 W2 V2) a f) (some (vI (bcV W2 V2 t))) (hX mb (rr2 x W1 V1 W2 V2) a f) := by
    intro t
    have h1 := r_comesByIn43 d mb (mS (mS x 42 W1) 41 V1) a f W2 V2 (nI t)
    rw [rr2_swap] at h1
    exact h1
  intro k
  induction k with
  | zero =>
    intro t ht hR
    refine ab_run [78] 100 oX4_beat.1 (Nat.le_refl _) 78 ?_
    refine ⟨fun c1 => ?_, fun c1 => absurd (show nI 2000 ≤ nI t from nI_le (by omega) (by omega)) c1⟩
    have hR : R = -9 := hR
    rw [hR]
    exact ⟨rfl, rfl⟩
  | succ k ih =>
    intro t ht hR
    unfold btR at hR
    refine ab_run [78] 100 oX4_beat.1 (Nat.le_refl _) 78 ?_
    refine ⟨fun c1 => absurd c1 (nI_ge (a := t) (b := 2000) (by omega) (by omega)), fun c1 => ?_⟩
    refine ⟨_, _, C1 t, Nat.le_refl _, ?_⟩
    refine ⟨fun c2 => ?_, fun c2 => ?_⟩
    · rw [if_pos c2] at hR
      have h9 := ih (t + 1) (by omega) hR
      rw [nI_succ] at h9
      exact h9
    rw [if_neg c2] at hR
    refine ⟨_, _, C2 t, Nat.le_refl _, ?_⟩
    refine ⟨fun c3 => ?_, fun c3 => ?_⟩
    · rw [if_pos c3] at hR
      have h9 := ih (t + 1) (by omega) hR
      rw [nI_succ] at h9
      exact h9
    · rw [if_neg c3] at hR
      rw [hR]
      exact ⟨rfl, rfl⟩
theorem m_cb (d : Nat) (G : mG) (B : mA) (y : Nat → Int32) (xs : List AB) {i : Nat} (hi : i < 8) (hby : ¬ 100 * B 8 i = 0) : ab_Ex (d + 3) 0 yX5_comesBy [vR 0 0, vI (nI i), vI 0] (hM G (mS B 7 y) xs) (some (vI (cbR 0 (B 2 (16 + 9 * i + 1)) (upM B i) (B 8 i) (y i)))) (hM G (mS B 7 (upd y i (cbW 0 (B 2 (16 + 9 * i)) (upM B i) (B 8 i) (y i)))) xs) := by
  have h1 := m_comesBy d G (mS B 7 y) xs i hi 0 hby
  rw [mS_mS, mS_eq, mS_ne B 7 y (show 2 ≠ 7 by decide), mS_ne B 7 y (show 8 ≠ 7 by decide)] at h1
  exact h1
def beY (B : mA) (i j t : Nat) : Nat → Int32 := upd (upd (B 7) i (whT 0 (B 2 (16 + 9 * i)) (upM B i) (B 8 i) (B 7 i) t)) j (whT 0 (B 2 (16 + 9 * j)) (upM B j) (B 8 j) (B 7 j) t)
theorem upd_c {s : Nat → Int32} {i j : Nat} {u v : Int32} (h : i ≠ j) : upd (upd s j v) i u = upd (upd s i u) j v := by
  funext k
  by_cases q1 : k = i
  · rw [q1, upd_at, upd_ne h, upd_at]
  · rw [upd_ne q1]
    by_cases q2 : k = j
    · rw [q2, upd_at, upd_at]
    · rw [upd_ne q2, upd_ne q2, upd_ne q1]
theorem upd_u {s : Nat → Int32} {i : Nat} {u v : Int32} : upd (upd s i u) i v = upd s i v := by
  funext k
  by_cases q1 : k = i
  · rw [q1, upd_at, upd_at]
  · rw [upd_ne q1, upd_ne q1, upd_ne q1]
set_option maxRecDepth 100000 in
theorem m_btloop (d : Nat) (G : mG) (B : mA) (h0 : List AB → AH) {i j : Nat} (hi : i < 8) (hj : j < 8) (hij : i ≠ j) (hbi : ¬ 100 * B 8 i = 0) (hbj : ¬ 100 * B 8 j = 0) (gw R : Int32) (U V : Nat → Int32) (N : Nat) (hN : N = 2000)
    (hU : ∀ t, t < N → cbR 0 (B 2 (16 + 9 * i + 1)) (upM B i) (B 8 i) (whT 0 (B 2 (16 + 9 * i)) (upM B i) (B 8 i) (B 7 i) t) = U t) (hV : ∀ t, t < N → cbR 0 (B 2 (16 + 9 * j + 1)) (upM B j) (B 8 j) (whT 0 (B 2 (16 + 9 * j)) (upM B j) (B 8 j) (B 7 j) t) = V t) : ∀ (k t : Nat), t + k = N → R = btR U V k t → ∃ y : Nat → Int32, ∀ xs E, ab_W jX5_beat (d + 3) E (h0 xs) 70 (fun v1 h1 => v1 = some (vI R) ∧ h1 = hM G (mS B 7 y) xs) (ab_at iX5_beat 35) [(4, vI (nI t)), (0, vR 0 0), (1, vI (nI i)), (2, vI (nI j)), (3, vI gw)] [] (hM G (mS B 7 (beY B i j t)) xs) := by
  intro k
  induction k with
  | zero =>
    intro t ht hR
    refine ⟨beY B i j t, fun xs E => ?_⟩
    refine ab_run [35] 100 oX5_beat.1 (Nat.le_refl _) 35 ?_
    refine ⟨fun c1 => ?_, fun c1 => absurd (show nI 2000 ≤ nI t from nI_le (by omega) (by omega)) c1⟩
    have hR : R = -9 := hR
    rw [hR]
    exact ⟨rfl, rfl⟩
  | succ k ih =>
    intro t ht hR
    unfold btR at hR
    have e1 : beY B i j t i = whT 0 (B 2 (16 + 9 * i)) (upM B i) (B 8 i) (B 7 i) t := by
      unfold beY
      rw [upd_ne hij, upd_at]
    have s1 := fun xs => m_cb d G B (beY B i j t) xs hi hbi
    rw [e1, hU t (by omega)] at s1
    have s2 := fun xs => m_cb d G B (upd (beY B i j t) i (cbW 0 (B 2 (16 + 9 * i)) (upM B i) (B 8 i) (whT 0 (B 2 (16 + 9 * i)) (upM B i) (B 8 i) (B 7 i) t))) xs hj hbj
    have e2 : upd (beY B i j t) i (cbW 0 (B 2 (16 + 9 * i)) (upM B i) (B 8 i) (whT 0 (B 2 (16 + 9 * i)) (upM B i) (B 8 i) (B 7 i) t)) j = whT 0 (B 2 (16 + 9 * j)) (upM B j) (B 8 j) (B 7 j) t := by
      unfold beY
      rw [upd_ne (Ne.symm hij), upd_at]
    rw [e2, hV t (by omega)] at s2
    have e3 : upd (upd (beY B i j t) i (cbW 0 (B 2 (16 + 9 * i)) (upM B i) (B 8 i) (whT 0 (B 2 (16 + 9 * i)) (upM B i) (B 8 i) (B 7 i) t))) j (cbW 0 (B 2 (16 + 9 * j)) (upM B j) (B 8 j) (whT 0 (B 2 (16 + 9 * j)) (upM B j) (B 8 j) (B 7 j) t)) = beY B i j (t + 1) := by
      unfold beY
      rw [upd_c hij, upd_u, upd_u]
      rfl
    rw [e3] at s2
    clear e1 e2 e3
    generalize upd (beY B i j t) i (cbW 0 (B 2 (16 + 9 * i)) (upM B i) (B 8 i) (whT 0 (B 2 (16 + 9 * i)) (upM B i) (B 8 i) (B 7 i) t)) = y1 at s1 s2
    by_cases c2 : U t = 0
    · rw [if_pos c2] at hR
      obtain ⟨y, hW⟩ := ih (t + 1) (by omega) hR
      refine ⟨y, fun xs E => ?_⟩
      have h9 := hW xs E
      rw [nI_succ] at h9
      generalize beY B i j t = y0 at s1 ⊢
      generalize beY B i j (t + 1) = y2 at s2 h9
      refine ab_run [35] 100 oX5_beat.1 (Nat.le_refl _) 35 ?_
      refine ⟨fun c1 => absurd c1 (nI_ge (a := t) (b := 2000) (by omega) (by omega)), fun c1 => ?_⟩
      refine ⟨_, _, s1 xs, Nat.le_refl _, ?_⟩
      refine ⟨_, _, s2 xs, Nat.le_refl _, ?_⟩
      refine ⟨fun _ => ?_, fun c => absurd c2 c⟩
      exact ab_W_lv (lv_pk [0, 3, 4, 5, 6] rfl) h9
    rw [if_neg c2] at hR
    by_cases c3 : V t = 0
    · rw [if_pos c3] at hR
      obtain ⟨y, hW⟩ := ih (t + 1) (by omega) hR
      refine ⟨y, fun xs E => ?_⟩
      have h9 := hW xs E
      rw [nI_succ] at h9
      generalize beY B i j t = y0 at s1 ⊢
      generalize beY B i j (t + 1) = y2 at s2 h9
      refine ab_run [35] 100 oX5_beat.1 (Nat.le_refl _) 35 ?_
      refine ⟨fun c1 => absurd c1 (nI_ge (a := t) (b := 2000) (by omega) (by omega)), fun c1 => ?_⟩
      refine ⟨_, _, s1 xs, Nat.le_refl _, ?_⟩
      refine ⟨_, _, s2 xs, Nat.le_refl _, ?_⟩
      refine ⟨fun c => absurd c c2, fun _ => ⟨fun _ => ?_, fun c => absurd c3 c⟩⟩
      exact ab_W_lv (lv_pk [0, 3, 4, 5, 6] rfl) h9
    rw [if_neg c3] at hR
    refine ⟨beY B i j (t + 1), fun xs E => ?_⟩
    generalize beY B i j t = y0 at s1 ⊢
    generalize beY B i j (t + 1) = y2 at s2 ⊢
    refine ab_run [35] 100 oX5_beat.1 (Nat.le_refl _) 35 ?_
    refine ⟨fun c1 => absurd c1 (nI_ge (a := t) (b := 2000) (by omega) (by omega)), fun c1 => ?_⟩
    refine ⟨_, _, s1 xs, Nat.le_refl _, ?_⟩
    refine ⟨_, _, s2 xs, Nat.le_refl _, ?_⟩
    refine ⟨fun c => absurd c c2, fun _ => ⟨fun c => absurd c c3, fun _ => ?_⟩⟩
    rw [hR]
    exact ⟨rfl, rfl⟩
