theorem opN_fix {w m : Nat} {B : mA} (h : ∀ j, j < m → B 8 j = dnM B w j ∧ B 7 j * dnM B w j / B 8 j = B 7 j) : opN w m B = B := by
  funext k i
  by_cases k8 : k = 8
  · subst k8
    by_cases hi : i < m
    · rw [(opN_lo w m B hi).1, (h i hi).1]
    · exact (opN_hi w m B (Nat.le_of_not_lt hi)).1
  by_cases k7 : k = 7
  · subst k7
    by_cases hi : i < m
    · rw [(opN_lo w m B hi).2, (h i hi).2]
    · exact (opN_hi w m B (Nat.le_of_not_lt hi)).2
  · rw [opN_n w m B k7 k8]
theorem mul_dv {v b : Int32} (h1 : 0 ≤ v.toInt) (h2 : v.toInt < 100 * b.toInt) (hb1 : 1 ≤ b.toInt) (hb2 : b.toInt ≤ 140) : v * b / b = v := by
  have m1 : v.toInt * b.toInt ≤ 13999 * 140 := Int.mul_le_mul (by omega) hb2 (by omega) (by omega)
  have m0 : 0 ≤ v.toInt * b.toInt := Int.mul_nonneg h1 (by omega)
  have e1 : (v * b).toInt = v.toInt * b.toInt := ti_mul rfl rfl (by omega) (by omega)
  have hd := tdiv_abs (a := v.toInt * b.toInt) (b := b.toInt) (by omega) (by omega) (by omega)
  have e2 := ti_div e1 (show b.toInt = b.toInt from rfl) hd.1 hd.2
  rw [Int.mul_tdiv_cancel _ (by omega)] at e2
  exact Int32.toInt_inj.mp e2
noncomputable def lnQ (x a : mA) (act : Int32) (w : Nat) : Nat → rQ → rQ
  | 0, q => q
  | t + 1, q => stX x a act (nI w) 1 (lnQ x a act w t q)
theorem len_RJ {g : mG} {A x a : mA} {f : mF} (h : IV g A x a f) {m w : Nat} (em : A 2 3 = nI m) (hm : m ≤ 8) (hw : w < 5) (hg : (w : Int) < (A 2 2).toInt) {act : Int32} (ha1 : 0 ≤ act.toInt) (ha2 : act.toInt ≤ 5) : ∀ t, t < 60 → ∀ j, j < m → ∀ r, (0 < (lnQ x a act w t (bgQ x f j (-9) r)).1 8 ∧ RO (rW (lnQ x a act w t (bgQ x f j (-9) r)).1 (downX ((lnQ x a act w t (bgQ x f j (-9) r)).1 0) ((lnQ x a act w t (bgQ x f j (-9) r)).1 6) (x 17 1) (nI w) (x 17 3) (a 18))) (lnQ x a act w t (bgQ x f j (-9) r)).2) ∧ RJ (sgN m act (t + 1) (bgG g A, opN w m (bgN m A))).1 (sgN m act (t + 1) (bgG g A, opN w m (bgN m A))).2 j (lnQ x a act w (t + 1) (bgQ x f j (-9) r)) := by
  have e2 : bgN m A 2 = A 2 := bgN_n m A (by decide) (by decide) (by decide)
  have h0 := IV_r0 h
  intro t
  induction t with
  | zero =>
    intro ht j hj r
    obtain ⟨s1, s2, -⟩ := RJ_stage (f := f) (x := x) (a := a) (w := w) (T := 1) (act := act) (by rw [e2]; exact h.2.2.2.2.1) (by rw [e2]; exact h.2.2.2.2.2.1) (by rw [e2]; exact em) hj hm hw (by rw [e2]; exact hg) (by omega) ha1 ha2 h0.1 (by show (A 2 5).toInt ≤ 20000; omega) (RJ_begin h em hm hj (G := bgG g A) rfl rfl (-9) r)
    exact ⟨s2, s1⟩
  | succ t ih =>
    intro ht j hj r
    have ih := ih (by omega)
    have hB2 : (sgN m act (t + 1) (bgG g A, opN w m (bgN m A))).2 2 = A 2 := sg_2
    have h12 : (sgN m act (t + 1) (bgG g A, opN w m (bgN m A))).1 12 = A 2 5 + nI (t + 1) := (sgN_12 m act (t + 1) _).1
    have h8 : ∀ i, i < m → (sgN m act (t + 1) (bgG g A, opN w m (bgN m A))).2 8 i = dnM A w i := by
      intro i hi
      rw [sgN_A _ _ _ _ (by decide) (by decide)]
      show opN w m (bgN m A) 8 i = _
      rw [(opN_lo w m _ hi).1, dnM_2 e2]
    have hs : sgN m act (t + 1 + 1) (bgG g A, opN w m (bgN m A)) = sgN m act 1 (sgN m act (t + 1) (bgG g A, opN w m (bgN m A))) := rfl
    rw [hs]
    generalize (sgN m act (t + 1) (bgG g A, opN w m (bgN m A))) = Q at ih hB2 h12 h8 ⊢
    have hfix : opN w m Q.2 = Q.2 := by
      refine opN_fix (fun i hi => ?_)
      have hr := (ih i hi r).2
      have hd : Q.2 8 i = dnM Q.2 w i := by rw [h8 i hi, dnM_2 hB2]
      refine ⟨hd, ?_⟩
      rw [← hd]
      exact mul_dv hr.2.2.2.2.2.2.2.2.1 hr.2.2.2.2.2.2.2.2.2 hr.2.2.2.2.2.2.2.1.1 hr.2.2.2.2.2.2.2.1.2
    have e12 : (Q.1 12).toInt = (A 2 5).toInt + (t + 1 : Nat) := by
      rw [h12]
      exact ti_add rfl (nI_toInt (by omega)) (by omega) (by omega)
    obtain ⟨s1, s2, -⟩ := RJ_stage (f := f) (x := x) (a := a) (w := w) (T := 1) (act := act) (by rw [hB2]; exact h.2.2.2.2.1) (by rw [hB2]; exact h.2.2.2.2.2.1) (by rw [hB2]; exact em) hj hm hw (by rw [hB2]; exact hg) (by omega) ha1 ha2 (by rw [e12]; omega) (by rw [e12]; omega) (ih j hj r).2
    rw [hfix] at s1
    exact ⟨s2, s1⟩
/-- the least turns that tell two counts apart -/
def lnR (C : Nat → Int32) (dd : Int32) : Nat → Nat → Int32
  | 0, _ => -9
  | k + 1, t => if dd ≤ C (t + 1) then nI (t + 1) else lnR C dd k (t + 1)
noncomputable def lnC (g : mG) (A : mA) (m w : Nat) (act : Int32) (i j : Nat) : Nat → Int32 := fun t => absI ((sgN m act t (bgG g A, opN w m (bgN m A))).2 9 i - (sgN m act t (bgG g A, opN w m (bgN m A))).2 9 j)
theorem ln_le {u dd : Int32} (h1 : 1 ≤ dd.toInt) : u ≤ dd - 1 ↔ ¬ dd ≤ u := by
  have hu := dd.toInt_lt
  have e := ti_sub (x := dd) (y := 1) rfl (show (1 : Int32).toInt = 1 from rfl) (by omega) (by omega)
  rw [Int32.le_iff_toInt_le, Int32.le_iff_toInt_le, e]
  omega
def rr2 (x : mA) (W1 V1 W2 V2 : Nat → Int32) : mA := mS (mS (mS (mS x 44 W2) 43 V2) 42 W1) 41 V1
theorem p_stg41 (d : Nat) (mb : Nat → AB) (x a : mA) (f : mF) (act gear : Int32) (T : Nat) (hT : T ≤ 60) (hn : x 17 3 ≤ 5) (q : rQ) (h8 : 0 < q.1 8) (h : RO (rW q.1 (downX (q.1 0) (q.1 6) (x 17 1) gear (x 17 3) (a 18))) q.2) : ab_Ex (d + 3) 0 yX2_passStage [vR 41 0, vI act, vI gear, vI (nI T)] (hX mb (mS (mS x 42 q.1) 41 q.2) a f) none (hX mb (mS (mS x 42 (stX x a act gear T q).1) 41 (stX x a act gear T q).2) a f) := p_stage41 d mb x a f q.1 _ q.2 act gear T hT hn h8 rfl h
theorem p_stg43 (d : Nat) (mb : Nat → AB) (x a : mA) (f : mF) (act gear : Int32) (T : Nat) (hT : T ≤ 60) (hn : x 17 3 ≤ 5) (q : rQ) (h8 : 0 < q.1 8) (h : RO (rW q.1 (downX (q.1 0) (q.1 6) (x 17 1) gear (x 17 3) (a 18))) q.2) : ab_Ex (d + 3) 0 yX2_passStage [vR 43 0, vI act, vI gear, vI (nI T)] (hX mb (mS (mS x 44 q.1) 43 q.2) a f) none (hX mb (mS (mS x 44 (stX x a act gear T q).1) 43 (stX x a act gear T q).2) a f) := p_stage43 d mb x a f q.1 _ q.2 act gear T hT hn h8 rfl h
theorem lnQ_s (x a : mA) (act : Int32) (w t : Nat) (q : rQ) : lnQ x a act w (t + 1) q = stX x a act (nI w) 1 (lnQ x a act w t q) := rfl
theorem rr2_swap (x : mA) (W1 V1 W2 V2 : Nat → Int32) : mS (mS (mS (mS x 42 W1) 41 V1) 44 W2) 43 V2 = rr2 x W1 V1 W2 V2 := by
  funext j
  unfold rr2
  by_cases q1 : j = 41
  · subst q1; rfl
  by_cases q2 : j = 42
  · subst q2; rfl
  by_cases q3 : j = 43
  · subst q3; rfl
  by_cases q4 : j = 44
  · subst q4; rfl
  rw [mS_ne _ _ _ q3, mS_ne _ _ _ q4, mS_ne _ _ _ q1, mS_ne _ _ _ q2, mS_ne _ _ _ q1, mS_ne _ _ _ q2, mS_ne _ _ _ q3, mS_ne _ _ _ q4]
set_option maxRecDepth 100000 in
theorem x_lnstep (d : Nat) (mb : Nat → AB) (x a : mA) (f : mF) (h0 : AH) (E : Nat × (Nat → Int32)) (Q : Option AV → AH → Prop) {t : Nat} (ht : t < 60) (i j act gw dd : Int32) (W1 V1 W2 V2 W1' V1' W2' V2' : Nat → Int32)
    (S1 : ab_Ex (d + 3) 0 yX2_passStage [vR 41 0, vI act, vI gw, vI 1] (hX mb (rr2 x W1 V1 W2 V2) a f) none (hX mb (rr2 x W1' V1' W2 V2) a f)) (S2 : ab_Ex (d + 3) 0 yX2_passStage [vR 43 0, vI act, vI gw, vI 1] (hX mb (rr2 x W1' V1' W2 V2) a f) none (hX mb (rr2 x W1' V1' W2' V2') a f))
    (hn : absI (V1' 5 - V2' 5) ≤ dd - 1 → ab_W jX4_length (d + 3) E h0 70 Q (ab_at iX4_length 98) [(6, vI (nI (t + 1) + 1)), (0, vR 13 0), (1, vI i), (2, vI j), (3, vI act), (4, vI gw), (5, vI dd)] [] (hX mb (rr2 x W1' V1' W2' V2') a f))
    (hq : ¬ absI (V1' 5 - V2' 5) ≤ dd - 1 → Q (some (vI (nI (t + 1)))) (hX mb (rr2 x W1' V1' W2' V2') a f)) : ab_W jX4_length (d + 3) E h0 70 Q (ab_at iX4_length 98) [(6, vI (nI (t + 1))), (0, vR 13 0), (1, vI i), (2, vI j), (3, vI act), (4, vI gw), (5, vI dd)] [] (hX mb (rr2 x W1 V1 W2 V2) a f) := by
  refine ab_run [98] 100 oX4_length.1 (Nat.le_refl _) 98 ?_
  refine ⟨fun c1 => absurd c1 (show ¬ nI 60 < nI (t + 1) from nI_nlt (by omega) (by omega)), fun _ => ?_⟩
  refine ⟨_, _, S1, Nat.le_refl _, ?_⟩
  refine ⟨_, _, S2, Nat.le_refl _, ?_⟩
  refine ⟨_, _, x_isWithin _ _ (Nat.le_refl _) (V1' 5) (V2' 5) (dd - 1), Nat.le_refl _, ?_⟩
  rw [abs_eq]
  refine br_n (fun c4 => ?_) (fun c4 => ?_)
  · exact hn c4
  · exact hq c4
set_option maxRecDepth 100000 in
theorem x_length {g : mG} {A x a : mA} {f : mF} (h : IV g A x a f) {m w i j : Nat} (em : A 2 3 = nI m) (hm : m ≤ 8) (hw : w < 5) (hg : (w : Int) < (A 2 2).toInt) (hi : i < m) (hj : j < m) {act : Int32} (ha1 : 0 ≤ act.toInt) (ha2 : act.toInt ≤ 5) (d : Nat) (mb : Nat → AB) (h0 : AH) (r1 r2 : Nat → Int32) (dd R : Int32) (hd1 : 1 ≤ dd.toInt) : ∀ (k t : Nat), t + k = 60 → R = lnR (lnC g A m w act i j) dd k t → ∃ t' : Nat, ∀ E, ab_W jX4_length (d + 3) E h0 70 (fun vv h1 => vv = some (vI R) ∧ h1 = hX mb (rr2 x (lnQ x a act w t' (bgQ x f i (-9) r1)).1 (lnQ x a act w t' (bgQ x f i (-9) r1)).2 (lnQ x a act w t' (bgQ x f j (-9) r2)).1 (lnQ x a act w t' (bgQ x f j (-9) r2)).2) a f) (ab_at iX4_length 98) [(6, vI (nI (t + 1))), (0, vR 13 0), (1, vI (nI i)), (2, vI (nI j)), (3, vI act), (4, vI (nI w)), (5, vI dd)] [] (hX mb (rr2 x (lnQ x a act w t (bgQ x f i (-9) r1)).1 (lnQ x a act w t (bgQ x f i (-9) r1)).2 (lnQ x a act w t (bgQ x f j (-9) r2)).1 (lnQ x a act w t (bgQ x f j (-9) r2)).2) a f) := by
  have hx5 := IV_x5 h
  intro k
  induction k with
  | zero =>
    intro t ht hR
    refine ⟨t, fun E => ?_⟩
    generalize lnQ x a act w t (bgQ x f i (-9) r1) = q1
    generalize lnQ x a act w t (bgQ x f j (-9) r2) = q2
    refine ab_run [98] 100 oX4_length.1 (Nat.le_refl _) 98 ?_
    refine ⟨fun c1 => ?_, fun c1 => absurd (show nI 60 < nI (t + 1) from nI_lt (by omega) (by omega)) c1⟩
    have hR : R = -9 := hR
    rw [hR]
    exact ⟨rfl, rfl⟩
  | succ k ih =>
    intro t ht hR
    obtain ⟨⟨o1, p1⟩, j1⟩ := len_RJ h em hm hw hg ha1 ha2 t (by omega) i hi r1
    obtain ⟨⟨o2, p2⟩, j2⟩ := len_RJ h em hm hw hg ha1 ha2 t (by omega) j hj r2
    have c1 : (lnQ x a act w (t + 1) (bgQ x f i (-9) r1)).2 5 = (sgN m act (t + 1) (bgG g A, opN w m (bgN m A))).2 9 i := j1.2.2.2.2.2.2.1
    have c2 : (lnQ x a act w (t + 1) (bgQ x f j (-9) r2)).2 5 = (sgN m act (t + 1) (bgG g A, opN w m (bgN m A))).2 9 j := j2.2.2.2.2.2.2.1
    clear j1 j2
    have S1 := p_stg41 d mb (mS (mS x 44 (lnQ x a act w t (bgQ x f j (-9) r2)).1) 43 (lnQ x a act w t (bgQ x f j (-9) r2)).2) a f act (nI w) 1 (by omega) hx5 (lnQ x a act w t (bgQ x f i (-9) r1)) o1 p1
    rw [stX_congr (x := x) (a := a) (a' := a) (by rw [mS_ne _ _ _ (by decide), mS_ne _ _ _ (by decide)]) rfl rfl, ← lnQ_s, show nI 1 = 1 from rfl] at S1
    have S2 := p_stg43 d mb (mS (mS x 42 (lnQ x a act w (t + 1) (bgQ x f i (-9) r1)).1) 41 (lnQ x a act w (t + 1) (bgQ x f i (-9) r1)).2) a f act (nI w) 1 (by omega) hx5 (lnQ x a act w t (bgQ x f j (-9) r2)) o2 p2
    rw [stX_congr (x := x) (a := a) (a' := a) (by rw [mS_ne _ _ _ (by decide), mS_ne _ _ _ (by decide)]) rfl rfl, ← lnQ_s, rr2_swap, rr2_swap, show nI 1 = 1 from rfl] at S2
    have hc : absI ((lnQ x a act w (t + 1) (bgQ x f i (-9) r1)).2 5 - (lnQ x a act w (t + 1) (bgQ x f j (-9) r2)).2 5) = lnC g A m w act i j (t + 1) := by
      rw [c1, c2]
      rfl
    by_cases c3 : dd ≤ lnC g A m w act i j (t + 1)
    · refine ⟨t + 1, fun E => x_lnstep d mb x a f h0 E _ (by omega) _ _ act (nI w) dd _ _ _ _ (lnQ x a act w (t + 1) (bgQ x f i (-9) r1)).1 (lnQ x a act w (t + 1) (bgQ x f i (-9) r1)).2 (lnQ x a act w (t + 1) (bgQ x f j (-9) r2)).1 (lnQ x a act w (t + 1) (bgQ x f j (-9) r2)).2 S1 S2 (fun c4 => ?_) (fun c4 => ?_)⟩
      · rw [hc] at c4
        exact absurd c3 ((ln_le hd1).mp c4)
      · have hR : R = nI (t + 1) := by rw [hR]; exact if_pos c3
        rw [hR]
        exact ⟨rfl, rfl⟩
    · obtain ⟨t', hW⟩ := ih (t + 1) (by omega) (by rw [hR]; exact if_neg c3)
      refine ⟨t', fun E => x_lnstep d mb x a f h0 E _ (by omega) _ _ act (nI w) dd _ _ _ _ (lnQ x a act w (t + 1) (bgQ x f i (-9) r1)).1 (lnQ x a act w (t + 1) (bgQ x f i (-9) r1)).2 (lnQ x a act w (t + 1) (bgQ x f j (-9) r2)).1 (lnQ x a act w (t + 1) (bgQ x f j (-9) r2)).2 S1 S2 (fun c4 => ?_) (fun c4 => ?_)⟩
      · have h9 := hW E
        rw [nI_succ (t + 1)] at h9
        exact h9
      · rw [hc] at c4
        exact absurd ((ln_le hd1).mpr c3) c4
