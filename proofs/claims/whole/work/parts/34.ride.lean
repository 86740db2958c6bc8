abbrev rQ : Type := (Nat → Int32) × (Nat → Int32)
noncomputable def rdN (x a : mA) : Nat → rQ → rQ
  | 0, q => q
  | n + 1, q => stX x a (a 22 n) (a 23 n) (a 24 n).toNatClampNeg (rdN x a n q)
theorem stX_6 (x a : mA) (act gear : Int32) (T : Nat) (q : rQ) : (stX x a act gear T q).2 6 = q.2 6 := by
  show psT T _ 6 = _
  show psR _ act T _ q.2 6 = _
  exact psR_lo (by decide) (by decide)
theorem sgN_12 (m : Nat) (act : Int32) (n : Nat) (q : mGA) : (sgN m act n q).1 12 = q.1 12 + nI n ∧ (sgN m act n q).1 17 = q.1 17 ∧ (sgN m act n q).1 18 = q.1 18 ∧ (sgN m act n q).1 16 = q.1 16 := by
  have ht : ∀ (i : Nat) (q : mGA), (tuN m act i q).1 12 = q.1 12 ∧ (tuN m act i q).1 17 = q.1 17 ∧ (tuN m act i q).1 18 = q.1 18 ∧ (tuN m act i q).1 16 = q.1 16 := by
    intro i q
    induction i with
    | zero => exact ⟨rfl, rfl, rfl, rfl⟩
    | succ i ih =>
      refine ⟨?_, ?_, ?_, ?_⟩
      · exact (gsN_g act (nI i) m _ (k := 12) (by decide) (by decide) (by decide)).trans ih.1
      · exact (gsN_g act (nI i) m _ (k := 17) (by decide) (by decide) (by decide)).trans ih.2.1
      · exact (gsN_g act (nI i) m _ (k := 18) (by decide) (by decide) (by decide)).trans ih.2.2.1
      · exact (gsN_g act (nI i) m _ (k := 16) (by decide) (by decide) (by decide)).trans ih.2.2.2
  induction n with
  | zero =>
    refine ⟨?_, rfl, rfl, rfl⟩
    show q.1 12 = q.1 12 + nI 0
    rw [nI_0]
    simp
  | succ n ih =>
    obtain ⟨t1, t2, t3, t4⟩ := ht 100 (sgN m act n q)
    refine ⟨?_, t2.trans ih.2.1, t3.trans ih.2.2.1, t4.trans ih.2.2.2⟩
    show (tuN m act 100 (sgN m act n q)).1 12 + 1 = _
    rw [t1, ih.1, nI_succ, Int32.add_assoc]
theorem RJ_2 {g : mG} {A A' : mA} {j : Nat} {q : rQ} (h2 : A' 2 = A 2) (h7 : A' 7 = A 7) (h8 : A' 8 = A 8) (h9 : A' 9 = A 9) (h : RJ g A j q) : RJ g A' j q := by
  unfold RJ at *
  rw [h2, h7, h8, h9, upM_2 h2]
  exact h
/-- behind n stages -/
def RN (g : mG) (A : mA) (x a : mA) (m j n : Nat) (q : rQ) : Prop :=
  RJ (rsN m n (g, A)).1 (rsN m n (g, A)).2 j (rdN x a n q) ∧ (rsN m n (g, A)).2 2 = A 2 ∧ (0 ≤ ((rsN m n (g, A)).1 12).toInt ∧ ((rsN m n (g, A)).1 12).toInt ≤ 9999 + 60 * n) ∧ ((rsN m n (g, A)).1 17 = g 17 ∧ (rsN m n (g, A)).1 18 = g 18 ∧ (rsN m n (g, A)).1 16 = g 16) ∧ (rdN x a n q).2 6 = q.2 6 ∧ (g 17 = nI j → q.2 6 = g 18 → q.2 7 = g 19 → (rdN x a n q).2 7 = (rsN m n (g, A)).1 19)
theorem stage_nums {s : Nat → Int32} {x a : mA} {f : mF} (hW : WF s) (hB : BR s x a f 17) {i ns : Nat} (hns : s 4 = nI ns) (hi : i < ns) (hns8 : ns ≤ 8) : ∃ w T : Nat, w < 5 ∧ (w : Int) < (s 2).toInt ∧ 1 ≤ T ∧ T ≤ 60 ∧ s (88 + 3 * i + 1) = nI w ∧ a 23 i = nI w ∧ s (88 + 3 * i + 2) = nI T ∧ a 24 i = nI T ∧ s (88 + 3 * i) = a 22 i ∧ 0 ≤ (a 22 i).toInt ∧ (a 22 i).toInt ≤ 5 := by
  have hii : (i : Int) < (s 4).toInt := by rw [hns, nI_toInt (by omega)]; omega
  obtain ⟨⟨h1, h2⟩, ⟨h3, h4⟩, h5, h6⟩ := hW.2.2.2.2 i (by omega) hii
  obtain ⟨b1, b2, b3⟩ := hB.2.2.2.2 i (by omega) hii
  have h22 := hW.1.2.2.1
  have c1 := ti_clamp (x := s (88 + 3 * i + 1)) h3
  have c2 := ti_clamp (x := s (88 + 3 * i + 2)) (by omega)
  refine ⟨(s (88 + 3 * i + 1)).toNatClampNeg, (s (88 + 3 * i + 2)).toNatClampNeg, by omega, by omega, by omega, by omega, ti_nat h3, ?_, ti_nat (by omega), ?_, b1, ?_, ?_⟩
  · have b2' : s (88 + 3 * i + 1) = a 23 i := b2
    rw [← b2']
    exact ti_nat h3
  · have b3' : s (88 + 3 * i + 2) = a 24 i := b3
    rw [← b3']
    exact ti_nat (by omega)
  · have b1' : s (88 + 3 * i) = a 22 i := b1
    rw [← b1']
    exact h1
  · have b1' : s (88 + 3 * i) = a 22 i := b1
    rw [← b1']
    exact h2
theorem RN_step {g : mG} {A : mA} {x a : mA} {f : mF} {j m ns n : Nat} {q : rQ} (hW : WF (A 2)) (hB : BR (A 2) x a f 17) (hm : A 2 3 = nI m) (hm8 : m ≤ 8) (hns : A 2 4 = nI ns) (hns8 : ns ≤ 8) (hj : j < m) (hn : n < ns) (h : RN g A x a m j n q) : RN g A x a m j (n + 1) q ∧ 0 < (rdN x a n q).1 8 ∧ RO (rW (rdN x a n q).1 (downX ((rdN x a n q).1 0) ((rdN x a n q).1 6) (x 17 1) (a 23 n) (x 17 3) (a 18))) (rdN x a n q).2 := by
  obtain ⟨h1, h2, ⟨h3, h4⟩, ⟨h17, h18, h16⟩, h6, h7⟩ := h
  obtain ⟨w, T, hw, hwg, hT1, hT, ew, ew', eT, eT', ea, ha1, ha2⟩ := stage_nums hW hB hns hn hns8
  generalize hq : rsN m n (g, A) = Q at h1 h2 h3 h4 h17 h18 h16 h7
  obtain ⟨G, B⟩ := Q
  have hB2 : B 2 = A 2 := h2
  have h3 : 0 ≤ (G 12).toInt := h3
  have h4 : (G 12).toInt ≤ 9999 + 60 * n := h4
  have hst := RJ_stage (g := G) (A := B) (x := x) (a := a) (f := f) (j := j) (m := m) (w := w) (T := T) (act := a 22 n) (q := rdN x a n q) (by rw [hB2]; exact hW) (by rw [hB2]; exact hB) (by rw [hB2]; exact hm) hj hm8 hw (by rw [hB2]; exact hwg) hT ha1 ha2 h3 (by omega) h1
  obtain ⟨s1, s2, s3⟩ := hst
  have eF : rsN m (n + 1) (g, A) = sgN m (a 22 n) T (G, opN w m B) := by
    show rsF m n (rsN m n (g, A)) = _
    rw [hq]
    unfold rsF
    dsimp only
    rw [hB2, ea, ew, eT, nI_clamp (by omega), nI_clamp (by omega)]
  have eX : rdN x a (n + 1) q = stX x a (a 22 n) (nI w) T (rdN x a n q) := by
    show stX x a (a 22 n) (a 23 n) (a 24 n).toNatClampNeg (rdN x a n q) = _
    rw [ew', eT', nI_clamp (by omega)]
  obtain ⟨g12, g17, g18, g16⟩ := sgN_12 m (a 22 n) T (G, opN w m B)
  have e12 : (G 12 + nI T).toInt = (G 12).toInt + T := ti_add rfl (nI_toInt (by omega)) (by omega) (by omega)
  refine ⟨⟨?_, ?_, ?_, ⟨?_, ?_, ?_⟩, ?_, ?_⟩, ?_⟩
  · rw [eF, eX]
    exact s1
  · rw [eF, sgN_A _ _ _ _ (by decide) (by decide)]
    show opN w m B 2 = A 2
    rw [opN_n w m B (by decide) (by decide), hB2]
  · rw [eF, g12]
    show 0 ≤ (G 12 + nI T).toInt ∧ (G 12 + nI T).toInt ≤ _
    rw [e12]
    have h3' : 0 ≤ (G 12).toInt := h3
    have h4' : (G 12).toInt ≤ 9999 + 60 * n := h4
    omega
  · rw [eF, g17]
    exact h17
  · rw [eF, g18]
    exact h18
  · rw [eF, g16]
    exact h16
  · rw [eX, stX_6]
    exact h6
  · intro q1 q2 q3
    rw [eF, eX]
    refine s3 (h17.trans q1) ?_ ?_
    · rw [h6, q2]
      exact h18.symm
    · exact h7 q1 q2 q3
  · rw [ew']
    exact s2
theorem RN_all {g : mG} {A : mA} {x a : mA} {f : mF} {j m ns : Nat} {q : rQ} (hW : WF (A 2)) (hB : BR (A 2) x a f 17) (hm : A 2 3 = nI m) (hm8 : m ≤ 8) (hns : A 2 4 = nI ns) (hns8 : ns ≤ 8) (hj : j < m) (ht1 : 0 ≤ (g 12).toInt) (ht2 : (g 12).toInt ≤ 9999) (h : RJ g A j q) : ∀ n, n ≤ ns → RN g A x a m j n q := by
  intro n
  induction n with
  | zero => exact fun _ => ⟨h, rfl, ⟨ht1, by show (g 12).toInt ≤ _; omega⟩, ⟨rfl, rfl, rfl⟩, rfl, fun _ _ h7 => h7⟩
  | succ n ih => exact fun hn => (RN_step hW hB hm hm8 hns hns8 hj (by omega) (ih (by omega))).1
-- THE CLASS'S RIDE OF A FAULT
section PassRide
variable (d : Nat) (mb : Nat → AB) (x a : mA) (f : mF)
set_option maxRecDepth 100000 in
theorem p_ride {i ns : Nat} (hi : i < 8) (hns : x 17 12 = nI ns) (hns8 : ns ≤ 8) (hn : x 17 3 ≤ 5) (w r : Nat → Int32) (wanted : Int32) (q0 : rQ) (hq0 : q0 = (f 20 i, rB (upI (f 20 i 0) (f 20 i 5) (x 17 0)) (x 17 7) wanted r))
    (hall : ∀ n, n < ns → 0 < (rdN x a n q0).1 8 ∧ RO (rW (rdN x a n q0).1 (downX ((rdN x a n q0).1 0) ((rdN x a n q0).1 6) (x 17 1) (a 23 n) (x 17 3) (a 18))) (rdN x a n q0).2 ∧ ∃ T : Nat, T ≤ 60 ∧ a 24 n = nI T) :
    ab_Ex (d + 4) 0 yX2_passRide [vR 41 0, vR 20 i, vI wanted] (hX mb (mS (mS x 42 w) 41 r) a f) (some (vI ((rdN x a ns q0).2 5))) (hX mb (mS (mS x 42 (rdN x a ns q0).1) 41 (rdN x a ns q0).2) a f) := by
  refine ab_meth oX2_passRide (d + 3) _ _ _ _ (Nat.le_refl _) rfl (fun E => ?_)
  have loop : ∀ (k n : Nat), n + k = ns → ab_W jX2_passRide (d + 3) E (hX mb (mS (mS x 42 w) 41 r) a f) 70 (fun v1 h1 => v1 = some (vI ((rdN x a ns q0).2 5)) ∧ h1 = hX mb (mS (mS x 42 (rdN x a ns q0).1) 41 (rdN x a ns q0).2) a f) (ab_at iX2_passRide 8) [(3, vI (nI n)), (0, vR 41 0), (1, vR 20 i), (2, vI wanted)] [] (hX mb (mS (mS x 42 (rdN x a n q0).1) 41 (rdN x a n q0).2) a f) := by
    intro k
    induction k with
    | zero =>
      intro n hk
      refine ab_run [8] 100 oX2_passRide.1 (Nat.le_refl _) 8 ?_
      refine ⟨fun c1 => ?_, fun c1 => ?_⟩
      · rw [show ns = n by omega]
        exact ⟨rfl, rfl⟩
      · have c1 : ¬ x 17 12 ≤ nI n := c1
        rw [hns] at c1
        exact absurd (nI_le (by omega) (by omega)) c1
    | succ k ih =>
      intro n hk
      obtain ⟨o1, o2, T, hT, eT⟩ := hall n (by omega)
      have hin : vp_in (nI n) 8 := vp_in_nI (by omega) (by omega)
      have hcn : (nI n).toNatClampNeg = n := nI_clamp (by omega)
      refine ab_run [8] 100 oX2_passRide.1 (Nat.le_refl _) 8 ?_
      refine ⟨fun c1 => ?_, fun c1 => ?_⟩
      · have c1 : x 17 12 ≤ nI n := c1
        rw [hns] at c1
        exact absurd c1 (nI_lt_m (by omega) (by omega))
      refine ⟨hin, hin, hin, ?_⟩
      rw [hcn]
      have hS := p_stage41 d mb x a f (rdN x a n q0).1 (rW (rdN x a n q0).1 (downX ((rdN x a n q0).1 0) ((rdN x a n q0).1 6) (x 17 1) (a 23 n) (x 17 3) (a 18))) (rdN x a n q0).2 (a 22 n) (a 23 n) T hT hn o1 rfl o2
      rw [← eT] at hS
      refine ⟨_, _, hS, Nat.le_refl _, ?_⟩
      have h9 := ih (n + 1) (by omega)
      rw [nI_succ] at h9
      have eR : rdN x a (n + 1) q0 = stX x a (a 22 n) (a 23 n) T (rdN x a n q0) := by
        show stX x a (a 22 n) (a 23 n) (a 24 n).toNatClampNeg (rdN x a n q0) = _
        rw [eT, nI_clamp (by omega)]
      rw [eR] at h9
      exact h9
  refine ab_run [8] 100 oX2_passRide.1 (Nat.le_refl _) 0 ?_
  refine ⟨_, _, r_begin41 (d + 1) mb x a f w r hi wanted, Nat.le_refl _, ?_⟩
  have h9 := loop ns 0 (by omega)
  rw [show rdN x a 0 q0 = q0 from rfl, hq0] at h9
  rw [hq0]
  exact h9
end PassRide
