theorem dnM_2 {A B : mA} (h : B 2 = A 2) (w i : Nat) : dnM B w i = dnM A w i := by
  unfold dnM
  rw [h]
theorem opN_lo (w n : Nat) (A : mA) {i : Nat} (h : i < n) : opN w n A 8 i = dnM A w i ∧ opN w n A 7 i = A 7 i * dnM A w i / A 8 i := by
  induction n with
  | zero => omega
  | succ n ih =>
    have e2 : dnM (opN w n A) w n = dnM A w n := dnM_2 (opN_n w n A (by decide) (by decide)) w n
    have h8 := opN_hi w n A (Nat.le_refl n)
    by_cases hin : i = n
    · subst hin
      constructor
      · show opF w i (opN w i A) 8 i = _
        unfold opF
        rw [mS_eq]
        show (if i = i then _ else _) = _
        rw [if_pos rfl, e2]
      · show opF w i (opN w i A) 7 i = _
        unfold opF
        rw [mS_ne _ _ _ (by decide), mS_eq]
        show (if i = i then _ else _) = _
        rw [if_pos rfl, e2, h8.1, h8.2]
    · have h2 := ih (by omega)
      constructor
      · show opF w n (opN w n A) 8 i = _
        unfold opF
        rw [mS_eq]
        show (if i = n then _ else opN w n A 8 i) = _
        rw [if_neg hin]
        exact h2.1
      · show opF w n (opN w n A) 7 i = _
        unfold opF
        rw [mS_ne _ _ _ (by decide), mS_eq]
        show (if i = n then _ else opN w n A 7 i) = _
        rw [if_neg hin]
        exact h2.2
def bgF (i : Nat) (A : mA) : mA := mS (mS (mS A 7 (upd (A 7) i (A 2 (16 + 9 * i + 7)))) 8 (upd (A 8) i (A 2 (16 + 9 * i + 8)))) 9 (upd (A 9) i 0)
def bgN : Nat → mA → mA
  | 0, A => A
  | n + 1, A => bgF n (bgN n A)
def bgG (g : mG) (A : mA) : mG := upd (upd (upd (upd (upd (upd g 12 (A 2 5)) 13 0) 15 0) 16 0) 17 (-9)) 19 (-9)
theorem bgF_n (i : Nat) (A : mA) {j : Nat} (h7 : j ≠ 7) (h8 : j ≠ 8) (h9 : j ≠ 9) : bgF i A j = A j := by
  unfold bgF
  rw [mS_ne _ _ _ h9, mS_ne _ _ _ h8, mS_ne _ _ _ h7]
theorem bgN_n (n : Nat) (A : mA) {j : Nat} (h7 : j ≠ 7) (h8 : j ≠ 8) (h9 : j ≠ 9) : bgN n A j = A j := by
  induction n with
  | zero => rfl
  | succ n ih => exact (bgF_n n _ h7 h8 h9).trans ih
theorem bgN_lo (n : Nat) (A : mA) {i : Nat} (h : i < n) : bgN n A 7 i = A 2 (16 + 9 * i + 7) ∧ bgN n A 8 i = A 2 (16 + 9 * i + 8) ∧ bgN n A 9 i = 0 := by
  induction n with
  | zero => omega
  | succ n ih =>
    have e2 : bgN n A 2 = A 2 := bgN_n n A (by decide) (by decide) (by decide)
    have p7 : bgN (n + 1) A 7 i = if i = n then A 2 (16 + 9 * n + 7) else bgN n A 7 i := by
      show bgF n (bgN n A) 7 i = _
      unfold bgF
      rw [mS_ne _ _ _ (by decide), mS_ne _ _ _ (by decide), mS_eq, e2]
      rfl
    have p8 : bgN (n + 1) A 8 i = if i = n then A 2 (16 + 9 * n + 8) else bgN n A 8 i := by
      show bgF n (bgN n A) 8 i = _
      unfold bgF
      rw [mS_ne _ _ _ (by decide), mS_eq, e2]
      rfl
    have p9 : bgN (n + 1) A 9 i = if i = n then 0 else bgN n A 9 i := by
      show bgF n (bgN n A) 9 i = _
      unfold bgF
      rw [mS_eq]
      rfl
    rw [p7, p8, p9]
    by_cases hin : i = n
    · subst hin
      simp
    · rw [if_neg hin, if_neg hin, if_neg hin]
      exact ih (by omega)
noncomputable def rsF (m i : Nat) (q : mGA) : mGA := sgN m (q.2 2 (88 + 3 * i)) (q.2 2 (88 + 3 * i + 2)).toNatClampNeg (q.1, opN (q.2 2 (88 + 3 * i + 1)).toNatClampNeg m q.2)
noncomputable def rsN (m : Nat) : Nat → mGA → mGA
  | 0, q => q
  | n + 1, q => rsF m n (rsN m n q)
theorem rsF_A (m i : Nat) (q : mGA) {j : Nat} (h7 : j ≠ 7) (h8 : j ≠ 8) (h9 : j ≠ 9) : (rsF m i q).2 j = q.2 j := by
  unfold rsF
  rw [sgN_A _ _ _ _ h7 h9]
  exact opN_n _ _ _ h7 h8
theorem rsN_A (m n : Nat) (q : mGA) {j : Nat} (h7 : j ≠ 7) (h8 : j ≠ 8) (h9 : j ≠ 9) : (rsN m n q).2 j = q.2 j := by
  induction n with
  | zero => rfl
  | succ n ih => exact (rsF_A m n _ h7 h8 h9).trans ih
/-- what a ride of the model needs of the numbers in s -/
def SOK (s : Nat → Int32) (m ns : Nat) (A : mA) : Prop := (∀ i, i < ns → ∃ w n : Nat, s (88 + 3 * i + 1) = nI w ∧ w < 5 ∧ s (88 + 3 * i + 2) = nI n ∧ n ≤ 60 ∧ ∀ j, j < m → ¬ dnM A w j = 0 ∧ ¬ 100 * dnM A w j = 0)
section MRides
variable (d : Nat) (xs : List AB)
set_option maxRecDepth 100000 in
theorem m_begins (g : mG) (A : mA) {m : Nat} (hm : A 2 3 = nI m) (hm8 : m ≤ 8) : ab_Ex (d + 2) 0 yX5_begins [vR 0 0] (hM g A xs) none (hM (bgG g A) (bgN m A) xs) := by
  refine ab_meth oX5_begins (d + 1) _ _ _ _ (Nat.le_refl _) rfl (fun E => ?_)
  have loop : ∀ (k i : Nat), i + k = m → ab_W jX5_begins (d + 1) E (hM g A xs) 70 (fun v1 h1 => v1 = none ∧ h1 = hM (bgG g A) (bgN m A) xs) (ab_at iX5_begins 2) [(1, vI (nI i)), (0, vR 0 0)] [] (hM g (bgN i A) xs) := by
    intro k
    induction k with
    | zero =>
      intro i hi
      have e2 : bgN i A 2 = A 2 := bgN_n i A (by decide) (by decide) (by decide)
      refine ab_run [2] 100 oX5_begins.1 (Nat.le_refl _) 2 ?_
      refine ⟨vp_d rfl, fun c1 => ?_, fun c1 => ?_⟩
      · refine ⟨vp_d rfl, Or.inl rfl, rfl, ?_⟩
        rw [show i = m by omega] at e2 ⊢
        unfold bgG
        rw [← e2]
        rfl
      · have c1 : ¬ bgN i A 2 3 ≤ nI i := c1
        rw [e2, hm] at c1
        exact absurd (nI_le (by omega) (by omega)) c1
    | succ k ih =>
      intro i hi
      have e2 : bgN i A 2 = A 2 := bgN_n i A (by decide) (by decide) (by decide)
      have hci : (nI i).toNatClampNeg = i := nI_clamp (by omega)
      have hin : vp_in (nI i) 8 := vp_in_nI (by omega) (by omega)
      refine ab_run [2] 100 oX5_begins.1 (Nat.le_refl _) 2 ?_
      refine ⟨vp_d rfl, fun c1 => ?_, fun c1 => ?_⟩
      · have c1 : bgN i A 2 3 ≤ nI i := c1
        rw [e2, hm] at c1
        exact absurd c1 (nI_lt_m (by omega) (by omega))
      refine ⟨_, _, m_get d g (bgN i A) xs i 7 (by omega), Nat.le_refl _, hin, ?_⟩
      rw [hci]
      refine ⟨_, _, m_get d g (mS (bgN i A) 7 (upd (bgN i A 7) i (bgN i A 2 (16 + 9 * i + 7)))) xs i 8 (by omega), Nat.le_refl _, hin, hin, ?_⟩
      rw [hci]
      have h9 := ih (i + 1) (by omega)
      rw [nI_succ] at h9
      exact h9
  refine ab_run [2] 100 oX5_begins.1 (Nat.le_refl _) 0 ?_
  exact loop m 0 (by omega)
theorem ix_s (i k : Nat) : (88 : Int32) + 3 * nI i + nI k = nI (88 + 3 * i + k) := by
  rw [show (88 : Int32) = nI 88 from rfl, show (3 : Int32) = nI 3 from rfl, pk_mul, nI_add, nI_add]
theorem ix_s0 (i : Nat) : (88 : Int32) + 3 * nI i = nI (88 + 3 * i) := by
  rw [show (88 : Int32) = nI 88 from rfl, show (3 : Int32) = nI 3 from rfl, pk_mul, nI_add]
set_option maxRecDepth 100000 in
theorem m_rides (g : mG) (A : mA) {m ns : Nat} (hm : A 2 3 = nI m) (hm8 : m ≤ 8) (hns : A 2 4 = nI ns) (hns8 : ns ≤ 8) (hb0 : ∀ j, j < m → ¬ A 8 j = 0) (hok : SOK (A 2) m ns A) : ab_Ex (d + 6) 0 yX5_rides [vR 0 0] (hM g A xs) none (hM (rsN m ns (g, A)).1 (rsN m ns (g, A)).2 xs) := by
  refine ab_meth oX5_rides (d + 5) _ _ _ _ (Nat.le_refl _) rfl (fun E => ?_)
  have loop : ∀ (k i : Nat) (gi : mG) (Ai : mA), i + k = ns → (gi, Ai) = rsN m i (g, A) → (∀ j, j < m → ¬ Ai 8 j = 0) → ab_W jX5_rides (d + 5) E (hM g A xs) 70 (fun v1 h1 => v1 = none ∧ h1 = hM (rsN m ns (g, A)).1 (rsN m ns (g, A)).2 xs) (ab_at iX5_rides 2) [(1, vI (nI i)), (0, vR 0 0)] [] (hM gi Ai xs) := by
    intro k
    induction k with
    | zero =>
      intro i gi Ai hi hq hb
      have e2 : Ai 2 = A 2 := by
        have h1 := rsN_A m i (g, A) (j := 2) (by decide) (by decide) (by decide)
        rw [← hq] at h1
        exact h1
      refine ab_run [2] 100 oX5_rides.1 (Nat.le_refl _) 2 ?_
      refine ⟨vp_d rfl, fun c1 => ?_, fun c1 => ?_⟩
      · refine ⟨rfl, ?_⟩
        rw [show ns = i by omega, ← hq]
      · have c1 : ¬ Ai 2 4 ≤ nI i := c1
        rw [e2, hns] at c1
        exact absurd (nI_le (by omega) (by omega)) c1
    | succ k ih =>
      intro i gi Ai hi hq hb
      have e2 : Ai 2 = A 2 := by
        have h1 := rsN_A m i (g, A) (j := 2) (by decide) (by decide) (by decide)
        rw [← hq] at h1
        exact h1
      obtain ⟨w, n, hw, hw5, hn, hn60, hdn⟩ := hok i (by omega)
      refine ab_run [2] 100 oX5_rides.1 (Nat.le_refl _) 2 ?_
      refine ⟨vp_d rfl, fun c1 => ?_, fun c1 => ?_⟩
      · have c1 : Ai 2 4 ≤ nI i := c1
        rw [e2, hns] at c1
        exact absurd c1 (nI_lt_m (by omega) (by omega))
      refine ⟨by rw [ix_s0]; exact vp_in_nI (by omega) (by omega), by rw [show (1 : Int32) = nI 1 from rfl, ix_s]; exact vp_in_nI (by omega) (by omega), by rw [show (2 : Int32) = nI 2 from rfl, ix_s]; exact vp_in_nI (by omega) (by omega), ?_⟩
      have d0 : (88 + 3 * nI i).toNatClampNeg = 88 + 3 * i := by rw [ix_s0, nI_clamp (by omega)]
      have d1 : (88 + 3 * nI i + 1).toNatClampNeg = 88 + 3 * i + 1 := by rw [show (1 : Int32) = nI 1 from rfl, ix_s, nI_clamp (by omega)]
      have d2 : (88 + 3 * nI i + 2).toNatClampNeg = 88 + 3 * i + 2 := by rw [show (2 : Int32) = nI 2 from rfl, ix_s, nI_clamp (by omega)]
      rw [d0, d1, d2]
      have hdn2 : ∀ j, j < m → ¬ 100 * opN w m Ai 8 j = 0 := by
        intro j hj
        rw [(opN_lo w m Ai hj).1, dnM_2 e2]
        exact (hdn j hj).2
      have hS := m_goesStage d xs gi Ai (m := m) (w := w) (n := n) (by rw [e2]; exact hm) hm8 hw5 hn60 hb hdn2 (Ai 2 (88 + 3 * i))
      have ew : Ai 2 (88 + 3 * i + 1) = nI w := by rw [e2]; exact hw
      have en : Ai 2 (88 + 3 * i + 2) = nI n := by rw [e2]; exact hn
      have eF : sgN m (Ai 2 (88 + 3 * i)) n (gi, opN w m Ai) = rsF m i (gi, Ai) := by
        unfold rsF
        dsimp only
        rw [ew, en, nI_clamp (by omega), nI_clamp (by omega)]
      rw [eF, ← ew, ← en] at hS
      refine ⟨_, _, hS, Nat.le_refl _, ?_⟩
      have h9 := ih (i + 1) (rsF m i (gi, Ai)).1 (rsF m i (gi, Ai)).2 (by omega) (by rw [hq]; rfl) (by
        intro j hj
        rw [← eF, sgN_A _ _ _ _ (by decide) (by decide)]
        show ¬ opN w m Ai 8 j = 0
        rw [(opN_lo w m Ai hj).1, dnM_2 e2]
        exact (hdn j hj).1)
      rw [nI_succ] at h9
      exact h9
  refine ab_run [2] 100 oX5_rides.1 (Nat.le_refl _) 0 ?_
  exact loop ns 0 g A (by omega) rfl hb0
end MRides
