def dnM (A : mA) (w i : Nat) : Int32 := downI (A 2 (16 + 9 * i)) (A 2 (16 + 9 * i + 6)) (A 2 1) (A 2 (11 + w))
def opF (w i : Nat) (A : mA) : mA := mS (mS A 7 (upd (A 7) i (A 7 i * dnM A w i / A 8 i))) 8 (upd (A 8) i (dnM A w i))
def opN (w : Nat) : Nat → mA → mA
  | 0, A => A
  | n + 1, A => opF w n (opN w n A)
theorem opF_n (w i : Nat) (A : mA) {j : Nat} (h7 : j ≠ 7) (h8 : j ≠ 8) : opF w i A j = A j := by
  unfold opF
  rw [mS_ne _ _ _ h8, mS_ne _ _ _ h7]
theorem opN_n (w n : Nat) (A : mA) {j : Nat} (h7 : j ≠ 7) (h8 : j ≠ 8) : opN w n A j = A j := by
  induction n with
  | zero => rfl
  | succ n ih => exact (opF_n w n _ h7 h8).trans ih
theorem opN_hi (w n : Nat) (A : mA) {i : Nat} (h : n ≤ i) : opN w n A 8 i = A 8 i ∧ opN w n A 7 i = A 7 i := by
  induction n with
  | zero => exact ⟨rfl, rfl⟩
  | succ n ih =>
    have h2 := ih (by omega)
    constructor
    · show opF w n (opN w n A) 8 i = _
      unfold opF
      rw [mS_eq]
      show (if i = n then _ else opN w n A 8 i) = _
      rw [if_neg (by omega)]
      exact h2.1
    · show opF w n (opN w n A) 7 i = _
      unfold opF
      rw [mS_ne _ _ _ (by decide), mS_eq]
      show (if i = n then _ else opN w n A 7 i) = _
      rw [if_neg (by omega)]
      exact h2.2
noncomputable def tuN (m : Nat) (act : Int32) : Nat → mGA → mGA
  | 0, q => q
  | n + 1, q => gsS m act (nI n) (tuN m act n q)
noncomputable def tuT (m : Nat) (act : Int32) (q : mGA) : mGA := (upd (tuN m act 100 q).1 12 ((tuN m act 100 q).1 12 + 1), (tuN m act 100 q).2)
noncomputable def sgN (m : Nat) (act : Int32) : Nat → mGA → mGA
  | 0, q => q
  | n + 1, q => tuT m act (sgN m act n q)
theorem gsS_A (m : Nat) (act step : Int32) (q : mGA) {j : Nat} (h7 : j ≠ 7) (h9 : j ≠ 9) : (gsS m act step q).2 j = q.2 j := gsN_A act step m q h7 h9
theorem tuN_A (m : Nat) (act : Int32) (n : Nat) (q : mGA) {j : Nat} (h7 : j ≠ 7) (h9 : j ≠ 9) : (tuN m act n q).2 j = q.2 j := by
  induction n with
  | zero => rfl
  | succ n ih => exact (gsS_A m act _ _ h7 h9).trans ih
theorem tuT_A (m : Nat) (act : Int32) (q : mGA) {j : Nat} (h7 : j ≠ 7) (h9 : j ≠ 9) : (tuT m act q).2 j = q.2 j := tuN_A m act 100 q h7 h9
theorem sgN_A (m : Nat) (act : Int32) (n : Nat) (q : mGA) {j : Nat} (h7 : j ≠ 7) (h9 : j ≠ 9) : (sgN m act n q).2 j = q.2 j := by
  induction n with
  | zero => rfl
  | succ n ih => exact (tuT_A m act _ h7 h9).trans ih
section MStage
variable (d : Nat) (xs : List AB)
set_option maxRecDepth 100000 in
theorem m_opensStage (g : mG) (A : mA) {m w : Nat} (hm : A 2 3 = nI m) (hm8 : m ≤ 8) (hw : w < 5) (hby : ∀ i, i < m → ¬ A 8 i = 0) : ab_Ex (d + 3) 0 yX5_opensStage [vR 0 0, vI (nI w)] (hM g A xs) none (hM g (opN w m A) xs) := by
  refine ab_meth oX5_opensStage (d + 2) _ _ _ _ (Nat.le_refl _) rfl (fun E => ?_)
  have loop : ∀ (k i : Nat), i + k = m → ∀ lv3 : Lv, ab_W jX5_opensStage (d + 2) E (hM g A xs) 70 (fun v1 h1 => v1 = none ∧ h1 = hM g (opN w m A) xs) (ab_at iX5_opensStage 2) ((2, vI (nI i)) :: (0, vR 0 0) :: (1, vI (nI w)) :: []) [] (hM g (opN w i A) xs) := by
    intro k
    induction k with
    | zero =>
      intro i hi _
      refine ab_run [2] 100 oX5_opensStage.1 (Nat.le_refl _) 2 ?_
      refine ⟨vp_d rfl, fun c1 => ?_, fun c1 => ?_⟩
      · refine ⟨rfl, ?_⟩
        rw [show i = m by omega]
      · have c1 : ¬ opN w i A 2 3 ≤ nI i := c1
        rw [opN_n w i A (by decide) (by decide), hm] at c1
        exact absurd (nI_le (by omega) (by omega)) c1
    | succ k ih =>
      intro i hi _
      have hci : (nI i).toNatClampNeg = i := nI_clamp (by omega)
      have hin : vp_in (nI i) 8 := vp_in_nI (by omega) (by omega)
      refine ab_run [2] 100 oX5_opensStage.1 (Nat.le_refl _) 2 ?_
      refine ⟨vp_d rfl, fun c1 => ?_, fun c1 => ?_⟩
      · have c1 : opN w i A 2 3 ≤ nI i := c1
        rw [opN_n w i A (by decide) (by decide), hm] at c1
        exact absurd c1 (nI_lt_m (by omega) (by omega))
      refine ⟨_, _, m_downOf d g (opN w i A) xs i (by omega) w hw, Nat.le_refl _, ?_⟩
      refine ⟨hin, hin, ?_, hin, hin, ?_⟩
      · rw [hci]
        show ¬ opN w i A 8 i = 0
        rw [(opN_hi w i A (Nat.le_refl i)).1]
        exact hby i (by omega)
      · have h9 := ih (i + 1) (by omega) []
        rw [nI_succ] at h9
        rw [hci]
        exact ab_W_lv (lv_pk [0, 2, 3] rfl) h9
  refine ab_run [2] 100 oX5_opensStage.1 (Nat.le_refl _) 0 ?_
  exact loop m 0 (by omega) []
set_option maxRecDepth 100000 in
theorem m_goesStage (g : mG) (A : mA) {m w n : Nat} (hm : A 2 3 = nI m) (hm8 : m ≤ 8) (hw : w < 5) (hn : n ≤ 60) (hby : ∀ i, i < m → ¬ A 8 i = 0) (hdn : ∀ i, i < m → ¬ 100 * opN w m A 8 i = 0) (act : Int32) : ab_Ex (d + 5) 0 yX5_goesStage [vR 0 0, vI act, vI (nI w), vI (nI n)] (hM g A xs) none (hM (sgN m act n (g, opN w m A)).1 (sgN m act n (g, opN w m A)).2 xs) := by
  refine ab_meth oX5_goesStage (d + 4) _ _ _ _ (Nat.le_refl _) rfl (fun E => ?_)
  have inner : ∀ (t : Nat), (∀ (gt : mG) (At : mA), (gt, At) = sgN m act (t + 1) (g, opN w m A) → ab_W jX5_goesStage (d + 4) E (hM g A xs) 70 (fun v1 h1 => v1 = none ∧ h1 = hM (sgN m act n (g, opN w m A)).1 (sgN m act n (g, opN w m A)).2 xs) (ab_at iX5_goesStage 8) [(4, vI (nI t + 1)), (0, vR 0 0), (1, vI act), (2, vI (nI w)), (3, vI (nI n))] [] (hM gt At xs)) →
      ∀ (k i : Nat) (gi : mG) (Ai : mA), i + k = 100 → (gi, Ai) = tuN m act i (sgN m act t (g, opN w m A)) → ab_W jX5_goesStage (d + 4) E (hM g A xs) 70 (fun v1 h1 => v1 = none ∧ h1 = hM (sgN m act n (g, opN w m A)).1 (sgN m act n (g, opN w m A)).2 xs) (ab_at iX5_goesStage 17) [(5, vI (nI i)), (4, vI (nI t)), (0, vR 0 0), (1, vI act), (2, vI (nI w)), (3, vI (nI n))] [] (hM gi Ai xs) := by
    intro t hout k
    induction k with
    | zero =>
      intro i gi Ai hi hq
      refine ab_run [8, 17] 100 oX5_goesStage.1 (Nat.le_refl _) 17 ?_
      refine ⟨fun c1 => ?_, fun c1 => ?_⟩
      · refine ab_W_lv (lv_pk [0, 2, 3, 4, 5] rfl) (hout (upd gi 12 (gi 12 + 1)) Ai ?_)
        have h100 : i = 100 := by omega
        subst h100
        show _ = tuT m act (sgN m act t (g, opN w m A))
        unfold tuT
        rw [← hq]
      · exact absurd (nI_le (a := 100) (b := i) (by omega) (by omega)) c1
    | succ k ih =>
      intro i gi Ai hi hq
      have e2 : Ai 2 = A 2 := by
        have h1 := tuN_A m act i (sgN m act t (g, opN w m A)) (j := 2) (by decide) (by decide)
        rw [← hq, sgN_A m act t (g, opN w m A) (j := 2) (by decide) (by decide)] at h1
        exact h1.trans (opN_n w m A (by decide) (by decide))
      have e8 : Ai 8 = opN w m A 8 := by
        have h1 := tuN_A m act i (sgN m act t (g, opN w m A)) (j := 8) (by decide) (by decide)
        rw [← hq, sgN_A m act t (g, opN w m A) (j := 8) (by decide) (by decide)] at h1
        exact h1
      refine ab_run [8, 17] 100 oX5_goesStage.1 (Nat.le_refl _) 17 ?_
      refine ⟨fun c1 => ?_, fun c1 => ?_⟩
      · exact absurd c1 (nI_ge (a := i) (b := 100) (by omega) (by omega))
      refine ⟨_, _, m_goesStep d xs gi Ai (m := m) (by rw [e2]; exact hm) hm8 act (nI i) (fun j hj => by rw [e8]; exact hdn j hj), Nat.le_refl _, ?_⟩
      have h9 := ih (i + 1) (gsS m act (nI i) (gi, Ai)).1 (gsS m act (nI i) (gi, Ai)).2 (by omega) (by rw [hq]; rfl)
      rw [nI_succ] at h9
      exact h9
  have outer : ∀ (k t : Nat) (gt : mG) (At : mA), t + k = n → (gt, At) = sgN m act t (g, opN w m A) → ab_W jX5_goesStage (d + 4) E (hM g A xs) 70 (fun v1 h1 => v1 = none ∧ h1 = hM (sgN m act n (g, opN w m A)).1 (sgN m act n (g, opN w m A)).2 xs) (ab_at iX5_goesStage 8) [(4, vI (nI t)), (0, vR 0 0), (1, vI act), (2, vI (nI w)), (3, vI (nI n))] [] (hM gt At xs) := by
    intro k
    induction k with
    | zero =>
      intro t gt At ht hq
      refine ab_run [8, 17] 100 oX5_goesStage.1 (Nat.le_refl _) 8 ?_
      refine ⟨fun c1 => ?_, fun c1 => ?_⟩
      · refine ⟨rfl, ?_⟩
        have htn : t = n := by omega
        subst htn
        rw [← hq]
      · exact absurd (nI_le (by omega) (by omega)) c1
    | succ k ih =>
      intro t gt At ht hq
      refine ab_run [8, 17] 100 oX5_goesStage.1 (Nat.le_refl _) 8 ?_
      refine ⟨fun c1 => ?_, fun c1 => ?_⟩
      · exact absurd c1 (nI_lt_m (by omega) (by omega))
      refine inner t ?_ 100 0 gt At (by omega) hq
      intro g2 A2 h2
      rw [← nI_succ]
      exact ih (t + 1) g2 A2 (by omega) h2
  refine ab_run [8, 17] 100 oX5_goesStage.1 (Nat.le_refl _) 0 ?_
  refine ⟨_, _, m_opensStage (d + 1) xs g A hm hm8 hw hby, Nat.le_refl _, ?_⟩
  exact outer n 0 g (opN w m A) (by omega) rfl
end MStage
