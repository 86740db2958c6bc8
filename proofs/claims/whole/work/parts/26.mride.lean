abbrev mGA : Type := mG × mA
def nowM (step kind cb : Int32) : Int32 := if kind = 4 then bI (step = 25 ∨ step = 75) else cb
def upM (A : mA) (i : Nat) : Int32 := upI (A 2 (16 + 9 * i)) (A 2 (16 + 9 * i + 5)) (A 2 0)
def ckP (act step : Int32) (g : mG) (A : mA) (i : Nat) : Prop := ¬ nowM step (A 2 (16 + 9 * i)) (cbR act (A 2 (16 + 9 * i + 1)) (upM A i) (A 8 i) (A 7 i)) = 0 ∧ limI (A 2 (16 + 9 * i)) (A 2 (16 + 9 * i + 2)) (g 12) ≤ loadI act step (A 2 7) ∧ silM (A 2 (16 + 9 * i)) (g 12) (A 2 6) (A 2 10) (A 2 8) = 0
def gsW (act : Int32) (A : mA) (i : Nat) : mA := mS A 7 (upd (A 7) i (cbW act (A 2 (16 + 9 * i)) (upM A i) (A 8 i) (A 7 i)))
noncomputable def gsF (act step : Int32) (i : Nat) (q : mGA) : mGA := @ite _ (ckP act step q.1 q.2 i) (Classical.propDecidable _) (ckH q.1 (gsW act q.2 i) i, ckA (gsW act q.2 i) i) (q.1, gsW act q.2 i)
noncomputable def gsN (act step : Int32) : Nat → mGA → mGA
  | 0, q => q
  | n + 1, q => gsF act step n (gsN act step n q)
theorem mS_ne (A : mA) (k : Nat) (f : Nat → Int32) {j : Nat} (h : j ≠ k) : mS A k f j = A j := if_neg h
theorem mS_eq (A : mA) (k : Nat) (f : Nat → Int32) : mS A k f k = f := if_pos rfl
theorem ckH_n (g : mG) (A : mA) (i : Nat) {k : Nat} (h : k ≠ 19) (h14 : k ≠ 14) (h15 : k ≠ 15) : ckH g A i k = g k := by
  unfold ckH
  split
  · exact ckG_n g A i h
  · simp [upd, h14, h15, ckG_n g A i h]
theorem gsF_A (act step : Int32) (i : Nat) (q : mGA) {j : Nat} (h7 : j ≠ 7) (h9 : j ≠ 9) : (gsF act step i q).2 j = q.2 j := by
  unfold gsF
  split
  · show mS (gsW act q.2 i) 9 _ j = _
    rw [mS_ne _ _ _ h9]
    exact mS_ne _ _ _ h7
  · exact mS_ne _ _ _ h7
theorem gsF_g (act step : Int32) (i : Nat) (q : mGA) {k : Nat} (h : k ≠ 19) (h14 : k ≠ 14) (h15 : k ≠ 15) : (gsF act step i q).1 k = q.1 k := by
  unfold gsF
  split
  · exact ckH_n _ _ _ h h14 h15
  · rfl
theorem gsN_A (act step : Int32) (n : Nat) (q : mGA) {j : Nat} (h7 : j ≠ 7) (h9 : j ≠ 9) : (gsN act step n q).2 j = q.2 j := by
  induction n with
  | zero => rfl
  | succ n ih => exact (gsF_A act step n _ h7 h9).trans ih
theorem gsN_g (act step : Int32) (n : Nat) (q : mGA) {k : Nat} (h : k ≠ 19) (h14 : k ≠ 14) (h15 : k ≠ 15) : (gsN act step n q).1 k = q.1 k := by
  induction n with
  | zero => rfl
  | succ n ih => exact (gsF_g act step n _ h h14 h15).trans ih
/-- a step of all faults -/
noncomputable def gsS (m : Nat) (act step : Int32) (q : mGA) : mGA := (upd (gsN act step m q).1 13 ((gsN act step m q).1 13 + 1), (gsN act step m q).2)
section MRide
variable (d : Nat) (xs : List AB)
set_option maxHeartbeats 2000000 in
set_option maxRecDepth 100000 in
theorem m_goesStep (g : mG) (A : mA) {m : Nat} (hm : A 2 3 = nI m) (hm8 : m ≤ 8) (act step : Int32) (hby : ∀ i, i < m → ¬ 100 * A 8 i = 0) : ab_Ex (d + 4) 0 yX5_goesStep [vR 0 0, vI act, vI step] (hM g A xs) none (hM (gsS m act step (g, A)).1 (gsS m act step (g, A)).2 xs) := by
  refine ab_meth oX5_goesStep (d + 3) _ _ _ _ (Nat.le_refl _) rfl (fun E => ?_)
  have loop : ∀ (k i : Nat) (gi : mG) (Ai : mA), i + k = m → (gi, Ai) = gsN act step i (g, A) → ab_W jX5_goesStep (d + 3) E (hM g A xs) 70 (fun v1 h1 => v1 = none ∧ h1 = hM (gsS m act step (g, A)).1 (gsS m act step (g, A)).2 xs) (ab_at iX5_goesStep 10) [(4, vI (nI i)), (3, vI (loadI act step (A 2 7))), (0, vR 0 0), (1, vI act), (2, vI step)] [] (hM gi Ai xs) := by
    intro k
    induction k with
    | zero =>
      intro i gi Ai hi hq
      have e2 : Ai 2 = A 2 := by
        have := gsN_A act step i (g, A) (j := 2) (by decide) (by decide)
        rw [← hq] at this
        exact this
      refine ab_run [10] 100 oX5_goesStep.1 (Nat.le_refl _) 10 ?_
      refine ⟨vp_d rfl, fun c1 => ?_, fun c1 => ?_⟩
      · refine ⟨rfl, ?_⟩
        have him : i = m := by omega
        subst him
        unfold gsS
        rw [← hq]
        rfl
      · have c1 : ¬ Ai 2 3 ≤ nI i := c1
        rw [e2, hm] at c1
        exact absurd (nI_le (by omega) (by omega)) c1
    | succ k ih =>
      intro i gi Ai hi hq
      have e2 : Ai 2 = A 2 := by
        have := gsN_A act step i (g, A) (j := 2) (by decide) (by decide)
        rw [← hq] at this
        exact this
      have e8 : Ai 8 = A 8 := by
        have := gsN_A act step i (g, A) (j := 8) (by decide) (by decide)
        rw [← hq] at this
        exact this
      have hi8 : i < 8 := by omega
      have nxt : ∀ (g2 : mG) (A2 : mA), (g2, A2) = gsF act step i (gi, Ai) → ab_W jX5_goesStep (d + 3) E (hM g A xs) 70 (fun v1 h1 => v1 = none ∧ h1 = hM (gsS m act step (g, A)).1 (gsS m act step (g, A)).2 xs) (ab_at iX5_goesStep 10) [(4, vI (nI i + 1)), (3, vI (loadI act step (A 2 7))), (0, vR 0 0), (1, vI act), (2, vI step)] [] (hM g2 A2 xs) := by
        intro g2 A2 h2
        rw [← nI_succ]
        refine ih (i + 1) g2 A2 (by omega) ?_
        rw [h2, hq]
        rfl
      have H63 : ∀ v cb : Int32, v = nowM step (Ai 2 (16 + 9 * i)) (cbR act (Ai 2 (16 + 9 * i + 1)) (upM Ai i) (Ai 8 i) (Ai 7 i)) → ab_W jX5_goesStep (d + 3) E (hM g A xs) 70 (fun v1 h1 => v1 = none ∧ h1 = hM (gsS m act step (g, A)).1 (gsS m act step (g, A)).2 xs) (ab_at iX5_goesStep 63) [(5, vI cb), (4, vI (nI i)), (3, vI (loadI act step (A 2 7))), (0, vR 0 0), (1, vI act), (2, vI step)] [vI v] (hM gi (gsW act Ai i) xs) := by
        intro v cb hv
        refine ab_run [10] 100 oX5_goesStep.1 (Nat.le_refl _) 63 ?_
        refine ⟨fun c1 => ?_, fun c1 => ?_⟩
        · refine ab_W_lv (lv_pk [0, 3, 4, 5, 6] rfl) (nxt gi (gsW act Ai i) ?_)
          rw [gsF, if_neg]
          intro q
          exact q.1 (hv.symm.trans c1)
        refine ⟨_, _, m_limitOf (d + 1) gi (gsW act Ai i) xs i hi8 (gi 12), Nat.le_refl _, ?_⟩
        refine ⟨fun c2 => ?_, fun c2 => ?_⟩
        · have c2 : loadI act step (A 2 7) < limI (Ai 2 (16 + 9 * i)) (Ai 2 (16 + 9 * i + 2)) (gi 12) := c2
          refine ab_W_lv (lv_pk [0, 3, 4, 5, 6] rfl) (nxt gi (gsW act Ai i) ?_)
          rw [gsF, if_neg]
          intro q
          rw [← e2] at c2
          exact le_nlt q.2.1 c2
        have c2 : ¬ loadI act step (A 2 7) < limI (Ai 2 (16 + 9 * i)) (Ai 2 (16 + 9 * i + 2)) (gi 12) := c2
        refine ⟨_, _, m_isSilent (d + 1) gi (gsW act Ai i) xs i hi8, Nat.le_refl _, ?_⟩
        refine ⟨fun c3 => ?_, fun c3 => ?_⟩
        · refine ab_W_lv (lv_pk [0, 3, 4, 5, 6] rfl) (nxt gi (gsW act Ai i) ?_)
          rw [gsF, if_neg]
          intro q
          exact c3 q.2.2
        · refine ⟨_, _, m_clicks (d + 2) gi (gsW act Ai i) xs i hi8, Nat.le_refl _, ?_⟩
          refine ab_W_lv (lv_pk [0, 3, 4, 5, 6] rfl) (nxt (ckH gi (gsW act Ai i) i) (ckA (gsW act Ai i) i) ?_)
          rw [gsF, if_pos]
          refine ⟨?_, ?_, c3⟩
          · rw [← hv]
            exact c1
          · rw [← e2] at c2
            exact nlt_le c2
      refine ab_run [10, 63] 100 oX5_goesStep.1 (Nat.le_refl _) 10 ?_
      refine ⟨vp_d rfl, fun c1 => ?_, fun c1 => ?_⟩
      · have c1 : Ai 2 3 ≤ nI i := c1
        rw [e2, hm] at c1
        exact absurd c1 (nI_lt_m (by omega) (by omega))
      refine ⟨_, _, m_comesBy d gi Ai xs i hi8 act (by rw [e8]; exact hby i (by omega)), Nat.le_refl _, ?_⟩
      refine ⟨_, _, m_get0 (d + 2) gi (gsW act Ai i) xs i (by omega), Nat.le_refl _, ?_⟩
      refine ⟨fun c2 => ?_, fun c2 => ?_⟩
      · have c2 : ¬ Ai 2 (16 + 9 * i) = 4 := c2
        exact H63 _ _ (by rw [nowM, if_neg c2]; rfl)
      · have c2 : Ai 2 (16 + 9 * i) = 4 := c2
        refine ⟨fun c3 => ?_, fun c3 => ?_⟩
        · exact H63 1 _ (by rw [nowM, if_pos c2, bI_t (Or.inl c3)])
        refine ⟨fun c4 => ?_, fun c4 => ?_⟩
        · exact H63 0 _ (by rw [nowM, if_pos c2, bI_f (fun q => q.elim c3 c4)])
        · exact H63 1 _ (by rw [nowM, if_pos c2, bI_t (Or.inr c4)])
  refine ab_run [10] 100 oX5_goesStep.1 (Nat.le_refl _) 0 ?_
  refine ⟨_, _, m_loadOf (d + 2) g A xs act step, Nat.le_refl _, ?_⟩
  exact loop m 0 g A (by omega) rfl
end MRide
