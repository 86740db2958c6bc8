/-- the form: how many statements, or none and where it breaks -/
def fmR (P : Nat → Int32) (n : Nat) : Nat → Nat → Nat → Option Nat × Nat
  | 0, p, _ => (none, p)
  | k + 1, p, i => if sK P p = 1 then (if n ≤ sP P p then (some (i + 1), sP P p) else fmR P n k (sP P p) (i + 1)) else (none, sP P p)
def fmA (r : Option Nat × Nat) : Int32 := match r.1 with
  | none => -1000 - nI r.2
  | some c => nI c
theorem stL_1 (P : Nat → Int32) (L : Nat → Int32) (p : Nat) : stL P L p 1 = L 1 := by
  unfold stL
  split
  · rfl
  · rfl
set_option maxRecDepth 100000 in
theorem x_form (d : Nat) (mb : Nat → AB) (x a : mA) (f : mF) {n : Nat} (h1 : x 14 1 = nI n) (hn : n ≤ 64) : ∃ (L' N' : Nat → Int32) (p' : Nat), L' 1 = nI n ∧ ab_Ex (d + 6) 0 yX3_checkForm [vR 14 0] (hX mb x a f) (some (vI (fmA (fmR (pk (a 15) n) n (n + 1) 0 0)))) (tH mb x a f L' N' p') := by
  have loop : ∀ (k p i : Nat) (L N : Nat → Int32), L 1 = nI n → i ≤ p → p < n → n + 1 ≤ p + k → ∃ (L' N' : Nat → Int32) (p' : Nat), L' 1 = nI n ∧ ∀ (E : Nat × (Nat → Int32)) (h0 : AH), ab_W jX3_checkForm (d + 5) E h0 70 (fun v1 h1 => v1 = some (vI (fmA (fmR (pk (a 15) n) n k p i))) ∧ h1 = tH mb x a f L' N' p') (ab_at iX3_checkForm 7) [(1, vI (nI (i + 1))), (0, vR 14 0)] [] (tH mb x a f L N p) := by
    intro k
    induction k with
    | zero => intro p i L N _ _ h2 h3; omega
    | succ k ih =>
      intro p i L N hL hi hp hk
      have hS := t_statement d mb x a f L N hL hn (p := p) (by omega)
      rw [(sK_c (pk (a 15) n) p N).1, (sK_c (pk (a 15) n) p N).2] at hS
      obtain ⟨o1, o2, o3⟩ := sP_ok (t := a 15) (n := n) (p := p) (by omega)
      obtain ⟨L1, eL1⟩ : ∃ L1, stL (pk (a 15) n) L p = L1 := ⟨_, rfl⟩
      have hL1 : L1 1 = nI n := by rw [← eL1, stL_1]; exact hL
      rw [eL1] at hS
      generalize (stmR (pk (a 15) n) p N).2.2 = N1 at hS
      have hnot : ¬ nI n < nI (i + 1) := nI_nlt (by omega) (by omega)
      unfold fmR
      rcases o1 with c | c
      · rw [if_neg (show ¬ sK (pk (a 15) n) p = 1 by rw [c]; decide)]
        refine ⟨L1, N1, sP (pk (a 15) n) p, hL1, fun E h0 => ?_⟩
        refine ab_run [7] 100 oX3_checkForm.1 (Nat.le_refl _) 7 ?_
        refine ⟨fun (z : L 1 < nI (i + 1)) => absurd z (by rw [hL]; exact hnot), fun _ => ?_⟩
        refine ⟨_, _, hS, Nat.le_refl _, ?_⟩
        refine ⟨fun z => absurd c z, fun _ => ?_⟩
        exact ⟨rfl, rfl⟩
      · rw [if_pos c]
        have o3 := o3 c
        by_cases e : n ≤ sP (pk (a 15) n) p
        · rw [if_pos e]
          refine ⟨L1, N1, sP (pk (a 15) n) p, hL1, fun E h0 => ?_⟩
          refine ab_run [7] 100 oX3_checkForm.1 (Nat.le_refl _) 7 ?_
          refine ⟨fun (z : L 1 < nI (i + 1)) => absurd z (by rw [hL]; exact hnot), fun _ => ?_⟩
          refine ⟨_, _, hS, Nat.le_refl _, ?_⟩
          refine ⟨fun _ => ?_, fun z => absurd (c.symm.trans z) (by decide)⟩
          refine ⟨fun (z : nI (sP (pk (a 15) n) p) < L1 1) => absurd z (by rw [hL1]; exact nI_nlt e (by omega)), fun _ => ?_⟩
          exact ⟨rfl, rfl⟩
        · rw [if_neg e]
          obtain ⟨L', N', p', k1, hW⟩ := ih (sP (pk (a 15) n) p) (i + 1) L1 N1 hL1 (by omega) (by omega) (by omega)
          refine ⟨L', N', p', k1, fun E h0 => ?_⟩
          have h9 := hW E h0
          rw [nI_succ (i + 1)] at h9
          refine ab_run [7] 100 oX3_checkForm.1 (Nat.le_refl _) 7 ?_
          refine ⟨fun (z : L 1 < nI (i + 1)) => absurd z (by rw [hL]; exact hnot), fun _ => ?_⟩
          refine ⟨_, _, hS, Nat.le_refl _, ?_⟩
          refine ⟨fun _ => ?_, fun z => absurd (c.symm.trans z) (by decide)⟩
          refine ⟨fun _ => ?_, fun (z : ¬ nI (sP (pk (a 15) n) p) < L1 1) => absurd (by rw [hL1]; exact nI_lt (Nat.lt_of_not_le e) (by omega)) z⟩
          exact h9
  by_cases h0 : n = 0
  · subst h0
    refine ⟨x 14, a 16, 0, h1, ?_⟩
    have hz : fmR (pk (a 15) 0) 0 (0 + 1) 0 0 = (none, 0) := by
      have e0 : pk (a 15) 0 0 = -1 := if_neg (by omega)
      have e1 : mStm (pk (a 15) 0) 0 (fun _ => 0) = (0, 0, fun _ => 0) := by
        unfold mStm
        rw [e0, if_neg (by decide), if_neg (by decide)]
      unfold fmR sK sP
      rw [e1]
      rfl
    rw [hz]
    refine ab_meth oX3_checkForm (d + 5) _ _ _ _ (Nat.le_refl _) rfl (fun E => ?_)
    refine ab_run [] 100 oX3_checkForm.1 (Nat.le_refl _) 0 ?_
    refine ⟨fun _ => ⟨rfl, rfl⟩, fun (z : ¬ x 14 1 < 1) => absurd (by rw [h1]; decide) z⟩
  · obtain ⟨L', N', p', k1, hW⟩ := loop (n + 1) 0 0 (x 14) (a 16) h1 (Nat.le_refl 0) (by omega) (by omega)
    refine ⟨L', N', p', k1, ?_⟩
    refine ab_meth oX3_checkForm (d + 5) _ _ _ _ (Nat.le_refl _) rfl (fun E => ?_)
    refine ab_run [7] 100 oX3_checkForm.1 (Nat.le_refl _) 0 ?_
    exact hW E _
set_option maxRecDepth 100000 in
theorem m_form (d : Nat) (g : mG) (A : mA) {n : Nat} (hg : g 7 = nI n) (hn : n ≤ 64) : ∀ (k p i : Nat) (T : Nat → Int32), p ≤ n → n + 1 ≤ p + k → ∃ (T' : Nat → Int32) (p' : Nat), ((fmR (pk (A 5) n) n k p i).1 = none → ∀ (xs : List AB) (E : Nat × (Nat → Int32)) (h0 : AH), ab_W jX5_reads (d + 3) E h0 70 (fun v1 h1 => v1 = some (vI (-1000 - nI (fmR (pk (A 5) n) n k p i).2)) ∧ h1 = mH g A xs T' p') (ab_at iX5_reads 7) [(1, vI (nI i)), (0, vR 0 0)] [] (mH g A xs T p)) ∧ (∀ c, (fmR (pk (A 5) n) n k p i).1 = some c → ∀ (xs : List AB) (E : Nat × (Nat → Int32)) (h0 : AH) (Q : Option AV → AH → Prop), ab_W jX5_reads (d + 3) E h0 70 Q (ab_at iX5_reads 37) [(1, vI (nI c)), (0, vR 0 0)] [] (mH g A xs T' p') → ab_W jX5_reads (d + 3) E h0 70 Q (ab_at iX5_reads 7) [(1, vI (nI i)), (0, vR 0 0)] [] (mH g A xs T p)) := by
  intro k
  induction k with
  | zero => intro p i T h2 h3; omega
  | succ k ih =>
    intro p i T hp hk
    have hS := fun xs => m_statement d g A xs T hg hn (p := p) hp
    rw [(sK_m (pk (A 5) n) p T).1, (sK_m (pk (A 5) n) p T).2] at hS
    obtain ⟨o1, o2, o3⟩ := sP_ok (t := A 5) (n := n) (p := p) hp
    generalize (mStm (pk (A 5) n) p T).2.2 = T1 at hS
    unfold fmR
    rcases o1 with c | c
    · rw [if_neg (show ¬ sK (pk (A 5) n) p = 1 by rw [c]; decide)]
      refine ⟨T1, sP (pk (A 5) n) p, fun _ xs E h0 => ?_, (fun c h => nomatch h)⟩
      refine ab_run [7, 37] 100 oX5_reads.1 (Nat.le_refl _) 7 ?_
      refine ⟨_, _, hS xs, Nat.le_refl _, ?_⟩
      refine ⟨fun z => absurd c z, fun _ => ?_⟩
      exact ⟨rfl, rfl⟩
    · rw [if_pos c]
      have o3 := o3 c
      by_cases e : n ≤ sP (pk (A 5) n) p
      · rw [if_pos e]
        refine ⟨T1, sP (pk (A 5) n) p, (fun h => nomatch h), fun c' h xs E h0 Q hQ => ?_⟩
        have hc' : i + 1 = c' := Option.some.inj h
        subst hc'
        rw [nI_succ] at hQ
        refine ab_run [7, 37] 100 oX5_reads.1 (Nat.le_refl _) 7 ?_
        refine ⟨_, _, hS xs, Nat.le_refl _, ?_⟩
        refine ⟨fun _ => ?_, fun z => absurd (c.symm.trans z) (by decide)⟩
        refine ⟨fun (z : nI (sP (pk (A 5) n) p) < g 7) => absurd z (by rw [hg]; exact nI_nlt e (by omega)), fun _ => ?_⟩
        exact hQ
      · rw [if_neg e]
        obtain ⟨T', p', k1, k2⟩ := ih (sP (pk (A 5) n) p) (i + 1) T1 (by omega) (by omega)
        have hlt : nI (sP (pk (A 5) n) p) < g 7 := by rw [hg]; exact nI_lt (Nat.lt_of_not_le e) (by omega)
        refine ⟨T', p', fun h xs E h0 => ?_, fun c' h xs E h0 Q hQ => ?_⟩
        · have h9 := k1 h xs E h0
          rw [nI_succ] at h9
          refine ab_run [7, 37] 100 oX5_reads.1 (Nat.le_refl _) 7 ?_
          refine ⟨_, _, hS xs, Nat.le_refl _, ?_⟩
          refine ⟨fun _ => ?_, fun z => absurd (c.symm.trans z) (by decide)⟩
          exact ⟨fun _ => h9, fun z => absurd hlt z⟩
        · have h9 := k2 c' h xs E h0 Q hQ
          rw [nI_succ] at h9
          refine ab_run [7, 37] 100 oX5_reads.1 (Nat.le_refl _) 7 ?_
          refine ⟨_, _, hS xs, Nat.le_refl _, ?_⟩
          refine ⟨fun _ => ?_, fun z => absurd (c.symm.trans z) (by decide)⟩
          exact ⟨fun _ => h9, fun z => absurd hlt z⟩
