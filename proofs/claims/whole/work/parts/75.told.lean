/-- 1: the row has each fault once -/
def hvR (t : Nat → Int32) (m : Nat) : Nat → Nat → Int32 → Int32
  | 0, _, _ => 1
  | k + 1, i, sn => if 0 ≤ t i ∧ t i < nI m then (if (sn >>> (t i &&& 31)) &&& 1 = 0 then hvR t m k (i + 1) (sn ||| ((1 : Int32) <<< (t i &&& 31))) else 0) else 0
theorem hv_01 (t : Nat → Int32) (m : Nat) : ∀ (k i : Nat) (sn : Int32), hvR t m k i sn = 0 ∨ hvR t m k i sn = 1 := by
  intro k
  induction k with
  | zero => intro i sn; exact Or.inr rfl
  | succ k ih =>
    intro i sn
    unfold hvR
    split
    · split
      · exact ih _ _
      · exact Or.inl rfl
    · exact Or.inl rfl
theorem hv_ok {t : Nat → Int32} {m : Nat} : ∀ (k i : Nat) (sn : Int32), hvR t m k i sn = 1 → ∀ j, i ≤ j → j < i + k → 0 ≤ t j ∧ t j < nI m := by
  intro k
  induction k with
  | zero => intro i sn _ j h1 h2; omega
  | succ k ih =>
    intro i sn h j h1 h2
    unfold hvR at h
    by_cases c1 : 0 ≤ t i ∧ t i < nI m
    · rw [if_pos c1] at h
      by_cases c2 : (sn >>> (t i &&& 31)) &&& 1 = 0
      · rw [if_pos c2] at h
        by_cases e : j = i
        · rw [e]; exact c1
        · exact ih _ _ h j (by omega) (by omega)
      · rw [if_neg c2] at h
        exact absurd h (by decide)
    · rw [if_neg c1] at h
      exact absurd h (by decide)
set_option maxRecDepth 100000 in
theorem x_told {m n : Nat} (d : Nat) (mb : Nat → AB) (x a : mA) (f : mF) (t : Nat → Int32) (exm : x 17 5 = nI m) (hm : m ≤ 8) (ex6 : x 13 10 = nI n) (hn : n ≤ 8) (ht : ∀ k, k < n → t k = a 47 k) : ab_Ex (d + 2) 0 yX4_isToldEachFaultOnce [vR 13 0] (hX mb x a f) (some (vI (if n = m then hvR t m n 0 0 else 0))) (hX mb x a f) := by
  refine ab_meth oX4_isToldEachFaultOnce (d + 1) _ _ _ _ (Nat.le_refl _) rfl (fun E => ?_)
  by_cases hnm : n = m
  · rw [if_pos hnm]
    obtain ⟨R, hR⟩ : ∃ R : Int32, R = hvR t m n 0 0 := ⟨_, rfl⟩
    have loop : ∀ (k i : Nat) (sn : Int32), i + k = n → R = hvR t m k i sn → ab_W jX4_isToldEachFaultOnce (d + 1) E (hX mb x a f) 70 (fun v1 h1 => v1 = some (vI R) ∧ h1 = hX mb x a f) (ab_at iX4_isToldEachFaultOnce 20) [(2, vI (nI i)), (1, vI sn), (0, vR 13 0)] [] (hX mb x a f) := by
      intro k
      induction k with
      | zero =>
        intro i sn hi hR
        refine ab_run [20] 100 oX4_isToldEachFaultOnce.1 (Nat.le_refl _) 20 ?_
        refine ⟨fun _ => ⟨Or.inr rfl, ?_, rfl⟩, fun (c1 : ¬ x 13 10 ≤ nI i) => ?_⟩
        · rw [hR]
          rfl
        · rw [ex6] at c1
          exact absurd (nI_le (by omega) (by omega)) c1
      | succ k ih =>
        intro i sn hi hR
        have hti := ht i (by omega)
        unfold hvR at hR
        refine ab_run [20] 100 oX4_isToldEachFaultOnce.1 (Nat.le_refl _) 20 ?_
        refine ⟨fun (c1 : x 13 10 ≤ nI i) => ?_, fun _ => ?_⟩
        · rw [ex6] at c1
          exact absurd c1 (nI_lt_m (by omega) (by omega))
        refine ⟨(vp_in_nI (by omega) (by omega) : vp_in (nI i) 8), ?_⟩
        rw [nI_clamp (by omega)]
        have hF := x_isFault d mb x a f (a 47 i)
        rw [exm] at hF
        refine ⟨_, _, hF, Nat.le_refl _, ?_⟩
        refine br_z (fun c2 => ?_) (fun c2 => ?_)
        · rw [hti, if_neg c2] at hR
          rw [hR]
          exact ⟨Or.inl rfl, rfl, rfl⟩
        rw [hti, if_pos c2] at hR
        refine ⟨(vp_in_nI (by omega) (by omega) : vp_in (nI i) 8), ?_⟩
        rw [nI_clamp (by omega)]
        refine ⟨fun c3 => ?_, fun c3 => ?_⟩
        · rw [if_pos c3] at hR
          refine ⟨(vp_in_nI (by omega) (by omega) : vp_in (nI i) 8), ?_⟩
          rw [nI_clamp (by omega)]
          have h9 := ih (i + 1) _ (by omega) hR
          rw [nI_succ] at h9
          exact h9
        · rw [if_neg c3] at hR
          rw [hR]
          exact ⟨Or.inl rfl, rfl, rfl⟩
    rw [← hR]
    refine ab_run [20] 100 oX4_isToldEachFaultOnce.1 (Nat.le_refl _) 0 ?_
    refine ⟨fun _ => ?_, fun (c : ¬ x 13 10 = x 17 5) => absurd (by rw [ex6, exm, hnm]) c⟩
    exact loop n 0 0 (by omega) hR
  · rw [if_neg hnm]
    refine ab_run [20] 100 oX4_isToldEachFaultOnce.1 (Nat.le_refl _) 0 ?_
    refine ⟨fun (c : x 13 10 = x 17 5) => ?_, fun _ => ⟨Or.inl rfl, rfl, rfl⟩⟩
    rw [ex6, exm] at c
    exact absurd ((nI_eq (by omega) (by omega)).mp c) hnm
set_option maxRecDepth 100000 in
theorem m_told {m n : Nat} (g : mG) (A : mA) (xs : List AB) (em : A 2 3 = nI m) (hm : m ≤ 8) (e6 : g 24 = nI n) (hn : n ≤ 8) (h0 : AH) (E : Nat × (Nat → Int32)) (Q : Option AV → AH → Prop) (hk : ∀ w3 w1 : Int32, ab_W jX5_held 39 E h0 70 Q (ab_at iX5_held 88) [(3, vI w3), (2, vI (if n = m then hvR (A 12) m n 0 0 else 0)), (1, vI w1), (0, vR 0 0)] [] (hM g A xs)) : ab_W jX5_held 39 E h0 70 Q (ab_at iX5_held 0) [(0, vR 0 0)] [] (hM g A xs) := by
  -- behind a wrong one
  have out : ∀ (i : Nat) (sn : Int32), (if n = m then hvR (A 12) m n 0 0 else 0) = 0 → ab_W jX5_held 39 E h0 70 Q (ab_at iX5_held 23) [(3, vI (nI i)), (2, vI 0), (1, vI sn), (0, vR 0 0)] [] (hM g A xs) := by
    intro i sn hz
    have hk := hk (nI i) sn
    rw [hz] at hk
    refine ab_run [23, 88] 100 oX5_held.1 (Nat.le_refl _) 23 ?_
    exact ⟨fun _ => hk, fun _ => ⟨fun _ => hk, fun c => absurd rfl c⟩⟩
  by_cases hnm : n = m
  · rw [if_pos hnm] at hk out
    have loop : ∀ (k i : Nat) (sn : Int32), i + k = n → hvR (A 12) m n 0 0 = hvR (A 12) m k i sn → ab_W jX5_held 39 E h0 70 Q (ab_at iX5_held 23) [(3, vI (nI i)), (2, vI 1), (1, vI sn), (0, vR 0 0)] [] (hM g A xs) := by
      generalize hvR (A 12) m n 0 0 = R at hk out
      intro k
      induction k with
      | zero =>
        intro i sn hi hR
        have hR : R = 1 := hR
        rw [hR] at hk
        refine ab_run [23, 88] 100 oX5_held.1 (Nat.le_refl _) 23 ?_
        refine ⟨fun _ => hk (nI i) sn, fun (c1 : ¬ g 24 ≤ nI i) => ?_⟩
        rw [e6] at c1
        exact absurd (nI_le (by omega) (by omega)) c1
      | succ k ih =>
        intro i sn hi hR
        unfold hvR at hR
        refine ab_run [23, 88] 100 oX5_held.1 (Nat.le_refl _) 23 ?_
        refine ⟨fun (c1 : g 24 ≤ nI i) => ?_, fun _ => ?_⟩
        · rw [e6] at c1
          exact absurd c1 (nI_lt_m (by omega) (by omega))
        refine ⟨fun c => absurd c (by decide), fun _ => ?_⟩
        refine ⟨(vp_in_nI (by omega) (by omega) : vp_in (nI i) 8), ?_⟩
        rw [nI_clamp (by omega)]
        have hF := m_isFault 37 g A xs (A 12 i)
        rw [em] at hF
        refine ⟨_, _, hF, Nat.le_refl _, ?_⟩
        refine br_z (fun c2 => ?_) (fun c2 => ?_)
        · rw [if_neg c2] at hR
          refine ⟨fun _ => ?_, fun c => absurd rfl c⟩
          have h9 := out (i + 1) sn hR
          rw [nI_succ] at h9
          exact ab_W_lv (lv_pk [0, 1, 2, 3] rfl) h9
        rw [if_pos c2] at hR
        refine ⟨(vp_in_nI (by omega) (by omega) : vp_in (nI i) 8), ?_⟩
        rw [nI_clamp (by omega)]
        refine ⟨fun c3 => ?_, fun c3 => ?_⟩
        · rw [if_neg c3] at hR
          refine ⟨fun _ => ?_, fun c => absurd rfl c⟩
          have h9 := out (i + 1) sn hR
          rw [nI_succ] at h9
          exact ab_W_lv (lv_pk [0, 1, 2, 3] rfl) h9
        · rw [if_pos c3] at hR
          refine ⟨fun c => absurd c (by decide), fun _ => ?_⟩
          refine ⟨(vp_in_nI (by omega) (by omega) : vp_in (nI i) 8), ?_⟩
          rw [nI_clamp (by omega)]
          have h9 := ih (i + 1) _ (by omega) hR
          rw [nI_succ] at h9
          exact ab_W_lv (lv_pk [0, 2, 1, 3] rfl) h9
    refine ab_run [23, 88] 100 oX5_held.1 (Nat.le_refl _) 0 ?_
    refine ⟨vp_d rfl, fun (c : ¬ g 24 = A 2 3) => absurd (by rw [e6, em, hnm]) c, fun _ => ?_⟩
    exact loop n 0 0 (by omega) rfl
  · refine ab_run [23, 88] 100 oX5_held.1 (Nat.le_refl _) 0 ?_
    refine ⟨vp_d rfl, fun _ => ?_, fun (c : g 24 = A 2 3) => ?_⟩
    · exact out 0 0 (if_neg hnm)
    · rw [e6, em] at c
      exact absurd ((nI_eq (by omega) (by omega)).mp c) hnm
