section Comes
variable (d : Nat) (g : mG) (A : mA) (xs : List AB) (T : Nat → Int32) (p : Nat)
set_option maxRecDepth 100000 in
theorem m_tkF : ab_Ex (d + 2) 0 yX5_comes [vR 0 0, vI 102] (mH g A xs T p) (some (vI (bI (20 ≤ T 0 ∧ T 0 ≤ 60)))) (mH g (mS A 4 (upd (A 4) 0 (T 0))) xs T p) := by
  refine ab_meth oX5_comes (d + 1) _ _ _ _ (Nat.le_refl _) rfl (fun E => ?_)
  refine ab_run [] 100 oX5_comes.1 (Nat.le_refl _) 0 ?_
  refine ⟨vp_d rfl, ?_⟩
  refine ⟨fun _ => ?_, fun z => absurd rfl z⟩
  refine ⟨vp_d rfl, ?_⟩
  refine ⟨_, _, m_between d _ (Nat.le_refl _) _ _ _, Nat.le_refl _, ?_⟩
  exact ⟨bI_01 _, rfl, rfl⟩
set_option maxRecDepth 100000 in
theorem m_tkK : ab_Ex (d + 2) 0 yX5_comes [vR 0 0, vI 107] (mH g A xs T p) (some (vI (bI (60 ≤ T 0 ∧ T 0 ≤ 140)))) (mH g (mS A 4 (upd (A 4) 1 (T 0))) xs T p) := by
  refine ab_meth oX5_comes (d + 1) _ _ _ _ (Nat.le_refl _) rfl (fun E => ?_)
  refine ab_run [] 100 oX5_comes.1 (Nat.le_refl _) 0 ?_
  refine ⟨vp_d rfl, ?_⟩
  refine ⟨fun z => absurd z (by decide), fun _ => ?_⟩
  refine ⟨fun _ => ?_, fun z => absurd rfl z⟩
  refine ⟨vp_d rfl, ?_⟩
  refine ⟨_, _, m_between d _ (Nat.le_refl _) _ _ _, Nat.le_refl _, ?_⟩
  exact ⟨bI_01 _, rfl, rfl⟩
set_option maxRecDepth 100000 in
theorem m_tkR1 {k : Nat} (hk : k < 5) (h2 : A 4 2 = nI k) (hv : 10 ≤ T 0 ∧ T 0 ≤ 40) : ab_Ex (d + 2) 0 yX5_comes [vR 0 0, vI 114] (mH g A xs T p) (some (vI 1)) (mH g (mS A 4 (upd (upd (A 4) (11 + k) (T 0)) 2 (nI (k + 1)))) xs T p) := by
  have hb := m_between d (mH g A xs T p) (Nat.le_refl _) (T 0) 10 40
  rw [bI_t hv] at hb
  have e : 11 + A 4 2 = nI (11 + k) := by
    rw [h2]
    exact nI_add 11 k
  refine ab_meth oX5_comes (d + 1) _ _ _ _ (Nat.le_refl _) rfl (fun E => ?_)
  refine ab_run [] 100 oX5_comes.1 (Nat.le_refl _) 0 ?_
  refine ⟨vp_d rfl, ?_⟩
  refine ⟨fun z => absurd z (by decide), fun _ => ?_⟩
  refine ⟨fun z => absurd z (by decide), fun _ => ?_⟩
  refine ⟨fun _ => ?_, fun z => absurd rfl z⟩
  refine ⟨_, _, hb, Nat.le_refl _, ?_⟩
  refine ⟨fun z => absurd z (show ¬ (1 : Int32) = 0 by decide), fun _ => ?_⟩
  refine ⟨vp_d rfl, ?_⟩
  refine ⟨fun _ => ?_, fun (z : A 4 2 = 5) => absurd (h2.symm.trans z) (fun q => absurd ((nI_eq (b := 5) (by omega) (by omega)).mp q) (by omega))⟩
  refine ⟨vp_d rfl, ?_⟩
  refine ⟨(by rw [e]; exact vp_in_nI (by omega) (by omega) : vp_in (11 + A 4 2) 112), ?_⟩
  refine ⟨vp_d rfl, ?_⟩
  refine ⟨vp_d rfl, ?_⟩
  refine ⟨Or.inr rfl, rfl, ?_⟩
  show hM (upd g 8 (nI p)) (mS (mS A 6 T) 4 (upd (upd (A 4) (11 + A 4 2).toNatClampNeg (T 0)) 2 (upd (A 4) (11 + A 4 2).toNatClampNeg (T 0) 2 + 1))) xs = _
  rw [e, nI_clamp (by omega), upd_ne (show 2 ≠ 11 + k by omega), h2, nI_succ]
  rfl
set_option maxRecDepth 100000 in
theorem m_tkR0 {k : Nat} (hk : k ≤ 5) (h2 : A 4 2 = nI k) (h : ¬ (k < 5 ∧ 10 ≤ T 0 ∧ T 0 ≤ 40)) : ab_Ex (d + 2) 0 yX5_comes [vR 0 0, vI 114] (mH g A xs T p) (some (vI 0)) (mH g A xs T p) := by
  have hb := m_between d (mH g A xs T p) (Nat.le_refl _) (T 0) 10 40
  refine ab_meth oX5_comes (d + 1) _ _ _ _ (Nat.le_refl _) rfl (fun E => ?_)
  refine ab_run [] 100 oX5_comes.1 (Nat.le_refl _) 0 ?_
  refine ⟨vp_d rfl, ?_⟩
  refine ⟨fun z => absurd z (by decide), fun _ => ?_⟩
  refine ⟨fun z => absurd z (by decide), fun _ => ?_⟩
  refine ⟨fun _ => ?_, fun z => absurd rfl z⟩
  refine ⟨_, _, hb, Nat.le_refl _, ?_⟩
  refine br_z (fun c => ⟨Or.inl rfl, rfl, rfl⟩) (fun c => ?_)
  refine ⟨vp_d rfl, ?_⟩
  refine ⟨fun (z : ¬ A 4 2 = 5) => ?_, fun _ => ⟨Or.inl rfl, rfl, rfl⟩⟩
  refine absurd ⟨?_, c⟩ h
  rcases Nat.lt_or_ge k 5 with q | q
  · exact q
  · exact absurd (h2.trans (by rw [show k = 5 by omega]; rfl)) z
/-- a fault's entry told i numbers -/
def ent (s T : Nat → Int32) (b i : Nat) : Nat → Int32 := fun k => if b ≤ k ∧ k < b + i then T (k - b) else s k
theorem ent_0 (s T : Nat → Int32) (b : Nat) : ent s T b 0 = s := by
  funext k
  exact if_neg (by omega)
theorem ent_s (s T : Nat → Int32) (b i : Nat) : upd (ent s T b i) (b + i) (T i) = ent s T b (i + 1) := by
  funext k
  by_cases q : k = b + i
  · rw [q, upd_at]
    unfold ent
    rw [if_pos (by omega), show b + i - b = i by omega]
  · rw [upd_ne q]
    unfold ent
    by_cases q2 : b ≤ k ∧ k < b + i
    · rw [if_pos q2, if_pos (by omega)]
    · rw [if_neg q2, if_neg (by omega)]
def qN (s T : Nat → Int32) (m : Nat) : Nat → Int32 := upd (upd (upd (ent s T (16 + 9 * m) 7) (16 + 9 * m + 7) 0) (16 + 9 * m + 8) 1) 3 (nI (m + 1))
def tQ (T : Nat → Int32) : Prop := 1 ≤ T 3 ∧ 1 ≤ T 4 ∧ (1 ≤ T 5 ∧ T 5 ≤ 20) ∧ 1 ≤ T 6 ∧ T 6 ≤ 20
set_option maxRecDepth 100000 in
theorem m_tkQ1 {m : Nat} (hm : m < 8) (h3 : A 4 3 = nI m) (hq : tQ T) : ab_Ex (d + 2) 0 yX5_comes [vR 0 0, vI 113] (mH g A xs T p) (some (vI 1)) (mH g (mS A 4 (qN (A 4) T m)) xs T p) := by
  obtain ⟨q3, q4, q5, q6⟩ := hq
  have hb5 := m_between d (mH g A xs T p) (Nat.le_refl _) (T 5) 1 20
  have hb6 := m_between d (mH g A xs T p) (Nat.le_refl _) (T 6) 1 20
  rw [bI_t q5] at hb5
  rw [bI_t q6] at hb6
  have e : 16 + 9 * A 4 3 = nI (16 + 9 * m) := by
    rw [h3, show (16 : Int32) = nI 16 from rfl, show (9 : Int32) = nI 9 from rfl, pk_mul, nI_add]
  obtain ⟨b, hb⟩ : ∃ b, b = 16 + 9 * m := ⟨_, rfl⟩
  rw [← hb] at e
  have loop : ∀ (r i : Nat), i + r = 7 → ∀ (E : Nat × (Nat → Int32)) (h0 : AH) (Q : Option AV → AH → Prop), ab_W jX5_comes (d + 1) E h0 70 Q (ab_at iX5_comes 236) [(4, vI (nI 7)), (3, vI (nI b)), (2, vI (T 0)), (0, vR 0 0), (1, vI 113)] [] (mH g (mS A 4 (ent (A 4) T b 7)) xs T p) → ab_W jX5_comes (d + 1) E h0 70 Q (ab_at iX5_comes 207) [(4, vI (nI i)), (3, vI (nI b)), (2, vI (T 0)), (0, vR 0 0), (1, vI 113)] [] (mH g (mS A 4 (ent (A 4) T b i)) xs T p) := by
    intro r
    induction r with
    | zero =>
      intro i hi E h0 Q hQ
      rw [show i = 7 by omega]
      refine ab_run [207, 236] 100 oX5_comes.1 (Nat.le_refl _) 207 ?_
      exact ⟨fun _ => hQ, fun z => absurd (show nI 7 ≤ nI 7 by decide) z⟩
    | succ r ih =>
      intro i hi E h0 Q hQ
      have h9 := ih (i + 1) (by omega) E h0 Q hQ
      rw [nI_succ, ← ent_s (A 4) T b i] at h9
      refine ab_run [207, 236] 100 oX5_comes.1 (Nat.le_refl _) 207 ?_
      refine ⟨fun z => absurd z (nI_lt_m (m := 7) (by omega) (by omega)), fun _ => ?_⟩
      refine ⟨(vp_in_nI (by omega) (by omega) : vp_in (nI i) 7), ?_⟩
      refine ⟨(by rw [nI_add]; exact vp_in_nI (by omega) (by omega) : vp_in (nI b + nI i) 112), ?_⟩
      rw [nI_add, nI_clamp (by omega), nI_clamp (by omega)]
      exact h9
  refine ab_meth oX5_comes (d + 1) _ _ _ _ (Nat.le_refl _) rfl (fun E => ?_)
  have tail : ab_W jX5_comes (d + 1) E (mH g A xs T p) 70 (fun v1 h1 => v1 = some (vI 1) ∧ h1 = mH g (mS A 4 (qN (A 4) T m)) xs T p) (ab_at iX5_comes 236) [(4, vI (nI 7)), (3, vI (nI b)), (2, vI (T 0)), (0, vR 0 0), (1, vI 113)] [] (mH g (mS A 4 (ent (A 4) T b 7)) xs T p) := by
    have e7 : nI b + 7 = nI (b + 7) := nI_add b 7
    have e8 : nI b + 8 = nI (b + 8) := nI_add b 8
    have e3 : ent (A 4) T b 7 3 = nI m := (if_neg (by omega)).trans h3
    unfold qN
    rw [← hb]
    generalize ent (A 4) T b 7 = s at e3
    refine ab_run [236] 100 oX5_comes.1 (Nat.le_refl _) 236 ?_
    refine ⟨(by rw [e7]; exact vp_in_nI (by omega) (by omega) : vp_in (nI b + 7) 112), ?_⟩
    refine ⟨(by rw [e8]; exact vp_in_nI (by omega) (by omega) : vp_in (nI b + 8) 112), ?_⟩
    refine ⟨vp_d rfl, ?_⟩
    refine ⟨vp_d rfl, ?_⟩
    refine ⟨Or.inr rfl, rfl, ?_⟩
    show hM (upd g 8 (nI p)) (mS (mS A 6 T) 4 (upd (upd (upd s (nI b + 7).toNatClampNeg 0) (nI b + 8).toNatClampNeg 1) 3 (upd (upd s (nI b + 7).toNatClampNeg 0) (nI b + 8).toNatClampNeg 1 3 + 1))) xs = _
    rw [e7, e8, nI_clamp (by omega), nI_clamp (by omega), upd_ne (show 3 ≠ b + 8 by omega), upd_ne (show 3 ≠ b + 7 by omega), e3, nI_succ]
    rfl
  have l7 := loop 7 0 (by omega) E (mH g A xs T p) _ tail
  rw [ent_0, mS_id, ← e] at l7
  refine ab_run [207] 100 oX5_comes.1 (Nat.le_refl _) 0 ?_
  refine ⟨vp_d rfl, ?_⟩
  refine ⟨fun z => absurd z (by decide), fun _ => ?_⟩
  refine ⟨fun z => absurd z (by decide), fun _ => ?_⟩
  refine ⟨fun z => absurd z (by decide), fun _ => ?_⟩
  refine ⟨vp_d rfl, ?_⟩
  refine ⟨fun (z : T 3 < 1) => absurd q3 (Int32.not_le.mpr z), fun _ => ?_⟩
  refine ⟨vp_d rfl, ?_⟩
  refine ⟨fun (z : T 4 < 1) => absurd q4 (Int32.not_le.mpr z), fun _ => ?_⟩
  refine ⟨vp_d rfl, ?_⟩
  refine ⟨_, _, hb5, Nat.le_refl _, ?_⟩
  refine ⟨fun z => absurd z (show ¬ (1 : Int32) = 0 by decide), fun _ => ?_⟩
  refine ⟨vp_d rfl, ?_⟩
  refine ⟨_, _, hb6, Nat.le_refl _, ?_⟩
  refine ⟨fun z => absurd z (show ¬ (1 : Int32) = 0 by decide), fun _ => ?_⟩
  refine ⟨vp_d rfl, ?_⟩
  refine ⟨fun _ => ?_, fun (z : A 4 3 = 8) => absurd (h3.symm.trans z) (fun q => absurd ((nI_eq (b := 8) (by omega) (by omega)).mp q) (by omega))⟩
  refine ⟨vp_d rfl, ?_⟩
  exact l7
set_option maxRecDepth 100000 in
theorem m_tkQ0 {m : Nat} (hm : m ≤ 8) (h3 : A 4 3 = nI m) (hq : ¬ (m < 8 ∧ tQ T)) : ab_Ex (d + 2) 0 yX5_comes [vR 0 0, vI 113] (mH g A xs T p) (some (vI 0)) (mH g A xs T p) := by
  have hb5 := m_between d (mH g A xs T p) (Nat.le_refl _) (T 5) 1 20
  have hb6 := m_between d (mH g A xs T p) (Nat.le_refl _) (T 6) 1 20
  refine ab_meth oX5_comes (d + 1) _ _ _ _ (Nat.le_refl _) rfl (fun E => ?_)
  refine ab_run [207] 100 oX5_comes.1 (Nat.le_refl _) 0 ?_
  refine ⟨vp_d rfl, ?_⟩
  refine ⟨fun z => absurd z (by decide), fun _ => ?_⟩
  refine ⟨fun z => absurd z (by decide), fun _ => ?_⟩
  refine ⟨fun z => absurd z (by decide), fun _ => ?_⟩
  refine ⟨vp_d rfl, ?_⟩
  refine ⟨fun _ => ⟨Or.inl rfl, rfl, rfl⟩, fun (q3 : ¬ T 3 < 1) => ?_⟩
  refine ⟨vp_d rfl, ?_⟩
  refine ⟨fun _ => ⟨Or.inl rfl, rfl, rfl⟩, fun (q4 : ¬ T 4 < 1) => ?_⟩
  refine ⟨vp_d rfl, ?_⟩
  refine ⟨_, _, hb5, Nat.le_refl _, ?_⟩
  refine br_z (fun _ => ⟨Or.inl rfl, rfl, rfl⟩) (fun q5 => ?_)
  refine ⟨vp_d rfl, ?_⟩
  refine ⟨_, _, hb6, Nat.le_refl _, ?_⟩
  refine br_z (fun _ => ⟨Or.inl rfl, rfl, rfl⟩) (fun q6 => ?_)
  refine ⟨vp_d rfl, ?_⟩
  refine ⟨fun (z : ¬ A 4 3 = 8) => ?_, fun _ => ⟨Or.inl rfl, rfl, rfl⟩⟩
  refine absurd ⟨?_, Int32.not_lt.mp q3, Int32.not_lt.mp q4, q5, q6⟩ hq
  rcases Nat.lt_or_ge m 8 with q | q
  · exact q
  · exact absurd (h3.trans (by rw [show m = 8 by omega]; rfl)) z
end Comes
