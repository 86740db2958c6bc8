def nsN (t : Nat → Nat) : Nat → Nat
  | 0 => 0
  | i + 1 => nsN t i + t i
theorem bx_nat {u : Nat → Int32} {t : Nat → Nat} : ∀ m : Nat, (∀ i, i < m → u i = nI (t i)) → bx_sum u m = nI (nsN t m) := by
  intro m
  induction m with
  | zero => intro _; exact nI_0.symm
  | succ m ih =>
    intro h
    show bx_sum u m + u m = nI (nsN t m + t m)
    rw [ih (fun i hi => h i (by omega)), h m (by omega), nI_add]
theorem nsN_le {t : Nat → Nat} : ∀ m : Nat, (∀ i, i < m → t i ≤ 99) → nsN t m ≤ 99 * m := by
  intro m
  induction m with
  | zero => intro _; exact Nat.le_refl _
  | succ m ih =>
    intro h
    have h1 := ih (fun i hi => h i (by omega))
    have h2 := h m (by omega)
    show nsN t m + t m ≤ _
    omega
theorem nsN_ge {t : Nat → Nat} {j : Nat} : ∀ m : Nat, j < m → t j ≤ nsN t m := by
  intro m
  induction m with
  | zero => intro h; exact absurd h (Nat.not_lt_zero j)
  | succ m ih =>
    intro h
    show t j ≤ nsN t m + t m
    by_cases q : j = m
    · rw [q]; omega
    · have := ih (by omega)
      omega
theorem rem0 {a q : Nat} (ha : a < 2 ^ 31) (hq0 : 0 < q) (hq : q < 2 ^ 31) : ab_rem (nI a) (nI q) = 0 ↔ q ∣ a := by
  have e : ab_rem (nI a) (nI q) = nI (a % q) := pk_rem ha hq0 hq
  have hm := Nat.mod_lt a hq0
  rw [e, ← nI_0, nI_eq (by omega) (by omega)]
  exact ⟨Nat.dvd_of_mod_eq_zero, Nat.mod_eq_zero_of_dvd⟩
set_option maxRecDepth 100000 in
theorem x_leastTerm (d : Nat) (h : AH) (h70 : h.1 ≤ 70) {u v : Nat} (hu : u ≤ 1000) (hv1 : 1 ≤ v) (hv : v ≤ 1000) (part : Int32) : ab_Ex (d + 1) 1 yX4_leastTerm [vI (nI u), vI (nI v), vI part] h (some (vI (nI ((if part = 0 then u else v) / Nat.gcd u v)))) h := by
  refine ab_meth oX4_leastTerm d _ _ _ _ (Nat.le_refl _) rfl (fun E => ?_)
  have loop : ∀ (T : Nat), T ≤ 1000 → ∀ (q : Nat), q ≤ v → (∀ q', q < q' → q' ≤ v → ¬ (q' ∣ u ∧ q' ∣ v)) → ab_W jX4_leastTerm d E h h.1 (fun v1 h1 => v1 = some (vI (nI (T / Nat.gcd u v))) ∧ h1 = h) (ab_at iX4_leastTerm 13) [(4, vI (nI q)), (3, vI (nI T)), (0, vI (nI u)), (1, vI (nI v)), (2, vI part)] [] h := by
    intro T hT q
    have hg1 := Nat.gcd_dvd_left u v
    have hg2 := Nat.gcd_dvd_right u v
    have hg0 : 0 < Nat.gcd u v := Nat.gcd_pos_of_pos_right u (by omega)
    have hgv : Nat.gcd u v ≤ v := Nat.le_of_dvd (by omega) hg2
    induction q with
    | zero =>
      intro _ hI
      exact absurd ⟨hg1, hg2⟩ (hI _ hg0 hgv)
    | succ q ih =>
      intro hq hI
      have hgq : Nat.gcd u v ≤ q + 1 := Nat.le_of_not_lt (fun z => hI _ z hgv ⟨hg1, hg2⟩)
      refine ab_run [13] 100 oX4_leastTerm.1 h70 13 ?_
      refine ⟨fun c1 => ?_, fun c1 => ?_⟩
      · have c1 := (nI_leI (a := q + 1) (b := 1) (by omega) (by omega)).mp c1
        rw [show Nat.gcd u v = 1 by omega, Nat.div_one]
        exact ⟨rfl, rfl⟩
      have c1 : ¬ q + 1 ≤ 1 := fun z => c1 ((nI_leI (a := q + 1) (b := 1) (by omega) (by omega)).mpr z)
      have nz : ¬ nI (q + 1) = 0 := nI_ne0 (by omega) (by omega)
      have r1 := rem0 (a := u) (q := q + 1) (by omega) (by omega) (by omega)
      have r2 := rem0 (a := v) (q := q + 1) (by omega) (by omega) (by omega)
      have nxt : ¬ (q + 1 ∣ u ∧ q + 1 ∣ v) → ab_W jX4_leastTerm d E h h.1 (fun v1 h1 => v1 = some (vI (nI (T / Nat.gcd u v))) ∧ h1 = h) (ab_at iX4_leastTerm 13) [(4, vI (nI (q + 1) + (-1))), (3, vI (nI T)), (0, vI (nI u)), (1, vI (nI v)), (2, vI part)] [] h := by
        intro hn
        rw [pk_m1]
        refine ih (by omega) (fun q' h1 h2 => ?_)
        by_cases e : q' = q + 1
        · rw [e]; exact hn
        · exact hI q' (by omega) h2
      refine ⟨nz, ?_⟩
      refine ⟨fun c2 => nxt (fun z => c2 (r1.mpr z.1)), fun c2 => ?_⟩
      refine ⟨nz, ?_⟩
      refine ⟨fun c3 => nxt (fun z => c3 (r2.mpr z.2)), fun c3 => ?_⟩
      refine ⟨nz, ?_⟩
      have hq1 : q + 1 ≤ Nat.gcd u v := Nat.le_of_dvd hg0 (Nat.dvd_gcd (r1.mp c2) (r2.mp c3))
      rw [pk_div (by omega) (by omega) (by omega), show Nat.gcd u v = q + 1 by omega]
      exact ⟨rfl, rfl⟩
  refine ab_run [13] 100 oX4_leastTerm.1 h70 0 ?_
  refine ⟨fun c1 => ?_, fun c1 => ?_⟩
  · rw [if_neg c1]
    exact loop v hv v (Nat.le_refl _) (fun q' h1 h2 => by omega)
  · rw [if_pos c1]
    exact loop u hu v (Nat.le_refl _) (fun q' h1 h2 => by omega)
theorem m_cstep (D : Nat) (h : AH) (h70 : h.1 ≤ 70) {a b : Nat} (ha : a ≤ 1000) (hb : b ≤ 1000) (hc : 0 < b → ab_Ex D 1 yX5_common [vI (nI b), vI (nI (a % b))] h (some (vI (nI (Nat.gcd b (a % b))))) h) : ab_Ex (D + 1) 1 yX5_common [vI (nI a), vI (nI b)] h (some (vI (nI (Nat.gcd a b)))) h := by
  refine ab_meth oX5_common D _ _ _ _ (Nat.le_refl _) rfl (fun E => ?_)
  refine ab_run [] 100 oX5_common.1 h70 0 ?_
  refine ⟨fun c1 => ?_, fun c1 => ?_⟩
  · have hb0 : 0 < b := Nat.pos_of_ne_zero (fun z => c1 (by rw [z]; exact nI_0))
    refine ⟨c1, ?_⟩
    have e : ab_rem (nI a) (nI b) = nI (a % b) := pk_rem (by omega) hb0 (by omega)
    rw [e]
    refine ⟨_, _, hc hb0, Nat.le_refl _, ?_⟩
    rw [show Nat.gcd a b = Nat.gcd b (a % b) by rw [Nat.gcd_comm a b, Nat.gcd_rec b a, Nat.gcd_comm]]
    exact ⟨rfl, rfl⟩
  · have hb0 : b = 0 := by
      by_cases z : b = 0
      · exact z
      · exact absurd c1 (nI_ne0 (by omega) (by omega))
    subst hb0
    rw [Nat.gcd_zero_right]
    exact ⟨rfl, rfl⟩
theorem m_common (d : Nat) (h : AH) (h70 : h.1 ≤ 70) : ∀ (k a b : Nat), a ≤ 1000 → b ≤ 1000 → b < 2 ^ k → ab_Ex (d + 2 * k + 1) 1 yX5_common [vI (nI a), vI (nI b)] h (some (vI (nI (Nat.gcd a b)))) h := by
  intro k
  induction k with
  | zero =>
    intro a b ha hb hk
    refine m_cstep _ h h70 ha hb (fun z => absurd hk (by rw [Nat.pow_zero]; omega))
  | succ k ih =>
    intro a b ha hb hk
    rw [Nat.pow_succ] at hk
    refine m_cstep (d + 2 * (k + 1)) h h70 ha hb (fun hb0 => ?_)
    have hr := Nat.mod_lt a hb0
    refine m_cstep (d + 2 * k + 1) h h70 hb (by omega) (fun hr0 => ?_)
    have hr2 := Nat.mod_lt b hr0
    have hdm := Nat.div_add_mod b (a % b)
    have hd1 : 1 ≤ b / (a % b) := (Nat.one_le_div_iff hr0).mpr (by omega)
    have hmul := Nat.mul_le_mul (Nat.le_refl (a % b)) hd1
    exact ih (a % b) (b % (a % b)) (by omega) (by omega) (by omega)
theorem m_partOf (d : Nat) (g : mG) (A : mA) (xs : List AB) {u v : Nat} (hu : u ≤ 1000) (hv1 : 1 ≤ v) (hv : v ≤ 1000) (part : Int32) : ab_Ex (d + 22) 0 yX5_partOf [vR 0 0, vI (nI u), vI (nI v), vI part] (hM g A xs) (some (vI (nI ((if part = 0 then u else v) / Nat.gcd u v)))) (hM g A xs) := by
  refine ab_meth oX5_partOf (d + 21) _ _ _ _ (Nat.le_refl _) rfl (fun E => ?_)
  refine ab_run [] 100 oX5_partOf.1 (Nat.le_refl _) 0 ?_
  have hc := m_common d (hM g A xs) (Nat.le_refl _) 10 v u hv hu (by have : (2 : Nat) ^ 10 = 1024 := rfl; omega)
  rw [Nat.gcd_comm v u] at hc
  have hg0 : 0 < Nat.gcd u v := Nat.gcd_pos_of_pos_right u (by omega)
  have hgv : Nat.gcd u v ≤ v := Nat.le_of_dvd (by omega) (Nat.gcd_dvd_right u v)
  have nz : ¬ nI (Nat.gcd u v) = 0 := nI_ne0 hg0 (by omega)
  refine ⟨_, _, hc, Nat.le_refl _, ?_⟩
  refine ⟨fun c1 => ⟨nz, ?_⟩, fun c1 => ⟨nz, ?_⟩⟩
  · rw [if_neg c1, pk_div (by omega) hg0 (by omega)]
    exact ⟨rfl, rfl⟩
  · rw [if_pos c1, pk_div (by omega) hg0 (by omega)]
    exact ⟨rfl, rfl⟩
