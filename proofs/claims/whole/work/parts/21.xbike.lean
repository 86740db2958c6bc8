theorem ab_W_lv {j : MI} {d : Nat} {E : Nat × (Nat → Int32)} {h0 : AH} {cap : Nat} {Q : Option AV → AH → Prop} {cs : List IE} {lv lv' : Lv} {st : List AV} {h : AH} (hs : ∀ q ∈ lv', q ∈ lv) (hw : ab_W j d E h0 cap Q cs lv' st h) : ab_W j d E h0 cap Q cs lv st h := by
  intro p l ev R s m args below meth c G D cI cF Z H locs ls X hR hb1 hb2 hS hl
  refine hw p l ev R s m args below meth c G D cI cF Z H locs ls X hR hb1 hb2 hS ⟨hl.1, hl.2.1, fun q hq => ?_⟩
  obtain ⟨z, hz, rfl⟩ := List.mem_map.mp hq
  exact hl.2.2 _ (List.mem_map.mpr ⟨z, hs z hz, rfl⟩)
def fS (f : mF) (b i : Nat) (w : Nat → Int32) : mF := fun b' => if b' = b then (fun i' => if i' = i then w else f b i') else f b'
theorem hX_ok20 (mb : Nat → AB) (x a : mA) (f : mF) {i : Nat} (hi : i < 8) : ab_ok (hX mb x a f) 20 i := ⟨by decide, hi, by show 7 + i < 70; omega⟩
theorem ck20 {i : Nat} (hi : i < 8) : i < 8 ∧ 7 + i < 70 := ⟨hi, by omega⟩
theorem hX_get20 (mb : Nat → AB) (x a : mA) (f : mF) (i : Nat) : ab_get (hX mb x a f) 20 i = xFt (f 20 i) := rfl
theorem hX_len (mb : Nat → AB) (x a : mA) (f : mF) : (hX mb x a f).2.length = 49 := rfl
theorem hX_set20 (mb : Nat → AB) (x a : mA) (f : mF) (i : Nat) (w : Nat → Int32) : ab_set (hX mb x a f) 20 i (xFt w) = hX mb x a (fS f 20 i w) := by
  have e : (fun j => if j = i then xFt w else xFt (f 20 j)) = fun o => xFt (fS f 20 i w 20 o) := by
    funext q
    by_cases hq : q = i
    · simp [fS, hq]
    · simp [fS, hq]
  show (70, (hX mb x a f).2.set 20 (fun j => if j = i then xFt w else xFt (f 20 j))) = _
  rw [e]
  rfl
section XBike
variable (d : Nat) (mb : Nat → AB) (x a : mA) (f : mF) {b o : Nat} {v : Nat → Int32}
def downX (kind dn links : Int32) (gear n : Int32) (cog : Nat → Int32) : Int32 := if kind = 1 then dn else if kind = 2 then links else if kind = 3 then (if 0 ≤ gear ∧ gear < n then cog gear.toNatClampNeg else 1) else 1
theorem x_upOf (hk : ab_ok (hX mb x a f) b o) (hg : ab_get (hX mb x a f) b o = xFt v) : ab_Ex (d + 1) 0 yX0_upOf [vR 17 0, vR b o] (hX mb x a f) (some (vI (upI (v 0) (v 5) (x 17 0)))) (hX mb x a f) := by
  refine ab_meth oX0_upOf d _ _ _ _ (Nat.le_refl _) rfl (fun E => ?_)
  refine ab_run [] 50 oX0_upOf.1 (Nat.le_refl _) 0 ?_
  unfold upI
  refine ab_chk_in hk ?_
  dsimp only
  rw [hg]
  refine ⟨fun c1 => ?_, fun c1 => ?_⟩
  · refine ab_chk_in hk ?_
    dsimp only
    rw [hg]
    refine ⟨?_, rfl⟩
    rw [if_pos c1]
  refine ⟨fun c2 => ?_, fun c2 => ?_⟩
  · refine ⟨?_, rfl⟩
    rw [if_neg c1, if_pos (Or.inl c2)]
  refine ⟨fun c3 => ?_, fun c3 => ?_⟩
  · refine ⟨?_, rfl⟩
    rw [if_neg c1, if_pos (Or.inr c3)]
  · refine ⟨?_, rfl⟩
    rw [if_neg c1, if_neg (fun q => q.elim c2 c3)]
theorem x_downOf (hk : ab_ok (hX mb x a f) b o) (hg : ab_get (hX mb x a f) b o = xFt v) (hn : x 17 3 ≤ 5) (gear : Int32) : ab_Ex (d + 1) 0 yX0_downOf [vR 17 0, vR b o, vI gear] (hX mb x a f) (some (vI (downX (v 0) (v 6) (x 17 1) gear (x 17 3) (a 18)))) (hX mb x a f) := by
  refine ab_meth oX0_downOf d _ _ _ _ (Nat.le_refl _) rfl (fun E => ?_)
  refine ab_run [] 50 oX0_downOf.1 (Nat.le_refl _) 0 ?_
  unfold downX
  refine ab_chk_in hk ?_
  dsimp only
  rw [hg]
  refine ⟨fun c1 => ?_, fun c1 => ?_⟩
  · refine ab_chk_in hk ?_
    dsimp only
    rw [hg]
    refine ⟨?_, rfl⟩
    rw [if_pos c1]
  refine ⟨fun c2 => ?_, fun c2 => ?_⟩
  · refine ⟨?_, rfl⟩
    rw [if_neg c1, if_pos c2]
  refine ⟨fun c3 => ?_, fun c3 => ?_⟩
  · refine ⟨fun c4 => ?_, fun c4 => ?_⟩
    · refine ⟨?_, rfl⟩
      rw [if_neg c1, if_neg c2, if_pos c3, if_neg (fun q => le_nlt q.1 c4)]
    refine ⟨fun c5 => ?_, fun c5 => ?_⟩
    · refine ⟨?_, rfl⟩
      rw [if_neg c1, if_neg c2, if_pos c3, if_neg (fun q => le_nlt c5 q.2)]
    · refine ⟨?_, ?_⟩
      · refine vp_in_iff.mpr ⟨?_, ?_⟩
        · have := Int32.le_iff_toInt_le.mp (nlt_le c4)
          exact this
        · have h1 := Int32.lt_iff_toInt_lt.mp (nle_lt c5)
          have h2 := Int32.le_iff_toInt_le.mp hn
          have h3 : (5 : Int32).toInt = 5 := rfl
          omega
      refine ⟨?_, rfl⟩
      rw [if_neg c1, if_neg c2, if_pos c3, if_pos ⟨nlt_le c4, nle_lt c5⟩]
  · refine ⟨?_, rfl⟩
    rw [if_neg c1, if_neg c2, if_neg c3]
theorem x_isSilent (hk : ab_ok (hX mb x a f) b o) (hg : ab_get (hX mb x a f) b o = xFt v) (t : Int32) : ab_Ex (d + 1) 0 yX0_isSilent [vR 17 0, vR b o, vI t] (hX mb x a f) (some (vI (silX (v 0) t (x 17 8) (a 21 3) (a 21 1)))) (hX mb x a f) := by
  refine ab_meth oX0_isSilent d _ _ _ _ (Nat.le_refl _) rfl (fun E => ?_)
  refine ab_run [] 50 oX0_isSilent.1 (Nat.le_refl _) 0 ?_
  unfold silX
  refine ab_chk_in hk ?_
  dsimp only
  rw [hg]
  refine ⟨fun c1 => ?_, fun c1 => ?_⟩
  · refine ab_chk_in hk ?_
    dsimp only
    rw [hg]
    refine ⟨fun c2 => ?_, fun c2 => ?_⟩
    · refine ⟨Or.inl rfl, ?_, rfl⟩
      rw [if_neg (fun q => q.elim (fun z => c1 z.1) (fun z => c2 z.2.1))]
    refine ⟨vp_d rfl, fun c3 => ?_, fun c3 => ?_⟩
    · refine ⟨Or.inl rfl, ?_, rfl⟩
      rw [if_neg (fun q => q.elim (fun z => c1 z.1) (fun z => z.2.2 c3))]
    · refine ⟨Or.inr rfl, ?_, rfl⟩
      rw [if_pos (Or.inr ⟨c1, c2, c3⟩)]
  · refine ⟨fun c2 => ?_, fun c2 => ?_⟩
    · refine ⟨Or.inl rfl, ?_, rfl⟩
      rw [if_neg (fun q => q.elim (fun z => le_nlt z.2.1 c2) (fun z => z.1 c1))]
    refine ⟨vp_d rfl, fun c3 => ?_, fun c3 => ?_⟩
    · refine ⟨Or.inl rfl, ?_, rfl⟩
      rw [if_neg (fun q => q.elim (fun z => le_nlt c3 z.2.2) (fun z => z.1 c1))]
    · refine ⟨Or.inr rfl, ?_, rfl⟩
      rw [if_pos (Or.inl ⟨c1, nlt_le c2, nle_lt c3⟩)]
theorem nI_lt_m {i m : Nat} (h : i < m) (hm : m ≤ 1000) : ¬ nI m ≤ nI i := nI_ge h (by omega)
theorem x_weightOf {m : Nat} (hm : x 17 5 = nI m) (hm8 : m ≤ 8) (bits : Int32) : ab_Ex (d + 1) 0 yX0_weightOf [vR 17 0, vI bits] (hX mb x a f) (some (vI (bx_sum (fun i => ((bits >>> (nI i &&& 31)) &&& 1) * f 20 i 3) m))) (hX mb x a f) := by
  refine ab_meth oX0_weightOf d _ _ _ _ (Nat.le_refl _) rfl (fun E => ?_)
  have loop : ∀ (k i : Nat), i + k = m → ab_W jX0_weightOf d E (hX mb x a f) (hX mb x a f).1 (fun v1 h1 => v1 = some (vI (bx_sum (fun i => ((bits >>> (nI i &&& 31)) &&& 1) * f 20 i 3) m)) ∧ h1 = hX mb x a f) (ab_at iX0_weightOf 4) [(3, vI (nI i)), (2, vI (bx_sum (fun i => ((bits >>> (nI i &&& 31)) &&& 1) * f 20 i 3) i)), (0, vR 17 0), (1, vI bits)] [] (hX mb x a f) := by
    intro k
    induction k with
    | zero =>
      intro i hi
      refine ab_run [4] 100 oX0_weightOf.1 (Nat.le_refl _) 4 ?_
      refine ⟨fun c1 => ?_, fun c1 => ?_⟩
      · refine ⟨?_, rfl⟩
        rw [show i = m by omega]
      · rw [hm] at c1
        exact absurd (nI_le (by omega) (by omega)) c1
    | succ k ih =>
      intro i hi
      refine ab_run [4] 100 oX0_weightOf.1 (Nat.le_refl _) 4 ?_
      refine ⟨fun c1 => ?_, fun c1 => ?_⟩
      · rw [hm] at c1
        exact absurd c1 (nI_lt_m (by omega) (by omega))
      refine ⟨vp_in_nI (by omega) (by omega), ⟨(20, i), by rw [nI_clamp (by omega)]; exact ab_fa_at 20 (by omega), ?_⟩⟩
      refine ⟨ck20 (by omega), ?_⟩
      have := ih (i + 1) (by omega)
      rw [nI_succ] at this
      exact this
  refine ab_run [4] 100 oX0_weightOf.1 (Nat.le_refl _) 0 ?_
  exact loop m 0 (by omega)
theorem x_turnsOfRide {m : Nat} (hm : x 17 12 = nI m) (hm8 : m ≤ 8) : ab_Ex (d + 1) 0 yX0_turnsOfRide [vR 17 0] (hX mb x a f) (some (vI (bx_sum (a 24) m))) (hX mb x a f) := by
  refine ab_meth oX0_turnsOfRide d _ _ _ _ (Nat.le_refl _) rfl (fun E => ?_)
  have loop : ∀ (k i : Nat), i + k = m → ab_W jX0_turnsOfRide d E (hX mb x a f) (hX mb x a f).1 (fun v1 h1 => v1 = some (vI (bx_sum (a 24) m)) ∧ h1 = hX mb x a f) (ab_at iX0_turnsOfRide 4) [(2, vI (nI i)), (1, vI (bx_sum (a 24) i)), (0, vR 17 0)] [] (hX mb x a f) := by
    intro k
    induction k with
    | zero =>
      intro i hi
      refine ab_run [4] 100 oX0_turnsOfRide.1 (Nat.le_refl _) 4 ?_
      refine ⟨fun c1 => ?_, fun c1 => ?_⟩
      · refine ⟨?_, rfl⟩
        rw [show i = m by omega]
      · rw [hm] at c1
        exact absurd (nI_le (by omega) (by omega)) c1
    | succ k ih =>
      intro i hi
      refine ab_run [4] 100 oX0_turnsOfRide.1 (Nat.le_refl _) 4 ?_
      refine ⟨fun c1 => ?_, fun c1 => ?_⟩
      · rw [hm] at c1
        exact absurd c1 (nI_lt_m (by omega) (by omega))
      refine ⟨vp_in_nI (by omega) (by omega), ?_⟩
      have := ih (i + 1) (by omega)
      rw [nI_succ] at this
      rw [nI_clamp (by omega)]
      exact this
  refine ab_run [4] 100 oX0_turnsOfRide.1 (Nat.le_refl _) 0 ?_
  exact loop m 0 (by omega)
theorem m_weights {m : Nat} (g : mG) (A : mA) (xs : List AB) (hm : A 2 3 = nI m) (hm8 : m ≤ 8) : ab_Ex (d + 2) 0 yX5_weights [vR 0 0] (hM g A xs) (some (vI (bx_sum (fun i => A 2 (16 + 9 * i + 3)) m))) (hM g A xs) := by
  refine ab_meth oX5_weights (d + 1) _ _ _ _ (Nat.le_refl _) rfl (fun E => ?_)
  have loop : ∀ (k i : Nat), i + k = m → ab_W jX5_weights (d + 1) E (hM g A xs) (hM g A xs).1 (fun v1 h1 => v1 = some (vI (bx_sum (fun i => A 2 (16 + 9 * i + 3)) m)) ∧ h1 = hM g A xs) (ab_at iX5_weights 4) [(2, vI (nI i)), (1, vI (bx_sum (fun i => A 2 (16 + 9 * i + 3)) i)), (0, vR 0 0)] [] (hM g A xs) := by
    intro k
    induction k with
    | zero =>
      intro i hi
      refine ab_run [4] 100 oX5_weights.1 (Nat.le_refl _) 4 ?_
      refine ⟨vp_d rfl, fun c1 => ?_, fun c1 => ?_⟩
      · refine ⟨?_, rfl⟩
        rw [show i = m by omega]
      · have c1 : ¬ A 2 3 ≤ nI i := c1
        rw [hm] at c1
        exact absurd (nI_le (by omega) (by omega)) c1
    | succ k ih =>
      intro i hi
      refine ab_run [4] 100 oX5_weights.1 (Nat.le_refl _) 4 ?_
      refine ⟨vp_d rfl, fun c1 => ?_, fun c1 => ?_⟩
      · have c1 : A 2 3 ≤ nI i := c1
        rw [hm] at c1
        exact absurd c1 (nI_lt_m (by omega) (by omega))
      refine ⟨_, _, m_get d g A xs i 3 (by omega), Nat.le_refl _, ?_⟩
      have := ih (i + 1) (by omega)
      rw [nI_succ] at this
      exact this
  refine ab_run [4] 100 oX5_weights.1 (Nat.le_refl _) 0 ?_
  exact loop m 0 (by omega)
end XBike
