theorem nlt_le {a b : Int32} (h : ¬ a < b) : b ≤ a := Int32.not_lt.mp h
theorem nle_lt {a b : Int32} (h : ¬ a ≤ b) : b < a := Int32.not_le.mp h
theorem le_nlt {a b : Int32} (h : b ≤ a) : ¬ a < b := Int32.not_lt.mpr h
theorem lt_nle {a b : Int32} (h : b < a) : ¬ a ≤ b := Int32.not_le.mpr h
def limX (kind load t : Int32) : Int32 := if (if kind = 6 then t / 20 else 0) < load then load - (if kind = 6 then t / 20 else 0) else 0
def silX (kind t oiled oil shoe : Int32) : Int32 := if (kind = 5 ∧ 0 ≤ oiled ∧ t - oiled < oil) ∨ (¬ kind = 5 ∧ kind = 7 ∧ ¬ shoe = 0) then 1 else 0
def wrapI (p r : Int32) : Int32 := if r < 1 then 0 else if ab_rem p r < 0 then ab_rem p r + r else ab_rem p r
section Loads
variable (d : Nat)
set_option maxRecDepth 100000 in
theorem m_loadOf (g : mG) (A : mA) (xs : List AB) (act step : Int32) : ab_Ex (d + 1) 0 yX5_loadOf [vR 0 0, vI act, vI step] (hM g A xs) (some (vI (loadI act step (A 2 7)))) (hM g A xs) := by
  refine ab_meth oX5_loadOf d _ _ _ _ (Nat.le_refl _) rfl (fun E => ?_)
  have H41 : ab_W jX5_loadOf d E (hM g A xs) (hM g A xs).1 (fun v1 h1 => v1 = some (vI (loadI act step (A 2 7))) ∧ h1 = hM g A xs) (ab_at iX5_loadOf 41) [(4, vI (bI ((15 ≤ step ∧ step ≤ 34) ∨ (65 ≤ step ∧ step ≤ 84)))), (3, vI (bI (15 ≤ step ∧ step ≤ 34))), (0, vR 0 0), (1, vI act), (2, vI step)] [] (hM g A xs) := by
    refine ab_run [] 100 oX5_loadOf.1 (Nat.le_refl _) 41 ?_
    unfold loadI
    refine ⟨fun c1 => ?_, fun c1 => ?_⟩
    · refine br_z (fun c2 => ?_) (fun c2 => ?_)
      · refine ⟨?_, rfl⟩
        rw [if_pos c1, if_neg c2]
      · refine ⟨vp_d rfl, ?_, rfl⟩
        rw [if_pos c1, if_pos c2]
        rfl
    refine ⟨fun c2 => ?_, fun c2 => ?_⟩
    · refine br_z (fun c3 => ?_) (fun c3 => ?_)
      · refine ⟨?_, rfl⟩
        rw [if_neg c1, if_pos c2, if_neg c3]
      · refine ⟨vp_d rfl, ?_, rfl⟩
        rw [if_neg c1, if_pos c2, if_pos c3]
        rfl
    refine ⟨fun c3 => ?_, fun c3 => ?_⟩
    · refine br_z (fun c4 => ?_) (fun c4 => ?_)
      · refine ⟨?_, rfl⟩
        rw [if_neg c1, if_neg c2, if_pos c3, if_neg c4]
      · refine ⟨vp_d rfl, ?_, rfl⟩
        rw [if_neg c1, if_neg c2, if_pos c3, if_pos c4]
        rfl
    refine ⟨fun c4 => ?_, fun c4 => ?_⟩
    · refine br_z (fun c5 => ?_) (fun c5 => ?_)
      · refine ⟨?_, rfl⟩
        rw [if_neg c1, if_neg c2, if_neg c3, if_pos c4, if_neg c5]
      · refine ⟨vp_d rfl, ?_, rfl⟩
        rw [if_neg c1, if_neg c2, if_neg c3, if_pos c4, if_pos c5]
        rfl
    · refine ⟨?_, rfl⟩
      rw [if_neg c1, if_neg c2, if_neg c3, if_neg c4]
  have K : ∀ (p q : Int32), p = bI ((15 ≤ step ∧ step ≤ 34) ∨ (65 ≤ step ∧ step ≤ 84)) → q = bI (15 ≤ step ∧ step ≤ 34) → ab_W jX5_loadOf d E (hM g A xs) (hM g A xs).1 (fun v1 h1 => v1 = some (vI (loadI act step (A 2 7))) ∧ h1 = hM g A xs) (ab_at iX5_loadOf 41) [(4, vI p), (3, vI q), (0, vR 0 0), (1, vI act), (2, vI step)] [] (hM g A xs) := by
    intro p q hp hq
    rw [hp, hq]
    exact H41
  refine ab_run [41] 100 oX5_loadOf.1 (Nat.le_refl _) 0 ?_
  have t2 : ¬ (15 ≤ step ∧ step ≤ 34) → ∀ v, ((65 ≤ step ∧ step ≤ 84) ∧ v = 1 ∨ ¬ (65 ≤ step ∧ step ≤ 84) ∧ v = 0) → v = bI ((15 ≤ step ∧ step ≤ 34) ∨ (65 ≤ step ∧ step ≤ 84)) := by
    intro h1 v h2
    rcases h2 with ⟨h2, rfl⟩ | ⟨h2, rfl⟩
    · rw [bI_t (Or.inr h2)]
    · rw [bI_f (fun q => q.elim h1 h2)]
  refine ⟨fun c1 => ?_, fun c1 => ?_⟩
  · have h1 : ¬ (15 ≤ step ∧ step ≤ 34) := fun q => le_nlt q.1 c1
    refine ⟨fun z => absurd rfl z, fun _ => ?_⟩
    refine ⟨fun c2 => ?_, fun c2 => ?_⟩
    · exact K 0 0 (t2 h1 0 (Or.inr ⟨fun q => le_nlt q.1 c2, rfl⟩)) (bI_f h1).symm
    refine ⟨fun c3 => ?_, fun c3 => ?_⟩
    · exact K 0 0 (t2 h1 0 (Or.inr ⟨fun q => le_nlt q.2 c3, rfl⟩)) (bI_f h1).symm
    · exact K 1 0 (t2 h1 1 (Or.inl ⟨⟨nlt_le c2, nlt_le c3⟩, rfl⟩)) (bI_f h1).symm
  refine ⟨fun c2 => ?_, fun c2 => ?_⟩
  · have h1 : ¬ (15 ≤ step ∧ step ≤ 34) := fun q => le_nlt q.2 c2
    refine ⟨fun z => absurd rfl z, fun _ => ?_⟩
    refine ⟨fun c2 => ?_, fun c2 => ?_⟩
    · exact K 0 0 (t2 h1 0 (Or.inr ⟨fun q => le_nlt q.1 c2, rfl⟩)) (bI_f h1).symm
    refine ⟨fun c3 => ?_, fun c3 => ?_⟩
    · exact K 0 0 (t2 h1 0 (Or.inr ⟨fun q => le_nlt q.2 c3, rfl⟩)) (bI_f h1).symm
    · exact K 1 0 (t2 h1 1 (Or.inl ⟨⟨nlt_le c2, nlt_le c3⟩, rfl⟩)) (bI_f h1).symm
  · have h1 : 15 ≤ step ∧ step ≤ 34 := ⟨nlt_le c1, nlt_le c2⟩
    refine ⟨fun _ => ?_, fun z => absurd z (by decide)⟩
    exact K 1 1 (bI_t (Or.inl h1)).symm (bI_t h1).symm
set_option maxRecDepth 100000 in
theorem x_loadIn (mb : Nat → AB) (x a : mA) (f : mF) (act step : Int32) : ab_Ex (d + 1) 0 yX0_loadIn [vR 17 0, vI act, vI step] (hX mb x a f) (some (vI (loadI act step (a 21 0)))) (hX mb x a f) := by
  refine ab_meth oX0_loadIn d _ _ _ _ (Nat.le_refl _) rfl (fun E => ?_)
  have H41 : ab_W jX0_loadIn d E (hX mb x a f) (hX mb x a f).1 (fun v1 h1 => v1 = some (vI (loadI act step (a 21 0))) ∧ h1 = hX mb x a f) (ab_at iX0_loadIn 41) [(4, vI (bI ((15 ≤ step ∧ step ≤ 34) ∨ (65 ≤ step ∧ step ≤ 84)))), (3, vI (bI (15 ≤ step ∧ step ≤ 34))), (0, vR 17 0), (1, vI act), (2, vI step)] [] (hX mb x a f) := by
    refine ab_run [] 100 oX0_loadIn.1 (Nat.le_refl _) 41 ?_
    unfold loadI
    refine ⟨vp_d rfl, ?_⟩
    refine ⟨fun c1 => ?_, fun c1 => ?_⟩
    · refine br_z (fun c2 => ?_) (fun c2 => ?_)
      · refine ⟨?_, rfl⟩
        rw [if_pos c1, if_neg c2]
      · refine ⟨?_, rfl⟩
        rw [if_pos c1, if_pos c2]
        rfl
    refine ⟨fun c2 => ?_, fun c2 => ?_⟩
    · refine br_z (fun c3 => ?_) (fun c3 => ?_)
      · refine ⟨?_, rfl⟩
        rw [if_neg c1, if_pos c2, if_neg c3]
      · refine ⟨?_, rfl⟩
        rw [if_neg c1, if_pos c2, if_pos c3]
        rfl
    refine ⟨fun c3 => ?_, fun c3 => ?_⟩
    · refine br_z (fun c4 => ?_) (fun c4 => ?_)
      · refine ⟨?_, rfl⟩
        rw [if_neg c1, if_neg c2, if_pos c3, if_neg c4]
      · refine ⟨?_, rfl⟩
        rw [if_neg c1, if_neg c2, if_pos c3, if_pos c4]
        rfl
    refine ⟨fun c4 => ?_, fun c4 => ?_⟩
    · refine br_z (fun c5 => ?_) (fun c5 => ?_)
      · refine ⟨?_, rfl⟩
        rw [if_neg c1, if_neg c2, if_neg c3, if_pos c4, if_neg c5]
      · refine ⟨?_, rfl⟩
        rw [if_neg c1, if_neg c2, if_neg c3, if_pos c4, if_pos c5]
        rfl
    · refine ⟨?_, rfl⟩
      rw [if_neg c1, if_neg c2, if_neg c3, if_neg c4]
  have K : ∀ (p q : Int32), p = bI ((15 ≤ step ∧ step ≤ 34) ∨ (65 ≤ step ∧ step ≤ 84)) → q = bI (15 ≤ step ∧ step ≤ 34) → ab_W jX0_loadIn d E (hX mb x a f) (hX mb x a f).1 (fun v1 h1 => v1 = some (vI (loadI act step (a 21 0))) ∧ h1 = hX mb x a f) (ab_at iX0_loadIn 41) [(4, vI p), (3, vI q), (0, vR 17 0), (1, vI act), (2, vI step)] [] (hX mb x a f) := by
    intro p q hp hq
    rw [hp, hq]
    exact H41
  refine ab_run [41] 100 oX0_loadIn.1 (Nat.le_refl _) 0 ?_
  have t2 : ¬ (15 ≤ step ∧ step ≤ 34) → ∀ v, ((65 ≤ step ∧ step ≤ 84) ∧ v = 1 ∨ ¬ (65 ≤ step ∧ step ≤ 84) ∧ v = 0) → v = bI ((15 ≤ step ∧ step ≤ 34) ∨ (65 ≤ step ∧ step ≤ 84)) := by
    intro h1 v h2
    rcases h2 with ⟨h2, rfl⟩ | ⟨h2, rfl⟩
    · rw [bI_t (Or.inr h2)]
    · rw [bI_f (fun q => q.elim h1 h2)]
  refine ⟨fun c1 => ?_, fun c1 => ?_⟩
  · have h1 : ¬ (15 ≤ step ∧ step ≤ 34) := fun q => le_nlt q.1 c1
    refine ⟨fun z => absurd rfl z, fun _ => ?_⟩
    refine ⟨fun c2 => ?_, fun c2 => ?_⟩
    · exact K 0 0 (t2 h1 0 (Or.inr ⟨fun q => le_nlt q.1 c2, rfl⟩)) (bI_f h1).symm
    refine ⟨fun c3 => ?_, fun c3 => ?_⟩
    · exact K 0 0 (t2 h1 0 (Or.inr ⟨fun q => le_nlt q.2 c3, rfl⟩)) (bI_f h1).symm
    · exact K 1 0 (t2 h1 1 (Or.inl ⟨⟨nlt_le c2, nlt_le c3⟩, rfl⟩)) (bI_f h1).symm
  refine ⟨fun c2 => ?_, fun c2 => ?_⟩
  · have h1 : ¬ (15 ≤ step ∧ step ≤ 34) := fun q => le_nlt q.2 c2
    refine ⟨fun z => absurd rfl z, fun _ => ?_⟩
    refine ⟨fun c2 => ?_, fun c2 => ?_⟩
    · exact K 0 0 (t2 h1 0 (Or.inr ⟨fun q => le_nlt q.1 c2, rfl⟩)) (bI_f h1).symm
    refine ⟨fun c3 => ?_, fun c3 => ?_⟩
    · exact K 0 0 (t2 h1 0 (Or.inr ⟨fun q => le_nlt q.2 c3, rfl⟩)) (bI_f h1).symm
    · exact K 1 0 (t2 h1 1 (Or.inl ⟨⟨nlt_le c2, nlt_le c3⟩, rfl⟩)) (bI_f h1).symm
  · have h1 : 15 ≤ step ∧ step ≤ 34 := ⟨nlt_le c1, nlt_le c2⟩
    refine ⟨fun _ => ?_, fun z => absurd z (by decide)⟩
    exact K 1 1 (bI_t (Or.inl h1)).symm (bI_t h1).symm
end Loads
section XLeaf
variable (d : Nat) (mb : Nat → AB) (x a : mA) (f : mF)
theorem x_isFault (v : Int32) : ab_Ex (d + 1) 0 yX4_isFault [vR 13 0, vI v] (hX mb x a f) (some (vI (bI (0 ≤ v ∧ v < x 17 5)))) (hX mb x a f) := by
  refine ab_meth oX4_isFault d _ _ _ _ (Nat.le_refl _) rfl (fun E => ?_)
  refine ab_run [] 50 oX4_isFault.1 (Nat.le_refl _) 0 ?_
  refine ⟨fun c1 => ?_, fun c1 => ?_⟩
  · refine ⟨Or.inl rfl, ?_, rfl⟩
    rw [bI_f (fun q => le_nlt q.1 c1)]
  refine ⟨fun c2 => ?_, fun c2 => ?_⟩
  · refine ⟨Or.inl rfl, ?_, rfl⟩
    rw [bI_f (fun q => le_nlt c2 q.2)]
  · refine ⟨Or.inr rfl, ?_, rfl⟩
    rw [bI_t ⟨nlt_le c1, nle_lt c2⟩]
theorem x_isGear (v : Int32) : ab_Ex (d + 1) 0 yX4_isGear [vR 13 0, vI v] (hX mb x a f) (some (vI (bI (0 ≤ v ∧ v < x 17 3)))) (hX mb x a f) := by
  refine ab_meth oX4_isGear d _ _ _ _ (Nat.le_refl _) rfl (fun E => ?_)
  refine ab_run [] 50 oX4_isGear.1 (Nat.le_refl _) 0 ?_
  refine ⟨fun c1 => ?_, fun c1 => ?_⟩
  · refine ⟨Or.inl rfl, ?_, rfl⟩
    rw [bI_f (fun q => le_nlt q.1 c1)]
  refine ⟨fun c2 => ?_, fun c2 => ?_⟩
  · refine ⟨Or.inl rfl, ?_, rfl⟩
    rw [bI_f (fun q => le_nlt c2 q.2)]
  · refine ⟨Or.inr rfl, ?_, rfl⟩
    rw [bI_t ⟨nlt_le c1, nle_lt c2⟩]
theorem x_isAct (h : AH) (h70 : h.1 ≤ 70) (v : Int32) : ab_Ex (d + 1) 1 yX4_isAct [vI v] h (some (vI (bI (0 ≤ v ∧ v < 6)))) h := by
  refine ab_meth oX4_isAct d _ _ _ _ (Nat.le_refl _) rfl (fun E => ?_)
  refine ab_run [] 50 oX4_isAct.1 h70 0 ?_
  refine ⟨fun c1 => ?_, fun c1 => ?_⟩
  · refine ⟨Or.inl rfl, ?_, rfl⟩
    rw [bI_f (fun q => le_nlt q.1 c1)]
  refine ⟨fun c2 => ?_, fun c2 => ?_⟩
  · refine ⟨Or.inl rfl, ?_, rfl⟩
    rw [bI_f (fun q => le_nlt c2 q.2)]
  · refine ⟨Or.inr rfl, ?_, rfl⟩
    rw [bI_t ⟨nlt_le c1, nle_lt c2⟩]
theorem x_isWithin (h : AH) (h70 : h.1 ≤ 70) (u v o : Int32) : ab_Ex (d + 1) 1 yX4_isWithin [vI u, vI v, vI o] h (some (vI (bI ((if 0 ≤ u - v then u - v else 0 - (u - v)) ≤ o)))) h := by
  refine ab_meth oX4_isWithin d _ _ _ _ (Nat.le_refl _) rfl (fun E => ?_)
  refine ab_run [] 50 oX4_isWithin.1 h70 0 ?_
  refine ⟨fun c1 => ?_, fun c1 => ?_⟩
  · refine ⟨Or.inl rfl, ?_, rfl⟩
    rw [bI_f (lt_nle c1)]
  · refine ⟨Or.inr rfl, ?_, rfl⟩
    rw [bI_t (nlt_le c1)]
theorem x_areTwo (u v : Int32) : ab_Ex (d + 2) 0 yX4_areTwoFaults [vR 13 0, vI u, vI v] (hX mb x a f) (some (vI (bI ((0 ≤ u ∧ u < x 17 5) ∧ (0 ≤ v ∧ v < x 17 5) ∧ ¬ u = v)))) (hX mb x a f) := by
  refine ab_meth oX4_areTwoFaults (d + 1) _ _ _ _ (Nat.le_refl _) rfl (fun E => ?_)
  refine ab_run [] 50 oX4_areTwoFaults.1 (Nat.le_refl _) 0 ?_
  refine ⟨_, _, x_isFault d mb x a f u, Nat.le_refl _, br_z (fun c1 => ?_) (fun c1 => ?_)⟩
  · refine ⟨Or.inl rfl, ?_, rfl⟩
    rw [bI_f (fun q => c1 q.1)]
  refine ⟨_, _, x_isFault d mb x a f v, Nat.le_refl _, br_z (fun c2 => ?_) (fun c2 => ?_)⟩
  · refine ⟨Or.inl rfl, ?_, rfl⟩
    rw [bI_f (fun q => c2 q.2.1)]
  refine ⟨fun c3 => ?_, fun c3 => ?_⟩
  · refine ⟨Or.inl rfl, ?_, rfl⟩
    rw [bI_f (fun q => q.2.2 c3)]
  · refine ⟨Or.inr rfl, ?_, rfl⟩
    rw [bI_t ⟨c1, c2, c3⟩]
theorem x_wrap (h : AH) (h70 : h.1 ≤ 70) (p r : Int32) : ab_Ex (d + 1) 1 yX4_wrap [vI p, vI r] h (some (vI (wrapI p r))) h := by
  refine ab_meth oX4_wrap d _ _ _ _ (Nat.le_refl _) rfl (fun E => ?_)
  refine ab_run [] 50 oX4_wrap.1 h70 0 ?_
  unfold wrapI
  refine ⟨fun c1 => ?_, fun c1 => ?_⟩
  · refine ⟨fun q => by rw [q] at c1; exact absurd c1 (by decide), ?_⟩
    refine ⟨fun c2 => ?_, fun c2 => ?_⟩
    · refine ⟨?_, rfl⟩
      rw [if_neg (le_nlt c1), if_neg (le_nlt c2)]
    · refine ⟨?_, rfl⟩
      rw [if_neg (le_nlt c1), if_pos (nle_lt c2)]
  · refine ⟨?_, rfl⟩
    rw [if_pos (nle_lt c1)]
theorem x_wasOiled : ab_Ex (d + 1) 0 yX0_wasOiled [vR 17 0] (hX mb x a f) (some (vI (bI (0 ≤ x 17 8)))) (hX mb x a f) := by
  refine ab_meth oX0_wasOiled d _ _ _ _ (Nat.le_refl _) rfl (fun E => ?_)
  refine ab_run [] 50 oX0_wasOiled.1 (Nat.le_refl _) 0 ?_
  refine ⟨fun c1 => ?_, fun c1 => ?_⟩
  · refine ⟨Or.inl rfl, ?_, rfl⟩
    rw [bI_f (lt_nle c1)]
  · refine ⟨Or.inr rfl, ?_, rfl⟩
    rw [bI_t (nlt_le c1)]
-- a fault at any place
variable {h : AH} (h70 : h.1 ≤ 70) {b o : Nat} (hk : ab_ok h b o) {v : Nat → Int32} (hg : ab_get h b o = xFt v)
theorem f_limit (h70 : h.1 ≤ 70) (hk : ab_ok h b o) (hg : ab_get h b o = xFt v) (t : Int32) : ab_Ex (d + 1) 0 yX1_limitAfter [vR b o, vI t] h (some (vI (limX (v 0) (v 2) t))) h := by
  refine ab_meth oX1_limitAfter d _ _ _ _ (Nat.le_refl _) rfl (fun E => ?_)
  refine ab_run [] 50 oX1_limitAfter.1 h70 0 ?_
  unfold limX
  refine ab_chk_in hk ?_
  dsimp only
  rw [hg]
  refine ⟨fun c1 => ?_, fun c1 => ?_⟩
  · refine ab_chk_in hk ?_
    dsimp only
    rw [hg]
    refine ⟨fun c2 => ?_, fun c2 => ?_⟩
    · refine ⟨?_, rfl⟩
      rw [if_neg c1, if_neg (le_nlt c2)]
    · refine ab_chk_in hk ?_
      dsimp only
      rw [hg]
      refine ⟨?_, rfl⟩
      rw [if_neg c1, if_pos (nle_lt c2)]
  · refine ⟨by decide, ?_⟩
    refine ab_chk_in hk ?_
    dsimp only
    rw [hg]
    refine ⟨fun c2 => ?_, fun c2 => ?_⟩
    · refine ⟨?_, rfl⟩
      rw [if_pos c1, if_neg (le_nlt c2)]
    · refine ab_chk_in hk ?_
      dsimp only
      rw [hg]
      refine ⟨?_, rfl⟩
      rw [if_pos c1, if_pos (nle_lt c2)]
end XLeaf
