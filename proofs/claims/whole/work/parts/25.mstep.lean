theorem mS_self (A : mA) (k i : Nat) : mS A k (upd (A k) i (A k i)) = A := by
  funext j
  unfold mS
  split
  · rename_i h
    subst h
    funext q
    by_cases hq : q = i <;> simp [upd, hq]
  · rfl
def ahdI (place by_ wh : Int32) : Int32 := if ab_rem (place * by_ - wh + 100 * by_) (100 * by_) = 0 then 100 * by_ else ab_rem (place * by_ - wh + 100 * by_) (100 * by_)
def cbW (act kind up by_ wh : Int32) : Int32 := if act = 5 then wh else if act = 4 then (if kind = 0 ∨ kind = 5 ∨ kind = 6 ∨ kind = 7 then ab_rem (wh + 100 * by_ - up) (100 * by_) else wh) else ab_rem (wh + up) (100 * by_)
def cbR (act place up by_ wh : Int32) : Int32 := if act = 5 then 0 else if act = 4 then 0 else bI (ahdI place by_ wh ≤ up)
theorem cbR_01 (act place up by_ wh : Int32) : cbR act place up by_ wh = 0 ∨ cbR act place up by_ wh = 1 := by
  unfold cbR
  split
  · exact Or.inl rfl
  · split
    · exact Or.inl rfl
    · exact bI_01 _
def silM (kind t oiled oil shoe : Int32) : Int32 := bI ((kind = 5 ∧ 0 ≤ oiled ∧ t - oiled < oil) ∨ (¬ kind = 5 ∧ kind = 7 ∧ shoe = 1))
def drwS (z : Int32) : Int32 := z * 1664525 + 1013904223
def drwM (z slips : Int32) : Int32 := if ab_rem ((z &&& 2147483647) / 256) 100 < slips then 1 else 0
section MStep
variable (d : Nat) (g : mG) (A : mA) (xs : List AB)
set_option maxRecDepth 100000 in
theorem m_comesBy (i : Nat) (hi : i < 8) (act : Int32) (hby : ¬ 100 * A 8 i = 0) : ab_Ex (d + 3) 0 yX5_comesBy [vR 0 0, vI (nI i), vI act] (hM g A xs) (some (vI (cbR act (A 2 (16 + 9 * i + 1)) (upI (A 2 (16 + 9 * i)) (A 2 (16 + 9 * i + 5)) (A 2 0)) (A 8 i) (A 7 i)))) (hM g (mS A 7 (upd (A 7) i (cbW act (A 2 (16 + 9 * i)) (upI (A 2 (16 + 9 * i)) (A 2 (16 + 9 * i + 5)) (A 2 0)) (A 8 i) (A 7 i)))) xs) := by
  have hci : (nI i).toNatClampNeg = i := nI_clamp (by omega)
  have hin : vp_in (nI i) 8 := vp_in_nI hi (by omega)
  refine ab_meth oX5_comesBy (d + 2) _ _ _ _ (Nat.le_refl _) rfl (fun E => ?_)
  refine ab_run [55, 118] 100 oX5_comesBy.1 (Nat.le_refl _) 0 ?_
  unfold cbR cbW
  refine ⟨fun c1 => ?_, fun c1 => ?_⟩
  · refine ⟨hin, ?_⟩
    rw [hci]
    refine ⟨_, _, m_get0 (d + 1) g A xs i (by omega), Nat.le_refl _, ?_⟩
    have done4 : act = 4 → (A 2 (16 + 9 * i) = 0 ∨ A 2 (16 + 9 * i) = 5 ∨ A 2 (16 + 9 * i) = 6 ∨ A 2 (16 + 9 * i) = 7) → ab_W jX5_comesBy (d + 2) E (hM g A xs) 70 (fun v1 h1 => v1 = some (vI (if act = 5 then 0 else if act = 4 then 0 else bI (ahdI (A 2 (16 + 9 * i + 1)) (A 8 i) (A 7 i) ≤ upI (A 2 (16 + 9 * i)) (A 2 (16 + 9 * i + 5)) (A 2 0)))) ∧ h1 = hM g (mS A 7 (upd (A 7) i (if act = 5 then A 7 i else if act = 4 then (if A 2 (16 + 9 * i) = 0 ∨ A 2 (16 + 9 * i) = 5 ∨ A 2 (16 + 9 * i) = 6 ∨ A 2 (16 + 9 * i) = 7 then ab_rem (A 7 i + 100 * A 8 i - upI (A 2 (16 + 9 * i)) (A 2 (16 + 9 * i + 5)) (A 2 0)) (100 * A 8 i) else A 7 i) else ab_rem (A 7 i + upI (A 2 (16 + 9 * i)) (A 2 (16 + 9 * i + 5)) (A 2 0)) (100 * A 8 i)))) xs) (ab_at iX5_comesBy 55) [(4, vI (A 2 (16 + 9 * i))), (3, vI (100 * A 8 i)), (0, vR 0 0), (1, vI (nI i)), (2, vI act)] [] (hM g A xs) := by
      intro h4 hk
      refine ab_run [] 100 oX5_comesBy.1 (Nat.le_refl _) 55 ?_
      refine ⟨hin, ?_⟩
      rw [hci]
      refine ⟨_, _, m_upOf d g A xs i hi, Nat.le_refl _, ?_⟩
      refine ⟨hby, ?_⟩
      refine ⟨hin, ?_⟩
      refine ⟨Or.inl rfl, ?_, ?_⟩
      · rw [if_neg c1, if_pos h4]
      · rw [if_neg c1, if_pos h4, if_pos hk, hci]
        rfl
    refine ⟨fun c2 => ?_, fun c2 => ?_⟩
    · refine ⟨_, _, m_get (d + 1) g A xs i 1 (by omega), Nat.le_refl _, ?_⟩
      refine ⟨hin, ?_⟩
      refine ⟨hin, ?_⟩
      rw [hci]
      refine ⟨hby, ?_⟩
      have fin : ∀ v : Int32, v = ahdI (A 2 (16 + 9 * i + 1)) (A 8 i) (A 7 i) → ab_W jX5_comesBy (d + 2) E (hM g A xs) 70 (fun v1 h1 => v1 = some (vI (if act = 5 then 0 else if act = 4 then 0 else bI (ahdI (A 2 (16 + 9 * i + 1)) (A 8 i) (A 7 i) ≤ upI (A 2 (16 + 9 * i)) (A 2 (16 + 9 * i + 5)) (A 2 0)))) ∧ h1 = hM g (mS A 7 (upd (A 7) i (if act = 5 then A 7 i else if act = 4 then (if A 2 (16 + 9 * i) = 0 ∨ A 2 (16 + 9 * i) = 5 ∨ A 2 (16 + 9 * i) = 6 ∨ A 2 (16 + 9 * i) = 7 then ab_rem (A 7 i + 100 * A 8 i - upI (A 2 (16 + 9 * i)) (A 2 (16 + 9 * i + 5)) (A 2 0)) (100 * A 8 i) else A 7 i) else ab_rem (A 7 i + upI (A 2 (16 + 9 * i)) (A 2 (16 + 9 * i + 5)) (A 2 0)) (100 * A 8 i)))) xs) (ab_at iX5_comesBy 118) [(5, vI v), (4, vI (A 2 (16 + 9 * i))), (3, vI (100 * A 8 i)), (0, vR 0 0), (1, vI (nI i)), (2, vI act)] [] (hM g A xs) := by
        intro v hv
        refine ab_run [] 100 oX5_comesBy.1 (Nat.le_refl _) 118 ?_
        refine ⟨hin, ?_⟩
        rw [hci]
        refine ⟨_, _, m_upOf d g A xs i hi, Nat.le_refl _, ?_⟩
        refine ⟨hby, ?_⟩
        refine ⟨hin, ?_⟩
        rw [hci]
        refine ⟨_, _, m_upOf d g (mS A 7 (upd (A 7) i (ab_rem (A 7 i + upI (A 2 (16 + 9 * i)) (A 2 (16 + 9 * i + 5)) (A 2 0)) (100 * A 8 i)))) xs i hi, Nat.le_refl _, ?_⟩
        refine ⟨fun c3 => ?_, fun c3 => ?_⟩
        · refine ⟨Or.inl rfl, ?_, ?_⟩
          · rw [if_neg c1, if_neg c2, ← hv]
            exact bI_fs (lt_nle c3)
          · rw [if_neg c1, if_neg c2]
        · refine ⟨Or.inr rfl, ?_, ?_⟩
          · rw [if_neg c1, if_neg c2, ← hv]
            exact bI_ts (nlt_le c3)
          · rw [if_neg c1, if_neg c2]
      refine ⟨fun c5 => ?_, fun c5 => ?_⟩
      · exact fin _ (by rw [ahdI, if_neg c5])
      · exact fin _ (by rw [ahdI, if_pos c5])
    · refine ⟨fun c3 => done4 c2 (Or.inl c3), fun c3 => ?_⟩
      refine ⟨fun c4 => done4 c2 (Or.inr (Or.inl c4)), fun c4 => ?_⟩
      refine ⟨fun c5 => done4 c2 (Or.inr (Or.inr (Or.inl c5))), fun c5 => ?_⟩
      refine ⟨fun c6 => ?_, fun c6 => done4 c2 (Or.inr (Or.inr (Or.inr c6)))⟩
      refine ⟨Or.inl rfl, ?_, ?_⟩
      · rw [if_neg c1, if_pos c2]
      · rw [if_neg c1, if_pos c2, if_neg (fun q => q.elim c3 (fun q => q.elim c4 (fun q => q.elim c5 c6))), mS_self]
  · refine ⟨Or.inl rfl, ?_, ?_⟩
    · rw [if_pos c1]
    · rw [if_pos c1, mS_self]
theorem m_isSilent (i : Nat) (hi : i < 8) : ab_Ex (d + 2) 0 yX5_isSilent [vR 0 0, vI (nI i)] (hM g A xs) (some (vI (silM (A 2 (16 + 9 * i)) (g 12) (A 2 6) (A 2 10) (A 2 8)))) (hM g A xs) := by
  refine ab_meth oX5_isSilent (d + 1) _ _ _ _ (Nat.le_refl _) rfl (fun E => ?_)
  refine ab_run [] 100 oX5_isSilent.1 (Nat.le_refl _) 0 ?_
  have g0 := m_get0 d g A xs i (by omega)
  unfold silM
  refine ⟨_, _, g0, Nat.le_refl _, fun c1 => ?_, fun c1 => ?_⟩
  · refine ⟨_, _, g0, Nat.le_refl _, fun c2 => ?_, fun c2 => ?_⟩
    · exact ⟨Or.inl rfl, bI_fs (fun q => q.elim (fun z => c1 z.1) (fun z => c2 z.2.1)), rfl⟩
    · refine ⟨vp_d rfl, fun c3 => ?_, fun c3 => ?_⟩
      · exact ⟨Or.inl rfl, bI_fs (fun q => q.elim (fun z => c1 z.1) (fun z => c3 z.2.2)), rfl⟩
      · exact ⟨Or.inr rfl, bI_ts (Or.inr ⟨c1, c2, c3⟩), rfl⟩
  · refine ⟨vp_d rfl, fun c2 => ?_, fun c2 => ?_⟩
    · exact ⟨Or.inl rfl, bI_fs (fun q => q.elim (fun z => le_nlt z.2.1 c2) (fun z => z.1 c1)), rfl⟩
    · refine ⟨vp_d rfl, vp_d rfl, fun c3 => ?_, fun c3 => ?_⟩
      · exact ⟨Or.inl rfl, bI_fs (fun q => q.elim (fun z => le_nlt c3 z.2.2) (fun z => z.1 c1)), rfl⟩
      · exact ⟨Or.inr rfl, bI_ts (Or.inl ⟨c1, nlt_le c2, nle_lt c3⟩), rfl⟩
/-- a click of the fault i -/
def ckG (g : mG) (A : mA) (i : Nat) : mG := if nI i = g 17 ∧ A 9 i = g 18 then upd g 19 (g 13) else g
def ckH (g : mG) (A : mA) (i : Nat) : mG := if g 16 = 0 then ckG g A i else upd (upd (ckG g A i) 14 (drwS (g 14))) 15 (g 15 + drwM (drwS (g 14)) (A 2 9))
def ckA (A : mA) (i : Nat) : mA := mS A 9 (upd (A 9) i (A 9 i + 1))
theorem ckG_n (g : mG) (A : mA) (i : Nat) {k : Nat} (h : k ≠ 19) : ckG g A i k = g k := by
  unfold ckG
  split <;> simp [upd, h]
set_option maxRecDepth 100000 in
theorem m_clicks (i : Nat) (hi : i < 8) : ab_Ex (d + 1) 0 yX5_clicks [vR 0 0, vI (nI i)] (hM g A xs) none (hM (ckH g A i) (ckA A i) xs) := by
  have hci : (nI i).toNatClampNeg = i := nI_clamp (by omega)
  have hin : vp_in (nI i) 8 := vp_in_nI hi (by omega)
  refine ab_meth oX5_clicks d _ _ _ _ (Nat.le_refl _) rfl (fun E => ?_)
  have H29 : ∀ g1 : mG, g1 = ckG g A i → ab_W jX5_clicks d E (hM g A xs) 70 (fun v1 h1 => v1 = none ∧ h1 = hM (ckH g A i) (ckA A i) xs) (ab_at iX5_clicks 29) [(0, vR 0 0), (1, vI (nI i))] [] (hM g1 A xs) := by
    intro g1 hg1
    have e16 : g1 16 = g 16 := by rw [hg1]; exact ckG_n g A i (by decide)
    have e14 : g1 14 = g 14 := by rw [hg1]; exact ckG_n g A i (by decide)
    have e15 : g1 15 = g 15 := by rw [hg1]; exact ckG_n g A i (by decide)
    refine ab_run [] 100 oX5_clicks.1 (Nat.le_refl _) 29 ?_
    refine ⟨hin, hin, ?_⟩
    rw [hci]
    refine ⟨fun c1 => ?_, fun c1 => ?_⟩
    · refine ⟨by decide, by decide, vp_d rfl, fun c2 => ?_, fun c2 => ?_⟩
      · refine ⟨rfl, ?_⟩
        have c1 : ¬ g1 16 = 0 := c1
        rw [e16] at c1
        have c2 : A 2 9 ≤ ab_rem ((drwS (g1 14) &&& 2147483647) / 256) 100 := c2
        have ed : drwM (drwS (g1 14)) (A 2 9) = 0 := by rw [drwM, if_neg (le_nlt c2)]
        rw [ckH, if_neg c1, ← hg1, ← e14, ← e15, ed]
        rfl
      · refine ⟨rfl, ?_⟩
        have c1 : ¬ g1 16 = 0 := c1
        rw [e16] at c1
        have c2 : ¬ A 2 9 ≤ ab_rem ((drwS (g1 14) &&& 2147483647) / 256) 100 := c2
        have ed : drwM (drwS (g1 14)) (A 2 9) = 1 := by rw [drwM, if_pos (nle_lt c2)]
        rw [ckH, if_neg c1, ← hg1, ← e14, ← e15, ed]
        rfl
    · refine ⟨rfl, ?_⟩
      have c1 : g1 16 = 0 := c1
      rw [e16] at c1
      rw [ckH, if_pos c1, ← hg1]
      rfl
  refine ab_run [29] 100 oX5_clicks.1 (Nat.le_refl _) 0 ?_
  refine ⟨fun c1 => ?_, fun c1 => ?_⟩
  · exact H29 g (by rw [ckG, if_neg (fun q => c1 q.1)])
  refine ⟨hin, ?_⟩
  rw [hci]
  refine ⟨fun c2 => ?_, fun c2 => ?_⟩
  · exact H29 g (by rw [ckG, if_neg (fun q => c2 q.2)])
  · exact H29 _ (by rw [ckG, if_pos ⟨c1, c2⟩])
end MStep
