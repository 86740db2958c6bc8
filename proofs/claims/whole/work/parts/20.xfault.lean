section XFault
variable (d : Nat) {h : AH} {b o : Nat} {v : Nat → Int32}
theorem f_goesBack (h70 : h.1 ≤ 70) (hk : ab_ok h b o) (hg : ab_get h b o = xFt v) : ab_Ex (d + 1) 0 yX1_goesBack [vR b o] h (some (vI (bI (¬ v 0 = 1 ∧ ¬ v 0 = 2 ∧ ¬ v 0 = 3 ∧ ¬ v 0 = 4)))) h := by
  refine ab_meth oX1_goesBack d _ _ _ _ (Nat.le_refl _) rfl (fun E => ?_)
  refine ab_run [] 50 oX1_goesBack.1 h70 0 ?_
  refine ab_chk_in hk ?_
  dsimp only
  rw [hg]
  refine ⟨fun c1 => ?_, fun c1 => ?_⟩
  · refine ⟨Or.inl rfl, ?_, rfl⟩
    rw [bI_f (fun q => q.1 c1)]
  refine ab_chk_in hk ?_
  dsimp only
  rw [hg]
  refine ⟨fun c2 => ?_, fun c2 => ?_⟩
  · refine ⟨Or.inl rfl, ?_, rfl⟩
    rw [bI_f (fun q => q.2.1 c2)]
  refine ab_chk_in hk ?_
  dsimp only
  rw [hg]
  refine ⟨fun c3 => ?_, fun c3 => ?_⟩
  · refine ⟨Or.inl rfl, ?_, rfl⟩
    rw [bI_f (fun q => q.2.2.1 c3)]
  refine ab_chk_in hk ?_
  dsimp only
  rw [hg]
  refine ⟨fun c4 => ?_, fun c4 => ?_⟩
  · refine ⟨Or.inl rfl, ?_, rfl⟩
    rw [bI_f (fun q => q.2.2.2 c4)]
  refine ⟨Or.inr rfl, ?_, rfl⟩
  rw [bI_t ⟨c1, c2, c3, c4⟩]
theorem f_goesAhead {b2 o2 : Nat} {v2 : Nat → Int32} (h70 : h.1 ≤ 70) (hk : ab_ok h b o) (hg : ab_get h b o = xFt v) (hk2 : ab_ok h b2 o2) (hg2 : ab_get h b2 o2 = xFt v2) : ab_Ex (d + 1) 0 yX1_goesAheadOf [vR b o, vR b2 o2] h (some (vI (bI (v 4 * v2 3 < v2 4 * v 3)))) h := by
  refine ab_meth oX1_goesAheadOf d _ _ _ _ (Nat.le_refl _) rfl (fun E => ?_)
  refine ab_run [] 50 oX1_goesAheadOf.1 h70 0 ?_
  refine ab_chk_in hk ?_
  dsimp only
  rw [hg]
  refine ab_chk_in hk2 ?_
  dsimp only
  rw [hg2]
  refine ab_chk_in hk2 ?_
  dsimp only
  rw [hg2]
  refine ab_chk_in hk ?_
  dsimp only
  rw [hg]
  refine ⟨fun c1 => ?_, fun c1 => ?_⟩
  · refine ⟨Or.inl rfl, ?_, rfl⟩
    rw [bI_f (le_nlt c1)]
  · refine ⟨Or.inr rfl, ?_, rfl⟩
    rw [bI_t (nle_lt c1)]
theorem f_scaleTo (h70 : h.1 ≤ 70) (hl : h.2.length = 49) (hk : ab_ok h b o) (hg : ab_get h b o = xFt v) (dn : Int32) (h8 : 0 < v 8) : ab_Ex (d + 1) 0 yX1_scaleTo [vR b o, vI dn] h none (ab_set h b o (xFt (upd (upd v 7 (v 7 * dn / v 8)) 8 dn))) := by
  refine ab_meth oX1_scaleTo d _ _ _ _ (Nat.le_refl _) rfl (fun E => ?_)
  refine ab_run [] 50 oX1_scaleTo.1 h70 0 ?_
  refine ab_chk_in hk ?_
  dsimp only
  rw [hg]
  refine ⟨fun c1 => absurd h8 (le_nlt c1), fun c1 => ?_⟩
  refine ab_chk_in hk ?_
  dsimp only
  rw [hg]
  refine ab_chk_in hk ?_
  dsimp only
  rw [hg]
  refine ⟨fun q => by rw [q] at h8; exact absurd h8 (by decide), ?_⟩
  refine ab_chk_in hk ?_
  dsimp only
  rw [hg]
  refine ab_wr_in ?_
  refine ab_chk_in hk ?_
  dsimp only
  rw [ab_get_self _ hl hk]
  refine ab_wr_in ?_
  refine ⟨rfl, ?_⟩
  rw [ab_set_set _ _ hl hk.1]
  rfl
theorem f_parts (h70 : h.1 ≤ 70) (hk : ab_ok h b o) (hg : ab_get h b o = xFt v) : ab_Ex (d + 2) 0 yX1_partsToClick [vR b o] h (some (vI (wrapI (v 1 * v 8 - v 7 - 1) (100 * v 8)))) h := by
  refine ab_meth oX1_partsToClick (d + 1) _ _ _ _ (Nat.le_refl _) rfl (fun E => ?_)
  refine ab_run [] 50 oX1_partsToClick.1 h70 0 ?_
  refine ab_chk_in hk ?_
  dsimp only
  rw [hg]
  refine ab_chk_in hk ?_
  dsimp only
  rw [hg]
  refine ab_chk_in hk ?_
  dsimp only
  rw [hg]
  refine ab_chk_in hk ?_
  dsimp only
  rw [hg]
  refine ⟨_, _, x_wrap d _ h70 _ _, Nat.le_refl _, ?_⟩
  exact ⟨rfl, rfl⟩
theorem f_move (h70 : h.1 ≤ 70) (hk : ab_ok h b o) (hg : ab_get h b o = xFt v) (p : Int32) : ab_Ex (d + 2) 0 yX1_move [vR b o, vI p] h none (ab_set h b o (xFt (upd v 7 (wrapI (v 7 + p) (100 * v 8))))) := by
  refine ab_meth oX1_move (d + 1) _ _ _ _ (Nat.le_refl _) rfl (fun E => ?_)
  refine ab_run [] 50 oX1_move.1 h70 0 ?_
  refine ab_chk_in hk ?_
  dsimp only
  rw [hg]
  refine ab_chk_in hk ?_
  dsimp only
  rw [hg]
  refine ⟨_, _, x_wrap d _ h70 _ _, Nat.le_refl _, ?_⟩
  refine ab_chk_in hk ?_
  dsimp only
  rw [hg]
  refine ab_wr_in ?_
  exact ⟨rfl, rfl⟩
set_option maxRecDepth 100000 in
theorem f_copyFrom {b2 o2 : Nat} {v2 : Nat → Int32} (h70 : h.1 ≤ 70) (hl : h.2.length = 49) (hk : ab_ok h b o) (hg : ab_get h b o = xFt v) (hk2 : ab_ok h b2 o2) (hg2 : ab_get h b2 o2 = xFt v2) (hne : ¬ (b2 = b ∧ o2 = o)) : ab_Ex (d + 1) 0 yX1_copyFrom [vR b o, vR b2 o2] h none (ab_set h b o (xFt v2)) := by
  have hgs : ∀ c : AC, ab_get (ab_set h b o c) b2 o2 = xFt v2 := by
    intro c
    rw [ab_get_set c hl hk.1 hk.2.1 hk2.2.1, if_neg hne]
    exact hg2
  refine ab_meth oX1_copyFrom d _ _ _ _ (Nat.le_refl _) rfl (fun E => ?_)
  refine ab_run [] 100 oX1_copyFrom.1 h70 0 ?_
  refine ab_chk_in hk2 ?_
  dsimp only
  rw [hg2]
  refine ab_chk_in hk ?_
  dsimp only
  rw [hg]
  refine ab_wr_in ?_
  refine ab_chk_in hk2 ?_
  dsimp only
  rw [hgs]
  refine ab_chk_in hk ?_
  dsimp only
  rw [ab_get_self _ hl hk]
  refine ab_wr_in ?_
  rw [ab_set_set _ _ hl hk.1]
  refine ab_chk_in hk2 ?_
  dsimp only
  rw [hgs]
  refine ab_chk_in hk ?_
  dsimp only
  rw [ab_get_self _ hl hk]
  refine ab_wr_in ?_
  rw [ab_set_set _ _ hl hk.1]
  refine ab_chk_in hk2 ?_
  dsimp only
  rw [hgs]
  refine ab_chk_in hk ?_
  dsimp only
  rw [ab_get_self _ hl hk]
  refine ab_wr_in ?_
  rw [ab_set_set _ _ hl hk.1]
  refine ab_chk_in hk2 ?_
  dsimp only
  rw [hgs]
  refine ab_chk_in hk ?_
  dsimp only
  rw [ab_get_self _ hl hk]
  refine ab_wr_in ?_
  rw [ab_set_set _ _ hl hk.1]
  refine ab_chk_in hk2 ?_
  dsimp only
  rw [hgs]
  refine ab_chk_in hk ?_
  dsimp only
  rw [ab_get_self _ hl hk]
  refine ab_wr_in ?_
  rw [ab_set_set _ _ hl hk.1]
  refine ab_chk_in hk2 ?_
  dsimp only
  rw [hgs]
  refine ab_chk_in hk ?_
  dsimp only
  rw [ab_get_self _ hl hk]
  refine ab_wr_in ?_
  rw [ab_set_set _ _ hl hk.1]
  refine ab_chk_in hk2 ?_
  dsimp only
  rw [hgs]
  refine ab_chk_in hk ?_
  dsimp only
  rw [ab_get_self _ hl hk]
  refine ab_wr_in ?_
  rw [ab_set_set _ _ hl hk.1]
  refine ab_chk_in hk2 ?_
  dsimp only
  rw [hgs]
  refine ab_chk_in hk ?_
  dsimp only
  rw [ab_get_self _ hl hk]
  refine ab_wr_in ?_
  rw [ab_set_set _ _ hl hk.1]
  exact ⟨rfl, rfl⟩
end XFault
