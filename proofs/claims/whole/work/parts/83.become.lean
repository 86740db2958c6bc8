/-- what a fault is when the tape has told it -/
def bcW (l : Int32) (N : Nat → Int32) : Nat → Int32 := fun k => match k with
  | 0 => l
  | 1 => N 0
  | 2 => N 1
  | 3 => N 2
  | 4 => N 3
  | 5 => if l = 1 then N 4 else 1
  | 6 => if l = 1 then N 5 else 1
  | 7 => 0
  | _ => 1
abbrev bcO (w : Nat → Int32) : Prop := 1 ≤ w 3 ∧ 1 ≤ w 4 ∧ (1 ≤ w 5 ∧ w 5 ≤ 20) ∧ 1 ≤ w 6 ∧ w 6 ≤ 20
section Become
variable (d : Nat) {h : AH} {b o : Nat} {v : Nat → Int32}
set_option maxRecDepth 100000 in
theorem f_become {l1 l2 l3 l4 : Int32} {N : Nat → Int32} (h70 : h.1 ≤ 70) (hl : h.2.length = 49) (hk : ab_ok h b o) (hg : ab_get h b o = xFt v) (hkT : ab_ok h 14 0) (hgT : ab_get h 14 0 = .inl (3, [vR 15 0, vI l1, vI l2, vI l3, vI l4, vR 16 0])) (hkN : ab_ok h 16 0) (hgN : ab_get h 16 0 = .inr (.inl (6, N))) (hb14 : ¬ 14 = b) (hb16 : ¬ 16 = b) : ab_Ex (d + 1) 0 yX1_become [vR b o, vR 14 0] h (some (vI (bI (bcO (bcW l4 N))))) (ab_set h b o (xFt (bcW l4 N))) := by
  have hgTs : ∀ c : AC, ab_get (ab_set h b o c) 14 0 = .inl (3, [vR 15 0, vI l1, vI l2, vI l3, vI l4, vR 16 0]) := by
    intro c
    rw [ab_get_set c hl hk.1 hk.2.1 hkT.2.1, if_neg (fun z => hb14 z.1)]
    exact hgT
  have hgNs : ∀ c : AC, ab_get (ab_set h b o c) 16 0 = .inr (.inl (6, N)) := by
    intro c
    rw [ab_get_set c hl hk.1 hk.2.1 hkN.2.1, if_neg (fun z => hb16 z.1)]
    exact hgN
  refine ab_meth oX1_become d _ _ _ _ (Nat.le_refl _) rfl (fun E => ?_)
  have tail : ∀ (w : Nat → Int32) (c : AC), c = xFt w → ab_W jX1_become d E h h.1 (fun v1 h1 => v1 = some (vI (bI (bcO w))) ∧ h1 = ab_set h b o (xFt w)) (ab_at iX1_become 102) [(0, vR b o), (1, vR 14 0)] [] (ab_set h b o c) := by
    intro w c hc
    subst hc
    refine ab_run [] 100 oX1_become.1 h70 102 ?_
    refine ab_chk_in hk ?_
    dsimp only
    rw [ab_get_self _ hl hk]
    refine ⟨fun (c0 : w 3 < 1) => ⟨Or.inl rfl, by rw [bI_f (fun q => Int32.not_lt.mpr q.1 c0)], rfl⟩, fun (c0 : ¬ w 3 < 1) => ?_⟩
    refine ab_chk_in hk ?_
    dsimp only
    rw [ab_get_self _ hl hk]
    refine ⟨fun (c1 : w 4 < 1) => ⟨Or.inl rfl, by rw [bI_f (fun q => Int32.not_lt.mpr q.2.1 c1)], rfl⟩, fun (c1 : ¬ w 4 < 1) => ?_⟩
    refine ab_chk_in hk ?_
    dsimp only
    rw [ab_get_self _ hl hk]
    refine ⟨fun (c2 : w 5 < 1) => ⟨Or.inl rfl, by rw [bI_f (fun q => Int32.not_lt.mpr q.2.2.1.1 c2)], rfl⟩, fun (c2 : ¬ w 5 < 1) => ?_⟩
    refine ab_chk_in hk ?_
    dsimp only
    rw [ab_get_self _ hl hk]
    refine ⟨fun (c3 : 20 < w 5) => ⟨Or.inl rfl, by rw [bI_f (fun q => Int32.not_lt.mpr q.2.2.1.2 c3)], rfl⟩, fun (c3 : ¬ 20 < w 5) => ?_⟩
    refine ab_chk_in hk ?_
    dsimp only
    rw [ab_get_self _ hl hk]
    refine ⟨fun (c4 : w 6 < 1) => ⟨Or.inl rfl, by rw [bI_f (fun q => Int32.not_lt.mpr q.2.2.2.1 c4)], rfl⟩, fun (c4 : ¬ w 6 < 1) => ?_⟩
    refine ab_chk_in hk ?_
    dsimp only
    rw [ab_get_self _ hl hk]
    refine ⟨fun (c5 : 20 < w 6) => ⟨Or.inl rfl, by rw [bI_f (fun q => Int32.not_lt.mpr q.2.2.2.2 c5)], rfl⟩, fun (c5 : ¬ 20 < w 6) => ?_⟩
    refine ⟨Or.inr rfl, ?_, rfl⟩
    rw [bI_t ⟨Int32.not_lt.mp c0, Int32.not_lt.mp c1, ⟨Int32.not_lt.mp c2, Int32.not_lt.mp c3⟩, Int32.not_lt.mp c4, Int32.not_lt.mp c5⟩]
  by_cases hb : l4 = 1
  · have e5 : bcW l4 N 5 = N 4 := if_pos hb
    have e6 : bcW l4 N 6 = N 5 := if_pos hb
    have hw : Sum.inl (1, [vI l4, vI (N 0), vI (N 1), vI (N 2), vI (N 3), vI (N 4), vI (N 5), vI 0, vI 1]) = xFt (bcW l4 N) := by
      unfold xFt
      rw [e5, e6]
      rfl
    refine ab_run [102] 100 oX1_become.1 h70 0 ?_
    refine ab_chk_in hkT ?_
    dsimp only
    rw [hgT]
    refine ab_chk_in hk ?_
    dsimp only
    rw [hg]
    refine ab_wr_in ?_
    refine ab_chk_in hkT ?_
    dsimp only
    rw [hgTs]
    refine ab_chk_in hkN ?_
    dsimp only
    rw [hgNs]
    refine ⟨vp_d rfl, ?_⟩
    refine ab_chk_in hk ?_
    dsimp only
    rw [ab_get_self _ hl hk]
    refine ab_wr_in ?_
    rw [ab_set_set _ _ hl hk.1]
    refine ab_chk_in hkT ?_
    dsimp only
    rw [hgTs]
    refine ab_chk_in hkN ?_
    dsimp only
    rw [hgNs]
    refine ⟨vp_d rfl, ?_⟩
    refine ab_chk_in hk ?_
    dsimp only
    rw [ab_get_self _ hl hk]
    refine ab_wr_in ?_
    rw [ab_set_set _ _ hl hk.1]
    refine ab_chk_in hkT ?_
    dsimp only
    rw [hgTs]
    refine ab_chk_in hkN ?_
    dsimp only
    rw [hgNs]
    refine ⟨vp_d rfl, ?_⟩
    refine ab_chk_in hk ?_
    dsimp only
    rw [ab_get_self _ hl hk]
    refine ab_wr_in ?_
    rw [ab_set_set _ _ hl hk.1]
    refine ab_chk_in hkT ?_
    dsimp only
    rw [hgTs]
    refine ab_chk_in hkN ?_
    dsimp only
    rw [hgNs]
    refine ⟨vp_d rfl, ?_⟩
    refine ab_chk_in hk ?_
    dsimp only
    rw [ab_get_self _ hl hk]
    refine ab_wr_in ?_
    rw [ab_set_set _ _ hl hk.1]
    refine ab_chk_in hk ?_
    dsimp only
    rw [ab_get_self _ hl hk]
    refine ⟨fun z => absurd hb z, fun _ => ?_⟩
    refine ab_chk_in hkT ?_
    dsimp only
    rw [hgTs]
    refine ab_chk_in hkN ?_
    dsimp only
    rw [hgNs]
    refine ⟨vp_d rfl, ?_⟩
    refine ab_chk_in hk ?_
    dsimp only
    rw [ab_get_self _ hl hk]
    refine ab_wr_in ?_
    rw [ab_set_set _ _ hl hk.1]
    refine ab_chk_in hk ?_
    dsimp only
    rw [ab_get_self _ hl hk]
    refine ⟨fun z => absurd hb z, fun _ => ?_⟩
    refine ab_chk_in hkT ?_
    dsimp only
    rw [hgTs]
    refine ab_chk_in hkN ?_
    dsimp only
    rw [hgNs]
    refine ⟨vp_d rfl, ?_⟩
    refine ab_chk_in hk ?_
    dsimp only
    rw [ab_get_self _ hl hk]
    refine ab_wr_in ?_
    rw [ab_set_set _ _ hl hk.1]
    refine ab_chk_in hk ?_
    dsimp only
    rw [ab_get_self _ hl hk]
    refine ab_wr_in ?_
    rw [ab_set_set _ _ hl hk.1]
    refine ab_chk_in hk ?_
    dsimp only
    rw [ab_get_self _ hl hk]
    refine ab_wr_in ?_
    rw [ab_set_set _ _ hl hk.1]
    exact tail (bcW l4 N) _ hw
  · have e5 : bcW l4 N 5 = 1 := if_neg hb
    have e6 : bcW l4 N 6 = 1 := if_neg hb
    have hw : Sum.inl (1, [vI l4, vI (N 0), vI (N 1), vI (N 2), vI (N 3), vI (1), vI (1), vI 0, vI 1]) = xFt (bcW l4 N) := by
      unfold xFt
      rw [e5, e6]
      rfl
    refine ab_run [102] 100 oX1_become.1 h70 0 ?_
    refine ab_chk_in hkT ?_
    dsimp only
    rw [hgT]
    refine ab_chk_in hk ?_
    dsimp only
    rw [hg]
    refine ab_wr_in ?_
    refine ab_chk_in hkT ?_
    dsimp only
    rw [hgTs]
    refine ab_chk_in hkN ?_
    dsimp only
    rw [hgNs]
    refine ⟨vp_d rfl, ?_⟩
    refine ab_chk_in hk ?_
    dsimp only
    rw [ab_get_self _ hl hk]
    refine ab_wr_in ?_
    rw [ab_set_set _ _ hl hk.1]
    refine ab_chk_in hkT ?_
    dsimp only
    rw [hgTs]
    refine ab_chk_in hkN ?_
    dsimp only
    rw [hgNs]
    refine ⟨vp_d rfl, ?_⟩
    refine ab_chk_in hk ?_
    dsimp only
    rw [ab_get_self _ hl hk]
    refine ab_wr_in ?_
    rw [ab_set_set _ _ hl hk.1]
    refine ab_chk_in hkT ?_
    dsimp only
    rw [hgTs]
    refine ab_chk_in hkN ?_
    dsimp only
    rw [hgNs]
    refine ⟨vp_d rfl, ?_⟩
    refine ab_chk_in hk ?_
    dsimp only
    rw [ab_get_self _ hl hk]
    refine ab_wr_in ?_
    rw [ab_set_set _ _ hl hk.1]
    refine ab_chk_in hkT ?_
    dsimp only
    rw [hgTs]
    refine ab_chk_in hkN ?_
    dsimp only
    rw [hgNs]
    refine ⟨vp_d rfl, ?_⟩
    refine ab_chk_in hk ?_
    dsimp only
    rw [ab_get_self _ hl hk]
    refine ab_wr_in ?_
    rw [ab_set_set _ _ hl hk.1]
    refine ab_chk_in hk ?_
    dsimp only
    rw [ab_get_self _ hl hk]
    refine ⟨fun _ => ?_, fun z => absurd z hb⟩
    refine ab_chk_in hk ?_
    dsimp only
    rw [ab_get_self _ hl hk]
    refine ab_wr_in ?_
    rw [ab_set_set _ _ hl hk.1]
    refine ab_chk_in hk ?_
    dsimp only
    rw [ab_get_self _ hl hk]
    refine ⟨fun _ => ?_, fun z => absurd z hb⟩
    refine ab_chk_in hk ?_
    dsimp only
    rw [ab_get_self _ hl hk]
    refine ab_wr_in ?_
    rw [ab_set_set _ _ hl hk.1]
    refine ab_chk_in hk ?_
    dsimp only
    rw [ab_get_self _ hl hk]
    refine ab_wr_in ?_
    rw [ab_set_set _ _ hl hk.1]
    refine ab_chk_in hk ?_
    dsimp only
    rw [ab_get_self _ hl hk]
    refine ab_wr_in ?_
    rw [ab_set_set _ _ hl hk.1]
    exact tail (bcW l4 N) _ hw
end Become
