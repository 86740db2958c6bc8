abbrev jL : MI := (6, cL_law, 4, some .boolean, false, iL_law)
set_option maxRecDepth 100000 in
theorem oL_0 : ((iL_law.drop 0).take 28).all (ab_res jL) = true := by decide +kernel
set_option maxRecDepth 100000 in
theorem oL_1 : ((iL_law.drop 28).take 28).all (ab_res jL) = true := by decide +kernel
set_option maxRecDepth 100000 in
theorem oL_2 : ((iL_law.drop 56).take 28).all (ab_res jL) = true := by decide +kernel
set_option maxRecDepth 100000 in
theorem oL_3 : ((iL_law.drop 84).take 28).all (ab_res jL) = true := by decide +kernel
set_option maxRecDepth 100000 in
theorem oL_4 : ((iL_law.drop 112).take 28).all (ab_res jL) = true := by decide +kernel
set_option maxRecDepth 100000 in
theorem oL_5 : ((iL_law.drop 140).take 28).all (ab_res jL) = true := by decide +kernel
set_option maxRecDepth 100000 in
theorem oL_6 : ((iL_law.drop 168).take 28).all (ab_res jL) = true := by decide +kernel
set_option maxRecDepth 100000 in
theorem oL_7 : ((iL_law.drop 196).take 28).all (ab_res jL) = true := by decide +kernel
set_option maxRecDepth 100000 in
theorem oL_8 : ((iL_law.drop 224).take 28).all (ab_res jL) = true := by decide +kernel
set_option maxRecDepth 100000 in
theorem oL_9 : ((iL_law.drop 252).take 28).all (ab_res jL) = true := by decide +kernel
set_option maxRecDepth 100000 in
theorem oL_10 : ((iL_law.drop 280).take 28).all (ab_res jL) = true := by decide +kernel
set_option maxRecDepth 100000 in
theorem oL_11 : ((iL_law.drop 308).take 28).all (ab_res jL) = true := by decide +kernel
set_option maxRecDepth 100000 in
theorem oL_12 : ((iL_law.drop 336).take 28).all (ab_res jL) = true := by decide +kernel
set_option maxRecDepth 100000 in
theorem oL_13 : ((iL_law.drop 364).take 28).all (ab_res jL) = true := by decide +kernel
set_option maxRecDepth 100000 in
theorem oL_14 : ((iL_law.drop 392).take 28).all (ab_res jL) = true := by decide +kernel
set_option maxRecDepth 100000 in
theorem oL_15 : ((iL_law.drop 420).take 28).all (ab_res jL) = true := by decide +kernel
set_option maxRecDepth 100000 in
theorem oL_16 : ((iL_law.drop 448).take 28).all (ab_res jL) = true := by decide +kernel
set_option maxRecDepth 100000 in
theorem oL_17 : ((iL_law.drop 476).take 28).all (ab_res jL) = true := by decide +kernel
set_option maxRecDepth 100000 in
theorem oL_18 : ((iL_law.drop 504).take 28).all (ab_res jL) = true := by decide +kernel
set_option maxRecDepth 100000 in
theorem oL_19 : ((iL_law.drop 532).take 28).all (ab_res jL) = true := by decide +kernel
set_option maxRecDepth 100000 in
theorem oL_20 : ((iL_law.drop 560).take 28).all (ab_res jL) = true := by decide +kernel
set_option maxRecDepth 100000 in
theorem oL_21 : ((iL_law.drop 588).take 28).all (ab_res jL) = true := by decide +kernel
set_option maxRecDepth 100000 in
theorem oL_22 : ((iL_law.drop 616).take 28).all (ab_res jL) = true := by decide +kernel
set_option maxRecDepth 100000 in
theorem oL_23 : ((iL_law.drop 644).take 28).all (ab_res jL) = true := by decide +kernel
set_option maxRecDepth 100000 in
theorem oL_24 : ((iL_law.drop 672).take 28).all (ab_res jL) = true := by decide +kernel
set_option maxRecDepth 100000 in
theorem oL_25 : ((iL_law.drop 700).take 28).all (ab_res jL) = true := by decide +kernel
set_option maxRecDepth 100000 in
theorem oL_26 : ((iL_law.drop 728).take 28).all (ab_res jL) = true := by decide +kernel
set_option maxRecDepth 100000 in
theorem oL_27 : ((iL_law.drop 756).take 28).all (ab_res jL) = true := by decide +kernel
theorem ab_all_cut {l : List IE} {f : IE → Bool} {n : Nat} (h1 : (l.take n).all f = true) (h2 : (l.drop n).all f = true) : l.all f = true := by
  rw [← List.take_append_drop n l, List.all_append, h1, h2]
  rfl
set_option maxRecDepth 100000 in
theorem oL : ab_tab jL = true := by
  have h28 : (iL_law.drop 784).all (ab_res jL) = true := by decide +kernel
  have h27 : (iL_law.drop 756).all (ab_res jL) = true := ab_all_cut (n := 28) oL_27 (by rw [List.drop_drop]; exact h28)
  have h26 : (iL_law.drop 728).all (ab_res jL) = true := ab_all_cut (n := 28) oL_26 (by rw [List.drop_drop]; exact h27)
  have h25 : (iL_law.drop 700).all (ab_res jL) = true := ab_all_cut (n := 28) oL_25 (by rw [List.drop_drop]; exact h26)
  have h24 : (iL_law.drop 672).all (ab_res jL) = true := ab_all_cut (n := 28) oL_24 (by rw [List.drop_drop]; exact h25)
  have h23 : (iL_law.drop 644).all (ab_res jL) = true := ab_all_cut (n := 28) oL_23 (by rw [List.drop_drop]; exact h24)
  have h22 : (iL_law.drop 616).all (ab_res jL) = true := ab_all_cut (n := 28) oL_22 (by rw [List.drop_drop]; exact h23)
  have h21 : (iL_law.drop 588).all (ab_res jL) = true := ab_all_cut (n := 28) oL_21 (by rw [List.drop_drop]; exact h22)
  have h20 : (iL_law.drop 560).all (ab_res jL) = true := ab_all_cut (n := 28) oL_20 (by rw [List.drop_drop]; exact h21)
  have h19 : (iL_law.drop 532).all (ab_res jL) = true := ab_all_cut (n := 28) oL_19 (by rw [List.drop_drop]; exact h20)
  have h18 : (iL_law.drop 504).all (ab_res jL) = true := ab_all_cut (n := 28) oL_18 (by rw [List.drop_drop]; exact h19)
  have h17 : (iL_law.drop 476).all (ab_res jL) = true := ab_all_cut (n := 28) oL_17 (by rw [List.drop_drop]; exact h18)
  have h16 : (iL_law.drop 448).all (ab_res jL) = true := ab_all_cut (n := 28) oL_16 (by rw [List.drop_drop]; exact h17)
  have h15 : (iL_law.drop 420).all (ab_res jL) = true := ab_all_cut (n := 28) oL_15 (by rw [List.drop_drop]; exact h16)
  have h14 : (iL_law.drop 392).all (ab_res jL) = true := ab_all_cut (n := 28) oL_14 (by rw [List.drop_drop]; exact h15)
  have h13 : (iL_law.drop 364).all (ab_res jL) = true := ab_all_cut (n := 28) oL_13 (by rw [List.drop_drop]; exact h14)
  have h12 : (iL_law.drop 336).all (ab_res jL) = true := ab_all_cut (n := 28) oL_12 (by rw [List.drop_drop]; exact h13)
  have h11 : (iL_law.drop 308).all (ab_res jL) = true := ab_all_cut (n := 28) oL_11 (by rw [List.drop_drop]; exact h12)
  have h10 : (iL_law.drop 280).all (ab_res jL) = true := ab_all_cut (n := 28) oL_10 (by rw [List.drop_drop]; exact h11)
  have h9 : (iL_law.drop 252).all (ab_res jL) = true := ab_all_cut (n := 28) oL_9 (by rw [List.drop_drop]; exact h10)
  have h8 : (iL_law.drop 224).all (ab_res jL) = true := ab_all_cut (n := 28) oL_8 (by rw [List.drop_drop]; exact h9)
  have h7 : (iL_law.drop 196).all (ab_res jL) = true := ab_all_cut (n := 28) oL_7 (by rw [List.drop_drop]; exact h8)
  have h6 : (iL_law.drop 168).all (ab_res jL) = true := ab_all_cut (n := 28) oL_6 (by rw [List.drop_drop]; exact h7)
  have h5 : (iL_law.drop 140).all (ab_res jL) = true := ab_all_cut (n := 28) oL_5 (by rw [List.drop_drop]; exact h6)
  have h4 : (iL_law.drop 112).all (ab_res jL) = true := ab_all_cut (n := 28) oL_4 (by rw [List.drop_drop]; exact h5)
  have h3 : (iL_law.drop 84).all (ab_res jL) = true := ab_all_cut (n := 28) oL_3 (by rw [List.drop_drop]; exact h4)
  have h2 : (iL_law.drop 56).all (ab_res jL) = true := ab_all_cut (n := 28) oL_2 (by rw [List.drop_drop]; exact h3)
  have h1 : (iL_law.drop 28).all (ab_res jL) = true := ab_all_cut (n := 28) oL_1 (by rw [List.drop_drop]; exact h2)
  have h0 : (iL_law.drop 0).all (ab_res jL) = true := ab_all_cut (n := 28) oL_0 (by rw [List.drop_drop]; exact h1)
  have hs : (ab_seq iL_law && (match iL_law with
    | e :: _ => Nat.beq e.1 0
    | [] => false)) = true := by decide +kernel
  rw [Bool.and_eq_true] at hs
  show (iL_law.all (ab_res jL) && ab_seq iL_law && _) = true
  rw [show iL_law.all (ab_res jL) = true from h0, hs.1]
  exact hs.2
-- WHAT IS OWED OF A PAIR OF METHODS
abbrev IT : Type := mG → mA → mA → mA → mF → Prop
def Pr (I : IT) (d : Nat) (yx ym : MethodName) (as : List AV) : Prop := ∀ (g : mG) (A x a : mA) (f : mF), I g A x a f → ∃ (r : Int32) (x' a' : mA) (f' : mF) (g' : mG) (A' : mA),
  ab_Ex d 0 yx (vR 13 0 :: as) (hM g A (xl x a f)) (some (vI r)) (hM g A (xl x' a' f')) ∧ ab_Ex d 0 ym (vR 0 0 :: as) (hM g A (xl x' a' f')) (some (vI r)) (hM g' A' (xl x' a' f')) ∧ I g' A' x' a' f'
def P_feed (I : IT) (d : Nat) : Prop := ∀ (p1 : Int32) (p2 : Int64), Pr I d yX4_feed yX5_feed [vI p1, vL p2]
def P_bicycle (I : IT) (d : Nat) : Prop := Pr I d yX4_bicycle yX5_bicycle []
def P_part (I : IT) (d : Nat) : Prop := ∀ p1 : Int32, Pr I d yX4_part yX5_part [vI p1]
def P_fault (I : IT) (d : Nat) : Prop := ∀ p1 p2 : Int32, Pr I d yX4_fault yX5_fault [vI p1, vI p2]
def P_rounds (I : IT) (d : Nat) : Prop := ∀ p1 p2 p3 : Int32, Pr I d yX4_rounds yX5_rounds [vI p1, vI p2, vI p3]
def P_load (I : IT) (d : Nat) : Prop := ∀ p1 p2 : Int32, Pr I d yX4_load yX5_load [vI p1, vI p2]
def P_set (I : IT) (d : Nat) : Prop := ∀ p1 p2 : Int32, Pr I d yX4_set yX5_set [vI p1, vI p2]
def P_oil (I : IT) (d : Nat) : Prop := Pr I d yX4_oil yX5_oil []
def P_stage (I : IT) (d : Nat) : Prop := ∀ p1 p2 p3 : Int32, Pr I d yX4_stage yX5_stage [vI p1, vI p2, vI p3]
def P_stageOf (I : IT) (d : Nat) : Prop := ∀ p1 p2 : Int32, Pr I d yX4_stageOf yX5_stageOf [vI p1, vI p2]
def P_drop (I : IT) (d : Nat) : Prop := Pr I d yX4_drop yX5_drop []
def P_counts (I : IT) (d : Nat) : Prop := ∀ p1 : Int32, Pr I d yX4_counts yX5_counts [vI p1]
def P_stageCounts (I : IT) (d : Nat) : Prop := ∀ p1 p2 p3 p4 : Int32, Pr I d yX4_stageCounts yX5_stageCounts [vI p1, vI p2, vI p3, vI p4]
def P_when (I : IT) (d : Nat) : Prop := ∀ p1 p2 : Int32, Pr I d yX4_when yX5_when [vI p1, vI p2]
def P_heard (I : IT) (d : Nat) : Prop := ∀ p1 : Int32, Pr I d yX4_heard yX5_heard [vI p1]
def P_go (I : IT) (d : Nat) : Prop := Pr I d yX4_go yX5_go []
def P_fit (I : IT) (d : Nat) : Prop := ∀ p1 p2 : Int32, Pr I d yX4_fit yX5_fit [vI p1, vI p2]
def P_odds (I : IT) (d : Nat) : Prop := ∀ p1 p2 p3 p4 : Int32, Pr I d yX4_odds yX5_odds [vI p1, vI p2, vI p3, vI p4]
def P_twos (I : IT) (d : Nat) : Prop := ∀ p1 p2 p3 : Int32, Pr I d yX4_twos yX5_twos [vI p1, vI p2, vI p3]
def P_apart (I : IT) (d : Nat) : Prop := ∀ p1 p2 : Int32, Pr I d yX4_apart yX5_apart [vI p1, vI p2]
def P_tells (I : IT) (d : Nat) : Prop := ∀ p1 p2 : Int32, Pr I d yX4_tells yX5_tells [vI p1, vI p2]
def P_length (I : IT) (d : Nat) : Prop := ∀ p1 p2 p3 p4 p5 : Int32, Pr I d yX4_length yX5_length [vI p1, vI p2, vI p3, vI p4, vI p5]
def P_beat (I : IT) (d : Nat) : Prop := ∀ p1 p2 p3 : Int32, Pr I d yX4_beat yX5_beat [vI p1, vI p2, vI p3]
def P_away (I : IT) (d : Nat) : Prop := ∀ p1 : Int32, Pr I d yX4_away yX5_away [vI p1]
def P_danger (I : IT) (d : Nat) : Prop := ∀ p1 : Int32, Pr I d yX4_danger yX5_danger [vI p1]
def P_least (I : IT) (d : Nat) : Prop := ∀ p1 : Int32, Pr I d yX4_least yX5_least [vI p1]
def P_row (I : IT) (d : Nat) : Prop := ∀ p1 : Int32, Pr I d yX4_row yX5_row [vI p1]
def P_judge (I : IT) (d : Nat) : Prop := Pr I d yX4_judge yX5_judge []
def P_held (I : IT) (d : Nat) : Prop := Pr I d yX4_held yX5_held []
def P_image (I : IT) (d : Nat) : Prop := Pr I d yX4_image yX5_image []
def P_on (I : IT) (d : Nat) : Prop := Pr I d yX4_on yX5_on []
def P_count (I : IT) (d : Nat) : Prop := ∀ p1 : Int32, Pr I d yX4_count yX5_count [vI p1]
def P_all (I : IT) (d : Nat) : Prop := P_feed I d ∧ P_bicycle I d ∧ P_part I d ∧ P_fault I d ∧ P_rounds I d ∧ P_load I d ∧ P_set I d ∧ P_oil I d ∧ P_stage I d ∧ P_stageOf I d ∧ P_drop I d ∧ P_counts I d ∧ P_stageCounts I d ∧ P_when I d ∧ P_heard I d ∧ P_go I d ∧ P_fit I d ∧ P_odds I d ∧ P_twos I d ∧ P_apart I d ∧ P_tells I d ∧ P_length I d ∧ P_beat I d ∧ P_away I d ∧ P_danger I d ∧ P_least I d ∧ P_row I d ∧ P_judge I d ∧ P_held I d ∧ P_image I d ∧ P_on I d ∧ P_count I d
theorem lp_in {n L k : Nat} (h : n + 6 ≤ L) (hk : k < 6) (hL : L ≤ 3072) : vp_in (nI n + nI k) L := by
  rw [nI_add]
  exact vp_in_nI (by omega) (by omega)
theorem lp_go {n L : Nat} (hL : L ≤ 3072) (hn : n ≤ 3078) (h : ¬ Int32.ofNat L - 6 < nI n) : n + 6 ≤ L := by
  have h1 : (Int32.ofNat L).toInt = (L : Int) := nI_toInt (by omega)
  have h2 : (nI n).toInt = (n : Int) := nI_toInt (by omega)
  have h3 : (Int32.ofNat L - 6).toInt = (L : Int) - 6 := by
    rw [Int32.toInt_sub, h1, show (6 : Int32).toInt = 6 from rfl]
    apply Int.bmod_eq_of_le <;> omega
  have h4 := Int32.not_lt.mp h
  rw [Int32.le_iff_toInt_le, h2, h3] at h4
  omega
set_option maxHeartbeats 4000000 in
set_option maxRecDepth 100000 in
theorem law_loop {I : IT} {d : Nat} (hp : P_all I d) (E : Nat × (Nat → Int32)) (hL : E.1 ≤ 3072) (h0 : AH) : ∀ (k n : Nat) (g : mG) (A x a : mA) (f : mF), E.1 + 6 ≤ n + k → n ≤ E.1 + 6 → I g A x a f → ab_W jL d E h0 70 (fun v _ => v = some (vI 1)) (ab_at iL_law 18) [(3, vI (nI n)), (2, vR 0 0), (1, vR 13 0), (0, vR 1000 0)] [] (hM g A (xl x a f)) := by
  obtain ⟨p_feed, p_bicycle, p_part, p_fault, p_rounds, p_load, p_set, p_oil, p_stage, p_stageOf, p_drop, p_counts, p_stageCounts, p_when, p_heard, p_go, p_fit, p_odds, p_twos, p_apart, p_tells, p_length, p_beat, p_away, p_danger, p_least, p_row, p_judge, p_held, p_image, p_on, p_count⟩ := hp
  intro k
  induction k with
  | zero =>
    intro n g A x a f h1 h2 hI
    refine ab_run [18] 400 oL (Nat.le_refl _) 18 ?_
    refine ⟨fun q => ?_, fun q => ?_⟩
    · exact ⟨Or.inr rfl, rfl⟩
    · exact absurd (lp_go hL (by omega) q) (by omega)
  | succ k ih =>
    intro n g A x a f h1 h2 hI
    refine ab_run [18] 400 oL (Nat.le_refl _) 18 ?_
    refine ⟨fun q => ?_, fun q => ?_⟩
    · exact ⟨Or.inr rfl, rfl⟩
    have hn := lp_go hL (by omega) q
    have i0 : vp_in (nI n) E.1 := vp_in_nI (by omega) (by omega)
    have i1 : vp_in (nI n + 1) E.1 := lp_in (k := 1) hn (by decide) hL
    have i2 : vp_in (nI n + 2) E.1 := lp_in (k := 2) hn (by decide) hL
    have i3 : vp_in (nI n + 3) E.1 := lp_in (k := 3) hn (by decide) hL
    have i4 : vp_in (nI n + 4) E.1 := lp_in (k := 4) hn (by decide) hL
    have i5 : vp_in (nI n + 5) E.1 := lp_in (k := 5) hn (by decide) hL
    have hnext : ∀ (g : mG) (A x a : mA) (f : mF), I g A x a f → ab_W jL d E h0 70 (fun v _ => v = some (vI 1)) (ab_at iL_law 18) [(3, vI (nI n + 6)), (2, vR 0 0), (1, vR 13 0), (0, vR 1000 0)] [] (hM g A (xl x a f)) := by
      intro g A x a f hI
      rw [show nI n + 6 = nI (n + 6) from nI_add n 6]
      exact ih (n + 6) g A x a f (by omega) (by omega) hI
    refine ⟨i0, ?_⟩
    refine ⟨fun _ => ?_, fun _ => ?_⟩
    · refine ⟨i1, ?_⟩
      refine ⟨i2, ?_⟩
      refine ⟨i3, ?_⟩
      obtain ⟨r, x', a', f', g', A', e1, e2, hI'⟩ := p_feed _ _ g A x a f hI
      refine ⟨_, _, e1, Nat.le_refl _, ?_⟩
      refine ⟨i1, ?_⟩
      refine ⟨i2, ?_⟩
      refine ⟨i3, ?_⟩
      refine ⟨_, _, e2, Nat.le_refl _, ?_⟩
      refine ⟨fun _ => ?_, fun q => absurd rfl q⟩
      exact hnext g' A' x' a' f' hI'
    refine ⟨fun _ => ?_, fun _ => ?_⟩
    · obtain ⟨r, x', a', f', g', A', e1, e2, hI'⟩ := p_bicycle  g A x a f hI
      refine ⟨_, _, e1, Nat.le_refl _, ?_⟩
      refine ⟨_, _, e2, Nat.le_refl _, ?_⟩
      refine ⟨fun _ => ?_, fun q => absurd rfl q⟩
      exact hnext g' A' x' a' f' hI'
    refine ⟨fun _ => ?_, fun _ => ?_⟩
    · refine ⟨i1, ?_⟩
      obtain ⟨r, x', a', f', g', A', e1, e2, hI'⟩ := p_part _ g A x a f hI
      refine ⟨_, _, e1, Nat.le_refl _, ?_⟩
      refine ⟨i1, ?_⟩
      refine ⟨_, _, e2, Nat.le_refl _, ?_⟩
      refine ⟨fun _ => ?_, fun q => absurd rfl q⟩
      exact hnext g' A' x' a' f' hI'
    refine ⟨fun _ => ?_, fun _ => ?_⟩
    · refine ⟨i1, ?_⟩
      refine ⟨i2, ?_⟩
      obtain ⟨r, x', a', f', g', A', e1, e2, hI'⟩ := p_fault _ _ g A x a f hI
      refine ⟨_, _, e1, Nat.le_refl _, ?_⟩
      refine ⟨i1, ?_⟩
      refine ⟨i2, ?_⟩
      refine ⟨_, _, e2, Nat.le_refl _, ?_⟩
      refine ⟨fun _ => ?_, fun q => absurd rfl q⟩
      exact hnext g' A' x' a' f' hI'
    refine ⟨fun _ => ?_, fun _ => ?_⟩
    · refine ⟨i1, ?_⟩
      refine ⟨i2, ?_⟩
      refine ⟨i3, ?_⟩
      obtain ⟨r, x', a', f', g', A', e1, e2, hI'⟩ := p_rounds _ _ _ g A x a f hI
      refine ⟨_, _, e1, Nat.le_refl _, ?_⟩
      refine ⟨i1, ?_⟩
      refine ⟨i2, ?_⟩
      refine ⟨i3, ?_⟩
      refine ⟨_, _, e2, Nat.le_refl _, ?_⟩
      refine ⟨fun _ => ?_, fun q => absurd rfl q⟩
      exact hnext g' A' x' a' f' hI'
    refine ⟨fun _ => ?_, fun _ => ?_⟩
    · refine ⟨i1, ?_⟩
      refine ⟨i2, ?_⟩
      obtain ⟨r, x', a', f', g', A', e1, e2, hI'⟩ := p_load _ _ g A x a f hI
      refine ⟨_, _, e1, Nat.le_refl _, ?_⟩
      refine ⟨i1, ?_⟩
      refine ⟨i2, ?_⟩
      refine ⟨_, _, e2, Nat.le_refl _, ?_⟩
      refine ⟨fun _ => ?_, fun q => absurd rfl q⟩
      exact hnext g' A' x' a' f' hI'
    refine ⟨fun _ => ?_, fun _ => ?_⟩
    · refine ⟨i1, ?_⟩
      refine ⟨i2, ?_⟩
      obtain ⟨r, x', a', f', g', A', e1, e2, hI'⟩ := p_set _ _ g A x a f hI
      refine ⟨_, _, e1, Nat.le_refl _, ?_⟩
      refine ⟨i1, ?_⟩
      refine ⟨i2, ?_⟩
      refine ⟨_, _, e2, Nat.le_refl _, ?_⟩
      refine ⟨fun _ => ?_, fun q => absurd rfl q⟩
      exact hnext g' A' x' a' f' hI'
    refine ⟨fun _ => ?_, fun _ => ?_⟩
    · obtain ⟨r, x', a', f', g', A', e1, e2, hI'⟩ := p_oil  g A x a f hI
      refine ⟨_, _, e1, Nat.le_refl _, ?_⟩
      refine ⟨_, _, e2, Nat.le_refl _, ?_⟩
      refine ⟨fun _ => ?_, fun q => absurd rfl q⟩
      exact hnext g' A' x' a' f' hI'
    refine ⟨fun _ => ?_, fun _ => ?_⟩
    · refine ⟨i1, ?_⟩
      refine ⟨i2, ?_⟩
      refine ⟨i3, ?_⟩
      obtain ⟨r, x', a', f', g', A', e1, e2, hI'⟩ := p_stage _ _ _ g A x a f hI
      refine ⟨_, _, e1, Nat.le_refl _, ?_⟩
      refine ⟨i1, ?_⟩
      refine ⟨i2, ?_⟩
      refine ⟨i3, ?_⟩
      refine ⟨_, _, e2, Nat.le_refl _, ?_⟩
      refine ⟨fun _ => ?_, fun q => absurd rfl q⟩
      exact hnext g' A' x' a' f' hI'
    refine ⟨fun _ => ?_, fun _ => ?_⟩
    · refine ⟨i1, ?_⟩
      refine ⟨i2, ?_⟩
      obtain ⟨r, x', a', f', g', A', e1, e2, hI'⟩ := p_stageOf _ _ g A x a f hI
      refine ⟨_, _, e1, Nat.le_refl _, ?_⟩
      refine ⟨i1, ?_⟩
      refine ⟨i2, ?_⟩
      refine ⟨_, _, e2, Nat.le_refl _, ?_⟩
      refine ⟨fun _ => ?_, fun q => absurd rfl q⟩
      exact hnext g' A' x' a' f' hI'
    refine ⟨fun _ => ?_, fun _ => ?_⟩
    · obtain ⟨r, x', a', f', g', A', e1, e2, hI'⟩ := p_drop  g A x a f hI
      refine ⟨_, _, e1, Nat.le_refl _, ?_⟩
      refine ⟨_, _, e2, Nat.le_refl _, ?_⟩
      refine ⟨fun _ => ?_, fun q => absurd rfl q⟩
      exact hnext g' A' x' a' f' hI'
    refine ⟨fun _ => ?_, fun _ => ?_⟩
    · refine ⟨i1, ?_⟩
      obtain ⟨r, x', a', f', g', A', e1, e2, hI'⟩ := p_counts _ g A x a f hI
      refine ⟨_, _, e1, Nat.le_refl _, ?_⟩
      refine ⟨i1, ?_⟩
      refine ⟨_, _, e2, Nat.le_refl _, ?_⟩
      refine ⟨fun _ => ?_, fun q => absurd rfl q⟩
      exact hnext g' A' x' a' f' hI'
    refine ⟨fun _ => ?_, fun _ => ?_⟩
    · refine ⟨i1, ?_⟩
      refine ⟨i2, ?_⟩
      refine ⟨i3, ?_⟩
      refine ⟨i4, ?_⟩
      obtain ⟨r, x', a', f', g', A', e1, e2, hI'⟩ := p_stageCounts _ _ _ _ g A x a f hI
      refine ⟨_, _, e1, Nat.le_refl _, ?_⟩
      refine ⟨i1, ?_⟩
      refine ⟨i2, ?_⟩
      refine ⟨i3, ?_⟩
      refine ⟨i4, ?_⟩
      refine ⟨_, _, e2, Nat.le_refl _, ?_⟩
      refine ⟨fun _ => ?_, fun q => absurd rfl q⟩
      exact hnext g' A' x' a' f' hI'
    refine ⟨fun _ => ?_, fun _ => ?_⟩
    · refine ⟨i1, ?_⟩
      refine ⟨i2, ?_⟩
      obtain ⟨r, x', a', f', g', A', e1, e2, hI'⟩ := p_when _ _ g A x a f hI
      refine ⟨_, _, e1, Nat.le_refl _, ?_⟩
      refine ⟨i1, ?_⟩
      refine ⟨i2, ?_⟩
      refine ⟨_, _, e2, Nat.le_refl _, ?_⟩
      refine ⟨fun _ => ?_, fun q => absurd rfl q⟩
      exact hnext g' A' x' a' f' hI'
    refine ⟨fun _ => ?_, fun _ => ?_⟩
    · refine ⟨i1, ?_⟩
      obtain ⟨r, x', a', f', g', A', e1, e2, hI'⟩ := p_heard _ g A x a f hI
      refine ⟨_, _, e1, Nat.le_refl _, ?_⟩
      refine ⟨i1, ?_⟩
      refine ⟨_, _, e2, Nat.le_refl _, ?_⟩
      refine ⟨fun _ => ?_, fun q => absurd rfl q⟩
      exact hnext g' A' x' a' f' hI'
    refine ⟨fun _ => ?_, fun _ => ?_⟩
    · obtain ⟨r, x', a', f', g', A', e1, e2, hI'⟩ := p_go  g A x a f hI
      refine ⟨_, _, e1, Nat.le_refl _, ?_⟩
      refine ⟨_, _, e2, Nat.le_refl _, ?_⟩
      refine ⟨fun _ => ?_, fun q => absurd rfl q⟩
      exact hnext g' A' x' a' f' hI'
    refine ⟨fun _ => ?_, fun _ => ?_⟩
    · refine ⟨i1, ?_⟩
      refine ⟨i2, ?_⟩
      obtain ⟨r, x', a', f', g', A', e1, e2, hI'⟩ := p_fit _ _ g A x a f hI
      refine ⟨_, _, e1, Nat.le_refl _, ?_⟩
      refine ⟨i1, ?_⟩
      refine ⟨i2, ?_⟩
      refine ⟨_, _, e2, Nat.le_refl _, ?_⟩
      refine ⟨fun _ => ?_, fun q => absurd rfl q⟩
      exact hnext g' A' x' a' f' hI'
    refine ⟨fun _ => ?_, fun _ => ?_⟩
    · refine ⟨i1, ?_⟩
      refine ⟨i2, ?_⟩
      refine ⟨i3, ?_⟩
      refine ⟨i4, ?_⟩
      obtain ⟨r, x', a', f', g', A', e1, e2, hI'⟩ := p_odds _ _ _ _ g A x a f hI
      refine ⟨_, _, e1, Nat.le_refl _, ?_⟩
      refine ⟨i1, ?_⟩
      refine ⟨i2, ?_⟩
      refine ⟨i3, ?_⟩
      refine ⟨i4, ?_⟩
      refine ⟨_, _, e2, Nat.le_refl _, ?_⟩
      refine ⟨fun _ => ?_, fun q => absurd rfl q⟩
      exact hnext g' A' x' a' f' hI'
    refine ⟨fun _ => ?_, fun _ => ?_⟩
    · refine ⟨i1, ?_⟩
      refine ⟨i2, ?_⟩
      refine ⟨i3, ?_⟩
      obtain ⟨r, x', a', f', g', A', e1, e2, hI'⟩ := p_twos _ _ _ g A x a f hI
      refine ⟨_, _, e1, Nat.le_refl _, ?_⟩
      refine ⟨i1, ?_⟩
      refine ⟨i2, ?_⟩
      refine ⟨i3, ?_⟩
      refine ⟨_, _, e2, Nat.le_refl _, ?_⟩
      refine ⟨fun _ => ?_, fun q => absurd rfl q⟩
      exact hnext g' A' x' a' f' hI'
    refine ⟨fun _ => ?_, fun _ => ?_⟩
    · refine ⟨i1, ?_⟩
      refine ⟨i2, ?_⟩
      obtain ⟨r, x', a', f', g', A', e1, e2, hI'⟩ := p_apart _ _ g A x a f hI
      refine ⟨_, _, e1, Nat.le_refl _, ?_⟩
      refine ⟨i1, ?_⟩
      refine ⟨i2, ?_⟩
      refine ⟨_, _, e2, Nat.le_refl _, ?_⟩
      refine ⟨fun _ => ?_, fun q => absurd rfl q⟩
      exact hnext g' A' x' a' f' hI'
    refine ⟨fun _ => ?_, fun _ => ?_⟩
    · refine ⟨i1, ?_⟩
      refine ⟨i2, ?_⟩
      obtain ⟨r, x', a', f', g', A', e1, e2, hI'⟩ := p_tells _ _ g A x a f hI
      refine ⟨_, _, e1, Nat.le_refl _, ?_⟩
      refine ⟨i1, ?_⟩
      refine ⟨i2, ?_⟩
      refine ⟨_, _, e2, Nat.le_refl _, ?_⟩
      refine ⟨fun _ => ?_, fun q => absurd rfl q⟩
      exact hnext g' A' x' a' f' hI'
    refine ⟨fun _ => ?_, fun _ => ?_⟩
    · refine ⟨i1, ?_⟩
      refine ⟨i2, ?_⟩
      refine ⟨i3, ?_⟩
      refine ⟨i4, ?_⟩
      refine ⟨i5, ?_⟩
      obtain ⟨r, x', a', f', g', A', e1, e2, hI'⟩ := p_length _ _ _ _ _ g A x a f hI
      refine ⟨_, _, e1, Nat.le_refl _, ?_⟩
      refine ⟨i1, ?_⟩
      refine ⟨i2, ?_⟩
      refine ⟨i3, ?_⟩
      refine ⟨i4, ?_⟩
      refine ⟨i5, ?_⟩
      refine ⟨_, _, e2, Nat.le_refl _, ?_⟩
      refine ⟨fun _ => ?_, fun q => absurd rfl q⟩
      exact hnext g' A' x' a' f' hI'
    refine ⟨fun _ => ?_, fun _ => ?_⟩
    · refine ⟨i1, ?_⟩
      refine ⟨i2, ?_⟩
      refine ⟨i3, ?_⟩
      obtain ⟨r, x', a', f', g', A', e1, e2, hI'⟩ := p_beat _ _ _ g A x a f hI
      refine ⟨_, _, e1, Nat.le_refl _, ?_⟩
      refine ⟨i1, ?_⟩
      refine ⟨i2, ?_⟩
      refine ⟨i3, ?_⟩
      refine ⟨_, _, e2, Nat.le_refl _, ?_⟩
      refine ⟨fun _ => ?_, fun q => absurd rfl q⟩
      exact hnext g' A' x' a' f' hI'
    refine ⟨fun _ => ?_, fun _ => ?_⟩
    · refine ⟨i1, ?_⟩
      obtain ⟨r, x', a', f', g', A', e1, e2, hI'⟩ := p_away _ g A x a f hI
      refine ⟨_, _, e1, Nat.le_refl _, ?_⟩
      refine ⟨i1, ?_⟩
      refine ⟨_, _, e2, Nat.le_refl _, ?_⟩
      refine ⟨fun _ => ?_, fun q => absurd rfl q⟩
      exact hnext g' A' x' a' f' hI'
    refine ⟨fun _ => ?_, fun _ => ?_⟩
    · refine ⟨i1, ?_⟩
      obtain ⟨r, x', a', f', g', A', e1, e2, hI'⟩ := p_danger _ g A x a f hI
      refine ⟨_, _, e1, Nat.le_refl _, ?_⟩
      refine ⟨i1, ?_⟩
      refine ⟨_, _, e2, Nat.le_refl _, ?_⟩
      refine ⟨fun _ => ?_, fun q => absurd rfl q⟩
      exact hnext g' A' x' a' f' hI'
    refine ⟨fun _ => ?_, fun _ => ?_⟩
    · refine ⟨i1, ?_⟩
      obtain ⟨r, x', a', f', g', A', e1, e2, hI'⟩ := p_least _ g A x a f hI
      refine ⟨_, _, e1, Nat.le_refl _, ?_⟩
      refine ⟨i1, ?_⟩
      refine ⟨_, _, e2, Nat.le_refl _, ?_⟩
      refine ⟨fun _ => ?_, fun q => absurd rfl q⟩
      exact hnext g' A' x' a' f' hI'
    refine ⟨fun _ => ?_, fun _ => ?_⟩
    · refine ⟨i1, ?_⟩
      obtain ⟨r, x', a', f', g', A', e1, e2, hI'⟩ := p_row _ g A x a f hI
      refine ⟨_, _, e1, Nat.le_refl _, ?_⟩
      refine ⟨i1, ?_⟩
      refine ⟨_, _, e2, Nat.le_refl _, ?_⟩
      refine ⟨fun _ => ?_, fun q => absurd rfl q⟩
      exact hnext g' A' x' a' f' hI'
    refine ⟨fun _ => ?_, fun _ => ?_⟩
    · obtain ⟨r, x', a', f', g', A', e1, e2, hI'⟩ := p_judge  g A x a f hI
      refine ⟨_, _, e1, Nat.le_refl _, ?_⟩
      refine ⟨_, _, e2, Nat.le_refl _, ?_⟩
      refine ⟨fun _ => ?_, fun q => absurd rfl q⟩
      exact hnext g' A' x' a' f' hI'
    refine ⟨fun _ => ?_, fun _ => ?_⟩
    · obtain ⟨r, x', a', f', g', A', e1, e2, hI'⟩ := p_held  g A x a f hI
      refine ⟨_, _, e1, Nat.le_refl _, ?_⟩
      refine ⟨_, _, e2, Nat.le_refl _, ?_⟩
      refine ⟨fun _ => ?_, fun q => absurd rfl q⟩
      exact hnext g' A' x' a' f' hI'
    refine ⟨fun _ => ?_, fun _ => ?_⟩
    · obtain ⟨r, x', a', f', g', A', e1, e2, hI'⟩ := p_image  g A x a f hI
      refine ⟨_, _, e1, Nat.le_refl _, ?_⟩
      refine ⟨_, _, e2, Nat.le_refl _, ?_⟩
      refine ⟨fun _ => ?_, fun q => absurd rfl q⟩
      exact hnext g' A' x' a' f' hI'
    refine ⟨fun _ => ?_, fun _ => ?_⟩
    · obtain ⟨r, x', a', f', g', A', e1, e2, hI'⟩ := p_on  g A x a f hI
      refine ⟨_, _, e1, Nat.le_refl _, ?_⟩
      refine ⟨_, _, e2, Nat.le_refl _, ?_⟩
      refine ⟨fun _ => ?_, fun q => absurd rfl q⟩
      exact hnext g' A' x' a' f' hI'
    refine ⟨fun _ => ?_, fun _ => ?_⟩
    · refine ⟨i1, ?_⟩
      obtain ⟨r, x', a', f', g', A', e1, e2, hI'⟩ := p_count _ g A x a f hI
      refine ⟨_, _, e1, Nat.le_refl _, ?_⟩
      refine ⟨i1, ?_⟩
      refine ⟨_, _, e2, Nat.le_refl _, ?_⟩
      refine ⟨fun _ => ?_, fun q => absurd rfl q⟩
      exact hnext g' A' x' a' f' hI'
    exact hnext g A x a f hI
