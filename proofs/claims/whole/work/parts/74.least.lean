theorem Srt_list {p w o : Nat → Nat} {m : Nat} (h : Srt p w o m) : (oP o m).Pairwise (obf p w) ∧ (oP o m).Nodup ∧ ∀ q, q ∈ oP o m ↔ q < m := by
  obtain ⟨h1, h2, h3⟩ := h
  have hp : (oP o m).Pairwise (obf p w) := by
    unfold oP
    rw [List.pairwise_map]
    refine List.Pairwise.imp_of_mem (fun {u v} hu hv huv => ?_) List.pairwise_lt_range
    exact h1 u v huv (List.mem_range.mp hv)
  refine ⟨hp, hp.imp (fun {u v} hu => ?_), fun q => ?_⟩
  · rintro rfl
    unfold obf at hu
    omega
  · rw [oP_mem]
    exact ⟨fun ⟨k, hk, e⟩ => e ▸ h2 k hk, fun hq => h3 q hq⟩
theorem fnd_hyp {g : mG} {A x a : mA} {f : mF} (h : IV g A x a f) {m : Nat} (em : A 2 3 = nI m) (hm : m ≤ 8) : (∀ i, i < m → A 2 (16 + 9 * i + 4) = nI (miN A i)) ∧ (∀ i, i < m → A 2 (16 + 9 * i + 3) = nI (wtN A i)) ∧ ∀ i, i < m → miN A i ≤ 99 ∧ wtN A i ≤ 99 :=
  ⟨fun i hi => (miN_ok h em hm hi).1, fun i hi => (wtN_ok h em hm hi).1, fun i hi => ⟨(miN_ok h em hm hi).2.2.2, (wtN_ok h em hm hi).2.2.2⟩⟩
set_option maxRecDepth 100000 in
theorem m_findLeast {g : mG} {A x a : mA} {f : mF} (h : IV g A x a f) {m : Nat} (em : A 2 3 = nI m) (hm : m ≤ 6) {o : Nat → Nat} (ho : Srt (miN A) (wtN A) o m) {D : Nat} (hD : m + 4 ≤ D) : ∃ c10 c11 : Nat → Int32, (∀ k, k < m → c11 k = nI (o k)) ∧ ∀ xs, ab_Ex D 0 yX5_findLeast [vR 0 0] (hM g A xs) none (oH g A (nI (oC (miN A) (wtN A) 0 (oP o m))) c10 c11 xs) := by
  obtain ⟨f1, f2, f3⟩ := fnd_hyp h em (by omega)
  obtain ⟨s1, s2, s3⟩ := Srt_list ho
  have hz : ∀ q, ¬ (0 : Nat).testBit q = true := fun q => by rw [Nat.zero_testBit]; decide
  obtain ⟨c10, c11, b, -, k2, k3⟩ := m_orders hm em f1 f2 f3 (D - m - 4) g m 0 (oP o m) 0 (fun _ => 0) (A 10) (A 11) (-9) none (by omega) (oP_len o m) s1 s2 (fun q hq => (s3 q).mp hq) (by omega) (fun q hq => ⟨fun z => absurd z (hz q), fun z => absurd ((s3 q).mpr hq) z⟩) (fun k hk => absurd hk (Nat.not_lt_zero k)) (show (-9 : Int32) < 0 by decide)
  obtain ⟨j1, -, j3⟩ := k2
  have j1 : b = nI (oC (miN A) (wtN A) 0 (oP o m)) := j1
  have j3 : ∀ k, k < m → c11 k = nI ((oP o m).getD k 0) := j3
  subst j1
  refine ⟨c10, c11, fun k hk => by rw [j3 k hk, oP_get o hk], fun xs => ?_⟩
  have k4 := k3 xs
  have e : oH g A (-9) (A 10) (A 11) xs = hM (upd g 22 (-9)) A xs := by
    unfold oH
    rw [mS_id, mS_id]
  rw [e] at k4
  have eD : D = (D - m - 4 + m + 3) + 1 := by omega
  rw [eD]
  refine ab_meth oX5_findLeast (D - m - 4 + m + 3) _ _ _ _ (Nat.le_refl _) rfl (fun E => ?_)
  refine ab_run [] 100 oX5_findLeast.1 (Nat.le_refl _) 0 ?_
  refine ⟨_, _, k4, Nat.le_refl _, ?_⟩
  exact ⟨rfl, rfl⟩
theorem IV_or {g : mG} {A x a : mA} {f : mF} (h : IV g A x a f) (b : Int32) (c10 c11 c : Nat → Int32) : IV (upd g 22 b) (mS (mS A 10 c10) 11 c11) x (mS a 46 c) f := IV_congr (fun k hk => by rw [mS_ne _ _ _ (by omega), mS_ne _ _ _ (by omega)]) (fun k hk => upd_ne (by omega)) (fun _ _ => rfl) (fun k _ h2 => mS_ne _ _ _ h2) h
theorem p_least : P_least IV 40 := by
  intro p1 g A x a f h
  obtain ⟨m, hm, em, exm⟩ := IV_m h
  by_cases c1 : p1 < -1
  · refine pr_rf h rc4 ?_ (fun xs => ?_)
    · refine ab_meth oX4_least 39 _ _ _ _ (Nat.le_refl _) rfl (fun E => ?_)
      refine ab_run [] 100 oX4_least.1 (Nat.le_refl _) 0 ?_
      refine ⟨fun c => absurd c1 (le_nlt c), fun c => ?_⟩
      exact ⟨_, _, x_rf _ _ x a f rc4, Nat.le_refl _, rfl, rfl⟩
    · refine ab_meth oX5_least 39 _ _ _ _ (Nat.le_refl _) rfl (fun E => ?_)
      refine ab_run [] 100 oX5_least.1 (Nat.le_refl _) 0 ?_
      refine ⟨fun c => absurd c1 (le_nlt c), fun c => ?_⟩
      refine ⟨fun c => absurd c (by decide), fun c => ?_⟩
      exact ⟨_, _, m_rf _ g A xs rc4, Nat.le_refl _, rfl, rfl⟩
  by_cases c2 : 6 < m
  · have c2m : ¬ A 2 3 ≤ 6 := by rw [em]; exact nI_ge (b := m) (a := 6) c2 (by omega)
    have c2x : ¬ x 17 5 ≤ 6 := by rw [exm]; exact nI_ge (b := m) (a := 6) c2 (by omega)
    refine pr_rf h rc6 ?_ (fun xs => ?_)
    · refine ab_meth oX4_least 39 _ _ _ _ (Nat.le_refl _) rfl (fun E => ?_)
      refine ab_run [] 100 oX4_least.1 (Nat.le_refl _) 0 ?_
      refine ⟨fun c => ?_, fun c => absurd (nlt_le c1) c⟩
      refine ⟨fun c => absurd c c2x, fun c => ?_⟩
      exact ⟨_, _, x_rf _ _ x a f rc6, Nat.le_refl _, rfl, rfl⟩
    · refine ab_meth oX5_least 39 _ _ _ _ (Nat.le_refl _) rfl (fun E => ?_)
      refine ab_run [] 100 oX5_least.1 (Nat.le_refl _) 0 ?_
      refine ⟨fun c => ?_, fun c => absurd (nlt_le c1) c⟩
      refine ⟨vp_d rfl, fun c => absurd c c2m, fun c => ?_⟩
      refine ⟨fun c => absurd c (by decide), fun c => ?_⟩
      exact ⟨_, _, m_rf _ g A xs rc6, Nat.le_refl _, rfl, rfl⟩
  have c2m : A 2 3 ≤ 6 := by rw [em]; exact (show nI m ≤ nI 6 from nI_le (by omega) (by omega))
  have c2x : x 17 5 ≤ 6 := by rw [exm]; exact (show nI m ≤ nI 6 from nI_le (by omega) (by omega))
  obtain ⟨o, c, hS, hc, hXo⟩ := x_order h em hm 37 (mbl g A)
  obtain ⟨c10, c11, hc11, hMo⟩ := m_findLeast h em (by omega) hS (D := 39) (by omega)
  by_cases c3 : p1 < nI m
  · have c3x : p1 < x 17 5 := by rw [exm]; exact c3
    have c3m : p1 < A 2 3 := by rw [em]; exact c3
    by_cases c4 : p1 = -1
    · have hsx := x_sumOf46 h em hm 38 (mbl g A) x (mS a 46 c) exm o (fun k hk => ⟨hc k hk, hS.2.1 k hk⟩)
      refine pr_w (r := nI (oC (miN A) (wtN A) 0 (oP o m))) (x' := x) (a' := mS a 46 c) (f' := f) (g' := upd g 22 (nI (oC (miN A) (wtN A) 0 (oP o m)))) (A' := mS (mS A 10 c10) 11 c11) ?_ (fun xs => ?_) (IV_or h _ c10 c11 c)
      · refine ab_meth oX4_least 39 _ _ _ _ (Nat.le_refl _) rfl (fun E => ?_)
        refine ab_run [] 100 oX4_least.1 (Nat.le_refl _) 0 ?_
        refine ⟨fun c => ?_, fun c => absurd (nlt_le c1) c⟩
        refine ⟨fun c => ?_, fun c => absurd c2x c⟩
        refine ⟨fun c => ?_, fun c => absurd c3x c⟩
        refine ⟨_, _, hXo, Nat.le_refl _, ?_⟩
        refine ⟨fun c => absurd c4 c, fun c => ?_⟩
        exact ⟨_, _, hsx, Nat.le_refl _, rfl, rfl⟩
      · refine ab_meth oX5_least 39 _ _ _ _ (Nat.le_refl _) rfl (fun E => ?_)
        refine ab_run [] 100 oX5_least.1 (Nat.le_refl _) 0 ?_
        refine ⟨fun c => ?_, fun c => absurd (nlt_le c1) c⟩
        refine ⟨vp_d rfl, fun c => ?_, fun c => absurd c2m c⟩
        refine ⟨fun c => ?_, fun c => absurd rfl c⟩
        refine ⟨_, _, hMo xs, Nat.le_refl _, ?_⟩
        refine ⟨fun c => absurd c (by rw [c4]; decide), fun c => ?_⟩
        exact ⟨rfl, rfl⟩
    have c5 : 0 ≤ p1 := by
      have q1 := Int32.le_iff_toInt_le.mp (nlt_le c1)
      have z1 : (-1 : Int32).toInt = -1 := rfl
      have z0 : (0 : Int32).toInt = 0 := rfl
      rw [Int32.le_iff_toInt_le]
      have : p1.toInt ≠ -1 := fun q => c4 (Int32.toInt_inj.mp q)
      omega
    obtain ⟨i, hi, rfl⟩ := ix_of (m := m) (by omega) ⟨c5, c3⟩
    refine pr_w (r := nI (o i)) (x' := x) (a' := mS a 46 c) (f' := f) (g' := upd g 22 (nI (oC (miN A) (wtN A) 0 (oP o m)))) (A' := mS (mS A 10 c10) 11 c11) (ex_r (r := c i) ?_ (hc i hi)) (fun xs => ex_r (r := c11 i) ?_ (hc11 i hi)) (IV_or h _ c10 c11 c)
    · refine ab_meth oX4_least 39 _ _ _ _ (Nat.le_refl _) rfl (fun E => ?_)
      refine ab_run [] 100 oX4_least.1 (Nat.le_refl _) 0 ?_
      refine ⟨fun c => ?_, fun c => absurd (nlt_le c1) c⟩
      refine ⟨fun c => ?_, fun c => absurd c2x c⟩
      refine ⟨fun c => ?_, fun c => absurd c3x c⟩
      refine ⟨_, _, hXo, Nat.le_refl _, ?_⟩
      refine ⟨fun c => ?_, fun c => absurd c c4⟩
      refine ⟨(vp_in_nI (by omega) (by omega) : vp_in (nI i) 8), ?_⟩
      rw [nI_clamp (by omega)]
      exact ⟨rfl, rfl⟩
    · refine ab_meth oX5_least 39 _ _ _ _ (Nat.le_refl _) rfl (fun E => ?_)
      refine ab_run [] 100 oX5_least.1 (Nat.le_refl _) 0 ?_
      refine ⟨fun c => ?_, fun c => absurd (nlt_le c1) c⟩
      refine ⟨vp_d rfl, fun c => ?_, fun c => absurd c2m c⟩
      refine ⟨fun c => ?_, fun c => absurd rfl c⟩
      refine ⟨_, _, hMo xs, Nat.le_refl _, ?_⟩
      refine ⟨fun c => ?_, fun c => absurd c5 c⟩
      refine ⟨vp_d rfl, fun c => absurd c3m (le_nlt c), fun c => ?_⟩
      refine ⟨(vp_in_nI (by omega) (by omega) : vp_in (nI i) 8), ?_⟩
      rw [nI_clamp (by omega)]
      exact ⟨rfl, rfl⟩
  have c3x : ¬ p1 < x 17 5 := by rw [exm]; exact c3
  have c3m : ¬ p1 < A 2 3 := by rw [em]; exact c3
  have c5 : 0 ≤ p1 := Int32.le_trans (nI_pos' (n := m) (by omega)) (nlt_le c3)
  refine pr_w (r := -9) (x' := x) (a' := a) (f' := f) (g' := upd g 22 (nI (oC (miN A) (wtN A) 0 (oP o m)))) (A' := mS (mS A 10 c10) 11 c11) ?_ (fun xs => ?_) (by have h9 := IV_or h (nI (oC (miN A) (wtN A) 0 (oP o m))) c10 c11 (a 46); rw [mS_id] at h9; exact h9)
  · refine ab_meth oX4_least 39 _ _ _ _ (Nat.le_refl _) rfl (fun E => ?_)
    refine ab_run [] 100 oX4_least.1 (Nat.le_refl _) 0 ?_
    refine ⟨fun c => ?_, fun c => absurd (nlt_le c1) c⟩
    refine ⟨fun c => ?_, fun c => absurd c2x c⟩
    refine ⟨fun c => absurd c c3x, fun c => ?_⟩
    exact ⟨rfl, rfl⟩
  · refine ab_meth oX5_least 39 _ _ _ _ (Nat.le_refl _) rfl (fun E => ?_)
    refine ab_run [] 100 oX5_least.1 (Nat.le_refl _) 0 ?_
    refine ⟨fun c => ?_, fun c => absurd (nlt_le c1) c⟩
    refine ⟨vp_d rfl, fun c => ?_, fun c => absurd c2m c⟩
    refine ⟨fun c => ?_, fun c => absurd rfl c⟩
    refine ⟨_, _, hMo xs, Nat.le_refl _, ?_⟩
    refine ⟨fun c => ?_, fun c => absurd c5 c⟩
    refine ⟨vp_d rfl, fun c => ?_, fun c => absurd (nle_lt c) c3m⟩
    exact ⟨rfl, rfl⟩
