theorem IV_bic {g : mG} {A x a : mA} {f : mF} {A' x' a' : mA} {f' : mF} {M N' T' : Nat → Int32} {u : Int32} (h : IV g A x a f) (hF : FrB A x a f A' x' a' f') (hW : WF (A' 2)) (hB : BR (A' 2) x' a' f' 17) : IV (upd (upd g 8 u) 7 0) (mS A' 6 T') (mS x' 14 (upd M 1 0)) (mS a' 16 N') f' := by
  obtain ⟨h1, h2, h3, h4, h5, h6, h7⟩ := h
  obtain ⟨fA, fx, fa, ff⟩ := hF
  have A1 : mS A' 6 T' 1 = A 1 := fA 1 (by omega) (by omega)
  have A3 : mS A' 6 T' 3 = A 3 := fA 3 (by omega) (by omega)
  have A12 : mS A' 6 T' 12 = A 12 := fA 12 (by omega) (by omega)
  have a47 : mS a' 16 N' 47 = a 47 := fa 47 (by omega)
  have a48 : mS a' 16 N' 48 = a 48 := fa 48 (by omega)
  have x13 : mS x' 14 (upd M 1 0) 13 = x 13 := fx 13 (by omega) (by omega)
  have g24 : upd (upd g 8 u) 7 0 24 = g 24 := rfl
  have g4 : upd (upd g 8 u) 7 0 4 = g 4 := rfl
  refine ⟨?_, ⟨0, by omega, rfl, rfl, fun k hk => absurd hk (Nat.not_lt_zero k)⟩, ?_, ?_, hW, ?_, ?_⟩
  · rw [A1, a48]
    exact h1
  · rw [g24, x13, A12, a47]
    exact h3
  · rw [g4, x13]
    exact h4
  · exact BR_congr rfl rfl rfl rfl rfl rfl rfl hB
  · rw [g4, A3]
    intro q
    obtain ⟨i1, i2⟩ := h7 q
    exact ⟨i1, BR_congr (fx 33 (by omega) (by omega)) (fa 34 (by omega)) (fa 37 (by omega)) (fa 38 (by omega)) (fa 39 (by omega)) (fa 40 (by omega)) (ff 36 (by omega) (by omega)) i2⟩
set_option maxRecDepth 100000 in
theorem p_bicycle : P_bicycle IV 40 := by
  intro g A x a f h
  obtain ⟨-, ⟨n, hn, en, ex, et⟩, -, -, w2, b2, -⟩ := id h
  have eP : pk (A 5) n = pk (a 15) n := by
    funext k
    unfold pk
    by_cases q : k < n
    · rw [if_pos q, if_pos q, et k q]
    · rw [if_neg q, if_neg q]
  obtain ⟨L1, N1, p1, hL1, hX1⟩ := x_form 33 (mbl g A) x a f ex hn
  obtain ⟨T2, p2, hm1, hm2⟩ := m_form 35 g A en hn (n + 1) 0 0 (A 6) (Nat.zero_le _) (by omega)
  rw [eP] at hm1 hm2
  have hle := fmR_le (t := a 15) (n := n) (n + 1) 0 0 (Nat.zero_le _)
  have hcc := fun c hc => fmR_c (P := pk (a 15) n) (n := n) (n + 1) 0 0 c hc
  have hlen : ∀ c, (fmR (pk (a 15) n) n (n + 1) 0 0).1 = some c → 0 < n := by
    intro c hc
    rcases Nat.eq_zero_or_pos n with q | q
    · subst q
      have hz : fmR (pk (a 15) 0) 0 (0 + 1) 0 0 = (none, 0) := by
        have e0 : pk (a 15) 0 0 = -1 := if_neg (by omega)
        have e1 : mStm (pk (a 15) 0) 0 (fun _ => 0) = (0, 0, fun _ => 0) := by
          unfold mStm
          rw [e0, if_neg (by decide), if_neg (by decide)]
        unfold fmR sK sP
        rw [e1]
        rfl
      rw [hz] at hc
      exact nomatch hc
    · exact q
  have hlock := fun c (hc : c ≤ 65) (p0 : 0 < n) => lock (P := pk (a 15) n) (g := g) hn en hc (n + 1) 0 0
  generalize hR : fmR (pk (a 15) n) n (n + 1) 0 0 = R at *
  obtain ⟨R1, q⟩ := R
  have hle : q ≤ n := hle
  cases R1 with
  | none =>
    have hm1 := hm1 rfl
    have hX1 : ab_Ex 39 0 yX3_checkForm [vR 14 0] (hX (mbl g A) x a f) (some (vI (-1000 - nI q))) (tH (mbl g A) x a f L1 N1 p1) := hX1
    have hneg : -1000 - nI q < 0 := by
      have t1 : (-1000 - nI q).toInt = -1000 - q := by
        rw [Int32.toInt_sub, nI_toInt (by omega), show (-1000 : Int32).toInt = -1000 from rfl]
        apply Int.bmod_eq_of_le <;> omega
      rw [Int32.lt_iff_toInt_lt, t1]
      show _ < (0 : Int)
      omega
    refine pr_w (r := -1000 - nI q) (x' := mS x 14 (upd (upd L1 2 (nI p1)) 1 0)) (a' := mS a 16 N1) (f' := f) (g' := upd (upd g 8 (nI p2)) 7 0) (A' := mS A 6 T2) ?_ (fun xs => ?_) (IV_bic h ⟨fun _ _ _ => rfl, fun _ _ _ => rfl, fun _ _ => rfl, fun _ _ _ => rfl⟩ w2 b2)
    · refine ab_meth oX4_bicycle 39 _ _ _ _ (Nat.le_refl _) rfl (fun E => ?_)
      refine ab_run [] 100 oX4_bicycle.1 (Nat.le_refl _) 0 ?_
      refine ⟨_, _, hX1, Nat.le_refl _, ?_⟩
      refine ⟨fun _ => ?_, fun z => absurd hneg z⟩
      exact ⟨rfl, rfl⟩
    · have hreads : ab_Ex 39 0 yX5_reads [vR 0 0] (hM g A xs) (some (vI (-1000 - nI q))) (mH g A xs T2 p2) := by
        refine ab_meth oX5_reads 38 _ _ _ _ (Nat.le_refl _) rfl (fun E => ?_)
        refine ab_run [7] 100 oX5_reads.1 (Nat.le_refl _) 0 ?_
        exact hm1 xs E _
      refine ab_meth oX5_bicycle 39 _ _ _ _ (Nat.le_refl _) rfl (fun E => ?_)
      refine ab_run [] 100 oX5_bicycle.1 (Nat.le_refl _) 0 ?_
      refine ⟨_, _, hreads, Nat.le_refl _, ?_⟩
      exact ⟨rfl, rfl⟩
  | some c =>
    have hm2 := hm2 c rfl
    have hX1 : ab_Ex 39 0 yX3_checkForm [vR 14 0] (hX (mbl g A) x a f) (some (vI (nI c))) (tH (mbl g A) x a f L1 N1 p1) := hX1
    have hc1 := hcc c rfl
    have p0 := hlen c rfl
    have em : ∀ k, k < 112 → mS A 4 (mcp (A 4) (A 2) 112) 4 k = A 2 k := fun k hk => by rw [mS_eq, mcp_lt hk]
    have ed : pk (aC a 25 17 15) n = pk (a 15) n := rfl
    have frs : FrB A x a f (mS A 4 (mcp (A 4) (A 2) 112)) (mS x 25 (x 17)) (aC a 25 17) (fC f 28 20 8) := by
      refine ⟨fun k _ h4 => mS_ne _ _ _ h4, fun k _ h25 => mS_ne _ _ _ h25, fun k hk => (aC_ne hk).2, fun k _ h28 => ?_⟩
      unfold fC
      rw [if_neg h28]
    have b2' : BR (mS A 4 (mcp (A 4) (A 2) 112) 2) (mS x 25 (x 17)) (aC a 25 17) (fC f 28 20 8) 17 := BR_congr rfl rfl rfl rfl rfl rfl rfl b2
    have b4' : BR (mS A 4 (mcp (A 4) (A 2) 112) 4) (mS x 25 (x 17)) (aC a 25 17) (fC f 28 20 8) 25 := BR_copy (b := 17) (c := 25) em rfl (fun k hk => cpy_lt hk) (fun k hk => cpy_lt hk) (fun k hk => cpy_lt hk) (fun k hk => cpy_lt hk) (fun k hk => cpy_lt hk) (fun k hk => fC_lt hk) b2
    obtain ⟨r, A', x', a', f', L', N', T', p', ⟨g1, g2, g3, g4⟩, v1, v2, v3, v4⟩ := hlock c (by omega) p0 (mS A 4 (mcp (A 4) (A 2) 112)) (mS x 25 (x 17)) (aC a 25 17) (fC f 28 20 8) L1 N1 T2 ed eP hL1 p0 rfl w2 b2' (WF_congr em w2) b4'
    have hfr : FrB A x a f A' x' a' f' := ⟨fun k h2 h4 => (g1 k h2 h4).trans (frs.1 k h2 h4), fun k h2 h4 => (g2 k h2 h4).trans (frs.2.1 k h2 h4), fun k hk => (g3 k hk).trans (frs.2.2.1 k hk), fun k h2 h4 => (g4 k h2 h4).trans (frs.2.2.2 k h2 h4)⟩
    refine pr_w (r := r) (x' := mS x' 14 (upd (upd L' 2 (nI p')) 1 0)) (a' := mS a' 16 N') (f' := f') (g' := upd (upd g 8 (nI p')) 7 0) (A' := mS A' 6 T') ?_ (fun xs => ?_) (IV_bic h hfr v1 v2)
    · have htake : ab_Ex 39 0 yX4_takeStatements [vR 13 0, vI (nI c)] (tH (mbl g A) x a f L1 N1 p1) (some (vI r)) (tH (mbl g A) x' a' f' L' N' p') := by
        refine ab_meth oX4_takeStatements 38 _ _ _ _ (Nat.le_refl _) rfl (fun E => ?_)
        have h9 := v3 (mbl g A) E (tH (mbl g A) x a f L1 N1 p1)
        have hc := b_copy25_17 36 (mbl g A) (mS x 14 (upd L1 2 (nI p1))) (mS a 16 N1) f
        refine ab_run [21] 100 oX4_takeStatements.1 (Nat.le_refl _) 0 ?_
        refine ⟨_, _, hc, Nat.le_refl _, ?_⟩
        exact h9
      refine ab_meth oX4_bicycle 39 _ _ _ _ (Nat.le_refl _) rfl (fun E => ?_)
      refine ab_run [] 100 oX4_bicycle.1 (Nat.le_refl _) 0 ?_
      refine ⟨_, _, hX1, Nat.le_refl _, ?_⟩
      refine ⟨fun z => absurd z (nI_pos (by omega)), fun _ => ?_⟩
      refine ⟨_, _, htake, Nat.le_refl _, ?_⟩
      exact ⟨rfl, rfl⟩
    · have hreads : ab_Ex 39 0 yX5_reads [vR 0 0] (hM g A xs) (some (vI r)) (mH g A' xs T' p') := by
        refine ab_meth oX5_reads 38 _ _ _ _ (Nat.le_refl _) rfl (fun E => ?_)
        refine ab_run [7] 100 oX5_reads.1 (Nat.le_refl _) 0 ?_
        exact hm2 xs E _ _ (m_rdTop A xs T2 p2 c E _ _ (v4 xs E _))
      refine ab_meth oX5_bicycle 39 _ _ _ _ (Nat.le_refl _) rfl (fun E => ?_)
      refine ab_run [] 100 oX5_bicycle.1 (Nat.le_refl _) 0 ?_
      refine ⟨_, _, hreads, Nat.le_refl _, ?_⟩
      exact ⟨rfl, rfl⟩
