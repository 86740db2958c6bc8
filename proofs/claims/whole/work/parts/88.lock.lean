def FrB (A x a : mA) (f : mF) (A' x' a' : mA) (f' : mF) : Prop := (∀ k, k ≠ 2 → k ≠ 4 → A' k = A k) ∧ (∀ k, k ≠ 17 → k ≠ 25 → x' k = x k) ∧ (∀ k, ¬ (18 ≤ k ∧ k ≤ 32) → a' k = a k) ∧ (∀ k, k ≠ 20 → k ≠ 28 → f' k = f k)
theorem aC_ne {a : mA} {k : Nat} (h : ¬ (18 ≤ k ∧ k ≤ 32)) : aC a 17 25 k = a k ∧ aC a 25 17 k = a k := by
  unfold aC
  constructor
  · rw [mS_ne _ _ _ (by omega), mS_ne _ _ _ (by omega), mS_ne _ _ _ (by omega), mS_ne _ _ _ (by omega), mS_ne _ _ _ (by omega)]
  · rw [mS_ne _ _ _ (by omega), mS_ne _ _ _ (by omega), mS_ne _ _ _ (by omega), mS_ne _ _ _ (by omega), mS_ne _ _ _ (by omega)]
-- the end: the draft becomes the bicycle
set_option maxRecDepth 100000 in
theorem x_tkEnd (mb : Nat → AB) (x a : mA) (f : mF) (L N : Nat → Int32) (p c : Nat) (E : Nat × (Nat → Int32)) (h0 : AH) : ab_W jX4_takeStatements 38 E h0 70 (fun v1 h1 => v1 = some (vI (nI c)) ∧ h1 = tH mb (mS x 17 (x 25)) (aC a 17 25) (fC f 20 28 8) L N p) (ab_at iX4_takeStatements 21) [(2, vI (nI c)), (0, vR 13 0), (1, vI (nI c))] [] (tH mb x a f L N p) := by
  refine ab_run [21] 100 oX4_takeStatements.1 (Nat.le_refl _) 21 ?_
  refine ⟨fun _ => ?_, fun z => absurd (Int32.le_refl _) z⟩
  have h := b_copy17_25 36 mb (mS x 14 (upd L 2 (nI p))) (mS a 16 N) f
  refine ⟨_, _, h, Nat.le_refl _, ?_⟩
  exact ⟨rfl, rfl⟩
set_option maxRecDepth 100000 in
theorem m_rdEnd {g : mG} {n : Nat} (hn : n ≤ 64) (hg : g 7 = nI n) (A : mA) (xs : List AB) (T : Nat → Int32) {p : Nat} (hp : p = n) (c : Nat) (E : Nat × (Nat → Int32)) (h0 : AH) : ab_W jX5_reads 38 E h0 70 (fun v1 h1 => v1 = some (vI (nI c)) ∧ h1 = mH g (mS A 2 (mcp (A 2) (A 4) 112)) xs T p) (ab_at iX5_reads 68) [(1, vI (nI c)), (0, vR 0 0)] [] (mH g A xs T p) := by
  have loop : ∀ (r i : Nat), i + r = 112 → ab_W jX5_reads 38 E h0 70 (fun v1 h1 => v1 = some (vI (nI c)) ∧ h1 = mH g (mS A 2 (mcp (A 2) (A 4) 112)) xs T p) (ab_at iX5_reads 114) [(2, vI (nI i)), (1, vI (nI c)), (0, vR 0 0)] [] (mH g (mS A 2 (mcp (A 2) (A 4) i)) xs T p) := by
    intro r
    induction r with
    | zero =>
      intro i hi
      refine ab_run [114] 100 oX5_reads.1 (Nat.le_refl _) 114 ?_
      refine ⟨fun c1 => ?_, fun c1 => absurd (show nI 112 ≤ nI i from nI_le (by omega) (by omega)) c1⟩
      rw [show i = 112 by omega]
      exact ⟨rfl, rfl⟩
    | succ r ih =>
      intro i hi
      refine ab_run [114] 100 oX5_reads.1 (Nat.le_refl _) 114 ?_
      refine ⟨fun c1 => absurd c1 (nI_lt_m (m := 112) (by omega) (by omega)), fun c1 => ?_⟩
      refine ⟨vp_in_nI (by omega) (by omega), vp_in_nI (by omega) (by omega), ?_⟩
      have := ih (i + 1) (by omega)
      rw [nI_succ, ← mcp_s (A 2) (A 4) i] at this
      rw [nI_clamp (by omega)]
      exact this
  have l0 := loop 112 0 (by omega)
  rw [mcp_0, mS_id] at l0
  refine ab_run [68, 114] 100 oX5_reads.1 (Nat.le_refl _) 68 ?_
  refine ⟨fun _ => ?_, fun (z : ¬ g 7 ≤ nI p) => absurd (by rw [hg, hp]; exact Int32.le_refl _) z⟩
  exact l0
set_option maxRecDepth 100000 in
theorem m_rdTop {g : mG} (A : mA) (xs : List AB) (T : Nat → Int32) (p c : Nat) (E : Nat × (Nat → Int32)) (h0 : AH) (Q : Option AV → AH → Prop) (h : ab_W jX5_reads 38 E h0 70 Q (ab_at iX5_reads 68) [(1, vI (nI c)), (0, vR 0 0)] [] (mH g (mS A 4 (mcp (A 4) (A 2) 112)) xs T 0)) : ab_W jX5_reads 38 E h0 70 Q (ab_at iX5_reads 37) [(1, vI (nI c)), (0, vR 0 0)] [] (mH g A xs T p) := by
  have loop : ∀ (r i : Nat), i + r = 112 → ab_W jX5_reads 38 E h0 70 Q (ab_at iX5_reads 39) [(2, vI (nI i)), (1, vI (nI c)), (0, vR 0 0)] [] (mH g (mS A 4 (mcp (A 4) (A 2) i)) xs T p) := by
    intro r
    induction r with
    | zero =>
      intro i hi
      refine ab_run [39, 68] 100 oX5_reads.1 (Nat.le_refl _) 39 ?_
      refine ⟨fun c1 => ?_, fun c1 => absurd (show nI 112 ≤ nI i from nI_le (by omega) (by omega)) c1⟩
      rw [show i = 112 by omega]
      exact ab_W_lv (lv_pk [1, 2] rfl) h
    | succ r ih =>
      intro i hi
      refine ab_run [39, 68] 100 oX5_reads.1 (Nat.le_refl _) 39 ?_
      refine ⟨fun c1 => absurd c1 (nI_lt_m (m := 112) (by omega) (by omega)), fun c1 => ?_⟩
      refine ⟨vp_in_nI (by omega) (by omega), vp_in_nI (by omega) (by omega), ?_⟩
      have := ih (i + 1) (by omega)
      rw [nI_succ, ← mcp_s (A 4) (A 2) i] at this
      rw [nI_clamp (by omega)]
      exact this
  have l0 := loop 112 0 (by omega)
  rw [mcp_0, mS_id] at l0
  refine ab_run [39] 100 oX5_reads.1 (Nat.le_refl _) 37 ?_
  exact l0
set_option maxRecDepth 100000 in
theorem lock {n c : Nat} {P : Nat → Int32} {g : mG} (hn : n ≤ 64) (hg : g 7 = nI n) (hc : c ≤ 65) : ∀ (k p i : Nat) (A x a : mA) (f : mF) (L N T : Nat → Int32), pk (a 15) n = P → pk (A 5) n = P → L 1 = nI n → p < n → (fmR P n k p i).1 = some c → WF (A 2) → BR (A 2) x a f 17 → WF (A 4) → BR (A 4) x a f 25 → ∃ (r : Int32) (A' x' a' : mA) (f' : mF) (L' N' T' : Nat → Int32) (p' : Nat), FrB A x a f A' x' a' f' ∧ WF (A' 2) ∧ BR (A' 2) x' a' f' 17 ∧ (∀ (mb : Nat → AB) (E : Nat × (Nat → Int32)) (h0 : AH), ab_W jX4_takeStatements 38 E h0 70 (fun v1 h1 => v1 = some (vI r) ∧ h1 = tH mb x' a' f' L' N' p') (ab_at iX4_takeStatements 21) [(2, vI (nI i)), (0, vR 13 0), (1, vI (nI c))] [] (tH mb x a f L N p)) ∧ (∀ (xs : List AB) (E : Nat × (Nat → Int32)) (h0 : AH), ab_W jX5_reads 38 E h0 70 (fun v1 h1 => v1 = some (vI r) ∧ h1 = mH g A' xs T' p') (ab_at iX5_reads 68) [(1, vI (nI c)), (0, vR 0 0)] [] (mH g A xs T p)) := by
  intro k
  induction k with
  | zero => intro p i A x a f L N T e1 e2 e3 e4 h; exact nomatch h
  | succ k ih =>
    intro p i A x a f L N T e1 e2 e3 e4 h w2 b2 w4 b4
    have hci := fmR_c _ _ _ _ h
    have hS := fun mb => t_statement 33 mb x a f L N e3 hn (p := p) (by omega)
    have hM := fun xs => m_statement 35 g A xs T hg hn (p := p) (by omega)
    have hG := fun xs => m_sign 37 g A xs T hg hn (p := p) (by omega)
    obtain ⟨o1, o2, o3⟩ := sP_ok (t := a 15) (n := n) (p := p) (by omega)
    rw [e1] at hS o1 o2 o3
    rw [e2] at hM hG
    have hR := (rel_stm P p N T).2.2
    rw [(sK_c P p N).1, (sK_c P p N).2] at hS
    rw [(sK_m P p T).1] at hR
    rw [(sK_m P p T).1, (sK_m P p T).2] at hM
    generalize (stmR P p N).2.2 = N1 at hS hR
    generalize (mStm P p T).2.2 = T1 at hM hR
    unfold fmR at h
    have cc : sK P p = 1 := by
      rcases o1 with q | q
      · rw [if_neg (show ¬ sK P p = 1 by rw [q]; decide)] at h
        exact nomatch h
      · exact q
    rw [if_pos cc] at h
    have hR := hR cc
    have o3 := o3 cc
    rw [cc] at hS hM
    generalize sP P p = p1 at *
    obtain ⟨r, s', x1, a1, f1, c1, c2, fx, fa, ff, hr⟩ := step_both (g := g) (stL_3 P L p) (fun z => stL_4 z) hR w4 b4
    have hL1 : stL P L p 1 = nI n := by rw [stL_1]; exact e3
    generalize stL P L p = L1 at *
    have xtop : ∀ (mb : Nat → AB) (E : Nat × (Nat → Int32)) (h0 : AH) (Q : Option AV → AH → Prop), (r = 0 → Q (some (vI (-2000 - nI p))) (tH mb x1 a1 f1 L1 N1 p1)) → (¬ r = 0 → ab_W jX4_takeStatements 38 E h0 70 Q (ab_at iX4_takeStatements 21) [(2, vI (nI (i + 1))), (0, vR 13 0), (1, vI (nI c))] [] (tH mb x1 a1 f1 L1 N1 p1)) → ab_W jX4_takeStatements 38 E h0 70 Q (ab_at iX4_takeStatements 21) [(2, vI (nI i)), (0, vR 13 0), (1, vI (nI c))] [] (tH mb x a f L N p) := by
      intro mb E h0 Q q0 q1
      rw [nI_succ] at q1
      refine ab_run [21] 100 oX4_takeStatements.1 (Nat.le_refl _) 21 ?_
      refine ⟨fun z => absurd z (nI_ge hci.1 (by omega)), fun _ => ?_⟩
      refine ⟨_, _, hS mb, Nat.le_refl _, ?_⟩
      refine ⟨fun z => absurd z (show ¬ (1 : Int32) = 0 by decide), fun _ => ?_⟩
      refine ⟨_, _, c1 mb p1, Nat.le_refl _, ?_⟩
      refine ⟨fun z => ab_W_lv (lv_pk [0, 2, 3] rfl) (q1 z), fun z => q0 z⟩
    have mtop : ∀ (xs : List AB) (E : Nat × (Nat → Int32)) (h0 : AH) (Q : Option AV → AH → Prop), (r = 0 → Q (some (vI (-2000 - nI p))) (mH g (mS A 4 s') xs T1 p1)) → (¬ r = 0 → ab_W jX5_reads 38 E h0 70 Q (ab_at iX5_reads 68) [(1, vI (nI c)), (0, vR 0 0)] [] (mH g (mS A 4 s') xs T1 p1)) → ab_W jX5_reads 38 E h0 70 Q (ab_at iX5_reads 68) [(1, vI (nI c)), (0, vR 0 0)] [] (mH g A xs T p) := by
      intro xs E h0 Q q0 q1
      refine ab_run [68] 100 oX5_reads.1 (Nat.le_refl _) 68 ?_
      refine ⟨fun (z : g 7 ≤ nI p) => absurd z (by rw [hg]; exact nI_ge e4 (by omega)), fun _ => ?_⟩
      refine ⟨_, _, hG xs, Nat.le_refl _, ?_⟩
      refine ⟨_, _, hM xs, Nat.le_refl _, ?_⟩
      refine ⟨_, _, c2 xs p1, Nat.le_refl _, ?_⟩
      refine ⟨fun z => ab_W_lv (lv_pk [3, 4] rfl) (q1 z), fun z => q0 z⟩
    have fr1 : FrB A x a f (mS A 4 s') x1 a1 f1 := ⟨fun k _ h4 => mS_ne _ _ _ h4, fun k _ h25 => fx k h25, fun k hk => fa k (by omega), fun k _ h28 => ff k h28⟩
    have w2' : WF (mS A 4 s' 2) := w2
    have b2' : BR (mS A 4 s' 2) x1 a1 f1 17 := BR_congr (fx 17 (by omega)) (fa 18 (by omega)) (fa 21 (by omega)) (fa 22 (by omega)) (fa 23 (by omega)) (fa 24 (by omega)) (ff 20 (by omega)) b2
    rcases hr with hr | ⟨hr, ws, bs⟩
    · exact ⟨-2000 - nI p, mS A 4 s', x1, a1, f1, L1, N1, T1, p1, fr1, w2', b2', fun mb E h0 => xtop mb E h0 _ (fun _ => ⟨rfl, rfl⟩) (fun z => absurd hr z), fun xs E h0 => mtop xs E h0 _ (fun _ => ⟨rfl, rfl⟩) (fun z => absurd hr z)⟩
    have hr0 : ¬ r = 0 := by rw [hr]; decide
    by_cases e : n ≤ p1
    · rw [if_pos e] at h
      have hc' : i + 1 = c := Option.some.inj h
      have hp1 : p1 = n := by omega
      have em : ∀ k, k < 112 → mS (mS A 4 s') 2 (mcp (mS A 4 s' 2) (mS A 4 s' 4) 112) 2 k = s' k := fun k hk => by rw [mS_eq, mcp_lt hk, mS_eq]
      refine ⟨nI c, mS (mS A 4 s') 2 (mcp (mS A 4 s' 2) (mS A 4 s' 4) 112), mS x1 17 (x1 25), aC a1 17 25, fC f1 20 28 8, L1, N1, T1, p1, ⟨fun k h2 h4 => ?_, fun k h17 h25 => ?_, fun k hk => ?_, fun k h20 h28 => ?_⟩, WF_congr em ws, ?_, fun mb E h0 => ?_, fun xs E h0 => ?_⟩
      · rw [mS_ne _ _ _ h2, mS_ne _ _ _ h4]
      · rw [mS_ne _ _ _ h17]
        exact fx k h25
      · rw [(aC_ne hk).1]
        exact fa k (by omega)
      · unfold fC
        rw [if_neg h20]
        exact ff k h28
      · exact BR_copy (b := 25) (c := 17) em rfl (fun k hk => cpy_lt hk) (fun k hk => cpy_lt hk) (fun k hk => cpy_lt hk) (fun k hk => cpy_lt hk) (fun k hk => cpy_lt hk) (fun k hk => fC_lt hk) bs
      · refine xtop mb E h0 _ (fun z => absurd z hr0) (fun _ => ?_)
        rw [hc']
        exact x_tkEnd mb x1 a1 f1 L1 N1 p1 c E h0
      · exact mtop xs E h0 _ (fun z => absurd z hr0) (fun _ => m_rdEnd hn hg (mS A 4 s') xs T1 hp1 c E h0)
    · rw [if_neg e] at h
      obtain ⟨r', A', x', a', f', L', N', T', p', ⟨g1, g2, g3, g4⟩, v1, v2, v3, v4⟩ := ih p1 (i + 1) (mS A 4 s') x1 a1 f1 L1 N1 T1 (by rw [fa 15 (by omega)]; exact e1) e2 hL1 (by omega) h w2' b2' ws bs
      exact ⟨r', A', x', a', f', L', N', T', p', ⟨fun k h2 h4 => (g1 k h2 h4).trans (fr1.1 k h2 h4), fun k h2 h4 => (g2 k h2 h4).trans (fr1.2.1 k h2 h4), fun k hk => (g3 k hk).trans (fr1.2.2.1 k hk), fun k h2 h4 => (g4 k h2 h4).trans (fr1.2.2.2 k h2 h4)⟩, v1, v2, fun mb E h0 => xtop mb E h0 _ (fun z => absurd z hr0) (fun _ => v3 mb E h0), fun xs E h0 => mtop xs E h0 _ (fun z => absurd z hr0) (fun _ => v4 xs E h0)⟩
