set_option maxRecDepth 100000 in
theorem m_ordleaf {A : mA} {m : Nat} (hm : m ≤ 6) (em : A 2 3 = nI m) (hp : ∀ i, i < m → A 2 (16 + 9 * i + 4) = nI (miN A i)) (hw : ∀ i, i < m → A 2 (16 + 9 * i + 3) = nI (wtN A i)) (hb : ∀ i, i < m → miN A i ≤ 99 ∧ wtN A i ≤ 99) (d : Nat) (g : mG) (N : Nat) (o : Nat → Nat) (c10 c11 : Nat → Int32) (b : Int32) (y : Option (Nat × List Nat)) (ho : ∀ k, k < m → c10 k = nI (o k) ∧ o k < m) (hB : BSt m b c11 y) : ∃ (c11' : Nat → Int32) (b' : Int32), BSt m b' c11' (upB y (oC (miN A) (wtN A) 0 (oP o m), oP o m)) ∧ ∀ xs, ab_Ex (d + 3) 0 yX5_orders [vR 0 0, vI (nI m), vI (nI N)] (oH g A b c10 c11 xs) none (oH g A b' c10 c11' xs) := by
  have hv : oC (miN A) (wtN A) 0 (oP o m) < 1000000 := by
    have h1 := oC_le (p := miN A) (w := wtN A) (oP o m) 0 (fun i hi => by
      obtain ⟨k, hk, e⟩ := oP_mem.mp hi
      rw [← e]
      exact hb _ (ho k hk).2)
    rw [oP_len] at h1
    have h2 : m * (99 * (0 + 99 * m)) ≤ 6 * (99 * (0 + 99 * 6)) := Nat.mul_le_mul hm (by omega)
    omega
  generalize hV : oC (miN A) (wtN A) 0 (oP o m) = v at hv
  have hsum : ∀ xs, ab_Ex (d + 2) 0 yX5_sumOf [vR 0 0, vI (nI m)] (oH g A b c10 c11 xs) (some (vI (nI v))) (oH g A b c10 c11 xs) := by
    intro xs
    rw [← hV]
    exact m_sumOf (Nat.le_refl m) (by omega) hp hw d _ (mS (mS A 10 c10) 11 c11) xs rfl o (fun k hk => ho k hk)
  -- a better one is taken over
  have take : ∀ (xs : List AB) (E : Nat × (Nat → Int32)) (h0 : AH), ab_W jX5_orders (d + 2) E h0 70 (fun v1 h1 => v1 = none ∧ h1 = oH g A (nI v) c10 (mcp c11 c10 m) xs) (ab_at iX5_orders 32) [(3, vI (nI v)), (0, vR 0 0), (1, vI (nI m)), (2, vI (nI N))] [] (oH g A b c10 c11 xs) := by
    intro xs E h0
    have loop : ∀ (k i : Nat), i + k = m → ab_W jX5_orders (d + 2) E h0 70 (fun v1 h1 => v1 = none ∧ h1 = oH g A (nI v) c10 (mcp c11 c10 m) xs) (ab_at iX5_orders 40) [(4, vI (nI i)), (3, vI (nI v)), (0, vR 0 0), (1, vI (nI m)), (2, vI (nI N))] [] (oH g A (nI v) c10 (mcp c11 c10 i) xs) := by
      intro k
      induction k with
      | zero =>
        intro i hi
        refine ab_run [32, 40, 69] 100 oX5_orders.1 (Nat.le_refl _) 40 ?_
        refine ⟨fun _ => ?_, fun c1 => absurd (nI_le (by omega) (by omega)) c1⟩
        rw [show i = m by omega]
        exact ⟨rfl, rfl⟩
      | succ k ih =>
        intro i hi
        have h9 := ih (i + 1) (by omega)
        rw [nI_succ, ← mcp_s c11 c10 i] at h9
        generalize mcp c11 c10 i = cc at h9 ⊢
        refine ab_run [32, 40, 69] 100 oX5_orders.1 (Nat.le_refl _) 40 ?_
        refine ⟨fun c1 => absurd c1 (nI_ge (by omega) (by omega)), fun _ => ?_⟩
        refine ⟨(vp_in_nI (by omega) (by omega) : vp_in (nI i) 8), (vp_in_nI (by omega) (by omega) : vp_in (nI i) 8), ?_⟩
        rw [nI_clamp (by omega)]
        exact h9
    refine ab_run [40, 69] 100 oX5_orders.1 (Nat.le_refl _) 32 ?_
    have h9 := loop m 0 (by omega)
    rw [mcp_0] at h9
    exact h9
  have bt : BSt m (nI v) (mcp c11 c10 m) (some (v, oP o m)) := by
    refine ⟨rfl, hv, fun k hk => ?_⟩
    rw [mcp_lt hk, (ho k hk).1, oP_get o hk]
  cases y with
  | none =>
    have hB : b < 0 := hB
    refine ⟨mcp c11 c10 m, nI v, bt, fun xs => ?_⟩
    refine ab_meth oX5_orders (d + 2) _ _ _ _ (Nat.le_refl _) rfl (fun E => ?_)
    refine ab_run [32, 69] 100 oX5_orders.1 (Nat.le_refl _) 0 ?_
    refine ⟨vp_d rfl, fun (c : ¬ nI m = A 2 3) => absurd em.symm c, fun _ => ?_⟩
    refine ⟨_, _, hsum xs, Nat.le_refl _, ?_⟩
    exact ⟨fun _ => take xs E _, fun c => absurd hB c⟩
  | some z =>
    obtain ⟨hB1, hB2, hB3⟩ := hB
    have hb0 : ¬ b < 0 := by rw [hB1]; exact nI_pos (by omega)
    have hlt : nI v < b ↔ v < z.1 := by rw [hB1]; exact nI_ltI (by omega) (by omega)
    by_cases c0 : v < z.1
    · refine ⟨mcp c11 c10 m, nI v, ?_, fun xs => ?_⟩
      · rw [show upB (some z) (v, oP o m) = some (v, oP o m) from if_pos c0]
        exact bt
      refine ab_meth oX5_orders (d + 2) _ _ _ _ (Nat.le_refl _) rfl (fun E => ?_)
      refine ab_run [32, 69] 100 oX5_orders.1 (Nat.le_refl _) 0 ?_
      refine ⟨vp_d rfl, fun (c : ¬ nI m = A 2 3) => absurd em.symm c, fun _ => ?_⟩
      refine ⟨_, _, hsum xs, Nat.le_refl _, ?_⟩
      exact ⟨fun c => absurd c hb0, fun _ => ⟨fun _ => take xs E _, fun c => absurd (hlt.mpr c0) c⟩⟩
    · refine ⟨c11, b, ?_, fun xs => ?_⟩
      · rw [show upB (some z) (v, oP o m) = some z from if_neg c0]
        exact ⟨hB1, hB2, hB3⟩
      refine ab_meth oX5_orders (d + 2) _ _ _ _ (Nat.le_refl _) rfl (fun E => ?_)
      refine ab_run [32, 69] 100 oX5_orders.1 (Nat.le_refl _) 0 ?_
      refine ⟨vp_d rfl, fun (c : ¬ nI m = A 2 3) => absurd em.symm c, fun _ => ?_⟩
      refine ⟨_, _, hsum xs, Nat.le_refl _, ?_⟩
      exact ⟨fun c => absurd c hb0, fun _ => ⟨fun c => absurd (hlt.mp c) c0, fun _ => ⟨rfl, rfl⟩⟩⟩
set_option maxRecDepth 100000 in
theorem m_orders {A : mA} {m : Nat} (hm : m ≤ 6) (em : A 2 3 = nI m) (hp : ∀ i, i < m → A 2 (16 + 9 * i + 4) = nI (miN A i)) (hw : ∀ i, i < m → A 2 (16 + 9 * i + 3) = nI (wtN A i)) (hb : ∀ i, i < m → miN A i ≤ 99 ∧ wtN A i ≤ 99) (d : Nat) (g : mG) : ∀ (r n : Nat) (X : List Nat) (N : Nat) (o : Nat → Nat) (c10 c11 : Nat → Int32) (b : Int32) (y : Option (Nat × List Nat)), n + r = m → X.length = r → X.Pairwise (obf (miN A) (wtN A)) → X.Nodup → (∀ q, q ∈ X → q < m) → N < 64 → (∀ q, q < m → (N.testBit q = true ↔ q ∉ X)) → (∀ k, k < n → c10 k = nI (o k) ∧ o k < m) → BSt m b c11 y → ∃ (c10' c11' : Nat → Int32) (b' : Int32), (∀ k, k < n → c10' k = c10 k) ∧ BSt m b' c11' (upB y (oC (miN A) (wtN A) 0 (oP o n ++ X), oP o n ++ X)) ∧ ∀ xs, ab_Ex (d + r + 3) 0 yX5_orders [vR 0 0, vI (nI n), vI (nI N)] (oH g A b c10 c11 xs) none (oH g A b' c10' c11' xs) := by
  intro r
  induction r with
  | zero =>
    intro n X N o c10 c11 b y hnr hl hs hn hX hN hbit ho hB
    have hX0 : X = [] := List.length_eq_zero_iff.mp hl
    subst hX0
    have hnm : n = m := by omega
    subst hnm
    rw [List.append_nil]
    obtain ⟨c11', b', k1, k2⟩ := m_ordleaf hm em hp hw hb d g N o c10 c11 b y ho hB
    exact ⟨c10, c11', b', fun _ _ => rfl, k1, k2⟩
  | succ r ih =>
    intro n X N o c10 c11 b y hnr hl hs hn hX hN hbit ho hB
    obtain ⟨h, X', hXe⟩ : ∃ h X', X = h :: X' := by
      cases X with
      | nil => exact absurd hl (by simp)
      | cons h X' => exact ⟨h, X', rfl⟩
    have hhm : h < m := hX h (by rw [hXe]; exact List.mem_cons_self ..)
    have hhX : h ∈ X := by rw [hXe]; exact List.mem_cons_self ..
    obtain ⟨C, hC⟩ : ∃ C : Nat → Nat × List Nat, C = fun q => (oC (miN A) (wtN A) 0 (oP o n ++ q :: X.filter (fun z => z != q)), oP o n ++ q :: X.filter (fun z => z != q)) := ⟨_, rfl⟩
    obtain ⟨D, hD⟩ : ∃ D : Nat × List Nat, D = (oC (miN A) (wtN A) 0 (oP o n ++ X), oP o n ++ X) := ⟨_, rfl⟩
    rw [← hD]
    have cand : ∀ q, q ∈ X → D.1 ≤ (C q).1 ∧ (q < h → D.1 < (C q).1) ∧ (q = h → C q = D) := by
      intro q hq
      obtain ⟨-, h1, X1, e1, b1, b2, b3⟩ := o_cand hs hn hq
      have hh : h1 = h := by
        rw [hXe] at e1
        exact (List.cons.inj e1).1.symm
      subst hh
      refine ⟨?_, fun z => ?_, fun z => ?_⟩
      · rw [hC, hD]
        dsimp only
        rw [oC_app, oC_app]
        exact Nat.add_le_add_left (b1 _) _
      · rw [hC, hD]
        dsimp only
        rw [oC_app, oC_app]
        exact Nat.add_lt_add_left (b2 z _) _
      · rw [hC, hD]
        dsimp only
        rw [b3 z]
    have e0 : d + (r + 1) + 3 = (d + r + 3) + 1 := by omega
    rw [e0]
    have loop : ∀ (k i : Nat) (d10 d11 : Nat → Int32) (b : Int32) (y' : Option (Nat × List Nat)), i + k = m → (∀ q, q < n → d10 q = c10 q) → BSt m b d11 y' → (i ≤ h → upB y' D = upB y D) → (h < i → y' = upB y D) → ∃ (c10' c11' : Nat → Int32) (b' : Int32), (∀ q, q < n → c10' q = c10 q) ∧ BSt m b' c11' (upB y D) ∧ ∀ (xs : List AB) (E : Nat × (Nat → Int32)) (h0 : AH), ab_W jX5_orders (d + r + 3) E h0 70 (fun v1 h1 => v1 = none ∧ h1 = oH g A b' c10' c11' xs) (ab_at iX5_orders 69) [(3, vI (nI i)), (0, vR 0 0), (1, vI (nI n)), (2, vI (nI N))] [] (oH g A b d10 d11 xs) := by
      intro k
      induction k with
      | zero =>
        intro i d10 d11 b y' hi h1 h2 h3 h4
        have h4 := h4 (by omega)
        subst h4
        refine ⟨d10, d11, b, h1, h2, fun xs E h0 => ?_⟩
        refine ab_run [32, 40, 69] 100 oX5_orders.1 (Nat.le_refl _) 69 ?_
        refine ⟨vp_d rfl, fun _ => ⟨rfl, rfl⟩, fun (c1 : ¬ A 2 3 ≤ nI i) => ?_⟩
        rw [em] at c1
        exact absurd (nI_le (by omega) (by omega)) c1
      | succ k ihk =>
        intro i d10 d11 b y' hi h1 h2 h3 h4
        have hsb := sn_bit N hN i (by omega)
        by_cases ci : i ∈ X
        · have hnb : ¬ ((nI N >>> (nI i &&& 31)) &&& 1 = 1) := fun q => (hbit i (by omega)).mp (hsb.mp q) ci
          obtain ⟨cd1, cd2, cd3⟩ := cand i ci
          have hlen := (o_cand hs hn ci).1
          obtain ⟨so1, so2⟩ := sn_or N hN i (by omega)
          obtain ⟨a10, a11, ba, k1, k2, k3⟩ := ih (n + 1) (X.filter (fun z => z != i)) (N ||| 2 ^ i) (fun q => if q = n then i else o q) (upd d10 n (nI i)) d11 b y' (by omega) (by omega) (hs.filter _) (hn.filter _) (fun q hq => hX q (List.mem_filter.mp hq).1) so2 (by
            intro q hq
            rw [sn_tb, Bool.or_eq_true, decide_eq_true_eq, hbit q hq, List.mem_filter, bne_iff_ne]
            constructor
            · rintro (z | z)
              · exact fun w => z w.1
              · exact fun w => w.2 z.symm
            · intro z
              by_cases w : q ∈ X
              · right
                by_cases v : i = q
                · exact v
                · exact absurd ⟨w, fun u => v u.symm⟩ z
              · exact Or.inl w) (by
            intro q hq
            by_cases e : q = n
            · rw [e, upd_at, if_pos rfl]
              exact ⟨rfl, by omega⟩
            · rw [upd_ne e, if_neg e, h1 q (by omega)]
              exact ho q (by omega)) h2
          have eL : oP (fun q => if q = n then i else o q) (n + 1) ++ X.filter (fun z => z != i) = oP o n ++ i :: X.filter (fun z => z != i) := by
            rw [oP_s, oP_congr (o := fun q => if q = n then i else o q) (u := o) (fun q hq => if_neg (by omega)), if_pos rfl, List.append_assoc]
            rfl
          rw [eL] at k2
          have k2 : BSt m ba a11 (upB y' (C i)) := by rw [hC]; exact k2
          obtain ⟨c10', c11', b', j1, j2, j3⟩ := ihk (i + 1) a10 a11 ba (upB y' (C i)) (by omega) (fun q hq => by
            rw [k1 q (by omega), upd_ne (by omega)]
            exact h1 q hq) k2 (fun z => by rw [upB_1 (cd2 (by omega))]; exact h3 (by omega)) (fun z => by
            by_cases e : i = h
            · rw [cd3 e]
              exact h3 (by omega)
            · rw [h4 (by omega)]
              exact upB_2 cd1)
          refine ⟨c10', c11', b', j1, j2, fun xs E h0 => ?_⟩
          have h9 := j3 xs E h0
          have k4 := k3 xs
          rw [nI_succ] at h9
          rw [nI_succ, ← so1] at k4
          refine ab_run [32, 40, 69] 100 oX5_orders.1 (Nat.le_refl _) 69 ?_
          refine ⟨vp_d rfl, fun (c1 : A 2 3 ≤ nI i) => ?_, fun _ => ?_⟩
          · rw [em] at c1
            exact absurd c1 (nI_lt_m (by omega) (by omega))
          refine ⟨fun _ => ?_, fun c => absurd c hnb⟩
          refine ⟨(vp_in_nI (by omega) (by omega) : vp_in (nI n) 8), ?_⟩
          rw [nI_clamp (by omega)]
          refine ⟨_, _, k4, Nat.le_refl _, ?_⟩
          exact h9
        · have hnb : (nI N >>> (nI i &&& 31)) &&& 1 = 1 := hsb.mpr ((hbit i (by omega)).mpr ci)
          have hih : i ≠ h := fun e => ci (e ▸ hhX)
          obtain ⟨c10', c11', b', j1, j2, j3⟩ := ihk (i + 1) d10 d11 b y' (by omega) h1 h2 (fun z => h3 (by omega)) (fun z => h4 (by omega))
          refine ⟨c10', c11', b', j1, j2, fun xs E h0 => ?_⟩
          have h9 := j3 xs E h0
          rw [nI_succ] at h9
          refine ab_run [32, 40, 69] 100 oX5_orders.1 (Nat.le_refl _) 69 ?_
          refine ⟨vp_d rfl, fun (c1 : A 2 3 ≤ nI i) => ?_, fun _ => ?_⟩
          · rw [em] at c1
            exact absurd c1 (nI_lt_m (by omega) (by omega))
          refine ⟨fun c => absurd hnb c, fun _ => ?_⟩
          exact h9
    obtain ⟨c10', c11', b', j1, j2, j3⟩ := loop m 0 c10 c11 b y (by omega) (fun _ _ => rfl) hB (fun _ => rfl) (fun z => absurd z (Nat.not_lt_zero h))
    refine ⟨c10', c11', b', j1, j2, fun xs => ?_⟩
    refine ab_meth oX5_orders (d + r + 3) _ _ _ _ (Nat.le_refl _) rfl (fun E => ?_)
    refine ab_run [32, 40, 69] 100 oX5_orders.1 (Nat.le_refl _) 0 ?_
    refine ⟨vp_d rfl, fun _ => ?_, fun (c : nI n = A 2 3) => ?_⟩
    · exact j3 xs E _
    · rw [em] at c
      have := (nI_eq (by omega) (by omega)).mp c
      omega
