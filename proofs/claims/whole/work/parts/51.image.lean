theorem WF_congr {s t : Nat → Int32} (e : ∀ k, k < 112 → t k = s k) (h : WF s) : WF t := by
  obtain ⟨⟨w0, w1, w2, w3, w4, w5, w6⟩, w7, w8, w9, w10⟩ := h
  refine ⟨?_, ?_, ?_, ?_, ?_⟩
  · rw [e 0 (by omega), e 1 (by omega), e 2 (by omega), e 3 (by omega), e 4 (by omega), e 5 (by omega), e 6 (by omega)]
    exact ⟨w0, w1, w2, w3, w4, w5, w6⟩
  · rw [e 7 (by omega), e 8 (by omega), e 9 (by omega), e 10 (by omega)]
    exact w7
  · intro j hj hj2
    rw [e 2 (by omega)] at hj2
    rw [e _ (by omega)]
    exact w8 j hj hj2
  · intro j hj hj2
    rw [e 3 (by omega)] at hj2
    have := w9 j hj hj2
    unfold WFf at this ⊢
    rw [e _ (by omega), e _ (by omega), e _ (by omega), e _ (by omega), e _ (by omega), e _ (by omega), e _ (by omega), e _ (by omega), e _ (by omega)]
    exact this
  · intro j hj hj2
    rw [e 4 (by omega)] at hj2
    rw [e 2 (by omega), e _ (by omega), e _ (by omega), e _ (by omega)]
    exact w10 j hj hj2
theorem BR_copy {s t : Nat → Int32} {x a x' a' : mA} {f f' : mF} {b c : Nat} (e : ∀ k, k < 112 → t k = s k) (hx : x' c = x b) (h1 : ∀ k, k < 5 → a' (c + 1) k = a (b + 1) k) (h4 : ∀ k, k < 4 → a' (c + 4) k = a (b + 4) k) (h5 : ∀ k, k < 8 → a' (c + 5) k = a (b + 5) k) (h6 : ∀ k, k < 8 → a' (c + 6) k = a (b + 6) k) (h7 : ∀ k, k < 8 → a' (c + 7) k = a (b + 7) k) (hf : ∀ j, j < 8 → f' (c + 3) j = f (b + 3) j) (h : BR s x a f b) : BR t x' a' f' c := by
  obtain ⟨w6, w7, w8, w9, w10⟩ := h
  refine ⟨?_, ?_, ?_, ?_, ?_⟩
  · rw [e 0 (by omega), e 1 (by omega), e 2 (by omega), e 3 (by omega), e 4 (by omega), e 5 (by omega), e 6 (by omega), hx]
    exact w6
  · intro k hk
    rw [e _ (by omega), h4 k hk]
    exact w7 k hk
  · intro j hj hj2
    rw [e 2 (by omega)] at hj2
    rw [e _ (by omega), h1 j hj]
    exact w8 j hj hj2
  · intro j hj hj2 k hk
    rw [e 3 (by omega)] at hj2
    rw [e _ (by omega), hf j hj]
    exact w9 j hj hj2 k hk
  · intro j hj hj2
    rw [e 4 (by omega)] at hj2
    rw [e _ (by omega), e _ (by omega), e _ (by omega), h5 j hj, h6 j hj, h7 j hj]
    exact w10 j hj hj2
theorem cpy_lt {u v : Nat → Int32} {n k : Nat} (h : k < n) : va_cpy u v 0 0 n k = u k := by
  unfold va_cpy
  rw [if_pos ⟨Nat.zero_le _, by omega⟩]
  congr 1
  omega
theorem fC_lt {f : mF} {b c n j : Nat} (h : j < n) : fC f b c n b j = f c j := by
  unfold fC
  rw [if_pos rfl, if_pos h]
/-- the first i of u, the rest of v -/
def mcp (v u : Nat → Int32) (i : Nat) : Nat → Int32 := fun k => if k < i then u k else v k
theorem mcp_lt {v u : Nat → Int32} {i k : Nat} (h : k < i) : mcp v u i k = u k := if_pos h
theorem mcp_0 (v u : Nat → Int32) : mcp v u 0 = v := by
  funext k
  exact if_neg (Nat.not_lt_zero k)
theorem mcp_s (v u : Nat → Int32) (i : Nat) : upd (mcp v u i) i (u i) = mcp v u (i + 1) := by
  funext k
  by_cases q : k = i
  · rw [q, upd_at, mcp_lt (by omega)]
  · rw [upd_ne q]
    unfold mcp
    by_cases q2 : k < i
    · rw [if_pos q2, if_pos (by omega)]
    · rw [if_neg q2, if_neg (by omega)]
theorem mS_mS (A : mA) (k : Nat) (u v : Nat → Int32) : mS (mS A k u) k v = mS A k v := by
  funext j
  unfold mS
  by_cases q : j = k
  · rw [if_pos q, if_pos q]
  · rw [if_neg q, if_neg q, if_neg q]
theorem mS_id (A : mA) (k : Nat) : mS A k (A k) = A := by
  funext j
  unfold mS
  by_cases q : j = k
  · rw [if_pos q, q]
  · rw [if_neg q]
theorem p_image : P_image IV 40 := by
  intro g A x a f h
  have hb := h.2.2.2.2.2.1
  refine pr_w (r := A 2 3) (x' := mS (mS x 33 (x 17)) 13 (upd (x 13) 4 1)) (a' := aC a 33 17) (f' := fC f 36 20 8) (g' := upd g 4 1) (A' := mS A 3 (mcp (A 3) (A 2) 112)) (ex_r (r := x 17 5) ?_ hb.1.2.2.2.1.symm) (fun xs => ?_) ?_
  · refine ab_meth oX4_image 39 _ _ _ _ (Nat.le_refl _) rfl (fun E => ?_)
    refine ab_run [] 100 oX4_image.1 (Nat.le_refl _) 0 ?_
    refine ⟨_, _, b_copy33_17 37 _ x a f, Nat.le_refl _, ?_⟩
    exact ⟨Or.inr rfl, rfl, rfl⟩
  · refine ab_meth oX5_image 39 _ _ _ _ (Nat.le_refl _) rfl (fun E => ?_)
    have loop : ∀ (r i : Nat), i + r = 112 → ab_W jX5_image 39 E (hM g A xs) 70 (fun v1 h1 => v1 = some (vI (A 2 3)) ∧ h1 = hM (upd g 4 1) (mS A 3 (mcp (A 3) (A 2) 112)) xs) (ab_at iX5_image 2) [(1, vI (nI i)), (0, vR 0 0)] [] (hM g (mS A 3 (mcp (A 3) (A 2) i)) xs) := by
      intro r
      induction r with
      | zero =>
        intro i hi
        refine ab_run [2] 100 oX5_image.1 (Nat.le_refl _) 2 ?_
        refine ⟨fun c1 => ?_, fun c1 => absurd (show nI 112 ≤ nI i from nI_le (by omega) (by omega)) c1⟩
        rw [show i = 112 by omega]
        exact ⟨Or.inr rfl, vp_d rfl, rfl, rfl⟩
      | succ r ih =>
        intro i hi
        refine ab_run [2] 100 oX5_image.1 (Nat.le_refl _) 2 ?_
        refine ⟨fun c1 => absurd c1 (nI_lt_m (m := 112) (by omega) (by omega)), fun c1 => ?_⟩
        refine ⟨vp_in_nI (by omega) (by omega), vp_in_nI (by omega) (by omega), ?_⟩
        have := ih (i + 1) (by omega)
        rw [nI_succ, ← mcp_s (A 3) (A 2) i] at this
        rw [nI_clamp (by omega)]
        exact this

    refine ab_run [2] 100 oX5_image.1 (Nat.le_refl _) 0 ?_
    have := loop 112 0 (by omega)
    rw [mcp_0, mS_id] at this
    exact this
  · obtain ⟨h1, h2, h3, h4, h5, h6, h7⟩ := h
    have e : ∀ k, k < 112 → (mS A 3 (mcp (A 3) (A 2) 112)) 3 k = A 2 k := fun k hk => by rw [mS_eq, mcp_lt hk]
    refine ⟨h1, h2, h3, ⟨rfl, Or.inr rfl⟩, h5, BR_congr (by rfl) (by rfl) (by rfl) (by rfl) (by rfl) (by rfl) (by rfl) h6, fun _ => ⟨WF_congr e h5, ?_⟩⟩
    exact BR_copy (b := 17) (c := 33) e rfl (fun k hk => cpy_lt hk) (fun k hk => cpy_lt hk) (fun k hk => cpy_lt hk) (fun k hk => cpy_lt hk) (fun k hk => cpy_lt hk) (fun k hk => fC_lt hk) h6
theorem p_on : P_on IV 40 := by
  intro g A x a f h
  have hb := h.2.2.2.2.2.1
  have h4 := h.2.2.2.1
  by_cases c0 : g 4 = 0
  · have c0x : x 13 4 = 0 := by rw [← h4.1]; exact c0
    refine pr_rf h rc3 ?_ (fun xs => ?_)
    · refine ab_meth oX4_on 39 _ _ _ _ (Nat.le_refl _) rfl (fun E => ?_)
      refine ab_run [] 50 oX4_on.1 (Nat.le_refl _) 0 ?_
      refine ⟨fun c => absurd c0x c, fun c => ?_⟩
      exact ⟨_, _, x_rf _ _ x a f rc3, Nat.le_refl _, rfl, rfl⟩
    · refine ab_meth oX5_on 39 _ _ _ _ (Nat.le_refl _) rfl (fun E => ?_)
      refine ab_run [16] 50 oX5_on.1 (Nat.le_refl _) 0 ?_
      refine ⟨fun c => absurd c0 c, fun c => ?_⟩
      exact ⟨_, _, m_rf _ g A xs rc3, Nat.le_refl _, rfl, rfl⟩
  have c1 : g 4 = 1 := h4.2.resolve_left c0
  have c1x : ¬ x 13 4 = 0 := by rw [← h4.1]; exact c0
  obtain ⟨i1, i2⟩ := h.2.2.2.2.2.2 c1
  refine pr_w (r := A 3 3) (x' := mS x 17 (x 33)) (a' := aC a 17 33) (f' := fC f 20 36 8) (g' := g) (A' := mS A 2 (mcp (A 2) (A 3) 112)) (ex_r (r := x 33 5) ?_ i2.1.2.2.2.1.symm) (fun xs => ?_) ?_
  · refine ab_meth oX4_on 39 _ _ _ _ (Nat.le_refl _) rfl (fun E => ?_)
    refine ab_run [] 100 oX4_on.1 (Nat.le_refl _) 0 ?_
    refine ⟨fun c => ?_, fun c => absurd c c1x⟩
    refine ⟨_, _, b_copy17_33 37 _ x a f, Nat.le_refl _, ?_⟩
    exact ⟨rfl, rfl⟩
  · refine ab_meth oX5_on 39 _ _ _ _ (Nat.le_refl _) rfl (fun E => ?_)
    have loop : ∀ (r i : Nat), i + r = 112 → ab_W jX5_on 39 E (hM g A xs) 70 (fun v1 h1 => v1 = some (vI (A 3 3)) ∧ h1 = hM g (mS A 2 (mcp (A 2) (A 3) 112)) xs) (ab_at iX5_on 16) [(1, vI (nI i)), (0, vR 0 0)] [] (hM g (mS A 2 (mcp (A 2) (A 3) i)) xs) := by
      intro r
      induction r with
      | zero =>
        intro i hi
        refine ab_run [16] 100 oX5_on.1 (Nat.le_refl _) 16 ?_
        refine ⟨fun c1 => ?_, fun c1 => absurd (show nI 112 ≤ nI i from nI_le (by omega) (by omega)) c1⟩
        rw [show i = 112 by omega]
        exact ⟨vp_d rfl, rfl, rfl⟩
      | succ r ih =>
        intro i hi
        refine ab_run [16] 100 oX5_on.1 (Nat.le_refl _) 16 ?_
        refine ⟨fun c1 => absurd c1 (nI_lt_m (m := 112) (by omega) (by omega)), fun c1 => ?_⟩
        refine ⟨vp_in_nI (by omega) (by omega), vp_in_nI (by omega) (by omega), ?_⟩
        have := ih (i + 1) (by omega)
        rw [nI_succ, ← mcp_s (A 2) (A 3) i] at this
        rw [nI_clamp (by omega)]
        exact this

    refine ab_run [16] 100 oX5_on.1 (Nat.le_refl _) 0 ?_
    refine ⟨fun c => ?_, fun c => absurd c c0⟩
    have := loop 112 0 (by omega)
    rw [mcp_0, mS_id] at this
    exact this
  · obtain ⟨h1, h2, h3, h4, h5, h6, h7⟩ := h
    have e : ∀ k, k < 112 → (mS A 2 (mcp (A 2) (A 3) 112)) 2 k = A 3 k := fun k hk => by rw [mS_eq, mcp_lt hk]
    refine ⟨h1, h2, h3, h4, WF_congr e i1, ?_, fun q => ⟨(h7 q).1, BR_congr (by rfl) (by rfl) (by rfl) (by rfl) (by rfl) (by rfl) (by rfl) i2⟩⟩
    exact BR_copy (b := 33) (c := 17) e rfl (fun k hk => cpy_lt hk) (fun k hk => cpy_lt hk) (fun k hk => cpy_lt hk) (fun k hk => cpy_lt hk) (fun k hk => cpy_lt hk) (fun k hk => fC_lt hk) i2
