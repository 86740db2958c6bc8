theorem WFf_congr {s t : Nat → Int32} {j : Nat} (e : ∀ k, k < 9 → t (16 + 9 * j + k) = s (16 + 9 * j + k)) (h : WFf s j) : WFf t j := by
  unfold WFf at h ⊢
  rw [show t (16 + 9 * j) = s (16 + 9 * j) from e 0 (by omega), e 1 (by omega), e 2 (by omega), e 3 (by omega), e 4 (by omega), e 5 (by omega), e 6 (by omega), e 7 (by omega), e 8 (by omega)]
  exact h
-- the front and the chain
theorem WF_01 {s t : Nat → Int32} (h0 : 20 ≤ (t 0).toInt ∧ (t 0).toInt ≤ 60) (h1 : 60 ≤ (t 1).toInt ∧ (t 1).toInt ≤ 140) (e : ∀ k, 2 ≤ k → t k = s k) (h : WF s) : WF t := by
  obtain ⟨⟨w0, w1, w2, w3, w4, w5, w6⟩, w7, w8, w9, w10⟩ := h
  refine ⟨⟨h0, h1, ?_⟩, ?_, ?_, ?_, ?_⟩
  · rw [e 2 (by omega), e 3 (by omega), e 4 (by omega), e 5 (by omega), e 6 (by omega)]
    exact ⟨w2, w3, w4, w5, w6⟩
  · rw [e 7 (by omega), e 8 (by omega), e 9 (by omega), e 10 (by omega)]
    exact w7
  · intro j hj hj2
    rw [e 2 (by omega)] at hj2
    rw [e _ (by omega)]
    exact w8 j hj hj2
  · intro j hj hj2
    rw [e 3 (by omega)] at hj2
    exact WFf_congr (fun k _ => e _ (by omega)) (w9 j hj hj2)
  · intro j hj hj2
    rw [e 4 (by omega)] at hj2
    rw [e 2 (by omega), e _ (by omega), e _ (by omega), e _ (by omega)]
    exact w10 j hj hj2
theorem BR_01 {s t : Nat → Int32} {x x' a : mA} {f : mF} {b : Nat} (h0 : t 0 = x' b 0) (h1 : t 1 = x' b 1) (hx : ∀ k, 2 ≤ k → x' b k = x b k) (e : ∀ k, 2 ≤ k → t k = s k) (h : BR s x a f b) : BR t x' a f b := by
  obtain ⟨⟨w0, w1, w2, w3, w4, w5, w6⟩, w7, w8, w9, w10⟩ := h
  refine ⟨⟨h0, h1, ?_⟩, ?_, ?_, ?_, ?_⟩
  · rw [e 2 (by omega), e 3 (by omega), e 4 (by omega), e 5 (by omega), e 6 (by omega), hx 3 (by omega), hx 5 (by omega), hx 12 (by omega), hx 7 (by omega), hx 8 (by omega)]
    exact ⟨w2, w3, w4, w5, w6⟩
  · intro k hk
    rw [e _ (by omega)]
    exact w7 k hk
  · intro j hj hj2
    rw [e 2 (by omega)] at hj2
    rw [e _ (by omega)]
    exact w8 j hj hj2
  · intro j hj hj2 k hk
    rw [e 3 (by omega)] at hj2
    rw [e _ (by omega)]
    exact w9 j hj hj2 k hk
  · intro j hj hj2
    rw [e 4 (by omega)] at hj2
    rw [e _ (by omega), e _ (by omega), e _ (by omega)]
    exact w10 j hj hj2
-- a gear more
theorem WF_r {s : Nat → Int32} {k : Nat} {v : Int32} (hk : k < 5) (h2 : s 2 = nI k) (hv : 10 ≤ v.toInt ∧ v.toInt ≤ 40) (h : WF s) : WF (upd (upd s (11 + k) v) 2 (nI (k + 1))) := by
  have e : ∀ j, j ≠ 2 → j ≠ 11 + k → upd (upd s (11 + k) v) 2 (nI (k + 1)) j = s j := fun j q1 q2 => by rw [upd_ne q1, upd_ne q2]
  have e2 : upd (upd s (11 + k) v) 2 (nI (k + 1)) 2 = nI (k + 1) := upd_at
  have ek : upd (upd s (11 + k) v) 2 (nI (k + 1)) (11 + k) = v := by rw [upd_ne (by omega), upd_at]
  generalize upd (upd s (11 + k) v) 2 (nI (k + 1)) = t at e e2 ek
  have z2 : (t 2).toInt = k + 1 := by rw [e2, nI_toInt (by omega)]; omega
  have y2 : (s 2).toInt = k := by rw [h2, nI_toInt (by omega)]
  obtain ⟨⟨w0, w1, w2, w3, w4, w5, w6⟩, w7, w8, w9, w10⟩ := h
  refine ⟨⟨?_, ?_, ?_, ?_⟩, ?_, ?_, ?_, ?_⟩
  · rw [e 0 (by omega) (by omega)]
    exact w0
  · rw [e 1 (by omega) (by omega)]
    exact w1
  · omega
  · rw [e 3 (by omega) (by omega), e 4 (by omega) (by omega), e 5 (by omega) (by omega), e 6 (by omega) (by omega)]
    exact ⟨w3, w4, w5, w6⟩
  · rw [e 7 (by omega) (by omega), e 8 (by omega) (by omega), e 9 (by omega) (by omega), e 10 (by omega) (by omega)]
    exact w7
  · intro j hj hj2
    by_cases q : j = k
    · rw [q, ek]
      exact hv
    · rw [e _ (by omega) (by omega)]
      exact w8 j hj (by omega)
  · intro j hj hj2
    rw [e 3 (by omega) (by omega)] at hj2
    exact WFf_congr (fun i _ => e _ (by omega) (by omega)) (w9 j hj hj2)
  · intro j hj hj2
    rw [e 4 (by omega) (by omega)] at hj2
    rw [e (88 + 3 * j) (by omega) (by omega), e (88 + 3 * j + 1) (by omega) (by omega), e (88 + 3 * j + 2) (by omega) (by omega)]
    obtain ⟨v1, ⟨v2, v3⟩, v4⟩ := w10 j hj hj2
    exact ⟨v1, ⟨v2, by omega⟩, v4⟩
theorem BR_r {s : Nat → Int32} {x a : mA} {f : mF} {k : Nat} {v : Int32} (hk : k < 5) (h2 : s 2 = nI k) (h : BR s x a f 25) : BR (upd (upd s (11 + k) v) 2 (nI (k + 1))) (mS x 25 (upd (x 25) 3 (nI (k + 1)))) (mS a 26 (upd (a 26) k v)) f 25 := by
  have e : ∀ j, j ≠ 2 → j ≠ 11 + k → upd (upd s (11 + k) v) 2 (nI (k + 1)) j = s j := fun j q1 q2 => by rw [upd_ne q1, upd_ne q2]
  have e2 : upd (upd s (11 + k) v) 2 (nI (k + 1)) 2 = nI (k + 1) := upd_at
  have ek : upd (upd s (11 + k) v) 2 (nI (k + 1)) (11 + k) = v := by rw [upd_ne (by omega), upd_at]
  generalize upd (upd s (11 + k) v) 2 (nI (k + 1)) = t at e e2 ek
  have y2 : (s 2).toInt = k := by rw [h2, nI_toInt (by omega)]
  obtain ⟨⟨w0, w1, w2, w3, w4, w5, w6⟩, w7, w8, w9, w10⟩ := h
  refine ⟨⟨?_, ?_, ?_, ?_⟩, ?_, ?_, ?_, ?_⟩
  · rw [e 0 (by omega) (by omega)]
    exact w0
  · rw [e 1 (by omega) (by omega)]
    exact w1
  · rw [e2]
    rfl
  · rw [e 3 (by omega) (by omega), e 4 (by omega) (by omega), e 5 (by omega) (by omega), e 6 (by omega) (by omega)]
    exact ⟨w3, w4, w5, w6⟩
  · intro j hj
    rw [e _ (by omega) (by omega)]
    exact w7 j hj
  · intro j hj hj2
    rw [e2, nI_toInt (by omega)] at hj2
    show t (11 + j) = upd (a 26) k v j
    by_cases q : j = k
    · rw [q, ek, upd_at]
    · rw [e _ (by omega) (by omega), upd_ne q]
      exact w8 j hj (by omega)
  · intro j hj hj2 i hi
    rw [e 3 (by omega) (by omega)] at hj2
    rw [e _ (by omega) (by omega)]
    exact w9 j hj hj2 i hi
  · intro j hj hj2
    rw [e 4 (by omega) (by omega)] at hj2
    rw [e (88 + 3 * j) (by omega) (by omega), e (88 + 3 * j + 1) (by omega) (by omega), e (88 + 3 * j + 2) (by omega) (by omega)]
    exact w10 j hj hj2
-- a fault more
theorem qN_e {s T : Nat → Int32} {m : Nat} (hm : m < 8) : (∀ j, j ≠ 3 → ¬ (16 + 9 * m ≤ j ∧ j < 16 + 9 * m + 9) → qN s T m j = s j) ∧ qN s T m 3 = nI (m + 1) ∧ (∀ k, k < 7 → qN s T m (16 + 9 * m + k) = T k) ∧ qN s T m (16 + 9 * m + 7) = 0 ∧ qN s T m (16 + 9 * m + 8) = 1 := by
  unfold qN
  refine ⟨fun j q1 q2 => ?_, upd_at, fun k hk => ?_, ?_, ?_⟩
  · rw [upd_ne q1, upd_ne (by omega), upd_ne (by omega)]
    exact if_neg (by omega)
  · rw [upd_ne (by omega), upd_ne (by omega), upd_ne (by omega)]
    unfold ent
    rw [if_pos (by omega), show 16 + 9 * m + k - (16 + 9 * m) = k by omega]
  · rw [upd_ne (by omega), upd_ne (by omega), upd_at]
  · rw [upd_ne (by omega), upd_at]
theorem WF_q {s T : Nat → Int32} {m : Nat} (hm : m < 8) (h3 : s 3 = nI m) (hT : (0 ≤ (T 0).toInt ∧ (T 0).toInt ≤ 7) ∧ (0 ≤ (T 1).toInt ∧ (T 1).toInt ≤ 99) ∧ (0 ≤ (T 2).toInt ∧ (T 2).toInt ≤ 9) ∧ (1 ≤ (T 3).toInt ∧ (T 3).toInt ≤ 99) ∧ (1 ≤ (T 4).toInt ∧ (T 4).toInt ≤ 99) ∧ (1 ≤ (T 5).toInt ∧ (T 5).toInt ≤ 20) ∧ 1 ≤ (T 6).toInt ∧ (T 6).toInt ≤ 20) (h : WF s) : WF (qN s T m) := by
  obtain ⟨e, e3, eT, e7, e8⟩ := qN_e (s := s) (T := T) hm
  generalize qN s T m = t at e e3 eT e7 e8
  have y3 : (s 3).toInt = m := by rw [h3, nI_toInt (by omega)]
  have z3 : (t 3).toInt = m + 1 := by rw [e3, nI_toInt (by omega)]; omega
  obtain ⟨⟨w0, w1, w2, w3, w4, w5, w6⟩, w7, w8, w9, w10⟩ := h
  refine ⟨⟨?_, ?_, ?_, ?_, ?_⟩, ?_, ?_, ?_, ?_⟩
  · rw [e 0 (by omega) (by omega)]
    exact w0
  · rw [e 1 (by omega) (by omega)]
    exact w1
  · rw [e 2 (by omega) (by omega)]
    exact w2
  · omega
  · rw [e 4 (by omega) (by omega), e 5 (by omega) (by omega), e 6 (by omega) (by omega)]
    exact ⟨w4, w5, w6⟩
  · rw [e 7 (by omega) (by omega), e 8 (by omega) (by omega), e 9 (by omega) (by omega), e 10 (by omega) (by omega)]
    exact w7
  · intro j hj hj2
    rw [e 2 (by omega) (by omega)] at hj2
    rw [e _ (by omega) (by omega)]
    exact w8 j hj hj2
  · intro j hj hj2
    by_cases q : j = m
    · rw [q]
      obtain ⟨t0, t1, t2, t3, t4, t5, t6⟩ := hT
      unfold WFf
      rw [show t (16 + 9 * m) = T 0 from eT 0 (by omega), eT 1 (by omega), eT 2 (by omega), eT 3 (by omega), eT 4 (by omega), eT 5 (by omega), eT 6 (by omega), e7, e8]
      refine ⟨t0, t1, ?_, t3, t4, t5, t6, by decide, by decide, by decide⟩
      exact t2
    · exact WFf_congr (fun i _ => e _ (by omega) (by omega)) (w9 j hj (by omega))
  · intro j hj hj2
    rw [e 4 (by omega) (by omega)] at hj2
    rw [e 2 (by omega) (by omega), e (88 + 3 * j) (by omega) (by omega), e (88 + 3 * j + 1) (by omega) (by omega), e (88 + 3 * j + 2) (by omega) (by omega)]
    exact w10 j hj hj2
theorem BR_q {s T N : Nat → Int32} {x a : mA} {f : mF} {m : Nat} {l : Int32} (hm : m < 8) (h3 : s 3 = nI m) (hT : ∀ k, k < 7 → T k = bcW l N k) (h : BR s x a f 25) : BR (qN s T m) (mS x 25 (upd (x 25) 5 (nI (m + 1)))) a (fS f 28 m (bcW l N)) 25 := by
  obtain ⟨e, e3, eT, e7, e8⟩ := qN_e (s := s) (T := T) hm
  generalize qN s T m = t at e e3 eT e7 e8
  have y3 : (s 3).toInt = m := by rw [h3, nI_toInt (by omega)]
  obtain ⟨⟨w0, w1, w2, w3, w4, w5, w6⟩, w7, w8, w9, w10⟩ := h
  refine ⟨⟨?_, ?_, ?_, ?_, ?_⟩, ?_, ?_, ?_, ?_⟩
  · rw [e 0 (by omega) (by omega)]
    exact w0
  · rw [e 1 (by omega) (by omega)]
    exact w1
  · rw [e 2 (by omega) (by omega)]
    exact w2
  · rw [e3]
    rfl
  · rw [e 4 (by omega) (by omega), e 5 (by omega) (by omega), e 6 (by omega) (by omega)]
    exact ⟨w4, w5, w6⟩
  · intro j hj
    rw [e _ (by omega) (by omega)]
    exact w7 j hj
  · intro j hj hj2
    rw [e 2 (by omega) (by omega)] at hj2
    rw [e _ (by omega) (by omega)]
    exact w8 j hj hj2
  · intro j hj hj2 i hi
    rw [e3, nI_toInt (by omega)] at hj2
    show t (16 + 9 * j + i) = (if j = m then bcW l N else f 28 j) i
    by_cases q : j = m
    · rw [if_pos q, q]
      by_cases i7 : i < 7
      · rw [eT i i7]
        exact hT i i7
      · rcases (show i = 7 ∨ i = 8 by omega) with z | z
        · rw [z, e7]
          rfl
        · rw [z, e8]
          rfl
    · rw [if_neg q, e _ (by omega) (by omega)]
      exact w9 j hj (by omega) i hi
  · intro j hj hj2
    rw [e 4 (by omega) (by omega)] at hj2
    rw [e (88 + 3 * j) (by omega) (by omega), e (88 + 3 * j + 1) (by omega) (by omega), e (88 + 3 * j + 2) (by omega) (by omega)]
    exact w10 j hj hj2
