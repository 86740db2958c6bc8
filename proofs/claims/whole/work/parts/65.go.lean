theorem x_rideF {g : mG} {A x a : mA} {f F : mF} (h : IV g A x a f) {m ns j : Nat} (em : A 2 3 = nI m) (hm : m ≤ 8) (en : A 2 4 = nI ns) (hn : ns ≤ 8) (hj : j < m) (hF : F 20 j = f 20 j) (d : Nat) (mb : Nat → AB) (w r : Nat → Int32) (wanted : Int32) : ab_Ex (d + 4) 0 yX2_passRide [vR 41 0, vR 20 j, vI wanted] (hX mb (mS (mS x 42 w) 41 r) a F) (some (vI ((rdN x a ns (bgQ x f j wanted r)).2 5))) (hX mb (mS (mS x 42 (rdN x a ns (bgQ x f j wanted r)).1) 41 (rdN x a ns (bgQ x f j wanted r)).2) a F) := by
  have e2 : bgN m A 2 = A 2 := bgN_n m A (by decide) (by decide) (by decide)
  have hR := ride_RN h em hm en hn hj (G := bgG g A) rfl rfl wanted r
  have exn : x 17 12 = nI ns := by rw [← h.2.2.2.2.2.1.1.2.2.2.2.1]; exact en
  refine p_ride d mb x a F (i := j) (by omega) exn hn (IV_x5 h) w r wanted (bgQ x f j wanted r) ?_ (fun n hlt => ?_)
  · rw [hF]
    rfl
  · obtain ⟨-, s1, s2⟩ := RN_step (f := f) (by rw [e2]; exact h.2.2.2.2.1) (by rw [e2]; exact h.2.2.2.2.2.1) (by rw [e2]; exact em) hm (by rw [e2]; exact en) hn hj hlt (hR n (by omega))
    obtain ⟨w', T, -, -, -, hT, -, -, -, eT, -⟩ := stage_nums h.2.2.2.2.1 h.2.2.2.2.2.1 en hlt hn
    exact ⟨s1, s2, T, hT, eT⟩
/-- a fault's numbers behind the ride -/
def goV (s wh by_ : Nat → Int32) (j k : Nat) : Int32 := if k = 7 then wh j else if k = 8 then by_ j else s (16 + 9 * j + k)
theorem ride_V {g : mG} {A x a : mA} {f : mF} (h : IV g A x a f) {m ns j : Nat} (em : A 2 3 = nI m) (hm : m ≤ 8) (en : A 2 4 = nI ns) (hn : ns ≤ 8) (hj : j < m) (wanted : Int32) (r : Nat → Int32) : (∀ k, k < 9 → (rdN x a ns (bgQ x f j wanted r)).1 k = goV (A 2) ((rsN m ns (bgG g A, bgN m A)).2 7) ((rsN m ns (bgG g A, bgN m A)).2 8) j k) ∧ (1 ≤ ((rsN m ns (bgG g A, bgN m A)).2 8 j).toInt ∧ ((rsN m ns (bgG g A, bgN m A)).2 8 j).toInt ≤ 140) ∧ 0 ≤ ((rsN m ns (bgG g A, bgN m A)).2 7 j).toInt ∧ ((rsN m ns (bgG g A, bgN m A)).2 7 j).toInt < 100 * ((rsN m ns (bgG g A, bgN m A)).2 8 j).toInt := by
  have hR := ride_RN h em hm en hn hj (G := bgG g A) rfl rfl wanted r ns (Nat.le_refl _)
  have e2 : (rsN m ns (bgG g A, bgN m A)).2 2 = A 2 := by
    rw [rsN_A _ _ _ (by decide) (by decide) (by decide)]
    exact bgN_n m A (by decide) (by decide) (by decide)
  obtain ⟨⟨r0, r7, r8, -, -, -, -, b1, b2, b3⟩, -⟩ := hR
  refine ⟨fun k hk => ?_, b1, b2, b3⟩
  unfold goV
  by_cases k7 : k = 7
  · rw [if_pos k7, k7]
    exact r7
  by_cases k8 : k = 8
  · rw [if_neg k7, if_pos k8, k8]
    exact r8
  · rw [if_neg k7, if_neg k8, r0 k (by omega), e2]
def goS (s wh by_ : Nat → Int32) : Nat → Nat → Int32
  | 0 => s
  | i + 1 => upd (upd (goS s wh by_ i) (16 + 9 * i + 7) (wh i)) (16 + 9 * i + 8) (by_ i)
theorem goS_ne (s wh by_ : Nat → Int32) {k : Nat} : ∀ n : Nat, (∀ j, j < n → k ≠ 16 + 9 * j + 7 ∧ k ≠ 16 + 9 * j + 8) → goS s wh by_ n k = s k := by
  intro n
  induction n with
  | zero => intro _; rfl
  | succ n ih =>
    intro h
    show upd (upd (goS s wh by_ n) (16 + 9 * n + 7) (wh n)) (16 + 9 * n + 8) (by_ n) k = _
    rw [upd_ne (h n (by omega)).2, upd_ne (h n (by omega)).1]
    exact ih (fun j hj => h j (by omega))
theorem goS_at (s wh by_ : Nat → Int32) {j : Nat} : ∀ n : Nat, j < n → ∀ k, k < 9 → goS s wh by_ n (16 + 9 * j + k) = goV s wh by_ j k := by
  intro n
  induction n with
  | zero => intro h; exact absurd h (Nat.not_lt_zero j)
  | succ n ih =>
    intro h k hk
    show upd (upd (goS s wh by_ n) (16 + 9 * n + 7) (wh n)) (16 + 9 * n + 8) (by_ n) (16 + 9 * j + k) = _
    by_cases q : j = n
    · subst q
      unfold goV
      by_cases k8 : k = 8
      · rw [k8, upd_at]
        rfl
      rw [upd_ne (by omega)]
      by_cases k7 : k = 7
      · rw [k7, upd_at]
        rfl
      · rw [upd_ne (by omega), if_neg k7, if_neg k8]
        exact goS_ne s wh by_ j (fun i hi => by omega)
    · rw [upd_ne (by omega), upd_ne (by omega)]
      exact ih (by omega) k hk
theorem rs_12 {g : mG} {A x a : mA} {f : mF} (h : IV g A x a f) {m ns : Nat} (en : A 2 4 = nI ns) (hn : ns ≤ 8) : ∀ n, n ≤ ns → (rsN m n (bgG g A, bgN m A)).1 12 = A 2 5 + bx_sum (fun i => A 2 (88 + 3 * i + 2)) n := by
  intro n
  induction n with
  | zero =>
    intro _
    show A 2 5 = A 2 5 + 0
    rw [Int32.add_zero]
  | succ n ih =>
    intro hlt
    obtain ⟨w, T, -, -, -, hT, -, -, eT, -⟩ := stage_nums h.2.2.2.2.1 h.2.2.2.2.2.1 en (i := n) (by omega) hn
    have e2 : (rsN m n (bgG g A, bgN m A)).2 2 = A 2 := by
      rw [rsN_A _ _ _ (by decide) (by decide) (by decide)]
      exact bgN_n m A (by decide) (by decide) (by decide)
    show (rsF m n (rsN m n (bgG g A, bgN m A))).1 12 = A 2 5 + (bx_sum (fun i => A 2 (88 + 3 * i + 2)) n + A 2 (88 + 3 * n + 2))
    unfold rsF
    rw [(sgN_12 _ _ _ _).1, e2, eT, nI_clamp (by omega), ← Int32.add_assoc]
    show (rsN m n (bgG g A, bgN m A)).1 12 + nI T = _
    rw [ih (by omega)]
theorem WF_go {s wh by_ : Nat → Int32} {m : Nat} {t : Int32} (h : WF s) (em : s 3 = nI m) (hm : m ≤ 8) (ht0 : 0 ≤ t.toInt) (ht1 : t.toInt ≤ 9999) (hr : ∀ j, j < m → (1 ≤ (by_ j).toInt ∧ (by_ j).toInt ≤ 140) ∧ 0 ≤ (wh j).toInt ∧ (wh j).toInt < 100 * (by_ j).toInt) : WF (upd (goS s wh by_ m) 5 t) := by
  obtain ⟨⟨w0, w1, w2, w3, w4, w5, w6⟩, w7, w8, w9, w10⟩ := h
  have e : ∀ k, k ≠ 5 → k < 16 ∨ 88 ≤ k → upd (goS s wh by_ m) 5 t k = s k := by
    intro k k5 hk
    rw [upd_ne k5]
    exact goS_ne s wh by_ m (fun j hj => by omega)
  refine ⟨?_, ?_, ?_, ?_, ?_⟩
  · rw [e 0 (by omega) (by omega), e 1 (by omega) (by omega), e 2 (by omega) (by omega), e 3 (by omega) (by omega), e 4 (by omega) (by omega), e 6 (by omega) (by omega), upd_at]
    exact ⟨w0, w1, w2, w3, w4, ⟨ht0, ht1⟩, w6⟩
  · rw [e 7 (by omega) (by omega), e 8 (by omega) (by omega), e 9 (by omega) (by omega), e 10 (by omega) (by omega)]
    exact w7
  · intro j hj hj2
    rw [e 2 (by omega) (by omega)] at hj2
    rw [e _ (by omega) (by omega)]
    exact w8 j hj hj2
  · intro j hj hj2
    rw [e 3 (by omega) (by omega)] at hj2
    have hjm : j < m := by
      rw [em, nI_toInt (by omega)] at hj2
      omega
    obtain ⟨v0, v1, v2, v3, v4, v5, v6, -, -⟩ := w9 j hj hj2
    have q : ∀ k, k < 9 → upd (goS s wh by_ m) 5 t (16 + 9 * j + k) = goV s wh by_ j k := fun k hk => by
      rw [upd_ne (by omega)]
      exact goS_at s wh by_ m hjm k hk
    unfold WFf
    rw [show upd (goS s wh by_ m) 5 t (16 + 9 * j) = goV s wh by_ j 0 from q 0 (by omega), q 1 (by omega), q 2 (by omega), q 3 (by omega), q 4 (by omega), q 5 (by omega), q 6 (by omega), q 7 (by omega), q 8 (by omega)]
    exact ⟨v0, v1, v2, v3, v4, v5, v6, hr j hjm⟩
  · intro j hj hj2
    rw [e 4 (by omega) (by omega)] at hj2
    rw [e 2 (by omega) (by omega), e _ (by omega) (by omega), e _ (by omega) (by omega), e _ (by omega) (by omega)]
    exact w10 j hj hj2
theorem BR_go {s wh by_ : Nat → Int32} {x a x' : mA} {f F : mF} {m : Nat} {t : Int32} (h : BR s x a f 17) (em : s 3 = nI m) (hm : m ≤ 8) (hx : x' 17 = upd (x 17) 7 t) (hF : ∀ j, j < m → ∀ k, k < 9 → F 20 j k = goV s wh by_ j k) : BR (upd (goS s wh by_ m) 5 t) x' a F 17 := by
  obtain ⟨⟨w0, w1, w2, w3, w4, w5, w6⟩, w7, w8, w9, w10⟩ := h
  have e : ∀ k, k ≠ 5 → k < 16 ∨ 88 ≤ k → upd (goS s wh by_ m) 5 t k = s k := by
    intro k k5 hk
    rw [upd_ne k5]
    exact goS_ne s wh by_ m (fun j hj => by omega)
  refine ⟨?_, ?_, ?_, ?_, ?_⟩
  · rw [e 0 (by omega) (by omega), e 1 (by omega) (by omega), e 2 (by omega) (by omega), e 3 (by omega) (by omega), e 4 (by omega) (by omega), e 6 (by omega) (by omega), upd_at, hx]
    exact ⟨w0, w1, w2, w3, w4, rfl, w6⟩
  · intro k hk
    rw [e _ (by omega) (by omega)]
    exact w7 k hk
  · intro j hj hj2
    rw [e 2 (by omega) (by omega)] at hj2
    rw [e _ (by omega) (by omega)]
    exact w8 j hj hj2
  · intro j hj hj2 k hk
    rw [e 3 (by omega) (by omega)] at hj2
    have hjm : j < m := by
      rw [em, nI_toInt (by omega)] at hj2
      omega
    rw [upd_ne (by omega), goS_at s wh by_ m hjm k hk]
    exact (hF j hjm k hk).symm
  · intro j hj hj2
    rw [e 4 (by omega) (by omega)] at hj2
    rw [e _ (by omega) (by omega), e _ (by omega) (by omega), e _ (by omega) (by omega)]
    exact w10 j hj hj2
