def sdN (z : Int32) : Nat → Int32
  | 0 => z
  | n + 1 => drwS (sdN z n)
def msN (z sl : Int32) : Nat → Int32
  | 0 => 0
  | n + 1 => msN z sl n + drwM (sdN z (n + 1)) sl
/-- N clicks were heard or missed -/
def DI (z sl : Int32) (m : Nat) (s : Nat → Int32) (q : mGA) (N : Nat) : Prop := q.1 14 = sdN z N ∧ q.1 15 = msN z sl N ∧ bx_sum (q.2 9) m = nI N ∧ q.1 16 = 1 ∧ q.2 2 = s
theorem bx_upd (c : Nat → Int32) : ∀ (m i : Nat), i < m → bx_sum (upd c i (c i + 1)) m = bx_sum c m + 1 := by
  intro m
  induction m with
  | zero => intro i hi; exact absurd hi (Nat.not_lt_zero i)
  | succ m ih =>
    intro i hi
    show bx_sum (upd c i (c i + 1)) m + upd c i (c i + 1) m = bx_sum c m + c m + 1
    by_cases q : i = m
    · subst q
      rw [upd_at, bx_congr i (fun j hj => upd_ne (by omega)), Int32.add_assoc]
    · rw [upd_ne (by omega), ih i (by omega), Int32.add_assoc, Int32.add_comm 1, ← Int32.add_assoc]
theorem bx_0 (c : Nat → Int32) : ∀ m : Nat, (∀ i, i < m → c i = 0) → bx_sum c m = 0 := by
  intro m
  induction m with
  | zero => intro _; rfl
  | succ m ih =>
    intro h
    show bx_sum c m + c m = 0
    rw [ih (fun i hi => h i (by omega)), h m (by omega)]
    rfl
theorem DI_F {z sl : Int32} {m : Nat} {s : Nat → Int32} (hs : s 9 = sl) (act step : Int32) {i : Nat} (hi : i < m) {q : mGA} {N : Nat} (h : DI z sl m s q N) : ∃ N', N' ≤ N + 1 ∧ DI z sl m s (gsF act step i q) N' := by
  obtain ⟨h1, h2, h3, h4, h5⟩ := h
  have eW2 : gsW act q.2 i 2 = q.2 2 := mS_ne _ _ _ (by decide)
  have eW9 : gsW act q.2 i 9 = q.2 9 := mS_ne _ _ _ (by decide)
  unfold gsF
  by_cases hc : ckP act step q.1 q.2 i
  · rw [if_pos hc]
    refine ⟨N + 1, Nat.le_refl _, ?_, ?_, ?_, ?_, ?_⟩
    · show ckH q.1 (gsW act q.2 i) i 14 = _
      unfold ckH
      rw [if_neg (by rw [h4]; decide), upd_ne (by decide), upd_at, h1]
      rfl
    · show ckH q.1 (gsW act q.2 i) i 15 = _
      unfold ckH
      rw [if_neg (by rw [h4]; decide), upd_at, h1, h2, eW2, h5, hs]
      rfl
    · show bx_sum (ckA (gsW act q.2 i) i 9) m = _
      unfold ckA
      rw [mS_eq, eW9, bx_upd _ m i hi, h3, nI_succ]
    · show ckH q.1 (gsW act q.2 i) i 16 = _
      rw [ckH_n _ _ _ (by decide) (by decide) (by decide)]
      exact h4
    · show ckA (gsW act q.2 i) i 2 = _
      unfold ckA
      rw [mS_ne _ _ _ (by decide), eW2]
      exact h5
  · rw [if_neg hc]
    refine ⟨N, by omega, h1, h2, ?_, h4, eW2.trans h5⟩
    show bx_sum (gsW act q.2 i 9) m = _
    rw [eW9]
    exact h3
theorem DI_N {z sl : Int32} {m : Nat} {s : Nat → Int32} (hs : s 9 = sl) (act step : Int32) {q : mGA} {N : Nat} (h : DI z sl m s q N) : ∀ n, n ≤ m → ∃ N', N' ≤ N + n ∧ DI z sl m s (gsN act step n q) N' := by
  intro n
  induction n with
  | zero => exact fun _ => ⟨N, Nat.le_refl _, h⟩
  | succ n ih =>
    intro hn
    obtain ⟨N1, b1, h1⟩ := ih (by omega)
    obtain ⟨N2, b2, h2⟩ := DI_F hs act step (i := n) (by omega) h1
    exact ⟨N2, by omega, h2⟩
theorem DI_tu {z sl : Int32} {m : Nat} (hm : m ≤ 8) {s : Nat → Int32} (hs : s 9 = sl) (act : Int32) {q : mGA} {N : Nat} (h : DI z sl m s q N) : ∀ n, ∃ N', N' ≤ N + 8 * n ∧ DI z sl m s (tuN m act n q) N' := by
  intro n
  induction n with
  | zero => exact ⟨N, Nat.le_refl _, h⟩
  | succ n ih =>
    obtain ⟨N1, b1, h1⟩ := ih
    obtain ⟨N2, b2, h2⟩ := DI_N hs act (nI n) h1 m (Nat.le_refl _)
    exact ⟨N2, by omega, h2⟩
theorem DI_sg {z sl : Int32} {m : Nat} (hm : m ≤ 8) {s : Nat → Int32} (hs : s 9 = sl) (act : Int32) {q : mGA} {N : Nat} (h : DI z sl m s q N) : ∀ n, ∃ N', N' ≤ N + 800 * n ∧ DI z sl m s (sgN m act n q) N' := by
  intro n
  induction n with
  | zero => exact ⟨N, Nat.le_refl _, h⟩
  | succ n ih =>
    obtain ⟨N1, b1, h1⟩ := ih
    obtain ⟨c, hc⟩ : ∃ c : Nat, c = 100 := ⟨_, rfl⟩
    obtain ⟨N2, b2, h2⟩ := DI_tu hm hs act h1 c
    have b3 : N2 ≤ N + 800 * (n + 1) := by omega
    rw [hc] at h2
    have e : sgN m act (n + 1) q = tuT m act (sgN m act n q) := rfl
    rw [e]
    unfold tuT
    generalize tuN m act 100 (sgN m act n q) = Q at h2 ⊢
    obtain ⟨p1, p2, p3, p4, p5⟩ := h2
    exact ⟨N2, b3, p1, p2, p3, p4, p5⟩
theorem DI_rs {z sl : Int32} {m : Nat} (hm : m ≤ 8) {s : Nat → Int32} (hs : s 9 = sl) {q : mGA} {N ns : Nat} (hT : ∀ i, i < ns → (s (88 + 3 * i + 2)).toNatClampNeg ≤ 60) (h : DI z sl m s q N) : ∀ n, n ≤ ns → ∃ N', N' ≤ N + 48000 * n ∧ DI z sl m s (rsN m n q) N' := by
  intro n
  induction n with
  | zero => exact fun _ => ⟨N, Nat.le_refl _, h⟩
  | succ n ih =>
    intro hn
    obtain ⟨N1, b1, h1⟩ := ih (by omega)
    have h2 : DI z sl m s ((rsN m n q).1, opN ((rsN m n q).2 2 (88 + 3 * n + 1)).toNatClampNeg m (rsN m n q).2) N1 := by
      obtain ⟨p1, p2, p3, p4, p5⟩ := h1
      refine ⟨p1, p2, ?_, p4, ?_⟩
      · show bx_sum (opN _ m (rsN m n q).2 9) m = _
        rw [opN_n _ _ _ (by decide) (by decide)]
        exact p3
      · show opN _ m (rsN m n q).2 2 = s
        rw [opN_n _ _ _ (by decide) (by decide)]
        exact p5
    have e5 : (rsN m n q).2 2 = s := h1.2.2.2.2
    obtain ⟨N2, b2, h3⟩ := DI_sg hm hs ((rsN m n q).2 2 (88 + 3 * n)) h2 ((rsN m n q).2 2 (88 + 3 * n + 2)).toNatClampNeg
    have hb := hT n (by omega)
    rw [e5] at b2
    exact ⟨N2, by omega, h3⟩
