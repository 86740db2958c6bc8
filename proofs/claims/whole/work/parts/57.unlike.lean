/-- whether the count i is unlike the first j ones -/
def nwN (V : Nat → Int32) (i : Nat) : Nat → Int32
  | 0 => 1
  | j + 1 => if nwN V i j = 0 then 0 else if V j = V i then 0 else 1
def ulN (V : Nat → Int32) : Nat → Int32
  | 0 => 0
  | i + 1 => ulN V i + (if nwN V i i = 0 then 0 else 1)
theorem nwN_congr {V U : Nat → Int32} {i : Nat} : ∀ j, j ≤ i → (∀ k, k ≤ i → V k = U k) → nwN V i j = nwN U i j := by
  intro j
  induction j with
  | zero => intro _ _; rfl
  | succ j ih =>
    intro hj h
    show (if nwN V i j = 0 then (0 : Int32) else if V j = V i then 0 else 1) = if nwN U i j = 0 then 0 else if U j = U i then 0 else 1
    rw [ih (by omega) h, h j (by omega), h i (by omega)]
theorem ulN_congr {V U : Nat → Int32} : ∀ m, (∀ k, k < m → V k = U k) → ulN V m = ulN U m := by
  intro m
  induction m with
  | zero => intro _; rfl
  | succ m ih =>
    intro h
    show ulN V m + (if nwN V m m = 0 then 0 else 1) = ulN U m + (if nwN U m m = 0 then 0 else 1)
    rw [ih (fun k hk => h k (by omega)), nwN_congr m (Nat.le_refl _) (fun k hk => h k (by omega))]
theorem cvU_cl (x a : mA) (f : mF) (T i : Nat) (c : Nat → Int32) : cvU x (mS a 45 c) f T i = cvU x a f T i := by
  funext act w
  unfold cvU cvV
  rw [stX_congr (x := x) (a := a) (x' := x) (a' := mS a 45 c) rfl (mS_ne _ _ _ (by decide)) (mS_ne _ _ _ (by decide))]
set_option maxRecDepth 100000 in
theorem x_unlike {g : mG} {A x a : mA} {f : mF} (h : IV g A x a f) {m ng w T act : Nat} (em : A 2 3 = nI m) (hm : m ≤ 8) (eg : A 2 2 = nI ng) (hng : ng ≤ 5) (hw : w < ng) (hT : T ≤ 60) (ha : act < 4) (d : Nat) (mb : Nat → AB) (u r c : Nat → Int32) : ∃ u' r' c' : Nat → Int32, ab_Ex (d + 5) 0 yX4_unlikeCounts [vR 13 0, vI (nI act), vI (nI w), vI (nI T)] (hX mb (mS (mS x 42 u) 41 r) (mS a 45 c) f) (some (vI (ulN (fun j => cvU x a f T j act w) m))) (hX mb (mS (mS x 42 u') 41 r') (mS a 45 c') f) := by
  have exm : x 17 5 = nI m := by rw [← h.2.2.2.2.2.1.1.2.2.2.1]; exact em
  obtain ⟨V, hV⟩ : ∃ V : Nat → Int32, V = fun j => cvU x a f T j act w := ⟨_, rfl⟩
  rw [← hV]
  have loop : ∀ (k i : Nat) (u2 r2 c2 : Nat → Int32), i + k = m → (∀ j, j < i → c2 j = V j) → ∃ u' r' c' : Nat → Int32, ∀ E, ab_W jX4_unlikeCounts (d + 4) E (hX mb (mS (mS x 42 u) 41 r) (mS a 45 c) f) 70 (fun v1 h1 => v1 = some (vI (ulN V m)) ∧ h1 = hX mb (mS (mS x 42 u') 41 r') (mS a 45 c') f) (ab_at iX4_unlikeCounts 6) [(5, vI (nI i)), (4, vI (ulN V i)), (0, vR 13 0), (1, vI (nI act)), (2, vI (nI w)), (3, vI (nI T))] [] (hX mb (mS (mS x 42 u2) 41 r2) (mS a 45 c2) f) := by
    intro k
    induction k with
    | zero =>
      intro i u2 r2 c2 hi hc
      refine ⟨u2, r2, c2, fun E => ?_⟩
      refine ab_run [6, 40] 100 oX4_unlikeCounts.1 (Nat.le_refl _) 6 ?_
      refine ⟨fun c1 => ?_, fun (c1 : ¬ x 17 5 ≤ nI i) => ?_⟩
      · rw [show m = i by omega]
        exact ⟨rfl, rfl⟩
      · rw [exm] at c1
        exact absurd (nI_le (by omega) (by omega)) c1
    | succ k ih =>
      intro i u2 r2 c2' hi hc
      obtain ⟨u3, r3, e3⟩ := x_cisV (IV_cl h c2') em hm eg hng (j := i) (w := w) (T := T) (act := act) (by omega) hw hT ha d mb u2 r2
      rw [cvU_cl, show cvU x a f T i act w = V i by rw [hV]] at e3
      have hc3 : ∀ j, j < i + 1 → upd c2' i (V i) j = V j := by
        intro j hj
        by_cases q : j = i
        · rw [q, upd_at]
        · rw [upd_ne q]
          exact hc j (by omega)
      obtain ⟨u', r', c', hW⟩ := ih (i + 1) u3 r3 (upd c2' i (V i)) (by omega) hc3
      refine ⟨u', r', c', fun E => ?_⟩
      have inner : ∀ (l j : Nat), j + l = i → ab_W jX4_unlikeCounts (d + 4) E (hX mb (mS (mS x 42 u) 41 r) (mS a 45 c) f) 70 (fun v1 h1 => v1 = some (vI (ulN V m)) ∧ h1 = hX mb (mS (mS x 42 u') 41 r') (mS a 45 c') f) (ab_at iX4_unlikeCounts 40) [(7, vI (nI j)), (6, vI (nwN V i j)), (5, vI (nI i)), (4, vI (ulN V i)), (0, vR 13 0), (1, vI (nI act)), (2, vI (nI w)), (3, vI (nI T))] [] (hX mb (mS (mS x 42 u3) 41 r3) (mS a 45 (upd c2' i (V i))) f) := by
        intro l
        induction l with
        | zero =>
          intro j hj
          have h9 := hW E
          rw [nI_succ, show ulN V (i + 1) = ulN V i + (if nwN V i i = 0 then 0 else 1) from rfl] at h9
          rw [show j = i by omega]
          refine ab_run [6, 40] 100 oX4_unlikeCounts.1 (Nat.le_refl _) 40 ?_
          refine ⟨fun c1 => ?_, fun c1 => absurd (nI_le (Nat.le_refl _) (by omega)) c1⟩
          refine ⟨fun c2 => ?_, fun c2 => ?_⟩
          · rw [if_pos c2] at h9
            exact ab_W_lv (lv_pk [0, 1, 4, 5, 6, 7] rfl) h9
          · rw [if_neg c2] at h9
            exact ab_W_lv (lv_pk [0, 1, 4, 5, 6, 7] rfl) h9
        | succ l ihl =>
          intro j hj
          have h9 := ihl (j + 1) (by omega)
          rw [nI_succ, show nwN V i (j + 1) = (if nwN V i j = 0 then 0 else if V j = V i then 0 else 1) from rfl] at h9
          refine ab_run [6, 40] 100 oX4_unlikeCounts.1 (Nat.le_refl _) 40 ?_
          refine ⟨fun c1 => absurd c1 (nI_ge (by omega) (by omega)), fun c1 => ?_⟩
          refine ⟨fun c2 => ?_, fun c2 => ?_⟩
          · rw [if_pos c2] at h9
            exact h9
          · rw [if_neg c2] at h9
            refine ⟨(vp_in_nI (by omega) (by omega) : vp_in (nI j) 8), (vp_in_nI (by omega) (by omega) : vp_in (nI i) 8), ?_⟩
            rw [nI_clamp (by omega), nI_clamp (by omega)]
            have q1 : upd c2' i (V i) j = V j := hc3 j (by omega)
            have q2 : upd c2' i (V i) i = V i := hc3 i (by omega)
            refine ⟨fun (c3 : upd c2' i (V i) j = upd c2' i (V i) i) => ?_, fun (c3 : ¬ upd c2' i (V i) j = upd c2' i (V i) i) => ?_⟩
            · rw [q1, q2] at c3
              rw [if_pos c3] at h9
              exact h9
            · rw [q1, q2] at c3
              rw [if_neg c3] at h9
              exact h9
      refine ab_run [6, 40] 100 oX4_unlikeCounts.1 (Nat.le_refl _) 6 ?_
      refine ⟨fun (c1 : x 17 5 ≤ nI i) => ?_, fun c1 => ?_⟩
      · rw [exm] at c1
        exact absurd c1 (nI_lt_m (by omega) (by omega))
      refine ⟨_, _, e3, Nat.le_refl _, ?_⟩
      refine ⟨(vp_in_nI (by omega) (by omega) : vp_in (nI i) 8), ?_⟩
      rw [nI_clamp (by omega)]
      exact inner i 0 (by omega)
  obtain ⟨u', r', c', hW⟩ := loop m 0 u r c (by omega) (fun j hj => absurd hj (Nat.not_lt_zero j))
  refine ⟨u', r', c', ?_⟩
  refine ab_meth oX4_unlikeCounts (d + 4) _ _ _ _ (Nat.le_refl _) rfl (fun E => ?_)
  refine ab_run [6, 40] 100 oX4_unlikeCounts.1 (Nat.le_refl _) 0 ?_
  exact hW E
set_option maxRecDepth 100000 in
theorem m_unlike (d : Nat) (G : mG) (B : mA) (xs : List AB) {m : Nat} (em : B 2 3 = nI m) (hm : m ≤ 8) : ab_Ex (d + 1) 0 yX5_unlike [vR 0 0] (hM G B xs) (some (vI (ulN (B 9) m))) (hM G B xs) := by
  refine ab_meth oX5_unlike d _ _ _ _ (Nat.le_refl _) rfl (fun E => ?_)
  have loop : ∀ (k i : Nat), i + k = m → ab_W jX5_unlike d E (hM G B xs) 70 (fun v1 h1 => v1 = some (vI (ulN (B 9) m)) ∧ h1 = hM G B xs) (ab_at iX5_unlike 4) [(2, vI (nI i)), (1, vI (ulN (B 9) i)), (0, vR 0 0)] [] (hM G B xs) := by
    intro k
    induction k with
    | zero =>
      intro i hi
      refine ab_run [4, 19] 100 oX5_unlike.1 (Nat.le_refl _) 4 ?_
      refine ⟨vp_d rfl, fun c1 => ?_, fun (c1 : ¬ B 2 3 ≤ nI i) => ?_⟩
      · rw [show m = i by omega]
        exact ⟨rfl, rfl⟩
      · rw [em] at c1
        exact absurd (nI_le (by omega) (by omega)) c1
    | succ k ih =>
      intro i hi
      have inner : ∀ (l j : Nat), j + l = i → ab_W jX5_unlike d E (hM G B xs) 70 (fun v1 h1 => v1 = some (vI (ulN (B 9) m)) ∧ h1 = hM G B xs) (ab_at iX5_unlike 19) [(4, vI (nI j)), (3, vI (nwN (B 9) i j)), (2, vI (nI i)), (1, vI (ulN (B 9) i)), (0, vR 0 0)] [] (hM G B xs) := by
        intro l
        induction l with
        | zero =>
          intro j hj
          have h9 := ih (i + 1) (by omega)
          rw [nI_succ, show ulN (B 9) (i + 1) = ulN (B 9) i + (if nwN (B 9) i i = 0 then 0 else 1) from rfl] at h9
          rw [show j = i by omega]
          refine ab_run [4, 19] 100 oX5_unlike.1 (Nat.le_refl _) 19 ?_
          refine ⟨fun c1 => ?_, fun c1 => absurd (nI_le (Nat.le_refl _) (by omega)) c1⟩
          refine ⟨fun c2 => ?_, fun c2 => ?_⟩
          · rw [if_pos c2] at h9
            exact ab_W_lv (lv_pk [0, 1, 4] rfl) h9
          · rw [if_neg c2] at h9
            exact ab_W_lv (lv_pk [0, 1, 4] rfl) h9
        | succ l ihl =>
          intro j hj
          have h9 := ihl (j + 1) (by omega)
          rw [nI_succ, show nwN (B 9) i (j + 1) = (if nwN (B 9) i j = 0 then 0 else if B 9 j = B 9 i then 0 else 1) from rfl] at h9
          refine ab_run [4, 19] 100 oX5_unlike.1 (Nat.le_refl _) 19 ?_
          refine ⟨fun c1 => absurd c1 (nI_ge (by omega) (by omega)), fun c1 => ?_⟩
          refine ⟨fun c2 => ?_, fun c2 => ?_⟩
          · rw [if_pos c2] at h9
            exact h9
          · rw [if_neg c2] at h9
            refine ⟨(vp_in_nI (by omega) (by omega) : vp_in (nI j) 8), (vp_in_nI (by omega) (by omega) : vp_in (nI i) 8), ?_⟩
            rw [nI_clamp (by omega), nI_clamp (by omega)]
            refine ⟨fun (c3 : B 9 j = B 9 i) => ?_, fun (c3 : ¬ B 9 j = B 9 i) => ?_⟩
            · rw [if_pos c3] at h9
              exact h9
            · rw [if_neg c3] at h9
              exact h9
      refine ab_run [4, 19] 100 oX5_unlike.1 (Nat.le_refl _) 4 ?_
      refine ⟨vp_d rfl, fun (c1 : B 2 3 ≤ nI i) => ?_, fun c1 => ?_⟩
      · rw [em] at c1
        exact absurd c1 (nI_lt_m (by omega) (by omega))
      exact inner i 0 (by omega)
  refine ab_run [4, 19] 100 oX5_unlike.1 (Nat.le_refl _) 0 ?_
  exact loop m 0 (by omega)
