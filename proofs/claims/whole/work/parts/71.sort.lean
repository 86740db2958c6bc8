/-- minutes and weights of a bicycle -/
def miN (A : mA) (i : Nat) : Nat := (A 2 (16 + 9 * i + 4)).toNatClampNeg
theorem miN_ok {g : mG} {A x a : mA} {f : mF} (h : IV g A x a f) {m i : Nat} (em : A 2 3 = nI m) (hm : m ≤ 8) (hi : i < m) : A 2 (16 + 9 * i + 4) = nI (miN A i) ∧ f 20 i 4 = nI (miN A i) ∧ 1 ≤ miN A i ∧ miN A i ≤ 99 := by
  obtain ⟨hw, hv⟩ := IV_flt h em hm hi
  have h3 := hw.2.2.2.2.1
  have c := ti_clamp (x := A 2 (16 + 9 * i + 4)) (by omega)
  have e : A 2 (16 + 9 * i + 4) = nI (miN A i) := ti_nat (by omega)
  unfold miN at *
  exact ⟨e, (hv 4 (by decide)).symm.trans e, by omega, by omega⟩
/-- the order so far: the faults below i, each once, each ahead of those behind it -/
def Srt (p w : Nat → Nat) (o : Nat → Nat) (i : Nat) : Prop := (∀ u v, u < v → v < i → obf p w (o u) (o v)) ∧ (∀ k, k < i → o k < i) ∧ (∀ v, v < i → ∃ k, k < i ∧ o k = v)
theorem rt_trans {a1 w1 a2 w2 a3 w3 : Nat} (hw : 0 < w2) (h1 : a1 * w2 ≤ a2 * w1) (h2 : a2 * w3 ≤ a3 * w2) : a1 * w3 ≤ a3 * w1 := by
  refine Nat.le_of_mul_le_mul_right (c := w2) ?_ hw
  have h3 := Nat.mul_le_mul h1 (Nat.le_refl w3)
  have h4 := Nat.mul_le_mul h2 (Nat.le_refl w1)
  have e1 : a1 * w3 * w2 = a1 * w2 * w3 := Nat.mul_right_comm ..
  have e2 : a2 * w1 * w3 = a2 * w3 * w1 := Nat.mul_right_comm ..
  have e3 : a3 * w1 * w2 = a3 * w2 * w1 := Nat.mul_right_comm ..
  omega
def inO (o : Nat → Nat) (s i : Nat) : Nat → Nat := fun k => if k < s then o k else if k = s then i else o (k - 1)
theorem Srt_ins {p w o : Nat → Nat} {i s : Nat} (h : Srt p w o i) (hw : ∀ k, k < i → 0 < w (o k)) (hs : s ≤ i) (h1 : ∀ q, s ≤ q → q < i → p i * w (o q) < p (o q) * w i) (h2 : 0 < s → ¬ p i * w (o (s - 1)) < p (o (s - 1)) * w i) : Srt p w (inO o s i) (i + 1) := by
  obtain ⟨a1, a2, a3⟩ := h
  have lo : ∀ k, k < s → inO o s i k = o k := fun k hk => if_pos hk
  have at_ : inO o s i s = i := by
    unfold inO
    rw [if_neg (Nat.lt_irrefl s), if_pos rfl]
  have hi_ : ∀ k, s < k → inO o s i k = o (k - 1) := by
    intro k hk
    unfold inO
    rw [if_neg (by omega), if_neg (by omega)]
  have front : ∀ k, k < s → obf p w (o k) i := by
    intro k hk
    have hle : p (o k) * w i ≤ p i * w (o k) := by
      have hl := Nat.le_of_not_lt (h2 (by omega))
      by_cases q : k = s - 1
      · rw [q]; exact hl
      · have hb := obf_le (a1 k (s - 1) (by omega) (by omega))
        refine rt_trans (w2 := w (o (s - 1))) (a2 := p (o (s - 1))) (hw (s - 1) (by omega)) ?_ hl
        rw [Nat.mul_comm, Nat.mul_comm (p (o (s - 1)))]
        exact hb
    have := a2 k (by omega)
    unfold obf
    omega
  refine ⟨fun u v huv hv => ?_, fun k hk => ?_, fun v hv => ?_⟩
  · by_cases v1 : v < s
    · rw [lo u (by omega), lo v v1]
      exact a1 u v huv (by omega)
    by_cases v2 : v = s
    · rw [v2, at_, lo u (by omega)]
      exact front u (by omega)
    rw [hi_ v (by omega)]
    by_cases u1 : u < s
    · rw [lo u u1]
      exact a1 u (v - 1) (by omega) (by omega)
    by_cases u2 : u = s
    · rw [u2, at_]
      exact Or.inl (h1 (v - 1) (by omega) (by omega))
    · rw [hi_ u (by omega)]
      exact a1 (u - 1) (v - 1) (by omega) (by omega)
  · by_cases v1 : k < s
    · rw [lo k v1]
      have := a2 k (by omega)
      omega
    by_cases v2 : k = s
    · rw [v2, at_]
      omega
    · rw [hi_ k (by omega)]
      have := a2 (k - 1) (by omega)
      omega
  · by_cases q : v = i
    · exact ⟨s, by omega, by rw [at_, q]⟩
    · obtain ⟨k, hk, e⟩ := a3 v (by omega)
      by_cases k1 : k < s
      · exact ⟨k, by omega, by rw [lo k k1]; exact e⟩
      · exact ⟨k + 1, by omega, by rw [hi_ (k + 1) (by omega)]; exact e⟩
/-- the row while a place is made free at s -/
def shA (c : Nat → Int32) (s i : Nat) : Nat → Int32 := fun k => if s < k ∧ k ≤ i then c (k - 1) else c k
theorem shA_i (c : Nat → Int32) (i : Nat) : shA c i i = c := by
  funext k
  exact if_neg (by omega)
theorem shA_s (c : Nat → Int32) (s i : Nat) (hs : s < i) : upd (shA c (s + 1) i) (s + 1) (shA c (s + 1) i s) = shA c s i := by
  funext k
  by_cases q : k = s + 1
  · rw [q, upd_at]
    unfold shA
    rw [if_neg (by omega), if_pos (by omega)]
    rfl
  · rw [upd_ne q]
    unfold shA
    by_cases z : s + 1 < k ∧ k ≤ i
    · rw [if_pos z, if_pos (by omega)]
    · rw [if_neg z, if_neg (by omega)]
set_option maxRecDepth 100000 in
theorem x_order {g : mG} {A x a : mA} {f : mF} (h : IV g A x a f) {m : Nat} (em : A 2 3 = nI m) (hm : m ≤ 8) (d : Nat) (mb : Nat → AB) : ∃ (o : Nat → Nat) (c : Nat → Int32), Srt (miN A) (wtN A) o m ∧ (∀ k, k < m → c k = nI (o k)) ∧ ab_Ex (d + 2) 0 yX4_findLeastOrder [vR 13 0] (hX mb x a f) none (hX mb x (mS a 46 c) f) := by
  have exm : x 17 5 = nI m := by rw [← h.2.2.2.2.2.1.1.2.2.2.1]; exact em
  have loop : ∀ (k i : Nat) (o : Nat → Nat) (c : Nat → Int32), i + k = m → Srt (miN A) (wtN A) o i → (∀ q, q < i → c q = nI (o q)) → ∃ (o' : Nat → Nat) (c' : Nat → Int32), Srt (miN A) (wtN A) o' m ∧ (∀ q, q < m → c' q = nI (o' q)) ∧ ∀ (E : Nat × (Nat → Int32)) (lv2 : Lv), ab_W jX4_findLeastOrder (d + 1) E (hX mb x a f) 70 (fun v1 h1 => v1 = none ∧ h1 = hX mb x (mS a 46 c') f) (ab_at iX4_findLeastOrder 2) [(1, vI (nI i)), (0, vR 13 0)] [] (hX mb x (mS a 46 c) f) := by
    intro k
    induction k with
    | zero =>
      intro i o c hi hS hc
      have him : i = m := by omega
      subst him
      refine ⟨o, c, hS, hc, fun E _ => ?_⟩
      refine ab_run [2, 15, 70] 100 oX4_findLeastOrder.1 (Nat.le_refl _) 2 ?_
      refine ⟨fun _ => ⟨rfl, rfl⟩, fun (c1 : ¬ x 17 5 ≤ nI i) => ?_⟩
      rw [exm] at c1
      exact absurd (nI_le (by omega) (by omega)) c1
    | succ k ih =>
      intro i o c hi hS hc
      have hwp : ∀ q, q < i → 0 < wtN A (o q) := fun q hq => (wtN_ok h em hm (by have := hS.2.1 q hq; omega)).2.2.1
      obtain ⟨p1, p2, p3, p4⟩ := miN_ok h em hm (i := i) (by omega)
      obtain ⟨w1, w2, w3, w4⟩ := wtN_ok h em hm (i := i) (by omega)
      -- the place that is found
      have slot : ∀ (s : Nat), s ≤ i → (∀ q, s ≤ q → q < i → miN A i * wtN A (o q) < miN A (o q) * wtN A i) → ∃ (o' : Nat → Nat) (c' : Nat → Int32), Srt (miN A) (wtN A) o' m ∧ (∀ q, q < m → c' q = nI (o' q)) ∧ ∀ (E : Nat × (Nat → Int32)), ab_W jX4_findLeastOrder (d + 1) E (hX mb x a f) 70 (fun v1 h1 => v1 = none ∧ h1 = hX mb x (mS a 46 c') f) (ab_at iX4_findLeastOrder 15) [(2, vI (nI s)), (1, vI (nI i)), (0, vR 13 0)] [] (hX mb x (mS a 46 (shA c s i)) f) := by
        have fin : ∀ (s : Nat), s ≤ i → (∀ q, s ≤ q → q < i → miN A i * wtN A (o q) < miN A (o q) * wtN A i) → (0 < s → ¬ miN A i * wtN A (o (s - 1)) < miN A (o (s - 1)) * wtN A i) → ∃ (o' : Nat → Nat) (c' : Nat → Int32), Srt (miN A) (wtN A) o' m ∧ (∀ q, q < m → c' q = nI (o' q)) ∧ ∀ (E : Nat × (Nat → Int32)), ab_W jX4_findLeastOrder (d + 1) E (hX mb x a f) 70 (fun v1 h1 => v1 = none ∧ h1 = hX mb x (mS a 46 c') f) (ab_at iX4_findLeastOrder 70) [(2, vI (nI s)), (1, vI (nI i)), (0, vR 13 0)] [] (hX mb x (mS a 46 (shA c s i)) f) := by
          intro s hs h1 h2
          obtain ⟨o', c', k1, k2, hW⟩ := ih (i + 1) (inO o s i) (upd (shA c s i) s (nI i)) (by omega) (Srt_ins hS hwp hs h1 h2) (by
            intro q hq
            by_cases e : q = s
            · rw [e, upd_at]
              unfold inO
              rw [if_neg (Nat.lt_irrefl s), if_pos rfl]
            · rw [upd_ne e]
              unfold shA inO
              by_cases z : s < q ∧ q ≤ i
              · rw [if_pos z, if_neg (by omega), if_neg e]
                exact hc (q - 1) (by omega)
              · rw [if_neg z, if_pos (by omega)]
                exact hc q (by omega))
          refine ⟨o', c', k1, k2, fun E => ?_⟩
          refine ab_run [2, 15, 70] 100 oX4_findLeastOrder.1 (Nat.le_refl _) 70 ?_
          refine ⟨(vp_in_nI (by omega) (by omega) : vp_in (nI s) 8), ?_⟩
          rw [nI_clamp (by omega)]
          have h9 := hW E []
          rw [nI_succ] at h9
          exact ab_W_lv (lv_pk [0, 2] rfl) h9
        intro s
        induction s with
        | zero =>
          intro hs h1
          obtain ⟨o', c', k1, k2, hW⟩ := fin 0 hs h1 (fun z => absurd z (Nat.lt_irrefl 0))
          refine ⟨o', c', k1, k2, fun E => ?_⟩
          refine ab_run [2, 15, 70] 100 oX4_findLeastOrder.1 (Nat.le_refl _) 15 ?_
          refine ⟨fun _ => hW E, fun c1 => absurd (Int32.le_refl _) c1⟩
        | succ s ihs =>
          intro hs h1
          have hos := hS.2.1 s (by omega)
          have e0 : shA c (s + 1) i s = nI (o s) := by
            unfold shA
            rw [if_neg (by omega)]
            exact hc s (by omega)
          obtain ⟨q1, q2, q3, q4⟩ := miN_ok h em hm (i := o s) (by omega)
          obtain ⟨r1, r2, r3, r4⟩ := wtN_ok h em hm (i := o s) (by omega)
          have hA := f_goesAhead d (h := hX mb x (mS a 46 (shA c (s + 1) i)) f) (b := 20) (o := i) (v := f 20 i) (b2 := 20) (o2 := o s) (v2 := f 20 (o s)) (Nat.le_refl _) (hX_ok20 _ _ _ _ (by omega)) rfl (hX_ok20 _ _ _ _ (by omega)) rfl
          have m1 : miN A i * wtN A (o s) ≤ 99 * 99 := Nat.mul_le_mul p4 r4
          have m2 : miN A (o s) * wtN A i ≤ 99 * 99 := Nat.mul_le_mul q4 w4
          rw [p2, r2, q2, w2, pk_mul, pk_mul] at hA
          have hlt := nI_ltI (a := miN A i * wtN A (o s)) (b := miN A (o s) * wtN A i) (by omega) (by omega)
          have e1 : nI (s + 1) - 1 = nI s := nI_pred s
          by_cases c2 : miN A i * wtN A (o s) < miN A (o s) * wtN A i
          · obtain ⟨o', c', k1, k2, hW⟩ := ihs (by omega) (by
              intro q h3 h4
              by_cases e : q = s
              · rw [e]; exact c2
              · exact h1 q (by omega) h4)
            refine ⟨o', c', k1, k2, fun E => ?_⟩
            have h9 := hW E
            rw [← shA_s c s i (by omega), e0] at h9
            generalize shA c (s + 1) i = cc at hA e0 h9 ⊢
            refine ab_run [2, 15, 70] 100 oX4_findLeastOrder.1 (Nat.le_refl _) 15 ?_
            refine ⟨fun c1 => absurd c1 (nI_nle (by omega) (by omega)), fun _ => ?_⟩
            refine ⟨vp_in_nI (by omega) (by omega), ⟨(20, i), by rw [nI_clamp (by omega)]; exact ab_fa_at 20 (by omega), ?_⟩⟩
            refine ⟨(by rw [e1]; exact vp_in_nI (by omega) (by omega) : vp_in (nI (s + 1) - 1) 8), ?_⟩
            have ea : cc (nI (s + 1) - 1).toNatClampNeg = nI (o s) := by rw [e1, nI_clamp (by omega)]; exact e0
            refine ⟨(by rw [show (mS a 46 cc) 46 = cc from mS_eq _ _ _, ea]; exact vp_in_nI (by omega) (by omega) : vp_in ((mS a 46 cc) 46 (nI (s + 1) - 1).toNatClampNeg) 8), ⟨(20, o s), (show ab_fa 20 (cc (nI (s + 1) - 1).toNatClampNeg).toNatClampNeg = vR 20 (o s) by rw [ea, nI_clamp (by omega)]; exact ab_fa_at 20 (by omega)), ?_⟩⟩
            refine ⟨ck20 (by omega), ?_⟩
            refine ⟨_, _, hA, Nat.le_refl _, ?_⟩
            refine br_z (fun c3 => absurd (hlt.mpr c2) c3) (fun _ => ?_)
            refine ⟨(by rw [e1]; exact vp_in_nI (by omega) (by omega) : vp_in (nI (s + 1) - 1) 8), (vp_in_nI (by omega) (by omega) : vp_in (nI (s + 1)) 8), ?_⟩
            rw [nI_clamp (by omega)]
            rw [← ea, ← pk_m1 s] at h9
            exact h9
          · obtain ⟨o', c', k1, k2, hW⟩ := fin (s + 1) hs h1 (fun _ => c2)
            refine ⟨o', c', k1, k2, fun E => ?_⟩
            have h9 := hW E
            generalize shA c (s + 1) i = cc at hA e0 h9 ⊢
            refine ab_run [2, 15, 70] 100 oX4_findLeastOrder.1 (Nat.le_refl _) 15 ?_
            refine ⟨fun c1 => absurd c1 (nI_nle (by omega) (by omega)), fun _ => ?_⟩
            refine ⟨vp_in_nI (by omega) (by omega), ⟨(20, i), by rw [nI_clamp (by omega)]; exact ab_fa_at 20 (by omega), ?_⟩⟩
            refine ⟨(by rw [e1]; exact vp_in_nI (by omega) (by omega) : vp_in (nI (s + 1) - 1) 8), ?_⟩
            have ea : cc (nI (s + 1) - 1).toNatClampNeg = nI (o s) := by rw [e1, nI_clamp (by omega)]; exact e0
            refine ⟨(by rw [show (mS a 46 cc) 46 = cc from mS_eq _ _ _, ea]; exact vp_in_nI (by omega) (by omega) : vp_in ((mS a 46 cc) 46 (nI (s + 1) - 1).toNatClampNeg) 8), ⟨(20, o s), (show ab_fa 20 (cc (nI (s + 1) - 1).toNatClampNeg).toNatClampNeg = vR 20 (o s) by rw [ea, nI_clamp (by omega)]; exact ab_fa_at 20 (by omega)), ?_⟩⟩
            refine ⟨ck20 (by omega), ?_⟩
            refine ⟨_, _, hA, Nat.le_refl _, ?_⟩
            exact br_z (fun _ => h9) (fun c3 => absurd (hlt.mp c3) c2)
      obtain ⟨o', c', k1, k2, hW⟩ := slot i (Nat.le_refl _) (fun q h1 h2 => by omega)
      rw [shA_i] at hW
      refine ⟨o', c', k1, k2, fun E _ => ?_⟩
      refine ab_run [2, 15, 70] 100 oX4_findLeastOrder.1 (Nat.le_refl _) 2 ?_
      refine ⟨fun (c1 : x 17 5 ≤ nI i) => ?_, fun _ => ?_⟩
      · rw [exm] at c1
        exact absurd c1 (nI_lt_m (by omega) (by omega))
      exact hW E
  obtain ⟨o, c, k1, k2, hW⟩ := loop m 0 (fun _ => 0) (a 46) (by omega) ⟨fun u v _ hv => absurd hv (Nat.not_lt_zero v), fun k hk => absurd hk (Nat.not_lt_zero k), fun v hv => absurd hv (Nat.not_lt_zero v)⟩ (fun q hq => absurd hq (Nat.not_lt_zero q))
  refine ⟨o, c, k1, k2, ?_⟩
  refine ab_meth oX4_findLeastOrder (d + 1) _ _ _ _ (Nat.le_refl _) rfl (fun E => ?_)
  refine ab_run [2, 15, 70] 100 oX4_findLeastOrder.1 (Nat.le_refl _) 0 ?_
  have := hW E []
  rw [mS_id] at this
  exact this
