-- ONE FAULT'S SHARE OF THE MODEL'S STEPS
theorem gsW_7 (act : Int32) (A : mA) (i j : Nat) : gsW act A i 7 j = if j = i then cbW act (A 2 (16 + 9 * i)) (upM A i) (A 8 i) (A 7 i) else A 7 j := by
  unfold gsW
  rw [mS_eq]
  rfl
theorem gsF_7 (act step : Int32) (i j : Nat) (q : mGA) : (gsF act step i q).2 7 j = if j = i then cbW act (q.2 2 (16 + 9 * i)) (upM q.2 i) (q.2 8 i) (q.2 7 i) else q.2 7 j := by
  unfold gsF
  split
  · show ckA (gsW act q.2 i) i 7 j = _
    unfold ckA
    rw [mS_ne _ _ _ (by decide)]
    exact gsW_7 act q.2 i j
  · exact gsW_7 act q.2 i j
theorem gsF_9 (act step : Int32) (i j : Nat) (q : mGA) : (gsF act step i q).2 9 j = @ite _ (j = i ∧ ckP act step q.1 q.2 i) (Classical.propDecidable _) (q.2 9 j + 1) (q.2 9 j) := by
  have e9 : gsW act q.2 i 9 = q.2 9 := mS_ne _ _ _ (by decide)
  unfold gsF
  by_cases hc : ckP act step q.1 q.2 i
  · rw [if_pos hc]
    show ckA (gsW act q.2 i) i 9 j = _
    unfold ckA
    rw [mS_eq, e9]
    show (if j = i then q.2 9 i + 1 else q.2 9 j) = _
    by_cases hj : j = i
    · subst hj
      rw [if_pos rfl, if_pos ⟨rfl, hc⟩]
    · rw [if_neg hj, if_neg (fun z => hj z.1)]
  · rw [if_neg hc, if_neg (fun z => hc z.2)]
    show gsW act q.2 i 9 j = _
    rw [e9]
theorem upM_2 {A B : mA} (h : B 2 = A 2) (i : Nat) : upM B i = upM A i := by
  unfold upM
  rw [h]
theorem ckP_congr {act step : Int32} {g g' : mG} {A A' : mA} {i : Nat} (h12 : g' 12 = g 12) (h2 : A' 2 = A 2) (h8 : A' 8 = A 8) (h7 : A' 7 i = A 7 i) : ckP act step g' A' i ↔ ckP act step g A i := by
  unfold ckP
  rw [h12, h2, h8, h7, upM_2 h2]
theorem gsN_7 (act step : Int32) (n j : Nat) (q : mGA) : (gsN act step n q).2 7 j = if j < n then cbW act (q.2 2 (16 + 9 * j)) (upM q.2 j) (q.2 8 j) (q.2 7 j) else q.2 7 j := by
  induction n with
  | zero => rfl
  | succ n ih =>
    show (gsF act step n (gsN act step n q)).2 7 j = _
    rw [gsF_7]
    have e2 := gsN_A act step n q (j := 2) (by decide) (by decide)
    have e8 := gsN_A act step n q (j := 8) (by decide) (by decide)
    by_cases hj : j = n
    · subst hj
      rw [if_pos rfl, if_pos (Nat.lt_succ_self j), e2, e8, upM_2 e2, ih, if_neg (Nat.lt_irrefl j)]
    · rw [if_neg hj, ih]
      by_cases hl : j < n
      · rw [if_pos hl, if_pos (by omega)]
      · rw [if_neg hl, if_neg (by omega)]
theorem gsN_ck (act step : Int32) (n : Nat) (q : mGA) : ckP act step (gsN act step n q).1 (gsN act step n q).2 n ↔ ckP act step q.1 q.2 n := by
  refine ckP_congr (gsN_g act step n q (by decide) (by decide) (by decide)) (gsN_A act step n q (by decide) (by decide)) (gsN_A act step n q (by decide) (by decide)) ?_
  rw [gsN_7, if_neg (Nat.lt_irrefl n)]
theorem gsN_9 (act step : Int32) (n j : Nat) (q : mGA) : (gsN act step n q).2 9 j = @ite _ (j < n ∧ ckP act step q.1 q.2 j) (Classical.propDecidable _) (q.2 9 j + 1) (q.2 9 j) := by
  induction n with
  | zero =>
    rw [if_neg (fun z => Nat.not_lt_zero j z.1)]
    rfl
  | succ n ih =>
    show (gsF act step n (gsN act step n q)).2 9 j = _
    rw [gsF_9]
    by_cases hj : j = n
    · subst hj
      have ihv : (gsN act step j q).2 9 j = q.2 9 j := by rw [ih, if_neg (fun z => Nat.lt_irrefl j z.1)]
      rw [ihv]
      by_cases hc : ckP act step q.1 q.2 j
      · have h1 : j = j ∧ ckP act step (gsN act step j q).1 (gsN act step j q).2 j := ⟨rfl, (gsN_ck act step j q).mpr hc⟩
        have h2 : j < j + 1 ∧ ckP act step q.1 q.2 j := ⟨Nat.lt_succ_self j, hc⟩
        rw [if_pos h1, if_pos h2]
      · have h1 : ¬ (j = j ∧ ckP act step (gsN act step j q).1 (gsN act step j q).2 j) := fun z => hc ((gsN_ck act step j q).mp z.2)
        have h2 : ¬ (j < j + 1 ∧ ckP act step q.1 q.2 j) := fun z => hc z.2
        rw [if_neg h1, if_neg h2]
    · have h1 : ¬ (j = n ∧ ckP act step (gsN act step n q).1 (gsN act step n q).2 n) := fun z => hj z.1
      rw [if_neg h1, ih]
      by_cases hc : j < n ∧ ckP act step q.1 q.2 j
      · have h2 : j < n + 1 ∧ ckP act step q.1 q.2 j := ⟨by omega, hc.2⟩
        rw [if_pos hc, if_pos h2]
      · have h2 : ¬ (j < n + 1 ∧ ckP act step q.1 q.2 j) := fun z => hc ⟨by omega, z.2⟩
        rw [if_neg hc, if_neg h2]
theorem ckH_19 (g : mG) (A : mA) (i : Nat) : ckH g A i 19 = if nI i = g 17 ∧ A 9 i = g 18 then g 13 else g 19 := by
  have e : ckG g A i 19 = if nI i = g 17 ∧ A 9 i = g 18 then g 13 else g 19 := by
    unfold ckG
    by_cases h : nI i = g 17 ∧ A 9 i = g 18
    · rw [if_pos h, if_pos h]
      rfl
    · rw [if_neg h, if_neg h]
  unfold ckH
  by_cases h : g 16 = 0
  · rw [if_pos h]
    exact e
  · rw [if_neg h]
    exact e
theorem gsN_19 (act step : Int32) (n j : Nat) (q : mGA) (hj8 : j < 8) (hn8 : n ≤ 8) (hask : q.1 17 = nI j) : (gsN act step n q).1 19 = @ite _ (j < n ∧ ckP act step q.1 q.2 j ∧ q.2 9 j = q.1 18) (Classical.propDecidable _) (q.1 13) (q.1 19) := by
  induction n with
  | zero =>
    rw [if_neg (fun z => Nat.not_lt_zero j z.1)]
    rfl
  | succ n ih =>
    have ih := ih (by omega)
    have e17 := gsN_g act step n q (k := 17) (by decide) (by decide) (by decide)
    have e18 := gsN_g act step n q (k := 18) (by decide) (by decide) (by decide)
    have e13 := gsN_g act step n q (k := 13) (by decide) (by decide) (by decide)
    show (gsF act step n (gsN act step n q)).1 19 = _
    unfold gsF
    by_cases hc : ckP act step (gsN act step n q).1 (gsN act step n q).2 n
    · rw [if_pos hc]
      show ckH (gsN act step n q).1 (gsW act (gsN act step n q).2 n) n 19 = _
      rw [ckH_19, e17, e18, e13, hask]
      have e9 : gsW act (gsN act step n q).2 n 9 n = q.2 9 n := by
        unfold gsW
        rw [mS_ne _ _ _ (by decide), gsN_9]
        have h0 : ¬ (n < n ∧ ckP act step q.1 q.2 n) := fun z => Nat.lt_irrefl n z.1
        rw [if_neg h0]
      rw [e9]
      have hc2 := (gsN_ck act step n q).mp hc
      by_cases hjn : j = n
      · subst hjn
        have ihv : (gsN act step j q).1 19 = q.1 19 := by
          have h0 : ¬ (j < j ∧ ckP act step q.1 q.2 j ∧ q.2 9 j = q.1 18) := fun z => Nat.lt_irrefl j z.1
          rw [ih, if_neg h0]
        rw [ihv]
        by_cases ht : q.2 9 j = q.1 18
        · have h1 : nI j = nI j ∧ q.2 9 j = q.1 18 := ⟨rfl, ht⟩
          have h2 : j < j + 1 ∧ ckP act step q.1 q.2 j ∧ q.2 9 j = q.1 18 := ⟨Nat.lt_succ_self j, hc2, ht⟩
          rw [if_pos h1, if_pos h2]
        · have h1 : ¬ (nI j = nI j ∧ q.2 9 j = q.1 18) := fun z => ht z.2
          have h2 : ¬ (j < j + 1 ∧ ckP act step q.1 q.2 j ∧ q.2 9 j = q.1 18) := fun z => ht z.2.2
          rw [if_neg h1, if_neg h2]
      · have h1 : ¬ (nI n = nI j ∧ q.2 9 n = q.1 18) := fun z => hjn ((nI_eq (by omega) (by omega)).mp z.1).symm
        rw [if_neg h1, ih]
        by_cases hl : j < n ∧ ckP act step q.1 q.2 j ∧ q.2 9 j = q.1 18
        · have h2 : j < n + 1 ∧ ckP act step q.1 q.2 j ∧ q.2 9 j = q.1 18 := ⟨by omega, hl.2⟩
          rw [if_pos hl, if_pos h2]
        · have h2 : ¬ (j < n + 1 ∧ ckP act step q.1 q.2 j ∧ q.2 9 j = q.1 18) := fun z => hl ⟨by omega, z.2⟩
          rw [if_neg hl, if_neg h2]
    · rw [if_neg hc]
      show (gsN act step n q).1 19 = _
      rw [ih]
      by_cases hl : j < n ∧ ckP act step q.1 q.2 j ∧ q.2 9 j = q.1 18
      · have h2 : j < n + 1 ∧ ckP act step q.1 q.2 j ∧ q.2 9 j = q.1 18 := ⟨by omega, hl.2⟩
        rw [if_pos hl, if_pos h2]
      · have h2 : ¬ (j < n + 1 ∧ ckP act step q.1 q.2 j ∧ q.2 9 j = q.1 18) := by
          intro z
          by_cases hjn : j = n
          · subst hjn
            exact hc ((gsN_ck act step j q).mpr z.2.1)
          · exact hl ⟨by omega, z.2⟩
        rw [if_neg hl, if_neg h2]
/-- where the fault j is after t steps of an act -/
def whT (act kind up by_ w0 : Int32) : Nat → Int32
  | 0 => w0
  | t + 1 => cbW act kind up by_ (whT act kind up by_ w0 t)
/-- whether it clicks in the step t -/
def ckT (act : Int32) (g : mG) (A : mA) (j t : Nat) : Prop := ¬ nowM (nI (t % 100)) (A 2 (16 + 9 * j)) (cbR act (A 2 (16 + 9 * j + 1)) (upM A j) (A 8 j) (whT act (A 2 (16 + 9 * j)) (upM A j) (A 8 j) (A 7 j) t)) = 0 ∧ limI (A 2 (16 + 9 * j)) (A 2 (16 + 9 * j + 2)) (g 12 + nI (t / 100)) ≤ loadI act (nI (t % 100)) (A 2 7) ∧ silM (A 2 (16 + 9 * j)) (g 12 + nI (t / 100)) (A 2 6) (A 2 10) (A 2 8) = 0
noncomputable def fsR (ck : Nat → Prop) : Nat → (Nat → Int32) → (Nat → Int32)
  | 0, r => r
  | t + 1, r => @ite _ (ck t) (Classical.propDecidable _) (clkR (fsR ck t r) t) (fsR ck t r)
/-- the model's numbers of the fault j behind t steps -/
def PJ (act : Int32) (g : mG) (A : mA) (j n t : Nat) (r : Nat → Int32) (q : mGA) : Prop :=
  q.2 7 j = whT act (A 2 (16 + 9 * j)) (upM A j) (A 8 j) (A 7 j) t ∧ q.2 9 j = fsR (ckT act g A j) t r 5 ∧ q.1 12 = g 12 + nI n ∧ q.1 13 = g 13 + nI t ∧ q.1 17 = g 17 ∧ q.1 18 = g 18 ∧ q.2 2 = A 2 ∧ q.2 8 = A 8 ∧ (g 17 = nI j → q.1 19 = fsR (ckT act g A j) t r 7)
theorem clkR_5 (r : Nat → Int32) (t : Nat) : clkR r t 5 = r 5 + 1 := rfl
theorem clkR_7 (r : Nat → Int32) (t : Nat) : clkR r t 7 = if r 5 = r 6 then r 4 + nI t else r 7 := by
  unfold clkR
  by_cases h : r 5 = r 6
  · rw [if_pos h, if_pos h]
    rfl
  · rw [if_neg h, if_neg h]
    rfl
theorem fsR_lo (ck : Nat → Prop) (t : Nat) (r : Nat → Int32) {k : Nat} (h5 : k ≠ 5) (h7 : k ≠ 7) : fsR ck t r k = r k := by
  induction t with
  | zero => rfl
  | succ t ih =>
    unfold fsR
    split
    · rw [clkR_lo _ _ h5 h7]
      exact ih
    · exact ih
theorem PJ_step {act : Int32} {g : mG} {A : mA} {j n t m i : Nat} {r : Nat → Int32} {q : mGA} (hj : j < m) (hm8 : m ≤ 8) (ht : t = 100 * n + i) (hi : i < 100) (h4 : r 4 = g 13) (h6 : r 6 = g 18) (h : PJ act g A j n t r q) : PJ act g A j n (t + 1) r (gsS m act (nI i) q) := by
  obtain ⟨p7, p9, p12, p13, p17, p18, p2, p8, p19⟩ := h
  have e1 : t % 100 = i := by omega
  have e2 : t / 100 = n := by omega
  have hck : ckP act (nI i) q.1 q.2 j ↔ ckT act g A j t := by
    unfold ckP ckT
    rw [p2, p8, p12, p7, upM_2 p2, e1, e2]
  have s12 := gsN_g act (nI i) m q (k := 12) (by decide) (by decide) (by decide)
  have s13 := gsN_g act (nI i) m q (k := 13) (by decide) (by decide) (by decide)
  have s17 := gsN_g act (nI i) m q (k := 17) (by decide) (by decide) (by decide)
  have s18 := gsN_g act (nI i) m q (k := 18) (by decide) (by decide) (by decide)
  refine ⟨?_, ?_, s12.trans p12, ?_, s17.trans p17, s18.trans p18, (gsN_A act (nI i) m q (by decide) (by decide)).trans p2, (gsN_A act (nI i) m q (by decide) (by decide)).trans p8, ?_⟩
  · show (gsN act (nI i) m q).2 7 j = _
    rw [gsN_7, if_pos hj, p2, p8, p7, upM_2 p2]
    rfl
  · show (gsN act (nI i) m q).2 9 j = _
    rw [gsN_9]
    unfold fsR
    by_cases hc : ckT act g A j t
    · rw [if_pos ⟨hj, hck.mpr hc⟩, if_pos hc, clkR_5, p9]
    · rw [if_neg (fun z => hc (hck.mp z.2)), if_neg hc, p9]
  · show (gsN act (nI i) m q).1 13 + 1 = _
    rw [s13, p13, nI_succ, Int32.add_assoc]
  · intro hask
    show (gsN act (nI i) m q).1 19 = _
    rw [gsN_19 act (nI i) m j q (by omega) hm8 (p17.trans hask)]
    unfold fsR
    by_cases hc : ckT act g A j t
    · rw [if_pos hc, clkR_7, fsR_lo (ckT act g A j) t r (k := 6) (by decide) (by decide), fsR_lo (ckT act g A j) t r (k := 4) (by decide) (by decide), h4, h6, p9, p18, p13, p19 hask]
      by_cases h5 : fsR (ckT act g A j) t r 5 = g 18
      · have h1 : j < m ∧ ckP act (nI i) q.1 q.2 j ∧ fsR (ckT act g A j) t r 5 = g 18 := ⟨hj, hck.mpr hc, h5⟩
        rw [if_pos h1, if_pos h5]
      · have h1 : ¬ (j < m ∧ ckP act (nI i) q.1 q.2 j ∧ fsR (ckT act g A j) t r 5 = g 18) := fun z => h5 z.2.2
        rw [if_neg h1, if_neg h5]
    · have h1 : ¬ (j < m ∧ ckP act (nI i) q.1 q.2 j ∧ q.2 9 j = q.1 18) := fun z => hc (hck.mp z.2.1)
      rw [if_neg h1, if_neg hc, p19 hask]
theorem PJ_turn {act : Int32} {g : mG} {A : mA} {j n m : Nat} {r : Nat → Int32} {q : mGA} (hj : j < m) (hm8 : m ≤ 8) (h4 : r 4 = g 13) (h6 : r 6 = g 18) (h : PJ act g A j n (100 * n) r q) (i : Nat) (hi : i ≤ 100) : PJ act g A j n (100 * n + i) r (tuN m act i q) := by
  induction i with
  | zero => exact h
  | succ i ih => exact PJ_step hj hm8 rfl (by omega) h4 h6 (ih (by omega))
theorem PJ_stage {act : Int32} {g : mG} {A : mA} {j m : Nat} {r : Nat → Int32} (hj : j < m) (hm8 : m ≤ 8) (h4 : r 4 = g 13) (h5 : r 5 = A 9 j) (h6 : r 6 = g 18) (h7 : r 7 = g 19) (n : Nat) : PJ act g A j n (100 * n) r (sgN m act n (g, A)) := by
  induction n with
  | zero =>
    refine ⟨rfl, h5.symm, ?_, ?_, rfl, rfl, rfl, rfl, fun _ => h7.symm⟩
    · show g 12 = g 12 + nI 0
      rw [nI_0]
      simp
    · show g 13 = g 13 + nI (100 * 0)
      rw [show 100 * 0 = 0 from rfl, nI_0]
      simp
  | succ n ih =>
    have h1 := PJ_turn hj hm8 h4 h6 ih 100 (Nat.le_refl _)
    obtain ⟨p7, p9, p12, p13, p17, p18, p2, p8, p19⟩ := h1
    refine ⟨p7, p9, ?_, p13, p17, p18, p2, p8, p19⟩
    show (tuN m act 100 (sgN m act n (g, A))).1 12 + 1 = _
    rw [p12, nI_succ, Int32.add_assoc]
