theorem il_t {a b : Int32} (h : a ≤ b) : a.toInt ≤ b.toInt := Int32.le_iff_toInt_le.mp h
theorem stL_3 (P L : Nat → Int32) (p : Nat) : stL P L p 3 = P p := by
  unfold stL
  split
  · rfl
  · rfl
theorem stL_4 {P L : Nat → Int32} {p : Nat} (h : P p = 113) : stL P L p 4 = kinI (P (p + 1)) (-1) := by
  unfold stL
  rw [if_pos h]
  rfl
theorem step_both {P : Nat → Int32} {p : Nat} {g : mG} {A x a : mA} {f : mF} {L N T : Nat → Int32} (hL3 : L 3 = P p) (hL4 : P p = 113 → L 4 = kinI (P (p + 1)) (-1)) (hS : SQ P p N T) (hW : WF (A 4)) (hB : BR (A 4) x a f 25) : ∃ (r : Int32) (s' : Nat → Int32) (x' a' : mA) (f' : mF), (∀ (mb : Nat → AB) (q : Nat), ab_Ex 38 0 yX0_takeStatement [vR 25 0, vR 14 0] (tH mb x a f L N q) (some (vI r)) (tH mb x' a' f' L N q)) ∧ (∀ (xs : List AB) (q : Nat), ab_Ex 38 0 yX5_comes [vR 0 0, vI (P p)] (mH g A xs T q) (some (vI r)) (mH g (mS A 4 s') xs T q)) ∧ (∀ k, k ≠ 25 → x' k = x k) ∧ (∀ k, k ≠ 26 → a' k = a k) ∧ (∀ k, k ≠ 28 → f' k = f k) ∧ (r = 0 ∨ r = 1 ∧ WF s' ∧ BR s' x' a' f' 25) := by
  have hb1 := hB.1
  have hw1 := hW.1
  have idx : ∀ k, k ≠ 25 → x k = x k := fun _ _ => rfl
  have ida : ∀ k, k ≠ 26 → a k = a k := fun _ _ => rfl
  have idf : ∀ k, k ≠ 28 → f k = f k := fun _ _ => rfl
  have ms : ∀ xs q, mH g A xs T q = mH g (mS A 4 (A 4)) xs T q := fun xs q => by rw [mS_id]
  by_cases h113 : P p = 113
  · obtain ⟨k1, k2, k3, t0, ⟨n1, n2, n3, n4⟩, r1, r2, r3, r4, b1, b2⟩ := hS.1 h113
    have hL4 := (hL4 h113).trans k1
    rw [h113]
    generalize kinI (P (p + 1)) (-9) = kd at *
    have hT : ∀ k, k < 7 → T k = bcW (L 4) N k := by
      rw [hL4]
      intro k hk
      rcases (show k = 0 ∨ k = 1 ∨ k = 2 ∨ k = 3 ∨ k = 4 ∨ k = 5 ∨ k = 6 by omega) with z | z | z | z | z | z | z
      · rw [z, t0]
        rfl
      · rw [z, ← n1]
        rfl
      · rw [z, ← n2]
        rfl
      · rw [z, ← n3]
        rfl
      · rw [z, ← n4]
        rfl
      · rw [z]
        by_cases hk1 : kd = 1
        · rw [← (b1 hk1).1]
          exact (if_pos hk1).symm
        · rw [(b2 hk1).1]
          exact (if_neg hk1).symm
      · rw [z]
        by_cases hk1 : kd = 1
        · rw [← (b1 hk1).2]
          exact (if_pos hk1).symm
        · rw [(b2 hk1).2]
          exact (if_neg hk1).symm
    have hq : bcO (bcW (L 4) N) ↔ tQ T := by
      unfold tQ
      rw [hT 3 (by omega), hT 4 (by omega), hT 5 (by omega), hT 6 (by omega)]
    have c := ti_clamp (x := A 4 3) hw1.2.2.2.1.1
    have cc := hw1.2.2.2.1.2
    have e3 := ti_nat (x := A 4 3) hw1.2.2.2.1.1
    have hm : (A 4 3).toNatClampNeg ≤ 8 := by omega
    generalize (A 4 3).toNatClampNeg = m at e3 hm
    have x5 : x 25 5 = nI m := hb1.2.2.2.1.symm.trans e3
    have l1 : ¬ L 3 = 102 := by rw [hL3, h113]; decide
    have l2 : ¬ L 3 = 107 := by rw [hL3, h113]; decide
    have l3 : ¬ L 3 = 114 := by rw [hL3, h113]; decide
    rcases Nat.lt_or_ge m 8 with m8 | m8
    · by_cases q : tQ T
      · refine ⟨1, qN (A 4) T m, mS x 25 (upd (x 25) 5 (nI (m + 1))), a, fS f 28 m (bcW (L 4) N), fun mb z => ?_, fun xs z => ?_, fun k hk => mS_ne _ _ _ hk, ida, fun k hk => if_neg hk, Or.inr ⟨rfl, ?_, ?_⟩⟩
        · have h1 := x_addFault 35 mb x a f L N z m8 x5
          rw [bI_t (hq.mpr q), if_pos (hq.mpr q)] at h1
          exact x_tkQ 35 mb x a f L N z l1 l2 l3 (Or.inr rfl) h1
        · exact m_tkQ1 36 g A xs T z m8 e3 q
        · obtain ⟨q3, q4, ⟨q5, q5'⟩, q6, q6'⟩ := q
          refine WF_q m8 e3 ⟨?_, r1, r2, ⟨il_t q3, r3.2⟩, ⟨il_t q4, r4.2⟩, ⟨il_t q5, il_t q5'⟩, il_t q6, il_t q6'⟩ hW
          rw [t0]
          exact ⟨k2, k3⟩
        · exact BR_q m8 e3 hT hB
      · refine ⟨0, A 4, x, a, fS f 28 m (bcW (L 4) N), fun mb z => ?_, fun xs z => ?_, idx, ida, fun k hk => if_neg hk, Or.inl rfl⟩
        · have h1 := x_addFault 35 mb x a f L N z m8 x5
          rw [bI_f (fun z => q (hq.mp z)), if_neg (fun z => q (hq.mp z))] at h1
          exact x_tkQ 35 mb x a f L N z l1 l2 l3 (Or.inl rfl) h1
        · rw [mS_id]
          exact m_tkQ0 36 g A xs T z hm e3 (fun z => q z.2)
    · refine ⟨0, A 4, x, a, f, fun mb z => ?_, fun xs z => ?_, idx, ida, idf, Or.inl rfl⟩
      · exact x_tkQ 35 mb x a f L N z l1 l2 l3 (Or.inl rfl) (x_addFault8 35 mb x a f L N z (x5.trans (by rw [show m = 8 by omega])))
      · rw [mS_id]
        exact m_tkQ0 36 g A xs T z hm e3 (fun z => by omega)
  obtain ⟨hc, hN⟩ := hS.2 h113
  rcases hc with h | h | h
  · rw [h]
    refine ⟨bI (20 ≤ T 0 ∧ T 0 ≤ 60), upd (A 4) 0 (T 0), mS x 25 (upd (x 25) 0 (T 0)), a, f, fun mb z => ?_, fun xs z => ?_, fun k hk => mS_ne _ _ _ hk, ida, idf, ?_⟩
    · have h1 := x_tkF 35 mb x a f L N z (hL3.trans h)
      rw [hN] at h1
      exact h1
    · exact m_tkF 36 g A xs T z
    · by_cases q : 20 ≤ T 0 ∧ T 0 ≤ 60
      · refine Or.inr ⟨bI_t q, ?_, ?_⟩
        · exact WF_01 ⟨il_t q.1, il_t q.2⟩ hw1.2.1 (fun k hk => upd_ne (by omega)) hW
        · exact BR_01 rfl hb1.2.1 (fun k hk => by rw [mS_eq, upd_ne (by omega)]) (fun k hk => upd_ne (by omega)) hB
      · exact Or.inl (bI_f q)
  · rw [h]
    refine ⟨bI (60 ≤ T 0 ∧ T 0 ≤ 140), upd (A 4) 1 (T 0), mS x 25 (upd (x 25) 1 (T 0)), a, f, fun mb z => ?_, fun xs z => ?_, fun k hk => mS_ne _ _ _ hk, ida, idf, ?_⟩
    · have h1 := x_tkK 35 mb x a f L N z (hL3.trans h)
      rw [hN] at h1
      exact h1
    · exact m_tkK 36 g A xs T z
    · by_cases q : 60 ≤ T 0 ∧ T 0 ≤ 140
      · refine Or.inr ⟨bI_t q, ?_, ?_⟩
        · exact WF_01 hw1.1 ⟨il_t q.1, il_t q.2⟩ (fun k hk => upd_ne (by omega)) hW
        · exact BR_01 hb1.1 rfl (fun k hk => by rw [mS_eq, upd_ne (by omega)]) (fun k hk => upd_ne (by omega)) hB
      · exact Or.inl (bI_f q)
  · rw [h]
    have c := ti_clamp (x := A 4 2) hw1.2.2.1.1
    have cc := hw1.2.2.1.2
    have e2 := ti_nat (x := A 4 2) hw1.2.2.1.1
    have hm : (A 4 2).toNatClampNeg ≤ 5 := by omega
    generalize (A 4 2).toNatClampNeg = m at e2 hm
    have x3 : x 25 3 = nI m := hb1.2.2.1.symm.trans e2
    by_cases q : m < 5 ∧ 10 ≤ T 0 ∧ T 0 ≤ 40
    · refine ⟨1, upd (upd (A 4) (11 + m) (T 0)) 2 (nI (m + 1)), mS x 25 (upd (x 25) 3 (nI (m + 1))), mS a 26 (upd (a 26) m (T 0)), f, fun mb z => ?_, fun xs z => ?_, fun k hk => mS_ne _ _ _ hk, fun k hk => mS_ne _ _ _ hk, idf, Or.inr ⟨rfl, ?_, ?_⟩⟩
      · refine x_tkR 35 mb x a f L N z (hL3.trans h) (Or.inr rfl) ?_
        rw [hN]
        exact x_addCog1 36 mb x a f L N z q.1 x3 q.2.1 q.2.2
      · exact m_tkR1 36 g A xs T z q.1 e2 q.2
      · exact WF_r q.1 e2 ⟨il_t q.2.1, il_t q.2.2⟩ hW
      · exact BR_r q.1 e2 hB
    · refine ⟨0, A 4, x, a, f, fun mb z => ?_, fun xs z => ?_, idx, ida, idf, Or.inl rfl⟩
      · refine x_tkR 35 mb x a f L N z (hL3.trans h) (Or.inl rfl) ?_
        rw [hN]
        exact x_addCog0 36 mb x a f L N z hm x3 q
      · rw [mS_id]
        exact m_tkR0 36 g A xs T z hm e2 q
theorem fmR_c {P : Nat → Int32} {n : Nat} : ∀ (k p i c : Nat), (fmR P n k p i).1 = some c → i < c ∧ c ≤ i + k := by
  intro k
  induction k with
  | zero => intro p i c h; exact nomatch h
  | succ k ih =>
    intro p i c h
    unfold fmR at h
    by_cases q : sK P p = 1
    · rw [if_pos q] at h
      by_cases e : n ≤ sP P p
      · rw [if_pos e] at h
        have := Option.some.inj h
        omega
      · rw [if_neg e] at h
        have := ih _ _ _ h
        omega
    · rw [if_neg q] at h
      exact nomatch h
theorem fmR_le {t : Nat → Int32} {n : Nat} : ∀ (k p i : Nat), p ≤ n → (fmR (pk t n) n k p i).2 ≤ n := by
  intro k
  induction k with
  | zero => intro p i h; exact h
  | succ k ih =>
    intro p i h
    obtain ⟨-, o2, -⟩ := sP_ok (t := t) h
    unfold fmR
    by_cases q : sK (pk t n) p = 1
    · rw [if_pos q]
      by_cases e : n ≤ sP (pk t n) p
      · rw [if_pos e]
        exact o2
      · rw [if_neg e]
        exact ih _ _ o2
    · rw [if_neg q]
      exact o2
