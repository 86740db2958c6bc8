/-- the rider (w, r) and the model's fault j, as a stage begins -/
def SJ (g : mG) (A : mA) (j : Nat) (w r : Nat → Int32) : Prop :=
  (w 0 = A 2 (16 + 9 * j) ∧ w 1 = A 2 (16 + 9 * j + 1) ∧ w 2 = A 2 (16 + 9 * j + 2)) ∧ w 7 = A 7 j ∧ w 8 = A 8 j ∧ r 2 = upM A j ∧ r 3 = g 12 ∧ r 4 = g 13 ∧ r 5 = A 9 j
theorem ok_eq {act : Int32} {g : mG} {A : mA} {j : Nat} {w r : Nat → Int32} {oiled oil shoe hill : Int32} (hS : SJ g A j w r) (h1 : oiled = A 2 6) (h2 : oil = A 2 10) (h3 : shoe = A 2 8) (h4 : hill = A 2 7) (hs : A 2 8 = 0 ∨ A 2 8 = 1) (hl1 : 0 ≤ (w 2).toInt) (hl2 : (w 2).toInt ≤ 9) (ht1 : 0 ≤ (g 12).toInt) (ht2 : (g 12).toInt ≤ 20000) {t : Nat} (ht : t < 6000) : okP act (r 3) w oiled oil shoe hill t ↔ (limI (A 2 (16 + 9 * j)) (A 2 (16 + 9 * j + 2)) (g 12 + nI (t / 100)) ≤ loadI act (nI (t % 100)) (A 2 7) ∧ silM (A 2 (16 + 9 * j)) (g 12 + nI (t / 100)) (A 2 6) (A 2 10) (A 2 8) = 0) := by
  obtain ⟨⟨w0, w1, w2⟩, w7, w8, r2, r3, r4, r5⟩ := hS
  have e1 : nI t / 100 = nI (t / 100) := pk_div (d := 100) (by omega) (by omega) (by omega)
  have e2 : ab_rem (nI t) 100 = nI (t % 100) := pk_rem (d := 100) (by omega) (by omega) (by omega)
  have e3 : (g 12 + nI (t / 100)).toInt = (g 12).toInt + (t / 100 : Nat) := ti_add rfl (nI_toInt (by omega)) (by omega) (by omega)
  unfold okP
  rw [e1, e2, h1, h2, h3, h4, r3, sil_eq hs, lim_eq hl1 hl2 (by omega) (by omega), w0, w2]
  exact And.comm
theorem psR_eq {act : Int32} {g : mG} {A : mA} {j T : Nat} {w r : Nat → Int32} {oiled oil shoe hill : Int32} (hS : SJ g A j w r) (hRO : RO w r) (h1 : oiled = A 2 6) (h2 : oil = A 2 10) (h3 : shoe = A 2 8) (h4 : hill = A 2 7) (hs : A 2 8 = 0 ∨ A 2 8 = 1) (hl1 : 0 ≤ (w 2).toInt) (hl2 : (w 2).toInt ≤ 9) (ht1 : 0 ≤ (g 12).toInt) (ht2 : (g 12).toInt ≤ 20000) (hT : T ≤ 60) (ha1 : 0 ≤ act.toInt) (ha2 : act.toInt ≤ 5) : psR (okP act (r 3) w oiled oil shoe hill) act T w r = fsR (ckT act g A j) (100 * T) r := by
  have hok := fun {t : Nat} (ht : t < 6000) => ok_eq (act := act) (t := t) hS h1 h2 h3 h4 hs hl1 hl2 ht1 ht2 ht
  obtain ⟨⟨w0, w1, w2⟩, w7, w8, r2, r3, r4, r5⟩ := hS
  obtain ⟨e1, e2, e3⟩ := RO_wrap hRO
  obtain ⟨⟨a1, a2⟩, ⟨b1, b2⟩, ⟨c1, c2⟩, d1, d2⟩ := hRO
  unfold psR
  by_cases hk : w 0 = 4
  · rw [if_pos hk]
    have h := lis_fs (ok := okP act (r 3) w oiled oil shoe hill) (ck := ckT act g A j) (u := 1) (R := 50) (N := T * 100) (by decide) (by decide) (C := fun p => p % 50 = 25) (fun p hp => by omega) (fun t p ht q1 q2 q3 => by
      have hq := hok (t := t) (by omega)
      unfold ckT
      rw [hq, nowM, ← w0, if_pos hk]
      have hn : (¬ bI (nI (t % 100) = 25 ∨ nI (t % 100) = 75) = 0) ↔ p < (t + 1) * 1 := by
        have i1 : nI (t % 100) = 25 ↔ t % 100 = 25 := nI_eq (b := 25) (by omega) (by omega)
        have i2 : nI (t % 100) = 75 ↔ t % 100 = 75 := nI_eq (b := 75) (by omega) (by omega)
        by_cases hh : nI (t % 100) = 25 ∨ nI (t % 100) = 75
        · rw [bI_t hh]
          have hh2 : t % 100 = 25 ∨ t % 100 = 75 := hh.elim (fun z => Or.inl (i1.mp z)) (fun z => Or.inr (i2.mp z))
          exact ⟨fun _ => by omega, fun _ => by decide⟩
        · rw [bI_f hh]
          have hh2 : ¬ (t % 100 = 25 ∨ t % 100 = 75) := fun z => hh (z.elim (fun z => Or.inl (i1.mpr z)) (fun z => Or.inr (i2.mpr z)))
          exact ⟨fun z => absurd rfl z, fun z => by omega⟩
      rw [hn]) r (T * 100) 0 25 (T * 100 * 1 + 1) (by omega) (by omega) (by omega) (by decide) (by omega)
    rw [show 100 * T = T * 100 from Nat.mul_comm _ _]
    exact h
  · rw [if_neg hk]
    by_cases h4 : act < 4
    · rw [if_pos h4]
      have h4i := (lt_ti (x := act) rfl (show (4 : Int32).toInt = 4 from rfl)).mp h4
      have na4 : ¬ act = 4 := fun z => by rw [z] at h4i; exact absurd h4i (by decide)
      have na5 : ¬ act = 5 := fun z => by rw [z] at h4i; exact absurd h4i (by decide)
      have n1 := ti_clamp (x := r 2) (by omega)
      have n2 := ti_clamp (x := 100 * w 8) (by omega)
      have m8 := ti_clamp (x := w 8) (by omega)
      have m7 := ti_clamp (x := w 7) (by omega)
      have m1 := ti_clamp (x := w 1) (by omega)
      have q3 := Int.emod_nonneg ((w 1).toInt * (w 8).toInt - (w 7).toInt - 1) (show 100 * (w 8).toInt ≠ 0 by omega)
      have q4 := Int.emod_lt_of_pos ((w 1).toInt * (w 8).toInt - (w 7).toInt - 1) (show 0 < 100 * (w 8).toInt by omega)
      have n3 := ti_clamp (x := wrapI (w 1 * w 8 - w 7 - 1) (100 * w 8)) (by omega)
      have hR : (100 * w 8).toNatClampNeg = 100 * (w 8).toNatClampNeg := by omega
      rw [hR]
      generalize hu : (r 2).toNatClampNeg = u at n1 ⊢
      generalize hD : (w 8).toNatClampNeg = D at m8 ⊢
      generalize hW : (w 7).toNatClampNeg = W at m7
      generalize hP : (w 1).toNatClampNeg = P at m1
      generalize hp0 : (wrapI (w 1 * w 8 - w 7 - 1) (100 * w 8)).toNatClampNeg = p0 at n3 ⊢
      have hC0 : ∃ b : Int, (p0 : Int) + 1 + W = (P * D : Nat) + ((100 * D : Nat) : Int) * b := by
        refine ⟨-(((w 1).toInt * (w 8).toInt - (w 7).toInt - 1) / (100 * (w 8).toInt)), ?_⟩
        have h9 := Int.emod_add_mul_ediv ((w 1).toInt * (w 8).toInt - (w 7).toInt - 1) (100 * (w 8).toInt)
        rw [← e3, ← n3] at h9
        have hRR : ((100 * D : Nat) : Int) = 100 * (w 8).toInt := by omega
        rw [hRR, Int.mul_neg, Int.natCast_mul, m1, m8, m7]
        omega
      have h := lis_fs (ok := okP act (r 3) w oiled oil shoe hill) (ck := ckT act g A j) (u := u) (R := 100 * D) (N := T * 100) (by omega) (by omega) (C := fun p => ∃ b : Int, (p : Int) + 1 + W = (P * D : Nat) + ((100 * D : Nat) : Int) * b) (fun p hp => by
          obtain ⟨b, hb⟩ := hp
          refine ⟨b + 1, ?_⟩
          rw [Int.mul_add, Int.mul_one, ← Int.add_assoc, ← hb, Int.natCast_add]
          omega) (fun t p ht q1 q2 q3 => by
          have hq := hok (t := t) (by omega)
          have ew : (whT act (A 2 (16 + 9 * j)) (upM A j) (A 8 j) (A 7 j) t).toInt = (((W + t * u) % (100 * D) : Nat) : Int) := whT_on na4 na5 (by rw [← r2]; exact n1.symm) (by rw [← w8]; exact m8.symm) (by rw [← w7]; exact m7.symm) (by omega) (by omega) (by omega) (by omega) t
          have ea := ahd_eq (place := A 2 (16 + 9 * j + 1)) (by_ := A 8 j) (c := P * D) (pl := P) (by rw [← w1]; exact m1.symm) (by rw [← w8]; exact m8.symm) rfl (by omega) (by omega) (by omega) ew q3 q1 q2
          unfold ckT
          rw [hq, nowM, ← w0, if_neg hk, cbR, if_neg na5, if_neg na4]
          have hn : (¬ bI (ahdI (A 2 (16 + 9 * j + 1)) (A 8 j) (whT act (w 0) (upM A j) (A 8 j) (A 7 j) t) ≤ upM A j) = 0) ↔ p < (t + 1) * u := by
            rw [← w0] at ea
            have i1 := le_ti ea (show (upM A j).toInt = (u : Int) by rw [← r2]; exact n1.symm)
            have i2 : (t + 1) * u = t * u + u := Nat.succ_mul t u
            by_cases hh : ahdI (A 2 (16 + 9 * j + 1)) (A 8 j) (whT act (w 0) (upM A j) (A 8 j) (A 7 j) t) ≤ upM A j
            · rw [bI_t hh]
              have := i1.mp hh
              exact ⟨fun _ => by omega, fun _ => by decide⟩
            · rw [bI_f hh]
              exact ⟨fun z => absurd rfl z, fun z => absurd (i1.mpr (by omega)) hh⟩
          rw [hn]) r (T * 100) 0 p0 (T * 100 * u + 1) (by omega) (by omega) (by omega) hC0 (by
          have := mul_ge (T * 100 * u + 1) (100 * D) (by omega)
          omega)
      rw [show 100 * T = T * 100 from Nat.mul_comm _ _]
      exact h
    · rw [if_neg h4]
      have h4i : ¬ act.toInt < 4 := fun z => h4 ((lt_ti rfl (show (4 : Int32).toInt = 4 from rfl)).mpr z)
      have ha : act = 4 ∨ act = 5 := by
        rcases (show act.toInt = 4 ∨ act.toInt = 5 by omega) with z | z
        · exact Or.inl (Int32.toInt_inj.mp z)
        · exact Or.inr (Int32.toInt_inj.mp z)
      have hz : ∀ t, fsR (ckT act g A j) t r = r := by
        intro t
        induction t with
        | zero => rfl
        | succ t ih =>
          unfold fsR
          rw [if_neg, ih]
          intro hc
          refine hc.1 ?_
          rw [nowM, ← w0, if_neg hk, cbR]
          rcases ha with rfl | rfl
          · rw [if_neg (by decide), if_pos rfl]
          · rw [if_pos rfl]
      exact (hz _).symm
