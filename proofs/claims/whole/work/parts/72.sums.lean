theorem oP_sS (p o : Nat → Nat) (i : Nat) : oS p (oP o (i + 1)) = oS p (oP o i) + p (o i) := by
  rw [oP_s, oS_app]
  rfl
theorem oP_sC (p w o : Nat → Nat) (i : Nat) : oC p w 0 (oP o (i + 1)) = oC p w 0 (oP o i) + w (o i) * (oS p (oP o i) + p (o i)) := by
  rw [oP_s, oC_app, Nat.zero_add]
  rfl
set_option maxRecDepth 100000 in
theorem x_sumOf46 {g : mG} {A x a : mA} {f : mF} (h : IV g A x a f) {m : Nat} (em : A 2 3 = nI m) (hm : m ≤ 8) (d : Nat) (mb : Nat → AB) (x' a' : mA) (hx : x' 17 5 = nI m) (o : Nat → Nat) (ho : ∀ k, k < m → a' 46 k = nI (o k) ∧ o k < m) : ab_Ex (d + 1) 0 yX4_sumOf [vR 13 0, vR 46 0] (hX mb x' a' f) (some (vI (nI (oC (miN A) (wtN A) 0 (oP o m))))) (hX mb x' a' f) := by
  refine ab_meth oX4_sumOf d _ _ _ _ (Nat.le_refl _) rfl (fun E => ?_)
  have loop : ∀ (k i : Nat), i + k = m → ab_W jX4_sumOf d E (hX mb x' a' f) 70 (fun v1 h1 => v1 = some (vI (nI (oC (miN A) (wtN A) 0 (oP o m)))) ∧ h1 = hX mb x' a' f) (ab_at iX4_sumOf 7) [(4, vI (nI i)), (3, vI (nI (oS (miN A) (oP o i)))), (2, vI (nI (oC (miN A) (wtN A) 0 (oP o i)))), (0, vR 13 0), (1, vR 46 0)] [] (hX mb x' a' f) := by
    intro k
    induction k with
    | zero =>
      intro i hi
      have him : i = m := by omega
      subst him
      refine ab_run [7] 100 oX4_sumOf.1 (Nat.le_refl _) 7 ?_
      refine ⟨fun _ => ⟨rfl, rfl⟩, fun (c1 : ¬ x' 17 5 ≤ nI i) => ?_⟩
      rw [hx] at c1
      exact absurd (nI_le (by omega) (by omega)) c1
    | succ k ih =>
      intro i hi
      obtain ⟨o1, o2⟩ := ho i (by omega)
      obtain ⟨p1, p2, -, -⟩ := miN_ok h em hm o2
      obtain ⟨w1, w2, -, -⟩ := wtN_ok h em hm o2
      have h9 := ih (i + 1) (by omega)
      rw [nI_succ, oP_sS, oP_sC, ← nI_add, ← nI_add, ← pk_mul, ← nI_add, ← p2, ← w2] at h9
      refine ab_run [7] 100 oX4_sumOf.1 (Nat.le_refl _) 7 ?_
      refine ⟨fun (c1 : x' 17 5 ≤ nI i) => ?_, fun _ => ?_⟩
      · rw [hx] at c1
        exact absurd c1 (nI_lt_m (by omega) (by omega))
      refine ⟨(vp_in_nI (by omega) (by omega) : vp_in (nI i) 8), ?_⟩
      rw [nI_clamp (by omega)]
      have hc : (a' 46 i).toNatClampNeg = o i := by rw [o1, nI_clamp (by omega)]
      refine ⟨(by rw [o1]; exact vp_in_nI (by omega) (by omega) : vp_in (a' 46 i) 8), ⟨(20, o i), (show ab_fa 20 (a' 46 i).toNatClampNeg = vR 20 (o i) by rw [hc]; exact ab_fa_at 20 (by omega)), ?_⟩⟩
      refine ⟨ck20 (by omega), ?_⟩
      refine ⟨ck20 (by omega), ?_⟩
      exact ab_W_lv (lv_pk [0, 2, 1, 4, 5] rfl) h9
  refine ab_run [7] 100 oX4_sumOf.1 (Nat.le_refl _) 0 ?_
  exact loop m 0 (by omega)
set_option maxRecDepth 100000 in
theorem x_sumOf47 {g : mG} {A x a : mA} {f : mF} (h : IV g A x a f) {m : Nat} (em : A 2 3 = nI m) (hm : m ≤ 8) (d : Nat) (mb : Nat → AB) (x' a' : mA) (hx : x' 17 5 = nI m) (o : Nat → Nat) (ho : ∀ k, k < m → a' 47 k = nI (o k) ∧ o k < m) : ab_Ex (d + 1) 0 yX4_sumOf [vR 13 0, vR 47 0] (hX mb x' a' f) (some (vI (nI (oC (miN A) (wtN A) 0 (oP o m))))) (hX mb x' a' f) := by
  refine ab_meth oX4_sumOf d _ _ _ _ (Nat.le_refl _) rfl (fun E => ?_)
  have loop : ∀ (k i : Nat), i + k = m → ab_W jX4_sumOf d E (hX mb x' a' f) 70 (fun v1 h1 => v1 = some (vI (nI (oC (miN A) (wtN A) 0 (oP o m)))) ∧ h1 = hX mb x' a' f) (ab_at iX4_sumOf 7) [(4, vI (nI i)), (3, vI (nI (oS (miN A) (oP o i)))), (2, vI (nI (oC (miN A) (wtN A) 0 (oP o i)))), (0, vR 13 0), (1, vR 47 0)] [] (hX mb x' a' f) := by
    intro k
    induction k with
    | zero =>
      intro i hi
      have him : i = m := by omega
      subst him
      refine ab_run [7] 100 oX4_sumOf.1 (Nat.le_refl _) 7 ?_
      refine ⟨fun _ => ⟨rfl, rfl⟩, fun (c1 : ¬ x' 17 5 ≤ nI i) => ?_⟩
      rw [hx] at c1
      exact absurd (nI_le (by omega) (by omega)) c1
    | succ k ih =>
      intro i hi
      obtain ⟨o1, o2⟩ := ho i (by omega)
      obtain ⟨p1, p2, -, -⟩ := miN_ok h em hm o2
      obtain ⟨w1, w2, -, -⟩ := wtN_ok h em hm o2
      have h9 := ih (i + 1) (by omega)
      rw [nI_succ, oP_sS, oP_sC, ← nI_add, ← nI_add, ← pk_mul, ← nI_add, ← p2, ← w2] at h9
      refine ab_run [7] 100 oX4_sumOf.1 (Nat.le_refl _) 7 ?_
      refine ⟨fun (c1 : x' 17 5 ≤ nI i) => ?_, fun _ => ?_⟩
      · rw [hx] at c1
        exact absurd c1 (nI_lt_m (by omega) (by omega))
      refine ⟨(vp_in_nI (by omega) (by omega) : vp_in (nI i) 8), ?_⟩
      rw [nI_clamp (by omega)]
      have hc : (a' 47 i).toNatClampNeg = o i := by rw [o1, nI_clamp (by omega)]
      refine ⟨(by rw [o1]; exact vp_in_nI (by omega) (by omega) : vp_in (a' 47 i) 8), ⟨(20, o i), (show ab_fa 20 (a' 47 i).toNatClampNeg = vR 20 (o i) by rw [hc]; exact ab_fa_at 20 (by omega)), ?_⟩⟩
      refine ⟨ck20 (by omega), ?_⟩
      refine ⟨ck20 (by omega), ?_⟩
      exact ab_W_lv (lv_pk [0, 2, 1, 4, 5] rfl) h9
  refine ab_run [7] 100 oX4_sumOf.1 (Nat.le_refl _) 0 ?_
  exact loop m 0 (by omega)
set_option maxRecDepth 100000 in
theorem m_sumOf {A : mA} {n m : Nat} (hnm : n ≤ m) (hm : m ≤ 8) (hp : ∀ i, i < m → A 2 (16 + 9 * i + 4) = nI (miN A i)) (hw : ∀ i, i < m → A 2 (16 + 9 * i + 3) = nI (wtN A i)) (d : Nat) (G : mG) (B : mA) (xs : List AB) (e2 : B 2 = A 2) (o : Nat → Nat) (ho : ∀ k, k < n → B 10 k = nI (o k) ∧ o k < m) : ab_Ex (d + 2) 0 yX5_sumOf [vR 0 0, vI (nI n)] (hM G B xs) (some (vI (nI (oC (miN A) (wtN A) 0 (oP o n))))) (hM G B xs) := by
  refine ab_meth oX5_sumOf (d + 1) _ _ _ _ (Nat.le_refl _) rfl (fun E => ?_)
  have loop : ∀ (k i : Nat), i + k = n → ab_W jX5_sumOf (d + 1) E (hM G B xs) 70 (fun v1 h1 => v1 = some (vI (nI (oC (miN A) (wtN A) 0 (oP o n)))) ∧ h1 = hM G B xs) (ab_at iX5_sumOf 7) [(4, vI (nI i)), (3, vI (nI (oS (miN A) (oP o i)))), (2, vI (nI (oC (miN A) (wtN A) 0 (oP o i)))), (0, vR 0 0), (1, vI (nI n))] [] (hM G B xs) := by
    intro k
    induction k with
    | zero =>
      intro i hi
      have him : i = n := by omega
      subst him
      refine ab_run [7] 100 oX5_sumOf.1 (Nat.le_refl _) 7 ?_
      refine ⟨fun _ => ⟨rfl, rfl⟩, fun c1 => absurd (nI_le (Nat.le_refl _) (by omega)) c1⟩
    | succ k ih =>
      intro i hi
      obtain ⟨o1, o2⟩ := ho i (by omega)
      have g4 := ex_r (m_get d G B xs (o i) 4 (by omega)) ((congrFun e2 _).trans (hp (o i) o2))
      have g3 := ex_r (m_get d G B xs (o i) 3 (by omega)) ((congrFun e2 _).trans (hw (o i) o2))
      rw [← o1] at g4 g3
      have h9 := ih (i + 1) (by omega)
      rw [nI_succ, oP_sS, oP_sC, ← nI_add, ← nI_add, Nat.mul_comm, ← pk_mul, ← nI_add] at h9
      refine ab_run [7] 100 oX5_sumOf.1 (Nat.le_refl _) 7 ?_
      refine ⟨fun c1 => absurd c1 (nI_ge (by omega) (by omega)), fun _ => ?_⟩
      refine ⟨(vp_in_nI (by omega) (by omega) : vp_in (nI i) 8), ?_⟩
      rw [nI_clamp (by omega)]
      refine ⟨_, _, g4, Nat.le_refl _, ?_⟩
      refine ⟨(vp_in_nI (by omega) (by omega) : vp_in (nI i) 8), ?_⟩
      rw [nI_clamp (by omega)]
      refine ⟨_, _, g3, Nat.le_refl _, ?_⟩
      exact ab_W_lv (lv_pk [0, 2, 1, 3, 4] rfl) h9
  refine ab_run [7] 100 oX5_sumOf.1 (Nat.le_refl _) 0 ?_
  exact loop n 0 (by omega)
theorem sn_bit : ∀ N, N < 64 → ∀ i, i < 6 → (((nI N >>> (nI i &&& 31)) &&& 1 = 1) ↔ N.testBit i = true) := by decide +kernel
theorem sn_or : ∀ N, N < 64 → ∀ i, i < 6 → (nI N ||| ((1 : Int32) <<< (nI i &&& 31)) = nI (N ||| 2 ^ i) ∧ N ||| 2 ^ i < 64) := by decide +kernel
theorem sn_tb (N i j : Nat) : (N ||| 2 ^ i).testBit j = (N.testBit j || decide (i = j)) := by
  rw [Nat.testBit_or, Nat.testBit_two_pow]
/-- what the model holds as its best -/
def BSt (m : Nat) (b : Int32) (c : Nat → Int32) (y : Option (Nat × List Nat)) : Prop := match y with
  | none => b < 0
  | some z => b = nI z.1 ∧ z.1 < 1000000 ∧ ∀ k, k < m → c k = nI (z.2.getD k 0)
def oH (g : mG) (A : mA) (b : Int32) (c10 c11 : Nat → Int32) (xs : List AB) : AH := hM (upd g 22 b) (mS (mS A 10 c10) 11 c11) xs
