def bnd (r : CR) (k : Nat → (Nat → Int32) → CR) : CR := if r.1 = 0 then r else k r.2.1 r.2.2
theorem bnd_N (P : Nat → Int32) (s l m p : Nat) (N : Nat → Int32) (K k : Nat → (Nat → Int32) → CR) : bnd (cN P s l m p N K) k = cN P s l m p N (fun q N => bnd (K q N) k) := by
  unfold cN
  split
  · rfl
  · rfl
theorem bnd_S (P : Nat → Int32) (c : Int32) (p : Nat) (N : Nat → Int32) (K k : Nat → (Nat → Int32) → CR) : bnd (cS P c p N K) k = cS P c p N (fun q N => bnd (K q N) k) := by
  unfold cS
  split
  · rfl
  · rfl
theorem bnd_E (p : Nat) (N : Nat → Int32) (k : Nat → (Nat → Int32) → CR) : bnd (cE p N) k = k p N := rfl
theorem bnd_ite (c : Prop) [Decidable c] (u v : CR) (k : Nat → (Nat → Int32) → CR) : bnd (if c then u else v) k = if c then bnd u k else bnd v k := by
  split
  · rfl
  · rfl
theorem bF (P : Nat → Int32) (kd : Int32) (p : Nat) (N : Nat → Int32) (k : Nat → (Nat → Int32) → CR) : bnd (cFlt P kd p N cE) k = cFlt P kd p N k := by
  simp only [cFlt, cBall, bnd_N, bnd_S, bnd_ite, bnd_E]
theorem kin_r (c : Int32) : (kinI c (-1) < 0 ∧ kinI c (-9) < 0) ∨ (kinI c (-1) = kinI c (-9) ∧ ¬ kinI c (-9) < 0 ∧ 0 ≤ (kinI c (-9)).toInt ∧ (kinI c (-9)).toInt ≤ 7) := by
  unfold kinI
  by_cases h98 : c = 98
  · right
    rw [h98]
    decide
  by_cases h99 : c = 99
  · right
    rw [h99]
    decide
  by_cases h100 : c = 100
  · right
    rw [h100]
    decide
  by_cases h108 : c = 108
  · right
    rw [h108]
    decide
  by_cases h111 : c = 111
  · right
    rw [h111]
    decide
  by_cases h112 : c = 112
  · right
    rw [h112]
    decide
  by_cases h115 : c = 115
  · right
    rw [h115]
    decide
  by_cases h116 : c = 116
  · right
    rw [h116]
    decide
  left
  rw [if_neg h98, if_neg h99, if_neg h100, if_neg h108, if_neg h111, if_neg h112, if_neg h115, if_neg h116, if_neg h98, if_neg h99, if_neg h100, if_neg h108, if_neg h111, if_neg h112, if_neg h115, if_neg h116]
  decide
def Rel (Φ : (Nat → Int32) → (Nat → Int32) → Prop) (c m : CR) : Prop := c.1 = m.1 ∧ c.2.1 = m.2.1 ∧ (m.1 = 1 → Φ c.2.2 m.2.2)
theorem rel_N {Φ : (Nat → Int32) → (Nat → Int32) → Prop} {P : Nat → Int32} {s s' l m p : Nat} (M : Int) {N T : Nat → Int32} {kc km : Nat → (Nat → Int32) → CR} (hm : m ≤ 3) (hM : (10 : Int) ^ m = M) (h : ∀ (q : Nat) (v : Int32), 0 ≤ v.toInt → v.toInt < M → Rel Φ (kc q (upd N s v)) (km q (upd T s' v))) : Rel Φ (cN P s l m p N kc) (cN P s' l m p T km) := by
  have hr := nuV_rng P p hm
  rw [hM] at hr
  unfold cN
  by_cases q : l ≤ nuD P m p
  · rw [if_pos q, if_pos q]
    exact h _ _ hr.1 hr.2
  · rw [if_neg q, if_neg q]
    exact ⟨rfl, rfl, fun z => absurd z (show ¬ (0 : Int32) = 1 by decide)⟩
theorem rel_S {Φ : (Nat → Int32) → (Nat → Int32) → Prop} {P : Nat → Int32} {c : Int32} {p : Nat} {N T : Nat → Int32} {kc km : Nat → (Nat → Int32) → CR} (h : ∀ q : Nat, Rel Φ (kc q N) (km q T)) : Rel Φ (cS P c p N kc) (cS P c p T km) := by
  unfold cS
  by_cases q : P p = c
  · rw [if_pos q, if_pos q]
    exact h _
  · rw [if_neg q, if_neg q]
    exact ⟨rfl, rfl, fun z => absurd z (show ¬ (0 : Int32) = 1 by decide)⟩
/-- what a FAULT of a text is, in the class's numbers N and the model's T -/
def FQ (kd : Int32) (N T : Nat → Int32) : Prop := T 0 = kd ∧ (N 0 = T 1 ∧ N 1 = T 2 ∧ N 2 = T 3 ∧ N 3 = T 4) ∧ (0 ≤ (T 1).toInt ∧ (T 1).toInt ≤ 99) ∧ (0 ≤ (T 2).toInt ∧ (T 2).toInt ≤ 9) ∧ (0 ≤ (T 3).toInt ∧ (T 3).toInt ≤ 99) ∧ (0 ≤ (T 4).toInt ∧ (T 4).toInt ≤ 99) ∧ (kd = 1 → N 4 = T 5 ∧ N 5 = T 6) ∧ (¬ kd = 1 → T 5 = 1 ∧ T 6 = 1)
theorem rel_flt (P : Nat → Int32) (kd : Int32) (p : Nat) (N T : Nat → Int32) : Rel (FQ kd) (cFlt P kd p N (fun p N => cS P 59 p N cE)) (mFlt P kd p (upd T 0 kd) (fun p N => cS P 59 p N cE)) := by
  unfold cFlt mFlt
  refine rel_N 100 (by omega) rfl (fun _ v1 a1 b1 => rel_S (fun _ => rel_N 10 (by omega) rfl (fun _ v2 a2 b2 => rel_S (fun _ => rel_N 100 (by omega) rfl (fun _ v3 a3 b3 => rel_S (fun _ => rel_N 100 (by omega) rfl (fun q v4 a4 b4 => ?_)))))))
  by_cases hk : kd = 1
  · rw [if_pos hk, if_pos hk]
    unfold cBall mBall
    refine rel_S (fun _ => rel_N 100 (by omega) rfl (fun _ v5 a5 b5 => rel_S (fun _ => rel_N 100 (by omega) rfl (fun _ v6 a6 b6 => rel_S (fun _ => ⟨rfl, rfl, fun _ => ?_⟩)))))
    exact ⟨rfl, ⟨rfl, rfl, rfl, rfl⟩, ⟨a1, (show v1.toInt ≤ 99 by omega)⟩, ⟨a2, (show v2.toInt ≤ 9 by omega)⟩, ⟨a3, (show v3.toInt ≤ 99 by omega)⟩, ⟨a4, (show v4.toInt ≤ 99 by omega)⟩, fun _ => ⟨rfl, rfl⟩, fun z => absurd hk z⟩
  · rw [if_neg hk, if_neg hk]
    refine rel_S (fun _ => ⟨rfl, rfl, fun _ => ?_⟩)
    exact ⟨rfl, ⟨rfl, rfl, rfl, rfl⟩, ⟨a1, (show v1.toInt ≤ 99 by omega)⟩, ⟨a2, (show v2.toInt ≤ 9 by omega)⟩, ⟨a3, (show v3.toInt ≤ 99 by omega)⟩, ⟨a4, (show v4.toInt ≤ 99 by omega)⟩, fun z => absurd z hk, fun _ => ⟨rfl, rfl⟩⟩
/-- what a statement at p is -/
def SQ (P : Nat → Int32) (p : Nat) (N T : Nat → Int32) : Prop := (P p = 113 → kinI (P (p + 1)) (-1) = kinI (P (p + 1)) (-9) ∧ 0 ≤ (kinI (P (p + 1)) (-9)).toInt ∧ (kinI (P (p + 1)) (-9)).toInt ≤ 7 ∧ FQ (kinI (P (p + 1)) (-9)) N T) ∧ (¬ P p = 113 → (P p = 102 ∨ P p = 107 ∨ P p = 114) ∧ N 0 = T 0)
theorem rel_stm (P : Nat → Int32) (p : Nat) (N T : Nat → Int32) : Rel (SQ P p) (stmR P p N) (mStm P p T) := by
  unfold stmR mStm
  by_cases h1 : P p = 113
  · rw [if_pos h1, if_pos h1]
    rcases kin_r (P (p + 1)) with ⟨k1, k2⟩ | ⟨k1, k2, k3, k4⟩
    · unfold fltR
      rw [if_pos k1, if_pos k2, if_pos (show ((0 : Int32), p + 1, N).1 = 0 from rfl)]
      exact ⟨rfl, rfl, fun z => absurd z (show ¬ (0 : Int32) = 1 by decide)⟩
    · have e : fltR P (p + 1) N = cFlt P (kinI (P (p + 1)) (-9)) (p + 1 + 1) N cE := by
        unfold fltR
        rw [k1, if_neg k2]
      rw [if_neg k2, e]
      have e2 := bF P (kinI (P (p + 1)) (-9)) (p + 1 + 1) N (fun p N => cS P 59 p N cE)
      unfold bnd at e2
      rw [e2]
      obtain ⟨r1, r2, r3⟩ := rel_flt P (kinI (P (p + 1)) (-9)) (p + 1 + 1) N T
      exact ⟨r1, r2, fun z => ⟨fun _ => ⟨k1, k3, k4, r3 z⟩, fun q => absurd h1 q⟩⟩
  · rw [if_neg h1, if_neg h1]
    by_cases h2 : P p = 102 ∨ P p = 107 ∨ P p = 114
    · rw [if_pos h2, if_pos h2]
      refine rel_N 1000 (by omega) rfl (fun _ v a b => rel_S (fun _ => ⟨rfl, rfl, fun _ => ⟨fun q => absurd q h1, fun _ => ⟨h2, rfl⟩⟩⟩))
    · rw [if_neg h2, if_neg h2]
      exact ⟨rfl, rfl, fun z => absurd z (show ¬ (0 : Int32) = 1 by decide)⟩
-- well or not, and the place behind: whatever stood in the numbers
def sK (P : Nat → Int32) (p : Nat) : Int32 := (mStm P p (fun _ => 0)).1
def sP (P : Nat → Int32) (p : Nat) : Nat := (mStm P p (fun _ => 0)).2.1
theorem sK_c (P : Nat → Int32) (p : Nat) (N : Nat → Int32) : (stmR P p N).1 = sK P p ∧ (stmR P p N).2.1 = sP P p := by
  obtain ⟨h1, h2, -⟩ := rel_stm P p N (fun _ => 0)
  exact ⟨h1, h2⟩
theorem sK_m (P : Nat → Int32) (p : Nat) (T : Nat → Int32) : (mStm P p T).1 = sK P p ∧ (mStm P p T).2.1 = sP P p := by
  obtain ⟨h1, h2, -⟩ := rel_stm P p (fun _ => 0) T
  obtain ⟨h3, h4⟩ := sK_c P p (fun _ => 0)
  exact ⟨h1.symm.trans h3, h2.symm.trans h4⟩
theorem cM_N {t : Nat → Int32} {n s l m p b : Nat} {N : Nat → Int32} {k : Nat → (Nat → Int32) → CR} (hp : p ≤ n) (hb : b ≤ p) (hk : ∀ q N, q ≤ n → b ≤ q → b ≤ (k q N).2.1) : b ≤ (cN (pk t n) s l m p N k).2.1 := by
  have h1 := nuQ_ge (t := t) (n := n) (p := p) m hp
  unfold cN
  split
  · exact hk _ _ (nuQ_le m hp) (by omega)
  · show b ≤ nuQ (pk t n) m p
    omega
theorem cM_S {t : Nat → Int32} {n p b : Nat} {c : Int32} (hc : ¬ c = -1) {N : Nat → Int32} {k : Nat → (Nat → Int32) → CR} (hb : b ≤ p) (hk : ∀ q N, q ≤ n → b ≤ q → b ≤ (k q N).2.1) : b ≤ (cS (pk t n) c p N k).2.1 := by
  unfold cS
  by_cases q : pk t n p = c
  · rw [if_pos q]
    exact hk _ _ (tk_lt q hc) (by omega)
  · rw [if_neg q]
    exact hb
theorem sP_ok {t : Nat → Int32} {n p : Nat} (hp : p ≤ n) : (sK (pk t n) p = 0 ∨ sK (pk t n) p = 1) ∧ sP (pk t n) p ≤ n ∧ (sK (pk t n) p = 1 → p < sP (pk t n) p) := by
  unfold sK sP mStm
  by_cases h1 : pk t n p = 113
  · have g0 : p + 1 ≤ n := tk_lt h1 (by decide)
    rw [if_pos h1]
    by_cases h2 : kinI (pk t n (p + 1)) (-9) < 0
    · rw [if_pos h2]
      exact ⟨Or.inl rfl, g0, fun _ => Nat.lt_succ_self p⟩
    · rw [if_neg h2]
      have g1 : p + 1 + 1 ≤ n := kin_lt (by decide) h2
      have hend : ∀ (q : Nat) (N : Nat → Int32), q ≤ n → cOK n (cS (pk t n) 59 q N cE) := fun q N h => cOK_S (by decide) h (fun _ _ h => cOK_E h)
      have mend : ∀ (q : Nat) (N : Nat → Int32), q ≤ n → p + 1 ≤ q → p + 1 ≤ (cS (pk t n) 59 q N cE).2.1 := fun q N h hb => cM_S (n := n) (by decide) hb (fun _ _ _ h => h)
      have o : cOK n (mFlt (pk t n) (kinI (pk t n (p + 1)) (-9)) (p + 1 + 1) (upd (fun _ => 0) 0 (kinI (pk t n (p + 1)) (-9))) (fun p T => cS (pk t n) 59 p T cE)) := by
        unfold mFlt
        refine cOK_N g1 (fun _ _ h1 => cOK_S (by decide) h1 (fun _ _ h2 => cOK_N h2 (fun _ _ h3 => cOK_S (by decide) h3 (fun _ _ h4 => cOK_N h4 (fun _ _ h5 => cOK_S (by decide) h5 (fun _ _ h6 => cOK_N h6 (fun q N h7 => ?_)))))))
        split
        · exact cOK_S (by decide) h7 (fun _ _ h1 => cOK_N h1 (fun _ _ h2 => cOK_S (by decide) h2 (fun _ _ h3 => cOK_N h3 hend)))
        · exact hend _ _ h7
      have w : p + 1 ≤ (mFlt (pk t n) (kinI (pk t n (p + 1)) (-9)) (p + 1 + 1) (upd (fun _ => 0) 0 (kinI (pk t n (p + 1)) (-9))) (fun p T => cS (pk t n) 59 p T cE)).2.1 := by
        unfold mFlt
        refine cM_N (n := n) g1 (by omega) (fun _ _ h1 d1 => cM_S (by decide) d1 (fun _ _ h2 d2 => cM_N h2 d2 (fun _ _ h3 d3 => cM_S (by decide) d3 (fun _ _ h4 d4 => cM_N h4 d4 (fun _ _ h5 d5 => cM_S (by decide) d5 (fun _ _ h6 d6 => cM_N h6 d6 (fun q N h7 d7 => ?_)))))))
        split
        · exact cM_S (by decide) d7 (fun _ _ h1 d1 => cM_N h1 d1 (fun _ _ h2 d2 => cM_S (by decide) d2 (fun _ _ h3 d3 => cM_N h3 d3 mend)))
        · exact mend _ _ h7 d7
      exact ⟨o.1, o.2, fun _ => w⟩
  · rw [if_neg h1]
    by_cases h2 : pk t n p = 102 ∨ pk t n p = 107 ∨ pk t n p = 114
    · rw [if_pos h2]
      have g0 : p + 1 ≤ n := by
        rcases h2 with z | z | z
        · exact tk_lt z (by decide)
        · exact tk_lt z (by decide)
        · exact tk_lt z (by decide)
      have o : cOK n (cN (pk t n) 0 1 3 (p + 1) (fun _ => 0) (fun p T => cS (pk t n) 59 p T cE)) := cOK_N g0 (fun q N h => cOK_S (by decide) h (fun _ _ h => cOK_E h))
      have w : p + 1 ≤ (cN (pk t n) 0 1 3 (p + 1) (fun _ => 0) (fun p T => cS (pk t n) 59 p T cE)).2.1 := cM_N (n := n) g0 (Nat.le_refl _) (fun q N h hb => cM_S (n := n) (by decide) hb (fun _ _ _ h => h))
      exact ⟨o.1, o.2, fun _ => w⟩
    · rw [if_neg h2]
      exact ⟨Or.inl rfl, hp, fun z => absurd z (show ¬ (0 : Int32) = 1 by decide)⟩
