abbrev CR : Type := Int32 × Nat × (Nat → Int32)
def cN (P : Nat → Int32) (s l m p : Nat) (N : Nat → Int32) (k : Nat → (Nat → Int32) → CR) : CR := if l ≤ nuD P m p then k (nuQ P m p) (upd N s (nuV P m p)) else (0, nuQ P m p, upd N s (nuV P m p))
def cS (P : Nat → Int32) (c : Int32) (p : Nat) (N : Nat → Int32) (k : Nat → (Nat → Int32) → CR) : CR := if P p = c then k (p + 1) N else (0, p, N)
def cE (p : Nat) (N : Nat → Int32) : CR := (1, p, N)
theorem cN_t {P : Nat → Int32} {s l m p : Nat} {N : Nat → Int32} {k : Nat → (Nat → Int32) → CR} (h : l ≤ nuD P m p) : cN P s l m p N k = k (nuQ P m p) (upd N s (nuV P m p)) := if_pos h
theorem cN_f {P : Nat → Int32} {s l m p : Nat} {N : Nat → Int32} {k : Nat → (Nat → Int32) → CR} (h : nuD P m p < l) : cN P s l m p N k = (0, nuQ P m p, upd N s (nuV P m p)) := if_neg (by omega)
theorem cS_t {P : Nat → Int32} {c : Int32} {p : Nat} {N : Nat → Int32} {k : Nat → (Nat → Int32) → CR} (h : P p = c) : cS P c p N k = k (p + 1) N := if_pos h
theorem cS_f {P : Nat → Int32} {c : Int32} {p : Nat} {N : Nat → Int32} {k : Nat → (Nat → Int32) → CR} (h : ¬ P p = c) : cS P c p N k = (0, p, N) := if_neg h
def cBall (P : Nat → Int32) (p : Nat) (N : Nat → Int32) (k : Nat → (Nat → Int32) → CR) : CR := cS P 44 p N fun p N => cN P 4 1 2 p N fun p N => cS P 47 p N fun p N => cN P 5 1 2 p N k
def cFlt (P : Nat → Int32) (kd : Int32) (p : Nat) (N : Nat → Int32) (k : Nat → (Nat → Int32) → CR) : CR := cN P 0 2 2 p N fun p N => cS P 44 p N fun p N => cN P 1 1 1 p N fun p N => cS P 44 p N fun p N => cN P 2 1 2 p N fun p N => cS P 44 p N fun p N => cN P 3 1 2 p N fun p N => if kd = 1 then cBall P p N k else k p N
def fltR (P : Nat → Int32) (p : Nat) (N : Nat → Int32) : CR := if kinI (P p) (-1) < 0 then (0, p, N) else cFlt P (kinI (P p) (-1)) (p + 1) N cE
def stmR (P : Nat → Int32) (p : Nat) (N : Nat → Int32) : CR := if P p = 113 then (if (fltR P (p + 1) N).1 = 0 then fltR P (p + 1) N else cS P 59 (fltR P (p + 1) N).2.1 (fltR P (p + 1) N).2.2 cE) else if P p = 102 ∨ P p = 107 ∨ P p = 114 then cN P 0 1 3 (p + 1) N fun p N => cS P 59 p N cE else (0, p, N)
/-- well or not, and no further than the end -/
def cOK (n : Nat) (r : CR) : Prop := (r.1 = 0 ∨ r.1 = 1) ∧ r.2.1 ≤ n
theorem cOK_N {t : Nat → Int32} {n s l m p : Nat} {N : Nat → Int32} {k : Nat → (Nat → Int32) → CR} (hp : p ≤ n) (hk : ∀ q N, q ≤ n → cOK n (k q N)) : cOK n (cN (pk t n) s l m p N k) := by
  unfold cN
  split
  · exact hk _ _ (nuQ_le m hp)
  · exact ⟨Or.inl rfl, nuQ_le m hp⟩
theorem cOK_S {t : Nat → Int32} {n p : Nat} {c : Int32} (hc : ¬ c = -1) {N : Nat → Int32} {k : Nat → (Nat → Int32) → CR} (hp : p ≤ n) (hk : ∀ q N, q ≤ n → cOK n (k q N)) : cOK n (cS (pk t n) c p N k) := by
  unfold cS
  by_cases q : pk t n p = c
  · rw [if_pos q]
    exact hk _ _ (tk_lt q hc)
  · rw [if_neg q]
    exact ⟨Or.inl rfl, hp⟩
theorem cOK_E {n p : Nat} {N : Nat → Int32} (hp : p ≤ n) : cOK n (cE p N) := ⟨Or.inr rfl, hp⟩
theorem cOK_B {t : Nat → Int32} {n p : Nat} {N : Nat → Int32} {k : Nat → (Nat → Int32) → CR} (hp : p ≤ n) (hk : ∀ q N, q ≤ n → cOK n (k q N)) : cOK n (cBall (pk t n) p N k) :=
  cOK_S (by decide) hp (fun _ _ h1 => cOK_N h1 (fun _ _ h2 => cOK_S (by decide) h2 (fun _ _ h3 => cOK_N h3 hk)))
theorem cOK_F {t : Nat → Int32} {n p : Nat} {kd : Int32} {N : Nat → Int32} {k : Nat → (Nat → Int32) → CR} (hp : p ≤ n) (hk : ∀ q N, q ≤ n → cOK n (k q N)) : cOK n (cFlt (pk t n) kd p N k) := by
  refine cOK_N hp (fun _ _ h1 => cOK_S (by decide) h1 (fun _ _ h2 => cOK_N h2 (fun _ _ h3 => cOK_S (by decide) h3 (fun _ _ h4 => cOK_N h4 (fun _ _ h5 => cOK_S (by decide) h5 (fun _ _ h6 => cOK_N h6 (fun q N h7 => ?_)))))))
  split
  · exact cOK_B h7 hk
  · exact hk _ _ h7
theorem kin_lt {t : Nat → Int32} {n p : Nat} {no : Int32} (hno : no < 0) (h : ¬ kinI (pk t n p) no < 0) : p < n := by
  unfold pk at h
  by_cases q : p < n
  · exact q
  · rw [if_neg q] at h
    exact absurd hno h
theorem cOK_fR {t : Nat → Int32} {n p : Nat} {N : Nat → Int32} (hp : p ≤ n) : cOK n (fltR (pk t n) p N) := by
  unfold fltR
  by_cases q : kinI (pk t n p) (-1) < 0
  · rw [if_pos q]
    exact ⟨Or.inl rfl, hp⟩
  · rw [if_neg q]
    exact cOK_F (kin_lt (by decide) q) (fun _ _ h => cOK_E h)
section TapeS
variable (d : Nat) (mb : Nat → AB) (x a : mA) (f : mF) (L N : Nat → Int32) {n : Nat}
set_option maxRecDepth 100000 in
theorem t_ball (hL : L 1 = nI n) (hn : n ≤ 64) {p : Nat} (b0 : p ≤ n) : ab_Ex (d + 3) 0 yX3_readBall [vR 14 0] (tH mb x a f L N p) (some (vI (cBall (pk (a 15) n) p N cE).1)) (tH mb x a f L (cBall (pk (a 15) n) p N cE).2.2 (cBall (pk (a 15) n) p N cE).2.1) := by
  obtain ⟨R, hR⟩ : ∃ R : CR, cBall (pk (a 15) n) p N cE = R := ⟨_, rfl⟩
  rw [hR]
  unfold cBall at hR
  refine ab_meth oX3_readBall (d + 2) _ _ _ _ (Nat.le_refl _) rfl (fun E => ?_)
  refine ab_run [] 200 oX3_readBall.1 (Nat.le_refl _) 0 ?_
  by_cases s1 : ¬ (pk (a 15) n) p = 44
  · rw [cS_f s1] at hR
    refine ⟨_, _, t_skip0 d mb x a f L N hL hn (by omega) s1, Nat.le_refl _, ?_⟩
    refine ⟨fun _ => ?_, fun c => absurd rfl c⟩
    rw [← hR]
    exact ⟨Or.inl rfl, rfl, rfl⟩
  have s1 : (pk (a 15) n) p = 44 := Classical.not_not.mp s1
  have l1 : p < n := tk_lt s1 (by decide)
  have g1 : p + 1 ≤ n := l1
  rw [cS_t s1] at hR
  refine ⟨_, _, t_skip1 d mb x a f L N hL hn (by omega) s1, Nat.le_refl _, ?_⟩
  refine ⟨fun c => absurd c (by decide), fun _ => ?_⟩
  have hn2 := t_num d mb x a f L N hL hn g1 4 1 2 (by omega) (by omega) (by omega)
  obtain ⟨q2, eq2⟩ : ∃ q, nuQ (pk (a 15) n) 2 (p + 1) = q := ⟨_, rfl⟩
  obtain ⟨N2, eN2⟩ : ∃ N', upd N 4 (nuV (pk (a 15) n) 2 (p + 1)) = N' := ⟨_, rfl⟩
  have b2 : q2 ≤ n := by rw [← eq2]; exact nuQ_le 2 g1
  rw [eq2, eN2] at hn2
  rcases Nat.lt_or_ge (nuD (pk (a 15) n) 2 (p + 1)) 1 with k2 | k2
  · rw [cN_f k2, eq2, eN2] at hR
    rw [bI_f (show ¬ 1 ≤ nuD (pk (a 15) n) 2 (p + 1) by omega)] at hn2
    refine ⟨_, _, hn2, Nat.le_refl _, ?_⟩
    refine ⟨fun _ => ?_, fun c => absurd rfl c⟩
    rw [← hR]
    exact ⟨Or.inl rfl, rfl, rfl⟩
  rw [cN_t k2, eq2, eN2] at hR
  rw [bI_t k2] at hn2
  refine ⟨_, _, hn2, Nat.le_refl _, ?_⟩
  refine ⟨fun c => absurd c (by decide), fun _ => ?_⟩
  by_cases s3 : ¬ (pk (a 15) n) q2 = 47
  · rw [cS_f s3] at hR
    refine ⟨_, _, t_skip0 d mb x a f L N2 hL hn (by omega) s3, Nat.le_refl _, ?_⟩
    refine ⟨fun _ => ?_, fun c => absurd rfl c⟩
    rw [← hR]
    exact ⟨Or.inl rfl, rfl, rfl⟩
  have s3 : (pk (a 15) n) q2 = 47 := Classical.not_not.mp s3
  have l3 : q2 < n := tk_lt s3 (by decide)
  have g3 : q2 + 1 ≤ n := l3
  rw [cS_t s3] at hR
  refine ⟨_, _, t_skip1 d mb x a f L N2 hL hn (by omega) s3, Nat.le_refl _, ?_⟩
  refine ⟨fun c => absurd c (by decide), fun _ => ?_⟩
  have hn4 := t_num d mb x a f L N2 hL hn g3 5 1 2 (by omega) (by omega) (by omega)
  obtain ⟨q4, eq4⟩ : ∃ q, nuQ (pk (a 15) n) 2 (q2 + 1) = q := ⟨_, rfl⟩
  obtain ⟨N4, eN4⟩ : ∃ N', upd N2 5 (nuV (pk (a 15) n) 2 (q2 + 1)) = N' := ⟨_, rfl⟩
  have b4 : q4 ≤ n := by rw [← eq4]; exact nuQ_le 2 g3
  rw [eq4, eN4] at hn4
  rcases Nat.lt_or_ge (nuD (pk (a 15) n) 2 (q2 + 1)) 1 with k4 | k4
  · rw [cN_f k4, eq4, eN4] at hR
    rw [bI_f (show ¬ 1 ≤ nuD (pk (a 15) n) 2 (q2 + 1) by omega)] at hn4
    refine ⟨_, _, hn4, Nat.le_refl _, ?_⟩
    refine ⟨fun _ => ?_, fun c => absurd rfl c⟩
    rw [← hR]
    exact ⟨Or.inl rfl, rfl, rfl⟩
  rw [cN_t k4, eq4, eN4] at hR
  rw [bI_t k4] at hn4
  refine ⟨_, _, hn4, Nat.le_refl _, ?_⟩
  refine ⟨fun c => absurd c (by decide), fun _ => ?_⟩
  rw [← hR]
  exact ⟨Or.inr rfl, rfl, rfl⟩
set_option maxRecDepth 100000 in
theorem t_fault (hL : L 1 = nI n) (hn : n ≤ 64) {p : Nat} (b0 : p ≤ n) : ab_Ex (d + 4) 0 yX3_readFault [vR 14 0] (tH mb x a f L N p) (some (vI (fltR (pk (a 15) n) p N).1)) (tH mb x a f (upd L 4 (kinI (pk (a 15) n p) (-1))) (fltR (pk (a 15) n) p N).2.2 (fltR (pk (a 15) n) p N).2.1) := by
  obtain ⟨R, hR⟩ : ∃ R : CR, fltR (pk (a 15) n) p N = R := ⟨_, rfl⟩
  rw [hR]
  unfold fltR at hR
  have hK := x_kindOf (d + 2) (tH mb x a f L N p) (Nat.le_refl _) ((pk (a 15) n) p)
  have hkl := fun (z : ¬ kinI ((pk (a 15) n) p) (-1) < 0) => kin_lt (t := a 15) (n := n) (p := p) (no := -1) (by decide) z
  generalize hkd : kinI ((pk (a 15) n) p) (-1) = kd at hR hK hkl ⊢
  refine ab_meth oX3_readFault (d + 3) _ _ _ _ (Nat.le_refl _) rfl (fun E => ?_)
  refine ab_run [] 200 oX3_readFault.1 (Nat.le_refl _) 0 ?_
  refine ⟨_, _, t_peek (d + 2) mb x a f L N hL hn (by omega), Nat.le_refl _, ?_⟩
  refine ⟨_, _, hK, Nat.le_refl _, ?_⟩
  refine ⟨fun (c : 0 ≤ kd) => ?_, fun (c : ¬ 0 ≤ kd) => ?_⟩
  rotate_left
  · rw [if_pos (nle_lt c)] at hR
    rw [← hR]
    exact ⟨Or.inl rfl, rfl, rfl⟩
  rw [if_neg (le_nlt c)] at hR
  have g0 : p + 1 ≤ n := hkl (le_nlt c)
  unfold cFlt at hR
  have hn1 := t_num (d + 1) mb x a f (upd L 4 kd) N hL hn g0 0 2 2 (by omega) (by omega) (by omega)
  obtain ⟨q1, eq1⟩ : ∃ q, nuQ (pk (a 15) n) 2 (p + 1) = q := ⟨_, rfl⟩
  obtain ⟨N1, eN1⟩ : ∃ N', upd N 0 (nuV (pk (a 15) n) 2 (p + 1)) = N' := ⟨_, rfl⟩
  have b1 : q1 ≤ n := by rw [← eq1]; exact nuQ_le 2 g0
  rw [eq1, eN1] at hn1
  unfold tH at hn1
  rw [nI_succ p] at hn1
  rcases Nat.lt_or_ge (nuD (pk (a 15) n) 2 (p + 1)) 2 with k1 | k1
  · rw [cN_f k1, eq1, eN1] at hR
    rw [bI_f (show ¬ 2 ≤ nuD (pk (a 15) n) 2 (p + 1) by omega)] at hn1
    refine ⟨_, _, hn1, Nat.le_refl _, ?_⟩
    refine ⟨fun _ => ?_, fun c => absurd rfl c⟩
    rw [← hR]
    exact ⟨Or.inl rfl, rfl, rfl⟩
  rw [cN_t k1, eq1, eN1] at hR
  rw [bI_t k1] at hn1
  refine ⟨_, _, hn1, Nat.le_refl _, ?_⟩
  refine ⟨fun c => absurd c (by decide), fun _ => ?_⟩
  by_cases s2 : ¬ (pk (a 15) n) q1 = 44
  · rw [cS_f s2] at hR
    refine ⟨_, _, t_skip0 (d + 1) mb x a f (upd L 4 kd) N1 hL hn (by omega) s2, Nat.le_refl _, ?_⟩
    refine ⟨fun _ => ?_, fun c => absurd rfl c⟩
    rw [← hR]
    exact ⟨Or.inl rfl, rfl, rfl⟩
  have s2 : (pk (a 15) n) q1 = 44 := Classical.not_not.mp s2
  have l2 : q1 < n := tk_lt s2 (by decide)
  have g2 : q1 + 1 ≤ n := l2
  rw [cS_t s2] at hR
  refine ⟨_, _, t_skip1 (d + 1) mb x a f (upd L 4 kd) N1 hL hn (by omega) s2, Nat.le_refl _, ?_⟩
  refine ⟨fun c => absurd c (by decide), fun _ => ?_⟩
  have hn3 := t_num (d + 1) mb x a f (upd L 4 kd) N1 hL hn g2 1 1 1 (by omega) (by omega) (by omega)
  obtain ⟨q3, eq3⟩ : ∃ q, nuQ (pk (a 15) n) 1 (q1 + 1) = q := ⟨_, rfl⟩
  obtain ⟨N3, eN3⟩ : ∃ N', upd N1 1 (nuV (pk (a 15) n) 1 (q1 + 1)) = N' := ⟨_, rfl⟩
  have b3 : q3 ≤ n := by rw [← eq3]; exact nuQ_le 1 g2
  rw [eq3, eN3] at hn3
  rcases Nat.lt_or_ge (nuD (pk (a 15) n) 1 (q1 + 1)) 1 with k3 | k3
  · rw [cN_f k3, eq3, eN3] at hR
    rw [bI_f (show ¬ 1 ≤ nuD (pk (a 15) n) 1 (q1 + 1) by omega)] at hn3
    refine ⟨_, _, hn3, Nat.le_refl _, ?_⟩
    refine ⟨fun _ => ?_, fun c => absurd rfl c⟩
    rw [← hR]
    exact ⟨Or.inl rfl, rfl, rfl⟩
  rw [cN_t k3, eq3, eN3] at hR
  rw [bI_t k3] at hn3
  refine ⟨_, _, hn3, Nat.le_refl _, ?_⟩
  refine ⟨fun c => absurd c (by decide), fun _ => ?_⟩
  by_cases s4 : ¬ (pk (a 15) n) q3 = 44
  · rw [cS_f s4] at hR
    refine ⟨_, _, t_skip0 (d + 1) mb x a f (upd L 4 kd) N3 hL hn (by omega) s4, Nat.le_refl _, ?_⟩
    refine ⟨fun _ => ?_, fun c => absurd rfl c⟩
    rw [← hR]
    exact ⟨Or.inl rfl, rfl, rfl⟩
  have s4 : (pk (a 15) n) q3 = 44 := Classical.not_not.mp s4
  have l4 : q3 < n := tk_lt s4 (by decide)
  have g4 : q3 + 1 ≤ n := l4
  rw [cS_t s4] at hR
  refine ⟨_, _, t_skip1 (d + 1) mb x a f (upd L 4 kd) N3 hL hn (by omega) s4, Nat.le_refl _, ?_⟩
  refine ⟨fun c => absurd c (by decide), fun _ => ?_⟩
  have hn5 := t_num (d + 1) mb x a f (upd L 4 kd) N3 hL hn g4 2 1 2 (by omega) (by omega) (by omega)
  obtain ⟨q5, eq5⟩ : ∃ q, nuQ (pk (a 15) n) 2 (q3 + 1) = q := ⟨_, rfl⟩
  obtain ⟨N5, eN5⟩ : ∃ N', upd N3 2 (nuV (pk (a 15) n) 2 (q3 + 1)) = N' := ⟨_, rfl⟩
  have b5 : q5 ≤ n := by rw [← eq5]; exact nuQ_le 2 g4
  rw [eq5, eN5] at hn5
  rcases Nat.lt_or_ge (nuD (pk (a 15) n) 2 (q3 + 1)) 1 with k5 | k5
  · rw [cN_f k5, eq5, eN5] at hR
    rw [bI_f (show ¬ 1 ≤ nuD (pk (a 15) n) 2 (q3 + 1) by omega)] at hn5
    refine ⟨_, _, hn5, Nat.le_refl _, ?_⟩
    refine ⟨fun _ => ?_, fun c => absurd rfl c⟩
    rw [← hR]
    exact ⟨Or.inl rfl, rfl, rfl⟩
  rw [cN_t k5, eq5, eN5] at hR
  rw [bI_t k5] at hn5
  refine ⟨_, _, hn5, Nat.le_refl _, ?_⟩
  refine ⟨fun c => absurd c (by decide), fun _ => ?_⟩
  by_cases s6 : ¬ (pk (a 15) n) q5 = 44
  · rw [cS_f s6] at hR
    refine ⟨_, _, t_skip0 (d + 1) mb x a f (upd L 4 kd) N5 hL hn (by omega) s6, Nat.le_refl _, ?_⟩
    refine ⟨fun _ => ?_, fun c => absurd rfl c⟩
    rw [← hR]
    exact ⟨Or.inl rfl, rfl, rfl⟩
  have s6 : (pk (a 15) n) q5 = 44 := Classical.not_not.mp s6
  have l6 : q5 < n := tk_lt s6 (by decide)
  have g6 : q5 + 1 ≤ n := l6
  rw [cS_t s6] at hR
  refine ⟨_, _, t_skip1 (d + 1) mb x a f (upd L 4 kd) N5 hL hn (by omega) s6, Nat.le_refl _, ?_⟩
  refine ⟨fun c => absurd c (by decide), fun _ => ?_⟩
  have hn7 := t_num (d + 1) mb x a f (upd L 4 kd) N5 hL hn g6 3 1 2 (by omega) (by omega) (by omega)
  obtain ⟨q7, eq7⟩ : ∃ q, nuQ (pk (a 15) n) 2 (q5 + 1) = q := ⟨_, rfl⟩
  obtain ⟨N7, eN7⟩ : ∃ N', upd N5 3 (nuV (pk (a 15) n) 2 (q5 + 1)) = N' := ⟨_, rfl⟩
  have b7 : q7 ≤ n := by rw [← eq7]; exact nuQ_le 2 g6
  rw [eq7, eN7] at hn7
  rcases Nat.lt_or_ge (nuD (pk (a 15) n) 2 (q5 + 1)) 1 with k7 | k7
  · rw [cN_f k7, eq7, eN7] at hR
    rw [bI_f (show ¬ 1 ≤ nuD (pk (a 15) n) 2 (q5 + 1) by omega)] at hn7
    refine ⟨_, _, hn7, Nat.le_refl _, ?_⟩
    refine ⟨fun _ => ?_, fun c => absurd rfl c⟩
    rw [← hR]
    exact ⟨Or.inl rfl, rfl, rfl⟩
  rw [cN_t k7, eq7, eN7] at hR
  rw [bI_t k7] at hn7
  refine ⟨_, _, hn7, Nat.le_refl _, ?_⟩
  refine ⟨fun c => absurd c (by decide), fun _ => ?_⟩
  refine ⟨fun (c2 : ¬ kd = 1) => ?_, fun (c2 : kd = 1) => ?_⟩
  · rw [if_neg c2] at hR
    rw [← hR]
    exact ⟨Or.inr rfl, rfl, rfl⟩
  rw [if_pos c2] at hR
  have hB := t_ball d mb x a f (upd L 4 kd) N7 hL hn b7
  have ok := (cOK_B (t := a 15) (n := n) (p := q7) (N := N7) (k := cE) b7 (fun _ _ h => cOK_E h)).1
  rw [hR] at hB ok
  refine ⟨_, _, hB, Nat.le_refl _, ?_⟩
  refine ⟨fun c3 => ?_, fun c3 => ?_⟩
  · refine ⟨Or.inl rfl, ?_, rfl⟩
    rw [c3]
  · refine ⟨Or.inr rfl, ?_, rfl⟩
    rw [ok.resolve_left c3]
end TapeS
