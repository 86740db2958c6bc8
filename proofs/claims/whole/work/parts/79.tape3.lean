/-- the letter and the kind behind a statement -/
def stL (P : Nat → Int32) (L : Nat → Int32) (p : Nat) : Nat → Int32 := if P p = 113 then upd (upd L 3 (P p)) 4 (kinI (P (p + 1)) (-1)) else upd L 3 (P p)
section TapeT
variable (d : Nat) (mb : Nat → AB) (x a : mA) (f : mF) (L N : Nat → Int32) {n : Nat}
set_option maxRecDepth 100000 in
theorem t_statement (hL : L 1 = nI n) (hn : n ≤ 64) {p : Nat} (b0 : p ≤ n) : ab_Ex (d + 5) 0 yX3_readStatement [vR 14 0] (tH mb x a f L N p) (some (vI (stmR (pk (a 15) n) p N).1)) (tH mb x a f (stL (pk (a 15) n) L p) (stmR (pk (a 15) n) p N).2.2 (stmR (pk (a 15) n) p N).2.1) := by
  obtain ⟨R, hR⟩ : ∃ R : CR, stmR (pk (a 15) n) p N = R := ⟨_, rfl⟩
  rw [hR]
  unfold stmR at hR
  unfold stL
  have hpk := t_peek (d + 3) mb x a f L N hL hn (p := p) (by omega)
  have hlt := fun (c : Int32) (h : (pk (a 15) n) p = c) (hc : ¬ c = -1) => tk_lt h hc
  have h113 : (pk (a 15) n) p = 113 → ab_Ex (d + 4) 0 yX3_readFault [vR 14 0] (tH mb x a f (upd L 3 ((pk (a 15) n) p)) N (p + 1)) (some (vI (fltR (pk (a 15) n) (p + 1) N).1)) (tH mb x a f (upd (upd L 3 ((pk (a 15) n) p)) 4 (kinI ((pk (a 15) n) (p + 1)) (-1))) (fltR (pk (a 15) n) (p + 1) N).2.2 (fltR (pk (a 15) n) (p + 1) N).2.1) := fun h => t_fault d mb x a f (upd L 3 ((pk (a 15) n) p)) N hL hn (hlt _ h (by decide))
  have ok : (pk (a 15) n) p = 113 → cOK n (fltR (pk (a 15) n) (p + 1) N) := fun h => cOK_fR (hlt _ h (by decide))
  have hnum : p < n → ab_Ex (d + 4) 0 yX3_readNumber [vR 14 0, vI 0, vI 1, vI 3] (tH mb x a f (upd L 3 ((pk (a 15) n) p)) N (p + 1)) (some (vI (bI (1 ≤ nuD (pk (a 15) n) 3 (p + 1))))) (tH mb x a f (upd L 3 ((pk (a 15) n) p)) (upd N 0 (nuV (pk (a 15) n) 3 (p + 1))) (nuQ (pk (a 15) n) 3 (p + 1))) := fun h => t_num (d + 2) mb x a f (upd L 3 ((pk (a 15) n) p)) N hL hn h 0 1 3 (by omega) (by omega) (by omega)
  have hqn : p < n → nuQ (pk (a 15) n) 3 (p + 1) ≤ n := fun h => nuQ_le 3 h
  have sk1 := fun (L' N' : Nat → Int32) (h1 : L' 1 = nI n) (q : Nat) (hq : q ≤ n) (h : (pk (a 15) n) q = 59) => t_skip1 (d + 2) mb x a f L' N' h1 hn (p := q) (by omega) h
  have sk0 := fun (L' N' : Nat → Int32) (h1 : L' 1 = nI n) (q : Nat) (hq : q ≤ n) (h : ¬ (pk (a 15) n) q = 59) => t_skip0 (d + 2) mb x a f L' N' h1 hn (p := q) (by omega) h
  generalize fltR (pk (a 15) n) (p + 1) N = F at hR h113 ok
  refine ab_meth oX3_readStatement (d + 4) _ _ _ _ (Nat.le_refl _) rfl (fun E => ?_)
  have K78 : ¬ (pk (a 15) n) p = 113 → ((pk (a 15) n) p = 102 ∨ (pk (a 15) n) p = 107 ∨ (pk (a 15) n) p = 114) → ab_W jX3_readStatement (d + 4) E (tH mb x a f L N p) 70 (fun v1 h1 => v1 = some (vI R.1) ∧ h1 = tH mb x a f (upd L 3 ((pk (a 15) n) p)) R.2.2 R.2.1) (ab_at iX3_readStatement 78) [(0, vR 14 0)] [] (tH mb x a f (upd L 3 ((pk (a 15) n) p)) N p) := by
    intro h1 h2
    have hp : p < n := by
      rcases h2 with z | z | z
      · exact hlt _ z (by decide)
      · exact hlt _ z (by decide)
      · exact hlt _ z (by decide)
    rw [if_neg h1, if_pos h2] at hR
    have hnum := hnum hp
    have hqn := hqn hp
    unfold tH at hnum
    rw [nI_succ p] at hnum
    refine ab_run [] 100 oX3_readStatement.1 (Nat.le_refl _) 78 ?_
    rcases Nat.lt_or_ge (nuD (pk (a 15) n) 3 (p + 1)) 1 with k | k
    · rw [cN_f k] at hR
      rw [bI_f (show ¬ 1 ≤ nuD (pk (a 15) n) 3 (p + 1) by omega)] at hnum
      refine ⟨_, _, hnum, Nat.le_refl _, ?_⟩
      refine ⟨fun _ => ?_, fun c => absurd rfl c⟩
      rw [← hR]
      exact ⟨Or.inl rfl, rfl, rfl⟩
    rw [cN_t k] at hR
    rw [bI_t k] at hnum
    generalize nuQ (pk (a 15) n) 3 (p + 1) = q at hR hnum hqn
    generalize upd N 0 (nuV (pk (a 15) n) 3 (p + 1)) = N1 at hR hnum
    refine ⟨_, _, hnum, Nat.le_refl _, ?_⟩
    refine ⟨fun c => absurd c (by decide), fun _ => ?_⟩
    by_cases s : (pk (a 15) n) q = 59
    · rw [cS_t s] at hR
      refine ⟨_, _, sk1 (upd L 3 ((pk (a 15) n) p)) N1 hL q hqn s, Nat.le_refl _, ?_⟩
      refine ⟨fun c => absurd c (by decide), fun _ => ?_⟩
      rw [← hR]
      exact ⟨Or.inr rfl, rfl, rfl⟩
    · rw [cS_f s] at hR
      refine ⟨_, _, sk0 (upd L 3 ((pk (a 15) n) p)) N1 hL q hqn s, Nat.le_refl _, ?_⟩
      refine ⟨fun _ => ?_, fun c => absurd rfl c⟩
      rw [← hR]
      exact ⟨Or.inl rfl, rfl, rfl⟩
  refine ab_run [78] 100 oX3_readStatement.1 (Nat.le_refl _) 0 ?_
  refine ⟨_, _, hpk, Nat.le_refl _, ?_⟩
  refine ⟨fun (c1 : ¬ (pk (a 15) n) p = 113) => ?_, fun (c1 : (pk (a 15) n) p = 113) => ?_⟩
  · rw [if_neg c1]
    refine ⟨fun (c2 : (pk (a 15) n) p = 102) => K78 c1 (Or.inl c2), fun (c2 : ¬ (pk (a 15) n) p = 102) => ?_⟩
    refine ⟨fun (c3 : (pk (a 15) n) p = 107) => K78 c1 (Or.inr (Or.inl c3)), fun (c3 : ¬ (pk (a 15) n) p = 107) => ?_⟩
    refine ⟨fun (c4 : (pk (a 15) n) p = 114) => K78 c1 (Or.inr (Or.inr c4)), fun (c4 : ¬ (pk (a 15) n) p = 114) => ?_⟩
    rw [if_neg c1, if_neg (fun z => z.elim c2 (fun z => z.elim c3 c4))] at hR
    rw [← hR]
    exact ⟨Or.inl rfl, rfl, rfl⟩
  · have hF := h113 c1
    have hok := ok c1
    rw [if_pos c1] at hR ⊢
    unfold tH at hF
    rw [nI_succ p] at hF
    refine ⟨_, _, hF, Nat.le_refl _, ?_⟩
    refine ⟨fun c2 => ?_, fun c2 => ?_⟩
    · rw [if_pos c2] at hR
      rw [← hR]
      refine ⟨Or.inl rfl, ?_, rfl⟩
      rw [c2]
    · rw [if_neg c2] at hR
      by_cases s : (pk (a 15) n) F.2.1 = 59
      · rw [cS_t s] at hR
        refine ⟨_, _, sk1 (upd (upd L 3 ((pk (a 15) n) p)) 4 (kinI ((pk (a 15) n) (p + 1)) (-1))) F.2.2 hL F.2.1 hok.2 s, Nat.le_refl _, ?_⟩
        refine ⟨fun c => absurd c (by decide), fun _ => ?_⟩
        rw [← hR]
        exact ⟨Or.inr rfl, rfl, rfl⟩
      · rw [cS_f s] at hR
        refine ⟨_, _, sk0 (upd (upd L 3 ((pk (a 15) n) p)) 4 (kinI ((pk (a 15) n) (p + 1)) (-1))) F.2.2 hL F.2.1 hok.2 s, Nat.le_refl _, ?_⟩
        refine ⟨fun _ => ?_, fun c => absurd rfl c⟩
        rw [← hR]
        exact ⟨Or.inl rfl, rfl, rfl⟩
end TapeT
-- THE MODEL READS
def mH (g : mG) (A : mA) (xs : List AB) (T : Nat → Int32) (p : Nat) : AH := hM (upd g 8 (nI p)) (mS A 6 T) xs
section TapeM
variable (d : Nat) (g : mG) (A : mA) (xs : List AB) (T : Nat → Int32) {n : Nat}
set_option maxRecDepth 100000 in
theorem m_sign (hg : g 7 = nI n) (hn : n ≤ 64) {p : Nat} (hp : p ≤ 64) : ab_Ex (d + 1) 0 yX5_sign [vR 0 0] (mH g A xs T p) (some (vI ((pk (A 5) n) p))) (mH g A xs T p) := by
  refine ab_meth oX5_sign d _ _ _ _ (Nat.le_refl _) rfl (fun E => ?_)
  refine ab_run [] 100 oX5_sign.1 (Nat.le_refl _) 0 ?_
  refine ⟨fun (c : nI p < g 7) => ?_, fun (c : ¬ nI p < g 7) => ?_⟩
  · rw [hg] at c
    have c := (nI_ltI (by omega) (by omega)).mp c
    refine ⟨(vp_in_nI (by omega) (by omega) : vp_in (nI p) 64), ?_, rfl⟩
    show some (vI (A 5 (nI p).toNatClampNeg)) = _
    rw [nI_clamp (by omega), show (pk (A 5) n) p = A 5 p from if_pos c]
  · rw [hg] at c
    have c : ¬ p < n := fun z => c (nI_lt z (by omega))
    rw [show (pk (A 5) n) p = -1 from if_neg c]
    exact ⟨rfl, rfl⟩
set_option maxRecDepth 100000 in
theorem m_take1 (hg : g 7 = nI n) (hn : n ≤ 64) {p : Nat} (hp : p ≤ 64) {c : Int32} (h : (pk (A 5) n) p = c) : ab_Ex (d + 2) 0 yX5_takes [vR 0 0, vI c] (mH g A xs T p) (some (vI 1)) (mH g A xs T (p + 1)) := by
  refine ab_meth oX5_takes (d + 1) _ _ _ _ (Nat.le_refl _) rfl (fun E => ?_)
  refine ab_run [] 100 oX5_takes.1 (Nat.le_refl _) 0 ?_
  refine ⟨_, _, m_sign d g A xs T hg hn hp, Nat.le_refl _, ?_⟩
  refine ⟨fun _ => ?_, fun c1 => absurd h c1⟩
  refine ⟨Or.inr rfl, rfl, ?_⟩
  unfold mH
  rw [nI_succ]
  rfl
set_option maxRecDepth 100000 in
theorem m_take0 (hg : g 7 = nI n) (hn : n ≤ 64) {p : Nat} (hp : p ≤ 64) {c : Int32} (h : ¬ (pk (A 5) n) p = c) : ab_Ex (d + 2) 0 yX5_takes [vR 0 0, vI c] (mH g A xs T p) (some (vI 0)) (mH g A xs T p) := by
  refine ab_meth oX5_takes (d + 1) _ _ _ _ (Nat.le_refl _) rfl (fun E => ?_)
  refine ab_run [] 100 oX5_takes.1 (Nat.le_refl _) 0 ?_
  refine ⟨_, _, m_sign d g A xs T hg hn hp, Nat.le_refl _, ?_⟩
  exact ⟨fun c1 => absurd c1 h, fun _ => ⟨Or.inl rfl, rfl, rfl⟩⟩
set_option maxRecDepth 100000 in
theorem m_num (hg : g 7 = nI n) (hn : n ≤ 64) {p : Nat} (hp : p ≤ n) (s l m : Nat) (hs : s < 7) (hl : l ≤ 3) (hm : m ≤ 3) : ab_Ex (d + 2) 0 yX5_readsNumber [vR 0 0, vI (nI s), vI (nI l), vI (nI m)] (mH g A xs T p) (some (vI (bI (l ≤ nuD (pk (A 5) n) m p)))) (mH g A xs (upd T s (nuV (pk (A 5) n) m p)) (nuQ (pk (A 5) n) m p)) := by
  refine ab_meth oX5_readsNumber (d + 1) _ _ _ _ (Nat.le_refl _) rfl (fun E => ?_)
  obtain ⟨R, hR⟩ : ∃ R : Int32 × Nat × Nat, rnN (pk (A 5) n) m p 0 0 = R := ⟨_, rfl⟩
  have e1 : nuV (pk (A 5) n) m p = R.1 := by rw [← hR]; rfl
  have e2 : nuQ (pk (A 5) n) m p = R.2.1 := by rw [← hR]; rfl
  have e3 : nuD (pk (A 5) n) m p = R.2.2 := by rw [← hR]; rfl
  rw [e1, e2, e3]
  have tail : ∀ (q dg : Nat) (v : Int32), (v, q, dg) = R → dg ≤ 3 → ab_W jX5_readsNumber (d + 1) E (mH g A xs T p) 70 (fun v1 h1 => v1 = some (vI (bI (l ≤ R.2.2))) ∧ h1 = mH g A xs (upd T s R.1) R.2.1) (ab_at iX5_readsNumber 73) [(4, vI (nI dg)), (0, vR 0 0), (1, vI (nI s)), (2, vI (nI l)), (3, vI (nI m))] [] (mH g A xs (upd T s v) q) := by
    intro q dg v hv hdg
    rw [← hv]
    refine ab_run [10] 100 oX5_readsNumber.1 (Nat.le_refl _) 73 ?_
    refine ⟨fun c => ?_, fun c => ?_⟩
    · have c := (nI_ltI (by omega) (by omega)).mp c
      refine ⟨Or.inl rfl, ?_, rfl⟩
      exact bI_fs (show ¬ l ≤ dg by omega)
    · have c : l ≤ dg := Nat.le_of_not_lt (fun z => c (nI_lt z (by omega)))
      refine ⟨Or.inr rfl, ?_, rfl⟩
      exact bI_ts c
  have loop : ∀ (k q dg : Nat) (v : Int32), dg + k = m → q ≤ n → rnN (pk (A 5) n) k q v dg = R → ab_W jX5_readsNumber (d + 1) E (mH g A xs T p) 70 (fun v1 h1 => v1 = some (vI (bI (l ≤ R.2.2))) ∧ h1 = mH g A xs (upd T s R.1) R.2.1) (ab_at iX5_readsNumber 10) [(4, vI (nI dg)), (0, vR 0 0), (1, vI (nI s)), (2, vI (nI l)), (3, vI (nI m))] [] (mH g A xs (upd T s v) q) := by
    intro k
    induction k with
    | zero =>
      intro q dg v hk hq hr
      refine ab_run [10, 73] 100 oX5_readsNumber.1 (Nat.le_refl _) 10 ?_
      refine ⟨fun _ => ?_, fun c => absurd (nI_le (by omega) (by omega)) c⟩
      exact tail q dg v hr (by omega)
    | succ k ih =>
      intro q dg v hk hq hr
      have hpk := m_sign d g A xs (upd T s v) hg hn (p := q) (by omega)
      unfold rnN at hr
      refine ab_run [10, 73] 100 oX5_readsNumber.1 (Nat.le_refl _) 10 ?_
      refine ⟨fun c => absurd c (nI_ge (by omega) (by omega)), fun _ => ?_⟩
      refine ⟨_, _, hpk, Nat.le_refl _, ?_⟩
      refine ⟨fun c1 => ?_, fun c1 => ?_⟩
      · rw [if_neg (fun z => le_nlt z.1 c1)] at hr
        exact tail q dg v hr (by omega)
      refine ⟨_, _, hpk, Nat.le_refl _, ?_⟩
      refine ⟨fun c2 => ?_, fun c2 => ?_⟩
      · rw [if_neg (fun z => le_nlt z.2 c2)] at hr
        exact tail q dg v hr (by omega)
      rw [if_pos ⟨nlt_le c1, nlt_le c2⟩] at hr
      refine ⟨(vp_in_nI (by omega) (by omega) : vp_in (nI s) 7), ?_⟩
      rw [nI_clamp (by omega)]
      refine ⟨_, _, hpk, Nat.le_refl _, ?_⟩
      refine ⟨(vp_in_nI (by omega) (by omega) : vp_in (nI s) 7), ?_⟩
      rw [nI_clamp (by omega)]
      have hqn : q < n := tk_lt (c := (pk (A 5) n) q) rfl (fun z => by rw [z] at c1; exact c1 (by decide))
      have h9 := ih (q + 1) (dg + 1) _ (by omega) hqn hr
      have e : upd (upd T s v) s (10 * upd T s v s + (pk (A 5) n) q - 48) = upd T s (v * 10 + (pk (A 5) n) q - 48) := by rw [upd_at, upd_u, Int32.mul_comm]
      rw [← e] at h9
      unfold mH at h9
      rw [nI_succ q, nI_succ dg] at h9
      exact h9
  refine ab_run [10, 73] 100 oX5_readsNumber.1 (Nat.le_refl _) 0 ?_
  refine ⟨(vp_in_nI (by omega) (by omega) : vp_in (nI s) 7), ?_⟩
  rw [nI_clamp (by omega)]
  exact loop m p 0 0 (by omega) hp hR
set_option maxRecDepth 100000 in
theorem m_kindOf (h : AH) (h70 : h.1 ≤ 70) (c : Int32) : ab_Ex (d + 1) 1 yX5_kindOf [vI c] h (some (vI (kinI c (-9)))) h := by
  refine ab_meth oX5_kindOf d _ _ _ _ (Nat.le_refl _) rfl (fun E => ?_)
  refine ab_run [] 100 oX5_kindOf.1 h70 0 ?_
  unfold kinI
  refine ⟨fun q => by subst q; exact ⟨rfl, rfl⟩, fun h98 => ?_⟩
  refine ⟨fun q => by subst q; exact ⟨rfl, rfl⟩, fun h99 => ?_⟩
  refine ⟨fun q => by subst q; exact ⟨rfl, rfl⟩, fun h100 => ?_⟩
  refine ⟨fun q => by subst q; exact ⟨rfl, rfl⟩, fun h101 => ?_⟩
  refine ⟨fun q => by subst q; exact ⟨rfl, rfl⟩, fun h102 => ?_⟩
  refine ⟨fun q => by subst q; exact ⟨rfl, rfl⟩, fun h103 => ?_⟩
  refine ⟨fun q => by subst q; exact ⟨rfl, rfl⟩, fun h104 => ?_⟩
  refine ⟨fun q => by subst q; exact ⟨rfl, rfl⟩, fun h105 => ?_⟩
  refine ⟨fun q => by subst q; exact ⟨rfl, rfl⟩, fun h106 => ?_⟩
  refine ⟨fun q => by subst q; exact ⟨rfl, rfl⟩, fun h107 => ?_⟩
  refine ⟨fun q => by subst q; exact ⟨rfl, rfl⟩, fun h108 => ?_⟩
  refine ⟨fun q => by subst q; exact ⟨rfl, rfl⟩, fun h109 => ?_⟩
  refine ⟨fun q => by subst q; exact ⟨rfl, rfl⟩, fun h110 => ?_⟩
  refine ⟨fun q => by subst q; exact ⟨rfl, rfl⟩, fun h111 => ?_⟩
  refine ⟨fun q => by subst q; exact ⟨rfl, rfl⟩, fun h112 => ?_⟩
  refine ⟨fun q => by subst q; exact ⟨rfl, rfl⟩, fun h113 => ?_⟩
  refine ⟨fun q => by subst q; exact ⟨rfl, rfl⟩, fun h114 => ?_⟩
  refine ⟨fun q => by subst q; exact ⟨rfl, rfl⟩, fun h115 => ?_⟩
  refine ⟨fun q => by subst q; exact ⟨rfl, rfl⟩, fun h116 => ?_⟩
  rw [if_neg h98, if_neg h99, if_neg h100, if_neg h108, if_neg h111, if_neg h112, if_neg h115, if_neg h116]
  exact ⟨rfl, rfl⟩
end TapeM
