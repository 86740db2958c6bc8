-- THE TAPE IS READ: P p is the byte at the place p, -1 behind the end
def pk (t : Nat → Int32) (n p : Nat) : Int32 := if p < n then t p else -1
theorem tk_lt {t : Nat → Int32} {n p : Nat} {c : Int32} (h : pk t n p = c) (hc : ¬ c = -1) : p < n := by
  unfold pk at h
  by_cases q : p < n
  · exact q
  · rw [if_neg q] at h
    exact absurd h.symm hc
def rnN (P : Nat → Int32) : Nat → Nat → Int32 → Nat → Int32 × Nat × Nat
  | 0, p, v, d => (v, p, d)
  | k + 1, p, v, d => if 48 ≤ P p ∧ P p ≤ 57 then rnN P k (p + 1) (v * 10 + P p - 48) (d + 1) else (v, p, d)
def nuV (P : Nat → Int32) (m p : Nat) : Int32 := (rnN P m p 0 0).1
def nuQ (P : Nat → Int32) (m p : Nat) : Nat := (rnN P m p 0 0).2.1
def nuD (P : Nat → Int32) (m p : Nat) : Nat := (rnN P m p 0 0).2.2
theorem rn_le {t : Nat → Int32} {n : Nat} : ∀ (k p : Nat) (v : Int32) (d : Nat), p ≤ n → p ≤ (rnN (pk t n) k p v d).2.1 ∧ (rnN (pk t n) k p v d).2.1 ≤ n := by
  intro k
  induction k with
  | zero => intro p v d h; exact ⟨Nat.le_refl _, h⟩
  | succ k ih =>
    intro p v d h
    unfold rnN
    by_cases c : 48 ≤ pk t n p ∧ pk t n p ≤ 57
    · rw [if_pos c]
      have hp : p < n := tk_lt (c := pk t n p) rfl (fun q => by rw [q] at c; exact absurd c.1 (by decide))
      have := ih (p + 1) (v * 10 + pk t n p - 48) (d + 1) hp
      exact ⟨by omega, this.2⟩
    · rw [if_neg c]
      exact ⟨Nat.le_refl _, h⟩
theorem nuQ_le {t : Nat → Int32} {n p : Nat} (m : Nat) (h : p ≤ n) : nuQ (pk t n) m p ≤ n := (rn_le m p 0 0 h).2
theorem nuQ_ge {t : Nat → Int32} {n p : Nat} (m : Nat) (h : p ≤ n) : p ≤ nuQ (pk t n) m p := (rn_le m p 0 0 h).1
theorem rn_val (P : Nat → Int32) : ∀ (k p a d : Nat), a < 10 ^ d → d + k ≤ 3 → ∃ b : Nat, (rnN P k p (nI a) d).1 = nI b ∧ b < 10 ^ (d + k) := by
  intro k
  induction k with
  | zero => intro p a d h _; exact ⟨a, rfl, h⟩
  | succ k ih =>
    intro p a d h hd
    have h3 : (10 : Nat) ^ d ≤ 1000 := by
      have := Nat.pow_le_pow_right (n := 10) (by omega) (show d ≤ 3 by omega)
      exact this
    unfold rnN
    by_cases c : 48 ≤ P p ∧ P p ≤ 57
    · rw [if_pos c]
      obtain ⟨e, he, e2⟩ : ∃ e : Nat, e ≤ 57 ∧ P p = nI e := nI_of2 (M := 57) (n := 57) rfl (fun q => by
        have z := Int32.lt_iff_toInt_lt.mp q
        have y := Int32.le_iff_toInt_le.mp c.1
        have z0 : (0 : Int32).toInt = 0 := rfl
        have z48 : (48 : Int32).toInt = 48 := rfl
        omega) c.2
      have he2 : 48 ≤ e := by
        have y := Int32.le_iff_toInt_le.mp c.1
        rw [e2, nI_toInt (by omega)] at y
        have z48 : (48 : Int32).toInt = 48 := rfl
        omega
      have hv : nI a * 10 + P p - 48 = nI (a * 10 + (e - 48)) := by
        rw [e2, show (10 : Int32) = nI 10 from rfl, pk_mul, nI_add, show (48 : Int32) = nI 48 from rfl, pk_sub (by omega)]
        congr 1
        omega
      rw [hv]
      have hp : a * 10 + (e - 48) < 10 ^ (d + 1) := by
        rw [Nat.pow_succ]
        omega
      obtain ⟨b, h1, h2⟩ := ih (p + 1) (a * 10 + (e - 48)) (d + 1) hp (by omega)
      exact ⟨b, h1, by rw [show d + (k + 1) = d + 1 + k by omega]; exact h2⟩
    · rw [if_neg c]
      refine ⟨a, rfl, ?_⟩
      have := Nat.pow_le_pow_right (n := 10) (by omega) (show d ≤ d + (k + 1) by omega)
      omega
theorem nuV_rng (P : Nat → Int32) {m : Nat} (p : Nat) (hm : m ≤ 3) : 0 ≤ (nuV P m p).toInt ∧ (nuV P m p).toInt < 10 ^ m := by
  obtain ⟨b, h1, h2⟩ := rn_val P m p 0 0 (by decide) (by omega)
  have h3 : (10 : Nat) ^ m ≤ 1000 := Nat.pow_le_pow_right (n := 10) (by omega) hm
  have e : nuV P m p = nI b := h1
  rw [Nat.zero_add] at h2
  rw [e, nI_toInt (by omega)]
  refine ⟨by omega, ?_⟩
  have : ((10 : Int) ^ m) = ((10 ^ m : Nat) : Int) := by simp
  rw [this]
  exact Int.ofNat_lt.mpr h2
def kinI (c : Int32) (no : Int32) : Int32 := if c = 98 then 1 else if c = 99 then 6 else if c = 100 then 5 else if c = 108 then 2 else if c = 111 then 4 else if c = 112 then 0 else if c = 115 then 7 else if c = 116 then 3 else no
def tH (mb : Nat → AB) (x a : mA) (f : mF) (L N : Nat → Int32) (p : Nat) : AH := hX mb (mS x 14 (upd L 2 (nI p))) (mS a 16 N) f
section TapeC
variable (d : Nat) (mb : Nat → AB) (x a : mA) (f : mF) (L N : Nat → Int32) {n : Nat}
set_option maxRecDepth 100000 in
theorem t_peek (hL : L 1 = nI n) (hn : n ≤ 64) {p : Nat} (hp : p ≤ 64) : ab_Ex (d + 1) 0 yX3_peek [vR 14 0] (tH mb x a f L N p) (some (vI (pk (a 15) n p))) (tH mb x a f L N p) := by
  refine ab_meth oX3_peek d _ _ _ _ (Nat.le_refl _) rfl (fun E => ?_)
  refine ab_run [] 100 oX3_peek.1 (Nat.le_refl _) 0 ?_
  refine ⟨fun (c : nI p < 0) => absurd c (nI_pos (by omega)), fun _ => ?_⟩
  refine ⟨fun (c : L 1 ≤ nI p) => ?_, fun (c : ¬ L 1 ≤ nI p) => ?_⟩
  · rw [hL] at c
    have c := (nI_leI (by omega) (by omega)).mp c
    rw [show pk (a 15) n p = -1 from if_neg (by omega)]
    exact ⟨rfl, rfl⟩
  · rw [hL] at c
    have c : p < n := Nat.lt_of_not_le (fun z => c (nI_le z (by omega)))
    refine ⟨fun (c1 : (64 : Int32) < L 1) => ?_, fun _ => ?_⟩
    · rw [hL] at c1
      exact absurd c1 (show ¬ nI 64 < nI n from nI_nlt (by omega) (by omega))
    refine ⟨(vp_in_nI (by omega) (by omega) : vp_in (nI p) 64), ?_⟩
    refine ⟨?_, rfl⟩
    show some (vI (a 15 (nI p).toNatClampNeg)) = some (vI (pk (a 15) n p))
    rw [nI_clamp (by omega), show pk (a 15) n p = a 15 p from if_pos c]
set_option maxRecDepth 100000 in
theorem t_skip1 (hL : L 1 = nI n) (hn : n ≤ 64) {p : Nat} (hp : p ≤ 64) {c : Int32} (h : pk (a 15) n p = c) : ab_Ex (d + 2) 0 yX3_skip [vR 14 0, vI c] (tH mb x a f L N p) (some (vI 1)) (tH mb x a f L N (p + 1)) := by
  refine ab_meth oX3_skip (d + 1) _ _ _ _ (Nat.le_refl _) rfl (fun E => ?_)
  refine ab_run [] 100 oX3_skip.1 (Nat.le_refl _) 0 ?_
  refine ⟨_, _, t_peek d mb x a f L N hL hn hp, Nat.le_refl _, ?_⟩
  refine ⟨fun _ => ?_, fun c1 => absurd h c1⟩
  refine ⟨Or.inr rfl, rfl, ?_⟩
  unfold tH
  rw [nI_succ]
  rfl
set_option maxRecDepth 100000 in
theorem t_skip0 (hL : L 1 = nI n) (hn : n ≤ 64) {p : Nat} (hp : p ≤ 64) {c : Int32} (h : ¬ pk (a 15) n p = c) : ab_Ex (d + 2) 0 yX3_skip [vR 14 0, vI c] (tH mb x a f L N p) (some (vI 0)) (tH mb x a f L N p) := by
  refine ab_meth oX3_skip (d + 1) _ _ _ _ (Nat.le_refl _) rfl (fun E => ?_)
  refine ab_run [] 100 oX3_skip.1 (Nat.le_refl _) 0 ?_
  refine ⟨_, _, t_peek d mb x a f L N hL hn hp, Nat.le_refl _, ?_⟩
  refine ⟨fun c1 => absurd c1 h, fun c1 => ?_⟩
  exact ⟨Or.inl rfl, rfl, rfl⟩
set_option maxRecDepth 100000 in
theorem t_num (hL : L 1 = nI n) (hn : n ≤ 64) {p : Nat} (hp : p ≤ n) (s l m : Nat) (hs : s < 6) (hl : l ≤ 3) (hm : m ≤ 3) : ab_Ex (d + 2) 0 yX3_readNumber [vR 14 0, vI (nI s), vI (nI l), vI (nI m)] (tH mb x a f L N p) (some (vI (bI (l ≤ nuD (pk (a 15) n) m p)))) (tH mb x a f L (upd N s (nuV (pk (a 15) n) m p)) (nuQ (pk (a 15) n) m p)) := by
  refine ab_meth oX3_readNumber (d + 1) _ _ _ _ (Nat.le_refl _) rfl (fun E => ?_)
  obtain ⟨R, hR⟩ : ∃ R : Int32 × Nat × Nat, rnN (pk (a 15) n) m p 0 0 = R := ⟨_, rfl⟩
  have e1 : nuV (pk (a 15) n) m p = R.1 := by rw [← hR]; rfl
  have e2 : nuQ (pk (a 15) n) m p = R.2.1 := by rw [← hR]; rfl
  have e3 : nuD (pk (a 15) n) m p = R.2.2 := by rw [← hR]; rfl
  rw [e1, e2, e3]
  have tail : ∀ (q dg : Nat) (v : Int32), (v, q, dg) = R → dg ≤ 3 → ab_W jX3_readNumber (d + 1) E (tH mb x a f L N p) 70 (fun v1 h1 => v1 = some (vI (bI (l ≤ R.2.2))) ∧ h1 = tH mb x a f L (upd N s R.1) R.2.1) (ab_at iX3_readNumber 61) [(5, vI (nI dg)), (4, vI v), (0, vR 14 0), (1, vI (nI s)), (2, vI (nI l)), (3, vI (nI m))] [] (tH mb x a f L N q) := by
    intro q dg v hv hdg
    rw [← hv]
    refine ab_run [6] 100 oX3_readNumber.1 (Nat.le_refl _) 61 ?_
    refine ⟨(vp_in_nI (by omega) (by omega) : vp_in (nI s) 6), ?_⟩
    rw [nI_clamp (by omega)]
    refine ⟨fun c => ?_, fun c => ?_⟩
    · have c := (nI_ltI (by omega) (by omega)).mp c
      refine ⟨Or.inl rfl, ?_, rfl⟩
      exact bI_fs (show ¬ l ≤ dg by omega)
    · have c : l ≤ dg := Nat.le_of_not_lt (fun z => c (nI_lt z (by omega)))
      refine ⟨Or.inr rfl, ?_, rfl⟩
      exact bI_ts c
  have loop : ∀ (k q dg : Nat) (v : Int32), dg + k = m → q ≤ n → rnN (pk (a 15) n) k q v dg = R → ab_W jX3_readNumber (d + 1) E (tH mb x a f L N p) 70 (fun v1 h1 => v1 = some (vI (bI (l ≤ R.2.2))) ∧ h1 = tH mb x a f L (upd N s R.1) R.2.1) (ab_at iX3_readNumber 6) [(5, vI (nI dg)), (4, vI v), (0, vR 14 0), (1, vI (nI s)), (2, vI (nI l)), (3, vI (nI m))] [] (tH mb x a f L N q) := by
    intro k
    induction k with
    | zero =>
      intro q dg v hk hq hr
      refine ab_run [6, 61] 100 oX3_readNumber.1 (Nat.le_refl _) 6 ?_
      refine ⟨fun _ => ?_, fun c => absurd (nI_le (by omega) (by omega)) c⟩
      exact tail q dg v hr (by omega)
    | succ k ih =>
      intro q dg v hk hq hr
      have hpk := t_peek d mb x a f L N hL hn (p := q) (by omega)
      unfold rnN at hr
      refine ab_run [6, 61] 100 oX3_readNumber.1 (Nat.le_refl _) 6 ?_
      refine ⟨fun c => absurd c (nI_ge (by omega) (by omega)), fun _ => ?_⟩
      refine ⟨_, _, hpk, Nat.le_refl _, ?_⟩
      refine ⟨fun c1 => ?_, fun c1 => ?_⟩
      · rw [if_neg (fun z => le_nlt z.1 c1)] at hr
        exact tail q dg v hr (by omega)
      refine ⟨_, _, hpk, Nat.le_refl _, ?_⟩
      refine ⟨fun c2 => ?_, fun c2 => ?_⟩
      · rw [if_neg (fun z => le_nlt z.2 c2)] at hr
        exact tail q dg v hr (by omega)
      rw [if_pos ⟨nlt_le c1, nlt_le c2⟩] at hr
      refine ⟨_, _, hpk, Nat.le_refl _, ?_⟩
      have hqn : q < n := tk_lt (c := pk (a 15) n q) rfl (fun z => by rw [z] at c1; exact c1 (by decide))
      have h9 := ih (q + 1) (dg + 1) _ (by omega) hqn hr
      unfold tH at h9
      rw [nI_succ q, nI_succ dg] at h9
      exact h9
  refine ab_run [6, 61] 100 oX3_readNumber.1 (Nat.le_refl _) 0 ?_
  exact loop m p 0 0 (by omega) hp hR
set_option maxRecDepth 100000 in
theorem x_kindOf (h : AH) (h70 : h.1 ≤ 70) (c : Int32) : ab_Ex (d + 1) 1 yX3_kindOf [vI c] h (some (vI (kinI c (-1)))) h := by
  refine ab_meth oX3_kindOf d _ _ _ _ (Nat.le_refl _) rfl (fun E => ?_)
  refine ab_run [] 100 oX3_kindOf.1 h70 0 ?_
  unfold kinI
  refine ⟨fun q => by subst q; exact ⟨rfl, rfl⟩, fun h98 => ?_⟩
  refine ⟨fun q => by subst q; exact ⟨rfl, rfl⟩, fun h99 => ?_⟩
  refine ⟨fun q => by subst q; exact ⟨rfl, rfl⟩, fun h100 => ?_⟩
  refine ⟨fun q => by subst q; exact ⟨rfl, rfl⟩, fun h101 => ?_⟩
  refine ⟨fun q => by subst q; exact ⟨rfl, rfl⟩, fun h102 => ?_⟩
  refine ⟨fun q => by subst q; exact ⟨rfl, rfl⟩, fun h103 => ?_⟩
  refine ⟨fun q => by subst q; exact ⟨rfl, rfl⟩, fun h104 => ?_⟩
  refine ⟨fun q => by subst q; exact ⟨rfl, rfl⟩, fun h105 => ?_⟩
  refine ⟨fun q => by subst q; exact ⟨rfl, rfl⟩, fun h106 => ?_⟩
  refine ⟨fun q => by subst q; exact ⟨rfl, rfl⟩, fun h107 => ?_⟩
  refine ⟨fun q => by subst q; exact ⟨rfl, rfl⟩, fun h108 => ?_⟩
  refine ⟨fun q => by subst q; exact ⟨rfl, rfl⟩, fun h109 => ?_⟩
  refine ⟨fun q => by subst q; exact ⟨rfl, rfl⟩, fun h110 => ?_⟩
  refine ⟨fun q => by subst q; exact ⟨rfl, rfl⟩, fun h111 => ?_⟩
  refine ⟨fun q => by subst q; exact ⟨rfl, rfl⟩, fun h112 => ?_⟩
  refine ⟨fun q => by subst q; exact ⟨rfl, rfl⟩, fun h113 => ?_⟩
  refine ⟨fun q => by subst q; exact ⟨rfl, rfl⟩, fun h114 => ?_⟩
  refine ⟨fun q => by subst q; exact ⟨rfl, rfl⟩, fun h115 => ?_⟩
  refine ⟨fun q => by subst q; exact ⟨rfl, rfl⟩, fun h116 => ?_⟩
  rw [if_neg h98, if_neg h99, if_neg h100, if_neg h108, if_neg h111, if_neg h112, if_neg h115, if_neg h116]
  exact ⟨rfl, rfl⟩
end TapeC
