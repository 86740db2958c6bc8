def bI (P : Prop) [Decidable P] : Int32 := if P then 1 else 0
theorem bI_t {P : Prop} [Decidable P] (h : P) : bI P = 1 := if_pos h
theorem bI_f {P : Prop} [Decidable P] (h : ¬ P) : bI P = 0 := if_neg h
theorem bI_01 (P : Prop) [Decidable P] : bI P = 0 ∨ bI P = 1 := by
  by_cases h : P
  · exact Or.inr (bI_t h)
  · exact Or.inl (bI_f h)
theorem br_z {P : Prop} [Decidable P] {X Y : Prop} (h1 : ¬ P → X) (h2 : P → Y) : (bI P = 0 → X) ∧ (¬ bI P = 0 → Y) := by
  by_cases h : P
  · rw [bI_t h]
    exact ⟨fun q => absurd q (by decide), fun _ => h2 h⟩
  · rw [bI_f h]
    exact ⟨fun _ => h1 h, fun q => absurd rfl q⟩
theorem br_n {P : Prop} [Decidable P] {X Y : Prop} (h1 : P → X) (h2 : ¬ P → Y) : (¬ bI P = 0 → X) ∧ (bI P = 0 → Y) := by
  obtain ⟨a, b⟩ := br_z h2 h1
  exact ⟨b, a⟩
theorem ex_r {d kd : Nat} {y : MethodName} {a : List AV} {h h' : AH} {r r' : Int32} (hC : ab_Ex d kd y a h (some (vI r)) h') (e : r = r') : ab_Ex d kd y a h (some (vI r')) h' := e ▸ hC
-- pure words, over ints
def limI (kind load t : Int32) : Int32 := if kind = 6 then (if load - t / 20 < 0 then 0 else load - t / 20) else load
def upI (kind up front : Int32) : Int32 := if kind = 1 then up else if kind = 2 ∨ kind = 3 then front else 1
def downI (kind dn links cog : Int32) : Int32 := if kind = 1 then dn else if kind = 2 then links else if kind = 3 then cog else 1
def leftI (step : Int32) : Prop := 15 ≤ step ∧ step ≤ 34
def pushI (step : Int32) : Prop := (15 ≤ step ∧ step ≤ 34) ∨ (65 ≤ step ∧ step ≤ 84)
def loadI (act step hill : Int32) : Int32 :=
  if act = 0 then (if (15 ≤ step ∧ step ≤ 34) ∨ (65 ≤ step ∧ step ≤ 84) then 6 + hill else 2)
  else if act = 1 then (if (15 ≤ step ∧ step ≤ 34) ∨ (65 ≤ step ∧ step ≤ 84) then 8 + hill else 1)
  else if act = 2 then (if (15 ≤ step ∧ step ≤ 34) ∨ (65 ≤ step ∧ step ≤ 84) then 5 + hill else 1)
  else if act = 3 then (if 15 ≤ step ∧ step ≤ 34 then 6 + hill else 2) else 0
def mstI (what : Int32) : Int32 := if what = 0 then 9 else if what = 1 then 1 else if what = 2 then 100 else 99
def withI (v lo hi : Int32) : Int32 := if v < lo then -4 else if hi < v then -6 else 0
def wrongI (c o : Int32) : Int32 := if c < 0 ∨ o < 0 then -4 else if 9999 < c ∨ 9999 < o then -6 else 0
def absI (v : Int32) : Int32 := if v < 0 then -v else v
section ModelLeaf
variable (d : Nat) (g : mG) (A : mA) (xs : List AB)
theorem m_isIn (h : AH) (h70 : h.1 ≤ 70) (v n : Int32) : ab_Ex (d + 1) 1 yX5_isIn [vI v, vI n] h (some (vI (bI (0 ≤ v ∧ v < n)))) h := by
  refine ab_meth oX5_isIn d _ _ _ _ (Nat.le_refl _) rfl (fun E => ?_)
  refine ab_run [] 50 oX5_isIn.1 h70 0 ?_
  refine ⟨fun c1 => ?_, fun c1 => ?_⟩
  · refine ⟨Or.inl rfl, ?_, rfl⟩
    rw [bI_f (fun q => Int32.not_lt.mpr q.1 c1)]
  refine ⟨fun c2 => ?_, fun c2 => ?_⟩
  · refine ⟨Or.inl rfl, ?_, rfl⟩
    rw [bI_f (fun q => Int32.not_lt.mpr c2 q.2)]
  · refine ⟨Or.inr rfl, ?_, rfl⟩
    rw [bI_t ⟨Int32.not_lt.mp c1, Int32.not_le.mp c2⟩]
theorem m_within (h : AH) (h70 : h.1 ≤ 70) (v lo hi : Int32) : ab_Ex (d + 1) 1 yX5_within [vI v, vI lo, vI hi] h (some (vI (withI v lo hi))) h := by
  refine ab_meth oX5_within d _ _ _ _ (Nat.le_refl _) rfl (fun E => ?_)
  refine ab_run [] 50 oX5_within.1 h70 0 ?_
  unfold withI
  refine ⟨fun c1 => ?_, fun c1 => ?_⟩
  · refine ⟨fun c2 => ?_, fun c2 => ?_⟩
    · refine ⟨?_, rfl⟩
      rw [if_neg (Int32.not_lt.mpr c1), if_neg (Int32.not_lt.mpr c2)]
    · refine ⟨?_, rfl⟩
      rw [if_neg (Int32.not_lt.mpr c1), if_pos (Int32.not_le.mp c2)]
  · refine ⟨?_, rfl⟩
    rw [if_pos (Int32.not_le.mp c1)]
theorem m_isFault (v : Int32) : ab_Ex (d + 2) 0 yX5_isFault [vR 0 0, vI v] (hM g A xs) (some (vI (bI (0 ≤ v ∧ v < A 2 3)))) (hM g A xs) := by
  refine ab_meth oX5_isFault (d + 1) _ _ _ _ (Nat.le_refl _) rfl (fun E => ?_)
  refine ab_run [] 50 oX5_isFault.1 (Nat.le_refl _) 0 ?_
  refine ⟨vp_d rfl, ?_⟩
  refine ⟨_, _, m_isIn d _ (Nat.le_refl _) _ _, Nat.le_refl _, ?_⟩
  exact ⟨bI_01 _, rfl, rfl⟩
theorem m_isGear (v : Int32) : ab_Ex (d + 2) 0 yX5_isGear [vR 0 0, vI v] (hM g A xs) (some (vI (bI (0 ≤ v ∧ v < A 2 2)))) (hM g A xs) := by
  refine ab_meth oX5_isGear (d + 1) _ _ _ _ (Nat.le_refl _) rfl (fun E => ?_)
  refine ab_run [] 50 oX5_isGear.1 (Nat.le_refl _) 0 ?_
  refine ⟨vp_d rfl, ?_⟩
  refine ⟨_, _, m_isIn d _ (Nat.le_refl _) _ _, Nat.le_refl _, ?_⟩
  exact ⟨bI_01 _, rfl, rfl⟩
theorem m_isAct (h : AH) (h70 : h.1 ≤ 70) (v : Int32) : ab_Ex (d + 2) 1 yX5_isAct [vI v] h (some (vI (bI (0 ≤ v ∧ v < 6)))) h := by
  refine ab_meth oX5_isAct (d + 1) _ _ _ _ (Nat.le_refl _) rfl (fun E => ?_)
  refine ab_run [] 50 oX5_isAct.1 h70 0 ?_
  refine ⟨_, _, m_isIn d _ h70 _ _, Nat.le_refl _, ?_⟩
  exact ⟨bI_01 _, rfl, rfl⟩
theorem ix_f (i k : Nat) : (16 : Int32) + 9 * nI i + nI k = nI (16 + 9 * i + k) := by
  rw [show (16 : Int32) = nI 16 from rfl, show (9 : Int32) = nI 9 from rfl, pk_mul, nI_add, nI_add]
theorem m_get (i k : Nat) (hi : 16 + 9 * i + k < 112) : ab_Ex (d + 1) 0 yX5_get [vR 0 0, vI (nI i), vI (nI k)] (hM g A xs) (some (vI (A 2 (16 + 9 * i + k)))) (hM g A xs) := by
  refine ab_meth oX5_get d _ _ _ _ (Nat.le_refl _) rfl (fun E => ?_)
  refine ab_run [] 50 oX5_get.1 (Nat.le_refl _) 0 ?_
  refine ⟨by rw [ix_f]; exact vp_in_nI hi (by omega), ?_⟩
  refine ⟨?_, rfl⟩
  rw [ix_f, nI_clamp (by omega)]
theorem m_get0 (i : Nat) (hi : 16 + 9 * i < 112) : ab_Ex (d + 1) 0 yX5_get [vR 0 0, vI (nI i), vI (nI 0)] (hM g A xs) (some (vI (A 2 (16 + 9 * i)))) (hM g A xs) := m_get d g A xs i 0 hi
theorem m_between (h : AH) (h70 : h.1 ≤ 70) (v lo hi : Int32) : ab_Ex (d + 1) 1 yX5_between [vI v, vI lo, vI hi] h (some (vI (bI (lo ≤ v ∧ v ≤ hi)))) h := by
  refine ab_meth oX5_between d _ _ _ _ (Nat.le_refl _) rfl (fun E => ?_)
  refine ab_run [] 50 oX5_between.1 h70 0 ?_
  refine ⟨fun c1 => ?_, fun c1 => ?_⟩
  · refine ⟨Or.inl rfl, ?_, rfl⟩
    rw [bI_f (fun q => Int32.not_lt.mpr q.1 c1)]
  refine ⟨fun c2 => ?_, fun c2 => ?_⟩
  · refine ⟨Or.inl rfl, ?_, rfl⟩
    rw [bI_f (fun q => Int32.not_lt.mpr q.2 c2)]
  · refine ⟨Or.inr rfl, ?_, rfl⟩
    rw [bI_t ⟨Int32.not_lt.mp c1, Int32.not_lt.mp c2⟩]
theorem m_limitOf (i : Nat) (hi : i < 8) (t : Int32) : ab_Ex (d + 2) 0 yX5_limitOf [vR 0 0, vI (nI i), vI t] (hM g A xs) (some (vI (limI (A 2 (16 + 9 * i)) (A 2 (16 + 9 * i + 2)) t))) (hM g A xs) := by
  refine ab_meth oX5_limitOf (d + 1) _ _ _ _ (Nat.le_refl _) rfl (fun E => ?_)
  refine ab_run [] 100 oX5_limitOf.1 (Nat.le_refl _) 0 ?_
  refine ⟨_, _, m_get d g A xs i 2 (by omega), Nat.le_refl _, ?_⟩
  refine ⟨_, _, m_get0 d g A xs i (by omega), Nat.le_refl _, ?_⟩
  unfold limI
  refine ⟨fun c1 => ?_, fun c1 => ?_⟩
  · refine ⟨by decide, ?_⟩
    refine ⟨fun c2 => ?_, fun c2 => ?_⟩
    · refine ⟨?_, rfl⟩
      rw [if_pos c1, if_neg (Int32.not_lt.mpr c2)]
    · refine ⟨?_, rfl⟩
      rw [if_pos c1, if_pos (Int32.not_le.mp c2)]
  · refine ⟨?_, rfl⟩
    rw [if_neg c1]
theorem m_upOf (i : Nat) (hi : i < 8) : ab_Ex (d + 2) 0 yX5_upOf [vR 0 0, vI (nI i)] (hM g A xs) (some (vI (upI (A 2 (16 + 9 * i)) (A 2 (16 + 9 * i + 5)) (A 2 0)))) (hM g A xs) := by
  refine ab_meth oX5_upOf (d + 1) _ _ _ _ (Nat.le_refl _) rfl (fun E => ?_)
  refine ab_run [] 100 oX5_upOf.1 (Nat.le_refl _) 0 ?_
  have g0 := m_get0 d g A xs i (by omega)
  have g5 := m_get d g A xs i 5 (by omega)
  unfold upI
  refine ⟨_, _, g0, Nat.le_refl _, fun c1 => ?_, fun c1 => ?_⟩
  · refine ⟨_, _, g0, Nat.le_refl _, fun c2 => ?_, fun c2 => ?_⟩
    · refine ⟨vp_d rfl, ?_, rfl⟩
      rw [if_neg c1, if_pos (Or.inl c2)]
      rfl
    · refine ⟨_, _, g0, Nat.le_refl _, fun c3 => ?_, fun c3 => ?_⟩
      · refine ⟨?_, rfl⟩
        rw [if_neg c1, if_neg (fun q => q.elim c2 c3)]
      · refine ⟨vp_d rfl, ?_, rfl⟩
        rw [if_neg c1, if_pos (Or.inr c3)]
        rfl
  · refine ⟨_, _, g5, Nat.le_refl _, ?_, rfl⟩
    rw [if_pos c1]
theorem m_downOf (i : Nat) (hi : i < 8) (w : Nat) (hw : w < 5) : ab_Ex (d + 2) 0 yX5_downOf [vR 0 0, vI (nI i), vI (nI w)] (hM g A xs) (some (vI (downI (A 2 (16 + 9 * i)) (A 2 (16 + 9 * i + 6)) (A 2 1) (A 2 (11 + w))))) (hM g A xs) := by
  refine ab_meth oX5_downOf (d + 1) _ _ _ _ (Nat.le_refl _) rfl (fun E => ?_)
  refine ab_run [] 100 oX5_downOf.1 (Nat.le_refl _) 0 ?_
  have g0 := m_get0 d g A xs i (by omega)
  have g6 := m_get d g A xs i 6 (by omega)
  have ew : (11 : Int32) + nI w = nI (11 + w) := nI_add 11 w
  unfold downI
  refine ⟨_, _, g0, Nat.le_refl _, fun c1 => ?_, fun c1 => ?_⟩
  · refine ⟨_, _, g0, Nat.le_refl _, fun c2 => ?_, fun c2 => ?_⟩
    · refine ⟨_, _, g0, Nat.le_refl _, fun c3 => ?_, fun c3 => ?_⟩
      · refine ⟨?_, rfl⟩
        rw [if_neg c1, if_neg c2, if_neg c3]
      · refine ⟨by rw [ew]; exact vp_in_nI (by omega) (by omega), ?_, rfl⟩
        rw [if_neg c1, if_neg c2, if_pos c3, ew, nI_clamp (by omega)]
    · refine ⟨vp_d rfl, ?_, rfl⟩
      rw [if_neg c1, if_pos c2]
      rfl
  · refine ⟨_, _, g6, Nat.le_refl _, ?_, rfl⟩
    rw [if_pos c1]
theorem m_most (h : AH) (h70 : h.1 ≤ 70) (v : Int32) : ab_Ex (d + 1) 1 yX5_most [vI v] h (some (vI (mstI v))) h := by
  refine ab_meth oX5_most d _ _ _ _ (Nat.le_refl _) rfl (fun E => ?_)
  refine ab_run [] 50 oX5_most.1 h70 0 ?_
  unfold mstI
  refine ⟨fun c1 => ?_, fun c1 => ?_⟩
  · refine ⟨fun c2 => ?_, fun c2 => ?_⟩
    · refine ⟨fun c3 => ?_, fun c3 => ?_⟩
      · refine ⟨?_, rfl⟩
        rw [if_neg c1, if_neg c2, if_neg c3]
      · refine ⟨?_, rfl⟩
        rw [if_neg c1, if_neg c2, if_pos c3]
    · refine ⟨?_, rfl⟩
      rw [if_neg c1, if_pos c2]
  · refine ⟨?_, rfl⟩
    rw [if_pos c1]
theorem m_wrongCount (h : AH) (h70 : h.1 ≤ 70) (c o : Int32) : ab_Ex (d + 1) 1 yX5_wrongCount [vI c, vI o] h (some (vI (wrongI c o))) h := by
  refine ab_meth oX5_wrongCount d _ _ _ _ (Nat.le_refl _) rfl (fun E => ?_)
  refine ab_run [] 50 oX5_wrongCount.1 h70 0 ?_
  unfold wrongI
  refine ⟨fun c1 => ?_, fun c1 => ?_⟩
  · refine ⟨?_, rfl⟩
    rw [if_pos (Or.inl c1)]
  refine ⟨fun c2 => ?_, fun c2 => ?_⟩
  · refine ⟨fun c3 => ?_, fun c3 => ?_⟩
    · refine ⟨?_, rfl⟩
      rw [if_neg (fun q => q.elim c1 (Int32.not_lt.mpr c2)), if_pos (Or.inl c3)]
    · refine ⟨fun c4 => ?_, fun c4 => ?_⟩
      · refine ⟨?_, rfl⟩
        rw [if_neg (fun q => q.elim c1 (Int32.not_lt.mpr c2)), if_neg (fun q => q.elim c3 (Int32.not_lt.mpr c4))]
      · refine ⟨?_, rfl⟩
        rw [if_neg (fun q => q.elim c1 (Int32.not_lt.mpr c2)), if_pos (Or.inr (Int32.not_le.mp c4))]
  · refine ⟨?_, rfl⟩
    rw [if_pos (Or.inr (Int32.not_le.mp c2))]
theorem m_amount (h : AH) (h70 : h.1 ≤ 70) (v : Int32) : ab_Ex (d + 1) 1 yX5_amount [vI v] h (some (vI (absI v))) h := by
  refine ab_meth oX5_amount d _ _ _ _ (Nat.le_refl _) rfl (fun E => ?_)
  refine ab_run [] 50 oX5_amount.1 h70 0 ?_
  unfold absI
  refine ⟨fun c1 => ?_, fun c1 => ?_⟩
  · refine ⟨?_, rfl⟩
    rw [if_neg (Int32.not_lt.mpr c1)]
  · refine ⟨?_, rfl⟩
    rw [if_pos (Int32.not_le.mp c1)]
end ModelLeaf
