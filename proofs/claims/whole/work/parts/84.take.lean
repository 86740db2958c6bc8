section TakeX
variable (d : Nat) (mb : Nat → AB) (x a : mA) (f : mF) (L N : Nat → Int32) (p : Nat)
set_option maxRecDepth 100000 in
theorem x_addFault8 (h5 : x 25 5 = nI 8) : ab_Ex (d + 2) 0 yX0_addFault [vR 25 0, vR 14 0] (tH mb x a f L N p) (some (vI 0)) (tH mb x a f L N p) := by
  refine ab_meth oX0_addFault (d + 1) _ _ _ _ (Nat.le_refl _) rfl (fun E => ?_)
  refine ab_run [] 100 oX0_addFault.1 (Nat.le_refl _) 0 ?_
  refine ⟨fun _ => ⟨Or.inl rfl, rfl, rfl⟩, fun (z : ¬ 8 ≤ x 25 5) => absurd (by rw [h5]; decide) z⟩
set_option maxRecDepth 100000 in
theorem x_addFault {m : Nat} (hm : m < 8) (h5 : x 25 5 = nI m) : ab_Ex (d + 2) 0 yX0_addFault [vR 25 0, vR 14 0] (tH mb x a f L N p) (some (vI (bI (bcO (bcW (L 4) N))))) (tH mb (if bcO (bcW (L 4) N) then mS x 25 (upd (x 25) 5 (nI (m + 1))) else x) a (fS f 28 m (bcW (L 4) N)) L N p) := by
  have hb : ab_Ex (d + 1) 0 yX1_become [vR 28 m, vR 14 0] (tH mb x a f L N p) (some (vI (bI (bcO (bcW (L 4) N))))) (ab_set (tH mb x a f L N p) 28 m (xFt (bcW (L 4) N))) := f_become d (h := tH mb x a f L N p) (b := 28) (o := m) (v := f 28 m) (l1 := L 1) (l2 := nI p) (l3 := L 3) (l4 := L 4) (N := N) (Nat.le_refl _) rfl (hX_ok28 _ _ _ _ hm) rfl ⟨by decide, by decide, by show 1 + 0 < 70; decide⟩ rfl ⟨by decide, by decide, by show 3 + 0 < 70; decide⟩ rfl (by decide) (by decide)
  unfold tH at hb
  rw [hX_set28] at hb
  have hn : ¬ 8 ≤ x 25 5 := by rw [h5]; exact nI_lt_m (m := 8) hm (by omega)
  have h5' := h5
  by_cases q : bcO (bcW (L 4) N)
  · rw [bI_t q] at hb ⊢
    rw [if_pos q]
    refine ab_meth oX0_addFault (d + 1) _ _ _ _ (Nat.le_refl _) rfl (fun E => ?_)
    refine ab_run [] 100 oX0_addFault.1 (Nat.le_refl _) 0 ?_
    refine ⟨fun (z : 8 ≤ x 25 5) => absurd z hn, fun _ => ?_⟩
    refine ⟨(by rw [h5]; exact vp_in_nI (by omega) (by omega) : vp_in (x 25 5) 8), ⟨(28, m), (by rw [h5, nI_clamp (by omega)]; exact ab_fa_at 28 (by omega) : ab_fa 28 (x 25 5).toNatClampNeg = vR 28 m), ?_⟩⟩
    refine ⟨(⟨by omega, by omega⟩ : m < 8 ∧ 22 + m < 70), ?_⟩
    refine ⟨_, _, hb, Nat.le_refl _, ?_⟩
    refine ⟨fun _ => ?_, fun z => absurd z (show ¬ (1 : Int32) = 0 by decide)⟩
    refine ⟨Or.inr rfl, rfl, ?_⟩
    show hX mb (mS (mS x 14 (upd L 2 (nI p))) 25 (upd (x 25) 5 (x 25 5 + 1))) (mS a 16 N) (fS f 28 m (bcW (L 4) N)) = _
    rw [h5, nI_succ]
    rfl
  · rw [bI_f q] at hb ⊢
    rw [if_neg q]
    refine ab_meth oX0_addFault (d + 1) _ _ _ _ (Nat.le_refl _) rfl (fun E => ?_)
    refine ab_run [] 100 oX0_addFault.1 (Nat.le_refl _) 0 ?_
    refine ⟨fun (z : 8 ≤ x 25 5) => absurd z hn, fun _ => ?_⟩
    refine ⟨(by rw [h5]; exact vp_in_nI (by omega) (by omega) : vp_in (x 25 5) 8), ⟨(28, m), (by rw [h5, nI_clamp (by omega)]; exact ab_fa_at 28 (by omega) : ab_fa 28 (x 25 5).toNatClampNeg = vR 28 m), ?_⟩⟩
    refine ⟨(⟨by omega, by omega⟩ : m < 8 ∧ 22 + m < 70), ?_⟩
    refine ⟨_, _, hb, Nat.le_refl _, ?_⟩
    refine ⟨fun z => absurd rfl z, fun _ => ?_⟩
    exact ⟨Or.inl rfl, rfl, rfl⟩
set_option maxRecDepth 100000 in
theorem x_addCog1 {k : Nat} (hk : k < 5) (h3 : x 25 3 = nI k) {v : Int32} (h10 : 10 ≤ v) (h40 : v ≤ 40) : ab_Ex (d + 1) 0 yX0_addCog [vR 25 0, vI v] (tH mb x a f L N p) (some (vI 1)) (tH mb (mS x 25 (upd (x 25) 3 (nI (k + 1)))) (mS a 26 (upd (a 26) k v)) f L N p) := by
  refine ab_meth oX0_addCog d _ _ _ _ (Nat.le_refl _) rfl (fun E => ?_)
  refine ab_run [] 100 oX0_addCog.1 (Nat.le_refl _) 0 ?_
  refine ⟨fun (z : 5 ≤ x 25 3) => absurd z (by rw [h3]; exact nI_lt_m (m := 5) hk (by omega)), fun _ => ?_⟩
  refine ⟨fun (z : v < 10) => absurd h10 (Int32.not_le.mpr z), fun _ => ?_⟩
  refine ⟨fun _ => ?_, fun (z : ¬ v ≤ 40) => absurd h40 z⟩
  refine ⟨(by rw [h3]; exact vp_in_nI (by omega) (by omega) : vp_in (x 25 3) 5), ?_⟩
  refine ⟨Or.inr rfl, rfl, ?_⟩
  show hX mb (mS (mS x 14 (upd L 2 (nI p))) 25 (upd (x 25) 3 (x 25 3 + 1))) (mS (mS a 16 N) 26 (upd (a 26) (x 25 3).toNatClampNeg v)) f = _
  rw [h3, nI_clamp (by omega), nI_succ]
  rfl
set_option maxRecDepth 100000 in
theorem x_addCog0 {k : Nat} (hk : k ≤ 5) (h3 : x 25 3 = nI k) {v : Int32} (h : ¬ (k < 5 ∧ 10 ≤ v ∧ v ≤ 40)) : ab_Ex (d + 1) 0 yX0_addCog [vR 25 0, vI v] (tH mb x a f L N p) (some (vI 0)) (tH mb x a f L N p) := by
  refine ab_meth oX0_addCog d _ _ _ _ (Nat.le_refl _) rfl (fun E => ?_)
  refine ab_run [] 100 oX0_addCog.1 (Nat.le_refl _) 0 ?_
  refine ⟨fun _ => ⟨Or.inl rfl, rfl, rfl⟩, fun (z : ¬ 5 ≤ x 25 3) => ?_⟩
  have hk' : k < 5 := by
    rcases Nat.lt_or_ge k 5 with q | q
    · exact q
    · exact absurd (by rw [h3, show k = 5 by omega]; decide) z
  refine ⟨fun _ => ⟨Or.inl rfl, rfl, rfl⟩, fun (z1 : ¬ v < 10) => ?_⟩
  refine ⟨fun (z2 : v ≤ 40) => absurd ⟨hk', Int32.not_lt.mp z1, z2⟩ h, fun _ => ⟨Or.inl rfl, rfl, rfl⟩⟩
set_option maxRecDepth 100000 in
theorem x_tkF (h : L 3 = 102) : ab_Ex (d + 3) 0 yX0_takeStatement [vR 25 0, vR 14 0] (tH mb x a f L N p) (some (vI (bI (20 ≤ N 0 ∧ N 0 ≤ 60)))) (tH mb (mS x 25 (upd (x 25) 0 (N 0))) a f L N p) := by
  refine ab_meth oX0_takeStatement (d + 2) _ _ _ _ (Nat.le_refl _) rfl (fun E => ?_)
  refine ab_run [] 100 oX0_takeStatement.1 (Nat.le_refl _) 0 ?_
  refine ⟨vp_d rfl, ?_⟩
  refine ⟨fun _ => ?_, fun (z : ¬ L 3 = 102) => absurd h z⟩
  refine ⟨fun (c : N 0 < 20) => ⟨Or.inl rfl, by rw [bI_f (fun q => Int32.not_lt.mpr q.1 c)], rfl⟩, fun (c : ¬ N 0 < 20) => ?_⟩
  refine ⟨fun (c2 : 60 < N 0) => ⟨Or.inl rfl, by rw [bI_f (fun q => Int32.not_lt.mpr q.2 c2)], rfl⟩, fun (c2 : ¬ 60 < N 0) => ⟨Or.inr rfl, by rw [bI_t ⟨Int32.not_lt.mp c, Int32.not_lt.mp c2⟩], rfl⟩⟩
set_option maxRecDepth 100000 in
theorem x_tkK (h : L 3 = 107) : ab_Ex (d + 3) 0 yX0_takeStatement [vR 25 0, vR 14 0] (tH mb x a f L N p) (some (vI (bI (60 ≤ N 0 ∧ N 0 ≤ 140)))) (tH mb (mS x 25 (upd (x 25) 1 (N 0))) a f L N p) := by
  refine ab_meth oX0_takeStatement (d + 2) _ _ _ _ (Nat.le_refl _) rfl (fun E => ?_)
  refine ab_run [] 100 oX0_takeStatement.1 (Nat.le_refl _) 0 ?_
  refine ⟨vp_d rfl, ?_⟩
  refine ⟨fun (z : L 3 = 102) => absurd (h.symm.trans z) (by decide), fun _ => ?_⟩
  refine ⟨fun _ => ?_, fun (z : ¬ L 3 = 107) => absurd h z⟩
  refine ⟨fun (c : N 0 < 60) => ⟨Or.inl rfl, by rw [bI_f (fun q => Int32.not_lt.mpr q.1 c)], rfl⟩, fun (c : ¬ N 0 < 60) => ?_⟩
  refine ⟨fun (c2 : 140 < N 0) => ⟨Or.inl rfl, by rw [bI_f (fun q => Int32.not_lt.mpr q.2 c2)], rfl⟩, fun (c2 : ¬ 140 < N 0) => ⟨Or.inr rfl, by rw [bI_t ⟨Int32.not_lt.mp c, Int32.not_lt.mp c2⟩], rfl⟩⟩
set_option maxRecDepth 100000 in
theorem x_tkR (h : L 3 = 114) {r : Int32} {x' a' : mA} (hr : r = 0 ∨ r = 1) (hC : ab_Ex (d + 2) 0 yX0_addCog [vR 25 0, vI (N 0)] (tH mb x a f L N p) (some (vI r)) (tH mb x' a' f L N p)) : ab_Ex (d + 3) 0 yX0_takeStatement [vR 25 0, vR 14 0] (tH mb x a f L N p) (some (vI r)) (tH mb x' a' f L N p) := by
  refine ab_meth oX0_takeStatement (d + 2) _ _ _ _ (Nat.le_refl _) rfl (fun E => ?_)
  refine ab_run [] 100 oX0_takeStatement.1 (Nat.le_refl _) 0 ?_
  refine ⟨vp_d rfl, ?_⟩
  refine ⟨fun (z : L 3 = 102) => absurd (h.symm.trans z) (by decide), fun _ => ?_⟩
  refine ⟨fun (z : L 3 = 107) => absurd (h.symm.trans z) (by decide), fun _ => ?_⟩
  refine ⟨fun _ => ?_, fun (z : ¬ L 3 = 114) => absurd h z⟩
  refine ⟨_, _, hC, Nat.le_refl _, ?_⟩
  exact ⟨hr, rfl, rfl⟩
set_option maxRecDepth 100000 in
theorem x_tkQ (h1 : ¬ L 3 = 102) (h2 : ¬ L 3 = 107) (h3 : ¬ L 3 = 114) {r : Int32} {x' : mA} {f' : mF} (hr : r = 0 ∨ r = 1) (hC : ab_Ex (d + 2) 0 yX0_addFault [vR 25 0, vR 14 0] (tH mb x a f L N p) (some (vI r)) (tH mb x' a f' L N p)) : ab_Ex (d + 3) 0 yX0_takeStatement [vR 25 0, vR 14 0] (tH mb x a f L N p) (some (vI r)) (tH mb x' a f' L N p) := by
  refine ab_meth oX0_takeStatement (d + 2) _ _ _ _ (Nat.le_refl _) rfl (fun E => ?_)
  refine ab_run [] 100 oX0_takeStatement.1 (Nat.le_refl _) 0 ?_
  refine ⟨vp_d rfl, ?_⟩
  refine ⟨fun z => absurd z h1, fun _ => ?_⟩
  refine ⟨fun z => absurd z h2, fun _ => ?_⟩
  refine ⟨fun z => absurd z h3, fun _ => ?_⟩
  refine ⟨_, _, hC, Nat.le_refl _, ?_⟩
  exact ⟨hr, rfl, rfl⟩
end TakeX
