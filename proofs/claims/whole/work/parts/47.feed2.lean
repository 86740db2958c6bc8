def fdB (b : Int64) (i : Nat) : Int32 := ((b.toUInt64 >>> ((8 * nI i).toInt64.toUInt64 &&& Int64.toUInt64 63)).toInt64).toInt32 &&& 255
theorem x_feed (g : mG) (A x a : mA) (f : mF) {n k : Nat} (b : Int64) (hk : 1 ≤ k) (hk8 : k ≤ 8) (hn : n + k ≤ 64) (en : x 14 1 = nI n) : ab_Ex 40 0 yX4_feed [vR 13 0, vI (nI k), vL b] (hX (mbl g A) x a f) (some (vI (nI (n + k)))) (hX (mbl g A) (mS x 14 (upd (x 14) 1 (nI (n + k)))) (mS a 15 (fdA (a 15) n (fdB b) k)) f) := by
  refine ab_meth oX4_feed 39 _ _ _ _ (Nat.le_refl _) rfl (fun E => ?_)
  have loop : ∀ (r i : Nat), i + r = k → ab_W jX4_feed 39 E (hX (mbl g A) x a f) 70 (fun v1 h1 => v1 = some (vI (nI (n + k))) ∧ h1 = hX (mbl g A) (mS x 14 (upd (x 14) 1 (nI (n + k)))) (mS a 15 (fdA (a 15) n (fdB b) k)) f) (ab_at iX4_feed 42) [(4, vI (nI i)), (0, vR 13 0), (1, vI (nI k)), (2, vL b)] [] (hX (mbl g A) (mS x 14 (upd (x 14) 1 (nI (n + i)))) (mS a 15 (fdA (a 15) n (fdB b) i)) f) := by
    intro r
    induction r with
    | zero =>
      intro i hi
      refine ab_run [42] 100 oX4_feed.1 (Nat.le_refl _) 42 ?_
      refine ⟨fun c1 => ?_, fun c1 => absurd (nI_le (by omega) (by omega)) c1⟩
      rw [show i = k by omega]
      exact ⟨rfl, rfl⟩
    | succ r ih =>
      intro i hi
      refine ab_run [42] 100 oX4_feed.1 (Nat.le_refl _) 42 ?_
      refine ⟨fun c1 => absurd c1 (nI_lt_m (by omega) (by omega)), fun c1 => ?_⟩
      refine ⟨_, _, t_add _ _ _ _ f (n := n + i) (by omega) rfl _, Nat.le_refl _, ?_⟩
      have := ih (i + 1) (by omega)
      rw [show n + (i + 1) = n + i + 1 from rfl, nI_succ (n + i), nI_succ i] at this
      exact this
  refine ab_run [42] 100 oX4_feed.1 (Nat.le_refl _) 0 ?_
  have k1 : ¬ 8 < nI k := le_nlt (show nI k ≤ nI 8 from nI_le (by omega) (by omega))
  refine ⟨fun c => ?_, fun c => absurd (show nI 1 ≤ nI k from nI_le (by omega) (by omega)) c⟩
  refine ⟨fun c => absurd c k1, fun c => ?_⟩
  refine ⟨fun c => ?_, fun (c : ¬ x 14 1 + nI k ≤ 64) => absurd (by rw [en, nI_add]; exact (show nI (n + k) ≤ nI 64 from nI_le (by omega) (by omega))) c⟩
  have := loop k 0 (by omega)
  rw [show nI (n + 0) = x 14 1 from en.symm] at this
  exact this
