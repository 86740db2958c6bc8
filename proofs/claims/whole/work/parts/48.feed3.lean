theorem m_feed (g : mG) (A : mA) (xs : List AB) {n k : Nat} (b : Int64) (hk : 1 ≤ k) (hk8 : k ≤ 8) (hn : n + k ≤ 64) (en : g 7 = nI n) : ab_Ex 40 0 yX5_feed [vR 0 0, vI (nI k), vL b] (hM g A xs) (some (vI (nI (n + k)))) (hM (upd g 7 (nI (n + k))) (mS A 5 (fdA (A 5) n (fdB b) k)) xs) := by
  refine ab_meth oX5_feed 39 _ _ _ _ (Nat.le_refl _) rfl (fun E => ?_)
  have loop : ∀ (r i : Nat), i + r = k → ab_W jX5_feed 39 E (hM g A xs) 70 (fun v1 h1 => v1 = some (vI (nI (n + k))) ∧ h1 = hM (upd g 7 (nI (n + k))) (mS A 5 (fdA (A 5) n (fdB b) k)) xs) (ab_at iX5_feed 39) [(4, vI (nI i)), (0, vR 0 0), (1, vI (nI k)), (2, vL b)] [] (hM (upd g 7 (nI (n + i))) (mS A 5 (fdA (A 5) n (fdB b) i)) xs) := by
    intro r
    induction r with
    | zero =>
      intro i hi
      refine ab_run [39] 100 oX5_feed.1 (Nat.le_refl _) 39 ?_
      refine ⟨fun c1 => ?_, fun c1 => absurd (nI_le (by omega) (by omega)) c1⟩
      rw [show i = k by omega]
      exact ⟨rfl, rfl⟩
    | succ r ih =>
      intro i hi
      refine ab_run [39] 100 oX5_feed.1 (Nat.le_refl _) 39 ?_
      refine ⟨fun c1 => absurd c1 (nI_lt_m (by omega) (by omega)), fun c1 => ?_⟩
      refine ⟨(vp_in_nI (by omega) (by omega) : vp_in (nI (n + i)) 64), ?_⟩
      have := ih (i + 1) (by omega)
      rw [show fdA (A 5) n (fdB b) (i + 1) = upd (fdA (A 5) n (fdB b) i) (nI (n + i)).toNatClampNeg (((b >>> ((8 * nI i).toInt64 &&& 63)) &&& 255).toInt32) by rw [← by_eq b i (by omega), nI_clamp (by omega)]; rfl] at this
      rw [show n + (i + 1) = n + i + 1 from rfl, nI_succ (n + i), nI_succ i] at this
      exact this
  refine ab_run [39] 100 oX5_feed.1 (Nat.le_refl _) 0 ?_
  have k1 : ¬ 8 < nI k := le_nlt (show nI k ≤ nI 8 from nI_le (by omega) (by omega))
  refine ⟨fun c => ?_, fun c => absurd (show nI 1 ≤ nI k from nI_le (by omega) (by omega)) c⟩
  refine ⟨fun c => absurd c k1, fun c => ?_⟩
  refine ⟨fun c => ?_, fun (c : ¬ g 7 + nI k ≤ 64) => absurd (by rw [en, nI_add]; exact (show nI (n + k) ≤ nI 64 from nI_le (by omega) (by omega))) c⟩
  have := loop k 0 (by omega)
  rw [show nI (n + 0) = g 7 from en.symm] at this
  exact this
