theorem vp_d {i : Int32} {n : Nat} (h : (decide (i < 0) || Nat.ble n i.toNatClampNeg) = false) : vp_in i n := by
  intro q
  rw [Bool.or_eq_false_iff] at h
  rcases q with q | q
  · exact absurd q (of_decide_eq_false h.1)
  · rw [Nat.ble_eq_true_of_le q] at h
    exact absurd h.2 (by decide)
def mG0 : mG := fun _ => 0
def mA0 : mA := fun k => if k = 2 then upd (upd (upd (upd (fun _ => 0) 0 44) 1 108) 6 (-9)) 10 30 else fun _ => 0
def hM0 (xs : List AB) : AH := (58, (fun _ => .inl (5, ab_dfl 5)) :: ab_nil :: ab_nil :: ab_nil :: ab_nil :: ab_nil :: ab_nil :: ab_nil :: ab_nil :: ab_nil :: ab_nil :: ab_nil :: ab_nil :: xs)
set_option maxRecDepth 100000 in
theorem m_init (d : Nat) (xs : List AB) : ab_Ex (d + 1) 2 yX5_init [vR 0 0] (hM0 xs) none (hM mG0 mA0 xs) := by
  refine ab_meth oX5_init d _ _ _ _ (Nat.le_of_ble_eq_true rfl) rfl (fun E => ?_)
  refine ab_run [] 200 oX5_init.1 (Nat.le_refl _) 0 ?_
  refine ⟨⟨by decide, rfl⟩, ?_⟩
  refine ⟨⟨by decide, rfl⟩, ?_⟩
  refine ⟨⟨by decide, rfl⟩, ?_⟩
  refine ⟨⟨by decide, rfl⟩, ?_⟩
  refine ⟨⟨by decide, rfl⟩, ?_⟩
  refine ⟨⟨by decide, rfl⟩, ?_⟩
  refine ⟨⟨by decide, rfl⟩, ?_⟩
  refine ⟨⟨by decide, rfl⟩, ?_⟩
  refine ⟨⟨by decide, rfl⟩, ?_⟩
  refine ⟨⟨by decide, rfl⟩, ?_⟩
  refine ⟨⟨by decide, rfl⟩, ?_⟩
  refine ⟨⟨by decide, rfl⟩, ?_⟩
  refine ⟨vp_d rfl, ?_⟩
  refine ⟨vp_d rfl, ?_⟩
  refine ⟨vp_d rfl, ?_⟩
  refine ⟨vp_d rfl, ?_⟩
  exact ⟨rfl, rfl⟩
theorem ab_chk_in {h : AH} {b o : Nat} {P : Prop} (hk : ab_ok h b o) (hP : P) : ab_chk h b o P := by
  obtain ⟨h1, h2, h3⟩ := hk
  unfold ab_chk
  unfold ab_ct at h2
  unfold ab_st at h3
  split
  · rename_i he
    rw [he] at h2
    exact absurd h2 (by omega)
  · rename_i s he
    rw [he] at h2 h3
    have e0 : o = 0 := by omega
    subst e0
    have e1 : Nat.blt s h.1 = true := Nat.ble_eq_true_of_le h3
    rw [e1]
    exact hP
  · rename_i s n n0 n1 he
    rw [he] at h2 h3
    exact ⟨⟨h2, h3⟩, hP⟩
theorem ab_wr_in {h : AH} {b o : Nat} {c : AC} {k : AH → Prop} (hk : k (ab_set h b o c)) : ab_wr h b o c k := by
  unfold ab_wr
  rw [ab_lset_eq]
  exact hk
theorem ab_set_set {h : AH} {b o : Nat} (c c' : AC) (hl : h.2.length = 49) (hb : b < 49) : ab_set (ab_set h b o c) b o c' = ab_set h b o c' := by
  unfold ab_set
  dsimp only
  rw [List.set_set]
  congr 2
  rw [List.getD_eq_getElem?_getD, List.getElem?_set_self (by omega)]
  simp only [Option.getD_some]
  unfold ab_upd
  split
  · rfl
  · funext q
    by_cases hq : q = o <;> simp [hq]
theorem ab_get_self {h : AH} {b o : Nat} (c : AC) (hl : h.2.length = 49) (hk : ab_ok h b o) : ab_get (ab_set h b o c) b o = c := by
  rw [ab_get_set c hl hk.1 hk.2.1 hk.2.1]
  simp
set_option maxRecDepth 100000 in
theorem f_init (d : Nat) (h : AH) (h70 : h.1 ≤ 70) (hl : h.2.length = 49) (b o : Nat) (hk : ab_ok h b o) (hg : ab_get h b o = .inl (1, ab_dfl 1)) : ab_Ex (d + 1) 2 yX1_init [vR b o] h none (ab_set h b o (.inl (1, [vI 0, vI 0, vI 0, vI 0, vI 0, vI 1, vI 1, vI 0, vI 1]))) := by
  refine ab_meth oX1_init d _ _ _ _ (Nat.le_refl _) rfl (fun E => ?_)
  refine ab_run [] 50 oX1_init.1 h70 0 ?_
  refine ab_chk_in hk ?_
  dsimp only
  rw [hg]
  refine ab_wr_in ?_
  refine ab_chk_in hk ?_
  dsimp only
  rw [ab_get_self _ hl hk]
  refine ab_wr_in ?_
  refine ab_chk_in hk ?_
  dsimp only
  rw [ab_set_set _ _ hl hk.1, ab_get_self _ hl hk]
  refine ab_wr_in ?_
  refine ⟨rfl, ?_⟩
  rw [ab_set_set _ _ hl hk.1]
