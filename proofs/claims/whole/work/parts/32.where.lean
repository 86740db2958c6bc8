theorem fsR_5 {ck : Nat → Prop} {r r' : Nat → Int32} (h : r 5 = r' 5) (t : Nat) : fsR ck t r 5 = fsR ck t r' 5 := by
  induction t with
  | zero => exact h
  | succ t ih =>
    unfold fsR
    by_cases hc : ck t
    · rw [if_pos hc, if_pos hc, clkR_5, clkR_5, ih]
    · rw [if_neg hc, if_neg hc]
      exact ih
theorem whT_back {kind up by_ w0 : Int32} {u D w : Nat} (hk : kind = 0 ∨ kind = 5 ∨ kind = 6 ∨ kind = 7) (hup : up.toInt = (u : Int)) (hby : by_.toInt = (D : Int)) (hw : w0.toInt = (w : Int)) (hu : u ≤ 60) (hD1 : 1 ≤ D) (hD : D ≤ 140) (hwl : w < 100 * D) (t : Nat) : (whT 4 kind up by_ w0 t).toInt = ((w : Int) - (t * u : Nat)) % ((100 * D : Nat) : Int) := by
  have eR : (100 * by_).toInt = ((100 * D : Nat) : Int) := by
    rw [ti_mul (show (100 : Int32).toInt = 100 from rfl) hby (by omega) (by omega)]
    omega
  induction t with
  | zero =>
    show w0.toInt = _
    rw [hw, Nat.zero_mul, Int.emod_eq_of_lt (by omega) (by omega)]
    omega
  | succ t ih =>
    show (cbW 4 kind up by_ (whT 4 kind up by_ w0 t)).toInt = _
    unfold cbW
    rw [if_neg (by decide), if_pos rfl, if_pos hk]
    have h1 := Int.emod_nonneg ((w : Int) - (t * u : Nat)) (show ((100 * D : Nat) : Int) ≠ 0 by omega)
    have h2 := Int.emod_lt_of_pos ((w : Int) - (t * u : Nat)) (show (0 : Int) < ((100 * D : Nat) : Int) by omega)
    have e1 := ti_add ih eR (by omega) (by omega)
    have e2 := ti_sub e1 hup (by omega) (by omega)
    rw [ti_rem e2 eR (by omega) (by omega), Int.tmod_eq_emod_of_nonneg (by omega)]
    have h3 := Int.emod_add_mul_ediv ((w : Int) - (t * u : Nat)) ((100 * D : Nat) : Int)
    have e3 : ((w : Int) - ((t + 1) * u : Nat)) = ((w : Int) - (t * u : Nat)) % ((100 * D : Nat) : Int) + ((100 * D : Nat) : Int) - u + ((100 * D : Nat) : Int) * (((w : Int) - (t * u : Nat)) / ((100 * D : Nat) : Int) - 1) := by
      have i2 : (t + 1) * u = t * u + u := Nat.succ_mul t u
      rw [Int.mul_sub, Int.mul_one]
      omega
    rw [e3, Int.add_mul_emod_self_left]
theorem whT_still {act kind up by_ w0 : Int32} (h : act = 5 ∨ (act = 4 ∧ ¬ (kind = 0 ∨ kind = 5 ∨ kind = 6 ∨ kind = 7))) (t : Nat) : whT act kind up by_ w0 t = w0 := by
  induction t with
  | zero => rfl
  | succ t ih =>
    show cbW act kind up by_ (whT act kind up by_ w0 t) = w0
    rw [ih]
    unfold cbW
    rcases h with h | h
    · rw [if_pos h]
    · rw [if_neg (by rw [h.1]; decide), if_pos h.1, if_neg h.2]
theorem psW_eq {act kind up by_ w0 : Int32} {T : Nat} {w : Nat → Int32} (h0 : w 0 = kind) (h7 : w 7 = w0) (h8 : w 8 = by_) (hk1 : 0 ≤ kind.toInt) (hk2 : kind.toInt ≤ 7) (hu1 : 1 ≤ up.toInt) (hu2 : up.toInt ≤ 60) (hb1 : 1 ≤ by_.toInt) (hb2 : by_.toInt ≤ 140) (hw1 : 0 ≤ w0.toInt) (hw2 : w0.toInt < 100 * by_.toInt) (hT : T ≤ 60) (ha1 : 0 ≤ act.toInt) (ha2 : act.toInt ≤ 5) : psW act T up w 7 = whT act kind up by_ w0 (100 * T) ∧ 0 ≤ (psW act T up w 7).toInt ∧ (psW act T up w 7).toInt < 100 * by_.toInt := by
  have eR : (100 * by_).toInt = 100 * by_.toInt := ti_mul (show (100 : Int32).toInt = 100 from rfl) rfl (by omega) (by omega)
  have eT : (nI T).toInt = (T : Int) := nI_toInt (by omega)
  have m7 := ti_clamp (x := w0) hw1
  have m8 := ti_clamp (x := by_) (by omega)
  have mu := ti_clamp (x := up) (by omega)
  generalize hW : w0.toNatClampNeg = W at m7
  generalize hD : by_.toNatClampNeg = D at m8
  generalize hU : up.toNatClampNeg = u at mu
  have huT : T * u ≤ 60 * 60 := Nat.mul_le_mul hT (by omega)
  have e0 : psW act T up w 7 = wrapI (w0 + paceI act up kind * 100 * nI T) (100 * by_) := by
    show wrapI (w 7 + paceI act up (w 0) * 100 * nI T) (100 * w 8) = _
    rw [h0, h7, h8]
  have hcomm : 100 * T * u = T * u * 100 := by
    rw [Nat.mul_comm 100 T, Nat.mul_assoc, Nat.mul_comm 100 u, ← Nat.mul_assoc]
  have hbnd : ∀ v : Int, (psW act T up w 7).toInt = v % (100 * by_.toInt) → 0 ≤ (psW act T up w 7).toInt ∧ (psW act T up w 7).toInt < 100 * by_.toInt := by
    intro v hv
    rw [hv]
    exact ⟨Int.emod_nonneg _ (by omega), Int.emod_lt_of_pos _ (by omega)⟩
  have hRD : 100 * by_.toInt = ((100 * D : Nat) : Int) := by omega
  by_cases hlt : act < 4
  · have h4i := (lt_ti (x := act) rfl (show (4 : Int32).toInt = 4 from rfl)).mp hlt
    have na4 : ¬ act = 4 := fun z => by rw [z] at h4i; exact absurd h4i (by decide)
    have na5 : ¬ act = 5 := fun z => by rw [z] at h4i; exact absurd h4i (by decide)
    have ep : paceI act up kind = up := if_pos hlt
    have e1 : (up * 100).toInt = (u : Int) * 100 := ti_mul mu.symm (show (100 : Int32).toInt = 100 from rfl) (by omega) (by omega)
    have e2 : (up * 100 * nI T).toInt = ((T * u * 100 : Nat) : Int) := by
      have e3 : (u : Int) * 100 * (T : Int) = ((T * u * 100 : Nat) : Int) := by
        rw [Int.natCast_mul, Int.natCast_mul, Int.mul_comm ((u : Int) * 100) T, Int.mul_assoc]
        rfl
      rw [ti_mul e1 eT (by rw [e3]; omega) (by rw [e3]; omega), e3]
    have e4 := ti_add m7.symm e2 (by omega) (by omega)
    have e5 : (psW act T up w 7).toInt = ((W : Int) + ((T * u * 100 : Nat) : Int)) % (100 * by_.toInt) := by
      rw [e0, ep]
      exact ti_wrap e4 eR (by omega) (by omega) (by omega) (by omega)
    refine ⟨?_, hbnd _ e5⟩
    apply Int32.toInt_inj.mp
    rw [e5, whT_on na4 na5 mu.symm m8.symm m7.symm (by omega) (by omega) (by omega) (by omega) (100 * T), hcomm, hRD, ← Int.natCast_add, ← Int.natCast_emod]
  · have h4i : ¬ act.toInt < 4 := fun z => hlt ((lt_ti rfl (show (4 : Int32).toInt = 4 from rfl)).mpr z)
    have hz : paceI act up kind = 0 → psW act T up w 7 = w0 := by
      intro hp
      rw [e0, hp]
      have e1 : (w0 + 0 * 100 * nI T).toInt = (W : Int) := by
        have : (0 : Int32) * 100 * nI T = 0 := by simp
        rw [this]
        simp
        exact m7.symm
      have e5 := ti_wrap e1 eR (by omega) (by omega) (by omega) (by omega)
      apply Int32.toInt_inj.mp
      rw [e5, Int.emod_eq_of_lt (by omega) (by omega)]
      exact m7
    by_cases h4 : act = 4
    · by_cases hk : kind = 0 ∨ kind = 5 ∨ kind = 6 ∨ kind = 7
      · have hk4 : ¬ kind = 1 ∧ ¬ kind = 2 ∧ ¬ kind = 3 ∧ ¬ kind = 4 := by
          rcases hk with rfl | rfl | rfl | rfl <;> decide
        have ep : paceI act up kind = -up := by
          unfold paceI
          rw [if_neg hlt, if_pos ⟨h4, hk4⟩]
        have en : (-up).toInt = -(u : Int) := ti_neg mu.symm (by omega)
        have e1 : (-up * 100).toInt = -(u : Int) * 100 := ti_mul en (show (100 : Int32).toInt = 100 from rfl) (by omega) (by omega)
        have e2 : (-up * 100 * nI T).toInt = -((T * u * 100 : Nat) : Int) := by
          have e3 : -(u : Int) * 100 * (T : Int) = -((T * u * 100 : Nat) : Int) := by
            rw [Int.natCast_mul, Int.natCast_mul, Int.neg_mul, Int.neg_mul, Int.mul_comm ((u : Int) * 100) T, Int.mul_assoc]
            rfl
          rw [ti_mul e1 eT (by rw [e3]; omega) (by rw [e3]; omega), e3]
        have e4 := ti_add m7.symm e2 (by omega) (by omega)
        have e5 : (psW act T up w 7).toInt = ((W : Int) + -((T * u * 100 : Nat) : Int)) % (100 * by_.toInt) := by
          rw [e0, ep]
          exact ti_wrap e4 eR (by omega) (by omega) (by omega) (by omega)
        refine ⟨?_, hbnd _ e5⟩
        apply Int32.toInt_inj.mp
        rw [e5, h4, whT_back hk mu.symm m8.symm m7.symm (by omega) (by omega) (by omega) (by omega) (100 * T), hcomm, hRD]
        rfl
      · have hk4 : ¬ (¬ kind = 1 ∧ ¬ kind = 2 ∧ ¬ kind = 3 ∧ ¬ kind = 4) := by
          intro z
          have hki : kind.toInt = 0 ∨ kind.toInt = 1 ∨ kind.toInt = 2 ∨ kind.toInt = 3 ∨ kind.toInt = 4 ∨ kind.toInt = 5 ∨ kind.toInt = 6 ∨ kind.toInt = 7 := by omega
          rcases hki with q | q | q | q | q | q | q | q
          · exact hk (Or.inl (Int32.toInt_inj.mp q))
          · exact z.1 (Int32.toInt_inj.mp q)
          · exact z.2.1 (Int32.toInt_inj.mp q)
          · exact z.2.2.1 (Int32.toInt_inj.mp q)
          · exact z.2.2.2 (Int32.toInt_inj.mp q)
          · exact hk (Or.inr (Or.inl (Int32.toInt_inj.mp q)))
          · exact hk (Or.inr (Or.inr (Or.inl (Int32.toInt_inj.mp q))))
          · exact hk (Or.inr (Or.inr (Or.inr (Int32.toInt_inj.mp q))))
        have hp : paceI act up kind = 0 := by
          unfold paceI
          rw [if_neg hlt, if_neg (fun z => hk4 z.2)]
        rw [hz hp, whT_still (Or.inr ⟨h4, hk⟩)]
        exact ⟨rfl, hw1, hw2⟩
    · have h5 : act = 5 := Int32.toInt_inj.mp (show act.toInt = 5 by
        have : ¬ act.toInt = 4 := fun z => h4 (Int32.toInt_inj.mp z)
        omega)
      have hp : paceI act up kind = 0 := by
        unfold paceI
        rw [if_neg hlt, if_neg (fun z => h4 z.1)]
      rw [hz hp, whT_still (Or.inl h5)]
      exact ⟨rfl, hw1, hw2⟩
