-- JUMPING FROM PART TO PART IS STEPPING
theorem lis_fs {ok ck : Nat → Prop} {u R N : Nat} (hu : 1 ≤ u) (huR : u ≤ R) {C : Nat → Prop} (hC : ∀ p, C p → C (p + R)) (hck : ∀ t p, t < N → t * u ≤ p → p < t * u + R → C p → (ck t ↔ (p < (t + 1) * u ∧ ok t))) (r0 : Nat → Int32) :
    ∀ (k t p n : Nat), t + k = N → t * u ≤ p → p < t * u + R → C p → N * u < p + n * R → lisR ok u R (N * u) n p (fsR ck t r0) = fsR ck N r0 := by
  intro k
  induction k with
  | zero =>
    intro t p n ht h1 h2 h3 h4
    have e : t = N := by omega
    subst e
    cases n with
    | zero => rfl
    | succ n => exact if_neg (by omega)
  | succ k ih =>
    intro t p n ht h1 h2 h3 h4
    have e1 : (t + 1) * u = t * u + u := Nat.succ_mul t u
    have hN : (t + 1) * u ≤ N * u := Nat.mul_le_mul (by omega) (Nat.le_refl u)
    have hc := hck t p (by omega) h1 h2 h3
    by_cases hp : p < (t + 1) * u
    · cases n with
      | zero => omega
      | succ n =>
        have e2 : (n + 1) * R = n * R + R := Nat.succ_mul n R
        have hdiv : p / u = t := Nat.div_eq_of_lt_le h1 hp
        have e3 : lisR ok u R (N * u) (n + 1) p (fsR ck t r0) = lisR ok u R (N * u) n (p + R) (fsR ck (t + 1) r0) := by
          have e4 : (@ite _ (ok (p / u)) (Classical.propDecidable _) (clkR (fsR ck t r0) (p / u)) (fsR ck t r0)) = fsR ck (t + 1) r0 := by
            rw [hdiv]
            show _ = @ite _ (ck t) (Classical.propDecidable _) (clkR (fsR ck t r0) t) (fsR ck t r0)
            by_cases ho : ok t
            · rw [if_pos ho, if_pos (hc.mpr ⟨hp, ho⟩)]
            · rw [if_neg ho, if_neg (fun z => ho (hc.mp z).2)]
          show (if p < N * u then _ else _) = _
          rw [if_pos (by omega), e4]
        rw [e3]
        exact ih (t + 1) (p + R) n (by omega) (by omega) (by omega) (hC p h3) (by omega)
    · have e4 : fsR ck (t + 1) r0 = fsR ck t r0 := if_neg (fun z => hp (hc.mp z).1)
      rw [← e4]
      exact ih (t + 1) p n (by omega) (by omega) (by omega) h3 h4
theorem whT_on {act kind up by_ w0 : Int32} {u D w : Nat} (h4 : ¬ act = 4) (h5 : ¬ act = 5) (hup : up.toInt = (u : Int)) (hby : by_.toInt = (D : Int)) (hw : w0.toInt = (w : Int)) (hu : u ≤ 60) (hD1 : 1 ≤ D) (hD : D ≤ 140) (hwl : w < 100 * D) (t : Nat) : (whT act kind up by_ w0 t).toInt = (((w + t * u) % (100 * D) : Nat) : Int) := by
  have eR : (100 * by_).toInt = ((100 * D : Nat) : Int) := by
    rw [ti_mul (show (100 : Int32).toInt = 100 from rfl) hby (by omega) (by omega)]
    omega
  induction t with
  | zero =>
    show w0.toInt = _
    rw [hw, Nat.zero_mul, Nat.add_zero, Nat.mod_eq_of_lt hwl]
  | succ t ih =>
    show (cbW act kind up by_ (whT act kind up by_ w0 t)).toInt = _
    unfold cbW
    rw [if_neg h5, if_neg h4]
    have hm : (w + t * u) % (100 * D) < 100 * D := Nat.mod_lt _ (by omega)
    have e1 := ti_add ih hup (by omega) (by omega)
    rw [ti_rem e1 eR (by omega) (by omega)]
    rw [Int.tmod_eq_emod_of_nonneg (by omega), ← Int.natCast_add, ← Int.natCast_emod]
    rw [Nat.mod_add_mod, show (t + 1) * u = t * u + u from Nat.succ_mul t u, ← Nat.add_assoc]
theorem ahd_eq {place by_ wh : Int32} {c D w u t p : Nat} {pl : Nat} (hpl : place.toInt = (pl : Int)) (hby : by_.toInt = (D : Int)) (hc : c = pl * D) (hpl99 : pl ≤ 99) (hD1 : 1 ≤ D) (hD : D ≤ 140) (hwh : wh.toInt = (((w + t * u) % (100 * D) : Nat) : Int)) (hC : ∃ b : Int, (p : Int) + 1 + w = c + (100 * D : Nat) * b) (h1 : t * u ≤ p) (h2 : p < t * u + 100 * D) : (ahdI place by_ wh).toInt = (p : Int) - (t * u : Nat) + 1 := by
  have eR : (100 * by_).toInt = ((100 * D : Nat) : Int) := by
    rw [ti_mul (show (100 : Int32).toInt = 100 from rfl) hby (by omega) (by omega)]
    omega
  have hc2 : pl * D ≤ 99 * 140 := Nat.mul_le_mul hpl99 hD
  have ec : (place * by_).toInt = (c : Int) := by
    rw [ti_mul hpl hby (by rw [← Int.natCast_mul]; omega) (by rw [← Int.natCast_mul]; omega), hc, Int.natCast_mul]
  have hm : (w + t * u) % (100 * D) < 100 * D := Nat.mod_lt _ (by omega)
  have e1 := ti_sub ec hwh (by omega) (by omega)
  have e2 := ti_add e1 eR (by omega) (by omega)
  have e3 := ti_rem e2 eR (by omega) (by omega)
  obtain ⟨b, hb⟩ := hC
  have hW := Nat.mod_add_div (w + t * u) (100 * D)
  have key : (c : Int) - ((w + t * u) % (100 * D) : Nat) + (100 * D : Nat) = ((p : Int) - (t * u : Nat) + 1) + ((100 * D : Nat) : Int) * ((((w + t * u) / (100 * D) : Nat) : Int) - b + 1) := by
    have hW2 : (((w + t * u) % (100 * D) : Nat) : Int) + ((100 * D : Nat) : Int) * (((w + t * u) / (100 * D) : Nat) : Int) = (w : Int) + (t * u : Nat) := by
      rw [← Int.natCast_mul, ← Int.natCast_add, hW, Int.natCast_add]
    rw [Int.mul_add, Int.mul_sub, Int.mul_one]
    omega
  have e4 : ((c : Int) - ((w + t * u) % (100 * D) : Nat) + (100 * D : Nat)).tmod (100 * D : Nat) = ((p : Int) - (t * u : Nat) + 1) % ((100 * D : Nat) : Int) := by
    rw [Int.tmod_eq_emod_of_nonneg (by omega), key, Int.add_mul_emod_self_left]
  rw [e4] at e3
  unfold ahdI
  by_cases hk : (p : Int) - (t * u : Nat) + 1 = ((100 * D : Nat) : Int)
  · rw [hk, Int.emod_self] at e3
    rw [if_pos ((eq_ti e3 (show (0 : Int32).toInt = 0 from rfl)).mpr rfl), eR, hk]
  · have hlt : (p : Int) - (t * u : Nat) + 1 < ((100 * D : Nat) : Int) := by omega
    rw [Int.emod_eq_of_lt (by omega) hlt] at e3
    rw [if_neg (fun z => by have := (eq_ti e3 (show (0 : Int32).toInt = 0 from rfl)).mp z; omega), e3]
theorem lim_eq {kind load t : Int32} (h1 : 0 ≤ load.toInt) (h2 : load.toInt ≤ 9) (h3 : 0 ≤ t.toInt) (h4 : t.toInt ≤ 100000) : limX kind load t = limI kind load t := by
  have e20 : (t / 20).toInt = t.toInt / 20 := by
    have hd := tdiv_abs (a := t.toInt) (b := 20) (by omega) (by omega) (by omega)
    rw [ti_div rfl (show (20 : Int32).toInt = 20 from rfl) hd.1 hd.2, Int.tdiv_eq_ediv_of_nonneg h3]
  unfold limX limI
  by_cases hk : kind = 6
  · rw [if_pos hk, if_pos hk]
    have es := ti_sub (x := load) (y := t / 20) rfl e20 (by omega) (by omega)
    by_cases hl : t / 20 < load
    · have hl2 := (lt_ti e20 rfl).mp hl
      rw [if_pos hl, if_neg]
      rw [lt_ti es (show (0 : Int32).toInt = 0 from rfl)]
      omega
    · have hl2 : ¬ t.toInt / 20 < load.toInt := fun z => hl ((lt_ti e20 rfl).mpr z)
      rw [if_neg hl]
      by_cases hn : load - t / 20 < 0
      · rw [if_pos hn]
      · rw [if_neg hn]
        have hn2 : ¬ load.toInt - t.toInt / 20 < 0 := fun z => hn ((lt_ti es (show (0 : Int32).toInt = 0 from rfl)).mpr z)
        exact ((eq_ti es (show (0 : Int32).toInt = 0 from rfl)).mpr (by omega)).symm
  · rw [if_neg hk, if_neg hk]
    by_cases hl : (0 : Int32) < load
    · rw [if_pos hl]
      simp
    · rw [if_neg hl]
      have hl2 : ¬ 0 < load.toInt := fun z => hl ((lt_ti (show (0 : Int32).toInt = 0 from rfl) rfl).mpr z)
      exact (eq_ti (show (0 : Int32).toInt = 0 from rfl) rfl).mpr (by omega)
theorem sil_eq {kind t oiled oil shoe : Int32} (hs : shoe = 0 ∨ shoe = 1) : silX kind t oiled oil shoe = silM kind t oiled oil shoe := by
  unfold silX silM bI
  have : (¬ shoe = 0) ↔ shoe = 1 := by
    rcases hs with rfl | rfl <;> decide
  simp only [this]
