theorem ti_add {x y : Int32} {a b : Int} (hx : x.toInt = a) (hy : y.toInt = b) (h1 : -2147483648 ≤ a + b) (h2 : a + b ≤ 2147483647) : (x + y).toInt = a + b := by
  rw [Int32.toInt_add, hx, hy]
  apply Int.bmod_eq_of_le <;> omega
theorem ti_sub {x y : Int32} {a b : Int} (hx : x.toInt = a) (hy : y.toInt = b) (h1 : -2147483648 ≤ a - b) (h2 : a - b ≤ 2147483647) : (x - y).toInt = a - b := by
  rw [Int32.toInt_sub, hx, hy]
  apply Int.bmod_eq_of_le <;> omega
theorem ti_mul {x y : Int32} {a b : Int} (hx : x.toInt = a) (hy : y.toInt = b) (h1 : -2147483648 ≤ a * b) (h2 : a * b ≤ 2147483647) : (x * y).toInt = a * b := by
  rw [Int32.toInt_mul, hx, hy]
  apply Int.bmod_eq_of_le <;> omega
theorem ti_neg {x : Int32} {a : Int} (hx : x.toInt = a) (h1 : -2147483647 ≤ a) : (-x).toInt = -a := by
  have h2 := x.toInt_lt
  rw [Int32.toInt_neg, hx]
  apply Int.bmod_eq_of_le <;> omega
theorem ti_div {x y : Int32} {a b : Int} (hx : x.toInt = a) (hy : y.toInt = b) (h1 : -2147483648 ≤ a.tdiv b) (h2 : a.tdiv b ≤ 2147483647) : (x / y).toInt = a.tdiv b := by
  rw [Int32.toInt_div, hx, hy]
  apply Int.bmod_eq_of_le <;> omega
theorem tdiv_abs {a b : Int} (h1 : -2147483647 ≤ a) (h2 : a ≤ 2147483647) (hb : 0 < b) : -2147483648 ≤ a.tdiv b ∧ a.tdiv b ≤ 2147483647 := by
  have h := Int.natAbs_tdiv a b
  have h3 : (a.tdiv b).natAbs ≤ a.natAbs := by
    rw [h]
    exact Nat.div_le_self _ _
  omega
theorem ti_rem {x y : Int32} {a b : Int} (hx : x.toInt = a) (hy : y.toInt = b) (h1 : -2147483647 ≤ a) (hb : 0 < b) : (ab_rem x y).toInt = a.tmod b := by
  have h2 : a ≤ 2147483647 := by
    have := x.toInt_lt
    omega
  have hd := tdiv_abs h1 h2 hb
  have e1 := ti_div hx hy hd.1 hd.2
  have e3 := Int.mul_tdiv_add_tmod a b
  have e5 : (a.tmod b).natAbs ≤ a.natAbs := by
    rw [Int.natAbs_tmod]
    exact Nat.mod_le _ _
  have e6 : (a.tdiv b * b) = a - a.tmod b := by
    rw [Int.mul_comm]
    omega
  have e7 : a - a.tmod b ≤ 2147483647 ∧ -2147483648 ≤ a - a.tmod b := by
    have h9 : (a.tdiv b * b).natAbs ≤ a.natAbs := by
      rw [Int.natAbs_mul, Int.natAbs_tdiv]
      exact Nat.div_mul_le_self _ _
    rw [e6] at h9
    omega
  have e2 := ti_mul e1 hy (by rw [e6]; omega) (by rw [e6]; omega)
  have e8 := ti_sub hx e2 (by rw [e6]; omega) (by rw [e6]; omega)
  unfold ab_rem
  rw [e8, e6]
  omega
theorem lt_ti {x y : Int32} {a b : Int} (hx : x.toInt = a) (hy : y.toInt = b) : x < y ↔ a < b := by rw [Int32.lt_iff_toInt_lt, hx, hy]
theorem le_ti {x y : Int32} {a b : Int} (hx : x.toInt = a) (hy : y.toInt = b) : x ≤ y ↔ a ≤ b := by rw [Int32.le_iff_toInt_le, hx, hy]
theorem eq_ti {x y : Int32} {a b : Int} (hx : x.toInt = a) (hy : y.toInt = b) : x = y ↔ a = b := by rw [← Int32.toInt_inj, hx, hy]
theorem ti_wrap {p r : Int32} {a b : Int} (hp : p.toInt = a) (hr : r.toInt = b) (h1 : -1000000000 ≤ a) (h2 : a ≤ 1000000000) (hb : 0 < b) (hb2 : b ≤ 1000000000) : (wrapI p r).toInt = a % b := by
  have e1 := ti_rem hp hr (by omega) hb
  unfold wrapI
  rw [if_neg (by rw [lt_ti hr (show (1 : Int32).toInt = 1 from rfl)]; omega)]
  have e2 := Int.emod_add_mul_ediv a b
  by_cases hneg : a.tmod b < 0
  · rw [if_pos (by rw [lt_ti e1 (show (0 : Int32).toInt = 0 from rfl)]; exact hneg)]
    have e3 : a.tmod b = a % b - b := by
      rw [Int.tmod_eq_emod] at hneg ⊢
      split at hneg
      · have := Int.emod_nonneg a (show b ≠ 0 by omega)
        omega
      · rename_i hc
        rw [if_neg hc]
        have : b.natAbs = b := by omega
        omega
    have h3 := Int.emod_nonneg a (show b ≠ 0 by omega)
    have h4 := Int.emod_lt_of_pos a hb
    rw [ti_add e1 hr (by omega) (by omega)]
    omega
  · rw [if_neg (by rw [lt_ti e1 (show (0 : Int32).toInt = 0 from rfl)]; exact hneg), e1]
    rw [Int.tmod_eq_emod] at hneg ⊢
    split
    · omega
    · rename_i hc
      rw [if_neg hc] at hneg
      have h4 := Int.emod_lt_of_pos a hb
      omega
theorem nI_ti {x : Int32} {n : Nat} (h : x.toInt = (n : Int)) : x = nI n := by
  have h1 := x.toInt_lt
  apply Int32.toInt_inj.mp
  rw [h, nI_toInt (by omega)]
theorem ti_nat {x : Int32} (h : 0 ≤ x.toInt) : x = nI x.toNatClampNeg := nI_ti (by show x.toInt = ((x.toInt.toNat : Nat) : Int); omega)
theorem ti_clamp {x : Int32} (h : 0 ≤ x.toInt) : (x.toNatClampNeg : Int) = x.toInt := by show ((x.toInt.toNat : Nat) : Int) = _; omega
