-- THE ABSTRACT HEAP: blocks of cells; a reference is (block, place in it)
abbrev AC : Type := (Nat × List AV) ⊕ ((Nat × (Nat → Int32)) ⊕ (Nat × (Nat → AV)))
abbrev AB : Type := Nat → AC
abbrev AH : Type := Nat × List AB
abbrev Lv : Type := List (Nat × AV)
abbrev AG : Type := Nat × Nat × Nat
-- blocks: (first cell's number, how many cells)
def ab_bl : List (Nat × Nat) := [(57, 1), (58, 1), (59, 1), (60, 1), (61, 1), (62, 1), (63, 1), (64, 1), (65, 1), (66, 1), (67, 1), (68, 1), (69, 1),
  (0, 1), (1, 1), (2, 1), (3, 1),
  (4, 1), (5, 1), (6, 1), (7, 8), (15, 1), (16, 1), (17, 1), (18, 1),
  (19, 1), (20, 1), (21, 1), (22, 8), (30, 1), (31, 1), (32, 1), (33, 1),
  (34, 1), (35, 1), (36, 1), (37, 8), (45, 1), (46, 1), (47, 1), (48, 1),
  (49, 1), (50, 1), (51, 1), (52, 1), (53, 1), (54, 1), (55, 1), (56, 1)]
-- cells by their number: (block, place, slots)
def ab_ly : List (Nat × Nat × Nat) := [(13, 0, 12), (14, 0, 6), (15, 0, 64), (16, 0, 6),
  (17, 0, 13), (18, 0, 5), (19, 0, 8), (20, 0, 9), (20, 1, 9), (20, 2, 9), (20, 3, 9), (20, 4, 9), (20, 5, 9), (20, 6, 9), (20, 7, 9), (21, 0, 4), (22, 0, 8), (23, 0, 8), (24, 0, 8),
  (25, 0, 13), (26, 0, 5), (27, 0, 8), (28, 0, 9), (28, 1, 9), (28, 2, 9), (28, 3, 9), (28, 4, 9), (28, 5, 9), (28, 6, 9), (28, 7, 9), (29, 0, 4), (30, 0, 8), (31, 0, 8), (32, 0, 8),
  (33, 0, 13), (34, 0, 5), (35, 0, 8), (36, 0, 9), (36, 1, 9), (36, 2, 9), (36, 3, 9), (36, 4, 9), (36, 5, 9), (36, 6, 9), (36, 7, 9), (37, 0, 4), (38, 0, 8), (39, 0, 8), (40, 0, 8),
  (41, 0, 8), (42, 0, 9), (43, 0, 8), (44, 0, 9), (45, 0, 8), (46, 0, 8), (47, 0, 8), (48, 0, 7),
  (0, 0, 25), (1, 0, 7), (2, 0, 112), (3, 0, 112), (4, 0, 112), (5, 0, 64), (6, 0, 7), (7, 0, 8), (8, 0, 8), (9, 0, 8), (10, 0, 8), (11, 0, 8), (12, 0, 8)]
def ab_st (b : Nat) : Nat := (ab_bl.getD b (0, 0)).1
def ab_ct (b : Nat) : Nat := (ab_bl.getD b (0, 0)).2
def ab_bk (k : Nat) : Nat := (ab_ly.getD k (0, 0, 0)).1
def ab_of (k : Nat) : Nat := (ab_ly.getD k (0, 0, 0)).2.1
def ab_sz (k : Nat) : Nat := (ab_ly.getD k (0, 0, 0)).2.2
def ab_sl : Nat → Nat
  | 0 => 0
  | k + 1 => ab_sl k + ab_sz k
def ab_nil : AB := fun _ => .inl (0, [])
def ab_get (h : AH) (b o : Nat) : AC := (h.2.getD b ab_nil) o
def ab_upd (n : Nat) (f : AB) (o : Nat) (c : AC) : AB := match n with
  | 1 => fun _ => c
  | _ => fun j => if j = o then c else f j
def ab_set (h : AH) (b o : Nat) (c : AC) : AH := (h.1, h.2.set b (ab_upd (ab_ct b) (h.2.getD b ab_nil) o c))
-- a cell more: its place is the next one's
def ab_push (h : AH) (c : AC) : AH := (h.1 + 1, h.2.set (ab_bk h.1) (ab_upd (ab_ct (ab_bk h.1)) (h.2.getD (ab_bk h.1) ab_nil) (ab_of h.1) c))
-- what it is in the machine
def ab_ad (G : AG) (b o : Nat) : Nat := match Nat.beq b 1000 with
  | true => G.2.1
  | false => match Nat.beq b 1001 with
    | true => G.2.2
    | false => G.1 + (ab_st b + o)
def ab_v (G : AG) (v : AV) : Value := match v with
  | none => .null
  | some (.inl x) => .int x
  | some (.inr (.inl x)) => .long x
  | some (.inr (.inr r)) => .ref (ab_ad G r.1 r.2)
def ab_rf (G : AG) (v : AV) : Option Nat := match v with
  | some (.inr (.inr r)) => some (ab_ad G r.1 r.2)
  | _ => none
def ab_c (G : AG) (cI cF : ClassId) (c : AC) : va_E := match c with
  | .inl o => .inr (o.1, o.2.map (ab_v G))
  | .inr (.inl a) => .inl (cI, a.1, .inl a.2)
  | .inr (.inr a) => .inl (cF, a.1, .inr (.inr (.inr (.inr (fun j => ab_rf G (a.2 j))))))
def ab_wk (G : AG) (cI cF : ClassId) (h : AH) (k : Nat) : Nat × va_E := (G.1 + k, ab_c G cI cF (ab_get h (ab_bk k) (ab_of k)))
def ab_ws (G : AG) (cI cF : ClassId) (h : AH) : va_W := (List.range h.1).map (ab_wk G cI cF h)
def ab_vs (G : AG) (l : List AV) : List Value := l.map (ab_v G)
def ab_lv (G : AG) (l : Lv) : List (Nat × Value) := l.map (fun q => (q.1, ab_v G q.2))
def ab_A (G : AG) : Nat → Prop := fun q => G.1 ≤ q
def ab_ok (h : AH) (b o : Nat) : Prop := b < 49 ∧ o < ab_ct b ∧ ab_st b + o < h.1
def ab_R (G : AG) (D : va_G) (cI cF : ClassId) (h : AH) (H : Heap) : Prop := va_P D vwCl (ab_ws G cI cF h) H ∧ H.size = G.1 + h.1 ∧ h.2.length = 49 ∧ h.1 ≤ 70
-- facts of the layout
theorem ab_lay1 : ∀ k, k < 70 → ab_bk k < 49 ∧ ab_of k < ab_ct (ab_bk k) ∧ ab_st (ab_bk k) + ab_of k = k := by decide +kernel
theorem ab_lay2 : ∀ b, b < 49 → ∀ o, o < ab_ct b → ab_bk (ab_st b + o) = b ∧ ab_of (ab_st b + o) = o ∧ ab_st b + o < 70 := by decide +kernel
theorem ab_beq {a b : Nat} (h : a ≠ b) : Nat.beq a b = false := by
  cases e : Nat.beq a b
  · rfl
  · exact absurd (Nat.eq_of_beq_eq_true e) h
theorem ab_ad_in (G : AG) {b : Nat} (o : Nat) (hb : b < 49) : ab_ad G b o = G.1 + (ab_st b + o) := by
  unfold ab_ad
  rw [show Nat.beq b 1000 = false from ab_beq (by omega), show Nat.beq b 1001 = false from ab_beq (by omega)]
theorem ab_ws_at {G : AG} {cI cF : ClassId} {h : AH} {b o : Nat} (hk : ab_ok h b o) : (ab_ws G cI cF h)[ab_st b + o]? = some (ab_ad G b o, ab_c G cI cF (ab_get h b o)) := by
  obtain ⟨h1, h2, h3⟩ := hk
  obtain ⟨e1, e2, -⟩ := ab_lay2 b h1 o h2
  unfold ab_ws
  rw [List.getElem?_map, List.getElem?_range h3]
  simp only [Option.map_some, ab_wk, e1, e2]
  rw [ab_ad_in G o h1]
theorem ab_ws_len {G : AG} {cI cF : ClassId} {h : AH} : (ab_ws G cI cF h).length = h.1 := by simp [ab_ws]
theorem ab_ws_D {G : AG} {cI cF : ClassId} {h : AH} : va_D (ab_A G) (ab_ws G cI cF h) := by
  have key : ∀ (i : Nat) (q : Nat × va_E), (ab_ws G cI cF h)[i]? = some q → q.1 = G.1 + i := by
    intro i q hi
    unfold ab_ws at hi
    rw [List.getElem?_map] at hi
    cases hr : (List.range h.1)[i]? with
    | none => rw [hr] at hi; cases hi
    | some k =>
      rw [hr] at hi
      have hk := List.getElem?_eq_some_iff.mp hr
      obtain ⟨hl, he⟩ := hk
      rw [List.getElem_range] at he
      subst he
      cases hi
      rfl
  refine ⟨fun i j p q hi hj e => ?_, fun k q hk => ?_⟩
  · rw [key i p hi, key j q hj] at e
    omega
  · rw [key k q hk]
    exact Nat.le_add_right _ _
theorem ab_get_set {h : AH} {b o : Nat} (c : AC) (hl : h.2.length = 49) (hb : b < 49) (ho : o < ab_ct b) {b' o' : Nat} (ho' : o' < ab_ct b') : ab_get (ab_set h b o c) b' o' = if b' = b ∧ o' = o then c else ab_get h b' o' := by
  unfold ab_get ab_set
  by_cases hbb : b' = b
  · subst hbb
    simp only [List.getD_eq_getElem?_getD]
    rw [List.getElem?_set_self (by omega)]
    simp only [Option.getD_some]
    by_cases hn : ab_ct b' = 1
    · have e1 : o = 0 := by omega
      have e2 : o' = 0 := by omega
      subst e1; subst e2
      simp [ab_upd, hn]
    · have e : ∀ (n : Nat) (f : AB), n ≠ 1 → ab_upd n f o c = fun j => if j = o then c else f j := by
        intro n f h1
        unfold ab_upd
        split
        · exact absurd rfl h1
        · rfl
      rw [e _ _ hn]
      by_cases hoo : o' = o <;> simp [hoo]
  · simp only [List.getD_eq_getElem?_getD]
    rw [List.getElem?_set_ne (Ne.symm hbb)]
    simp [hbb]
theorem ab_ws_set {G : AG} {cI cF : ClassId} {h : AH} {b o : Nat} (c : AC) (hl : h.2.length = 49) (h70 : h.1 ≤ 70) (hk : ab_ok h b o) : (ab_ws G cI cF h).set (ab_st b + o) (ab_ad G b o, ab_c G cI cF c) = ab_ws G cI cF (ab_set h b o c) := by
  obtain ⟨h1, h2, h3⟩ := hk
  refine List.ext_getElem? (fun k => ?_)
  by_cases hkk : k = ab_st b + o
  · subst hkk
    rw [List.getElem?_set_self (by rw [ab_ws_len]; exact h3)]
    have := ab_ws_at (G := G) (cI := cI) (cF := cF) (h := ab_set h b o c) (b := b) (o := o) ⟨h1, h2, h3⟩
    rw [this, ab_get_set c hl h1 h2 h2]
    simp
  · rw [List.getElem?_set_ne (Ne.symm hkk)]
    by_cases hlt : k < h.1
    · obtain ⟨l1, l2, l3⟩ := ab_lay1 k (by omega)
      unfold ab_ws
      rw [List.getElem?_map, List.getElem?_map, List.getElem?_range hlt, List.getElem?_range (show k < (ab_set h b o c).1 from hlt)]
      simp only [Option.map_some, ab_wk]
      rw [ab_get_set c hl h1 h2 l2]
      rw [if_neg]
      rintro ⟨e1, e2⟩
      rw [e1, e2] at l3
      exact hkk l3.symm
    · rw [List.getElem?_eq_none (by rw [ab_ws_len]; omega), List.getElem?_eq_none (by rw [ab_ws_len]; show h.1 ≤ k; omega)]
theorem ab_get_push {h : AH} (c : AC) (hl : h.2.length = 49) (h70 : h.1 < 70) {b' o' : Nat} (ho' : o' < ab_ct b') : ab_get (ab_push h c) b' o' = if b' = ab_bk h.1 ∧ o' = ab_of h.1 then c else ab_get h b' o' := by
  obtain ⟨l1, l2, -⟩ := ab_lay1 h.1 h70
  have := ab_get_set (h := h) (b := ab_bk h.1) (o := ab_of h.1) c hl l1 l2 ho'
  exact this
theorem ab_ws_push {G : AG} {cI cF : ClassId} {h : AH} (c : AC) (hl : h.2.length = 49) (h70 : h.1 < 70) : ab_ws G cI cF (ab_push h c) = ab_ws G cI cF h ++ [(G.1 + h.1, ab_c G cI cF c)] := by
  obtain ⟨l1, l2, l3⟩ := ab_lay1 h.1 h70
  unfold ab_ws
  rw [show (ab_push h c).1 = h.1 + 1 from rfl, List.range_succ, List.map_append]
  congr 1
  · refine List.map_congr_left (fun k hk => ?_)
    have hlt := List.mem_range.mp hk
    obtain ⟨m1, m2, m3⟩ := ab_lay1 k (by omega)
    unfold ab_wk
    rw [ab_get_push c hl h70 m2, if_neg]
    rintro ⟨e1, e2⟩
    rw [e1, e2, l3] at m3
    omega
  · simp only [List.map_cons, List.map_nil, ab_wk]
    rw [ab_get_push c hl h70 l2]
    simp
