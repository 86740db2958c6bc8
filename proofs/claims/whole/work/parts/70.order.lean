-- THE LEAST ORDER: minutes p, weights w
def oS (p : Nat → Nat) : List Nat → Nat
  | [] => 0
  | i :: r => p i + oS p r
def oC (p w : Nat → Nat) : Nat → List Nat → Nat
  | _, [] => 0
  | t, i :: r => w i * (t + p i) + oC p w (t + p i) r
def obf (p w : Nat → Nat) (a b : Nat) : Prop := p a * w b < p b * w a ∨ (p a * w b = p b * w a ∧ a < b)
theorem oC_app (p w : Nat → Nat) : ∀ (X Y : List Nat) (t : Nat), oC p w t (X ++ Y) = oC p w t X + oC p w (t + oS p X) Y := by
  intro X
  induction X with
  | nil =>
    intro Y t
    show oC p w t Y = 0 + oC p w (t + 0) Y
    rw [Nat.zero_add, Nat.add_zero]
  | cons a X ih =>
    intro Y t
    show w a * (t + p a) + oC p w (t + p a) (X ++ Y) = w a * (t + p a) + oC p w (t + p a) X + oC p w (t + (p a + oS p X)) Y
    rw [ih, Nat.add_assoc t (p a) (oS p X)]
    omega
theorem oS_app (p : Nat → Nat) : ∀ (X Y : List Nat), oS p (X ++ Y) = oS p X + oS p Y := by
  intro X
  induction X with
  | nil =>
    intro Y
    show oS p Y = 0 + oS p Y
    rw [Nat.zero_add]
  | cons a X ih =>
    intro Y
    show p a + oS p (X ++ Y) = p a + oS p X + oS p Y
    rw [ih]
    omega
theorem oC_swap (p w : Nat → Nat) (t f a : Nat) (X : List Nat) : oC p w t (f :: a :: X) + w f * p a = oC p w t (a :: f :: X) + w a * p f := by
  show w f * (t + p f) + (w a * (t + p f + p a) + oC p w (t + p f + p a) X) + w f * p a = w a * (t + p a) + (w f * (t + p a + p f) + oC p w (t + p a + p f) X) + w a * p f
  rw [show t + p f + p a = t + p a + p f by omega]
  simp only [Nat.mul_add]
  omega
theorem obf_le {p w : Nat → Nat} {a b : Nat} (h : obf p w a b) : w b * p a ≤ w a * p b := by
  rw [Nat.mul_comm (w b), Nat.mul_comm (w a)]
  rcases h with h | h
  · omega
  · omega
theorem oC_ins (p w : Nat → Nat) (f : Nat) (B : List Nat) : ∀ (A : List Nat) (t : Nat), (∀ a, a ∈ A → obf p w a f) → oC p w t (A ++ f :: B) ≤ oC p w t (f :: (A ++ B)) := by
  intro A
  induction A with
  | nil => intro t _; exact Nat.le_refl _
  | cons a A ih =>
    intro t h
    have h1 := ih (t + p a) (fun b hb => h b (List.mem_cons_of_mem _ hb))
    have h2 := oC_swap p w t f a (A ++ B)
    have h3 := obf_le (h a (List.mem_cons_self ..))
    have e1 : oC p w t (a :: A ++ f :: B) = w a * (t + p a) + oC p w (t + p a) (A ++ f :: B) := rfl
    have e2 : oC p w t (a :: f :: (A ++ B)) = w a * (t + p a) + oC p w (t + p a) (f :: (A ++ B)) := rfl
    have e3 : oC p w t (f :: (a :: A ++ B)) = oC p w t (f :: a :: (A ++ B)) := rfl
    omega
theorem oC_inslt (p w : Nat → Nat) (f a : Nat) (A B : List Nat) (t : Nat) (h : ∀ b, b ∈ A → obf p w b f) (hs : p a * w f < p f * w a) : oC p w t (a :: A ++ f :: B) < oC p w t (f :: (a :: A ++ B)) := by
  have h1 := oC_ins p w f B A (t + p a) h
  have h2 := oC_swap p w t f a (A ++ B)
  have e1 : oC p w t (a :: A ++ f :: B) = w a * (t + p a) + oC p w (t + p a) (A ++ f :: B) := rfl
  have e2 : oC p w t (a :: f :: (A ++ B)) = w a * (t + p a) + oC p w (t + p a) (f :: (A ++ B)) := rfl
  have e3 : oC p w t (f :: (a :: A ++ B)) = oC p w t (f :: a :: (A ++ B)) := rfl
  rw [Nat.mul_comm (p a), Nat.mul_comm (p f)] at hs
  omega
theorem fl_ne {f : Nat} {A B : List Nat} (hA : f ∉ A) (hB : f ∉ B) : (A ++ f :: B).filter (fun g => g != f) = A ++ B := by
  have key : ∀ Y : List Nat, f ∉ Y → Y.filter (fun g => g != f) = Y := by
    intro Y hY
    refine List.filter_eq_self.mpr (fun g hg => ?_)
    exact bne_iff_ne.mpr (fun q => hY (q ▸ hg))
  rw [List.filter_append, key A hA, List.filter_cons_of_neg (by simp), key B hB]
/-- one fault of X put first, the rest as they stand: no better, and worse if its number is below the first one's -/
theorem o_cand {p w : Nat → Nat} {X : List Nat} (hs : X.Pairwise (obf p w)) (hn : X.Nodup) {f : Nat} (hf : f ∈ X) : (X.filter (fun g => g != f)).length + 1 = X.length ∧ ∃ h X', X = h :: X' ∧ (∀ t, oC p w t X ≤ oC p w t (f :: X.filter (fun g => g != f))) ∧ (f < h → ∀ t, oC p w t X < oC p w t (f :: X.filter (fun g => g != f))) ∧ (f = h → f :: X.filter (fun g => g != f) = X) := by
  obtain ⟨A, B, rfl⟩ := List.append_of_mem hf
  have hd := List.nodup_append.mp hn
  have hfA : f ∉ A := fun q => hd.2.2 f q f (List.mem_cons_self ..) rfl
  have hfB : f ∉ B := (List.nodup_cons.mp hd.2.1).1
  rw [fl_ne hfA hfB]
  have hp := List.pairwise_append.mp hs
  have hA : ∀ a, a ∈ A → obf p w a f := fun a ha => hp.2.2 a ha f (List.mem_cons_self ..)
  refine ⟨by simp only [List.length_append, List.length_cons]; omega, ?_⟩
  cases A with
  | nil =>
    exact ⟨f, B, rfl, fun t => Nat.le_refl _, fun q => absurd q (Nat.lt_irrefl f), fun _ => rfl⟩
  | cons a A =>
    refine ⟨a, A ++ f :: B, rfl, fun t => oC_ins p w f B (a :: A) t hA, fun hlt t => ?_, fun q => ?_⟩
    · refine oC_inslt p w f a A B t (fun b hb => hA b (List.mem_cons_of_mem _ hb)) ?_
      rcases hA a (List.mem_cons_self ..) with q | q
      · exact q
      · omega
    · exact absurd (q ▸ List.mem_cons_self ..) hfA
/-- the best order so far: taken over by one that is better -/
def upB (y : Option (Nat × List Nat)) (c : Nat × List Nat) : Option (Nat × List Nat) := match y with
  | none => some c
  | some z => if c.1 < z.1 then some c else some z
theorem upB_1 {y : Option (Nat × List Nat)} {c d : Nat × List Nat} (h : d.1 < c.1) : upB (upB y c) d = upB y d := by
  cases y with
  | none =>
    show (if d.1 < c.1 then some d else some c) = some d
    rw [if_pos h]
  | some z =>
    show upB (if c.1 < z.1 then some c else some z) d = if d.1 < z.1 then some d else some z
    by_cases q : c.1 < z.1
    · rw [if_pos q, if_pos (by omega)]
      show (if d.1 < c.1 then some d else some c) = some d
      rw [if_pos h]
    · rw [if_neg q]
      rfl
theorem upB_2 {y : Option (Nat × List Nat)} {c d : Nat × List Nat} (h : d.1 ≤ c.1) : upB (upB y d) c = upB y d := by
  cases y with
  | none =>
    show (if c.1 < d.1 then some c else some d) = some d
    rw [if_neg (by omega)]
  | some z =>
    show upB (if d.1 < z.1 then some d else some z) c = if d.1 < z.1 then some d else some z
    by_cases q : d.1 < z.1
    · rw [if_pos q]
      show (if c.1 < d.1 then some c else some d) = some d
      rw [if_neg (by omega)]
    · rw [if_neg q]
      show (if c.1 < z.1 then some c else some z) = some z
      rw [if_neg (by omega)]
theorem oC_le {p w : Nat → Nat} : ∀ (X : List Nat) (t : Nat), (∀ i, i ∈ X → p i ≤ 99 ∧ w i ≤ 99) → oC p w t X ≤ X.length * (99 * (t + 99 * X.length)) := by
  intro X
  induction X with
  | nil => intro t _; exact Nat.zero_le _
  | cons a X ih =>
    intro t h
    obtain ⟨h1, h2⟩ := h a (List.mem_cons_self ..)
    have h3 := ih (t + p a) (fun i hi => h i (List.mem_cons_of_mem _ hi))
    show w a * (t + p a) + oC p w (t + p a) X ≤ (X.length + 1) * (99 * (t + 99 * (X.length + 1)))
    have h4 : w a * (t + p a) ≤ 99 * (t + 99 * (X.length + 1)) := Nat.mul_le_mul h2 (by omega)
    have h5 : X.length * (99 * (t + p a + 99 * X.length)) ≤ X.length * (99 * (t + 99 * (X.length + 1))) := Nat.mul_le_mul (Nat.le_refl _) (by omega)
    rw [Nat.succ_mul]
    omega
/-- the faults o 0, o 1 .. as a list -/
def oP (o : Nat → Nat) (n : Nat) : List Nat := (List.range n).map o
theorem oP_s (o : Nat → Nat) (n : Nat) : oP o (n + 1) = oP o n ++ [o n] := by
  unfold oP
  rw [List.range_succ, List.map_append]
  rfl
theorem oP_len (o : Nat → Nat) (n : Nat) : (oP o n).length = n := by simp [oP]
theorem oP_congr {o u : Nat → Nat} {n : Nat} (h : ∀ k, k < n → o k = u k) : oP o n = oP u n := by
  unfold oP
  exact List.map_congr_left (fun k hk => h k (List.mem_range.mp hk))
theorem oP_get (o : Nat → Nat) {n k : Nat} (h : k < n) : (oP o n).getD k 0 = o k := by
  unfold oP
  rw [List.getD_eq_getElem?_getD, List.getElem?_map, List.getElem?_range h]
  rfl
theorem oP_mem {o : Nat → Nat} {n i : Nat} : i ∈ oP o n ↔ ∃ k, k < n ∧ o k = i := by
  unfold oP
  rw [List.mem_map]
  exact ⟨fun ⟨k, hk, e⟩ => ⟨k, List.mem_range.mp hk, e⟩, fun ⟨k, hk, e⟩ => ⟨k, List.mem_range.mpr hk, e⟩⟩
