-- THE RUN OF A STRETCH: up to the places 'stop', where what is left is asked of the machine again
def ab_has (l : List Nat) (n : Nat) : Bool := match l with
  | [] => false
  | a :: r => match Nat.beq a n with
    | true => true
    | false => ab_has r n
def ab_ev (j : MI) (d : Nat) (E : Nat × (Nat → Int32)) (h0 : AH) (cap : Nat) (Q : Option AV → AH → Prop) (stop : List Nat) : Nat → List IE → Lv → List AV → AH → Prop
  | 0, cs, lv, st, h => ab_W j d E h0 cap Q cs lv st h
  | n + 1, cs, lv, st, h => match cs with
    | [] => False
    | e :: tl => match ab_has stop e.1 with
      | true => ab_W j d E h0 cap Q (e :: tl) lv st h
      | false => ab_step (ab_Ex d) E j cap Q (ab_ev j d E h0 cap Q stop n) e tl lv st h
theorem ab_ev_W {j : MI} {d : Nat} {E : Nat × (Nat → Int32)} {h0 : AH} {cap : Nat} {Q : Option AV → AH → Prop} {stop : List Nat} (hg : ab_tab j = true) (hcap : cap ≤ 70) : ∀ (n : Nat) (cs : List IE) (lv : Lv) (st : List AV) (h : AH), cs <:+ j.2.2.2.2.2 → ab_ev j d E h0 cap Q stop n cs lv st h → ab_W j d E h0 cap Q cs lv st h := by
  intro n
  induction n with
  | zero => intro cs lv st h _ hh; exact hh
  | succ n ih =>
    intro cs lv st h hs hh
    cases cs with
    | nil => exact (show False from hh).elim
    | cons e tl =>
      unfold ab_ev at hh
      dsimp only at hh
      split at hh
      · exact hh
      · exact ab_snd hg hcap ih hs hh
-- at a place of the table: the first step is taken whether it is a stop or not
def ab_at (I : List IE) (t : Nat) : List IE := match I with
  | [] => []
  | e :: r => match Nat.beq e.1 t with
    | true => e :: r
    | false => ab_at r t
theorem ab_at_suf (t : Nat) : ∀ I : List IE, ab_at I t <:+ I
  | [] => List.suffix_refl _
  | e :: r => by
    unfold ab_at
    split
    · exact List.suffix_refl _
    · exact (ab_at_suf t r).trans (List.suffix_cons e r)
def ab_first (j : MI) (d : Nat) (E : Nat × (Nat → Int32)) (h0 : AH) (cap : Nat) (Q : Option AV → AH → Prop) (stop : List Nat) (n : Nat) (cs : List IE) (lv : Lv) (st : List AV) (h : AH) : Prop := match cs with
  | [] => False
  | e :: tl => ab_step (ab_Ex d) E j cap Q (ab_ev j d E h0 cap Q stop n) e tl lv st h
theorem ab_run {j : MI} {d : Nat} {E : Nat × (Nat → Int32)} {h0 : AH} {cap : Nat} {Q : Option AV → AH → Prop} (stop : List Nat) (n : Nat) (hg : ab_tab j = true) (hcap : cap ≤ 70) (t : Nat) {lv : Lv} {st : List AV} {h : AH} (hh : ab_first j d E h0 cap Q stop n (ab_at j.2.2.2.2.2 t) lv st h) : ab_W j d E h0 cap Q (ab_at j.2.2.2.2.2 t) lv st h := by
  have hs := ab_at_suf t j.2.2.2.2.2
  generalize ab_at j.2.2.2.2.2 t = cs at hs hh ⊢
  cases cs with
  | nil => exact (show False from hh).elim
  | cons e tl => exact ab_snd hg hcap (ab_ev_W hg hcap n) hs hh
-- A CONTRACT OUT OF A WALK
def ab_args (i : Nat) (a : List AV) : Lv := match a with
  | [] => []
  | v :: r => (i, v) :: ab_args (match ab_c2 v with | true => i + 2 | false => i + 1) r
theorem ab_args_eq (G : AG) : ∀ (a : List AV) (i : Nat), ab_lv G (ab_args i a) = lv_args i (ab_vs G a)
  | [], i => rfl
  | v :: r, i => by
    have e := ab_args_eq G r
    unfold ab_args
    show (i, ab_v G v) :: ab_lv G _ = (i, ab_v G v) :: lv_args (if (ab_v G v).category = 2 then i + 2 else i + 1) (ab_vs G r)
    rw [e, ab_v_cat]
    cases ab_c2 v <;> rfl
theorem ab_sl_len (G : AG) : ∀ a : List AV, (lg_sl (ab_vs G a)).length = ab_cat a
  | [] => rfl
  | v :: r => by
    have e := ab_sl_len G r
    have h1 : lg_sl (ab_vs G (v :: r)) = (if (ab_v G v).category = 2 then [Slot.val (ab_v G v), .second] else [.val (ab_v G v)]) ++ lg_sl (ab_vs G r) := rfl
    rw [h1, List.length_append, e, ab_v_cat]
    show _ = _ + ab_cat r
    cases ab_c2 v <;> rfl
/-- what the tables must say of a method: kd 0 an object's, 1 a static one, 2 a constructor -/
def ab_ok2 (j : MI) (kd : Nat) (y : MethodName) : Prop := ab_tab j = true ∧ ab_F kd y j.2.1 j.2.2.1 j.2.2.2.1 ∧ plainName y.cls = true ∧ y.cls = ab_cn j.1 ∧ (j.2.2.2.2.1 = true → y.name = "<init>") ∧ (j.2.2.2.1 = none ∨ j.2.2.2.1 = some .int ∨ j.2.2.2.1 = some .boolean)
theorem ab_meth {j : MI} {kd : Nat} {y : MethodName} (hj : ab_ok2 j kd y) (d : Nat) (a : List AV) (h h' : AH) (v : Option AV) (hle : h.1 ≤ h'.1) (hcat : Nat.ble (ab_cat a) j.2.2.1 = true)
    (hw : ∀ E : Nat × (Nat → Int32), ab_W j d E h h'.1 (fun v1 h1 => v1 = v ∧ h1 = h') (ab_at j.2.2.2.2.2 0) (ab_args 0 a) [] h) : ab_Ex (d + 1) kd y a h v h' := by
  obtain ⟨hg, hF, hpl, hcls, hini, hret⟩ := hj
  refine ⟨j.2.1, j.2.2.1, j.2.2.2.1, hF, hle, fun l G D cI cF E => ?_⟩
  refine Met.ofW (cc := j.2.1) (maxL := j.2.2.1) (ret := j.2.2.2.1) hpl rfl ?_
  intro p e s m args below meth c s₁ B hml hv
  obtain ⟨rfl, hR, hE⟩ := hv
  have hts0 := atoms_spec (ws := Cond.code y j.2.1 j.2.2.1 j.2.2.2.1 :: ab_T) B.pre
  have hts : ∀ w ∈ ab_T, w.before (ab_vs G a).toArray s = true := fun w h => hts0 w (List.mem_cons_of_mem _ h)
  have hown : s.vm.findClass (ab_cn j.1) = some m.cls := by rw [← hcls]; exact findClass_of_methodNamed B.named
  have hlocks := B.notSynchronized
  have hr := B.returns
  have hl := lv_entry (ab_vs G a) (n := j.2.2.1) (by rw [ab_sl_len]; exact Nat.le_of_ble_eq_true hcat)
  rw [← ab_args_eq] at hl
  rw [lg_entry_eq]
  generalize (lg_sl (ab_vs G a) ++ List.replicate (j.2.2.1 - (lg_sl (ab_vs G a)).length) Slot.unset).toArray = ls at hl ⊢
  have hX : ab_X j d E h h'.1 (fun v1 h1 => v1 = v ∧ h1 = h') p l e (headSpec (Cond.code y j.2.1 j.2.2.1 j.2.2.2.1 :: ab_T) (ab_rmm (d + 1) h h')).room s m (ab_vs G a).toArray below meth c G D cI cF (MQ below (ab_Qc G D cI cF v h') (ab_vs G a).toArray s (h'.1 - h.1) (ab_sl h'.1 - ab_sl h.1) (ab_A G)) := by
    refine ⟨⟨B.exec, B.bytes, hml, hown, hts, hE⟩, ⟨Nat.le_refl _, Nat.le_refl _, Nat.le_refl _, Nat.le_refl _, fun q => ((name_of_methodNamed B.named B.method).1).trans (hini q)⟩, ?_, ?_⟩
    · intro h1 H1 locs1 pc ls1 hr0 hq r1 b1 b2 s1 hd
      obtain ⟨q1, q2⟩ := hq
      subst q1; subst q2
      exact W.vret B.exec B.bytes (hr.trans hr0) (fun t ht hWm => ⟨rfl, by rw [ht]; exact r1, s1.F ht⟩) s1.2.2 hd
    · intro x h1 H1 locs1 pc ls1 hr0 hq r1 b1 b2 s1 hd
      obtain ⟨q1, q2⟩ := hq
      subst q1; subst q2
      rcases hr0 with hr0 | ⟨hr0, hx⟩
      · exact W.iret B.exec B.bytes (hr.trans hr0) (fun t ht hWm => ⟨rfl, by rw [ht]; exact r1, s1.F ht⟩) s1.2.2 hd
      · exact W.zret B.exec B.bytes (hr.trans hr0) (by rcases hx with rfl | rfl <;> rfl) (fun t ht hWm => ⟨rfl, by rw [ht]; exact r1, s1.F ht⟩) s1.2.2 hd
  obtain ⟨i, r, he, hW⟩ := hw E p l e _ s m _ below meth c G D cI cF _ s.heap [] ls hX hR (Nat.le_refl _) hle va_S.rf hl
  have h00 : i.1 = 0 := by
    have hg2 := hg
    simp only [ab_tab, Bool.and_eq_true] at hg2
    obtain ⟨-, h3⟩ := hg2
    generalize hI : j.2.2.2.2.2 = I at h3 he
    cases I with
    | nil => exact absurd h3 (by decide)
    | cons e0 r0 =>
      have e00 : e0.1 = 0 := Nat.eq_of_beq_eq_true h3
      unfold ab_at at he
      rw [e00] at he
      dsimp only [Nat.beq] at he
      cases he
      exact e00
  rw [h00] at hW
  exact W.cs (by omega) (by omega) hW
