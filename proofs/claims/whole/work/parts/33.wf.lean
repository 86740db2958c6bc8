-- THE NUMBERS OF A BICYCLE ARE AS THEY MUST BE
def WFf (s : Nat → Int32) (j : Nat) : Prop :=
  (0 ≤ (s (16 + 9 * j)).toInt ∧ (s (16 + 9 * j)).toInt ≤ 7) ∧ (0 ≤ (s (16 + 9 * j + 1)).toInt ∧ (s (16 + 9 * j + 1)).toInt ≤ 99) ∧ (0 ≤ (s (16 + 9 * j + 2)).toInt ∧ (s (16 + 9 * j + 2)).toInt ≤ 9) ∧
  (1 ≤ (s (16 + 9 * j + 3)).toInt ∧ (s (16 + 9 * j + 3)).toInt ≤ 99) ∧ (1 ≤ (s (16 + 9 * j + 4)).toInt ∧ (s (16 + 9 * j + 4)).toInt ≤ 99) ∧
  (1 ≤ (s (16 + 9 * j + 5)).toInt ∧ (s (16 + 9 * j + 5)).toInt ≤ 20) ∧ (1 ≤ (s (16 + 9 * j + 6)).toInt ∧ (s (16 + 9 * j + 6)).toInt ≤ 20) ∧
  (1 ≤ (s (16 + 9 * j + 8)).toInt ∧ (s (16 + 9 * j + 8)).toInt ≤ 140) ∧ 0 ≤ (s (16 + 9 * j + 7)).toInt ∧ (s (16 + 9 * j + 7)).toInt < 100 * (s (16 + 9 * j + 8)).toInt
def WF (s : Nat → Int32) : Prop :=
  ((20 ≤ (s 0).toInt ∧ (s 0).toInt ≤ 60) ∧ (60 ≤ (s 1).toInt ∧ (s 1).toInt ≤ 140) ∧ (0 ≤ (s 2).toInt ∧ (s 2).toInt ≤ 5) ∧ (0 ≤ (s 3).toInt ∧ (s 3).toInt ≤ 8) ∧ (0 ≤ (s 4).toInt ∧ (s 4).toInt ≤ 8) ∧ (0 ≤ (s 5).toInt ∧ (s 5).toInt ≤ 9999) ∧ (-9 ≤ (s 6).toInt ∧ (s 6).toInt ≤ 9999)) ∧
  ((0 ≤ (s 7).toInt ∧ (s 7).toInt ≤ 9) ∧ (s 8 = 0 ∨ s 8 = 1) ∧ (0 ≤ (s 9).toInt ∧ (s 9).toInt ≤ 100) ∧ (0 ≤ (s 10).toInt ∧ (s 10).toInt ≤ 99)) ∧
  (∀ k : Nat, k < 5 → (k : Int) < (s 2).toInt → 10 ≤ (s (11 + k)).toInt ∧ (s (11 + k)).toInt ≤ 40) ∧
  (∀ j : Nat, j < 8 → (j : Int) < (s 3).toInt → WFf s j) ∧
  (∀ i : Nat, i < 8 → (i : Int) < (s 4).toInt → (0 ≤ (s (88 + 3 * i)).toInt ∧ (s (88 + 3 * i)).toInt ≤ 5) ∧ (0 ≤ (s (88 + 3 * i + 1)).toInt ∧ (s (88 + 3 * i + 1)).toInt < (s 2).toInt) ∧ (1 ≤ (s (88 + 3 * i + 2)).toInt ∧ (s (88 + 3 * i + 2)).toInt ≤ 60))
/-- the class's bicycle at the block b is the model's s -/
def BR (s : Nat → Int32) (x a : mA) (f : mF) (b : Nat) : Prop :=
  (s 0 = x b 0 ∧ s 1 = x b 1 ∧ s 2 = x b 3 ∧ s 3 = x b 5 ∧ s 4 = x b 12 ∧ s 5 = x b 7 ∧ s 6 = x b 8) ∧ (∀ k : Nat, k < 4 → s (7 + k) = a (b + 4) k) ∧
  (∀ k : Nat, k < 5 → (k : Int) < (s 2).toInt → s (11 + k) = a (b + 1) k) ∧
  (∀ j : Nat, j < 8 → (j : Int) < (s 3).toInt → ∀ k : Nat, k < 9 → s (16 + 9 * j + k) = f (b + 3) j k) ∧
  (∀ i : Nat, i < 8 → (i : Int) < (s 4).toInt → s (88 + 3 * i) = a (b + 5) i ∧ s (88 + 3 * i + 1) = a (b + 6) i ∧ s (88 + 3 * i + 2) = a (b + 7) i)
theorem up_rng {s : Nat → Int32} (h : WF s) {j : Nat} (hf : WFf s j) : 1 ≤ (upI (s (16 + 9 * j)) (s (16 + 9 * j + 5)) (s 0)).toInt ∧ (upI (s (16 + 9 * j)) (s (16 + 9 * j + 5)) (s 0)).toInt ≤ 60 := by
  obtain ⟨⟨h0, h1, h2, h3, h4, h5, h6⟩, -⟩ := h
  obtain ⟨k0, k1, k2, k3, k4, k5, k6, k8, k7, k9⟩ := hf
  unfold upI
  split
  · omega
  · split
    · omega
    · decide
theorem dn_rng {s : Nat → Int32} (h : WF s) {j w : Nat} (hf : WFf s j) (hw : w < 5) (hg : (w : Int) < (s 2).toInt) : 1 ≤ (downI (s (16 + 9 * j)) (s (16 + 9 * j + 6)) (s 1) (s (11 + w))).toInt ∧ (downI (s (16 + 9 * j)) (s (16 + 9 * j + 6)) (s 1) (s (11 + w))).toInt ≤ 140 := by
  obtain ⟨⟨h0, h1, h2, h3, h4, h5, h6⟩, -, hc, -⟩ := h
  obtain ⟨k0, k1, k2, k3, k4, k5, k6, k8, k7, k9⟩ := hf
  have hcw := hc w hw hg
  unfold downI
  split
  · omega
  · split
    · omega
    · split
      · omega
      · decide
theorem dn_eq {s : Nat → Int32} {x a : mA} {f : mF} (hB : BR s x a f 17) {kind dn : Int32} {w : Nat} (hw : w < 5) (hg : (w : Int) < (s 2).toInt) : downX kind dn (x 17 1) (nI w) (x 17 3) (a 18) = downI kind dn (s 1) (s (11 + w)) := by
  obtain ⟨⟨b0, b1, b2, b3, b4, b5, b6⟩, -, hc, -⟩ := hB
  have hcw := hc w hw hg
  have hin : 0 ≤ nI w ∧ nI w < x 17 3 := by
    refine ⟨nI_pos' (by omega), ?_⟩
    rw [Int32.lt_iff_toInt_lt, nI_toInt (by omega), ← b2]
    exact hg
  unfold downX downI
  rw [if_pos hin, nI_clamp (by omega), hcw, b1]
-- A STAGE OF THE CLASS'S RIDER, IN ONE PIECE
noncomputable def stX (x a : mA) (act gear : Int32) (T : Nat) (q : (Nat → Int32) × (Nat → Int32)) : (Nat → Int32) × (Nat → Int32) :=
  (psW act T (psR (okP act (q.2 3) (rW q.1 (downX (q.1 0) (q.1 6) (x 17 1) gear (x 17 3) (a 18))) (x 17 8) (a 21 3) (a 21 1) (a 21 0)) act T (rW q.1 (downX (q.1 0) (q.1 6) (x 17 1) gear (x 17 3) (a 18))) q.2 2) (rW q.1 (downX (q.1 0) (q.1 6) (x 17 1) gear (x 17 3) (a 18))),
   psT T (psR (okP act (q.2 3) (rW q.1 (downX (q.1 0) (q.1 6) (x 17 1) gear (x 17 3) (a 18))) (x 17 8) (a 21 3) (a 21 1) (a 21 0)) act T (rW q.1 (downX (q.1 0) (q.1 6) (x 17 1) gear (x 17 3) (a 18))) q.2))
/-- the rider (w, r) has come as far as the model's fault j -/
def RJ (g : mG) (A : mA) (j : Nat) (q : (Nat → Int32) × (Nat → Int32)) : Prop :=
  (∀ k, k < 7 → q.1 k = A 2 (16 + 9 * j + k)) ∧ q.1 7 = A 7 j ∧ q.1 8 = A 8 j ∧ q.2 2 = upM A j ∧ q.2 3 = g 12 ∧ q.2 4 = g 13 ∧ q.2 5 = A 9 j ∧ (1 ≤ (A 8 j).toInt ∧ (A 8 j).toInt ≤ 140) ∧ 0 ≤ (A 7 j).toInt ∧ (A 7 j).toInt < 100 * (A 8 j).toInt
theorem scale_rng {v dn b : Int32} (h1 : 0 ≤ v.toInt) (h2 : v.toInt < 100 * b.toInt) (hb1 : 1 ≤ b.toInt) (hb2 : b.toInt ≤ 140) (hd1 : 1 ≤ dn.toInt) (hd2 : dn.toInt ≤ 140) : 0 ≤ (v * dn / b).toInt ∧ (v * dn / b).toInt < 100 * dn.toInt := by
  have m1 : v.toInt * dn.toInt ≤ 13999 * 140 := Int.mul_le_mul (by omega) hd2 (by omega) (by omega)
  have m0 : 0 ≤ v.toInt * dn.toInt := Int.mul_nonneg h1 (by omega)
  have e1 : (v * dn).toInt = v.toInt * dn.toInt := ti_mul rfl rfl (by omega) (by omega)
  have hd := tdiv_abs (a := v.toInt * dn.toInt) (b := b.toInt) (by omega) (by omega) (by omega)
  have e2 := ti_div e1 (show b.toInt = b.toInt from rfl) hd.1 hd.2
  rw [Int.tdiv_eq_ediv_of_nonneg m0] at e2
  rw [e2]
  refine ⟨Int.ediv_nonneg m0 (by omega), ?_⟩
  apply Int.ediv_lt_of_lt_mul (by omega)
  have m3 : v.toInt * dn.toInt < 100 * b.toInt * dn.toInt := Int.mul_lt_mul_of_pos_right h2 (by omega)
  have m4 : 100 * b.toInt * dn.toInt = 100 * dn.toInt * b.toInt := by
    rw [Int.mul_assoc, Int.mul_comm b.toInt, ← Int.mul_assoc]
  omega
theorem psR_lo {ok : Nat → Prop} {act : Int32} {T : Nat} {w r : Nat → Int32} {k : Nat} (h5 : k ≠ 5) (h7 : k ≠ 7) : psR ok act T w r k = r k := by
  have hl : ∀ (u G e n p : Nat) (r : Nat → Int32), lisR ok u G e n p r k = r k := by
    intro u G e n
    induction n with
    | zero => intro p r; rfl
    | succ n ih =>
      intro p r
      unfold lisR
      split
      · rw [ih]
        split
        · exact clkR_lo _ _ h5 h7
        · rfl
      · rfl
  unfold psR
  split
  · exact hl _ _ _ _ _ _
  · split
    · exact hl _ _ _ _ _ _
    · rfl
theorem RJ_stage {g : mG} {A : mA} {x a : mA} {f : mF} {j m w T : Nat} {act : Int32} {q : (Nat → Int32) × (Nat → Int32)} (hW : WF (A 2)) (hB : BR (A 2) x a f 17) (hm : A 2 3 = nI m) (hj : j < m) (hm8 : m ≤ 8) (hw : w < 5) (hg : (w : Int) < (A 2 2).toInt) (hT : T ≤ 60) (ha1 : 0 ≤ act.toInt) (ha2 : act.toInt ≤ 5) (ht1 : 0 ≤ (g 12).toInt) (ht2 : (g 12).toInt ≤ 20000) (h : RJ g A j q) :
    RJ (sgN m act T (g, opN w m A)).1 (sgN m act T (g, opN w m A)).2 j (stX x a act (nI w) T q) ∧ (0 < q.1 8 ∧ RO (rW q.1 (downX (q.1 0) (q.1 6) (x 17 1) (nI w) (x 17 3) (a 18))) q.2) ∧ (g 17 = nI j → q.2 6 = g 18 → q.2 7 = g 19 → (stX x a act (nI w) T q).2 7 = (sgN m act T (g, opN w m A)).1 19) := by
  obtain ⟨r0, r7, r8, r2, r3, r4, r5, b1, b2, b3⟩ := h
  have hmj : (j : Int) < (A 2 3).toInt := by rw [hm, nI_toInt (by omega)]; omega
  have hf : WFf (A 2) j := hW.2.2.2.1 j (by omega) hmj
  have hup := up_rng hW hf
  have hdn := dn_rng hW hf hw hg
  have e0 : q.1 0 = A 2 (16 + 9 * j) := r0 0 (by decide)
  have ed : downX (q.1 0) (q.1 6) (x 17 1) (nI w) (x 17 3) (a 18) = dnM A w j := by
    rw [dn_eq hB hw hg, e0, r0 6 (by decide)]
    rfl
  have o78 := opN_lo w m A hj
  have o2 : opN w m A 2 = A 2 := opN_n w m A (by decide) (by decide)
  have o9 : opN w m A 9 = A 9 := opN_n w m A (by decide) (by decide)
  have hsc := scale_rng (v := A 7 j) (dn := dnM A w j) (b := A 8 j) b2 b3 b1.1 b1.2 hdn.1 hdn.2
  have eup : upM (opN w m A) j = upM A j := upM_2 o2 j
  have hw1 : rW q.1 (dnM A w j) 7 = opN w m A 7 j := by
    rw [o78.2, ← r7, ← r8]
    rfl
  have hw8 : rW q.1 (dnM A w j) 8 = opN w m A 8 j := o78.1.symm
  have hSJ : SJ g (opN w m A) j (rW q.1 (dnM A w j)) q.2 := by
    refine ⟨⟨?_, ?_, ?_⟩, hw1, hw8, ?_, r3, r4, ?_⟩
    · rw [o2]; exact e0
    · rw [o2]; exact r0 1 (by decide)
    · rw [o2]; exact r0 2 (by decide)
    · rw [eup]; exact r2
    · rw [o9]; exact r5
  have hRO : RO (rW q.1 (dnM A w j)) q.2 := by
    refine ⟨?_, ?_, ?_, ?_, ?_⟩
    · rw [r2]; exact hup
    · rw [hw8, o78.1]; exact hdn
    · rw [show rW q.1 (dnM A w j) 1 = q.1 1 from rfl, r0 1 (by decide)]; exact hf.2.1
    · rw [hw1, o78.2]; exact hsc.1
    · rw [hw1, hw8, o78.2, o78.1]; exact hsc.2
  have hB2 := hB
  obtain ⟨⟨-, -, -, -, -, -, b6⟩, bs, -⟩ := hB2
  have s7 := bs 0 (by decide)
  have s8 := bs 1 (by decide)
  have s10 := bs 3 (by decide)
  have hps := psR_eq (act := act) (T := T) hSJ hRO (oiled := x 17 8) (oil := a 21 3) (shoe := a 21 1) (hill := a 21 0) (by rw [o2]; exact b6.symm) (by rw [o2]; exact s10.symm) (by rw [o2]; exact s8.symm) (by rw [o2]; exact s7.symm) (by rw [o2]; exact hW.2.1.2.1) (by rw [show rW q.1 (dnM A w j) 2 = q.1 2 from rfl, r0 2 (by decide)]; exact hf.2.2.1.1) (by rw [show rW q.1 (dnM A w j) 2 = q.1 2 from rfl, r0 2 (by decide)]; exact hf.2.2.1.2) ht1 ht2 hT ha1 ha2
  have hq : ∀ k, k ≠ 5 → k ≠ 7 → fsR (ckT act g (opN w m A) j) (100 * T) q.2 k = q.2 k := fun k h5 h7 => fsR_lo _ _ _ h5 h7
  have hst : stX x a act (nI w) T q = (psW act T (q.2 2) (rW q.1 (dnM A w j)), psT T (fsR (ckT act g (opN w m A) j) (100 * T) q.2)) := by
    unfold stX
    rw [ed, hps, hq 2 (by decide) (by decide)]
  have hpw := psW_eq (act := act) (kind := A 2 (16 + 9 * j)) (up := q.2 2) (by_ := opN w m A 8 j) (w0 := opN w m A 7 j) (T := T) (w := rW q.1 (dnM A w j)) e0 hw1 hw8 hf.1.1 hf.1.2 (by rw [r2]; exact hup.1) (by rw [r2]; exact hup.2) (by rw [o78.1]; exact hdn.1) (by rw [o78.1]; exact hdn.2) (by rw [o78.2]; exact hsc.1) (by rw [o78.2, o78.1]; exact hsc.2) hT ha1 ha2
  -- the model's side, for counting, with numbers of its own for what is asked
  have pj := PJ_stage (act := act) (g := g) (A := opN w m A) (j := j) (m := m) (r := upd (upd q.2 6 (g 18)) 7 (g 19)) hj hm8 r4 (by rw [o9]; exact r5) rfl rfl T
  obtain ⟨p7, p9, p12, p13, p17, p18, p2, p8, p19⟩ := pj
  refine ⟨?_, ⟨?_, by rw [ed]; exact hRO⟩, ?_⟩
  · rw [hst]
    refine ⟨?_, ?_, ?_, ?_, ?_, ?_, ?_, ?_, ?_, ?_⟩
    · intro k hk
      rw [p2, o2, ← r0 k hk]
      show psW act T (q.2 2) (rW q.1 (dnM A w j)) k = q.1 k
      unfold psW rW upd
      rw [if_neg (by omega), if_neg (by omega), if_neg (by omega)]
    · rw [p7, o2, eup, ← r2]
      exact hpw.1
    · rw [p8]
      exact hw8
    · show fsR _ _ q.2 2 = _
      rw [hq 2 (by decide) (by decide), upM_2 (p2.trans o2)]
      exact r2
    · show fsR _ _ q.2 3 + nI T = _
      rw [hq 3 (by decide) (by decide), r3, p12]
    · show fsR _ _ q.2 4 + nI T * 100 = _
      rw [hq 4 (by decide) (by decide), r4, p13, show (100 : Int32) = nI 100 from rfl, pk_mul, Nat.mul_comm]
    · show fsR _ _ q.2 5 = _
      rw [p9]
      exact fsR_5 (r := q.2) (r' := upd (upd q.2 6 (g 18)) 7 (g 19)) rfl _
    · rw [p8, o78.1]
      exact hdn
    · rw [p7, o2, eup, ← r2, ← hpw.1]
      exact hpw.2.1
    · rw [p7, o2, eup, ← r2, ← hpw.1, p8]
      exact hpw.2.2
  · rw [r8, Int32.lt_iff_toInt_lt]
    show 0 < _
    omega
  · intro h17 h6 h7
    rw [hst, p19 h17]
    show fsR _ _ q.2 7 = _
    rw [← h6, ← h7]
    congr 1
    funext k
    unfold upd
    by_cases k7 : k = 7
    · rw [if_pos k7, k7]
    · rw [if_neg k7]
      by_cases k6 : k = 6
      · rw [if_pos k6, k6]
      · rw [if_neg k6]
