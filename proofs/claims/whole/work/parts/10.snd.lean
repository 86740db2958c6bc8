theorem ab_Ex_le {d kd : Nat} {y : MethodName} {a : List AV} {h h' : AH} {v : Option AV} (hC : ab_Ex d kd y a h v h') : h.1 ≤ h'.1 := by
  obtain ⟨_, _, _, _, hh, _⟩ := hC
  exact hh
theorem ab_new_spec {cap : Nat} {h : AH} {n : Nat} {ce : AC} {k : AV → AH → Prop} (hc : ab_new cap h n ce k) : h.1 < cap ∧ ab_sz h.1 = n ∧ k (vR (ab_bk h.1) (ab_of h.1)) (ab_push h ce) := by
  unfold ab_new at hc
  split at hc
  · rename_i h1
    split at hc
    · rename_i h2
      rw [ab_lset_eq] at hc
      exact ⟨Nat.le_of_ble_eq_true h1, Nat.eq_of_beq_eq_true h2, hc⟩
    · exact hc.elim
  · exact hc.elim
def ab_finB (k i : Nat) : Bool := (decide (ab_fin k i = vI 0) && !(ab_TT k i).2.2.2 && decide (ab_ty k i = .int)) || (decide (ab_fin k i = vI 1) && !(ab_TT k i).2.2.2 && decide (ab_ty k i = .boolean)) || (decide (ab_fin k i = vI 2) && (ab_TT k i).2.2.2 && (ab_ty k i).isReference && decide ((ab_TT k i).1 = ab_cn k))
theorem ab_finB_all : ∀ k, k < 6 → ∀ i, i < ab_NN k → ab_finB k i = true := by decide +kernel
theorem ab_fin_or {k i : Nat} (hk : k < 6) (hi : i < ab_NN k) : (ab_fin k i = vI 0 ∧ (ab_TT k i).2.2.2 = false ∧ ab_ty k i = .int) ∨ (ab_fin k i = vI 1 ∧ (ab_TT k i).2.2.2 = false ∧ ab_ty k i = .boolean) ∨ (ab_fin k i = vI 2 ∧ (ab_TT k i).2.2.2 = true ∧ (ab_ty k i).isReference = true ∧ (ab_TT k i).1 = ab_cn k) := by
  have h := ab_finB_all k hk i hi
  simp only [ab_finB, Bool.or_eq_true, Bool.and_eq_true, decide_eq_true_eq, Bool.not_eq_true'] at h
  rcases h with (⟨⟨h1, h2⟩, h3⟩ | ⟨⟨h1, h2⟩, h3⟩) | ⟨⟨⟨h1, h2⟩, h3⟩, h4⟩
  · exact Or.inl ⟨h1, h2, h3⟩
  · exact Or.inr (Or.inl ⟨h1, h2, h3⟩)
  · exact Or.inr (Or.inr ⟨h1, h2, h3, h4⟩)
theorem ab_vI_ne {x z : Int32} (h : x ≠ z) : vI x ≠ vI z := fun e => h (Sum.inl.inj (Option.some.inj e))
theorem ab_fin_0 {k i : Nat} (hk : k < 6) (hi : i < ab_NN k) (h : ab_fin k i = vI 0) : (ab_TT k i).2.2.2 = false ∧ ab_ty k i = .int := by
  rcases ab_fin_or hk hi with h1 | h1 | h1
  · exact h1.2
  · exact absurd (h.symm.trans h1.1) (ab_vI_ne (by decide))
  · exact absurd (h.symm.trans h1.1) (ab_vI_ne (by decide))
theorem ab_fin_1 {k i : Nat} (hk : k < 6) (hi : i < ab_NN k) (h : ab_fin k i = vI 1) : (ab_TT k i).2.2.2 = false ∧ ab_ty k i = .boolean := by
  rcases ab_fin_or hk hi with h1 | h1 | h1
  · exact absurd (h.symm.trans h1.1) (ab_vI_ne (by decide))
  · exact h1.2
  · exact absurd (h.symm.trans h1.1) (ab_vI_ne (by decide))
theorem ab_fin_2 {k i : Nat} (hk : k < 6) (hi : i < ab_NN k) (h : ab_fin k i = vI 2) : (ab_TT k i).2.2.2 = true ∧ (ab_ty k i).isReference = true ∧ (ab_TT k i).1 = ab_cn k := by
  rcases ab_fin_or hk hi with h1 | h1 | h1
  · exact absurd (h.symm.trans h1.1) (ab_vI_ne (by decide))
  · exact absurd (h.symm.trans h1.1) (ab_vI_ne (by decide))
  · exact h1.2
theorem ab_ref_ty {t : FieldType} (h : t.isReference = true) : (∃ n, t = .object n) ∨ ∃ n, t = .array n := by
  cases t <;> first | exact Or.inl ⟨_, rfl⟩ | exact Or.inr ⟨_, rfl⟩ | cases h
set_option maxHeartbeats 4000000 in
set_option maxRecDepth 100000 in
/-- a step of the picture is a step of the machine -/
theorem ab_snd {j : MI} {d : Nat} {E : Nat × (Nat → Int32)} {h0 : AH} {cap : Nat} {Q : Option AV → AH → Prop} {K : List IE → Lv → List AV → AH → Prop} (hg : ab_tab j = true) (hcap : cap ≤ 70)
    (hK : ∀ (cs : List IE) (lv : Lv) (st : List AV) (h : AH), cs <:+ j.2.2.2.2.2 → K cs lv st h → ab_W j d E h0 cap Q cs lv st h) {e : IE} {tl : List IE} (hs : e :: tl <:+ j.2.2.2.2.2) {lv : Lv} {st : List AV} {h : AH}
    (hst : ab_step (ab_Ex d) E j cap Q K e tl lv st h) : ab_W j d E h0 cap Q (e :: tl) lv st h := by
  obtain ⟨hr, hn⟩ := ab_suf hg hs
  have hstl : tl <:+ j.2.2.2.2.2 := (List.suffix_cons e tl).trans hs
  intro p l ev R s m args below meth c G D cI cF Z H locs ls X hR hb1 hb2 hS hl
  refine ⟨e, tl, rfl, ?_⟩
  obtain ⟨pc, ins, len, k, t, u, sw, y⟩ := e
  have nx : ab_Nx j h0 cap K p l ev R s m args below meth c G D cI cF Z tl (pc + len) := by
    intro lv' st' h' H' locs' ls' hk r1 b1 b2 s1 l1
    obtain ⟨i, r, he, hw⟩ := hK tl lv' st' h' hstl hk p l ev R s m args below meth c G D cI cF Z H' locs' ls' X r1 b1 b2 s1 l1
    rw [hn i r he] at hw
    exact hw
  have jp : ∀ (t' : Nat) (lv' : Lv) (st' : List AV), ab_go j.2.2.2.2.2 t' (fun cs => K cs lv' st' h) → lv_has ls j.2.2.1 (ab_lv G lv') → W p l ev R s m args below meth c H locs (h.1 - h0.1) (ab_sl h.1 - ab_sl h0.1) Z (F0 m t' ls (ab_vs G st')) := by
    intro t' lv' st' hgo l1
    obtain ⟨e', r', g1, g2, g3⟩ := ab_go_spec hgo
    obtain ⟨i, r, he, hw⟩ := hK _ lv' st' h g1 g3 p l ev R s m args below meth c G D cI cF Z H locs ls X hR hb1 hb2 hS l1
    cases he
    rw [g2] at hw
    exact hw
  have hx := X.1.1
  have hb := X.1.2.1
  have hml := X.1.2.2.1
  have hown := X.1.2.2.2.1
  have hts := X.1.2.2.2.2.1
  have hfr := X.2.1.1
  have hlo := X.2.1.2.1
  have hcl := X.2.1.2.2.1
  have hsl := X.2.1.2.2.2.1
  have hret0 := X.2.2.1
  have hret1 := X.2.2.2
  have hcells : h.1 - h0.1 ≤ R.cells := by omega
  have hslots : ab_sl h.1 - ab_sl h0.1 ≤ R.slots := by
    have := ab_sl_le hb2
    omega
  rw [ab_res, Bool.and_eq_true, decide_eq_true_eq] at hr
  obtain ⟨hd, hr2⟩ := hr
  cases ins
  all_goals try exact (show False from hst).elim

  case iconst n =>
    simp only [ab_res2, Bool.and_eq_true, decide_eq_true_eq] at hr2
    obtain ⟨rfl, rfl⟩ := hr2
    exact lv_iconst hx hb hd rfl (nx lv (_ :: st) h _ _ _ hst hR hb1 hb2 hS hl)
  case bipush n =>
    simp only [ab_res2, Bool.and_eq_true, decide_eq_true_eq] at hr2
    obtain ⟨rfl, rfl⟩ := hr2
    exact lv_bipush hx hb hd rfl (nx lv (_ :: st) h _ _ _ hst hR hb1 hb2 hS hl)
  case sipush n =>
    simp only [ab_res2, Bool.and_eq_true, decide_eq_true_eq] at hr2
    obtain ⟨rfl, rfl⟩ := hr2
    exact lv_sipush hx hb hd rfl (nx lv (_ :: st) h _ _ _ hst hR hb1 hb2 hS hl)
  case ldc i =>
    simp only [ab_res2, Bool.and_eq_true, decide_eq_true_eq] at hr2
    obtain ⟨rfl, hr2⟩ := hr2
    split at hr2
    · rename_i x
      obtain ⟨q, hq, hq2⟩ := ab_any hr2
      simp only [decide_eq_true_eq] at hq2
      obtain ⟨e1, e2, e3⟩ := hq2
      have hw := ab_kI_at q hq
      rw [e1, e2, e3] at hw
      exact lv_ldc hx hb hown (hts _ (ab_T_of _ hw rfl)) hd (nx lv (_ :: st) h _ _ _ hst hR hb1 hb2 hS hl)
    · exact absurd hr2 (by decide)
  case ldc2_w i =>
    simp only [ab_res2, Bool.and_eq_true, decide_eq_true_eq] at hr2
    obtain ⟨rfl, hr2⟩ := hr2
    split at hr2
    · rename_i x
      obtain ⟨q, hq, hq2⟩ := ab_any hr2
      simp only [decide_eq_true_eq] at hq2
      obtain ⟨e1, e2, e3⟩ := hq2
      have hw := ab_kL_at q hq
      rw [e1, e2, e3] at hw
      exact lv_ldc2 hx hb hown (hts _ (ab_T_of _ hw rfl)) hd (nx lv (_ :: st) h _ _ _ hst hR hb1 hb2 hS hl)
    · exact absurd hr2 (by decide)
  case iload i =>
    simp only [ab_res2, Bool.and_eq_true, decide_eq_true_eq] at hr2
    obtain rfl := hr2
    dsimp only [ab_step] at hst
    split at hst
    · rename_i x he
      exact lv_iload hx hb hd (ab_ld_at hl he) (nx lv (vI x :: st) h _ _ _ hst hR hb1 hb2 hS hl)
    · exact hst.elim
  case iload_n i =>
    simp only [ab_res2, Bool.and_eq_true, decide_eq_true_eq] at hr2
    obtain rfl := hr2
    dsimp only [ab_step] at hst
    split at hst
    · rename_i x he
      exact lv_iload_n hx hb hd rfl (ab_ld_at hl he) (nx lv (vI x :: st) h _ _ _ hst hR hb1 hb2 hS hl)
    · exact hst.elim
  case aload i =>
    simp only [ab_res2, Bool.and_eq_true, decide_eq_true_eq] at hr2
    obtain rfl := hr2
    dsimp only [ab_step] at hst
    split at hst
    · rename_i x he
      exact lv_aload hx hb hd (ab_ld_at hl he) (nx lv (vR x.1 x.2 :: st) h _ _ _ hst hR hb1 hb2 hS hl)
    · exact hst.elim
  case aload_n i =>
    simp only [ab_res2, Bool.and_eq_true, decide_eq_true_eq] at hr2
    obtain rfl := hr2
    dsimp only [ab_step] at hst
    split at hst
    · rename_i x he
      exact lv_aload_n hx hb hd rfl (ab_ld_at hl he) (nx lv (vR x.1 x.2 :: st) h _ _ _ hst hR hb1 hb2 hS hl)
    · exact hst.elim
  case lload i =>
    simp only [ab_res2, Bool.and_eq_true, decide_eq_true_eq] at hr2
    obtain rfl := hr2
    dsimp only [ab_step] at hst
    split at hst
    · rename_i x he
      exact lv_lload hx hb hd (ab_ld_at hl he) (nx lv (vL x :: st) h _ _ _ hst hR hb1 hb2 hS hl)
    · exact hst.elim
  case lload_n i =>
    simp only [ab_res2, Bool.and_eq_true, decide_eq_true_eq] at hr2
    obtain rfl := hr2
    dsimp only [ab_step] at hst
    split at hst
    · rename_i x he
      exact lv_lload_n hx hb hd rfl (ab_ld_at hl he) (nx lv (vL x :: st) h _ _ _ hst hR hb1 hb2 hS hl)
    · exact hst.elim
  case istore i =>
    simp only [ab_res2, Bool.and_eq_true, decide_eq_true_eq] at hr2
    obtain ⟨rfl, hi⟩ := hr2
    dsimp only [ab_step] at hst
    split at hst
    · rename_i x s'
      rw [ab_nrm_eq] at hst
      refine lv_istore hx hb hd hl hi (lv' := ab_lv G ((i, vI x) :: ab_rm lv i)) (by rw [ab_rm_eq]; rfl) (fun ls' hl' => ?_)
      exact nx _ s' h _ _ _ hst hR hb1 hb2 hS hl'
    · exact hst.elim
  case istore_n i =>
    simp only [ab_res2, Bool.and_eq_true, decide_eq_true_eq] at hr2
    obtain ⟨rfl, hi⟩ := hr2
    dsimp only [ab_step] at hst
    split at hst
    · rename_i x s'
      rw [ab_nrm_eq] at hst
      refine lv_istore_n hx hb hd rfl hl hi (lv' := ab_lv G ((i.val, vI x) :: ab_rm lv i.val)) (by rw [ab_rm_eq]; rfl) (fun ls' hl' => ?_)
      exact nx _ s' h _ _ _ hst hR hb1 hb2 hS hl'
    · exact hst.elim
  case astore i =>
    simp only [ab_res2, Bool.and_eq_true, decide_eq_true_eq] at hr2
    obtain ⟨rfl, hi⟩ := hr2
    dsimp only [ab_step] at hst
    split at hst
    · rename_i x s'
      rw [ab_nrm_eq] at hst
      refine lv_astore hx hb hd hl hi (lv' := ab_lv G ((i, vR x.1 x.2) :: ab_rm lv i)) (by rw [ab_rm_eq]; rfl) (fun ls' hl' => ?_)
      exact nx _ s' h _ _ _ hst hR hb1 hb2 hS hl'
    · exact hst.elim
  case astore_n i =>
    simp only [ab_res2, Bool.and_eq_true, decide_eq_true_eq] at hr2
    obtain ⟨rfl, hi⟩ := hr2
    dsimp only [ab_step] at hst
    split at hst
    · rename_i x s'
      rw [ab_nrm_eq] at hst
      refine lv_astore_n hx hb hd rfl hl hi (lv' := ab_lv G ((i.val, vR x.1 x.2) :: ab_rm lv i.val)) (by rw [ab_rm_eq]; rfl) (fun ls' hl' => ?_)
      exact nx _ s' h _ _ _ hst hR hb1 hb2 hS hl'
    · exact hst.elim
  case iinc i n =>
    simp only [ab_res2, Bool.and_eq_true, decide_eq_true_eq] at hr2
    obtain ⟨⟨rfl, hi⟩, rfl⟩ := hr2
    dsimp only [ab_step] at hst
    split at hst
    · rename_i x he
      rw [ab_nrm_eq] at hst
      have hmem : (i, Value.int x) ∈ ab_lv G lv := List.mem_map.mpr ⟨(i, vI x), ab_ld_mem he, rfl⟩
      obtain ⟨kk, hkk⟩ := List.getElem?_of_mem hmem
      refine lv_iinc (v := x + Int32.ofInt n) hx hb hd hl hkk rfl hi (lv' := ab_lv G ((i, vI (x + Int32.ofInt n)) :: ab_rm lv i)) (by rw [ab_rm_eq]; rfl) (fun ls' hl' => ?_)
      exact nx _ st h _ _ _ hst hR hb1 hb2 hS hl'
    · exact hst.elim
  case iadd =>
    simp only [ab_res2, Bool.and_eq_true, decide_eq_true_eq] at hr2
    obtain rfl := hr2
    dsimp only [ab_step] at hst
    split at hst
    · rename_i z x s'
      exact lv_iadd hx hb hd (nx lv (vI (x + z) :: s') h _ _ _ hst hR hb1 hb2 hS hl)
    · exact hst.elim
  case isub =>
    simp only [ab_res2, Bool.and_eq_true, decide_eq_true_eq] at hr2
    obtain rfl := hr2
    dsimp only [ab_step] at hst
    split at hst
    · rename_i z x s'
      exact lv_isub hx hb hd (nx lv (vI (x - z) :: s') h _ _ _ hst hR hb1 hb2 hS hl)
    · exact hst.elim
  case imul =>
    simp only [ab_res2, Bool.and_eq_true, decide_eq_true_eq] at hr2
    obtain rfl := hr2
    dsimp only [ab_step] at hst
    split at hst
    · rename_i z x s'
      exact lv_imul hx hb hd (nx lv (vI (x * z) :: s') h _ _ _ hst hR hb1 hb2 hS hl)
    · exact hst.elim
  case iand =>
    simp only [ab_res2, Bool.and_eq_true, decide_eq_true_eq] at hr2
    obtain rfl := hr2
    dsimp only [ab_step] at hst
    split at hst
    · rename_i z x s'
      exact lv_iand hx hb hd (nx lv (vI (x &&& z) :: s') h _ _ _ hst hR hb1 hb2 hS hl)
    · exact hst.elim
  case ior =>
    simp only [ab_res2, Bool.and_eq_true, decide_eq_true_eq] at hr2
    obtain rfl := hr2
    dsimp only [ab_step] at hst
    split at hst
    · rename_i z x s'
      exact lv_ior hx hb hd (nx lv (vI (x ||| z) :: s') h _ _ _ hst hR hb1 hb2 hS hl)
    · exact hst.elim
  case ishl =>
    simp only [ab_res2, Bool.and_eq_true, decide_eq_true_eq] at hr2
    obtain rfl := hr2
    dsimp only [ab_step] at hst
    split at hst
    · rename_i z x s'
      exact lv_ishl hx hb hd (nx lv (vI (x <<< (z &&& 31)) :: s') h _ _ _ hst hR hb1 hb2 hS hl)
    · exact hst.elim
  case ishr =>
    simp only [ab_res2, Bool.and_eq_true, decide_eq_true_eq] at hr2
    obtain rfl := hr2
    dsimp only [ab_step] at hst
    split at hst
    · rename_i z x s'
      exact lv_ishr hx hb hd (nx lv (vI (x >>> (z &&& 31)) :: s') h _ _ _ hst hR hb1 hb2 hS hl)
    · exact hst.elim
  case land =>
    simp only [ab_res2, Bool.and_eq_true, decide_eq_true_eq] at hr2
    obtain rfl := hr2
    dsimp only [ab_step] at hst
    split at hst
    · rename_i z x s'
      exact lv_land hx hb hd (nx lv (vL (x &&& z) :: s') h _ _ _ hst hR hb1 hb2 hS hl)
    · exact hst.elim
  case lor =>
    simp only [ab_res2, Bool.and_eq_true, decide_eq_true_eq] at hr2
    obtain rfl := hr2
    dsimp only [ab_step] at hst
    split at hst
    · rename_i z x s'
      exact lv_lor hx hb hd (nx lv (vL (x ||| z) :: s') h _ _ _ hst hR hb1 hb2 hS hl)
    · exact hst.elim
  case idiv =>
    simp only [ab_res2, Bool.and_eq_true, decide_eq_true_eq] at hr2
    obtain rfl := hr2
    dsimp only [ab_step] at hst
    split at hst
    · rename_i z x s'
      exact lv_idiv hx hb hd hst.1 (nx lv (vI (x / z) :: s') h _ _ _ hst.2 hR hb1 hb2 hS hl)
    · exact hst.elim
  case irem =>
    simp only [ab_res2, Bool.and_eq_true, decide_eq_true_eq] at hr2
    obtain rfl := hr2
    dsimp only [ab_step] at hst
    split at hst
    · rename_i z x s'
      exact lv_irem hx hb hd hst.1 (nx lv (vI (ab_rem x z) :: s') h _ _ _ hst.2 hR hb1 hb2 hS hl)
    · exact hst.elim
  case ineg =>
    simp only [ab_res2, Bool.and_eq_true, decide_eq_true_eq] at hr2
    obtain rfl := hr2
    dsimp only [ab_step] at hst
    split at hst
    · rename_i x s'
      exact lv_ineg hx hb hd (nx lv (vI (-x) :: s') h _ _ _ hst hR hb1 hb2 hS hl)
    · exact hst.elim
  case i2l =>
    simp only [ab_res2, Bool.and_eq_true, decide_eq_true_eq] at hr2
    obtain rfl := hr2
    dsimp only [ab_step] at hst
    split at hst
    · rename_i x s'
      exact lv_i2l hx hb hd rfl (nx lv (vL x.toInt64 :: s') h _ _ _ hst hR hb1 hb2 hS hl)
    · exact hst.elim
  case l2i =>
    simp only [ab_res2, Bool.and_eq_true, decide_eq_true_eq] at hr2
    obtain rfl := hr2
    dsimp only [ab_step] at hst
    split at hst
    · rename_i x s'
      exact lv_l2i hx hb hd rfl (nx lv (vI x.toInt32 :: s') h _ _ _ hst hR hb1 hb2 hS hl)
    · exact hst.elim
  case lshl =>
    simp only [ab_res2, Bool.and_eq_true, decide_eq_true_eq] at hr2
    obtain rfl := hr2
    dsimp only [ab_step] at hst
    split at hst
    · rename_i z x s'
      exact lv_lshl hx hb hd rfl (nx lv (vL _ :: s') h _ _ _ hst hR hb1 hb2 hS hl)
    · exact hst.elim
  case lshr =>
    simp only [ab_res2, Bool.and_eq_true, decide_eq_true_eq] at hr2
    obtain rfl := hr2
    dsimp only [ab_step] at hst
    split at hst
    · rename_i z x s'
      exact lv_lshr hx hb hd rfl (nx lv (vL _ :: s') h _ _ _ hst hR hb1 hb2 hS hl)
    · exact hst.elim
  case lushr =>
    simp only [ab_res2, Bool.and_eq_true, decide_eq_true_eq] at hr2
    obtain rfl := hr2
    dsimp only [ab_step] at hst
    split at hst
    · rename_i z x s'
      exact lv_lushr hx hb hd rfl (nx lv (vL _ :: s') h _ _ _ hst hR hb1 hb2 hS hl)
    · exact hst.elim
  case dup =>
    simp only [ab_res2, Bool.and_eq_true, decide_eq_true_eq] at hr2
    obtain rfl := hr2
    dsimp only [ab_step] at hst
    split at hst
    · rename_i v' s'
      split at hst
      · exact hst.elim
      · rename_i hc2
        exact lv_dup hx hb hd (by rw [ab_v_cat, hc2]; rfl) (nx lv (v' :: v' :: s') h _ _ _ hst hR hb1 hb2 hS hl)
    · exact hst.elim
  case dup2 =>
    simp only [ab_res2, Bool.and_eq_true, decide_eq_true_eq] at hr2
    obtain rfl := hr2
    dsimp only [ab_step] at hst
    split at hst
    · rename_i v' w' s'
      split at hst
      · exact hst.elim
      · rename_i hc2
        split at hst
        · exact hst.elim
        · rename_i hc3
          exact lv_dup2_11 hx hb hd (by rw [ab_v_cat, hc2]; rfl) (by rw [ab_v_cat, hc3]; rfl) (nx lv (v' :: w' :: v' :: w' :: s') h _ _ _ hst hR hb1 hb2 hS hl)
    · exact hst.elim
  case pop =>
    simp only [ab_res2, Bool.and_eq_true, decide_eq_true_eq] at hr2
    obtain rfl := hr2
    dsimp only [ab_step] at hst
    split at hst
    · rename_i v' s'
      split at hst
      · exact hst.elim
      · rename_i hc2
        exact lv_pop hx hb hd (by rw [ab_v_cat, hc2]; rfl) (nx lv s' h _ _ _ hst hR hb1 hb2 hS hl)
    · exact hst.elim
  case goto off =>
    simp only [ab_res2, ab_tg, Bool.and_eq_true, decide_eq_true_eq] at hr2
    obtain ⟨rfl, ht⟩ := hr2
    exact lv_goto hx hb hd ht (jp t lv st hst hl)
  case ifCond cd off =>
    simp only [ab_res2, ab_tg, Bool.and_eq_true, decide_eq_true_eq] at hr2
    obtain ⟨rfl, ht⟩ := hr2
    dsimp only [ab_step] at hst
    split at hst
    · rename_i x s'
      cases cd
      case eq => exact lv_if_eq hx hb hd ht (fun q => jp t lv s' (hst.1 q) hl) (fun q => nx lv s' h _ _ _ (hst.2 q) hR hb1 hb2 hS hl)
      case ne => exact lv_if_ne hx hb hd ht (fun q => jp t lv s' (hst.1 q) hl) (fun q => nx lv s' h _ _ _ (hst.2 q) hR hb1 hb2 hS hl)
      case lt => exact lv_if_lt hx hb hd ht (fun q => jp t lv s' (hst.1 q) hl) (fun q => nx lv s' h _ _ _ (hst.2 q) hR hb1 hb2 hS hl)
      case ge => exact lv_if_ge hx hb hd ht (fun q => jp t lv s' (hst.1 q) hl) (fun q => nx lv s' h _ _ _ (hst.2 q) hR hb1 hb2 hS hl)
      case gt => exact lv_if_gt hx hb hd ht (fun q => jp t lv s' (hst.1 q) hl) (fun q => nx lv s' h _ _ _ (hst.2 q) hR hb1 hb2 hS hl)
      case le => exact lv_if_le hx hb hd ht (fun q => jp t lv s' (hst.1 q) hl) (fun q => nx lv s' h _ _ _ (hst.2 q) hR hb1 hb2 hS hl)
    · exact hst.elim
  case if_icmp cd off =>
    simp only [ab_res2, ab_tg, Bool.and_eq_true, decide_eq_true_eq] at hr2
    obtain ⟨rfl, ht⟩ := hr2
    dsimp only [ab_step] at hst
    split at hst
    · rename_i z x s'
      cases cd
      case eq => exact lv_icmp_eq hx hb hd ht (fun q => jp t lv s' (hst.1 q) hl) (fun q => nx lv s' h _ _ _ (hst.2 q) hR hb1 hb2 hS hl)
      case ne => exact lv_icmp_ne hx hb hd ht (fun q => jp t lv s' (hst.1 q) hl) (fun q => nx lv s' h _ _ _ (hst.2 q) hR hb1 hb2 hS hl)
      case lt => exact lv_icmp_lt hx hb hd ht (fun q => jp t lv s' (hst.1 q) hl) (fun q => nx lv s' h _ _ _ (hst.2 q) hR hb1 hb2 hS hl)
      case ge => exact lv_icmp_ge hx hb hd ht (fun q => jp t lv s' (hst.1 q) hl) (fun q => nx lv s' h _ _ _ (hst.2 q) hR hb1 hb2 hS hl)
      case gt => exact lv_icmp_gt hx hb hd ht (fun q => jp t lv s' (hst.1 q) hl) (fun q => nx lv s' h _ _ _ (hst.2 q) hR hb1 hb2 hS hl)
      case le => exact lv_icmp_le hx hb hd ht (fun q => jp t lv s' (hst.1 q) hl) (fun q => nx lv s' h _ _ _ (hst.2 q) hR hb1 hb2 hS hl)
    · exact hst.elim
  case tableswitch dflt lo hi offs =>
    simp only [ab_res2, ab_tg, Bool.and_eq_true, decide_eq_true_eq] at hr2
    obtain ⟨⟨ht, hsw⟩, hhi⟩ := hr2
    dsimp only [ab_step] at hst
    split at hst
    · rename_i x s'
      obtain ⟨k1, k2⟩ := ab_tsw_spec hsw hst
      by_cases hxx : x.toInt < lo ∨ hi < x.toInt
      · refine lv_tableOut hx hb hd hxx ht (jp t lv s' (k1 ?_) hl)
        rw [Array.length_toList]
        omega
      · have hlen : (x.toInt - lo).toNat < offs.size := by omega
        have ho : offs[(x.toInt - lo).toNat]? = some offs[(x.toInt - lo).toNat] := Array.getElem?_eq_getElem hlen
        obtain ⟨t', e1, e2⟩ := k2 (x.toInt - lo).toNat offs[(x.toInt - lo).toNat] (by rw [Array.getElem?_toList]; exact ho) (by omega)
        exact lv_tableIn hx hb hd (fun q => hxx (Or.inl q)) (fun q => hxx (Or.inr q)) ho e1 (jp t' lv s' e2 hl)
    · exact hst.elim
  case lookupswitch dflt ps =>
    simp only [ab_res2, ab_tg, Bool.and_eq_true, decide_eq_true_eq] at hr2
    obtain ⟨⟨ht, hsw⟩, hps⟩ := hr2
    dsimp only [ab_step] at hst
    split at hst
    · rename_i x s'
      obtain ⟨t', e1, e2⟩ := ab_lsw_spec ht hsw hst
      exact lv_lookup hx hb hd hps rfl e1 (jp t' lv s' e2 hl)
    · exact hst.elim
  case getfield i =>
    simp only [ab_res2, Bool.and_eq_true, decide_eq_true_eq] at hr2
    obtain ⟨rfl, hf⟩ := hr2
    obtain ⟨q, hq, hq2⟩ := ab_any hf
    simp only [decide_eq_true_eq] at hq2
    obtain ⟨q1, q2, q3, q4, q5⟩ := q
    obtain ⟨rfl, rfl, rfl, rfl⟩ := hq2
    dsimp only [ab_step] at hst
    split at hst
    · rename_i r s'
      obtain ⟨hok, h2⟩ := ab_chk_spec hst
      split at h2
      · rename_i ce hge
        split at h2
        · rename_i hbe
          split at h2
          · rename_i v' hv
            obtain ⟨c1, c2⟩ := ce
            have e1 : c1 = q3 := Nat.eq_of_beq_eq_true hbe
            subst e1
            exact ab_s_get X hR hok hge hv hq hd (nx lv (v' :: s') h _ _ _ h2 hR hb1 hb2 hS hl)
          · exact h2.elim
        · exact h2.elim
      · exact h2.elim
    · exact hst.elim
  case putfield i =>
    simp only [ab_res2, Bool.and_eq_true, decide_eq_true_eq] at hr2
    obtain ⟨⟨⟨rfl, hf⟩, hfin⟩, hoc⟩ := hr2
    obtain ⟨q, hq, hq2⟩ := ab_any hf
    simp only [decide_eq_true_eq] at hq2
    obtain ⟨q1, q2, q3, q4, q5⟩ := q
    obtain ⟨rfl, rfl, rfl, rfl⟩ := hq2
    obtain ⟨f1, f2, -⟩ := ab_fl_at _ hq
    dsimp only [ab_step] at hst
    split at hst
    · rename_i v' r s'
      obtain ⟨hok, h2⟩ := ab_chk_spec hst
      split at h2
      · rename_i ce hge
        split at h2
        · rename_i hbe
          split at h2
          · rename_i hlt
            have hlt : q4 < ce.2.length := Nat.le_of_ble_eq_true hlt
            obtain ⟨c1, c2⟩ := ce
            have e1 : c1 = q3 := Nat.eq_of_beq_eq_true hbe
            subst e1
            split at h2
            · rename_i x
              rw [ab_nrm_eq] at h2
              have h3 := ab_wr_spec h2
              obtain ⟨e2, e3⟩ := ab_fin_0 f1 f2 hfin.symm
              refine ab_s_put (v := vI x) X hR hS hok hge hlt hq e2 (by rw [e3]; rfl) (by rw [e3]; rfl) hd (fun H1 locs1 r1 s1 => ?_)
              exact nx lv s' (ab_set h _ _ _) H1 locs1 ls h3 r1 hb1 hb2 s1 hl
            · rename_i x
              obtain ⟨hx01, h2⟩ := h2
              rw [ab_nrm_eq] at h2
              have h3 := ab_wr_spec h2
              obtain ⟨e2, e3⟩ := ab_fin_1 f1 f2 hfin.symm
              refine ab_s_put (v := vI x) X hR hS hok hge hlt hq e2 (by rw [e3]; rcases hx01 with rfl | rfl <;> rfl) (by rw [e3]; rcases hx01 with rfl | rfl <;> rfl) hd (fun H1 locs1 r1 s1 => ?_)
              exact nx lv s' (ab_set h _ _ _) H1 locs1 ls h3 r1 hb1 hb2 s1 hl
            · rename_i x
              split at h2
              · rename_i hini
                rw [ab_nrm_eq] at h2
                have h3 := ab_wr_spec h2
                obtain ⟨e2, e30, e4⟩ := ab_fin_2 f1 f2 hfin.symm
                have e3 := ab_ref_ty e30
                refine ab_s_putF (v := vR x.1 x.2) X hR hS hok hge hlt hq e2 hini ?_ (by rcases e3 with ⟨n, e3⟩ | ⟨n, e3⟩ <;> rw [e3] <;> rfl) (by rcases e3 with ⟨n, e3⟩ | ⟨n, e3⟩ <;> rw [e3] <;> rfl) hd (fun H1 locs1 r1 s1 => ?_)
                · rw [e4, hoc rfl]
                · exact nx lv s' (ab_set h _ _ _) H1 locs1 ls h3 r1 hb1 hb2 s1 hl
              · exact h2.elim
            · exact h2.elim
          · exact h2.elim
        · exact h2.elim
      · exact h2.elim
    · exact hst.elim
  case getstatic i =>
    simp only [ab_res2, Bool.and_eq_true, decide_eq_true_eq] at hr2
    obtain ⟨rfl, hf⟩ := hr2
    obtain ⟨q, hq, hq2⟩ := ab_any hf
    simp only [decide_eq_true_eq] at hq2
    obtain ⟨q1, q2, q3⟩ := q
    obtain ⟨rfl, rfl⟩ := hq2
    have hw := ab_gs_at _ hq
    exact va_gets hx hb X.1.2.2.2.2.2.2.2.2.1 hS hown (hts _ (ab_T_of _ hw rfl)) (fun _ h9 => h9) hd (nx lv (vR 1001 0 :: st) h _ _ _ hst hR hb1 hb2 hS hl)
  case iaload =>
    simp only [ab_res2, Bool.and_eq_true, decide_eq_true_eq] at hr2
    obtain rfl := hr2
    dsimp only [ab_step] at hst
    split at hst
    · rename_i i r s'
      exact ab_s_iald X hR hS hst (fun n f hk => hk.1) hd (fun n f hk => nx lv (vI (f i.toNatClampNeg) :: s') h _ _ _ hk.2 hR hb1 hb2 hS hl)
    · exact hst.elim
  case arraylength =>
    simp only [ab_res2, Bool.and_eq_true, decide_eq_true_eq] at hr2
    obtain rfl := hr2
    dsimp only [ab_step] at hst
    split at hst
    · rename_i r s'
      exact ab_s_alen X hR hS hst hd (fun n f hk => nx lv (vI (Int32.ofNat n) :: s') h _ _ _ hk hR hb1 hb2 hS hl)
    · exact hst.elim
  case iastore =>
    simp only [ab_res2, Bool.and_eq_true, decide_eq_true_eq] at hr2
    obtain rfl := hr2
    dsimp only [ab_step] at hst
    split at hst
    · rename_i x i r s'
      obtain ⟨hok, h2⟩ := ab_chk_spec hst
      split at h2
      · rename_i a hge
        exact ab_s_iast X hR hS hok hge h2.1 hd (fun H1 locs1 r1 s1 => nx lv s' (ab_set h _ _ _) H1 locs1 ls (ab_wr_spec h2.2) r1 hb1 hb2 s1 hl)
      · exact h2.elim
    · exact hst.elim
  case aaload =>
    simp only [ab_res2, Bool.and_eq_true, decide_eq_true_eq] at hr2
    obtain rfl := hr2
    dsimp only [ab_step] at hst
    split at hst
    · rename_i i r s'
      obtain ⟨hok, h2⟩ := ab_chk_spec hst
      split at h2
      · rename_i a hge
        obtain ⟨hi, q, hq, h3⟩ := h2
        exact ab_s_aald X hR hok hge hi hq hd (nx lv (vR q.1 q.2 :: s') h _ _ _ h3 hR hb1 hb2 hS hl)
      · exact h2.elim
    · exact hst.elim
  case aastore =>
    simp only [ab_res2, Bool.and_eq_true, decide_eq_true_eq] at hr2
    obtain rfl := hr2
    dsimp only [ab_step] at hst
    split at hst
    · rename_i q i r s'
      obtain ⟨hok, h2⟩ := ab_chk_spec hst
      obtain ⟨hok2, h2⟩ := ab_chk_spec h2
      split at h2
      · rename_i a hge
        split at h2
        · rename_i ce hge2
          split at h2
          · rename_i hbe
            obtain ⟨c1, c2⟩ := ce
            have e1 : c1 = 1 := Nat.eq_of_beq_eq_true hbe
            subst e1
            exact ab_s_aast X hR hS hok hok2 hge hge2 h2.1 hd (fun H1 locs1 r1 s1 => nx lv s' (ab_set h _ _ _) H1 locs1 ls (ab_wr_spec h2.2) r1 hb1 hb2 s1 hl)
          · exact h2.elim
        · exact h2.elim
      · exact h2.elim
    · exact hst.elim
  case invokevirtual i =>
    simp only [ab_res2, Bool.and_eq_true, decide_eq_true_eq] at hr2
    obtain ⟨⟨⟨⟨rfl, hu⟩, hf⟩, hdesc⟩, hci⟩ := hr2
    obtain ⟨q, hq, hq2⟩ := ab_any hf
    simp only [decide_eq_true_eq] at hq2
    obtain ⟨q1, q2, q3, q4⟩ := q
    obtain ⟨rfl, rfl, rfl⟩ := hq2
    dsimp only [ab_step] at hst
    obtain ⟨b, o, fs, g1, g2, g3, g4⟩ := ab_rcv_spec hst
    obtain ⟨c1, c2, v, h', c3, c4, c5⟩ := ab_call_spec g4
    obtain ⟨As, a1, a2, a3⟩ := ab_split hu c1 g1
    rw [a1] at c3
    rw [a3]
    exact ab_s_callV X hR hS hl.1 hb1 c4 g2 g3 hci c2 hq (by rw [a2]; exact hdesc) c3 hd (fun H1 locs1 r1 s1 => nx lv _ h' _ _ _ c5 r1 (Nat.le_trans hb1 (ab_Ex_le c3)) c4 s1 hl)
  case invokestatic i =>
    simp only [ab_res2, Bool.and_eq_true, decide_eq_true_eq] at hr2
    obtain ⟨rfl, hr2⟩ := hr2
    dsimp only [ab_step] at hst
    split at hst
    · have hr2 : ab_mabs.any (fun q => decide (q.1 = j.1 ∧ q.2.1 = i)) = true := hr2
      obtain ⟨q, hq, hq2⟩ := ab_any hr2
      simp only [decide_eq_true_eq] at hq2
      obtain ⟨q1, q2, q3⟩ := q
      obtain ⟨rfl, rfl⟩ := hq2
      have hw := ab_abs_at _ hq
      split at hst
      · rename_i x s'
        split at hst
        · rename_i hcat
          have hcat := Nat.le_of_ble_eq_true hcat
          exact va_mabs hx hb (by rw [hml, hl.1]) hown (hts _ (ab_T_of _ hw rfl)) (hts _ ab_w_abss) (hts _ ab_w_im) (hts _ ab_w_absc) (by omega) (by have hq9 := ab_cat_eq G s'; unfold ab_vs at hq9; omega) hcells hslots hd (nx lv (vI _ :: s') h _ _ _ hst hR hb1 hb2 hS hl)
        · exact hst.elim
      · exact hst.elim
    · have hr2 : ab_mmax.any (fun q => decide (q.1 = j.1 ∧ q.2.1 = i)) = true := hr2
      obtain ⟨q, hq, hq2⟩ := ab_any hr2
      simp only [decide_eq_true_eq] at hq2
      obtain ⟨q1, q2, q3⟩ := q
      obtain ⟨rfl, rfl⟩ := hq2
      have hw := ab_max_at _ hq
      split at hst
      · rename_i z x s'
        split at hst
        · rename_i hcat
          have hcat := Nat.le_of_ble_eq_true hcat
          exact va_mmax hx hb (by rw [hml, hl.1]) hown (hts _ (ab_T_of _ hw rfl)) (hts _ ab_w_maxs) (hts _ ab_w_im) (hts _ ab_w_maxc) (by omega) (by have hq9 := ab_cat_eq G s'; unfold ab_vs at hq9; omega) hcells hslots hd (nx lv (vI _ :: s') h _ _ _ hst hR hb1 hb2 hS hl)
        · exact hst.elim
      · exact hst.elim
    · have hr2 : ab_mmin.any (fun q => decide (q.1 = j.1 ∧ q.2.1 = i)) = true := hr2
      obtain ⟨q, hq, hq2⟩ := ab_any hr2
      simp only [decide_eq_true_eq] at hq2
      obtain ⟨q1, q2, q3⟩ := q
      obtain ⟨rfl, rfl⟩ := hq2
      have hw := ab_min_at _ hq
      split at hst
      · rename_i z x s'
        split at hst
        · rename_i hcat
          have hcat := Nat.le_of_ble_eq_true hcat
          exact va_mmin hx hb (by rw [hml, hl.1]) hown (hts _ (ab_T_of _ hw rfl)) (hts _ ab_w_mins) (hts _ ab_w_im) (hts _ ab_w_minc) (by omega) (by have hq9 := ab_cat_eq G s'; unfold ab_vs at hq9; omega) hcells hslots hd (nx lv (vI _ :: s') h _ _ _ hst hR hb1 hb2 hS hl)
        · exact hst.elim
      · exact hst.elim
    · have hr2 : ab_ac.any (fun q => decide (q.1 = j.1 ∧ q.2.1 = i)) = true := hr2
      obtain ⟨q, hq, hq2⟩ := ab_any hr2
      simp only [decide_eq_true_eq] at hq2
      obtain ⟨q1, q2, q3⟩ := q
      obtain ⟨rfl, rfl⟩ := hq2
      split at hst
      · rename_i n dp r sp q' s'
        split at hst
        · rename_i hcat
          have hcat := Nat.le_of_ble_eq_true hcat
          obtain ⟨hok, h2⟩ := ab_chk_spec hst
          obtain ⟨hok2, h2⟩ := ab_chk_spec h2
          split at h2
          · rename_i a hge
            split at h2
            · rename_i g hge2
              obtain ⟨⟨b1, b2, b3, b4, b5⟩, h3⟩ := h2
              exact ab_s_copy X hR hS (by rw [hml, hl.1]) hok hok2 hge hge2 b1 b2 b3 b4 b5 hq (by have hq9 := ab_cat_eq G s'; unfold ab_vs at hq9; omega) hd (fun H1 locs1 r1 s1 => nx lv s' (ab_set h _ _ _) H1 locs1 ls (ab_wr_spec h3) r1 hb1 hb2 s1 hl)
            · exact h2.elim
          · exact h2.elim
        · exact hst.elim
      · exact hst.elim
    · rename_i n1 n2 n3 n4
      split at hr2
      · exact absurd rfl n1
      · exact absurd rfl n2
      · exact absurd rfl n3
      · exact absurd rfl n4
      · skip
        simp only [Bool.and_eq_true, decide_eq_true_eq] at hr2
        obtain ⟨hf, hdesc⟩ := hr2
        obtain ⟨q, hq, hq2⟩ := ab_any hf
        simp only [decide_eq_true_eq] at hq2
        obtain ⟨q1, q2, q3, q4⟩ := q
        obtain ⟨rfl, rfl, rfl⟩ := hq2
        obtain ⟨c1, c2, v, h', c3, c4, c5⟩ := ab_call_spec hst
        have a3 : st = (st.take u).reverse.reverse ++ st.drop u := by rw [List.reverse_reverse, List.take_append_drop]
        rw [a3]
        exact ab_s_callN X hR hS hl.1 hb1 c4 c2 hq (by rw [List.length_reverse, List.length_take, Nat.min_eq_left c1]; exact hdesc) c3 hd (fun H1 locs1 r1 s1 => nx lv _ h' _ _ _ c5 r1 (Nat.le_trans hb1 (ab_Ex_le c3)) c4 s1 hl)
      · skip
        simp only [Bool.and_eq_true, decide_eq_true_eq] at hr2
        obtain ⟨hf, hdesc⟩ := hr2
        obtain ⟨q, hq, hq2⟩ := ab_any hf
        simp only [decide_eq_true_eq] at hq2
        obtain ⟨q1, q2, q3, q4⟩ := q
        obtain ⟨rfl, rfl, rfl⟩ := hq2
        obtain ⟨c1, c2, v, h', c3, c4, c5⟩ := ab_call_spec hst
        have a3 : st = (st.take u).reverse.reverse ++ st.drop u := by rw [List.reverse_reverse, List.take_append_drop]
        rw [a3]
        exact ab_s_callS X hR hS hl.1 hb1 c4 c2 hq (by rw [List.length_reverse, List.length_take, Nat.min_eq_left c1]; exact hdesc) c3 hd (fun H1 locs1 r1 s1 => nx lv _ h' _ _ _ c5 r1 (Nat.le_trans hb1 (ab_Ex_le c3)) c4 s1 hl)
  case invokespecial i =>
    simp only [ab_res2, Bool.and_eq_true, decide_eq_true_eq] at hr2
    obtain ⟨rfl, hr2⟩ := hr2
    dsimp only [ab_step] at hst
    split at hst
    · split at hst
      · rename_i r s'
        split at hst
        · rename_i hcat
          have hcat := Nat.le_of_ble_eq_true hcat
          obtain ⟨q, hq, hq2⟩ := ab_any hr2
          simp only [decide_eq_true_eq] at hq2
          obtain ⟨q1, q2, q3⟩ := q
          obtain ⟨rfl, rfl⟩ := hq2
          have hw := ab_oi_at _ hq
          exact W.objInit hx hb hown (hts _ (ab_T_of _ hw rfl)) (hts _ ab_w_oii) (hts _ ab_w_oic) rfl (by rw [hml]; exact hl.1) rfl hd (by omega) (by show 2 * 0 + ((ab_vs G s').map fun v => v.category).sum + 12 ≤ _; rw [ab_cat_eq]; omega) (nx lv s' h _ _ _ hst hR hb1 hb2 hS hl)
        · exact hst.elim
      · exact hst.elim
    · rename_i hne
      have hr3 : (decide (0 < u) && ab_ml.any (fun q => decide (q.1 = j.1 ∧ q.2.1 = i ∧ q.2.2.1 = y)) && decide ((parseMethodDescriptor y.desc).map (fun d => d.parameters.length) = some (u - 1))) = true := by
        split at hr2
        · exact absurd rfl hne
        · exact hr2
      simp only [Bool.and_eq_true, decide_eq_true_eq] at hr3
      obtain ⟨⟨hu, hf⟩, hdesc⟩ := hr3
      obtain ⟨q, hq, hq2⟩ := ab_any hf
      simp only [decide_eq_true_eq] at hq2
      obtain ⟨q1, q2, q3, q4⟩ := q
      obtain ⟨rfl, rfl, rfl⟩ := hq2
      split at hst
      · rename_i r g1
        obtain ⟨c1, c2, v, h', c3, c4, c5⟩ := ab_call_spec hst
        obtain ⟨As, a1, a2, a3⟩ := ab_split hu c1 g1
        rw [a1] at c3
        rw [a3]
        exact ab_s_callI (b := r.1) (o := r.2) X hR hS hl.1 hb1 c4 c2 hq (by rw [a2]; exact hdesc) c3 hd (fun H1 locs1 r1 s1 => nx lv _ h' _ _ _ c5 r1 (Nat.le_trans hb1 (ab_Ex_le c3)) c4 s1 hl)
      · exact hst.elim
  case new i =>
    simp only [ab_res2, Bool.and_eq_true, decide_eq_true_eq] at hr2
    obtain ⟨⟨⟨rfl, hf⟩, hi⟩, ht, hu⟩ := hr2
    obtain ⟨q, hq, hq2⟩ := ab_any hf
    simp only [decide_eq_true_eq] at hq2
    obtain ⟨q1, q2, q3, q4⟩ := q
    obtain ⟨rfl, rfl, rfl⟩ := hq2
    obtain ⟨z, hz, hz2⟩ := ab_any hi
    simp only [decide_eq_true_eq] at hz2
    obtain ⟨z1, z2, z3, z4⟩ := z
    obtain ⟨rfl, rfl⟩ := hz2
    dsimp only at hu hz ht
    rw [← hu] at hz
    dsimp only [ab_step] at hst
    obtain ⟨n1, n2, n3⟩ := ab_new_spec hst
    have h70 : h.1 < 70 := Nat.lt_of_lt_of_le n1 hcap
    refine ab_s_new X hR hS hb1 n1 h70 ht hq hz (n2.trans hu.symm) hd (fun H1 locs1 r1 s1 => ?_)
    exact nx lv (_ :: st) _ _ _ _ n3 r1 (Nat.le_succ_of_le hb1) n1 s1 hl
  case newarray ty =>
    simp only [ab_res2, Bool.and_eq_true, decide_eq_true_eq] at hr2
    obtain rfl := hr2
    cases ty
    all_goals try exact (show False from hst).elim
    case int =>
      dsimp only [ab_step] at hst
      split at hst
      · rename_i n s'
        obtain ⟨⟨g1, g2⟩, g3⟩ := hst
        obtain ⟨n1, n2, n3⟩ := ab_new_spec g3
        have h70 : h.1 < 70 := Nat.lt_of_lt_of_le n1 hcap
        refine ab_s_newa X hR hS hb1 n1 h70 g1 g2 hd (fun H1 locs1 r1 s1 => ?_)
        exact nx lv (_ :: s') _ _ _ _ n3 r1 (Nat.le_succ_of_le hb1) n1 s1 hl
      · exact hst.elim
  case anewarray i =>
    simp only [ab_res2, Bool.and_eq_true, decide_eq_true_eq] at hr2
    obtain ⟨rfl, hf⟩ := hr2
    obtain ⟨q, hq, hq2⟩ := ab_any hf
    simp only [decide_eq_true_eq] at hq2
    obtain ⟨q1, q2, q3, q4⟩ := q
    obtain ⟨rfl, rfl, rfl⟩ := hq2
    dsimp only [ab_step] at hst
    split at hst
    · rename_i n s'
      obtain ⟨⟨g1, g2⟩, g3⟩ := hst
      obtain ⟨n1, n2, n3⟩ := ab_new_spec g3
      have h70 : h.1 < 70 := Nat.lt_of_lt_of_le n1 hcap
      refine ab_s_anew X hR hS hb1 n1 h70 g1 g2 hq hd (fun H1 locs1 r1 s1 => ?_)
      exact nx lv (_ :: s') _ _ _ _ n3 r1 (Nat.le_succ_of_le hb1) n1 s1 hl
    · exact hst.elim
  case ireturn =>
    simp only [ab_res2, Bool.and_eq_true, decide_eq_true_eq] at hr2
    obtain rfl := hr2
    dsimp only [ab_step] at hst
    split at hst
    · rename_i x
      split at hst
      · rename_i he
        exact hret1 x h H locs pc ls (Or.inl he) hst hR hb1 hb2 hS hd
      · rename_i he
        exact hret1 x h H locs pc ls (Or.inr ⟨he, hst.1⟩) hst.2 hR hb1 hb2 hS hd
      · exact hst.elim
    · exact hst.elim
  case return_ =>
    simp only [ab_res2, Bool.and_eq_true, decide_eq_true_eq] at hr2
    obtain rfl := hr2
    dsimp only [ab_step] at hst
    split at hst
    · split at hst
      · rename_i he
        exact hret0 h H locs pc ls he hst hR hb1 hb2 hS hd
      · exact hst.elim
    · exact hst.elim
