section AbMore
variable {j : MI} {d : Nat} {E : Nat × (Nat → Int32)} {h0 : AH} {cap : Nat} {Q : Option AV → AH → Prop} {K : List IE → Lv → List AV → AH → Prop}
variable {p : Program} {l : Launch} {ev : Env} {R : Room} {s : State} {m : MethodId} {args : Array Value} {below : List Frame} {meth : Method} {c : Code} {G : AG} {D : va_G} {cI cF : ClassId} {Z : State → Prop} {H : Heap} {locs : List Loc} {ls : Array Slot}
variable {pc : Nat} {lv : Lv} {st : List AV} {h : AH} {tl : List IE}
theorem ab_in_A (G : AG) {b : Nat} (o : Nat) (hb : b < 49) : ab_A G (ab_ad G b o) := by
  rw [ab_ad_in G o hb]
  exact Nat.le_add_right _ _
theorem ab_nn {z : Int32} (hz : ¬ z < 0) : z.toInt = (z.toNatClampNeg : Int) := by
  have hz0 : (0 : Int) ≤ z.toInt := by
    have := Int32.not_lt.mp hz
    simpa using Int32.le_iff_toInt_le.mp this
  show z.toInt = ((z.toInt.toNat : Nat) : Int)
  omega
theorem ab_s_copy (X : ab_X j d E h0 cap Q p l ev R s m args below meth c G D cI cF Z) (hR : ab_R G D cI cF h H) (hS : va_S (ab_A G) s.heap H locs) (hml : c.maxLocals = ls.size) {b o b2 o2 : Nat} (hk : ab_ok h b o) (hk2 : ab_ok h b2 o2) {a g : Nat × (Nat → Int32)} (hg : ab_get h b o = .inr (.inl a)) (hg2 : ab_get h b2 o2 = .inr (.inl g)) {sp dp n : Int32} (h1 : ¬ sp < 0) (h2 : ¬ dp < 0) (h3 : ¬ n < 0) (h4 : sp.toNatClampNeg + n.toNatClampNeg ≤ a.1) (h5 : dp.toNatClampNeg + n.toNatClampNeg ≤ g.1) {i place : Nat} (hm : (j.1, i, place) ∈ ab_ac) {rest : List Value} (hrest : (rest.map fun v => v.category).sum ≤ 8) (hd : decode j.2.1 pc = .ok (.invokestatic i, 3))
    (kk : ∀ (H1 : Heap) (locs1 : List Loc), ab_R G D cI cF (ab_set h b2 o2 (.inr (.inl (g.1, va_cpy a.2 g.2 sp.toNatClampNeg dp.toNatClampNeg n.toNatClampNeg)))) H1 → va_S (ab_A G) s.heap H1 locs1 → W p l ev R s m args below meth c H1 locs1 (h.1 - h0.1) (ab_sl h.1 - ab_sl h0.1) Z (F0 m (pc + 3) ls rest)) : W p l ev R s m args below meth c H locs (h.1 - h0.1) (ab_sl h.1 - ab_sl h0.1) Z (F0 m pc ls (.int n :: .int dp :: ab_v G (vR b2 o2) :: .int sp :: ab_v G (vR b o) :: rest)) := by
  obtain ⟨⟨hx, hb, -, hown, hts, hE⟩, ⟨hfr, hlo, -⟩, -⟩ := X
  have he := ab_ws_at (G := G) (cI := cI) (cF := cF) hk
  have he2 := ab_ws_at (G := G) (cI := cI) (cF := cF) hk2
  rw [hg] at he
  rw [hg2] at he2
  intro T hT Y
  have hc0 : H[ab_ad G b o]? = some (vp_cell cI (a.1, .inl a.2)) := hR.1 _ _ he
  have hc1 : H[ab_ad G b2 o2]? = some (vp_cell cI (g.1, .inl g.2)) := hR.1 _ _ he2
  obtain ⟨-, k0, hk0, cm0, hkk0⟩ := (hE.1.2 0 _ rfl).1 a.1 (fun j => .int (a.2 j))
  obtain ⟨vm', Y', step⟩ := Y.arraycopy hx hown (hts _ (ab_T_of _ (ab_ac_at _ hm) rfl)) (hts _ ab_w_acn) (hts _ ab_w_acs) (hts _ ab_w_is) (src := ab_ad G b o) (dst := ab_ad G b2 o2) (cs := vp_cell cI (a.1, .inl a.2)) (cd := vp_cell cI (g.1, .inl g.2)) (srcPos := sp) (destPos := dp) (n := n) (by rw [hT]; exact hc0) (by rw [hT]; exact hc1)
    (fun _ h => by cases h) (fun _ h => by cases h) (fun h => by cases h) (fun h => by cases h) hk0 hk0 hkk0 hkk0 (by simp [refKind]) h1 h2 h3
    (by rw [ab_nn h1, ab_nn h3]; show ¬ _ > ((arrV cI a.1 (fun j => .int (a.2 j))).slots.size : Int); rw [arrV_size]; omega)
    (by rw [ab_nn h2, ab_nn h3]; show ¬ _ > ((arrV cI g.1 (fun j => .int (g.2 j))).slots.size : Int); rw [arrV_size]; omega)
    (fun vm₁ _ i hi => by
      have e : (vp_cell cI (a.1, .inl a.2)).slots.getD (sp.toNatClampNeg + i) .null = .int (a.2 (sp.toNatClampNeg + i)) := by
        show (arrV cI a.1 (fun j => .int (a.2 j))).slots.getD _ _ = _
        rw [Array.getD_eq_getD_getElem?, arrV_read _ _ (by omega)]
        rfl
      refine ⟨?_, ?_⟩
      · rw [e]
        rfl
      · rw [e]
        exact trivial)
    (g := F0 m pc ls (.int n :: .int dp :: ab_v G (vR b2 o2) :: .int sp :: ab_v G (vR b o) :: rest)) rfl (by rw [hml]) (rest := rest) rfl (by rw [hb]; exact hd) (by omega) (by
      have hnf : nativeFrameWords "java/lang/System" "arraycopy" 5 = 7 := by decide +kernel
      show 2 * 0 + _ + _ ≤ _
      rw [hnf]
      omega)
  have e1 : copied (vp_cell cI (a.1, .inl a.2)) (vp_cell cI (g.1, .inl g.2)) sp dp n = vp_cell cI (g.1, .inl (va_cpy a.2 g.2 sp.toNatClampNeg dp.toNatClampNeg n.toNatClampNeg)) := va_copied (fun z => .int z) cI cI a.2 g.2 h4
  rw [e1] at Y' step
  have hl : ab_ad G b2 o2 < H.size := (Array.getElem?_eq_some_iff.mp hc1).1
  generalize hce : vp_cell cI (g.1, .inl (va_cpy a.2 g.2 sp.toNatClampNeg dp.toNatClampNeg n.toNatClampNeg)) = ce at Y' step
  have hheap : ((T.setVm vm').setCell (ab_ad G b2 o2) ce).heap = H.setIfInBounds (ab_ad G b2 o2) ce := by rw [← hT]; rfl
  have oq : ∀ q : Nat, q ≠ ab_ad G b2 o2 → (H.setIfInBounds (ab_ad G b2 o2) ce)[q]? = H[q]? := fun q hq => by simp [Array.getElem?_setIfInBounds, Ne.symm hq]
  have hz : (H.setIfInBounds (ab_ad G b2 o2) ce).size = H.size := by simp
  have hP := hR.1.set (e := ab_c G cI cF (.inr (.inl (g.1, va_cpy a.2 g.2 sp.toNatClampNeg dp.toNatClampNeg n.toNatClampNeg)))) (H1 := H.setIfInBounds (ab_ad G b2 o2) ce) ab_ws_D he2 (by
    show (H.setIfInBounds (ab_ad G b2 o2) ce)[ab_ad G b2 o2]? = some (vp_cell _ _)
    rw [← hce]
    simp [Array.getElem?_setIfInBounds, hl]) oq
  obtain ⟨t, a1, b1⟩ := kk _ _ (ab_put_ok hR hk2 hP hz) ⟨by rw [hz]; exact hS.1, fun q g1 g2 => by
      rw [oq q (fun e => g2 (by rw [e]; exact ab_in_A G o2 hk2.1))]
      exact hS.2.1 q g1 g2, fun q hq => by
      rcases List.mem_append.mp hq with h | h
      · exact hS.2.2 q h
      · obtain ⟨z, -, hz⟩ := List.mem_map.mp h
        rw [← hz]
        exact ab_in_A G o2 hk2.1⟩ _ hheap Y'
  exact ⟨t, step t a1, b1⟩
theorem ab_s_aald (X : ab_X j d E h0 cap Q p l ev R s m args below meth c G D cI cF Z) (hR : ab_R G D cI cF h H) {b o : Nat} (hk : ab_ok h b o) {a : Nat × (Nat → AV)} (hg : ab_get h b o = .inr (.inr a)) {i : Int32} (hi : vp_in i a.1) {q : Nat × Nat} (hq : a.2 i.toNatClampNeg = vR q.1 q.2) {rest : List Value} (hd : decode j.2.1 pc = .ok (.aaload, 1))
    (kk : W p l ev R s m args below meth c H locs (h.1 - h0.1) (ab_sl h.1 - ab_sl h0.1) Z (F0 m (pc + 1) ls (ab_v G (vR q.1 q.2) :: rest))) : W p l ev R s m args below meth c H locs (h.1 - h0.1) (ab_sl h.1 - ab_sl h0.1) Z (F0 m pc ls (.int i :: ab_v G (vR b o) :: rest)) := by
  obtain ⟨⟨hx, hb, hml, hown, hts, hE⟩, -⟩ := X
  have he := ab_ws_at (G := G) (cI := cI) (cF := cF) hk
  rw [hg] at he
  refine va_aldq hx hb hE.1 hR.1 (ab_st b + o) 1 he rfl hi hd ?_
  have e : va_rf (ab_rf G (a.2 i.toNatClampNeg)) = ab_v G (vR q.1 q.2) := by rw [hq]; rfl
  show W p l ev R s m args below meth c H locs (h.1 - h0.1) (ab_sl h.1 - ab_sl h0.1) Z (F0 m (pc + 1) ls (va_rf (ab_rf G (a.2 i.toNatClampNeg)) :: rest))
  rw [e]
  exact kk
theorem ab_s_aast (X : ab_X j d E h0 cap Q p l ev R s m args below meth c G D cI cF Z) (hR : ab_R G D cI cF h H) (hS : va_S (ab_A G) s.heap H locs) {b o b2 o2 : Nat} (hk : ab_ok h b o) (hk2 : ab_ok h b2 o2) {a : Nat × (Nat → AV)} {fs : List AV} (hg : ab_get h b o = .inr (.inr a)) (hg2 : ab_get h b2 o2 = .inl (1, fs)) {i : Int32} (hi : vp_in i a.1) {rest : List Value} (hd : decode j.2.1 pc = .ok (.aastore, 1))
    (kk : ∀ (H1 : Heap) (locs1 : List Loc), ab_R G D cI cF (ab_set h b o (.inr (.inr (a.1, va_up a.2 i.toNatClampNeg (vR b2 o2))))) H1 → va_S (ab_A G) s.heap H1 locs1 → W p l ev R s m args below meth c H1 locs1 (h.1 - h0.1) (ab_sl h.1 - ab_sl h0.1) Z (F0 m (pc + 1) ls rest)) : W p l ev R s m args below meth c H locs (h.1 - h0.1) (ab_sl h.1 - ab_sl h0.1) Z (F0 m pc ls (ab_v G (vR b2 o2) :: .int i :: ab_v G (vR b o) :: rest)) := by
  obtain ⟨⟨hx, hb, hml, hown, hts, hE⟩, -⟩ := X
  have he := ab_ws_at (G := G) (cI := cI) (cF := cF) hk
  have he2 := ab_ws_at (G := G) (cI := cI) (cF := cF) hk2
  rw [hg] at he
  rw [hg2] at he2
  have hlt : i.toNatClampNeg < a.1 := Nat.not_le.mp fun q => hi (Or.inr q)
  have hi0 : ¬ i < 0 := fun q => hi (Or.inl q)
  obtain ⟨r', hr', cellV, g1, g2, g3, -⟩ := hR.1 _ _ he2
  have hcls := (hE.1.1 1 _ (ab_vw (k := 1) (by decide))).2
  obtain ⟨kA, comp, k1, k2, k3, -⟩ := (hE.1.2 1 _ rfl).2
  have hcomp : comp = D.1 1 := Option.some.inj (k3.symm.trans hcls.1)
  subst hcomp
  obtain ⟨kC, hkC, -⟩ := hcls.2
  refine W.aast hx hb (hR.1 _ _ he) (fun q h => by cases h) (fun h => by cases h) k1 k2 rfl hkC ⟨hi0, by show _ < (arrV _ _ _).slots.size; rw [arrV_size]; exact hlt⟩ g1 (fun q h => by rw [g3] at h; cases h) (by rw [g2]; exact hkC) (by rw [g2]; exact va_assign hcls) rfl rfl hd fun H1 e z oq => ?_
  have hP := hR.1.set (e := ab_c G cI cF (.inr (.inr (a.1, va_up a.2 i.toNatClampNeg (vR b2 o2))))) (H1 := H1) ab_ws_D he (by
    show H1[ab_ad G b o]? = some (vp_cell cF (a.1, .inr (.inr (.inr (.inr (fun q => ab_rf G (va_up a.2 i.toNatClampNeg (vR b2 o2) q)))))))
    rw [e]
    show some ((vp_cell cF (a.1, .inr (.inr (.inr (.inr (fun q => ab_rf G (a.2 q))))))).setSlot _ _) = _
    rw [vp_cell_q, vp_cell_q, arrV_store]
    congr 2
    funext q
    by_cases hq : q = i.toNatClampNeg
    · subst hq
      simp [updV, va_up, ab_rf, va_rf]
    · simp [updV, va_up, hq]) oq
  exact kk H1 _ (ab_put_ok hR hk hP z) (hS.put z oq (ab_in_A G o hk.1))
theorem ab_push_ok (hR : ab_R G D cI cF h H) (h70 : h.1 < 70) {ce : AC} {H1 : Heap} (hz : H1.size = H.size + 1) (o1 : ∀ q : Nat, q < H.size → H1[q]? = H[q]?) (e1 : va_at D vwCl (H.size, ab_c G cI cF ce) H1) : ab_R G D cI cF (ab_push h ce) H1 := by
  obtain ⟨r1, r2, r3, r4⟩ := hR
  refine ⟨?_, by rw [hz, r2]; show _ = G.1 + (h.1 + 1); omega, by show (h.2.set _ _).length = 49; rw [List.length_set]; exact r3, h70⟩
  rw [ab_ws_push ce r3 h70]
  refine (r1.kept (fun k q hq => o1 q.1 ((r1 k q hq).lt))).app (fun k q hk => ?_)
  have hz2 : k < 1 := (List.getElem?_eq_some_iff.mp hk).1
  rw [show k = 0 by omega] at hk
  cases hk
  rw [← r2]
  exact e1
theorem ab_S_push (hS : va_S (ab_A G) s.heap H locs) {H1 : Heap} (hz : H1.size = H.size + 1) (o1 : ∀ q : Nat, q < H.size → H1[q]? = H[q]?) : va_S (ab_A G) s.heap H1 locs :=
  ⟨Nat.le_trans hS.1 (by omega), fun x h1 h2 => (o1 x (Nat.lt_of_lt_of_le h1 hS.1)).trans (hS.2.1 x h1 h2), hS.2.2⟩
theorem ab_next_ad (G : AG) (hR : ab_R G D cI cF h H) (h70 : h.1 < 70) : ab_ad G (ab_bk h.1) (ab_of h.1) = H.size := by
  obtain ⟨l1, l2, l3⟩ := ab_lay1 h.1 h70
  rw [ab_ad_in G _ l1, l3, hR.2.1]
theorem ab_dfl_ok : ∀ k, k < 6 → ∀ i, i < ab_NN k → defaultValue (ab_ty k i) = vp_V ((ab_dfl k).map (ab_v (0, 0, 0))) i := by decide +kernel
theorem ab_dfl_G (G : AG) : ∀ k, k < 6 → (ab_dfl k).map (ab_v G) = (ab_dfl k).map (ab_v (0, 0, 0)) := by
  intro k hk
  rcases (show k = 0 ∨ k = 1 ∨ k = 2 ∨ k = 3 ∨ k = 4 ∨ k = 5 by omega) with rfl | rfl | rfl | rfl | rfl | rfl <;> rfl
theorem ab_s_new (X : ab_X j d E h0 cap Q p l ev R s m args below meth c G D cI cF Z) (hR : ab_R G D cI cF h H) (hS : va_S (ab_A G) s.heap H locs) (hb1 : h0.1 ≤ h.1) (hcap : h.1 < cap) (h70 : h.1 < 70) {t i pl : Nat} (ht : t < 6) (hck : (j.1, i, t, pl) ∈ ab_ck) {p1 p2 : Nat} (hini : (t, ab_NN t, p1, p2) ∈ ab_ini) (hsz : ab_sz h.1 = ab_NN t) {rest : List Value} (hd : decode j.2.1 pc = .ok (.new i, 3))
    (kk : ∀ (H1 : Heap) (locs1 : List Loc), ab_R G D cI cF (ab_push h (.inl (t, ab_dfl t))) H1 → va_S (ab_A G) s.heap H1 locs1 → W p l ev R s m args below meth c H1 locs1 (h.1 + 1 - h0.1) (ab_sl (h.1 + 1) - ab_sl h0.1) Z (F0 m (pc + 3) ls (ab_v G (vR (ab_bk h.1) (ab_of h.1)) :: rest))) : W p l ev R s m args below meth c H locs (h.1 - h0.1) (ab_sl h.1 - ab_sl h0.1) Z (F0 m pc ls rest) := by
  obtain ⟨⟨hx, hb, hml, hown, hts, hE⟩, ⟨hfr, hlo, hcl, hsl, -⟩, -⟩ := X
  have hKn := hE.1.1 t _ (ab_vw ht)
  have m1 := ab_sl_le hb1
  have m2 := ab_sl_le (show h.1 + 1 ≤ cap from hcap)
  have m3 : ab_sl (h.1 + 1) = ab_sl h.1 + ab_sz h.1 := rfl
  have i1 := ab_ini_at _ hini
  refine W.newcK hx hb hown (hts _ (ab_T_of _ (ab_ck_at _ hck) rfl)) (hts _ (ab_T_of _ i1.1 rfl)) (hts _ (ab_T_of _ i1.2 rfl)) rfl hd (by omega) (by show _ + ab_NN t ≤ _; omega) hKn.2.1 rfl fun H1 kC hkC e1 z1 o1 => ?_
  refine W.cs (cells' := h.1 + 1 - h0.1) (slots' := ab_sl (h.1 + 1) - ab_sl h0.1) (by omega) (by show _ + ab_NN t = _; omega) ?_
  have hb2 : u_Kn s (ab_cn t) (ab_TT t) (ab_NN t) (D.1 t) (D.2 t) := hKn
  have hborn := (u_born (ab_ty t) hts (ab_hin2 ht) hKn hkC e1 (ab_tyok t ht)).to (V' := vp_V ((ab_dfl t).map (ab_v G))) (by
    intro i hi
    rw [ab_dfl_G G t ht]
    exact ab_dfl_ok t ht i hi)
  have := kk H1 locs (ab_push_ok hR h70 z1 o1 ⟨_, ab_vw ht, hborn⟩) (ab_S_push hS z1 o1)
  rw [show ab_v G (vR (ab_bk h.1) (ab_of h.1)) = .ref H.size from congrArg Value.ref (ab_next_ad G hR h70)] at this
  exact this
theorem ab_s_newa (X : ab_X j d E h0 cap Q p l ev R s m args below meth c G D cI cF Z) (hR : ab_R G D cI cF h H) (hS : va_S (ab_A G) s.heap H locs) (hb1 : h0.1 ≤ h.1) (hcap : h.1 < cap) (h70 : h.1 < 70) {n : Int32} (hn : ¬ n < 0) (hN : n.toNatClampNeg = ab_sz h.1) {rest : List Value} (hd : decode j.2.1 pc = .ok (.newarray .int, 2))
    (kk : ∀ (H1 : Heap) (locs1 : List Loc), ab_R G D cI cF (ab_push h (.inr (.inl (ab_sz h.1, fun _ => 0)))) H1 → va_S (ab_A G) s.heap H1 locs1 → W p l ev R s m args below meth c H1 locs1 (h.1 + 1 - h0.1) (ab_sl (h.1 + 1) - ab_sl h0.1) Z (F0 m (pc + 2) ls (ab_v G (vR (ab_bk h.1) (ab_of h.1)) :: rest))) : W p l ev R s m args below meth c H locs (h.1 - h0.1) (ab_sl h.1 - ab_sl h0.1) Z (F0 m pc ls (.int n :: rest)) := by
  obtain ⟨⟨hx, hb, hml, hown, hts, hE⟩, ⟨hfr, hlo, hcl, hsl, -⟩, -⟩ := X
  have m1 := ab_sl_le hb1
  have m2 := ab_sl_le (show h.1 + 1 ≤ cap from hcap)
  have m3 : ab_sl (h.1 + 1) = ab_sl h.1 + ab_sz h.1 := rfl
  have hsm : ∀ k, k < 70 → ab_sz k ≤ 112 := by decide +kernel
  have hs112 := hsm h.1 h70
  refine va_newaK (atype := .int) hx hb (hts _ ab_w_ai) rfl hd rfl hn hN (show ab_sz h.1 * 4 ≤ 536870912 by omega) (by omega) (by omega) rfl fun H1 cA e1 z1 o1 hAr hNm => ?_
  refine W.cs (cells' := h.1 + 1 - h0.1) (slots' := ab_sl (h.1 + 1) - ab_sl h0.1) (by omega) (by omega) ?_
  have hcA : cA = cI := Option.some.inj (hNm.symm.trans (hE.1.2 0 _ rfl).2)
  subst hcA
  have := kk H1 locs (ab_push_ok hR h70 z1 o1 (by
    show H1[H.size]? = some (vp_cell cA (ab_sz h.1, .inl (fun _ => 0)))
    rw [e1]; rfl)) (ab_S_push hS z1 o1)
  rw [show ab_v G (vR (ab_bk h.1) (ab_of h.1)) = .ref H.size from congrArg Value.ref (ab_next_ad G hR h70)] at this
  exact this
theorem ab_s_anew (X : ab_X j d E h0 cap Q p l ev R s m args below meth c G D cI cF Z) (hR : ab_R G D cI cF h H) (hS : va_S (ab_A G) s.heap H locs) (hb1 : h0.1 ≤ h.1) (hcap : h.1 < cap) (h70 : h.1 < 70) {n : Int32} (hn : ¬ n < 0) (hN : n.toNatClampNeg = ab_sz h.1) {i pl : Nat} (hck : (j.1, i, 1, pl) ∈ ab_ck) {rest : List Value} (hd : decode j.2.1 pc = .ok (.anewarray i, 3))
    (kk : ∀ (H1 : Heap) (locs1 : List Loc), ab_R G D cI cF (ab_push h (.inr (.inr (ab_sz h.1, fun _ => none)))) H1 → va_S (ab_A G) s.heap H1 locs1 → W p l ev R s m args below meth c H1 locs1 (h.1 + 1 - h0.1) (ab_sl (h.1 + 1) - ab_sl h0.1) Z (F0 m (pc + 3) ls (ab_v G (vR (ab_bk h.1) (ab_of h.1)) :: rest))) : W p l ev R s m args below meth c H locs (h.1 - h0.1) (ab_sl h.1 - ab_sl h0.1) Z (F0 m pc ls (.int n :: rest)) := by
  obtain ⟨⟨hx, hb, hml, hown, hts, hE⟩, ⟨hfr, hlo, hcl, hsl, -⟩, -⟩ := X
  have m1 := ab_sl_le hb1
  have m2 := ab_sl_le (show h.1 + 1 ≤ cap from hcap)
  have m3 : ab_sl (h.1 + 1) = ab_sl h.1 + ab_sz h.1 := rfl
  have hsm : ∀ k, k < 70 → ab_sz k ≤ 112 := by decide +kernel
  have hs112 := hsm h.1 h70
  refine W.anew hx hb hown (hts _ (ab_T_of _ (ab_ck_at _ hck) rfl)) (va_AO.use hE.2.2.2.2.2.2) rfl hd rfl hn (by rw [hN]; omega) (by omega) (by rw [hN]; omega) fun cA kA comp f1 f2 f3 f4 => ?_
  rw [hN]
  refine W.cs (cells' := h.1 + 1 - h0.1) (slots' := ab_sl (h.1 + 1) - ab_sl h0.1) (by omega) (by omega) ?_
  generalize hH1 : H.push ({ cls := cA, slots := Array.replicate (ab_sz h.1) .null, vm := .none } : Cell) = H1
  have z1 : H1.size = H.size + 1 := by rw [← hH1, Array.size_push]
  have e1 : H1[H.size]? = some (arrV cA (ab_sz h.1) (fun _ => .null)) := by rw [← hH1, Array.getElem?_push_size, ← arrV_new]
  have o1 : ∀ q : Nat, q < H.size → H1[q]? = H[q]? := fun q hq => by rw [← hH1, Array.getElem?_push, if_neg (Nat.ne_of_lt hq)]
  have hcA : cA = cF := by
    obtain ⟨kB, cB, b1, b2, b3, b4⟩ := (hE.1.2 1 _ rfl).2
    exact Option.some.inj (f1.symm.trans b4)
  subst hcA
  have := kk H1 locs (ab_push_ok hR h70 z1 o1 (by
    show H1[H.size]? = some (vp_cell cA (ab_sz h.1, .inr (.inr (.inr (.inr (fun _ => none))))))
    rw [e1]; rfl)) (ab_S_push hS z1 o1)
  rw [show ab_v G (vR (ab_bk h.1) (ab_of h.1)) = .ref H.size from congrArg Value.ref (ab_next_ad G hR h70)] at this
  exact this
end AbMore
