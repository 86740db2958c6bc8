theorem ab_any {α : Type} {l : List α} {f : α → Bool} (h : l.any f = true) : ∃ q ∈ l, f q = true := List.any_eq_true.mp h
section AbMain
variable {j : MI} {d : Nat} {E : Nat × (Nat → Int32)} {h0 : AH} {cap : Nat} {Q : Option AV → AH → Prop} {K : List IE → Lv → List AV → AH → Prop}
variable {p : Program} {l : Launch} {ev : Env} {R : Room} {s : State} {m : MethodId} {args : Array Value} {below : List Frame} {meth : Method} {c : Code} {G : AG} {D : va_G} {cI cF : ClassId} {Z : State → Prop} {H : Heap} {locs : List Loc} {ls : Array Slot}
variable {pc : Nat} {lv : Lv} {st : List AV} {h : AH} {tl : List IE}
/-- what follows: the next instruction's state, in any heap -/
abbrev ab_Nx (j : MI) (h0 : AH) (cap : Nat) (K : List IE → Lv → List AV → AH → Prop) (p : Program) (l : Launch) (ev : Env) (R : Room) (s : State) (m : MethodId) (args : Array Value) (below : List Frame) (meth : Method) (c : Code) (G : AG) (D : va_G) (cI cF : ClassId) (Z : State → Prop) (tl : List IE) (npc : Nat) : Prop :=
  ∀ (lv' : Lv) (st' : List AV) (h' : AH) (H' : Heap) (locs' : List Loc) (ls' : Array Slot), K tl lv' st' h' → ab_R G D cI cF h' H' → h0.1 ≤ h'.1 → h'.1 ≤ cap → va_S (ab_A G) s.heap H' locs' → lv_has ls' j.2.2.1 (ab_lv G lv') → W p l ev R s m args below meth c H' locs' (h'.1 - h0.1) (ab_sl h'.1 - ab_sl h0.1) Z (F0 m npc ls' (ab_vs G st'))
theorem ab_put_ok (hR : ab_R G D cI cF h H) {b o : Nat} (hk : ab_ok h b o) {ce : AC} {H1 : Heap} (hP : va_P D vwCl ((ab_ws G cI cF h).set (ab_st b + o) (ab_ad G b o, ab_c G cI cF ce)) H1) (hz : H1.size = H.size) : ab_R G D cI cF (ab_set h b o ce) H1 := by
  obtain ⟨r1, r2, r3, r4⟩ := hR
  rw [ab_ws_set ce r3 r4 hk] at hP
  exact ⟨hP, by rw [hz, r2]; rfl, by show (h.2.set _ _).length = 49; rw [List.length_set]; exact r3, r4⟩
theorem ab_s_get (X : ab_X j d E h0 cap Q p l ev R s m args below meth c G D cI cF Z) (hR : ab_R G D cI cF h H) {b o : Nat} (hk : ab_ok h b o) {ci k i : Nat} {fs : List AV} (hg : ab_get h b o = .inl (ci, fs)) {v : AV} (hv : fs[k]? = some v) {place : Nat} (hf : (j.1, i, ci, k, place) ∈ ab_fl) {rest : List Value} (hd : decode j.2.1 pc = .ok (.getfield i, 3))
    (kk : W p l ev R s m args below meth c H locs (h.1 - h0.1) (ab_sl h.1 - ab_sl h0.1) Z (F0 m (pc + 3) ls (ab_v G v :: rest))) : W p l ev R s m args below meth c H locs (h.1 - h0.1) (ab_sl h.1 - ab_sl h0.1) Z (F0 m pc ls (ab_v G (vR b o) :: rest)) := by
  obtain ⟨⟨hx, hb, hml, hown, hts, hE⟩, -⟩ := X
  obtain ⟨f1, f2, f3⟩ := ab_fl_at _ hf
  have he := ab_ws_at (G := G) (cI := cI) (cF := cF) hk
  rw [hg] at he
  exact va_get (D := D) (ci := ci) (C := ab_cn ci) (T := ab_TT ci) (N := ab_NN ci) hx hb hts (ab_hin2 f1) hown hE.1 hR.1 (ab_st b + o) he (ab_vw f1) k f2 (hts _ (ab_T_of _ f3 rfl)) (fun _ h9 => h9) (by show (fs.map (ab_v G))[k]? = _; rw [List.getElem?_map, hv]; rfl) hd kk
theorem ab_s_put (X : ab_X j d E h0 cap Q p l ev R s m args below meth c G D cI cF Z) (hR : ab_R G D cI cF h H) (hS : va_S (ab_A G) s.heap H locs) {b o : Nat} (hk : ab_ok h b o) {ci k i : Nat} {fs : List AV} (hg : ab_get h b o = .inl (ci, fs)) (hkl : k < fs.length) {v : AV} {place : Nat} (hf : (j.1, i, ci, k, place) ∈ ab_fl) (hv : (ab_TT ci k).2.2.2 = false) (hn : narrow (ab_ty ci k) (ab_v G v) = ab_v G v) (hfit : fits (ab_ty ci k) (ab_v G v) = true) {rest : List Value} (hd : decode j.2.1 pc = .ok (.putfield i, 3))
    (kk : ∀ (H1 : Heap) (locs1 : List Loc), ab_R G D cI cF (ab_set h b o (.inl (ci, fs.set k v))) H1 → va_S (ab_A G) s.heap H1 locs1 → W p l ev R s m args below meth c H1 locs1 (h.1 - h0.1) (ab_sl h.1 - ab_sl h0.1) Z (F0 m (pc + 3) ls rest)) : W p l ev R s m args below meth c H locs (h.1 - h0.1) (ab_sl h.1 - ab_sl h0.1) Z (F0 m pc ls (ab_v G v :: ab_v G (vR b o) :: rest)) := by
  obtain ⟨⟨hx, hb, hml, hown, hts, hE⟩, -⟩ := X
  obtain ⟨f1, f2, f3⟩ := ab_fl_at _ hf
  have he := ab_ws_at (G := G) (cI := cI) (cF := cF) hk
  rw [hg] at he
  have hap := va_apart (own := ab_cn j.1) hts (ab_hin2 f1) (ab_ty ci) (ab_tyok ci f1) (ab_nmok ci f1) hE.1 (ab_vw f1)
  obtain ⟨r, h1, cell, q1, q2, q3, q4⟩ := hR.1 _ _ he
  have hr : r = (ab_cn ci, ab_TT ci, ab_NN ci) := Option.some.inj (h1.symm.trans (ab_vw f1))
  subst hr
  obtain ⟨hSl, hfc, kC, hkC, hkind⟩ := hE.1.1 ci _ (ab_vw f1)
  obtain ⟨cf, kf, fi, f, hi, hsl⟩ := hSl k f2
  have hlay := hts _ (ab_hin2 f1 _ (u_in_lay f2))
  unfold u_lay at hlay
  rw [if_neg (by rw [hv]; decide)] at hlay
  have hst := (u_facts hfc hkC (u_lays hts (ab_hin2 f1) f2) hi).1
  have h6 := u_store hfc hkC hkind hlay hi (ab_tyok ci f1 k f2) hn hfit
  refine W.putK hx hb (f := f) ⟨hown, hts _ (ab_T_of _ f3 rfl), ⟨_, _, _, hi⟩, hst⟩ (by rw [q2]; exact h6) q1 q3 (by rw [hsl]; exact k2_hasslot (q4 k f2)) rfl rfl hd fun H' e1 e2 e3 => ?_
  rw [hsl] at e1 ⊢
  have hP := hR.1.set (e := ab_c G cI cF (.inl (ci, fs.set k v))) (H1 := H') ab_ws_D he (by
    refine ⟨_, ab_vw f1, t_OB.to (V := updV (vp_V (fs.map (ab_v G))) k (ab_v G v)) ⟨_, e1, q2, q3, t_set q4 hap f2 (ab_v G v)⟩ (fun j _ => ?_)⟩
    show _ = vp_V ((fs.set k v).map (ab_v G)) j
    rw [List.map_set]
    exact vp_updV_set (by rw [List.length_map]; exact hkl) (ab_v G v) j) e3
  refine kk H' _ (ab_put_ok hR hk hP e2) (hS.put e2 e3 ?_)
  rw [ab_ad_in G o hk.1]
  exact Nat.le_add_right _ _
theorem ab_s_putF (X : ab_X j d E h0 cap Q p l ev R s m args below meth c G D cI cF Z) (hR : ab_R G D cI cF h H) (hS : va_S (ab_A G) s.heap H locs) {b o : Nat} (hk : ab_ok h b o) {ci k i : Nat} {fs : List AV} (hg : ab_get h b o = .inl (ci, fs)) (hkl : k < fs.length) {v : AV} {place : Nat} (hf : (j.1, i, ci, k, place) ∈ ab_fl) (hv : (ab_TT ci k).2.2.2 = true) (hini : j.2.2.2.2.1 = true) (hdecl : (ab_TT ci k).1 = ab_cn j.1) (hn : narrow (ab_ty ci k) (ab_v G v) = ab_v G v) (hfit : fits (ab_ty ci k) (ab_v G v) = true) {rest : List Value} (hd : decode j.2.1 pc = .ok (.putfield i, 3))
    (kk : ∀ (H1 : Heap) (locs1 : List Loc), ab_R G D cI cF (ab_set h b o (.inl (ci, fs.set k v))) H1 → va_S (ab_A G) s.heap H1 locs1 → W p l ev R s m args below meth c H1 locs1 (h.1 - h0.1) (ab_sl h.1 - ab_sl h0.1) Z (F0 m (pc + 3) ls rest)) : W p l ev R s m args below meth c H locs (h.1 - h0.1) (ab_sl h.1 - ab_sl h0.1) Z (F0 m pc ls (ab_v G v :: ab_v G (vR b o) :: rest)) := by
  obtain ⟨⟨hx, hb, hml, hown, hts, hE⟩, ⟨-, -, -, -, hnm⟩, -⟩ := X
  obtain ⟨f1, f2, f3⟩ := ab_fl_at _ hf
  have he := ab_ws_at (G := G) (cI := cI) (cF := cF) hk
  rw [hg] at he
  have hap := va_apart (own := ab_cn j.1) hts (ab_hin2 f1) (ab_ty ci) (ab_tyok ci f1) (ab_nmok ci f1) hE.1 (ab_vw f1)
  obtain ⟨r, h1, cell, q1, q2, q3, q4⟩ := hR.1 _ _ he
  have hr : r = (ab_cn ci, ab_TT ci, ab_NN ci) := Option.some.inj (h1.symm.trans (ab_vw f1))
  subst hr
  obtain ⟨hSl, hfc, kC, hkC, hkind⟩ := hE.1.1 ci _ (ab_vw f1)
  obtain ⟨cf, kf, fi, f, hi, hsl⟩ := hSl k f2
  have hlay := hts _ (ab_hin2 f1 _ (u_in_lay f2))
  unfold u_lay at hlay
  rw [if_pos hv] at hlay
  have hst := (u_facts hfc hkC (u_lays hts (ab_hin2 f1) f2) hi).1
  have hcf : m.cls = cf := by
    obtain ⟨_, _, c', _, _, _, -, -, hf', -, -, -, hown2, -⟩ := Cond.laysFinal_spec hlay
    have e1 : c' = cf := by have := hi.symm.trans hf'; simp at this; exact this.1.symm
    rw [hdecl] at hown2
    rw [← e1]; exact Option.some.inj (hown.symm.trans hown2)
  have h6 := u_fits hfc hkC hkind (Or.inr hlay) hi (ab_tyok ci f1 k f2) hn hfit
  refine W.putFinK hx hb hown (hts _ (ab_T_of _ f3 rfl)) hi hst hcf (hnm hini) (by rw [q2]; exact h6) q1 q3 (by rw [hsl]; exact k2_hasslot (q4 k f2)) rfl rfl hd fun H' e1 e2 e3 => ?_
  rw [hsl] at e1 ⊢
  have hP := hR.1.set (e := ab_c G cI cF (.inl (ci, fs.set k v))) (H1 := H') ab_ws_D he (by
    refine ⟨_, ab_vw f1, t_OB.to (V := updV (vp_V (fs.map (ab_v G))) k (ab_v G v)) ⟨_, e1, q2, q3, t_set q4 hap f2 (ab_v G v)⟩ (fun j _ => ?_)⟩
    show _ = vp_V ((fs.set k v).map (ab_v G)) j
    rw [List.map_set]
    exact vp_updV_set (by rw [List.length_map]; exact hkl) (ab_v G v) j) e3
  refine kk H' _ (ab_put_ok hR hk hP e2) (hS.put e2 e3 ?_)
  rw [ab_ad_in G o hk.1]
  exact Nat.le_add_right _ _
theorem ab_s_iald (X : ab_X j d E h0 cap Q p l ev R s m args below meth c G D cI cF Z) (hR : ab_R G D cI cF h H) (hS : va_S (ab_A G) s.heap H locs) {b o : Nat} {i : Int32} {k : Nat → (Nat → Int32) → Prop} (hc : ab_rd E h b o k) (hi : ∀ n f, k n f → vp_in i n) {rest : List Value} (hd : decode j.2.1 pc = .ok (.iaload, 1))
    (kk : ∀ n f, k n f → W p l ev R s m args below meth c H locs (h.1 - h0.1) (ab_sl h.1 - ab_sl h0.1) Z (F0 m (pc + 1) ls (.int (f i.toNatClampNeg) :: rest))) : W p l ev R s m args below meth c H locs (h.1 - h0.1) (ab_sl h.1 - ab_sl h0.1) Z (F0 m pc ls (.int i :: ab_v G (vR b o) :: rest)) := by
  obtain ⟨⟨hx, hb, hml, hown, hts, hE⟩, -⟩ := X
  rcases ab_rd_spec hc with ⟨hk, a, hg, ha⟩ | ⟨rfl, ha⟩ | ⟨rfl, ha⟩
  · have he := ab_ws_at (G := G) (cI := cI) (cF := cF) hk
    rw [hg] at he
    exact va_iald hx hb hE.1 hR.1 (ab_st b + o) 0 he rfl (hi _ _ ha) hd (kk _ _ ha)
  · exact va_sld hx hb hE.2.1.1 (Nat.lt_of_lt_of_le hE.2.1.2 hE.2.2.1) (Nat.not_le.mpr hE.2.1.2) hS (hi _ _ ha) hd (kk _ _ ha)
  · obtain ⟨cell, t1, t2, t3, t4, t5, t6, t7⟩ := hE.2.2.2.2.1
    have hv := hi _ _ ha
    have hlt : i.toNatClampNeg < 4 := Nat.not_le.mp fun q => hv (Or.inr q)
    have hn0 : ¬ i < 0 := fun q => hv (Or.inl q)
    have hcell : H[G.2.2]? = some cell := by rw [hS.2.1 _ (Array.getElem?_eq_some_iff.mp t1).1 t7]; exact t1
    exact W.iald (v := .int (ab_ms i.toNatClampNeg)) hx hb hcell t2 t3 (fun q => q.elim hn0 (fun q => by omega)) (t6 _ hlt) rfl rfl hd (kk _ _ ha)
theorem ab_s_alen (X : ab_X j d E h0 cap Q p l ev R s m args below meth c G D cI cF Z) (hR : ab_R G D cI cF h H) (hS : va_S (ab_A G) s.heap H locs) {b o : Nat} {k : Nat → (Nat → Int32) → Prop} (hc : ab_rd E h b o k) {rest : List Value} (hd : decode j.2.1 pc = .ok (.arraylength, 1))
    (kk : ∀ n f, k n f → W p l ev R s m args below meth c H locs (h.1 - h0.1) (ab_sl h.1 - ab_sl h0.1) Z (F0 m (pc + 1) ls (.int (Int32.ofNat n) :: rest))) : W p l ev R s m args below meth c H locs (h.1 - h0.1) (ab_sl h.1 - ab_sl h0.1) Z (F0 m pc ls (ab_v G (vR b o) :: rest)) := by
  obtain ⟨⟨hx, hb, hml, hown, hts, hE⟩, -⟩ := X
  rcases ab_rd_spec hc with ⟨hk, a, hg, ha⟩ | ⟨rfl, ha⟩ | ⟨rfl, ha⟩
  · have he := ab_ws_at (G := G) (cI := cI) (cF := cF) hk
    rw [hg] at he
    exact va_alen hx hb hE.1 hR.1 (ab_st b + o) 0 he rfl rfl hd (kk _ _ ha)
  · exact va_slen hx hb hE.2.1.1 (Nat.lt_of_lt_of_le hE.2.1.2 hE.2.2.1) (Nat.not_le.mpr hE.2.1.2) hS hd (kk _ _ ha)
  · obtain ⟨cell, t1, t2, t3, t4, t5, t6, t7⟩ := hE.2.2.2.2.1
    have hcell : H[G.2.2]? = some cell := by rw [hS.2.1 _ (Array.getElem?_eq_some_iff.mp t1).1 t7]; exact t1
    exact W.alen (n := Int32.ofNat 4) hx hb hcell t2 t5 rfl rfl hd (kk _ _ ha)
theorem ab_hz (hS : va_S (ab_A G) s.heap H locs) : s.heap.size ≤ H.size := hS.1
theorem ab_s_iast (X : ab_X j d E h0 cap Q p l ev R s m args below meth c G D cI cF Z) (hR : ab_R G D cI cF h H) (hS : va_S (ab_A G) s.heap H locs) {b o : Nat} (hk : ab_ok h b o) {a : Nat × (Nat → Int32)} (hg : ab_get h b o = .inr (.inl a)) {i x : Int32} (hi : vp_in i a.1) {rest : List Value} (hd : decode j.2.1 pc = .ok (.iastore, 1))
    (kk : ∀ (H1 : Heap) (locs1 : List Loc), ab_R G D cI cF (ab_set h b o (.inr (.inl (a.1, upd a.2 i.toNatClampNeg x)))) H1 → va_S (ab_A G) s.heap H1 locs1 → W p l ev R s m args below meth c H1 locs1 (h.1 - h0.1) (ab_sl h.1 - ab_sl h0.1) Z (F0 m (pc + 1) ls rest)) : W p l ev R s m args below meth c H locs (h.1 - h0.1) (ab_sl h.1 - ab_sl h0.1) Z (F0 m pc ls (.int x :: .int i :: ab_v G (vR b o) :: rest)) := by
  obtain ⟨⟨hx, hb, hml, hown, hts, hE⟩, -⟩ := X
  have he := ab_ws_at (G := G) (cI := cI) (cF := cF) hk
  rw [hg] at he
  refine W.iast hx hb (hR.1 _ _ he) ((hE.1.2 0 _ rfl).1 a.1 (fun j => .int (a.2 j))) (fun q => by cases q) (by show ¬ (i < 0 ∨ (arrV _ _ _).slots.size ≤ _); rw [arrV_size]; exact hi) rfl rfl hd fun H1 e z oq => ?_
  have hP := hR.1.set (e := ab_c G cI cF (.inr (.inl (a.1, upd a.2 i.toNatClampNeg x)))) (H1 := H1) ab_ws_D he (by
    show H1[ab_ad G b o]? = some (vp_cell cI (a.1, .inl (upd a.2 i.toNatClampNeg x)))
    rw [e]
    show some ((vp_cell cI (a.1, .inl a.2)).setSlot _ _) = _
    rw [vp_cell_i, vp_cell_i, arrV_store]
    congr 2
    funext q
    by_cases hq : q = i.toNatClampNeg
    · subst hq
      simp [updV, upd]
    · simp [updV, upd, hq]) oq
  refine kk H1 _ (ab_put_ok hR hk hP z) (hS.put z oq ?_)
  rw [ab_ad_in G o hk.1]
  exact Nat.le_add_right _ _
end AbMain
