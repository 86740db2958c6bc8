section AbCalls
variable {j : MI} {d : Nat} {E : Nat × (Nat → Int32)} {h0 : AH} {cap : Nat} {Q : Option AV → AH → Prop} {K : List IE → Lv → List AV → AH → Prop}
variable {p : Program} {l : Launch} {ev : Env} {R : Room} {s : State} {m : MethodId} {args : Array Value} {below : List Frame} {meth : Method} {c : Code} {G : AG} {D : va_G} {cI cF : ClassId} {Z : State → Prop} {H : Heap} {locs : List Loc} {ls : Array Slot}
variable {pc : Nat} {lv : Lv} {st : List AV} {h h' : AH} {tl : List IE} {y : MethodName} {v : Option AV}
theorem ab_vs_rev (G : AG) (As rest : List AV) (w : AV) : ab_vs G (As.reverse ++ w :: rest) = (ab_vs G As).reverse ++ ab_v G w :: ab_vs G rest := by
  simp [ab_vs, List.map_append, List.map_reverse]
theorem ab_vs_rev0 (G : AG) (As rest : List AV) : ab_vs G (As.reverse ++ rest) = (ab_vs G As).reverse ++ ab_vs G rest := by
  simp [ab_vs, List.map_append, List.map_reverse]
theorem ab_vs_to (G : AG) (v : Option AV) (rest : List AV) : (v.map (ab_v G)).toList ++ ab_vs G rest = ab_vs G (v.toList ++ rest) := by
  cases v <;> rfl
/-- the callee's start, out of the caller's state -/
theorem ab_pre (X : ab_X j d E h0 cap Q p l ev R s m args below meth c G D cI cF Z) (hR : ab_R G D cI cF h H) (hS : va_S (ab_A G) s.heap H locs) (a : List AV) : ∀ U : State, U.heap = H → s.WarmedH U.vm → ab_Pc G D cI cF E a h (ab_vs G a).toArray U := by
  intro U hU hW
  obtain ⟨⟨-, -, -, -, -, hE⟩, -⟩ := X
  exact ⟨rfl, by rw [hU]; exact hR, hE.call hW (fun q h1 h2 => by rw [hU]; exact hS.2.1 q h1 h2) (by rw [hU, hR.2.1]; exact Nat.le_add_right _ _)⟩
/-- room for the call, and the count behind it -/
theorem ab_fits (X : ab_X j d E h0 cap Q p l ev R s m args below meth c G D cI cF Z) (hb1 : h0.1 ≤ h.1) (hh : h.1 ≤ h'.1) (hc : h'.1 ≤ cap) : h.1 - h0.1 + (h'.1 - h.1) ≤ R.cells ∧ ab_sl h.1 - ab_sl h0.1 + (ab_sl h'.1 - ab_sl h.1) ≤ R.slots := by
  obtain ⟨-, ⟨-, -, hcl, hsl, -⟩, -⟩ := X
  have m1 := ab_sl_le hb1
  have m2 := ab_sl_le hh
  have m3 := ab_sl_le hc
  omega
theorem ab_s_callV (X : ab_X j d E h0 cap Q p l ev R s m args below meth c G D cI cF Z) (hR : ab_R G D cI cF h H) (hS : va_S (ab_A G) s.heap H locs) (hl : ls.size = j.2.2.1) (hb1 : h0.1 ≤ h.1) (hc : h'.1 ≤ cap) {b o ci i pl : Nat} {fs As rest : List AV} (hk : ab_ok h b o) (hg : ab_get h b o = .inl (ci, fs)) (hci : ab_cn ci = y.cls ∧ ci < 6) (hcat : ab_cat rest ≤ 8) (hm : (j.1, i, y, pl) ∈ ab_ml) (hdesc : (parseMethodDescriptor y.desc).map (fun d => d.parameters.length) = some As.length) (hC : ab_Ex d 0 y (vR b o :: As) h v h') (hd : decode j.2.1 pc = .ok (.invokevirtual i, 3))
    (kk : ∀ (H1 : Heap) (locs1 : List Loc), ab_R G D cI cF h' H1 → va_S (ab_A G) s.heap H1 locs1 → W p l ev R s m args below meth c H1 locs1 (h'.1 - h0.1) (ab_sl h'.1 - ab_sl h0.1) Z (F0 m (pc + 3) ls (ab_vs G (v.toList ++ rest)))) : W p l ev R s m args below meth c H locs (h.1 - h0.1) (ab_sl h.1 - ab_sl h0.1) Z (F0 m pc ls (ab_vs G (As.reverse ++ vR b o :: rest))) := by
  obtain ⟨cc, mL, ret, ⟨f1, f2, f3, f4, f5, f6⟩, hh, hM⟩ := hC
  have hfit := ab_fits X hb1 hh hc
  have hpre := ab_pre X hR hS (vR b o :: As)
  obtain ⟨⟨hx, hb, hml, hown, hts, hE⟩, ⟨hfr, hlo, -⟩, -⟩ := X
  rw [ab_vs_rev]
  have he := ab_ws_at (G := G) (cI := cI) (cF := cF) hk
  rw [hg] at he
  obtain ⟨q', g0, cell, g1, g2, g3, -⟩ := hR.1 _ _ he
  have hGd : GoodIn ab_T (wsV (ab_cn j.1) i y.cls y (Cond.code y cc mL ret :: ab_T)) := by
    intro w hw
    unfold wsV at hw
    rcases List.mem_append.mp hw with hw | hw
    · simp only [List.mem_cons, List.not_mem_nil, or_false] at hw
      rcases hw with rfl | rfl | rfl | rfl
      · exact ab_T_good _ (ab_T_of _ (ab_ml_at _ hm) rfl)
      · exact ab_T_good _ f5
      · exact ab_T_good _ f6
      · exact ab_T_good _ f2
    · rcases List.mem_cons.mp hw with rfl | hw
      · exact ab_T_good _ f1
      · exact ab_T_good _ hw
  refine ab_ret (mc := h'.1 - h.1) (ms := ab_sl h'.1 - ab_sl h.1) (v := v) (h' := h') (va_runV (Ts := ab_T) (own := ab_cn j.1) (C := y.cls) (As := ab_vs G As) (rest := ab_vs G rest) ⟨hx, hb, hml, hown, hts⟩ (hM l G D cI cF E) (cwV As.length hts hGd rfl rfl rfl ⟨rfl, f3.1, f3.2, hdesc⟩ ⟨hfr, ?_⟩) ⟨ab_Pc.blind, ⟨cell, g1, by rw [g3]; rfl, ?_⟩, hpre⟩ rfl (by simp [ab_vs]) hl rfl (lv_room (by rw [ab_cat_eq]; exact hcat)) hd hfit) hS ?_
  · show 8 + (mL + 11) + 64 * d ≤ R.locals
    omega
  · rw [g2, ← hci.1]
    exact (hE.1.1 ci _ (ab_vw hci.2)).2.1
  · intro H1 locs1 r1 s1
    have m1 := ab_sl_le hb1
    have m2 := ab_sl_le hh
    rw [ab_vs_to]
    exact W.cs (by omega) (by omega) (kk H1 locs1 r1 s1)
theorem ab_s_callS (X : ab_X j d E h0 cap Q p l ev R s m args below meth c G D cI cF Z) (hR : ab_R G D cI cF h H) (hS : va_S (ab_A G) s.heap H locs) (hl : ls.size = j.2.2.1) (hb1 : h0.1 ≤ h.1) (hc : h'.1 ≤ cap) {i pl : Nat} {As rest : List AV} (hcat : ab_cat rest ≤ 8) (hm : (j.1, i, y, pl) ∈ ab_ml) (hdesc : (parseMethodDescriptor y.desc).map (fun d => d.parameters.length) = some As.length) (hC : ab_Ex d 1 y As h v h') (hd : decode j.2.1 pc = .ok (.invokestatic i, 3))
    (kk : ∀ (H1 : Heap) (locs1 : List Loc), ab_R G D cI cF h' H1 → va_S (ab_A G) s.heap H1 locs1 → W p l ev R s m args below meth c H1 locs1 (h'.1 - h0.1) (ab_sl h'.1 - ab_sl h0.1) Z (F0 m (pc + 3) ls (ab_vs G (v.toList ++ rest)))) : W p l ev R s m args below meth c H locs (h.1 - h0.1) (ab_sl h.1 - ab_sl h0.1) Z (F0 m pc ls (ab_vs G (As.reverse ++ rest))) := by
  obtain ⟨cc, mL, ret, ⟨f1, f2, f3, f4, f5⟩, hh, hM⟩ := hC
  have hfit := ab_fits X hb1 hh hc
  have hpre := ab_pre X hR hS As
  obtain ⟨⟨hx, hb, hml, hown, hts, hE⟩, ⟨hfr, hlo, -⟩, -⟩ := X
  rw [ab_vs_rev0]
  have hGd : GoodIn ab_T (va_wsS (ab_cn j.1) i y (Cond.code y cc mL ret :: ab_T)) := by
    intro w hw
    unfold va_wsS at hw
    rcases List.mem_append.mp hw with hw | hw
    · simp only [List.mem_cons, List.not_mem_nil, or_false] at hw
      rcases hw with rfl | rfl | rfl
      · exact ab_T_good _ (ab_T_of _ (ab_ml_at _ hm) rfl)
      · exact ab_T_good _ f5
      · exact ab_T_good _ f2
    · rcases List.mem_cons.mp hw with rfl | hw
      · exact ab_T_good _ f1
      · exact ab_T_good _ hw
  refine ab_ret (mc := h'.1 - h.1) (ms := ab_sl h'.1 - ab_sl h.1) (v := v) (h' := h') (va_runS (Ts := ab_T) (own := ab_cn j.1) (As := ab_vs G As) (rest := ab_vs G rest) ⟨hx, hb, hml, hown, hts⟩ (hM l G D cI cF E) (va_cwS As.length hts hGd rfl rfl rfl ⟨f3.1, f3.2, hdesc⟩ ⟨hfr, ?_⟩) ⟨ab_Pc.blind, hpre⟩ rfl (by simp [ab_vs]) hl rfl (lv_room (by rw [ab_cat_eq]; exact hcat)) hd hfit) hS ?_
  · show 8 + (mL + 11) + 64 * d ≤ R.locals
    omega
  · intro H1 locs1 r1 s1
    have m1 := ab_sl_le hb1
    have m2 := ab_sl_le hh
    rw [ab_vs_to]
    exact W.cs (by omega) (by omega) (kk H1 locs1 r1 s1)
theorem ab_s_callN (X : ab_X j d E h0 cap Q p l ev R s m args below meth c G D cI cF Z) (hR : ab_R G D cI cF h H) (hS : va_S (ab_A G) s.heap H locs) (hl : ls.size = j.2.2.1) (hb1 : h0.1 ≤ h.1) (hc : h'.1 ≤ cap) {i pl : Nat} {As rest : List AV} (hcat : ab_cat rest ≤ 8) (hm : (j.1, i, y, pl) ∈ ab_nest) (hdesc : (parseMethodDescriptor y.desc).map (fun d => d.parameters.length) = some As.length) (hC : ab_Ex d 1 y As h v h') (hd : decode j.2.1 pc = .ok (.invokestatic i, 3))
    (kk : ∀ (H1 : Heap) (locs1 : List Loc), ab_R G D cI cF h' H1 → va_S (ab_A G) s.heap H1 locs1 → W p l ev R s m args below meth c H1 locs1 (h'.1 - h0.1) (ab_sl h'.1 - ab_sl h0.1) Z (F0 m (pc + 3) ls (ab_vs G (v.toList ++ rest)))) : W p l ev R s m args below meth c H locs (h.1 - h0.1) (ab_sl h.1 - ab_sl h0.1) Z (F0 m pc ls (ab_vs G (As.reverse ++ rest))) := by
  obtain ⟨cc, mL, ret, ⟨f1, f2, f3, f4, f5⟩, hh, hM⟩ := hC
  have hfit := ab_fits X hb1 hh hc
  have hpre := ab_pre X hR hS As
  obtain ⟨⟨hx, hb, hml, hown, hts, hE⟩, ⟨hfr, hlo, -⟩, -⟩ := X
  rw [ab_vs_rev0]
  have hGd : GoodIn ab_T (Cond.code y cc mL ret :: ab_T) := by
    intro w hw
    rcases List.mem_cons.mp hw with rfl | hw
    · exact ab_T_good _ f1
    · exact ab_T_good _ hw
  refine ab_ret (mc := h'.1 - h.1) (ms := ab_sl h'.1 - ab_sl h.1) (v := v) (h' := h') (va_runSN (Ts := ab_T) (own := ab_cn j.1) (As := ab_vs G As) (rest := ab_vs G rest) ⟨hx, hb, hml, hown, hts⟩ (hM l G D cI cF E) ⟨va_cnB As.length hts hGd rfl rfl rfl (hE.2.2.2.2.2.1 _ hm) (hts _ f2) ⟨f3.1, f3.2, hdesc⟩ ⟨hfr, ?_⟩, hts _ f5, trivial⟩ ⟨ab_Pc.blind, hpre⟩ rfl (by simp [ab_vs]) hl rfl (lv_room (by rw [ab_cat_eq]; exact hcat)) hd hfit) hS ?_
  · show 8 + (mL + 11) + 64 * d ≤ R.locals
    omega
  · intro H1 locs1 r1 s1
    have m1 := ab_sl_le hb1
    have m2 := ab_sl_le hh
    rw [ab_vs_to]
    exact W.cs (by omega) (by omega) (kk H1 locs1 r1 s1)
theorem ab_s_callI (X : ab_X j d E h0 cap Q p l ev R s m args below meth c G D cI cF Z) (hR : ab_R G D cI cF h H) (hS : va_S (ab_A G) s.heap H locs) (hl : ls.size = j.2.2.1) (hb1 : h0.1 ≤ h.1) (hc : h'.1 ≤ cap) {b o i pl : Nat} {As rest : List AV} (hcat : ab_cat rest ≤ 8) (hm : (j.1, i, y, pl) ∈ ab_ml) (hdesc : (parseMethodDescriptor y.desc).map (fun d => d.parameters.length) = some As.length) (hC : ab_Ex d 2 y (vR b o :: As) h v h') (hd : decode j.2.1 pc = .ok (.invokespecial i, 3))
    (kk : ∀ (H1 : Heap) (locs1 : List Loc), ab_R G D cI cF h' H1 → va_S (ab_A G) s.heap H1 locs1 → W p l ev R s m args below meth c H1 locs1 (h'.1 - h0.1) (ab_sl h'.1 - ab_sl h0.1) Z (F0 m (pc + 3) ls (ab_vs G (v.toList ++ rest)))) : W p l ev R s m args below meth c H locs (h.1 - h0.1) (ab_sl h.1 - ab_sl h0.1) Z (F0 m pc ls (ab_vs G (As.reverse ++ vR b o :: rest))) := by
  obtain ⟨cc, mL, ret, ⟨f1, f2, f3, f4, f5, f6, f7⟩, hh, hM⟩ := hC
  subst f7
  have hfit := ab_fits X hb1 hh hc
  have hpre := ab_pre X hR hS (vR b o :: As)
  obtain ⟨⟨hx, hb, hml, hown, hts, hE⟩, ⟨hfr, hlo, -⟩, -⟩ := X
  rw [ab_vs_rev]
  have hGd : GoodIn ab_T (Cond.code y cc mL none :: ab_T) := by
    intro w hw
    rcases List.mem_cons.mp hw with rfl | hw
    · exact ab_T_good _ f1
    · exact ab_T_good _ hw
  refine ab_ret (mc := h'.1 - h.1) (ms := ab_sl h'.1 - ab_sl h.1) (v := v) (h' := h') (va_runI (Ts := ab_T) (own := ab_cn j.1) (As := ab_vs G As) (rest := ab_vs G rest) ⟨hx, hb, hml, hown, hts⟩ (hM l G D cI cF E) ⟨callB_of As.length hts hGd rfl rfl rfl (hts _ f2) (hts _ (ab_T_of _ (ab_ml_at _ hm) rfl)) ⟨f3.1, f3.2, hdesc⟩ ⟨hfr, ?_⟩, f6, hts _ f5⟩ ⟨ab_Pc.blind, hpre⟩ rfl (by simp [ab_vs]) hl rfl (lv_room (by rw [ab_cat_eq]; exact hcat)) hd hfit) hS ?_
  · show 8 + (mL + 11) + 64 * d ≤ R.locals
    omega
  · intro H1 locs1 r1 s1
    have m1 := ab_sl_le hb1
    have m2 := ab_sl_le hh
    rw [ab_vs_to]
    exact W.cs (by omega) (by omega) (kk H1 locs1 r1 s1)
end AbCalls
