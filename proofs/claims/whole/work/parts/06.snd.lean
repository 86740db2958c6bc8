theorem ab_seq_at : ∀ (pre : List IE) (a b : IE) (r : List IE), ab_seq (pre ++ a :: b :: r) = true → b.1 = a.1 + a.2.2.1
  | [], a, b, r, h => by
    simp only [List.nil_append, ab_seq, Bool.and_eq_true] at h
    exact Nat.eq_of_beq_eq_true h.1
  | [x], a, b, r, h => by
    simp only [List.cons_append, List.nil_append, ab_seq, Bool.and_eq_true] at h
    exact Nat.eq_of_beq_eq_true h.2.1
  | x :: z :: l, a, b, r, h => by
    simp only [List.cons_append, ab_seq, Bool.and_eq_true] at h
    exact ab_seq_at (z :: l) a b r h.2
theorem ab_suf {j : MI} (hg : ab_tab j = true) {e : IE} {tl : List IE} (hs : e :: tl <:+ j.2.2.2.2.2) : ab_res j e = true ∧ ∀ (i : IE) (r : List IE), tl = i :: r → i.1 = e.1 + e.2.2.1 := by
  obtain ⟨pre, hp⟩ := hs
  simp only [ab_tab, Bool.and_eq_true] at hg
  obtain ⟨⟨h1, h2⟩, -⟩ := hg
  refine ⟨List.all_eq_true.mp h1 e (by rw [← hp]; simp), fun i r ht => ?_⟩
  subst ht
  rw [← hp] at h2
  exact ab_seq_at pre e i r h2
theorem ab_go_spec {t : Nat} {k : List IE → Prop} : ∀ {I : List IE}, ab_go I t k → ∃ (e : IE) (r : List IE), e :: r <:+ I ∧ e.1 = t ∧ k (e :: r)
  | [], h => h.elim
  | e :: r, h => by
    unfold ab_go at h
    split at h
    · rename_i hb
      exact ⟨e, r, List.suffix_refl _, Nat.eq_of_beq_eq_true hb, h⟩
    · obtain ⟨i, q, h1, h2, h3⟩ := ab_go_spec h
      exact ⟨i, q, h1.trans (List.suffix_cons e r), h2, h3⟩
theorem ab_ld_mem {i : Nat} {w : Int32 ⊕ (Int64 ⊕ (Nat × Nat))} : ∀ {lv : Lv}, ab_ld lv i = some w → (i, some w) ∈ lv
  | [], h => by cases h
  | q :: r, h => by
    unfold ab_ld at h
    split at h
    · rename_i hb
      have e := Nat.eq_of_beq_eq_true hb
      rw [← h, ← e]
      exact List.mem_cons_self
    · exact List.mem_cons_of_mem _ (ab_ld_mem h)
theorem ab_ld_at {G : AG} {ls : Array Slot} {nL i : Nat} {lv : Lv} {w : Int32 ⊕ (Int64 ⊕ (Nat × Nat))} (hl : lv_has ls nL (ab_lv G lv)) (h : ab_ld lv i = some w) : ls[i]? = some (.val (ab_v G (some w))) :=
  hl.2.2 (i, ab_v G (some w)) (List.mem_map.mpr ⟨(i, some w), ab_ld_mem h, rfl⟩)
theorem ab_v_cat (G : AG) (v : AV) : (ab_v G v).category = if ab_c2 v then 2 else 1 := by
  rcases v with _ | x | x | x <;> rfl
theorem ab_rm_eq (G : AG) (lv : Lv) (i : Nat) : (ab_lv G lv).filter (fun q => !(q.1 == i) && !(q.1 + 1 == i && q.2.category == 2)) = ab_lv G (ab_rm lv i) := by
  unfold ab_lv ab_rm
  rw [List.filter_map]
  congr 1
  refine List.filter_congr (fun q _ => ?_)
  simp only [Function.comp]
  rw [ab_v_cat]
  cases ab_c2 q.2 <;> simp
theorem ab_cat_eq (G : AG) : ∀ l : List AV, ((ab_vs G l).map fun v => v.category).sum = ab_cat l
  | [] => rfl
  | v :: r => by
    have := ab_cat_eq G r
    simp only [ab_vs, List.map_cons, List.sum_cons, ab_cat] at this ⊢
    rw [this, ab_v_cat]
    cases ab_c2 v <;> simp
theorem ab_chk_spec {h : AH} {b o : Nat} {P : Prop} (hc : ab_chk h b o P) : ab_ok h b o ∧ P := by
  unfold ab_chk at hc
  have hb : b < 49 := by
    rcases Nat.lt_or_ge b 49 with q | q
    · exact q
    · rw [List.getD_eq_getElem?_getD, List.getElem?_eq_none (by simpa [ab_bl] using q)] at hc
      exact hc.elim
  unfold ab_ok ab_ct ab_st
  split at hc
  · exact hc.elim
  · rename_i s he
    rw [he]
    split at hc
    · rename_i ho
      split at hc
      · rename_i hh
        have e := Nat.eq_of_beq_eq_true ho
        have e2 := Nat.le_of_ble_eq_true hh
        exact ⟨⟨hb, by omega, by show s + o < h.1; omega⟩, hc⟩
      · exact hc.elim
    · exact hc.elim
  · rename_i s n h0 h1 he
    rw [he]
    exact ⟨⟨hb, hc.1⟩, hc.2⟩
theorem ab_rd_spec {E : Nat × (Nat → Int32)} {h : AH} {b o : Nat} {k : Nat → (Nat → Int32) → Prop} (hc : ab_rd E h b o k) : (ab_ok h b o ∧ ∃ a, ab_get h b o = .inr (.inl a) ∧ k a.1 a.2) ∨ (b = 1000 ∧ k E.1 E.2) ∨ (b = 1001 ∧ k 4 ab_ms) := by
  unfold ab_rd at hc
  split at hc
  · obtain ⟨h1, h2⟩ := ab_chk_spec hc
    split at h2
    · rename_i a he
      exact Or.inl ⟨h1, a, he, h2⟩
    · exact h2.elim
  · split at hc
    · rename_i hb
      exact Or.inr (Or.inl ⟨Nat.eq_of_beq_eq_true hb, hc⟩)
    · split at hc
      · rename_i hb
        exact Or.inr (Or.inr ⟨Nat.eq_of_beq_eq_true hb, hc⟩)
      · exact hc.elim
theorem ab_wr_spec {h : AH} {b o : Nat} {c : AC} {k : AH → Prop} (hc : ab_wr h b o c k) : k (ab_set h b o c) := by
  unfold ab_wr at hc
  rw [ab_lset_eq] at hc
  exact hc
theorem ab_call_spec {C : Nat → MethodName → List AV → AH → Option AV → AH → Prop} {cap : Nat} {K : List AV → AH → Prop} {kd : Nat} {y : MethodName} {u : Nat} {st : List AV} {h : AH} (hc : ab_call C cap K kd y u st h) : u ≤ st.length ∧ ab_cat (st.drop u) ≤ 8 ∧ ∃ (v : Option AV) (h' : AH), C kd y (st.take u).reverse h v h' ∧ h'.1 ≤ cap ∧ K (v.toList ++ st.drop u) h' := by
  unfold ab_call at hc
  split at hc
  · rename_i h1
    split at hc
    · rename_i h2
      rw [ab_nrm_eq] at hc
      exact ⟨Nat.le_of_ble_eq_true h1, Nat.le_of_ble_eq_true h2, hc⟩
    · exact hc.elim
  · exact hc.elim
theorem ab_rcv_spec {h : AH} {st : List AV} {u ci : Nat} {P : Prop} (hc : ab_rcv h st u ci P) : ∃ (b o : Nat) (fs : List AV), st.getD (u - 1) none = vR b o ∧ ab_ok h b o ∧ ab_get h b o = .inl (ci, fs) ∧ P := by
  unfold ab_rcv at hc
  split at hc
  · rename_i r he
    obtain ⟨h1, h2⟩ := ab_chk_spec hc
    split at h2
    · rename_i c hg
      split at h2
      · rename_i hb
        have e := Nat.eq_of_beq_eq_true hb
        exact ⟨r.1, r.2, c.2, he, h1, by rw [hg, ← e], h2⟩
      · exact h2.elim
    · exact h2.elim
  · exact hc.elim
theorem ab_split {st : List AV} {u : Nat} {w : AV} (h0 : 0 < u) (h1 : u ≤ st.length) (hw : st.getD (u - 1) none = w) : ∃ As : List AV, (st.take u).reverse = w :: As ∧ As.length = u - 1 ∧ st = As.reverse ++ w :: st.drop u := by
  refine ⟨(st.take (u - 1)).reverse, ?_, ?_, ?_⟩
  · have e : st.take u = st.take (u - 1) ++ [w] := by
      have h2 : u - 1 < st.length := by omega
      rw [show u = (u - 1) + 1 by omega, List.take_succ_eq_append_getElem h2]
      rw [List.getD_eq_getElem?_getD, List.getElem?_eq_getElem h2] at hw
      simp only [Option.getD_some] at hw
      rw [hw]
      simp
    rw [e]
    simp
  · simp
    omega
  · rw [List.reverse_reverse]
    have h2 : u - 1 < st.length := by omega
    have e : st.drop (u - 1) = w :: st.drop u := by
      rw [List.drop_eq_getElem_cons h2]
      rw [List.getD_eq_getElem?_getD, List.getElem?_eq_getElem h2] at hw
      simp only [Option.getD_some] at hw
      rw [hw, show u - 1 + 1 = u by omega]
    rw [← e]
    exact (List.take_append_drop (u - 1) st).symm
theorem ab_tsw_spec {pc : Nat} {x : Int32} {dt : Nat} {k : Nat → Prop} : ∀ {os : List Int} {lo : Int} {sw : List (Int32 × Nat)}, ab_tsw pc lo os sw = true → ab_sw x sw dt k → ((x.toInt < lo ∨ lo + os.length - 1 < x.toInt) → k dt) ∧ ∀ (i : Nat) (off : Int), os[i]? = some off → x.toInt = lo + i → ∃ t : Nat, (pc : Int) + off = (t : Int) ∧ k t
  | [], lo, [], _, h2 => ⟨fun _ => h2, fun i off h => by simp at h⟩
  | [], lo, q :: r, h1, _ => by simp [ab_tsw] at h1
  | o :: os, lo, [], h1, _ => by simp [ab_tsw] at h1
  | o :: os, lo, q :: r, h1, h2 => by
    simp only [ab_tsw, Bool.and_eq_true, decide_eq_true_eq, ab_tg] at h1
    obtain ⟨⟨e1, e2⟩, e3⟩ := h1
    obtain ⟨k1, k2⟩ := h2
    refine ⟨fun hx => ?_, fun i off hi hx => ?_⟩
    · have hne : ¬ x = q.1 := by
        intro e
        rw [e, e1] at hx
        simp only [List.length_cons] at hx
        omega
      refine (ab_tsw_spec e3 (k2 hne)).1 ?_
      simp only [List.length_cons] at hx
      omega
    · cases i with
      | zero =>
        simp only [List.getElem?_cons_zero, Option.some.injEq] at hi
        subst hi
        refine ⟨q.2, e2, k1 ?_⟩
        apply Int32.toInt_inj.mp
        rw [hx, e1]
        simp
      | succ i =>
        simp only [List.getElem?_cons_succ] at hi
        have hne : ¬ x = q.1 := by
          intro e
          rw [e, e1] at hx
          omega
        exact (ab_tsw_spec e3 (k2 hne)).2 i off hi (by rw [hx]; omega)
theorem ab_lsw_spec {pc : Nat} {x : Int32} {dt : Nat} {dflt : Int} {k : Nat → Prop} (hd : (pc : Int) + dflt = (dt : Int)) : ∀ {ps : List (Int × Int)} {sw : List (Int32 × Nat)}, ab_lsw pc ps sw = true → ab_sw x sw dt k → ∃ t : Nat, (pc : Int) + Op.lookupswitch.offset ps dflt x.toInt = (t : Int) ∧ k t
  | [], [], _, h2 => ⟨dt, hd, h2⟩
  | [], q :: r, h1, _ => by simp [ab_lsw] at h1
  | o :: os, [], h1, _ => by simp [ab_lsw] at h1
  | o :: os, q :: r, h1, h2 => by
    simp only [ab_lsw, Bool.and_eq_true, decide_eq_true_eq, ab_tg] at h1
    obtain ⟨⟨e1, e2⟩, e3⟩ := h1
    obtain ⟨k1, k2⟩ := h2
    obtain ⟨a, b⟩ := o
    rw [Op.lookupswitch.offset_cons]
    by_cases hx : a = x.toInt
    · rw [if_pos hx]
      exact ⟨q.2, e2, k1 (Int32.toInt_inj.mp (by rw [e1]; exact hx.symm))⟩
    · rw [if_neg hx]
      exact ab_lsw_spec hd e3 (k2 (fun e => hx (by rw [e, e1])))
theorem ab_ret {p : Program} {l : Launch} {ev : Env} {R : Room} {s : State} {m : MethodId} {args : Array Value} {below : List Frame} {meth : Method} {c : Code} {G : AG} {D : va_G} {cI cF : ClassId} {Z : State → Prop} {H : Heap} {locs : List Loc} {ls : Array Slot} {cells slots mc ms pc : Nat} {rest st0 : List Value} {v : Option AV} {h' : AH} {a : Array Value}
    (hr : va_Run p l ev R s m args below meth c H locs cells slots mc ms (F0 m pc ls st0) rest (ab_Qc G D cI cF v h' a) (ab_A G)) (hS : va_S (ab_A G) s.heap H locs)
    (kk : ∀ (H1 : Heap) (locs1 : List Loc), ab_R G D cI cF h' H1 → va_S (ab_A G) s.heap H1 locs1 → W p l ev R s m args below meth c H1 locs1 (cells + mc) (slots + ms) Z (F0 m (pc + 3) ls ((v.map (ab_v G)).toList ++ rest))) : W p l ev R s m args below meth c H locs cells slots Z (F0 m pc ls st0) := by
  intro T hT X
  obtain ⟨w, st₀, t, T', L, h0, X', hL, e1, e2, ⟨hv, hR, hz, hk⟩, st⟩ := hr T hT X
  cases hv
  rw [h0] at hz hk
  obtain ⟨t2, a1, b1⟩ := kk T'.heap (locs ++ L) (by rw [e1]; exact hR)
    ⟨Nat.le_trans hS.1 (by rw [e1]; exact hz), fun q h1 h2 => by rw [e1, hk q (Nat.lt_of_lt_of_le h1 hS.1) h2]; exact hS.2.1 q h1 h2, fun q hq => by
      rcases List.mem_append.mp hq with h | h
      · exact hS.2.2 q h
      · exact hL q h⟩ T' rfl X'
  exact ⟨t2, st t2 a1, b1⟩
