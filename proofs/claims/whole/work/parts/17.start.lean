/-! THE CLAIM OUT OF ONE WALK OF THE LAW'S BODY. Your part is whole_start (and what it stands on); all else here is the same for every law, but numbers. -/
def R_law : String := "ClickEachTurnLaw"
def lw_P (b : Addr) (xs : List Int32) (args : Array Value) (s : State) : Prop := args = #[.ref b] ∧ s.IntsAt b xs ∧ xs.length ≤ 3072 ∧ (Jvm.Cond.and given_1 narrow_1).before args s = true
def lw_Q (_ : Array Value) (s : State) (o : Outcome) (t : State) : Prop := o = .returned (some (.int 1)) ∧ Framed s o t [] 600000 7302250
def lw_Z (below : List Frame) (a : Array Value) (s : State) : State → Prop := fun t => ∃ o, t.status = .running ∧ Ended t below o ∧ lw_Q a s o t
/-- the law's own end, with 1 on the stack, nothing written that was there before, its room as the claim has it -/
theorem lw_ret {p : Program} {l : Launch} {e : Env} {s : State} {m : MethodId} {below : List Frame} {meth : Method} {c : Code} {b : Nat} (hx : p.tables.exec = Jvm.exec) (hb : c.code = code) (hr : meth.sig.returnType = ret) (hlocks : meth.locks = false) {pc : Nat} {H : Heap} {ls : Array Slot} (hdg : decode code pc = .ok (.ireturn, 1)) : W p l e room_1 s m #[Value.ref b] below meth c H [] 600000 7302250 (lw_Z below #[Value.ref b] s) (F0 m pc ls [.int 1]) := by
  intro T hT X
  obtain ⟨fs, hret, hrun, hended, hW, hframe⟩ := X.leave (v := some (.int 1)) (hlocks := hlocks) (fun h => by rw [hr] at h; cases h)
  have hmeth' : T.vm.method? m = some meth := X.method'
  refine ⟨T.setFrames fs, ?_, .returned (some (.int 1)), hrun, hended, rfl, ⟨_, rfl⟩, hW, hframe⟩
  jvm_step X.here [X.here.top, hx, hb, hdg, hmeth', hr, ret, narrow_b1]
  (try refine ⟨rfl, ?_⟩); (try refine ⟨rfl, ?_⟩)
  first | (intro acts; rw [hret _ acts rfl rfl rfl]) | rw [hret _ _ rfl rfl rfl]
  exact Steps.refl _
/-- what holds at the law's entry: the machine, the code, the tables' words (any of lw_tbl by 'hts w (by decide +kernel)'), the script of L ints xs at the cell b, what the Statement gives of the start (any of its parts by flat_of_before) -/
def lw_At (p : Program) (s : State) (m : MethodId) (meth : Method) (c : Code) (b L : Nat) (xs : Nat → Int32) : Prop :=
  p.tables.exec = Jvm.exec ∧ c.code = code ∧ meth.sig.returnType = ret ∧ c.maxLocals = 4 ∧ s.vm.findClass R_law = some m.cls ∧ (∀ w ∈ lw_tbl, w.before #[Value.ref b] s = true) ∧ va_X b L xs s s.heap ∧ b < s.heap.size ∧ meth.locks = false ∧ (Jvm.Cond.and given_1 narrow_1).before #[Value.ref b] s = true
def hN : AH := (0, ab_nil :: ab_nil :: ab_nil :: ab_nil :: ab_nil :: ab_nil :: ab_nil :: ab_nil :: ab_nil :: ab_nil :: ab_nil :: ab_nil :: ab_nil :: ab_nil :: ab_nil :: ab_nil :: ab_nil :: ab_nil :: ab_nil :: ab_nil :: ab_nil :: ab_nil :: ab_nil :: ab_nil :: ab_nil :: ab_nil :: ab_nil :: ab_nil :: ab_nil :: ab_nil :: ab_nil :: ab_nil :: ab_nil :: ab_nil :: ab_nil :: ab_nil :: ab_nil :: ab_nil :: ab_nil :: ab_nil :: ab_nil :: ab_nil :: ab_nil :: ab_nil :: ab_nil :: ab_nil :: ab_nil :: ab_nil :: ab_nil :: [])
set_option maxHeartbeats 4000000 in
set_option maxRecDepth 100000 in
theorem law_all {I : IT} (hp : P_all I 40) (hI : I mG0 mA0 xx0 xa0 xf0) (E : Nat × (Nat → Int32)) (hL : E.1 ≤ 3072) : ab_W jL 40 E hN 70 (fun v _ => v = some (vI 1)) (ab_at iL_law 0) [(0, vR 1000 0)] [] hN := by
  refine ab_run [18] 100 oL (Nat.le_refl _) 0 ?_
  refine ⟨_, _, x_init 37, Nat.le_of_ble_eq_true rfl, ?_⟩
  refine ⟨_, _, m_init 39 _, Nat.le_refl _, ?_⟩
  exact law_loop hp E hL hN (E.1 + 6) 0 mG0 mA0 xx0 xa0 xf0 (by omega) (by omega) hI
set_option maxHeartbeats 4000000 in
set_option maxRecDepth 100000 in
theorem ws_of {I : IT} (hp : P_all I 40) (hI : I mG0 mA0 xx0 xa0 xf0) {p : Program} {e : Env} {s : State} {m : MethodId} {below : List Frame} {meth : Method} {c : Code} (l : Launch) {b L : Nat} {xs : Nat → Int32} (hL : L ≤ 3072) (C0 : lw_At p s m meth c b L xs) : W p l e room_1 s m #[Value.ref b] below meth c s.heap [] 0 0 (lw_Z below #[Value.ref b] s) (entryFrame m ([Value.ref b] : List Value).toArray 4) := by
  obtain ⟨hx, hb, hr, hml, hown, hts, hX, hbl, hlocks, hgv⟩ := C0
  have htT : ∀ w ∈ ab_T, w.before #[Value.ref b] s = true := fun w hw => hts w (List.mem_filter.mp hw).1
  have hini : ∀ k, k < 6 → ∃ p1 p2, (k, ab_NN k, p1, p2) ∈ ab_ini := by
    intro k hk
    rcases (show k = 0 ∨ k = 1 ∨ k = 2 ∨ k = 3 ∨ k = 4 ∨ k = 5 by omega) with rfl | rfl | rfl | rfl | rfl | rfl
    · exact ⟨_, _, List.mem_of_getElem? (i := 0) rfl⟩
    · exact ⟨_, _, List.mem_of_getElem? (i := 1) rfl⟩
    · exact ⟨_, _, List.mem_of_getElem? (i := 2) rfl⟩
    · exact ⟨_, _, List.mem_of_getElem? (i := 3) rfl⟩
    · exact ⟨_, _, List.mem_of_getElem? (i := 4) rfl⟩
    · exact ⟨_, _, List.mem_of_getElem? (i := 5) rfl⟩
  have hkn : ∀ k : Nat, ∃ (cC : ClassId) (iS : Nat → Nat), k < 6 → u_Kn s (ab_cn k) (ab_TT k) (ab_NN k) cC iS := by
    intro k
    by_cases hk : k < 6
    · obtain ⟨p1, p2, hm⟩ := hini k hk
      obtain ⟨cC, iS, h⟩ := u_known (C := ab_cn k) (T := ab_TT k) (N := ab_NN k) (n := ab_NN k) htT (ab_hin2 hk) (htT _ (ab_T_of _ (ab_ini_at _ hm).1 rfl))
      exact ⟨cC, iS, fun _ => h⟩
    · exact ⟨0, fun _ => 0, fun h => absurd h hk⟩
  obtain ⟨dC, hkn⟩ := Classical.axiomOfChoice hkn
  obtain ⟨dI, hkn⟩ := Classical.axiomOfChoice hkn
  obtain ⟨cI, kI, compI, hfI, hkI, hkindI⟩ := Cond.arrayClass_spec (htT _ ab_w_ai)
  obtain ⟨compF, cF, kF, hcompF, hidxF, hkF, hkindF, hnameF⟩ := Cond.arrayOver_spec (hts _ ab_w_ao)
  have hvl : ∀ (k : Nat) (q : vw_C), vwCl[k]? = some q → k < 6 := fun k q h => (List.getElem?_eq_some_iff.mp h).1
  have hK : va_K (dC, dI) vwCl [(cI, .int), (cF, .object RX1)] s := by
    refine ⟨fun k q hq => ?_, fun k q hq => ?_⟩
    · have hk := hvl k q hq
      have hq2 := (ab_vw hk).symm.trans hq
      cases hq2
      exact hkn k hk
    · have hk : k < 2 := (List.getElem?_eq_some_iff.mp hq).1
      rcases (show k = 0 ∨ k = 1 by omega) with rfl | rfl
      · cases hq
        exact ⟨fun n z => ⟨fun k h => (by cases h), kI, hkI, compI, hkindI⟩, hfI⟩
      · cases hq
        exact ⟨fun n z => ⟨fun k h => (by cases h), kF, hkF, compF, hkindF⟩, kF, compF, hkF, hkindF, hcompF, hnameF⟩
  have hfl := flat_of_before _ hgv
  have hAf : ∀ a : Nat, a < s.heap.size → ¬ (fun q : Nat => s.heap.size ≤ q) a := fun a h => Nat.not_le.mpr h
  have hT := va_Tof (args := #[Value.ref b]) (s := s) (tm := .static RX4 "MOST_SETTING" "[I") (ty := .int) (N := 4) (f := fun j => .int (ab_ms j)) (A := fun q : Nat => s.heap.size ≤ q) (by decide) (hfl _ (by decide +kernel)) (va_eqt (hfl (.eq (.length (.static RX4 "MOST_SETTING" "[I")) (.int 4)) (by decide +kernel))) (fun j hj => by
    rcases (show j = 0 ∨ j = 1 ∨ j = 2 ∨ j = 3 by omega) with rfl | rfl | rfl | rfl
    · exact va_eqt (hfl (.eq (.elem (.static RX4 "MOST_SETTING" "[I") (.int 0)) (.int 9)) (by decide +kernel))
    · exact va_eqt (hfl (.eq (.elem (.static RX4 "MOST_SETTING" "[I") (.int 1)) (.int 1)) (by decide +kernel))
    · exact va_eqt (hfl (.eq (.elem (.static RX4 "MOST_SETTING" "[I") (.int 2)) (.int 100)) (by decide +kernel))
    · exact va_eqt (hfl (.eq (.elem (.static RX4 "MOST_SETTING" "[I") (.int 3)) (.int 99)) (by decide +kernel))) hAf
  obtain ⟨t, ht, hT⟩ := hT
  have hini4 : (Cond.initialized RX4).before #[Value.ref b] s = true := by
    obtain ⟨p1, p2, hm⟩ := hini 4 (by decide)
    exact htT _ (ab_T_of _ (ab_ini_at _ hm).2 rfl)
  have hZ := va_Zof (A := fun q : Nat => s.heap.size ≤ q) (hts _ ab_w_ls) hini4 ht hAf
  have hEn : ab_En (s.heap.size, b, t) (dC, dI) cI cF (L, xs) s := by
    refine ⟨hK, ⟨hX, hbl⟩, Nat.le_refl _, hZ, hT, fun q hq => va_Nw.of rfl (hts _ (List.mem_of_getElem? (ab_nest_at q hq))), va_AO.of (hts _ ab_w_ao)⟩
  have hR : ab_R (s.heap.size, b, t) (dC, dI) cI cF hN s.heap := ⟨fun k q h => by simp [ab_ws, hN] at h, rfl, rfl, by decide⟩
  have hl := lv_entry ([.ref b]) (n := 4) (Nat.le_of_ble_eq_true rfl)
  rw [lg_entry_eq]
  generalize (lg_sl ([.ref b]) ++ List.replicate (4 - (lg_sl ([.ref b])).length) Slot.unset).toArray = ls at hl ⊢
  have hS : va_S (ab_A (s.heap.size, b, t)) s.heap s.heap [] := va_S.rf
  have hXX : ab_X jL 40 (L, xs) hN 70 (fun v _ => v = some (vI 1)) p l e room_1 s m #[Value.ref b] below meth c (s.heap.size, b, t) (dC, dI) cI cF (lw_Z below #[Value.ref b] s) := by
    refine ⟨⟨hx, hb, hml, hown, htT, hEn⟩, ⟨by decide, by decide, by decide, by decide +kernel, fun q => absurd q (by decide)⟩, ?_, ?_⟩
    · intro h1 H1 locs1 pc ls1 hr0
      exact absurd hr0 (by decide)
    · intro z h1 H1 locs1 pc ls1 hr0 hq r1 b1 b2 s1 hd
      have hz : z = 1 := Sum.inl.inj (Option.some.inj (Option.some.inj hq))
      subst hz
      refine va_forget (fun q hq => s1.2.2 q hq) ?_
      have hsl70 : ab_sl 70 ≤ 7302250 := by decide +kernel
      have m1 := ab_sl_le b2
      refine W.widen (k := 600000) (n := 7302250) (by omega) (by omega) ?_
      exact lw_ret hx hb hr hlocks hd
  obtain ⟨i, r, he, hW⟩ := law_all hp hI (L, xs) hL p l e room_1 s m #[Value.ref b] below meth c (s.heap.size, b, t) (dC, dI) cI cF (lw_Z below #[Value.ref b] s) s.heap [] ls hXX hR (Nat.le_refl _) (by decide) hS hl
  have hi : i.1 = 0 := by
    cases he
    rfl
  rw [hi] at hW
  exact hW
