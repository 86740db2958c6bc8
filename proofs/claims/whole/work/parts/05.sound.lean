theorem ab_hin2 {k : Nat} (hk : k < 6) : ∀ w ∈ u_ws (ab_cn k) (ab_TT k) (ab_NN k), w ∈ ab_T := fun w hw => List.mem_filter.mpr (ab_hin k hk w hw)
theorem ab_vw {k : Nat} (hk : k < 6) : vwCl[k]? = some (ab_cn k, ab_TT k, ab_NN k) := by
  rcases (show k = 0 ∨ k = 1 ∨ k = 2 ∨ k = 3 ∨ k = 4 ∨ k = 5 by omega) with rfl | rfl | rfl | rfl | rfl | rfl <;> rfl
-- WHAT STAYS OUTSIDE
def ab_En (G : AG) (D : va_G) (cI cF : ClassId) (E : Nat × (Nat → Int32)) (U : State) : Prop :=
  va_K D vwCl [(cI, .int), (cF, .object RX1)] U ∧ (va_X G.2.1 E.1 E.2 U U.heap ∧ G.2.1 < G.1) ∧ G.1 ≤ U.heap.size ∧
  va_Z RX4 "MOST_SETTING" "[I" (.ref G.2.2) (ab_A G) U U.heap ∧ va_T .int G.2.2 4 (fun j => .int (ab_ms j)) (ab_A G) U U.heap ∧
  (∀ q ∈ ab_nest, va_Nw (.methodLinkNest (ab_cn q.1) q.2.1 q.2.2.1 RX4) U) ∧ va_AO RX1 U
theorem ab_En.call {G : AG} {D : va_G} {cI cF : ClassId} {E : Nat × (Nat → Int32)} {s U : State} (h : ab_En G D cI cF E s) (hW : s.WarmedH U.vm) (hq : ∀ a : Nat, a < s.heap.size → ¬ ab_A G a → U.heap[a]? = s.heap[a]?) (hz : G.1 ≤ U.heap.size) : ab_En G D cI cF E U := by
  obtain ⟨h1, ⟨h2, h3⟩, h4, h5, h6, h7, h8⟩ := h
  refine ⟨va_K.moved hW.alike h1, ⟨(h2.moved hW.alike).kept (hq _ (Nat.lt_of_lt_of_le h3 h4) (Nat.not_le.mpr h3)), h3⟩, hz, (h5.moved hW.alike).kept hq, (h6.moved hW.alike).kept hq, fun q hm => va_Nw.warmM hW (h7 q hm), h8.moved hW.alike⟩
theorem ab_En.blind {G : AG} {D : va_G} {cI cF : ClassId} {E : Nat × (Nat → Int32)} {U : State} {g : JFrame} {mk : MethodId} {a : Array Value} (h : ab_En G D cI cF E U) : ab_En G D cI cF E (U.calling g mk a) := by
  obtain ⟨h1, ⟨h2, h3⟩, h4, h5, h6, h7, h8⟩ := h
  have hv : U.vm.Alike (U.calling g mk a).vm := Vm.Alike.refl U.vm
  exact ⟨va_K.moved hv h1, ⟨h2.moved hv, h3⟩, h4, h5.moved hv, h6.moved hv, fun q hm => va_Nw.same rfl rfl (h7 q hm), h8.moved hv⟩
-- A METHOD'S CONTRACT
def ab_F (kd : Nat) (y : MethodName) (cc : ByteArray) (mL : Nat) (ret : Option FieldType) : Prop :=
  Cond.code y cc mL ret ∈ ab_T ∧ Cond.initialized y.cls ∈ ab_T ∧ (y.cls ≠ "java/lang/invoke/MethodHandle" ∧ y.cls ≠ "java/lang/invoke/VarHandle") ∧ mL ≤ 40 ∧
  (match kd with
  | 0 => Cond.instanceMethod y ∈ ab_T ∧ Cond.selects y.cls y y ∈ ab_T
  | 1 => Cond.static y ∈ ab_T
  | _ => Cond.instanceMethod y ∈ ab_T ∧ y.name = "<init>" ∧ ret = none)
def ab_rmm (d : Nat) (h h' : AH) : Room := { frames := d, cells := h'.1 - h.1, slots := ab_sl h'.1 - ab_sl h.1, locals := 64 * d }
def ab_Pc (G : AG) (D : va_G) (cI cF : ClassId) (E : Nat × (Nat → Int32)) (a : List AV) (h : AH) : Array Value → State → Prop := va_Pc (ab_vs G a) (fun U => ab_R G D cI cF h U.heap ∧ ab_En G D cI cF E U)
def ab_Qc (G : AG) (D : va_G) (cI cF : ClassId) (v : Option AV) (h' : AH) : Array Value → State → Outcome → State → Prop := fun _ st o t => o = .returned (v.map (ab_v G)) ∧ ab_R G D cI cF h' t.heap ∧ va_F (ab_A G) st t
def ab_Ex (d kd : Nat) (y : MethodName) (a : List AV) (h : AH) (v : Option AV) (h' : AH) : Prop :=
  ∃ (cc : ByteArray) (mL : Nat) (ret : Option FieldType), ab_F kd y cc mL ret ∧ h.1 ≤ h'.1 ∧
    ∀ (l : Launch) (G : AG) (D : va_G) (cI cF : ClassId) (E : Nat × (Nat → Int32)), Met l y (Cond.code y cc mL ret :: ab_T) (ab_rmm d h h') (ab_Pc G D cI cF E a h) (ab_Qc G D cI cF v h') (h'.1 - h.1) (ab_sl h'.1 - ab_sl h.1) (ab_A G)
theorem ab_Pc.blind {G : AG} {D : va_G} {cI cF : ClassId} {E : Nat × (Nat → Int32)} {a : List AV} {h : AH} : FrameBlind (ab_Pc G D cI cF E a h) := fun _ _ _ _ q => ⟨q.1, q.2.1, q.2.2.blind⟩
theorem ab_sl_le {a b : Nat} (h : a ≤ b) : ab_sl a ≤ ab_sl b := by
  induction b with
  | zero => rw [Nat.le_zero.mp h]; exact Nat.le_refl _
  | succ b ih =>
    rcases Nat.lt_or_ge a (b + 1) with q | q
    · exact Nat.le_trans (ih (Nat.le_of_lt_succ q)) (Nat.le_add_right _ _)
    · rw [Nat.le_antisymm h q]; exact Nat.le_refl _
-- THE CONTEXT OF A WALK, AND A STATE FROM WHICH IT ENDS WELL
def ab_X (j : MI) (d : Nat) (E : Nat × (Nat → Int32)) (h0 : AH) (cap : Nat) (Q : Option AV → AH → Prop) (p : Program) (l : Launch) (ev : Env) (R : Room) (s : State) (m : MethodId) (args : Array Value) (below : List Frame) (meth : Method) (c : Code) (G : AG) (D : va_G) (cI cF : ClassId) (Z : State → Prop) : Prop :=
  (p.tables.exec = Jvm.exec ∧ c.code = j.2.1 ∧ c.maxLocals = j.2.2.1 ∧ s.vm.findClass (ab_cn j.1) = some m.cls ∧ (∀ w ∈ ab_T, w.before args s = true) ∧ ab_En G D cI cF E s) ∧
  (d + 1 ≤ R.frames ∧ 64 * (d + 1) ≤ R.locals ∧ cap - h0.1 ≤ R.cells ∧ ab_sl cap - ab_sl h0.1 ≤ R.slots ∧ (j.2.2.2.2.1 = true → meth.name = "<init>")) ∧
  (∀ (h' : AH) (H' : Heap) (locs' : List Loc) (pc : Nat) (ls' : Array Slot), j.2.2.2.1 = none → Q none h' → ab_R G D cI cF h' H' → h0.1 ≤ h'.1 → h'.1 ≤ cap → va_S (ab_A G) s.heap H' locs' → decode j.2.1 pc = .ok (.return_, 1) → W p l ev R s m args below meth c H' locs' (h'.1 - h0.1) (ab_sl h'.1 - ab_sl h0.1) Z (F0 m pc ls' [])) ∧
  (∀ (x : Int32) (h' : AH) (H' : Heap) (locs' : List Loc) (pc : Nat) (ls' : Array Slot), (j.2.2.2.1 = some .int ∨ (j.2.2.2.1 = some .boolean ∧ (x = 0 ∨ x = 1))) → Q (some (vI x)) h' → ab_R G D cI cF h' H' → h0.1 ≤ h'.1 → h'.1 ≤ cap → va_S (ab_A G) s.heap H' locs' → decode j.2.1 pc = .ok (.ireturn, 1) → W p l ev R s m args below meth c H' locs' (h'.1 - h0.1) (ab_sl h'.1 - ab_sl h0.1) Z (F0 m pc ls' [.int x]))
def ab_W (j : MI) (d : Nat) (E : Nat × (Nat → Int32)) (h0 : AH) (cap : Nat) (Q : Option AV → AH → Prop) (cs : List IE) (lv : Lv) (st : List AV) (h : AH) : Prop :=
  ∀ (p : Program) (l : Launch) (ev : Env) (R : Room) (s : State) (m : MethodId) (args : Array Value) (below : List Frame) (meth : Method) (c : Code) (G : AG) (D : va_G) (cI cF : ClassId) (Z : State → Prop) (H : Heap) (locs : List Loc) (ls : Array Slot),
    ab_X j d E h0 cap Q p l ev R s m args below meth c G D cI cF Z → ab_R G D cI cF h H → h0.1 ≤ h.1 → h.1 ≤ cap → va_S (ab_A G) s.heap H locs → lv_has ls j.2.2.1 (ab_lv G lv) →
    ∃ (i : IE) (r : List IE), cs = i :: r ∧ W p l ev R s m args below meth c H locs (h.1 - h0.1) (ab_sl h.1 - ab_sl h0.1) Z (F0 m i.1 ls (ab_vs G st))
-- THE TABLE OF A METHOD AGREES WITH ITS BYTES
def ab_tg (pc : Nat) (off : Int) (t : Nat) : Bool := decide ((pc : Int) + off = (t : Int))
def ab_tsw (pc : Nat) (lo : Int) (os : List Int) (sw : List (Int32 × Nat)) : Bool := match os, sw with
  | [], [] => true
  | o :: os, q :: r => decide (q.1.toInt = lo) && ab_tg pc o q.2 && ab_tsw pc (lo + 1) os r
  | _, _ => false
def ab_lsw (pc : Nat) (ps : List (Int × Int)) (sw : List (Int32 × Nat)) : Bool := match ps, sw with
  | [], [] => true
  | o :: os, q :: r => decide (q.1.toInt = o.1) && ab_tg pc o.2 q.2 && ab_lsw pc os r
  | _, _ => false
def ab_fin (ci k : Nat) : AV := match (ab_TT ci k).2.2.2 with
  | true => vI 2
  | false => match ab_ty ci k with
    | .boolean => vI 1
    | _ => vI 0
def ab_res2 (oc mL : Nat) (e : IE) : Bool := match e with
  | (pc, ins, len, k, t, u, sw, y) => match ins with
    | .iconst n => decide (len = 1) && decide (k = vI (Int32.ofInt n))
    | .bipush n => decide (len = 2) && decide (k = vI (Int8.ofInt n).toInt32)
    | .sipush n => decide (len = 3) && decide (k = vI (Int16.ofInt n).toInt32)
    | .ldc i => decide (len = 2) && (match k with
      | some (.inl x) => ab_kI.any (fun q => decide (q.1 = oc ∧ q.2.1 = i ∧ q.2.2.1 = x))
      | _ => false)
    | .ldc2_w i => decide (len = 3) && (match k with
      | some (.inr (.inl x)) => ab_kL.any (fun q => decide (q.1 = oc ∧ q.2.1 = i ∧ q.2.2.1 = x))
      | _ => false)
    | .iload _ => decide (len = 2)
    | .iload_n _ => decide (len = 1)
    | .aload _ => decide (len = 2)
    | .aload_n _ => decide (len = 1)
    | .lload _ => decide (len = 2)
    | .lload_n _ => decide (len = 1)
    | .istore i => decide (len = 2 ∧ i < mL)
    | .istore_n i => decide (len = 1 ∧ i.val < mL)
    | .astore i => decide (len = 2 ∧ i < mL)
    | .astore_n i => decide (len = 1 ∧ i.val < mL)
    | .iinc i n => decide (len = 3 ∧ i < mL) && decide (k = vI (Int32.ofInt n))
    | .goto off => decide (len = 3) && ab_tg pc off t
    | .ifCond _ off => decide (len = 3) && ab_tg pc off t
    | .if_icmp _ off => decide (len = 3) && ab_tg pc off t
    | .tableswitch d lo hi offs => ab_tg pc d t && ab_tsw pc lo offs.toList sw && decide (hi = lo + offs.size - 1)
    | .lookupswitch d ps => ab_tg pc d t && ab_lsw pc ps.toList sw && (ps.toList.zip (ps.toList.drop 1)).all (fun (a, next) => a.1 < next.1)
    | .getfield i => decide (len = 3) && ab_fl.any (fun q => decide (q.1 = oc ∧ q.2.1 = i ∧ q.2.2.1 = t ∧ q.2.2.2.1 = u))
    | .putfield i => decide (len = 3) && ab_fl.any (fun q => decide (q.1 = oc ∧ q.2.1 = i ∧ q.2.2.1 = t ∧ q.2.2.2.1 = u)) && decide (k = ab_fin t u) && decide (k = vI 2 → t = oc)
    | .getstatic i => decide (len = 3) && ab_gs.any (fun q => decide (q.1 = oc ∧ q.2.1 = i))
    | .invokevirtual i => decide (len = 3 ∧ 0 < u) && ab_ml.any (fun q => decide (q.1 = oc ∧ q.2.1 = i ∧ q.2.2.1 = y)) && decide ((parseMethodDescriptor y.desc).map (fun d => d.parameters.length) = some (u - 1)) && decide (ab_cn t = y.cls ∧ t < 6)
    | .invokestatic i => decide (len = 3) && (match t with
      | 1 => ab_mabs.any (fun q => decide (q.1 = oc ∧ q.2.1 = i))
      | 2 => ab_mmax.any (fun q => decide (q.1 = oc ∧ q.2.1 = i))
      | 3 => ab_mmin.any (fun q => decide (q.1 = oc ∧ q.2.1 = i))
      | 4 => ab_ac.any (fun q => decide (q.1 = oc ∧ q.2.1 = i))
      | 5 => ab_nest.any (fun q => decide (q.1 = oc ∧ q.2.1 = i ∧ q.2.2.1 = y)) && decide ((parseMethodDescriptor y.desc).map (fun d => d.parameters.length) = some u)
      | _ => ab_ml.any (fun q => decide (q.1 = oc ∧ q.2.1 = i ∧ q.2.2.1 = y)) && decide ((parseMethodDescriptor y.desc).map (fun d => d.parameters.length) = some u))
    | .invokespecial i => decide (len = 3) && (match t with
      | 6 => ab_oi.any (fun q => decide (q.1 = oc ∧ q.2.1 = i))
      | _ => decide (0 < u) && ab_ml.any (fun q => decide (q.1 = oc ∧ q.2.1 = i ∧ q.2.2.1 = y)) && decide ((parseMethodDescriptor y.desc).map (fun d => d.parameters.length) = some (u - 1)))
    | .new i => decide (len = 3) && ab_ck.any (fun q => decide (q.1 = oc ∧ q.2.1 = i ∧ q.2.2.1 = t)) && ab_ini.any (fun q => decide (q.1 = t ∧ q.2.1 = u)) && decide (t < 6 ∧ ab_NN t = u)
    | .newarray _ => decide (len = 2)
    | .anewarray i => decide (len = 3) && ab_ck.any (fun q => decide (q.1 = oc ∧ q.2.1 = i ∧ q.2.2.1 = 1))
    | _ => decide (len = 1)
def ab_res (j : MI) (e : IE) : Bool := decide (decode j.2.1 e.1 = .ok (e.2.1, e.2.2.1)) && ab_res2 j.1 j.2.2.1 e
def ab_seq : List IE → Bool
  | [] => true
  | [_] => true
  | a :: b :: r => Nat.beq b.1 (a.1 + a.2.2.1) && ab_seq (b :: r)
def ab_tab (j : MI) : Bool := j.2.2.2.2.2.all (ab_res j) && ab_seq j.2.2.2.2.2 && (match j.2.2.2.2.2 with
  | e :: _ => Nat.beq e.1 0
  | [] => false)
