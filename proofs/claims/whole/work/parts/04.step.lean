-- ONE STEP, as a condition on what follows
def ab_ld (lv : Lv) (i : Nat) : AV := match lv with
  | [] => none
  | q :: r => match Nat.beq q.1 i with
    | true => q.2
    | false => ab_ld r i
def ab_c2 (v : AV) : Bool := match v with
  | some (.inr (.inl _)) => true
  | _ => false
def ab_rm (lv : Lv) (i : Nat) : Lv := lv.filter (fun q => !(q.1 == i) && !(q.1 + 1 == i && ab_c2 q.2))
def ab_nrm {α : Type} (l : List α) (k : List α → Prop) : Prop := match l with
  | [] => k []
  | a :: r => ab_nrm r (fun r' => k (a :: r'))
theorem ab_nrm_eq {α : Type} (l : List α) (k : List α → Prop) : ab_nrm l k = k l := by
  induction l generalizing k with
  | nil => rfl
  | cons a r ih => exact ih _
def ab_lset (b : Nat) (f : AB → AB) (l : List AB) (k : List AB → Prop) : Prop := match b, l with
  | _, [] => k []
  | 0, a :: r => k (f a :: r)
  | b + 1, a :: r => ab_lset b f r (fun r' => k (a :: r'))
theorem ab_lset_eq : ∀ (b : Nat) (f : AB → AB) (l : List AB) (k : List AB → Prop), ab_lset b f l k = k (l.set b (f (l.getD b ab_nil)))
  | 0, f, [], k => rfl
  | b + 1, f, [], k => rfl
  | 0, f, a :: r, k => rfl
  | b + 1, f, a :: r, k => by
    unfold ab_lset
    rw [ab_lset_eq b f r]
    rfl
def ab_go (I : List IE) (t : Nat) (k : List IE → Prop) : Prop := match I with
  | [] => False
  | e :: r => match Nat.beq e.1 t with
    | true => k (e :: r)
    | false => ab_go r t k
def ab_chk (h : AH) (b o : Nat) (P : Prop) : Prop := match ab_bl.getD b (0, 0) with
  | (_, 0) => False
  | (s, 1) => match Nat.beq o 0 with
    | true => match Nat.blt s h.1 with
      | true => P
      | false => False
    | false => False
  | (s, n) => (o < n ∧ s + o < h.1) ∧ P
def ab_sw (x : Int32) (l : List (Int32 × Nat)) (d : Nat) (k : Nat → Prop) : Prop := match l with
  | [] => k d
  | q :: r => (x = q.1 → k q.2) ∧ (¬ x = q.1 → ab_sw x r d k)
def ab_rem (x y : Int32) : Int32 := x - x / y * y
def ab_ms (j : Nat) : Int32 := match j with
  | 0 => 9
  | 1 => 1
  | 2 => 100
  | _ => 99
def ab_rd (E : Nat × (Nat → Int32)) (h : AH) (b o : Nat) (k : Nat → (Nat → Int32) → Prop) : Prop := match Nat.blt b 49 with
  | true => ab_chk h b o (match ab_get h b o with
    | .inr (.inl a) => k a.1 a.2
    | _ => False)
  | false => match Nat.beq b 1000 with
    | true => k E.1 E.2
    | false => match Nat.beq b 1001 with
      | true => k 4 ab_ms
      | false => False
def ab_wr (h : AH) (b o : Nat) (c : AC) (k : AH → Prop) : Prop := ab_lset b (fun q => ab_upd (ab_ct b) q o c) h.2 (fun l => k (h.1, l))
def ab_cat (l : List AV) : Nat := match l with
  | [] => 0
  | v :: r => (match ab_c2 v with | true => 2 | false => 1) + ab_cat r
abbrev MI : Type := Nat × ByteArray × Nat × Option FieldType × Bool × List IE
def ab_ifc (c : ClassFile.Cond) (x y : Int32) (P Q : Prop) : Prop := match c with
  | .eq => (x = y → P) ∧ (¬ x = y → Q)
  | .ne => (¬ x = y → P) ∧ (x = y → Q)
  | .lt => (x < y → P) ∧ (¬ x < y → Q)
  | .ge => (y ≤ x → P) ∧ (¬ y ≤ x → Q)
  | .gt => (y < x → P) ∧ (¬ y < x → Q)
  | .le => (x ≤ y → P) ∧ (¬ x ≤ y → Q)
def ab_call (C : Nat → MethodName → List AV → AH → Option AV → AH → Prop) (cap : Nat) (K : List AV → AH → Prop) (kd : Nat) (y : MethodName) (u : Nat) (st : List AV) (h : AH) : Prop :=
  match Nat.ble u st.length with
  | true => match Nat.ble (ab_cat (st.drop u)) 8 with
    | true => ab_nrm (st.take u).reverse (fun as => ∃ (v : Option AV) (h' : AH), C kd y as h v h' ∧ h'.1 ≤ cap ∧ K (v.toList ++ st.drop u) h')
    | false => False
  | false => False
def ab_rcv (h : AH) (st : List AV) (u ci : Nat) (P : Prop) : Prop := match st.getD (u - 1) none with
  | some (.inr (.inr r)) => ab_chk h r.1 r.2 (match ab_get h r.1 r.2 with
    | .inl c => match Nat.beq c.1 ci with
      | true => P
      | false => False
    | _ => False)
  | _ => False
def ab_dfl (k : Nat) : List AV := match k with
  | 0 => [vI 0, vI 0, none, vI 0, none, vI 0, none, vI 0, vI 0, none, none, none, vI 0]
  | 1 => [vI 0, vI 0, vI 0, vI 0, vI 0, vI 0, vI 0, vI 0, vI 0]
  | 2 => [none, none, vI 0, vI 0, vI 0, vI 0, vI 0, vI 0]
  | 3 => [none, vI 0, vI 0, vI 0, vI 0, none]
  | 4 => [none, none, none, none, vI 0, none, none, none, none, none, vI 0, none]
  | _ => [none, none, none, none, vI 0, none, none, vI 0, vI 0, none, none, none, vI 0, vI 0, vI 0, vI 0, vI 0, vI 0, vI 0, vI 0, none, none, vI 0, none, vI 0]
def ab_new (cap : Nat) (h : AH) (n : Nat) (c : AC) (k : AV → AH → Prop) : Prop := match Nat.blt h.1 cap with
  | true => match Nat.beq (ab_sz h.1) n with
    | true => ab_lset (ab_bk h.1) (fun q => ab_upd (ab_ct (ab_bk h.1)) q (ab_of h.1) c) h.2 (fun l => k (vR (ab_bk h.1) (ab_of h.1)) (h.1 + 1, l))
    | false => False
  | false => False
def ab_step (C : Nat → MethodName → List AV → AH → Option AV → AH → Prop) (E : Nat × (Nat → Int32)) (j : MI) (cap : Nat) (Q : Option AV → AH → Prop) (K : List IE → Lv → List AV → AH → Prop) (e : IE) (tl : List IE) (lv : Lv) (st : List AV) (h : AH) : Prop :=
  match e with
  | (_, ins, _, k, t, u, sw, y) => match ins with
    | .iconst _ => K tl lv (k :: st) h
    | .bipush _ => K tl lv (k :: st) h
    | .sipush _ => K tl lv (k :: st) h
    | .ldc _ => K tl lv (k :: st) h
    | .ldc2_w _ => K tl lv (k :: st) h
    | .iload i => match ab_ld lv i with
      | some (.inl x) => K tl lv (vI x :: st) h
      | _ => False
    | .iload_n i => match ab_ld lv i.val with
      | some (.inl x) => K tl lv (vI x :: st) h
      | _ => False
    | .aload i => match ab_ld lv i with
      | some (.inr (.inr r)) => K tl lv (vR r.1 r.2 :: st) h
      | _ => False
    | .aload_n i => match ab_ld lv i.val with
      | some (.inr (.inr r)) => K tl lv (vR r.1 r.2 :: st) h
      | _ => False
    | .lload i => match ab_ld lv i with
      | some (.inr (.inl x)) => K tl lv (vL x :: st) h
      | _ => False
    | .lload_n i => match ab_ld lv i.val with
      | some (.inr (.inl x)) => K tl lv (vL x :: st) h
      | _ => False
    | .istore i => match st with
      | some (.inl x) :: s => ab_nrm (ab_rm lv i) (fun l => K tl ((i, vI x) :: l) s h)
      | _ => False
    | .istore_n i => match st with
      | some (.inl x) :: s => ab_nrm (ab_rm lv i.val) (fun l => K tl ((i.val, vI x) :: l) s h)
      | _ => False
    | .astore i => match st with
      | some (.inr (.inr r)) :: s => ab_nrm (ab_rm lv i) (fun l => K tl ((i, vR r.1 r.2) :: l) s h)
      | _ => False
    | .astore_n i => match st with
      | some (.inr (.inr r)) :: s => ab_nrm (ab_rm lv i.val) (fun l => K tl ((i.val, vR r.1 r.2) :: l) s h)
      | _ => False
    | .iinc i _ => match ab_ld lv i with
      | some (.inl x) => match k with
        | some (.inl n) => ab_nrm (ab_rm lv i) (fun l => K tl ((i, vI (x + n)) :: l) st h)
        | _ => False
      | _ => False
    | .iadd => match st with
      | some (.inl z) :: some (.inl x) :: s => K tl lv (vI (x + z) :: s) h
      | _ => False
    | .isub => match st with
      | some (.inl z) :: some (.inl x) :: s => K tl lv (vI (x - z) :: s) h
      | _ => False
    | .imul => match st with
      | some (.inl z) :: some (.inl x) :: s => K tl lv (vI (x * z) :: s) h
      | _ => False
    | .idiv => match st with
      | some (.inl z) :: some (.inl x) :: s => ¬ z = 0 ∧ K tl lv (vI (x / z) :: s) h
      | _ => False
    | .irem => match st with
      | some (.inl z) :: some (.inl x) :: s => ¬ z = 0 ∧ K tl lv (vI (ab_rem x z) :: s) h
      | _ => False
    | .ineg => match st with
      | some (.inl x) :: s => K tl lv (vI (-x) :: s) h
      | _ => False
    | .iand => match st with
      | some (.inl z) :: some (.inl x) :: s => K tl lv (vI (x &&& z) :: s) h
      | _ => False
    | .ior => match st with
      | some (.inl z) :: some (.inl x) :: s => K tl lv (vI (x ||| z) :: s) h
      | _ => False
    | .ishl => match st with
      | some (.inl z) :: some (.inl x) :: s => K tl lv (vI (x <<< (z &&& 31)) :: s) h
      | _ => False
    | .ishr => match st with
      | some (.inl z) :: some (.inl x) :: s => K tl lv (vI (x >>> (z &&& 31)) :: s) h
      | _ => False
    | .i2l => match st with
      | some (.inl x) :: s => K tl lv (vL x.toInt64 :: s) h
      | _ => False
    | .l2i => match st with
      | some (.inr (.inl x)) :: s => K tl lv (vI x.toInt32 :: s) h
      | _ => False
    | .land => match st with
      | some (.inr (.inl z)) :: some (.inr (.inl x)) :: s => K tl lv (vL (x &&& z) :: s) h
      | _ => False
    | .lor => match st with
      | some (.inr (.inl z)) :: some (.inr (.inl x)) :: s => K tl lv (vL (x ||| z) :: s) h
      | _ => False
    | .lshl => match st with
      | some (.inl z) :: some (.inr (.inl x)) :: s => K tl lv (vL (x <<< (z.toInt64 &&& 63)) :: s) h
      | _ => False
    | .lshr => match st with
      | some (.inl z) :: some (.inr (.inl x)) :: s => K tl lv (vL (x >>> (z.toInt64 &&& 63)) :: s) h
      | _ => False
    | .lushr => match st with
      | some (.inl z) :: some (.inr (.inl x)) :: s => K tl lv (vL ((x.toUInt64 >>> (z.toInt64.toUInt64 &&& Int64.toUInt64 63)).toInt64) :: s) h
      | _ => False
    | .dup => match st with
      | v :: s => match ab_c2 v with
        | true => False
        | false => K tl lv (v :: v :: s) h
      | _ => False
    | .dup2 => match st with
      | v :: w :: s => match ab_c2 v with
        | true => False
        | false => match ab_c2 w with
          | true => False
          | false => K tl lv (v :: w :: v :: w :: s) h
      | _ => False
    | .pop => match st with
      | v :: s => match ab_c2 v with
        | true => False
        | false => K tl lv s h
      | _ => False
    | .goto _ => ab_go j.2.2.2.2.2 t (fun cs => K cs lv st h)
    | .ifCond c _ => match st with
      | some (.inl x) :: s => ab_ifc c x 0 (ab_go j.2.2.2.2.2 t (fun cs => K cs lv s h)) (K tl lv s h)
      | _ => False
    | .if_icmp c _ => match st with
      | some (.inl z) :: some (.inl x) :: s => ab_ifc c x z (ab_go j.2.2.2.2.2 t (fun cs => K cs lv s h)) (K tl lv s h)
      | _ => False
    | .tableswitch _ _ _ _ => match st with
      | some (.inl x) :: s => ab_sw x sw t (fun q => ab_go j.2.2.2.2.2 q (fun cs => K cs lv s h))
      | _ => False
    | .lookupswitch _ _ => match st with
      | some (.inl x) :: s => ab_sw x sw t (fun q => ab_go j.2.2.2.2.2 q (fun cs => K cs lv s h))
      | _ => False
    | .getfield _ => match st with
      | some (.inr (.inr r)) :: s => ab_chk h r.1 r.2 (match ab_get h r.1 r.2 with
        | .inl c => match Nat.beq c.1 t with
          | true => match c.2[u]? with
            | some v => K tl lv (v :: s) h
            | none => False
          | false => False
        | _ => False)
      | _ => False
    | .putfield _ => match st with
      | v :: some (.inr (.inr r)) :: s => ab_chk h r.1 r.2 (match ab_get h r.1 r.2 with
        | .inl c => match Nat.beq c.1 t with
          | true => match Nat.blt u c.2.length with
            | true => match k, v with
              | some (.inl 0), some (.inl x) => ab_nrm (c.2.set u (vI x)) (fun fs => ab_wr h r.1 r.2 (.inl (c.1, fs)) (fun h' => K tl lv s h'))
              | some (.inl 1), some (.inl x) => (x = 0 ∨ x = 1) ∧ ab_nrm (c.2.set u (vI x)) (fun fs => ab_wr h r.1 r.2 (.inl (c.1, fs)) (fun h' => K tl lv s h'))
              | some (.inl 2), some (.inr (.inr q)) => match j.2.2.2.2.1 with
                | true => ab_nrm (c.2.set u (vR q.1 q.2)) (fun fs => ab_wr h r.1 r.2 (.inl (c.1, fs)) (fun h' => K tl lv s h'))
                | false => False
              | _, _ => False
            | false => False
          | false => False
        | _ => False)
      | _ => False
    | .getstatic _ => K tl lv (vR 1001 0 :: st) h
    | .iaload => match st with
      | some (.inl i) :: some (.inr (.inr r)) :: s => ab_rd E h r.1 r.2 (fun n f => vp_in i n ∧ K tl lv (vI (f i.toNatClampNeg) :: s) h)
      | _ => False
    | .iastore => match st with
      | some (.inl x) :: some (.inl i) :: some (.inr (.inr r)) :: s => ab_chk h r.1 r.2 (match ab_get h r.1 r.2 with
        | .inr (.inl a) => vp_in i a.1 ∧ ab_wr h r.1 r.2 (.inr (.inl (a.1, upd a.2 i.toNatClampNeg x))) (fun h' => K tl lv s h')
        | _ => False)
      | _ => False
    | .aaload => match st with
      | some (.inl i) :: some (.inr (.inr r)) :: s => ab_chk h r.1 r.2 (match ab_get h r.1 r.2 with
        | .inr (.inr a) => vp_in i a.1 ∧ ∃ q : Nat × Nat, a.2 i.toNatClampNeg = vR q.1 q.2 ∧ K tl lv (vR q.1 q.2 :: s) h
        | _ => False)
      | _ => False
    | .arraylength => match st with
      | some (.inr (.inr r)) :: s => ab_rd E h r.1 r.2 (fun n _ => K tl lv (vI (Int32.ofNat n) :: s) h)
      | _ => False
    | .invokevirtual _ => ab_rcv h st u t (ab_call C cap (fun s h' => K tl lv s h') 0 y u st h)
    | .invokestatic _ => match t with
      | 1 => match st with
        | some (.inl x) :: s => match Nat.ble (ab_cat s) 8 with
          | true => K tl lv (vI (if 0 ≤ x then x else 0 - x) :: s) h
          | false => False
        | _ => False
      | 2 => match st with
        | some (.inl z) :: some (.inl x) :: s => match Nat.ble (ab_cat s) 8 with
          | true => K tl lv (vI (if x < z then z else x) :: s) h
          | false => False
        | _ => False
      | 3 => match st with
        | some (.inl z) :: some (.inl x) :: s => match Nat.ble (ab_cat s) 8 with
          | true => K tl lv (vI (if z < x then z else x) :: s) h
          | false => False
        | _ => False
      | 4 => match st with
        | some (.inl n) :: some (.inl dp) :: some (.inr (.inr r)) :: some (.inl sp) :: some (.inr (.inr q)) :: s => match Nat.ble (ab_cat s) 8 with
          | true => ab_chk h q.1 q.2 (ab_chk h r.1 r.2 (match ab_get h q.1 q.2 with
            | .inr (.inl a) => match ab_get h r.1 r.2 with
              | .inr (.inl g) => (¬ sp < 0 ∧ ¬ dp < 0 ∧ ¬ n < 0 ∧ sp.toNatClampNeg + n.toNatClampNeg ≤ a.1 ∧ dp.toNatClampNeg + n.toNatClampNeg ≤ g.1) ∧
                ab_wr h r.1 r.2 (.inr (.inl (g.1, va_cpy a.2 g.2 sp.toNatClampNeg dp.toNatClampNeg n.toNatClampNeg))) (fun h' => K tl lv s h')
              | _ => False
            | _ => False))
          | false => False
        | _ => False
      | _ => ab_call C cap (fun s h' => K tl lv s h') 1 y u st h
    | .invokespecial _ => match t with
      | 6 => match st with
        | some (.inr (.inr _)) :: s => match Nat.ble (ab_cat s) 8 with
          | true => K tl lv s h
          | false => False
        | _ => False
      | _ => match st.getD (u - 1) none with
        | some (.inr (.inr _)) => ab_call C cap (fun s h' => K tl lv s h') 2 y u st h
        | _ => False
    | .new _ => ab_new cap h u (.inl (t, ab_dfl t)) (fun v h' => K tl lv (v :: st) h')
    | .newarray .int => match st with
      | some (.inl n) :: s => (¬ n < 0 ∧ n.toNatClampNeg = ab_sz h.1) ∧ ab_new cap h (ab_sz h.1) (.inr (.inl (ab_sz h.1, fun _ => 0))) (fun v h' => K tl lv (v :: s) h')
      | _ => False
    | .anewarray _ => match st with
      | some (.inl n) :: s => (¬ n < 0 ∧ n.toNatClampNeg = ab_sz h.1) ∧ ab_new cap h (ab_sz h.1) (.inr (.inr (ab_sz h.1, fun _ => none))) (fun v h' => K tl lv (v :: s) h')
      | _ => False
    | .aastore => match st with
      | some (.inr (.inr q)) :: some (.inl i) :: some (.inr (.inr r)) :: s => ab_chk h r.1 r.2 (ab_chk h q.1 q.2 (match ab_get h r.1 r.2 with
        | .inr (.inr a) => match ab_get h q.1 q.2 with
          | .inl c => match Nat.beq c.1 1 with
            | true => vp_in i a.1 ∧ ab_wr h r.1 r.2 (.inr (.inr (a.1, va_up a.2 i.toNatClampNeg (vR q.1 q.2)))) (fun h' => K tl lv s h')
            | false => False
          | _ => False
        | _ => False))
      | _ => False
    | .ireturn => match st with
      | [some (.inl x)] => match j.2.2.2.1 with
        | some .int => Q (some (vI x)) h
        | some .boolean => (x = 0 ∨ x = 1) ∧ Q (some (vI x)) h
        | _ => False
      | _ => False
    | .return_ => match st with
      | [] => match j.2.2.2.1 with
        | none => Q none h
        | _ => False
      | _ => False
    | _ => False
