-- A RIDER: r = its ints (2 pace, 3 ridden before, 4 steps before, 5 clicks, 6 wanted, 7 found), w = its fault
def rB (up ridden wanted : Int32) (r : Nat → Int32) : Nat → Int32 := upd (upd (upd (upd (upd (upd r 2 up) 3 ridden) 4 0) 5 0) 6 wanted) 7 (-9)
def rW (w : Nat → Int32) (dn : Int32) : Nat → Int32 := upd (upd w 7 (w 7 * dn / w 8)) 8 dn
def paceI (act pace : Int32) (kind : Int32) : Int32 := if act < 4 then pace else if act = 4 ∧ (¬ kind = 1 ∧ ¬ kind = 2 ∧ ¬ kind = 3 ∧ ¬ kind = 4) then -pace else 0
/-- whether it clicks in the step t of a stage, if it comes by -/
def okP (act ridden : Int32) (w : Nat → Int32) (oiled oil shoe hill : Int32) (t : Nat) : Prop := silX (w 0) (ridden + nI t / 100) oiled oil shoe = 0 ∧ limX (w 0) (w 2) (ridden + nI t / 100) ≤ loadI act (ab_rem (nI t) 100) hill
/-- one click more -/
def clkR (r : Nat → Int32) (t : Nat) : Nat → Int32 := upd (if r 5 = r 6 then upd r 7 (r 4 + nI t) else r) 5 (r 5 + 1)
noncomputable def lisR (ok : Nat → Prop) (u G e : Nat) : Nat → Nat → (Nat → Int32) → (Nat → Int32)
  | 0, _, r => r
  | n + 1, p, r => if p < e then lisR ok u G e n (p + G) (@ite _ (ok (p / u)) (Classical.propDecidable _) (clkR r (p / u)) r) else r
theorem clkR_lo (r : Nat → Int32) (t : Nat) {k : Nat} (h5 : k ≠ 5) (h7 : k ≠ 7) : clkR r t k = r k := by
  unfold clkR
  by_cases h : r 5 = r 6 <;> simp [h, upd, h5, h7]
theorem bI_fs {P : Prop} [Decidable P] (h : ¬ P) : some (vI 0) = some (vI (bI P)) := by rw [bI_f h]
theorem bI_ts {P : Prop} [Decidable P] (h : P) : some (vI 1) = some (vI (bI P)) := by rw [bI_t h]
theorem lv_pk {lv lv' : Lv} (ks : List Nat) (h : ks.map (fun k => lv[k]?) = lv'.map some) : ∀ q ∈ lv', q ∈ lv := by
  intro q hq
  have h1 : some q ∈ lv'.map some := List.mem_map.mpr ⟨q, hq, rfl⟩
  rw [← h] at h1
  obtain ⟨k, -, hk⟩ := List.mem_map.mp h1
  exact List.mem_of_getElem? hk
theorem silX_01 (kind t oiled oil shoe : Int32) : silX kind t oiled oil shoe = 0 ∨ silX kind t oiled oil shoe = 1 := by
  unfold silX
  split
  · exact Or.inr rfl
  · exact Or.inl rfl

section Rider41
variable (d : Nat) (mb : Nat → AB) (x a : mA) (f : mF) (w r : Nat → Int32)
theorem ok42 (x' : mA) : ab_ok (hX mb x' a f) 42 0 := ⟨Nat.le_of_ble_eq_true rfl, Nat.le_of_ble_eq_true rfl, Nat.le_of_ble_eq_true rfl⟩
theorem r_begin41 {i : Nat} (hi : i < 8) (wanted : Int32) : ab_Ex (d + 2) 0 yX2_begin [vR 41 0, vR 20 i, vI wanted] (hX mb (mS (mS x 42 w) 41 r) a f) none (hX mb (mS (mS x 42 (f 20 i)) 41 (rB (upI (f 20 i 0) (f 20 i 5) (x 17 0)) (x 17 7) wanted r)) a f) := by
  refine ab_meth oX2_begin (d + 1) _ _ _ _ (Nat.le_refl _) rfl (fun E => ?_)
  refine ab_run [] 100 oX2_begin.1 (Nat.le_refl _) 0 ?_
  refine ⟨_, _, f_copyFrom d (b := 42) (o := 0) (b2 := 20) (o2 := i) (v := w) (v2 := f 20 i) (Nat.le_refl _) rfl (ok42 mb a f _) rfl (hX_ok20 mb _ a f hi) rfl (by omega), Nat.le_refl _, ?_⟩
  have e : ab_set (hX mb (mS (mS x 42 w) 41 r) a f) 42 0 (xFt (f 20 i)) = (hX mb (mS (mS x 42 (f 20 i)) 41 r) a f) := rfl
  rw [e]
  refine ⟨_, _, x_upOf d mb _ a f (hX_ok20 mb _ a f hi) rfl, Nat.le_refl _, ?_⟩
  exact ⟨rfl, rfl⟩
theorem r_shift41 (hn : x 17 3 ≤ 5) (h8 : 0 < w 8) (gear : Int32) : ab_Ex (d + 2) 0 yX2_shiftTo [vR 41 0, vI gear] (hX mb (mS (mS x 42 w) 41 r) a f) none (hX mb (mS (mS x 42 (rW w (downX (w 0) (w 6) (x 17 1) gear (x 17 3) (a 18)))) 41 r) a f) := by
  refine ab_meth oX2_shiftTo (d + 1) _ _ _ _ (Nat.le_refl _) rfl (fun E => ?_)
  refine ab_run [] 100 oX2_shiftTo.1 (Nat.le_refl _) 0 ?_
  refine ⟨_, _, x_downOf d mb (mS (mS x 42 w) 41 r) a f (b := 42) (o := 0) (v := w) (ok42 mb a f _) rfl hn gear, Nat.le_refl _, ?_⟩
  refine ⟨_, _, f_scaleTo d (b := 42) (o := 0) (v := w) (Nat.le_refl _) rfl (ok42 mb a f _) rfl _ h8, Nat.le_refl _, ?_⟩
  exact ⟨rfl, rfl⟩
theorem r_partsInStep41 (act : Int32) : ab_Ex (d + 2) 0 yX2_partsInStep [vR 41 0, vI act] (hX mb (mS (mS x 42 w) 41 r) a f) (some (vI (paceI act (r 2) (w 0)))) (hX mb (mS (mS x 42 w) 41 r) a f) := by
  refine ab_meth oX2_partsInStep (d + 1) _ _ _ _ (Nat.le_refl _) rfl (fun E => ?_)
  refine ab_run [] 100 oX2_partsInStep.1 (Nat.le_refl _) 0 ?_
  unfold paceI
  refine ⟨fun c1 => ?_, fun c1 => ?_⟩
  · refine ⟨fun c2 => ?_, fun c2 => ?_⟩
    · refine ⟨?_, rfl⟩
      rw [if_neg (le_nlt c1), if_neg (fun q => c2 q.1)]
    · refine ⟨_, _, f_goesBack d (b := 42) (o := 0) (v := w) (Nat.le_refl _) (ok42 mb a f _) rfl, Nat.le_refl _, br_z (fun c3 => ?_) (fun c3 => ?_)⟩
      · refine ⟨?_, rfl⟩
        rw [if_neg (le_nlt c1), if_neg (fun q => c3 q.2)]
      · refine ⟨?_, rfl⟩
        rw [if_neg (le_nlt c1), if_pos ⟨c2, c3⟩]
        rfl
  · refine ⟨?_, rfl⟩
    rw [if_pos (nle_lt c1)]
    rfl
theorem r_comesByIn41 (step : Int32) : ab_Ex (d + 3) 0 yX2_comesByIn [vR 41 0, vI step] (hX mb (mS (mS x 42 w) 41 r) a f) (some (vI (bI (wrapI (wrapI (w 1 * w 8 - w 7 - 1) (100 * w 8) - step * r 2) (100 * w 8) < r 2)))) (hX mb (mS (mS x 42 w) 41 r) a f) := by
  refine ab_meth oX2_comesByIn (d + 2) _ _ _ _ (Nat.le_refl _) rfl (fun E => ?_)
  refine ab_run [] 100 oX2_comesByIn.1 (Nat.le_refl _) 0 ?_
  refine ⟨_, _, f_parts d (b := 42) (o := 0) (v := w) (Nat.le_refl _) (ok42 mb a f _) rfl, Nat.le_refl _, ?_⟩
  refine ⟨_, _, x_wrap (d + 1) _ (Nat.le_refl _) _ _, Nat.le_refl _, ?_⟩
  refine ⟨fun c1 => ?_, fun c1 => ?_⟩
  · exact ⟨Or.inl rfl, bI_fs (le_nlt c1), rfl⟩
  · exact ⟨Or.inr rfl, bI_ts (nle_lt c1), rfl⟩
set_option maxHeartbeats 1000000 in
theorem r_listen41 (act : Int32) (T p0 G u n0 : Nat) (hT : T ≤ 60) (hG : 1 ≤ G) (hG2 : G ≤ 14000) (hu : 1 ≤ u) (hu2 : u ≤ 60) (hp0 : p0 ≤ 14000) (hn0 : T * 100 * u < p0 + n0 * G) : ab_Ex (d + 2) 0 yX2_listen [vR 41 0, vI act, vI (nI T), vI (nI p0), vI (nI G), vI (nI u)] (hX mb (mS (mS x 42 w) 41 r) a f) none (hX mb (mS (mS x 42 w) 41 (lisR (okP act (r 3) w (x 17 8) (a 21 3) (a 21 1) (a 21 0)) u G (T * 100 * u) n0 p0 r)) a f) := by
  refine ab_meth oX2_listen (d + 1) _ _ _ _ (Nat.le_refl _) rfl (fun E => ?_)
  have hTu : T * 100 * u ≤ 360000 := Nat.mul_le_mul (Nat.mul_le_mul hT (Nat.le_refl 100)) hu2
  have hend : nI T * 100 * nI u = nI (T * 100 * u) := by
    rw [show (100 : Int32) = nI 100 from rfl, pk_mul, pk_mul]
  have loop : ∀ (n p : Nat) (s : Nat → Int32), (∀ k, k ≠ 5 → k ≠ 7 → s k = r k) → p ≤ 380000 → T * 100 * u < p + n * G →
      ab_W jX2_listen (d + 1) E (hX mb (mS (mS x 42 w) 41 r) a f) (hX mb (mS (mS x 42 w) 41 r) a f).1 (fun v1 h1 => v1 = none ∧ h1 = (hX mb (mS (mS x 42 w) 41 (lisR (okP act (r 3) w (x 17 8) (a 21 3) (a 21 1) (a 21 0)) u G (T * 100 * u) n p s)) a f)) (ab_at iX2_listen 25) [(7, vI (nI p)), (6, vI (nI (T * 100 * u))), (0, vR 41 0), (1, vI act), (2, vI (nI T)), (3, vI (nI p0)), (4, vI (nI G)), (5, vI (nI u))] [] (hX mb (mS (mS x 42 w) 41 s) a f) := by
    intro n
    induction n with
    | zero =>
      intro p s hs hp hn
      refine ab_run [25] 100 oX2_listen.1 (Nat.le_refl _) 25 ?_
      refine ⟨fun c1 => ⟨rfl, rfl⟩, fun c1 => ?_⟩
      exact absurd (nI_le (by omega) (by omega)) c1
    | succ n ih =>
      intro p s hs hp hn
      by_cases hpe : p < T * 100 * u
      · have hdiv : nI p / nI u = nI (p / u) := pk_div (by omega) (by omega) (by omega)
        have hpu : p / u ≤ p := Nat.div_le_self p u
        have hadd : nI p + nI G = nI (p + G) := nI_add p G
        have hmul : (n + 1) * G = n * G + G := Nat.succ_mul n G
        have nxt : ∀ s2 : Nat → Int32, s2 = @ite _ (okP act (r 3) w (x 17 8) (a 21 3) (a 21 1) (a 21 0) (p / u)) (Classical.propDecidable _) (clkR s (p / u)) s → ab_W jX2_listen (d + 1) E (hX mb (mS (mS x 42 w) 41 r) a f) (hX mb (mS (mS x 42 w) 41 r) a f).1 (fun v1 h1 => v1 = none ∧ h1 = (hX mb (mS (mS x 42 w) 41 (lisR (okP act (r 3) w (x 17 8) (a 21 3) (a 21 1) (a 21 0)) u G (T * 100 * u) (n + 1) p s)) a f)) (ab_at iX2_listen 25) [(7, vI (nI p + nI G)), (6, vI (nI (T * 100 * u))), (0, vR 41 0), (1, vI act), (2, vI (nI T)), (3, vI (nI p0)), (4, vI (nI G)), (5, vI (nI u))] [] (hX mb (mS (mS x 42 w) 41 s2) a f) := by
          intro s2 hs2
          have h2 : ∀ k, k ≠ 5 → k ≠ 7 → s2 k = r k := by
            intro k h5 h7
            rw [hs2]
            split
            · rw [clkR_lo s (p / u) h5 h7]
              exact hs k h5 h7
            · exact hs k h5 h7
          have h3 := ih (p + G) s2 h2 (by omega) (by omega)
          have e : lisR (okP act (r 3) w (x 17 8) (a 21 3) (a 21 1) (a 21 0)) u G (T * 100 * u) (n + 1) p s = lisR (okP act (r 3) w (x 17 8) (a 21 3) (a 21 1) (a 21 0)) u G (T * 100 * u) n (p + G) s2 := by
            rw [hs2]
            show (if p < T * 100 * u then _ else s) = _
            rw [if_pos hpe]
          rw [e, hadd]
          exact h3
        refine ab_run [25] 100 oX2_listen.1 (Nat.le_refl _) 25 ?_
        refine ⟨fun c1 => absurd c1 (nI_ge hpe (by omega)), fun c1 => ?_⟩
        refine ⟨nI_ne0 (by omega) (by omega), ?_⟩
        rw [hdiv]
        refine ⟨by decide, ?_⟩
        have hs3 : s 3 = r 3 := hs 3 (by decide) (by decide)
        refine ⟨_, _, x_isSilent d mb (mS (mS x 42 w) 41 s) a f (b := 42) (o := 0) (v := w) (ok42 mb a f _) rfl (s 3 + nI (p / u) / 100), Nat.le_refl _, ?_⟩
        refine ⟨fun c2 => ?_, fun c2 => ?_⟩
        · refine ab_W_lv (lv_pk [0, 4, 5, 6, 7, 8, 9, 10] rfl) (nxt s ?_)
          rw [if_neg]
          intro q
          exact c2 (by show silX (w 0) (s 3 + nI (p / u) / 100) (x 17 8) (a 21 3) (a 21 1) = 0; rw [hs3]; exact q.1)
        · have c2 : silX (w 0) (s 3 + nI (p / u) / 100) (x 17 8) (a 21 3) (a 21 1) = 0 := c2
          refine ⟨by decide, ?_⟩
          refine ⟨_, _, x_loadIn d mb (mS (mS x 42 w) 41 s) a f act _, Nat.le_refl _, ?_⟩
          refine ⟨_, _, f_limit d (b := 42) (o := 0) (v := w) (Nat.le_refl _) (ok42 mb a f _) rfl _, Nat.le_refl _, ?_⟩
          refine ⟨fun c3 => ?_, fun c3 => ?_⟩
          · have c3 : loadI act (ab_rem (nI (p / u)) 100) (a 21 0) < limX (w 0) (w 2) (s 3 + nI (p / u) / 100) := c3
            refine ab_W_lv (lv_pk [0, 4, 5, 6, 7, 8, 9, 10] rfl) (nxt s ?_)
            rw [if_neg]
            intro q
            rw [hs3] at c3
            exact le_nlt q.2 c3
          · have c3 : ¬ loadI act (ab_rem (nI (p / u)) 100) (a 21 0) < limX (w 0) (w 2) (s 3 + nI (p / u) / 100) := c3
            have hok : okP act (r 3) w (x 17 8) (a 21 3) (a 21 1) (a 21 0) (p / u) := by
              rw [hs3] at c2 c3
              exact ⟨c2, nlt_le c3⟩
            refine ⟨fun c4 => ?_, fun c4 => ?_⟩
            · have c4 : ¬ s 5 = s 6 := c4
              refine ab_W_lv (lv_pk [0, 4, 5, 6, 7, 8, 9, 10] rfl) (nxt (upd s 5 (s 5 + 1)) ?_)
              rw [if_pos hok, clkR, if_neg c4]
            · have c4 : s 5 = s 6 := c4
              refine ab_W_lv (lv_pk [0, 4, 5, 6, 7, 8, 9, 10] rfl) (nxt (upd (upd s 7 (s 4 + nI (p / u))) 5 (s 5 + 1)) ?_)
              rw [if_pos hok, clkR, if_pos c4]
      · refine ab_run [25] 100 oX2_listen.1 (Nat.le_refl _) 25 ?_
        refine ⟨fun c1 => ⟨rfl, ?_⟩, fun c1 => ?_⟩
        · rw [show lisR (okP act (r 3) w (x 17 8) (a 21 3) (a 21 1) (a 21 0)) u G (T * 100 * u) (n + 1) p s = s from if_neg hpe]
        · exact absurd (nI_le (by omega) (by omega)) c1
  refine ab_run [25] 100 oX2_listen.1 (Nat.le_refl _) 0 ?_
  refine ⟨fun c1 => ?_, fun c1 => ?_⟩
  · exact absurd c1 (nI_nlt (a := G) (b := 1) hG (by omega))
  refine ⟨fun c2 => ?_, fun c2 => ?_⟩
  · have h9 := loop n0 p0 r (fun _ _ _ => rfl) (by omega) hn0
    rw [← hend] at h9
    exact h9
  · exact absurd (nI_le (a := 1) (b := u) hu (by omega)) c2
end Rider41
section Rider43
variable (d : Nat) (mb : Nat → AB) (x a : mA) (f : mF) (w r : Nat → Int32)
theorem ok44 (x' : mA) : ab_ok (hX mb x' a f) 44 0 := ⟨Nat.le_of_ble_eq_true rfl, Nat.le_of_ble_eq_true rfl, Nat.le_of_ble_eq_true rfl⟩
theorem r_begin43 {i : Nat} (hi : i < 8) (wanted : Int32) : ab_Ex (d + 2) 0 yX2_begin [vR 43 0, vR 20 i, vI wanted] (hX mb (mS (mS x 44 w) 43 r) a f) none (hX mb (mS (mS x 44 (f 20 i)) 43 (rB (upI (f 20 i 0) (f 20 i 5) (x 17 0)) (x 17 7) wanted r)) a f) := by
  refine ab_meth oX2_begin (d + 1) _ _ _ _ (Nat.le_refl _) rfl (fun E => ?_)
  refine ab_run [] 100 oX2_begin.1 (Nat.le_refl _) 0 ?_
  refine ⟨_, _, f_copyFrom d (b := 44) (o := 0) (b2 := 20) (o2 := i) (v := w) (v2 := f 20 i) (Nat.le_refl _) rfl (ok44 mb a f _) rfl (hX_ok20 mb _ a f hi) rfl (by omega), Nat.le_refl _, ?_⟩
  have e : ab_set (hX mb (mS (mS x 44 w) 43 r) a f) 44 0 (xFt (f 20 i)) = (hX mb (mS (mS x 44 (f 20 i)) 43 r) a f) := rfl
  rw [e]
  refine ⟨_, _, x_upOf d mb _ a f (hX_ok20 mb _ a f hi) rfl, Nat.le_refl _, ?_⟩
  exact ⟨rfl, rfl⟩
theorem r_shift43 (hn : x 17 3 ≤ 5) (h8 : 0 < w 8) (gear : Int32) : ab_Ex (d + 2) 0 yX2_shiftTo [vR 43 0, vI gear] (hX mb (mS (mS x 44 w) 43 r) a f) none (hX mb (mS (mS x 44 (rW w (downX (w 0) (w 6) (x 17 1) gear (x 17 3) (a 18)))) 43 r) a f) := by
  refine ab_meth oX2_shiftTo (d + 1) _ _ _ _ (Nat.le_refl _) rfl (fun E => ?_)
  refine ab_run [] 100 oX2_shiftTo.1 (Nat.le_refl _) 0 ?_
  refine ⟨_, _, x_downOf d mb (mS (mS x 44 w) 43 r) a f (b := 44) (o := 0) (v := w) (ok44 mb a f _) rfl hn gear, Nat.le_refl _, ?_⟩
  refine ⟨_, _, f_scaleTo d (b := 44) (o := 0) (v := w) (Nat.le_refl _) rfl (ok44 mb a f _) rfl _ h8, Nat.le_refl _, ?_⟩
  exact ⟨rfl, rfl⟩
theorem r_partsInStep43 (act : Int32) : ab_Ex (d + 2) 0 yX2_partsInStep [vR 43 0, vI act] (hX mb (mS (mS x 44 w) 43 r) a f) (some (vI (paceI act (r 2) (w 0)))) (hX mb (mS (mS x 44 w) 43 r) a f) := by
  refine ab_meth oX2_partsInStep (d + 1) _ _ _ _ (Nat.le_refl _) rfl (fun E => ?_)
  refine ab_run [] 100 oX2_partsInStep.1 (Nat.le_refl _) 0 ?_
  unfold paceI
  refine ⟨fun c1 => ?_, fun c1 => ?_⟩
  · refine ⟨fun c2 => ?_, fun c2 => ?_⟩
    · refine ⟨?_, rfl⟩
      rw [if_neg (le_nlt c1), if_neg (fun q => c2 q.1)]
    · refine ⟨_, _, f_goesBack d (b := 44) (o := 0) (v := w) (Nat.le_refl _) (ok44 mb a f _) rfl, Nat.le_refl _, br_z (fun c3 => ?_) (fun c3 => ?_)⟩
      · refine ⟨?_, rfl⟩
        rw [if_neg (le_nlt c1), if_neg (fun q => c3 q.2)]
      · refine ⟨?_, rfl⟩
        rw [if_neg (le_nlt c1), if_pos ⟨c2, c3⟩]
        rfl
  · refine ⟨?_, rfl⟩
    rw [if_pos (nle_lt c1)]
    rfl
theorem r_comesByIn43 (step : Int32) : ab_Ex (d + 3) 0 yX2_comesByIn [vR 43 0, vI step] (hX mb (mS (mS x 44 w) 43 r) a f) (some (vI (bI (wrapI (wrapI (w 1 * w 8 - w 7 - 1) (100 * w 8) - step * r 2) (100 * w 8) < r 2)))) (hX mb (mS (mS x 44 w) 43 r) a f) := by
  refine ab_meth oX2_comesByIn (d + 2) _ _ _ _ (Nat.le_refl _) rfl (fun E => ?_)
  refine ab_run [] 100 oX2_comesByIn.1 (Nat.le_refl _) 0 ?_
  refine ⟨_, _, f_parts d (b := 44) (o := 0) (v := w) (Nat.le_refl _) (ok44 mb a f _) rfl, Nat.le_refl _, ?_⟩
  refine ⟨_, _, x_wrap (d + 1) _ (Nat.le_refl _) _ _, Nat.le_refl _, ?_⟩
  refine ⟨fun c1 => ?_, fun c1 => ?_⟩
  · exact ⟨Or.inl rfl, bI_fs (le_nlt c1), rfl⟩
  · exact ⟨Or.inr rfl, bI_ts (nle_lt c1), rfl⟩
set_option maxHeartbeats 1000000 in
theorem r_listen43 (act : Int32) (T p0 G u n0 : Nat) (hT : T ≤ 60) (hG : 1 ≤ G) (hG2 : G ≤ 14000) (hu : 1 ≤ u) (hu2 : u ≤ 60) (hp0 : p0 ≤ 14000) (hn0 : T * 100 * u < p0 + n0 * G) : ab_Ex (d + 2) 0 yX2_listen [vR 43 0, vI act, vI (nI T), vI (nI p0), vI (nI G), vI (nI u)] (hX mb (mS (mS x 44 w) 43 r) a f) none (hX mb (mS (mS x 44 w) 43 (lisR (okP act (r 3) w (x 17 8) (a 21 3) (a 21 1) (a 21 0)) u G (T * 100 * u) n0 p0 r)) a f) := by
  refine ab_meth oX2_listen (d + 1) _ _ _ _ (Nat.le_refl _) rfl (fun E => ?_)
  have hTu : T * 100 * u ≤ 360000 := Nat.mul_le_mul (Nat.mul_le_mul hT (Nat.le_refl 100)) hu2
  have hend : nI T * 100 * nI u = nI (T * 100 * u) := by
    rw [show (100 : Int32) = nI 100 from rfl, pk_mul, pk_mul]
  have loop : ∀ (n p : Nat) (s : Nat → Int32), (∀ k, k ≠ 5 → k ≠ 7 → s k = r k) → p ≤ 380000 → T * 100 * u < p + n * G →
      ab_W jX2_listen (d + 1) E (hX mb (mS (mS x 44 w) 43 r) a f) (hX mb (mS (mS x 44 w) 43 r) a f).1 (fun v1 h1 => v1 = none ∧ h1 = (hX mb (mS (mS x 44 w) 43 (lisR (okP act (r 3) w (x 17 8) (a 21 3) (a 21 1) (a 21 0)) u G (T * 100 * u) n p s)) a f)) (ab_at iX2_listen 25) [(7, vI (nI p)), (6, vI (nI (T * 100 * u))), (0, vR 43 0), (1, vI act), (2, vI (nI T)), (3, vI (nI p0)), (4, vI (nI G)), (5, vI (nI u))] [] (hX mb (mS (mS x 44 w) 43 s) a f) := by
    intro n
    induction n with
    | zero =>
      intro p s hs hp hn
      refine ab_run [25] 100 oX2_listen.1 (Nat.le_refl _) 25 ?_
      refine ⟨fun c1 => ⟨rfl, rfl⟩, fun c1 => ?_⟩
      exact absurd (nI_le (by omega) (by omega)) c1
    | succ n ih =>
      intro p s hs hp hn
      by_cases hpe : p < T * 100 * u
      · have hdiv : nI p / nI u = nI (p / u) := pk_div (by omega) (by omega) (by omega)
        have hpu : p / u ≤ p := Nat.div_le_self p u
        have hadd : nI p + nI G = nI (p + G) := nI_add p G
        have hmul : (n + 1) * G = n * G + G := Nat.succ_mul n G
        have nxt : ∀ s2 : Nat → Int32, s2 = @ite _ (okP act (r 3) w (x 17 8) (a 21 3) (a 21 1) (a 21 0) (p / u)) (Classical.propDecidable _) (clkR s (p / u)) s → ab_W jX2_listen (d + 1) E (hX mb (mS (mS x 44 w) 43 r) a f) (hX mb (mS (mS x 44 w) 43 r) a f).1 (fun v1 h1 => v1 = none ∧ h1 = (hX mb (mS (mS x 44 w) 43 (lisR (okP act (r 3) w (x 17 8) (a 21 3) (a 21 1) (a 21 0)) u G (T * 100 * u) (n + 1) p s)) a f)) (ab_at iX2_listen 25) [(7, vI (nI p + nI G)), (6, vI (nI (T * 100 * u))), (0, vR 43 0), (1, vI act), (2, vI (nI T)), (3, vI (nI p0)), (4, vI (nI G)), (5, vI (nI u))] [] (hX mb (mS (mS x 44 w) 43 s2) a f) := by
          intro s2 hs2
          have h2 : ∀ k, k ≠ 5 → k ≠ 7 → s2 k = r k := by
            intro k h5 h7
            rw [hs2]
            split
            · rw [clkR_lo s (p / u) h5 h7]
              exact hs k h5 h7
            · exact hs k h5 h7
          have h3 := ih (p + G) s2 h2 (by omega) (by omega)
          have e : lisR (okP act (r 3) w (x 17 8) (a 21 3) (a 21 1) (a 21 0)) u G (T * 100 * u) (n + 1) p s = lisR (okP act (r 3) w (x 17 8) (a 21 3) (a 21 1) (a 21 0)) u G (T * 100 * u) n (p + G) s2 := by
            rw [hs2]
            show (if p < T * 100 * u then _ else s) = _
            rw [if_pos hpe]
          rw [e, hadd]
          exact h3
        refine ab_run [25] 100 oX2_listen.1 (Nat.le_refl _) 25 ?_
        refine ⟨fun c1 => absurd c1 (nI_ge hpe (by omega)), fun c1 => ?_⟩
        refine ⟨nI_ne0 (by omega) (by omega), ?_⟩
        rw [hdiv]
        refine ⟨by decide, ?_⟩
        have hs3 : s 3 = r 3 := hs 3 (by decide) (by decide)
        refine ⟨_, _, x_isSilent d mb (mS (mS x 44 w) 43 s) a f (b := 44) (o := 0) (v := w) (ok44 mb a f _) rfl (s 3 + nI (p / u) / 100), Nat.le_refl _, ?_⟩
        refine ⟨fun c2 => ?_, fun c2 => ?_⟩
        · refine ab_W_lv (lv_pk [0, 4, 5, 6, 7, 8, 9, 10] rfl) (nxt s ?_)
          rw [if_neg]
          intro q
          exact c2 (by show silX (w 0) (s 3 + nI (p / u) / 100) (x 17 8) (a 21 3) (a 21 1) = 0; rw [hs3]; exact q.1)
        · have c2 : silX (w 0) (s 3 + nI (p / u) / 100) (x 17 8) (a 21 3) (a 21 1) = 0 := c2
          refine ⟨by decide, ?_⟩
          refine ⟨_, _, x_loadIn d mb (mS (mS x 44 w) 43 s) a f act _, Nat.le_refl _, ?_⟩
          refine ⟨_, _, f_limit d (b := 44) (o := 0) (v := w) (Nat.le_refl _) (ok44 mb a f _) rfl _, Nat.le_refl _, ?_⟩
          refine ⟨fun c3 => ?_, fun c3 => ?_⟩
          · have c3 : loadI act (ab_rem (nI (p / u)) 100) (a 21 0) < limX (w 0) (w 2) (s 3 + nI (p / u) / 100) := c3
            refine ab_W_lv (lv_pk [0, 4, 5, 6, 7, 8, 9, 10] rfl) (nxt s ?_)
            rw [if_neg]
            intro q
            rw [hs3] at c3
            exact le_nlt q.2 c3
          · have c3 : ¬ loadI act (ab_rem (nI (p / u)) 100) (a 21 0) < limX (w 0) (w 2) (s 3 + nI (p / u) / 100) := c3
            have hok : okP act (r 3) w (x 17 8) (a 21 3) (a 21 1) (a 21 0) (p / u) := by
              rw [hs3] at c2 c3
              exact ⟨c2, nlt_le c3⟩
            refine ⟨fun c4 => ?_, fun c4 => ?_⟩
            · have c4 : ¬ s 5 = s 6 := c4
              refine ab_W_lv (lv_pk [0, 4, 5, 6, 7, 8, 9, 10] rfl) (nxt (upd s 5 (s 5 + 1)) ?_)
              rw [if_pos hok, clkR, if_neg c4]
            · have c4 : s 5 = s 6 := c4
              refine ab_W_lv (lv_pk [0, 4, 5, 6, 7, 8, 9, 10] rfl) (nxt (upd (upd s 7 (s 4 + nI (p / u))) 5 (s 5 + 1)) ?_)
              rw [if_pos hok, clkR, if_pos c4]
      · refine ab_run [25] 100 oX2_listen.1 (Nat.le_refl _) 25 ?_
        refine ⟨fun c1 => ⟨rfl, ?_⟩, fun c1 => ?_⟩
        · rw [show lisR (okP act (r 3) w (x 17 8) (a 21 3) (a 21 1) (a 21 0)) u G (T * 100 * u) (n + 1) p s = s from if_neg hpe]
        · exact absurd (nI_le (by omega) (by omega)) c1
  refine ab_run [25] 100 oX2_listen.1 (Nat.le_refl _) 0 ?_
  refine ⟨fun c1 => ?_, fun c1 => ?_⟩
  · exact absurd c1 (nI_nlt (a := G) (b := 1) hG (by omega))
  refine ⟨fun c2 => ?_, fun c2 => ?_⟩
  · have h9 := loop n0 p0 r (fun _ _ _ => rfl) (by omega) hn0
    rw [← hend] at h9
    exact h9
  · exact absurd (nI_le (a := 1) (b := u) hu (by omega)) c2
end Rider43
