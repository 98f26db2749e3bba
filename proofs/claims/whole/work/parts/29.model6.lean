/-! the model's looks -/
abbrev fsT : Type := Int × (Int → Int) × (Int → Int) × (Int → Int) × (Int → Int)
def rpW (dk : Int → Int64) (u : fsT) (S : List Int) : Prop := rpM u.2.1 u.2.2.1 u.2.2.2.1 u.2.2.2.2 dk u.1 S
def okW (u : fsT) : Prop := 0 ≤ u.1 ∧ u.1 ≤ 41
def mwQ (gq : (Int → Int) → Int → Int) (dk : Int → Int64) (rc nb mn kp : Int) (f : Nat) (R : Int → Int) (d b lk lg : Int) (S : List Int) (u0 u1 : fsT) (r1 lk1 lg1 : Int) : Prop :=
  (0 ≤ lg1 ∧ lg1 ≤ 5) ∧ okW u1 ∧ (kp = 0 → u1 = u0) ∧ (r1 = 0 ∨ r1 = 1) ∧
  (lk + lkT gq rc nb f R d b ≤ 20000 → r1 = 1 ∧ lk1 = lk + lkT gq rc nb f R d b ∧ lg1 = (if lg < lgT gq rc nb f R d b then lgT gq rc nb f R d b else lg) ∧ (kp = 1 → rpW dk u1 (insA (fdT gq rc nb mn f R d b) S))) ∧ (20000 < lk + lkT gq rc nb f R d b → r1 = 0 ∧ lk1 = 20001)
def mlQ (gq : (Int → Int) → Int → Int) (dk : Int → Int64) (rc nb mn kp : Int) (f : Nat) (R : Int → Int) (d x lk1 lg1 : Int) (S : List Int) (u0 u1 : fsT) (lk lg : Int) : Prop :=
  (0 ≤ lg ∧ lg ≤ 5) ∧ okW u1 ∧ (kp = 0 → u1 = u0) ∧ (lk = lk1 + sumZ (chL gq rc nb f R d) x.toNat ∧ lk ≤ 20000) ∧ lg = (if lg1 < mxZ (chG gq rc nb f R d) x.toNat then mxZ (chG gq rc nb f R d) x.toNat else lg1) ∧ (kp = 1 → rpW dk u1 (insA (catZ (chF gq rc nb mn f R d) x.toNat) S))
def mfQ (gq : (Int → Int) → Int → Int) (dk : Int → Int64) (rc nb mn kp : Int) (f : Nat) (R : Int → Int) (d lk1 lg1 : Int) (S : List Int) (u0 u1 : fsT) (r1 lk lg : Int) : Prop :=
  (0 ≤ lg ∧ lg ≤ 5) ∧ okW u1 ∧ (kp = 0 → u1 = u0) ∧ (r1 = 0 ∨ r1 = 1) ∧
  (lk1 + sumZ (chL gq rc nb f R d) nb.toNat ≤ 20000 → r1 = 1 ∧ lk = lk1 + sumZ (chL gq rc nb f R d) nb.toNat ∧ lg = (if lg1 < mxZ (chG gq rc nb f R d) nb.toNat then mxZ (chG gq rc nb f R d) nb.toNat else lg1) ∧ (kp = 1 → rpW dk u1 (insA (catZ (chF gq rc nb mn f R d) nb.toNat) S))) ∧ (20000 < lk1 + sumZ (chL gq rc nb f R d) nb.toNat → r1 = 0 ∧ lk = 20001)
section MQs
variable {gq : (Int → Int) → Int → Int} {dk : Int → Int64} {rc nb mn kp : Int} {f : Nat} {R R' : Int → Int} {d x b lk lg lk1 lg1 lk2 lg2 r1 : Int} {S S' : List Int} {u0 u1 u2 : fsT}
theorem sumZ_le {g : Int → Int} (h : ∀ j : Int, 0 ≤ g j) : ∀ (i k : Nat), sumZ g i ≤ sumZ g (i + k) := by
  intro i k
  induction k with
  | zero => exact Int.le_refl _
  | succ k ih => show sumZ g i ≤ sumZ g (i + k) + g ((i + k : Nat) : Int); have := h ((i + k : Nat) : Int); omega
theorem ml_init (h1 : lk ≤ 20000) (h2 : 0 ≤ lg ∧ lg ≤ 5) (h3 : okW u0) (h4 : kp = 1 → rpW dk u0 S) : mlQ gq dk rc nb mn kp f R d 0 lk lg S u0 u0 lk lg :=
  ⟨h2, h3, fun _ => rfl, ⟨by show lk = lk + 0; omega, h1⟩, by show lg = if lg < 0 then 0 else lg; rw [if_neg (by omega)], h4⟩
theorem ml_skip (hx : 0 ≤ x) (hm : ¬ may rc R d x) (h : mlQ gq dk rc nb mn kp f R d x lk1 lg1 S u0 u1 lk lg) : mlQ gq dk rc nb mn kp f R d (x + 1) lk1 lg1 S u0 u1 lk lg := by
  have e1 : sumZ (chL gq rc nb f R d) (x + 1).toNat = sumZ (chL gq rc nb f R d) x.toNat := by rw [sumZ_1 _ hx, show chL gq rc nb f R d x = 0 from cIf_f hm]; omega
  have e2 : mxZ (chG gq rc nb f R d) (x + 1).toNat = mxZ (chG gq rc nb f R d) x.toNat := by rw [mxZ_1 _ hx, show chG gq rc nb f R d x = 0 from cIf_f hm, if_neg (by have := mxZ_nn (f := chG gq rc nb f R d) x.toNat; omega)]
  have e3 : catZ (chF gq rc nb mn f R d) (x + 1).toNat = catZ (chF gq rc nb mn f R d) x.toNat := by rw [catZ_1 _ hx, show chF gq rc nb mn f R d x = [] from cIf_f hm, List.append_nil]
  unfold mlQ
  rw [e1, e2, e3]
  exact h
theorem ml_call (hg : gqC gq) (hd : 0 ≤ d) (hx : 0 ≤ x) (hm : may rc R d x) (hR : ∀ k : Int, 0 ≤ k ∧ k < d → R' k = R k) (h : mlQ gq dk rc nb mn kp f R d x lk1 lg1 S u0 u1 lk lg) (hw : mwQ gq dk rc nb mn kp f R' d x lk lg (insA (catZ (chF gq rc nb mn f R d) x.toNat) S) u1 u2 r1 lk2 lg2) (hr : r1 ≠ 0) : mlQ gq dk rc nb mn kp f R d (x + 1) lk1 lg1 S u0 u2 lk2 lg2 := by
  have e1 : sumZ (chL gq rc nb f R d) (x + 1).toNat = sumZ (chL gq rc nb f R d) x.toNat + lkT gq rc nb f R d x := by rw [sumZ_1 _ hx, show chL gq rc nb f R d x = _ from cIf_t hm]
  have e2 : mxZ (chG gq rc nb f R d) (x + 1).toNat = if mxZ (chG gq rc nb f R d) x.toNat < lgT gq rc nb f R d x then lgT gq rc nb f R d x else mxZ (chG gq rc nb f R d) x.toNat := by rw [mxZ_1 _ hx, show chG gq rc nb f R d x = _ from cIf_t hm]
  have e3 : catZ (chF gq rc nb mn f R d) (x + 1).toNat = catZ (chF gq rc nb mn f R d) x.toNat ++ fdT gq rc nb mn f R d x := by rw [catZ_1 _ hx, show chF gq rc nb mn f R d x = _ from cIf_t hm]
  have g1 := lkT_cg hg rc nb f R' R d x hd hR
  have g2 := fdT_cg hg rc nb mn f R' R d x hd hR
  have g3 := lgT_cg hg rc nb f R' R d x hd hR
  unfold mlQ
  unfold mwQ at hw
  rw [g1, g2, g3] at hw
  rw [e1, e2, e3]
  obtain ⟨-, -, l3, l4, l5, l6⟩ := h
  obtain ⟨w1, w2, w3, w4, w5, w6⟩ := hw
  have hle : lk + lkT gq rc nb f R d x ≤ 20000 := by
    rcases Int.lt_or_le 20000 (lk + lkT gq rc nb f R d x) with z | z
    · exact absurd (w6 z).1 hr
    · exact z
  obtain ⟨v1, v2, v3, v4⟩ := w5 hle
  refine ⟨w1, w2, fun q => (w3 q).trans (l3 q), ⟨by omega, by omega⟩, ?_, fun q => ?_⟩
  · rw [v3, l5]; exact mx3 _ _ _
  · rw [insA_app]; exact v4 q
theorem ml_fail (hg : gqC gq) (hd : 0 ≤ d) (hx : 0 ≤ x ∧ x < nb) (hm : may rc R d x) (hR : ∀ k : Int, 0 ≤ k ∧ k < d → R' k = R k) (h : mlQ gq dk rc nb mn kp f R d x lk1 lg1 S u0 u1 lk lg) (hw : mwQ gq dk rc nb mn kp f R' d x lk lg S' u1 u2 r1 lk2 lg2) (hr : r1 = 0) : mfQ gq dk rc nb mn kp f R d lk1 lg1 S u0 u2 0 lk2 lg2 := by
  have e1 : sumZ (chL gq rc nb f R d) (x + 1).toNat = sumZ (chL gq rc nb f R d) x.toNat + lkT gq rc nb f R d x := by rw [sumZ_1 _ hx.1, show chL gq rc nb f R d x = _ from cIf_t hm]
  have g1 := lkT_cg hg rc nb f R' R d x hd hR
  unfold mwQ at hw
  rw [g1] at hw
  obtain ⟨-, -, l3, l4, -, -⟩ := h
  obtain ⟨w1, w2, w3, w4, w5, w6⟩ := hw
  have hgt : 20000 < lk + lkT gq rc nb f R d x := by
    rcases Int.lt_or_le 20000 (lk + lkT gq rc nb f R d x) with z | z
    · exact z
    · have := (w5 z).1; omega
  have hs := sumZ_le (g := chL gq rc nb f R d) (chL_nn gq rc nb f R d) (x + 1).toNat (nb.toNat - (x + 1).toNat)
  rw [show (x + 1).toNat + (nb.toNat - (x + 1).toNat) = nb.toNat by omega] at hs
  exact ⟨w1, w2, fun q => (w3 q).trans (l3 q), Or.inl rfl, fun q => by omega, fun _ => ⟨rfl, (w6 hgt).2⟩⟩
theorem ml_end (hx : x = nb) (h : mlQ gq dk rc nb mn kp f R d x lk1 lg1 S u0 u1 lk lg) : mfQ gq dk rc nb mn kp f R d lk1 lg1 S u0 u1 1 lk lg := by
  subst hx
  obtain ⟨l1, l2, l3, l4, l5, l6⟩ := h
  exact ⟨l1, l2, l3, Or.inr rfl, fun q => ⟨rfl, l4.1, l5, l6⟩, fun q => by omega⟩
theorem mw_long (h1 : lk = 20000) (h2 : 0 ≤ lg ∧ lg ≤ 5) (h3 : okW u0) : mwQ gq dk rc nb mn kp f R d b lk lg S u0 u0 0 (lk + 1) lg := by
  have := lkT_1 gq rc nb f R d b
  exact ⟨h2, h3, fun _ => rfl, Or.inl rfl, fun q => by omega, fun _ => ⟨rfl, by omega⟩⟩
theorem mw_no (hg : gq (zup R d b) d = 0) (h1 : lk + 1 ≤ 20000) (h2 : 0 ≤ lg ∧ lg ≤ 5) (h3 : okW u1) (h0 : kp = 0 → u1 = u0) (h4 : kp = 1 → rpW dk u1 S) : mwQ gq dk rc nb mn kp (f + 1) R d b lk lg S u0 u1 1 (lk + 1) lg := by
  have t1 : lkT gq rc nb (f + 1) R d b = 1 := by
    show 1 + cIf _ _ _ = _
    rw [cIf_f (by omega)]
    rfl
  have t2 : lgT gq rc nb (f + 1) R d b = 0 := cIf_t hg
  have t3 : fdT gq rc nb mn (f + 1) R d b = [] := by
    show cIf _ _ _ = _
    rw [cIf_f (by omega), cIf_f (by omega)]
  unfold mwQ
  rw [t1, t2, t3]
  exact ⟨h2, h3, h0, Or.inr rfl, fun _ => ⟨rfl, rfl, by rw [if_neg (by omega)], h4⟩, fun q => by omega⟩
theorem mw_file (hg : gq (zup R d b) d = 2) (hd : 0 ≤ d ∧ d < 5) (h1 : lk + 1 ≤ 20000) (h2 : 0 ≤ lg ∧ lg ≤ 5) (h3 : okW u1) (h0 : kp = 0 → u1 = u0) (h4 : kp = 1 → rpW dk u1 (insS (kyZ (zup R d b) (d + 1) mn) S)) : mwQ gq dk rc nb mn kp (f + 1) R d b lk lg S u0 u1 1 (lk + 1) (if lg < d + 1 then d + 1 else lg) := by
  have t1 : lkT gq rc nb (f + 1) R d b = 1 := by
    show 1 + cIf _ _ _ = _
    rw [cIf_f (by omega)]
    rfl
  have t2 : lgT gq rc nb (f + 1) R d b = d + 1 := by
    show cIf _ _ _ = _
    rw [cIf_f (by omega), cIf_f (by omega)]
  have t3 : fdT gq rc nb mn (f + 1) R d b = [kyZ (zup R d b) (d + 1) mn] := cIf_t hg
  unfold mwQ
  rw [t1, t2, t3]
  exact ⟨by split <;> omega, h3, h0, Or.inr rfl, fun _ => ⟨rfl, rfl, rfl, h4⟩, fun q => by omega⟩
theorem mw_go (hg1 : gq (zup R d b) d = 1) (hd : 0 ≤ d ∧ d < 5) (h : mfQ gq dk rc nb mn kp f (zup R d b) (d + 1) (lk + 1) (if lg < d + 1 then d + 1 else lg) S u0 u1 r1 lk1 lg1) : mwQ gq dk rc nb mn kp (f + 1) R d b lk lg S u0 u1 r1 lk1 lg1 := by
  have t1 : lkT gq rc nb (f + 1) R d b = 1 + sumZ (chL gq rc nb f (zup R d b) (d + 1)) nb.toNat := by
    show 1 + cIf _ _ _ = _
    rw [cIf_t hg1]
    rfl
  have t2 : lgT gq rc nb (f + 1) R d b = if d + 1 < mxZ (chG gq rc nb f (zup R d b) (d + 1)) nb.toNat then mxZ (chG gq rc nb f (zup R d b) (d + 1)) nb.toNat else d + 1 := by
    show cIf _ _ _ = _
    rw [cIf_f (by omega), cIf_t hg1]
    rfl
  have t3 : fdT gq rc nb mn (f + 1) R d b = catZ (chF gq rc nb mn f (zup R d b) (d + 1)) nb.toNat := by
    show cIf _ _ _ = _
    rw [cIf_f (by omega), cIf_t hg1]
    rfl
  unfold mwQ
  rw [t1, t2, t3]
  obtain ⟨l1, l2, l3, l4, l5, l6⟩ := h
  refine ⟨l1, l2, l3, l4, fun q => ?_, fun q => l6 (by omega)⟩
  obtain ⟨p1, p2, p3, p4⟩ := l5 (by omega)
  refine ⟨p1, by omega, ?_, p4⟩
  rw [p3]
  exact mx3 _ _ _
end MQs
theorem txR_up {dk : Int → Int64} {R : Int → Int} {d b j : Int} (hj : 0 ≤ j ∧ j < 8 * d) : txR dk (zup R d b) j = txR dk R j := by
  unfold txR
  rw [zup_n _ _ (by omega)]
theorem txR_eq {dk : Int → Int64} {R R' : Int → Int} {d j : Int} (h : ∀ k : Int, 0 ≤ k ∧ k < d → R' k = R k) (hj : 0 ≤ j ∧ j < 8 * d) : txR dk R' j = txR dk R j := by
  unfold txR
  rw [h (j / 8) (by omega)]
theorem stX_eq {T tx tx' : Int → Int} {n : Int} (h : ∀ j : Int, 0 ≤ j ∧ j < n → tx' j = tx j) : stX T tx' n = stX T tx n := by
  unfold stX
  have : ∀ k : Nat, (k : Int) ≤ n - 3 → runS T (fun j => tx' (3 + j)) k = runS T (fun j => tx (3 + j)) k := by
    intro k
    induction k with
    | zero => intro _; rfl
    | succ k ih =>
      intro hk
      show stepZ T (tx' (3 + (k : Int))) _ = stepZ T (tx (3 + (k : Int))) _
      rw [ih (by omega), h _ (by omega)]
  rcases (show n - 3 ≤ 0 ∨ 0 < n - 3 by omega) with q | q
  · rw [show (n - 3).toNat = 0 by omega]; rfl
  · exact this _ (by omega)
