/-! one look and those that follow from it: what a walk leaves, its loop, its bits -/
theorem runS_cg {T hd hd' : Int → Int} : ∀ k : Nat, (∀ j : Int, 0 ≤ j ∧ j < (k : Int) → hd j = hd' j) → runS T hd k = runS T hd' k := by
  intro k
  induction k with
  | zero => intro _; rfl
  | succ k ih => intro h; show stepZ T (hd k) (runS T hd k) = stepZ T (hd' k) (runS T hd' k); rw [ih (fun j hj => h j (by omega)), h k (by omega)]
theorem stX_cg {T tx tx' : Int → Int} {k : Int} (h : ∀ i : Int, 0 ≤ i ∧ i < k → tx i = tx' i) : stX T tx k = stX T tx' k := runS_cg _ (fun j hj => h _ (by omega))
theorem okA_cg {a1 a2 kd gl : Int} {T tx tx' : Int → Int} {n j : Int} (hn : 3 ≤ n) (h : ∀ i : Int, 0 ≤ i ∧ i < n → tx i = tx' i) (hj : 0 ≤ j ∧ j < n) : okA a1 a2 kd gl T tx j ↔ okA a1 a2 kd gl T tx' j := by
  unfold okA
  rw [h 0 (by omega), h 1 (by omega), h 2 (by omega), h j hj, stX_cg (T := T) (k := j + 1) (fun i hi => h i (by omega)), ckF_cg (kd := kd) j.toNat (fun i hi => h i (by omega))]
theorem txR_cg {dk : Int → Int64} {R R' : Int → Int} {d : Int} (h : ∀ k : Int, 0 ≤ k ∧ k < d → R k = R' k) : ∀ i : Int, 0 ≤ i ∧ i < 8 * d → txR dk R i = txR dk R' i := by
  intro i hi
  unfold txR
  rw [h (i / 8) (by omega)]
noncomputable def gqZ (a1 a2 kd gl : Int) (T : Int → Int) (dk : Int → Int64) : (Int → Int) → Int → Int := fun R d => gZ a1 a2 kd gl T (txR dk R) d
theorem gqZ_C (a1 a2 kd gl : Int) (T : Int → Int) (dk : Int → Int64) : gqC (gqZ a1 a2 kd gl T dk) := by
  intro R R' d hd h
  have ht := txR_cg (dk := dk) (d := d + 1) h
  unfold gqZ gZ
  rw [ht 2 (by omega)]
  refine cIf_cg ⟨fun q j hj => (okA_cg (n := 8 * (d + 1)) (by omega) ht (by omega)).mp (q j hj), fun q j hj => (okA_cg (n := 8 * (d + 1)) (by omega) ht (by omega)).mpr (q j hj)⟩ (fun _ => rfl) rfl
theorem goesI_cg {a1 a2 kd gl : Int} {T : Int → Int} {dk : Int → Int64} {R R' SB SB' CB CB' : Int → Int} {ca d : Int} (h : ∀ k : Int, 0 ≤ k ∧ k < d → R k = R' k ∧ SB k = SB' k ∧ CB k = CB' k) (I : goesI a1 a2 kd gl T (txR dk R) SB CB ca d) : goesI a1 a2 kd gl T (txR dk R') SB' CB' ca d := by
  rcases I with q | ⟨q, i1, i2, i3, i4, i5⟩
  · exact Or.inl q
  · have ht := txR_cg (dk := dk) (d := d) (fun k hk => (h k hk).1)
    refine Or.inr ⟨q, fun j hj => (okA_cg (n := 8 * d) (by omega) ht (by omega)).mp (i1 j hj), by rw [← ht 2 (by omega)]; exact i2, ?_, ?_, by rw [← ht 2 (by omega)]; exact i5⟩
    · rw [← (h (d - 1) (by omega)).2.1, i3]; exact stX_cg ht
    · rw [← (h (d - 1) (by omega)).2.2, i4]; exact ckF_cg _ (fun i hi => ht i (by omega))
theorem goesI_s {a1 a2 kd gl : Int} {T tx SB CB : Int → Int} {ca d s1 c1 : Int} (hd : 0 ≤ d) (I : goesI a1 a2 kd gl T tx SB CB ca d) (hg : gOk a1 a2 kd gl T tx d) (h8 : 8 * d + 8 ≤ 3 + tx 2) (hs : s1 = stX T tx (8 * d + 8)) (hc : c1 = ckF kd tx (8 * d + 8).toNat) : goesI a1 a2 kd gl T tx (zup SB d s1) (zup CB d c1) (3 + tx 2) (d + 1) := by
  refine Or.inr ⟨by omega, fun j hj => ?_, by omega, ?_, ?_, rfl⟩
  · rcases Int.lt_or_le j (8 * d) with q | q
    · rcases I with w | ⟨w, i1, -⟩
      · omega
      · exact i1 j (by omega)
    · exact hg j (by omega)
  · rw [show d + 1 - 1 = d by omega, zup_s, hs, show 8 * (d + 1) = 8 * d + 8 by omega]
  · rw [show d + 1 - 1 = d by omega, zup_s, hc, show 8 * (d + 1) = 8 * d + 8 by omega]
/-- the blocks of a row as bits -/
def bitsI (bits : Int) (R : Int → Int) (d : Int) : Prop := (0 ≤ bits ∧ bits < 16777216) ∧ ∀ x : Int, 0 ≤ x ∧ x < 24 → (bits / ((2 ^ x.toNat : Nat) : Int) % 2 = 1 ↔ ∃ k : Int, (0 ≤ k ∧ k < d) ∧ R k = x)
theorem bit_tb (n x : Nat) : (n : Int) / ((2 ^ x : Nat) : Int) % 2 = 1 ↔ n.testBit x = true := by
  rw [Nat.testBit_eq_decide_div_mod_eq, decide_eq_true_eq]
  omega
theorem bit_test {bits x : Int} (hb : 0 ≤ bits ∧ bits < 16777216) (hx : 0 ≤ x ∧ x < 24) : zand (zushr bits x) 1 = bits / ((2 ^ x.toNat : Nat) : Int) % 2 := by
  have h1 := zushr_div (a := bits) x.toNat (by omega) (by omega)
  rw [Int.toNat_of_nonneg hx.1] at h1
  have h2 : 0 ≤ bits / ((2 ^ x.toNat : Nat) : Int) := Int.ediv_nonneg hb.1 (Int.natCast_nonneg _)
  have h3 := Int.ediv_le_self ((2 ^ x.toNat : Nat) : Int) hb.1
  rw [h1, zand_1 (by omega)]
theorem bits_add {bits b d : Int} {R R' : Int → Int} (h : bitsI bits R d) (hd : 0 ≤ d) (hb : 0 ≤ b ∧ b < 24) (hR : ∀ k : Int, 0 ≤ k ∧ k < d → R k = R' k) (hRb : R' d = b) : bitsI (zor bits (zshl 1 b)) R' (d + 1) := by
  obtain ⟨hr, hx⟩ := h
  rw [zshl1 (by omega)]
  have hp : (2 : Nat) ^ b.toNat < 2 ^ 24 := Nat.pow_lt_pow_right (by decide) (by omega)
  have hp : (2 : Nat) ^ b.toNat < 16777216 := hp
  refine ⟨zor_bd 24 (by decide) hr ⟨Int.natCast_nonneg _, by show _ < (16777216 : Int); omega⟩, fun x h2 => ?_⟩
  obtain ⟨n, rfl⟩ := Int.eq_ofNat_of_zero_le hr.1
  rw [zor_nat (by omega) (by omega), bit_tb, Nat.testBit_or, Nat.testBit_two_pow]
  have h3 := hx x h2
  rw [bit_tb] at h3
  rw [Bool.or_eq_true, h3, decide_eq_true_eq]
  constructor
  · rintro (⟨k, hk, e⟩ | e)
    · exact ⟨k, by omega, by rw [← hR k hk]; exact e⟩
    · exact ⟨d, by omega, by rw [hRb]; omega⟩
  · rintro ⟨k, hk, e⟩
    rcases Int.lt_or_le k d with q | q
    · exact Or.inl ⟨k, by omega, by rw [hR k (by omega)]; exact e⟩
    · rw [show k = d by omega, hRb] at e
      exact Or.inr (by omega)
theorem mx3 (a b c : Int) : (if (if a < b then b else a) < c then c else if a < b then b else a) = if a < (if b < c then c else b) then (if b < c then c else b) else a := by
  by_cases h1 : a < b
  · rw [if_pos h1]
    by_cases h2 : b < c
    · rw [if_pos h2, if_pos (by omega)]
    · rw [if_neg h2, if_pos h1]
  · rw [if_neg h1]
    by_cases h2 : b < c
    · rw [if_pos h2]
    · rw [if_neg h2, if_neg (by omega), if_neg h1]
/-- what a walk from a block on leaves: looks, the longest row, the files -/
def walkQ (gq : (Int → Int) → Int → Int) (rc nb mn kp : Int) (f : Nat) (R : Int → Int) (d b lk lg : Int) (S : List Int) (K : Int → Int) (nf tm lk' lg' : Int) (K' : Int → Int) (nf' tm' : Int) : Prop :=
  (0 ≤ lk' ∧ lk' ≤ 20001) ∧ (0 ≤ lg' ∧ lg' ≤ 5) ∧ wfC K' nf' tm' ∧ (kp = 0 → K' = K ∧ nf' = nf ∧ tm' = tm) ∧
  (lk + lkT gq rc nb f R d b ≤ 20000 → lk' = lk + lkT gq rc nb f R d b ∧ lg' = (if lg < lgT gq rc nb f R d b then lgT gq rc nb f R d b else lg) ∧ (kp = 1 → rpC K' nf' tm' (insA (fdT gq rc nb mn f R d b) S))) ∧ (20000 < lk + lkT gq rc nb f R d b → lk' = 20001)
noncomputable def chL (gq : (Int → Int) → Int → Int) (rc nb : Int) (f : Nat) (R : Int → Int) (d : Int) : Int → Int := fun x => cIf (may rc R d x) (lkT gq rc nb f R d x) 0
noncomputable def chF (gq : (Int → Int) → Int → Int) (rc nb mn : Int) (f : Nat) (R : Int → Int) (d : Int) : Int → List Int := fun x => cIf (may rc R d x) (fdT gq rc nb mn f R d x) []
noncomputable def chG (gq : (Int → Int) → Int → Int) (rc nb : Int) (f : Nat) (R : Int → Int) (d : Int) : Int → Int := fun x => cIf (may rc R d x) (lgT gq rc nb f R d x) 0
def loopQ (gq : (Int → Int) → Int → Int) (rc nb mn kp : Int) (f : Nat) (R : Int → Int) (d x lk1 lg1 : Int) (S : List Int) (K0 : Int → Int) (nf0 tm0 lk lg : Int) (K : Int → Int) (nf tm : Int) : Prop :=
  (0 ≤ lk ∧ lk ≤ 20001) ∧ (0 ≤ lg ∧ lg ≤ 5) ∧ wfC K nf tm ∧ (kp = 0 → K = K0 ∧ nf = nf0 ∧ tm = tm0) ∧
  (lk1 + sumZ (chL gq rc nb f R d) x.toNat ≤ 20000 → lk = lk1 + sumZ (chL gq rc nb f R d) x.toNat ∧ lg = (if lg1 < mxZ (chG gq rc nb f R d) x.toNat then mxZ (chG gq rc nb f R d) x.toNat else lg1) ∧ (kp = 1 → rpC K nf tm (insA (catZ (chF gq rc nb mn f R d) x.toNat) S))) ∧ (20000 < lk1 + sumZ (chL gq rc nb f R d) x.toNat → lk = 20001)
theorem chL_nn (gq : (Int → Int) → Int → Int) (rc nb : Int) (f : Nat) (R : Int → Int) (d j : Int) : 0 ≤ chL gq rc nb f R d j := by
  unfold chL
  by_cases w : may rc R d j
  · rw [cIf_t w]; have := lkT_1 gq rc nb f R d j; omega
  · rw [cIf_f w]; exact Int.le_refl 0
theorem loop_skip {gq : (Int → Int) → Int → Int} {rc nb mn kp : Int} {f : Nat} {R : Int → Int} {d x lk1 lg1 : Int} {S : List Int} {K0 : Int → Int} {nf0 tm0 lk lg : Int} {K : Int → Int} {nf tm : Int} (hx : 0 ≤ x) (hm : ¬ may rc R d x) (h : loopQ gq rc nb mn kp f R d x lk1 lg1 S K0 nf0 tm0 lk lg K nf tm) : loopQ gq rc nb mn kp f R d (x + 1) lk1 lg1 S K0 nf0 tm0 lk lg K nf tm := by
  have e1 : sumZ (chL gq rc nb f R d) (x + 1).toNat = sumZ (chL gq rc nb f R d) x.toNat := by rw [sumZ_1 _ hx, show chL gq rc nb f R d x = 0 from cIf_f hm]; omega
  have e2 : mxZ (chG gq rc nb f R d) (x + 1).toNat = mxZ (chG gq rc nb f R d) x.toNat := by rw [mxZ_1 _ hx, show chG gq rc nb f R d x = 0 from cIf_f hm, if_neg (by have := mxZ_nn (f := chG gq rc nb f R d) x.toNat; omega)]
  have e3 : catZ (chF gq rc nb mn f R d) (x + 1).toNat = catZ (chF gq rc nb mn f R d) x.toNat := by rw [catZ_1 _ hx, show chF gq rc nb mn f R d x = [] from cIf_f hm, List.append_nil]
  unfold loopQ
  rw [e1, e2, e3]
  exact h
theorem loop_call {gq : (Int → Int) → Int → Int} (hg : gqC gq) {rc nb mn kp : Int} {f : Nat} {R R' : Int → Int} {d x lk1 lg1 : Int} {S S' : List Int} {K0 : Int → Int} {nf0 tm0 lk lg : Int} {K : Int → Int} {nf tm lk' lg' : Int} {K' : Int → Int} {nf' tm' : Int} (hd : 0 ≤ d) (hx : 0 ≤ x) (hm : may rc R d x) (hR : ∀ k : Int, 0 ≤ k ∧ k < d → R' k = R k) (hS : lk ≤ 20000 → S' = insA (catZ (chF gq rc nb mn f R d) x.toNat) S) (h : loopQ gq rc nb mn kp f R d x lk1 lg1 S K0 nf0 tm0 lk lg K nf tm) (hw : walkQ gq rc nb mn kp f R' d x lk lg S' K nf tm lk' lg' K' nf' tm') : loopQ gq rc nb mn kp f R d (x + 1) lk1 lg1 S K0 nf0 tm0 lk' lg' K' nf' tm' := by
  have e1 : sumZ (chL gq rc nb f R d) (x + 1).toNat = sumZ (chL gq rc nb f R d) x.toNat + lkT gq rc nb f R d x := by rw [sumZ_1 _ hx, show chL gq rc nb f R d x = _ from cIf_t hm]
  have e2 : mxZ (chG gq rc nb f R d) (x + 1).toNat = if mxZ (chG gq rc nb f R d) x.toNat < lgT gq rc nb f R d x then lgT gq rc nb f R d x else mxZ (chG gq rc nb f R d) x.toNat := by rw [mxZ_1 _ hx, show chG gq rc nb f R d x = _ from cIf_t hm]
  have e3 : catZ (chF gq rc nb mn f R d) (x + 1).toNat = catZ (chF gq rc nb mn f R d) x.toNat ++ fdT gq rc nb mn f R d x := by rw [catZ_1 _ hx, show chF gq rc nb mn f R d x = _ from cIf_t hm]
  have g1 := lkT_cg hg rc nb f R' R d x hd hR
  have g2 := fdT_cg hg rc nb mn f R' R d x hd hR
  have g3 := lgT_cg hg rc nb f R' R d x hd hR
  have hN := lkT_1 gq rc nb f R d x
  unfold loopQ
  unfold walkQ at hw
  rw [g1, g2, g3] at hw
  rw [e1, e2, e3]
  obtain ⟨-, -, -, l4, l5, l6⟩ := h
  obtain ⟨w1, w2, w3, w4, w5, w6⟩ := hw
  refine ⟨w1, w2, w3, fun q => ?_, fun q => ?_, fun q => ?_⟩
  · obtain ⟨a, b, c⟩ := w4 q
    obtain ⟨a', b', c'⟩ := l4 q
    exact ⟨a.trans a', b.trans b', c.trans c'⟩
  · obtain ⟨p1, p2, p3⟩ := l5 (by omega)
    obtain ⟨v1, v2, v3⟩ := w5 (by omega)
    refine ⟨by omega, ?_, fun hk => ?_⟩
    · rw [v2, p2]
      exact mx3 _ _ _
    · rw [insA_app, ← hS (by omega)]; exact v3 hk
  · rcases Int.lt_or_le 20000 (lk1 + sumZ (chL gq rc nb f R d) x.toNat) with z | z
    · exact w6 (by have := l6 z; omega)
    · exact w6 (by have := (l5 z).1; omega)
theorem loop_init {gq : (Int → Int) → Int → Int} {rc nb mn kp : Int} {f : Nat} {R : Int → Int} {d x lk1 lg1 : Int} {S : List Int} {K : Int → Int} {nf tm : Int} (hx : 0 ≤ x) (hm : ∀ j : Int, 0 ≤ j ∧ j < x → ¬ may rc R d j) (h1 : 0 ≤ lk1 ∧ lk1 ≤ 20000) (h2 : 0 ≤ lg1 ∧ lg1 ≤ 5) (h3 : wfC K nf tm) (h4 : kp = 1 → rpC K nf tm S) : loopQ gq rc nb mn kp f R d x lk1 lg1 S K nf tm lk1 lg1 K nf tm := by
  have e1 : sumZ (chL gq rc nb f R d) x.toNat = 0 := by
    have := sumZ_z (f := chL gq rc nb f R d) (i := 0) x.toNat (fun j hj => cIf_f (hm j (by omega)))
    rw [Nat.zero_add] at this
    exact this
  have e2 : mxZ (chG gq rc nb f R d) x.toNat = 0 := by
    have := mxZ_z (f := chG gq rc nb f R d) (i := 0) x.toNat (fun j hj => cIf_f (hm j (by omega)))
    rw [Nat.zero_add] at this
    exact this
  have e3 : catZ (chF gq rc nb mn f R d) x.toNat = [] := by
    have := catZ_z (f := chF gq rc nb mn f R d) (i := 0) x.toNat (fun j hj => cIf_f (hm j (by omega)))
    rw [Nat.zero_add] at this
    exact this
  unfold loopQ
  rw [e1, e2, e3]
  exact ⟨by omega, h2, h3, fun _ => ⟨rfl, rfl, rfl⟩, fun _ => ⟨by omega, by rw [if_neg (by omega)], h4⟩, fun q => by omega⟩
theorem loop_end {gq : (Int → Int) → Int → Int} {rc nb mn kp : Int} {f : Nat} {R : Int → Int} {d b x lk lg : Int} {S : List Int} {K : Int → Int} {nf tm lk' lg' : Int} {K' : Int → Int} {nf' tm' : Int} (hd : 0 ≤ d) (hx : 0 ≤ x ∧ x ≤ nb) (hm : ∀ j : Int, x ≤ j ∧ j < nb → ¬ may rc (zup R d b) (d + 1) j) (hg1 : gq (zup R d b) d = 1)
    (h : loopQ gq rc nb mn kp f (zup R d b) (d + 1) x (lk + 1) (if lg < d + 1 then d + 1 else lg) S K nf tm lk' lg' K' nf' tm') : walkQ gq rc nb mn kp (f + 1) R d b lk lg S K nf tm lk' lg' K' nf' tm' := by
  have e1 : sumZ (chL gq rc nb f (zup R d b) (d + 1)) nb.toNat = sumZ (chL gq rc nb f (zup R d b) (d + 1)) x.toNat := by
    have := sumZ_z (f := chL gq rc nb f (zup R d b) (d + 1)) (i := x.toNat) (nb.toNat - x.toNat) (fun j hj => cIf_f (hm j (by omega)))
    rw [show x.toNat + (nb.toNat - x.toNat) = nb.toNat by omega] at this
    exact this
  have e2 : mxZ (chG gq rc nb f (zup R d b) (d + 1)) nb.toNat = mxZ (chG gq rc nb f (zup R d b) (d + 1)) x.toNat := by
    have := mxZ_z (f := chG gq rc nb f (zup R d b) (d + 1)) (i := x.toNat) (nb.toNat - x.toNat) (fun j hj => cIf_f (hm j (by omega)))
    rw [show x.toNat + (nb.toNat - x.toNat) = nb.toNat by omega] at this
    exact this
  have e3 : catZ (chF gq rc nb mn f (zup R d b) (d + 1)) nb.toNat = catZ (chF gq rc nb mn f (zup R d b) (d + 1)) x.toNat := by
    have := catZ_z (f := chF gq rc nb mn f (zup R d b) (d + 1)) (i := x.toNat) (nb.toNat - x.toNat) (fun j hj => cIf_f (hm j (by omega)))
    rw [show x.toNat + (nb.toNat - x.toNat) = nb.toNat by omega] at this
    exact this
  have t1 : lkT gq rc nb (f + 1) R d b = 1 + sumZ (chL gq rc nb f (zup R d b) (d + 1)) x.toNat := by
    rw [← e1]
    show 1 + cIf _ _ _ = _
    rw [cIf_t hg1]
    rfl
  have t2 : lgT gq rc nb (f + 1) R d b = if d + 1 < mxZ (chG gq rc nb f (zup R d b) (d + 1)) x.toNat then mxZ (chG gq rc nb f (zup R d b) (d + 1)) x.toNat else d + 1 := by
    rw [← e2]
    show cIf _ _ _ = _
    rw [cIf_f (by omega), cIf_t hg1]
    rfl
  have t3 : fdT gq rc nb mn (f + 1) R d b = catZ (chF gq rc nb mn f (zup R d b) (d + 1)) x.toNat := by
    rw [← e3]
    show cIf _ _ _ = _
    rw [cIf_f (by omega), cIf_t hg1]
    rfl
  unfold walkQ
  rw [t1, t2, t3]
  obtain ⟨l1, l2, l3, l4, l5, l6⟩ := h
  refine ⟨l1, l2, l3, l4, fun q => ?_, fun q => l6 (by omega)⟩
  obtain ⟨p1, p2, p3⟩ := l5 (by omega)
  refine ⟨by omega, ?_, p3⟩
  rw [p2]
  exact mx3 _ _ _
theorem walk_no {gq : (Int → Int) → Int → Int} {rc nb mn kp : Int} {f : Nat} {R : Int → Int} {d b lk lg : Int} {S : List Int} {K : Int → Int} {nf tm : Int} (hg : gq (zup R d b) d = 0) (h1 : 0 ≤ lk ∧ lk + 1 ≤ 20000) (h2 : 0 ≤ lg ∧ lg ≤ 5) (h3 : wfC K nf tm) (h4 : kp = 1 → rpC K nf tm S) : walkQ gq rc nb mn kp (f + 1) R d b lk lg S K nf tm (lk + 1) lg K nf tm := by
  have t1 : lkT gq rc nb (f + 1) R d b = 1 := by
    show 1 + cIf _ _ _ = _
    rw [cIf_f (by omega)]
    rfl
  have t2 : lgT gq rc nb (f + 1) R d b = 0 := cIf_t hg
  have t3 : fdT gq rc nb mn (f + 1) R d b = [] := by
    show cIf _ _ _ = _
    rw [cIf_f (by omega), cIf_f (by omega)]
  unfold walkQ
  rw [t1, t2, t3]
  exact ⟨by omega, h2, h3, fun _ => ⟨rfl, rfl, rfl⟩, fun _ => ⟨rfl, by rw [if_neg (by omega)], h4⟩, fun q => by omega⟩
theorem walk_file {gq : (Int → Int) → Int → Int} {rc nb mn kp : Int} {f : Nat} {R : Int → Int} {d b lk lg : Int} {S : List Int} {K : Int → Int} {nf tm : Int} {K' : Int → Int} {nf' tm' : Int} (hg : gq (zup R d b) d = 2) (hd : 0 ≤ d ∧ d < 5) (h1 : 0 ≤ lk ∧ lk + 1 ≤ 20000) (h2 : 0 ≤ lg ∧ lg ≤ 5) (h3 : wfC K' nf' tm') (h0 : kp = 0 → K' = K ∧ nf' = nf ∧ tm' = tm) (h4 : kp = 1 → rpC K' nf' tm' (insS (kyZ (zup R d b) (d + 1) mn) S)) : walkQ gq rc nb mn kp (f + 1) R d b lk lg S K nf tm (lk + 1) (if lg < d + 1 then d + 1 else lg) K' nf' tm' := by
  have t1 : lkT gq rc nb (f + 1) R d b = 1 := by
    show 1 + cIf _ _ _ = _
    rw [cIf_f (by omega)]
    rfl
  have t2 : lgT gq rc nb (f + 1) R d b = d + 1 := by
    show cIf _ _ _ = _
    rw [cIf_f (by omega), cIf_f (by omega)]
  have t3 : fdT gq rc nb mn (f + 1) R d b = [kyZ (zup R d b) (d + 1) mn] := cIf_t hg
  unfold walkQ
  rw [t1, t2, t3]
  exact ⟨by omega, by split <;> omega, h3, h0, fun _ => ⟨rfl, rfl, h4⟩, fun q => by omega⟩
theorem walk_long {gq : (Int → Int) → Int → Int} {rc nb mn kp : Int} {f : Nat} {R : Int → Int} {d b lk lg : Int} {S : List Int} {K : Int → Int} {nf tm : Int} (h1 : 20000 ≤ lk) (h2 : 0 ≤ lg ∧ lg ≤ 5) (h3 : wfC K nf tm) : walkQ gq rc nb mn kp f R d b lk lg S K nf tm 20001 lg K nf tm := by
  have := lkT_1 gq rc nb f R d b
  exact ⟨by omega, h2, h3, fun _ => ⟨rfl, rfl, rfl⟩, fun q => by omega, fun _ => rfl⟩
