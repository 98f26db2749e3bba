/-! the bench's walks from a block, over all makes -/
noncomputable def gmC (L : List mkT) (dk : Int → Int64) (x : Int) : (Int → Int) → Int → Int := match L[x.toNat]? with
  | some y => gqZ (mF y) (mS y) (mK y) (mG y) (mT y) dk
  | none => fun _ _ => 0
theorem gmC_at {L : List mkT} {x : Int} {y : mkT} (h : L[x.toNat]? = some y) (dk : Int → Int64) : gmC L dk x = gqZ (mF y) (mS y) (mK y) (mG y) (mT y) dk := by
  unfold gmC
  rw [h]
def okM (y : mkT) : Prop := (0 ≤ mK y ∧ mK y < 3) ∧ ((0 ≤ mF y ∧ mF y < 256) ∧ (0 ≤ mS y ∧ mS y < 256)) ∧ (0 ≤ mG y ∧ mG y < 65536) ∧ (0 ≤ mE y ∧ mE y ≤ 40) ∧ ∀ j : Int, 0 ≤ j ∧ j < 4096 → 0 ≤ mT y j ∧ mT y j < 65536
def okL (L : List mkT) : Prop := L.length ≤ 6 ∧ ∀ y ∈ L, okM y
def mkA (L : List mkT) (MK : Int → Option Nat) : Prop := ∀ j : Int, 0 ≤ j ∧ j < 6 → MK j = (L[j.toNat]?).map mO
theorem mk_case {L : List mkT} {MK : Int → Option Nat} (h : mkA L MK) {j : Int} (hj : 0 ≤ j ∧ j < 6) : (MK j = none ∧ (L.length : Int) ≤ j) ∨ ∃ (L1 : List mkT) (y : mkT) (L2 : List mkT), L = L1 ++ y :: L2 ∧ j < (L.length : Int) ∧ MK j = some (mO y) ∧ L[j.toNat]? = some y ∧ y ∈ L := by
  have h1 := h j hj
  cases e : L[j.toNat]? with
  | none =>
    rw [e] at h1
    have := List.getElem?_eq_none_iff.mp e
    exact Or.inl ⟨h1, by omega⟩
  | some y =>
    rw [e] at h1
    obtain ⟨L1, L2, e1, e2⟩ := split_at L j.toNat y e
    have := (List.getElem?_eq_some_iff.mp e).1
    exact Or.inr ⟨L1, y, L2, e1, by omega, h1, rfl, List.mem_of_getElem? e⟩
noncomputable def sG (gm : Int → (Int → Int) → Int → Int) (rc nb x b : Int) : Int := lgT (gm x) rc nb 5 (fun _ => 0) 0 b
def wmQ (gm : Int → (Int → Int) → Int → Int) (rc nb kp b x lk1 lg1 : Int) (S : List Int) (K0 : Int → Int) (nf0 tm0 lk lg : Int) (K : Int → Int) (nf tm : Int) : Prop :=
  (0 ≤ lk ∧ lk ≤ 20001) ∧ (0 ≤ lg ∧ lg ≤ 5) ∧ wfC K nf tm ∧ (kp = 0 → K = K0 ∧ nf = nf0 ∧ tm = tm0) ∧
  (lk1 + sumZ (fun z => sL gm rc nb z b) x.toNat ≤ 20000 → lk = lk1 + sumZ (fun z => sL gm rc nb z b) x.toNat ∧ lg = (if lg1 < mxZ (fun z => sG gm rc nb z b) x.toNat then mxZ (fun z => sG gm rc nb z b) x.toNat else lg1) ∧ (kp = 1 → rpC K nf tm (insA (catZ (fun z => sF gm rc nb z b) x.toNat) S))) ∧ (20000 < lk1 + sumZ (fun z => sL gm rc nb z b) x.toNat → lk = 20001)
theorem wm_0 {gm : Int → (Int → Int) → Int → Int} {rc nb kp b lk lg : Int} {S : List Int} {K : Int → Int} {nf tm : Int} (h1 : 0 ≤ lk ∧ lk ≤ 20001) (h2 : 0 ≤ lg ∧ lg ≤ 5) (h3 : wfC K nf tm) (h4 : kp = 1 → lk ≤ 20000 → rpC K nf tm S) : wmQ gm rc nb kp b 0 lk lg S K nf tm lk lg K nf tm := by
  have e1 : sumZ (fun z => sL gm rc nb z b) (0 : Int).toNat = 0 := rfl
  have e2 : mxZ (fun z => sG gm rc nb z b) (0 : Int).toNat = 0 := rfl
  have e3 : catZ (fun z => sF gm rc nb z b) (0 : Int).toNat = [] := rfl
  refine ⟨h1, h2, h3, fun _ => ⟨rfl, rfl, rfl⟩, fun w => ?_, fun w => ?_⟩
  · rw [e1] at w ⊢
    rw [e2, e3]
    exact ⟨by omega, by rw [if_neg (by omega)], fun k => h4 k (by omega)⟩
  · rw [e1] at w
    omega
theorem wm_rp {gm : Int → (Int → Int) → Int → Int} {rc nb kp b x lk1 lg1 : Int} {S : List Int} {K0 : Int → Int} {nf0 tm0 lk lg : Int} {K : Int → Int} {nf tm : Int} (h : wmQ gm rc nb kp b x lk1 lg1 S K0 nf0 tm0 lk lg K nf tm) : kp = 1 → lk ≤ 20000 → rpC K nf tm (insA (catZ (fun z => sF gm rc nb z b) x.toNat) S) := by
  intro k w
  obtain ⟨-, -, -, -, h5, h6⟩ := h
  rcases Int.lt_or_le 20000 (lk1 + sumZ (fun z => sL gm rc nb z b) x.toNat) with z | z
  · have := h6 z; omega
  · exact (h5 z).2.2 k
theorem mx_3 (a b c : Int) : (if (if a < b then b else a) < c then c else (if a < b then b else a)) = (if a < (if b < c then c else b) then (if b < c then c else b) else a) := by
  by_cases h1 : a < b
  · rw [if_pos h1]
    by_cases h2 : b < c
    · rw [if_pos h2, if_pos (by omega)]
    · rw [if_neg h2, if_pos h1]
  · rw [if_neg h1]
    by_cases h2 : b < c
    · rw [if_pos h2]
    · rw [if_neg h2, if_neg (by omega), if_neg h1]
theorem wm_s {gm : Int → (Int → Int) → Int → Int} {x : Int} (hg : gqC (gm x)) {rc nb kp b lk1 lg1 : Int} {R : Int → Int} {S : List Int} {K0 : Int → Int} {nf0 tm0 lk lg : Int} {K : Int → Int} {nf tm lk2 lg2 : Int} {K2 : Int → Int} {nf2 tm2 : Int} (hx : 0 ≤ x) (h : wmQ gm rc nb kp b x lk1 lg1 S K0 nf0 tm0 lk lg K nf tm)
    (hw : walkQ (gm x) rc nb x kp 5 R 0 b lk lg (insA (catZ (fun z => sF gm rc nb z b) x.toNat) S) K nf tm lk2 lg2 K2 nf2 tm2) : wmQ gm rc nb kp b (x + 1) lk1 lg1 S K0 nf0 tm0 lk2 lg2 K2 nf2 tm2 := by
  have g1 := lkT_cg hg rc nb 5 R (fun _ => 0) 0 b (Int.le_refl 0) (fun k hk => by omega)
  have g2 := fdT_cg hg rc nb x 5 R (fun _ => 0) 0 b (Int.le_refl 0) (fun k hk => by omega)
  have g3 := lgT_cg hg rc nb 5 R (fun _ => 0) 0 b (Int.le_refl 0) (fun k hk => by omega)
  unfold walkQ at hw
  rw [g1, g2, g3] at hw
  obtain ⟨w1, w2, w3, w4, w5, w6⟩ := hw
  obtain ⟨h1, h2, h3, h4, h5, h6⟩ := h
  have e1 : sumZ (fun z => sL gm rc nb z b) (x + 1).toNat = sumZ (fun z => sL gm rc nb z b) x.toNat + lkT (gm x) rc nb 5 (fun _ => 0) 0 b := sumZ_1 _ hx
  have e2 : catZ (fun z => sF gm rc nb z b) (x + 1).toNat = catZ (fun z => sF gm rc nb z b) x.toNat ++ fdT (gm x) rc nb x 5 (fun _ => 0) 0 b := catZ_1 _ hx
  have e3 : mxZ (fun z => sG gm rc nb z b) (x + 1).toNat = if mxZ (fun z => sG gm rc nb z b) x.toNat < lgT (gm x) rc nb 5 (fun _ => 0) 0 b then lgT (gm x) rc nb 5 (fun _ => 0) 0 b else mxZ (fun z => sG gm rc nb z b) x.toNat := mxZ_1 _ hx
  have hnn := lkT_1 (gm x) rc nb 5 (fun _ => 0) 0 b
  refine ⟨w1, w2, w3, fun k => ⟨(w4 k).1.trans (h4 k).1, (w4 k).2.1.trans (h4 k).2.1, (w4 k).2.2.trans (h4 k).2.2⟩, fun hs => ?_, fun hs => ?_⟩
  · rw [e1] at hs ⊢
    obtain ⟨a1, a2, a3⟩ := h5 (by omega)
    obtain ⟨b1, b2, b3⟩ := w5 (by omega)
    refine ⟨by omega, ?_, fun k => ?_⟩
    · rw [b2, a2, e3]
      exact mx_3 _ _ _
    · rw [e2, insA_app]
      exact b3 k
  · rw [e1] at hs
    rcases Int.lt_or_le 20000 (lk1 + sumZ (fun z => sL gm rc nb z b) x.toNat) with z | z
    · have := h6 z
      exact w6 (by omega)
    · have := (h5 z).1
      exact w6 (by omega)
theorem gmC_C (L : List mkT) (dk : Int → Int64) (x : Int) : gqC (gmC L dk x) := by
  unfold gmC
  cases L[x.toNat]? with
  | none => exact fun _ _ _ _ _ => rfl
  | some y => exact gqZ_C _ _ _ _ _ _
/-- block by block -/
def swQ (gm : Int → (Int → Int) → Int → Int) (rc nb mk b lk : Int) (K : Int → Int) (nf tm : Int) : Prop :=
  (0 ≤ lk ∧ lk ≤ 20001) ∧ wfC K nf tm ∧ (sumZ (fun y => sumZ (fun z => sL gm rc nb z y) mk.toNat) b.toNat ≤ 20000 → lk = sumZ (fun y => sumZ (fun z => sL gm rc nb z y) mk.toNat) b.toNat ∧ rpC K nf tm (insA (catZ (fun y => catZ (fun z => sF gm rc nb z y) mk.toNat) b.toNat) [])) ∧ (20000 < sumZ (fun y => sumZ (fun z => sL gm rc nb z y) mk.toNat) b.toNat → lk = 20001)
theorem sw_rp {gm : Int → (Int → Int) → Int → Int} {rc nb mk b lk : Int} {K : Int → Int} {nf tm : Int} (h : swQ gm rc nb mk b lk K nf tm) : lk ≤ 20000 → rpC K nf tm (insA (catZ (fun y => catZ (fun z => sF gm rc nb z y) mk.toNat) b.toNat) []) := by
  intro w
  obtain ⟨-, -, h5, h6⟩ := h
  rcases Int.lt_or_le 20000 (sumZ (fun y => sumZ (fun z => sL gm rc nb z y) mk.toNat) b.toNat) with z | z
  · have := h6 z; omega
  · exact (h5 z).2
theorem sw_s {gm : Int → (Int → Int) → Int → Int} {rc nb mk b lk lg : Int} {K : Int → Int} {nf tm lk2 lg2 : Int} {K2 : Int → Int} {nf2 tm2 : Int} (hb : 0 ≤ b) (h : swQ gm rc nb mk b lk K nf tm) (hw : wmQ gm rc nb 1 b mk lk lg (insA (catZ (fun y => catZ (fun z => sF gm rc nb z y) mk.toNat) b.toNat) []) K nf tm lk2 lg2 K2 nf2 tm2) : swQ gm rc nb mk (b + 1) lk2 K2 nf2 tm2 := by
  have e1 : sumZ (fun y => sumZ (fun z => sL gm rc nb z y) mk.toNat) (b + 1).toNat = sumZ (fun y => sumZ (fun z => sL gm rc nb z y) mk.toNat) b.toNat + sumZ (fun z => sL gm rc nb z b) mk.toNat := sumZ_1 _ hb
  have e2 : catZ (fun y => catZ (fun z => sF gm rc nb z y) mk.toNat) (b + 1).toNat = catZ (fun y => catZ (fun z => sF gm rc nb z y) mk.toNat) b.toNat ++ catZ (fun z => sF gm rc nb z b) mk.toNat := catZ_1 _ hb
  have hnn : 0 ≤ sumZ (fun z => sL gm rc nb z b) mk.toNat := sumZ_nn (fun z => sL_nn gm rc nb z b) _
  obtain ⟨w1, -, w3, -, w5, w6⟩ := hw
  obtain ⟨h1, h2, h5, h6⟩ := h
  refine ⟨w1, w3, fun hs => ?_, fun hs => ?_⟩
  · rw [e1] at hs ⊢
    have a1 := (h5 (by omega)).1
    obtain ⟨b1, -, b3⟩ := w5 (by omega)
    exact ⟨by omega, by rw [e2, insA_app]; exact b3 rfl⟩
  · rw [e1] at hs
    rcases Int.lt_or_le 20000 (sumZ (fun y => sumZ (fun z => sL gm rc nb z y) mk.toNat) b.toNat) with z | z
    · have := h6 z
      exact w6 (by omega)
    · have := (h5 z).1
      exact w6 (by omega)
theorem sw_end {gm : Int → (Int → Int) → Int → Int} {rc nb mk lk : Int} {K : Int → Int} {nf tm : Int} (h : swQ gm rc nb mk nb lk K nf tm) : lk = sO gm rc nb mk ∧ ((lk ≤ 20000 ∧ ST gm rc nb mk ≤ 20000 ∧ rpC K nf tm (SF gm rc nb mk)) ∨ (20000 < lk ∧ 20000 < ST gm rc nb mk)) := by
  obtain ⟨-, -, h5, h6⟩ := h
  have e1 : sumZ (fun y => sumZ (fun z => sL gm rc nb z y) mk.toNat) nb.toNat = ST gm rc nb mk := sumZ_swap (fun y z => sL gm rc nb z y) mk.toNat nb.toNat
  have e2 : insA (catZ (fun y => catZ (fun z => sF gm rc nb z y) mk.toNat) nb.toNat) [] = SF gm rc nb mk := insA_perm (catZ_swap (fun y z => sF gm rc nb z y) mk.toNat nb.toNat) []
  rw [e1] at h5 h6
  rw [e2] at h5
  unfold sO
  rcases Int.lt_or_le 20000 (ST gm rc nb mk) with z | z
  · have := h6 z
    rw [if_pos z]
    exact ⟨this, Or.inr ⟨by omega, z⟩⟩
  · have := h5 z
    rw [if_neg (by omega)]
    exact ⟨this.1, Or.inl ⟨by omega, z, this.2⟩⟩
theorem rpC_0 (K : Int → Int) : rpC K 0 0 [] := ⟨List.Pairwise.nil, fun _ => ⟨rfl, rfl, fun i hi => absurd hi (Nat.not_lt_zero _)⟩, fun h => absurd h (by decide)⟩
theorem sw_tell {gm : Int → (Int → Int) → Int → Int} {rc nb mk lk : Int} {K : Int → Int} {nf tm n2 t2 : Int} (h : (lk ≤ 20000 ∧ ST gm rc nb mk ≤ 20000 ∧ rpC K nf tm (SF gm rc nb mk)) ∨ (20000 < lk ∧ 20000 < ST gm rc nb mk)) (htm : tm = 0 ∨ tm = 1) (hf : ((20000 < lk ∨ tm = 1) ∧ n2 = 0 ∧ t2 = 0) ∨ ((lk ≤ 20000 ∧ tm = 0) ∧ n2 = nf ∧ t2 = tm)) : rpC K n2 t2 (sX gm rc nb mk) ∧ t2 = 0 ∧ (if 20000 < lk then -2 else if tm = 1 then -1 else n2) = sR gm rc nb mk := by
  rcases h with ⟨h1, h2, h3⟩ | ⟨h1, h2⟩
  · obtain ⟨r1, r2, r3⟩ := h3
    rcases Nat.lt_or_ge 40 (SF gm rc nb mk).length with q | q
    · have e1 := (r3 q).2
      have e : n2 = 0 ∧ t2 = 0 := by omega
      rw [e.1, e.2]
      refine ⟨?_, rfl, ?_⟩
      · rw [show sX gm rc nb mk = [] from if_pos (Or.inr q)]
        exact rpC_0 K
      · rw [if_neg (by omega), if_pos e1]
        unfold sR
        rw [if_neg (by omega), if_pos q]
    · have e1 := r2 q
      have e : n2 = nf ∧ t2 = tm := by omega
      rw [e.1, e.2]
      refine ⟨?_, e1.2.1, ?_⟩
      · rw [show sX gm rc nb mk = SF gm rc nb mk from if_neg (by omega)]
        exact ⟨r1, r2, r3⟩
      · rw [if_neg (by omega), if_neg (by omega)]
        unfold sR
        rw [if_neg (by omega), if_neg (by omega)]
        exact e1.1
  · have e : n2 = 0 ∧ t2 = 0 := by omega
    rw [e.1, e.2]
    refine ⟨?_, rfl, ?_⟩
    · rw [show sX gm rc nb mk = [] from if_pos (Or.inl h2)]
      exact rpC_0 K
    · rw [if_pos h1]
      unfold sR
      rw [if_pos h2]
def cvC (K GA0 : Int → Int) (nf gr cn cg cb : Int) (CH : Int → Int) : Prop := gr = ngF (fun j => kBl (K j) 0) nf.toNat ∧ (gr ≤ 6 → rpH (btZ (gcF (fun j => kBl (K j) 0) (zfl GA0 nf 7) nf.toNat) (fun k => gnZ (K k)) (fun k => kBits (K k)) gr.toNat 0 [] 0 0 (-1, [], 0)) CH cn cg cb) ∧ (6 < gr → cn = 0 ∧ cg = -1 ∧ cb = 0)
theorem wt_ok {s9 m9 lk lg : Int} {P : Prop} (h5 : 0 + s9 ≤ 20000 → lk = 0 + s9 ∧ lg = (if 0 < m9 then m9 else 0) ∧ P) (h6 : 20000 < 0 + s9 → lk = 20001) (h : lk ≤ 20000) (hm : 0 ≤ m9) : lg = if s9 ≤ 20000 then m9 else -1 := by
  have h1 : s9 ≤ 20000 := by
    rcases Int.lt_or_le 20000 s9 with z | z
    · have := h6 (by omega); omega
    · exact z
  obtain ⟨-, e, -⟩ := h5 (by omega)
  rw [if_pos h1, e]
  split <;> omega
theorem wt_no {s9 m9 lk lg : Int} {P : Prop} (h5 : 0 + s9 ≤ 20000 → lk = 0 + s9 ∧ lg = (if 0 < m9 then m9 else 0) ∧ P) (h : 20000 < lk) : -1 = if s9 ≤ 20000 then m9 else -1 := by
  rw [if_neg (fun w => by have := (h5 (by omega)).1; omega)]
theorem wm_at0 {gm : Int → (Int → Int) → Int → Int} {rc nb kp b lk1 lg1 : Int} {S : List Int} {K0 : Int → Int} {nf0 tm0 lk lg : Int} {K : Int → Int} {nf tm : Int} {n : Nat} (h : wmQ gm rc nb kp b 0 lk1 lg1 S K0 nf0 tm0 lk lg K nf tm) : wmQ gm rc nb kp b (if (0 : Int) < (n : Int) then 0 else (n : Int)) lk1 lg1 S K0 nf0 tm0 lk lg K nf tm := by
  rw [show (if (0 : Int) < (n : Int) then 0 else (n : Int)) = 0 by split <;> omega]
  exact h
theorem wm_here {gm : Int → (Int → Int) → Int → Int} {rc nb kp b x lk1 lg1 : Int} {S : List Int} {K0 : Int → Int} {nf0 tm0 lk lg : Int} {K : Int → Int} {nf tm : Int} {n : Nat} (hx : x < (n : Int)) (h : wmQ gm rc nb kp b (if x < (n : Int) then x else (n : Int)) lk1 lg1 S K0 nf0 tm0 lk lg K nf tm) : wmQ gm rc nb kp b x lk1 lg1 S K0 nf0 tm0 lk lg K nf tm := by
  rw [if_pos hx] at h
  exact h
theorem wm_next {gm : Int → (Int → Int) → Int → Int} {rc nb kp b x lk1 lg1 : Int} {S : List Int} {K0 : Int → Int} {nf0 tm0 lk lg : Int} {K : Int → Int} {nf tm : Int} {n : Nat} (hx : x < (n : Int)) (h : wmQ gm rc nb kp b (x + 1) lk1 lg1 S K0 nf0 tm0 lk lg K nf tm) : wmQ gm rc nb kp b (if x + 1 < (n : Int) then x + 1 else (n : Int)) lk1 lg1 S K0 nf0 tm0 lk lg K nf tm := by
  rw [show (if x + 1 < (n : Int) then x + 1 else (n : Int)) = x + 1 by split <;> omega]
  exact h
theorem wm_skip {gm : Int → (Int → Int) → Int → Int} {rc nb kp b x lk1 lg1 : Int} {S : List Int} {K0 : Int → Int} {nf0 tm0 lk lg : Int} {K : Int → Int} {nf tm : Int} {n : Nat} (hx : (n : Int) ≤ x) (h : wmQ gm rc nb kp b (if x < (n : Int) then x else (n : Int)) lk1 lg1 S K0 nf0 tm0 lk lg K nf tm) : wmQ gm rc nb kp b (if x + 1 < (n : Int) then x + 1 else (n : Int)) lk1 lg1 S K0 nf0 tm0 lk lg K nf tm := by
  rw [if_neg (by omega)] at h
  rw [if_neg (by omega)]
  exact h
theorem mv_X5_begin : zMV yX5_begin cX5_begin 3 none RX5 2 := ⟨tw_256, tw_254, tw_255, tw_39, by decide +kernel⟩
theorem mv_X5_longest : zMV yX5_longest cX5_longest 1 (some .int) RX5 0 := ⟨tw_777, tw_775, tw_776, tw_39, by decide +kernel⟩
theorem mv_X5_lookFrom : zMV yX5_lookFrom cX5_lookFrom 4 none RX5 3 := ⟨tw_268, tw_266, tw_267, tw_39, by decide +kernel⟩
theorem mv_X6_walkFrom : zMV yX6_walkFrom cX6_walkFrom 4 none RX6 1 := ⟨tw_264, tw_263, tw_0, tw_35, by decide +kernel⟩
set_option maxRecDepth 100000 in
set_option maxHeartbeats 4000000 in
theorem c_X6_walkFrom (l : Launch) (G : zGt) (sz : Nat) (b0 b1 g0 e0 f0 w0 u0 : Nat) (mc rn ll : Int) (w1 w2 w3 : Nat) (rc kp lk lg mn ca st ck : Int) (RW SB CB : Int → Int) (MK : Int → Option Nat) (L : List mkT) (g1 : Nat) (nb : Int) (dk : Int → Int64) (f1 h0 : Nat) (nf tm : Int) (K : Int → Int) (S : List Int) (b : Int) (hnb : 0 ≤ nb ∧ nb ≤ 24) (hb0 : 0 ≤ b ∧ b < nb) (hrc : 1 ≤ rc ∧ rc ≤ 23) (hlk0 : 0 ≤ lk ∧ lk ≤ 20001) (hlg : 0 ≤ lg ∧ lg ≤ 5) (hkp : kp = 0 ∨ kp = 1) (hwf : wfC K nf tm) (hrp : kp = 1 → lk ≤ 20000 → rpC K nf tm S) (hma : mkA L MK) (hol : okL L) : Met l yX6_walkFrom (Cond.code yX6_walkFrom cX6_walkFrom 4 none :: tb) ({ frames := 10, cells := 0, slots := 0, locals := 259 } : Room) (zPw G ([(b0, ob 6 [.ref b1, vI mc, .ref g0, .ref e0, vI rn, .ref f0, .ref w0, .ref u0, vI ll]), (b1, aR G 6 MK), (w0, ob 5 [.ref g0, .ref f0, vI rc, vI kp, vI lk, vI lg, vI mn, .ref w1, .ref w2, .ref w3, vI ca, vI st, vI ck]), (w1, aI G 5 RW), (w2, aI G 5 SB), (w3, aI G 5 CB), (g0, ob 1 [.ref g1, vI nb]), (g1, aJ G 24 dk), (f0, ob 2 [.ref h0, .ref f1, vI nf, vI tm]), (f1, aI G 40 K)] ++ (mkW G L)) sz [.ref b0, vI b]) (va_Qv (fun u : Int × Int × Int × Int × Int × Int × (Int → Int) × (Int → Int) × (Int → Int) × (Int → Int) × Int × Int => wmQ (gmC L dk) rc nb kp b (L.length : Int) lk lg S K nf tm u.2.1 u.2.2.1 u.2.2.2.2.2.2.2.2.2.1 u.2.2.2.2.2.2.2.2.2.2.1 u.2.2.2.2.2.2.2.2.2.2.2) (fun (u : Int × Int × Int × Int × Int × Int × (Int → Int) × (Int → Int) × (Int → Int) × (Int → Int) × Int × Int) t => zB G ([(b0, ob 6 [.ref b1, vI mc, .ref g0, .ref e0, vI rn, .ref f0, .ref w0, .ref u0, vI ll]), (b1, aR G 6 MK), (w0, ob 5 [.ref g0, .ref f0, vI rc, vI kp, vI lk, vI lg, vI mn, .ref w1, .ref w2, .ref w3, vI ca, vI st, vI ck]), (w1, aI G 5 RW), (w2, aI G 5 SB), (w3, aI G 5 CB), (g0, ob 1 [.ref g1, vI nb]), (g1, aJ G 24 dk), (f0, ob 2 [.ref h0, .ref f1, vI nf, vI tm]), (f1, aI G 40 K)] ++ (mkW G L)) sz ([(b0, ob 6 [.ref b1, vI mc, .ref g0, .ref e0, vI rn, .ref f0, .ref w0, .ref u0, vI ll]), (b1, aR G 6 MK), (w0, ob 5 [.ref g0, .ref f0, vI rc, vI kp, vI u.2.1, vI u.2.2.1, vI u.1, .ref w1, .ref w2, .ref w3, vI u.2.2.2.1, vI u.2.2.2.2.1, vI u.2.2.2.2.2.1]), (w1, aI G 5 u.2.2.2.2.2.2.1), (w2, aI G 5 u.2.2.2.2.2.2.2.1), (w3, aI G 5 u.2.2.2.2.2.2.2.2.1), (g0, ob 1 [.ref g1, vI nb]), (g1, aJ G 24 dk), (f0, ob 2 [.ref h0, .ref f1, vI u.2.2.2.2.2.2.2.2.2.2.1, vI u.2.2.2.2.2.2.2.2.2.2.2]), (f1, aI G 40 u.2.2.2.2.2.2.2.2.2.1)] ++ (mkW G L)) t) (va_A ([(b0, ob 6 [.ref b1, vI mc, .ref g0, .ref e0, vI rn, .ref f0, .ref w0, .ref u0, vI ll]), (b1, aR G 6 MK), (w0, ob 5 [.ref g0, .ref f0, vI rc, vI kp, vI lk, vI lg, vI mn, .ref w1, .ref w2, .ref w3, vI ca, vI st, vI ck]), (w1, aI G 5 RW), (w2, aI G 5 SB), (w3, aI G 5 CB), (g0, ob 1 [.ref g1, vI nb]), (g1, aJ G 24 dk), (f0, ob 2 [.ref h0, .ref f1, vI nf, vI tm]), (f1, aI G 40 K)] ++ (mkW G L)) sz)) 0 0 (va_A ([(b0, ob 6 [.ref b1, vI mc, .ref g0, .ref e0, vI rn, .ref f0, .ref w0, .ref u0, vI ll]), (b1, aR G 6 MK), (w0, ob 5 [.ref g0, .ref f0, vI rc, vI kp, vI lk, vI lg, vI mn, .ref w1, .ref w2, .ref w3, vI ca, vI st, vI ck]), (w1, aI G 5 RW), (w2, aI G 5 SB), (w3, aI G 5 CB), (g0, ob 1 [.ref g1, vI nb]), (g1, aJ G 24 dk), (f0, ob 2 [.ref h0, .ref f1, vI nf, vI tm]), (f1, aI G 40 K)] ++ (mkW G L)) sz) := by
  refine Met.ofW (cc := cX6_walkFrom) (maxL := 4) (ret := none) (by decide) rfl ?_
  intro p e s m args below meth c s₁ B hml hv
  obtain ⟨rfl, hsz, hP, hK, hD0⟩ := hv
  subst hsz
  have hD := hD0.self (sz := s.heap.size)
  obtain ⟨A, hAe⟩ : ∃ A : Nat → Prop, A = va_A ([(b0, ob 6 [.ref b1, vI mc, .ref g0, .ref e0, vI rn, .ref f0, .ref w0, .ref u0, vI ll]), (b1, aR G 6 MK), (w0, ob 5 [.ref g0, .ref f0, vI rc, vI kp, vI lk, vI lg, vI mn, .ref w1, .ref w2, .ref w3, vI ca, vI st, vI ck]), (w1, aI G 5 RW), (w2, aI G 5 SB), (w3, aI G 5 CB), (g0, ob 1 [.ref g1, vI nb]), (g1, aJ G 24 dk), (f0, ob 2 [.ref h0, .ref f1, vI nf, vI tm]), (f1, aI G 40 K)] ++ (mkW G L)) s.heap.size := ⟨_, rfl⟩
  rw [← hAe] at hD
  have hA : ∀ q : Nat, s.heap.size ≤ q → A q := fun q h => by rw [hAe]; exact Or.inr h
  have hS : va_S A s.heap s.heap [] := va_S.rf
  obtain ⟨hC, hr, hlk⟩ := z_begin B hml
  have hC : CallFix p m c cX6_walkFrom 4 s _ tb RX6 := hC
  have hx := hC.1
  have hb := hC.2.1
  have hl := lv_entry ([.ref b0, vI b]) (n := 4) (Nat.le_of_ble_eq_true rfl)
  rw [lg_entry_eq]
  generalize (lg_sl ([.ref b0, vI b]) ++ List.replicate (4 - (lg_sl ([.ref b0, vI b])).length) Slot.unset).toArray = ls at hl ⊢
  have hl : lv_has ls 4 [(0, .ref b0), (1, vI b)] := hl
  obtain ⟨H, hHe⟩ : ∃ H : Heap, H = s.heap := ⟨_, rfl⟩
  obtain ⟨locs, hLe⟩ : ∃ L : List Loc, L = [] := ⟨_, rfl⟩
  suffices hgo : W p l e (headSpec (Cond.code yX6_walkFrom cX6_walkFrom 4 none :: tb) ({ frames := 10, cells := 0, slots := 0, locals := 259 } : Room)).room s m ([.ref b0, vI b] : List Value).toArray below meth c H locs 0 0 (MQ below (va_Qv (fun u : Int × Int × Int × Int × Int × Int × (Int → Int) × (Int → Int) × (Int → Int) × (Int → Int) × Int × Int => wmQ (gmC L dk) rc nb kp b (L.length : Int) lk lg S K nf tm u.2.1 u.2.2.1 u.2.2.2.2.2.2.2.2.2.1 u.2.2.2.2.2.2.2.2.2.2.1 u.2.2.2.2.2.2.2.2.2.2.2) (fun (u : Int × Int × Int × Int × Int × Int × (Int → Int) × (Int → Int) × (Int → Int) × (Int → Int) × Int × Int) t => zB G ([(b0, ob 6 [.ref b1, vI mc, .ref g0, .ref e0, vI rn, .ref f0, .ref w0, .ref u0, vI ll]), (b1, aR G 6 MK), (w0, ob 5 [.ref g0, .ref f0, vI rc, vI kp, vI lk, vI lg, vI mn, .ref w1, .ref w2, .ref w3, vI ca, vI st, vI ck]), (w1, aI G 5 RW), (w2, aI G 5 SB), (w3, aI G 5 CB), (g0, ob 1 [.ref g1, vI nb]), (g1, aJ G 24 dk), (f0, ob 2 [.ref h0, .ref f1, vI nf, vI tm]), (f1, aI G 40 K)] ++ (mkW G L)) s.heap.size ([(b0, ob 6 [.ref b1, vI mc, .ref g0, .ref e0, vI rn, .ref f0, .ref w0, .ref u0, vI ll]), (b1, aR G 6 MK), (w0, ob 5 [.ref g0, .ref f0, vI rc, vI kp, vI u.2.1, vI u.2.2.1, vI u.1, .ref w1, .ref w2, .ref w3, vI u.2.2.2.1, vI u.2.2.2.2.1, vI u.2.2.2.2.2.1]), (w1, aI G 5 u.2.2.2.2.2.2.1), (w2, aI G 5 u.2.2.2.2.2.2.2.1), (w3, aI G 5 u.2.2.2.2.2.2.2.2.1), (g0, ob 1 [.ref g1, vI nb]), (g1, aJ G 24 dk), (f0, ob 2 [.ref h0, .ref f1, vI u.2.2.2.2.2.2.2.2.2.2.1, vI u.2.2.2.2.2.2.2.2.2.2.2]), (f1, aI G 40 u.2.2.2.2.2.2.2.2.2.1)] ++ (mkW G L)) t) (va_A ([(b0, ob 6 [.ref b1, vI mc, .ref g0, .ref e0, vI rn, .ref f0, .ref w0, .ref u0, vI ll]), (b1, aR G 6 MK), (w0, ob 5 [.ref g0, .ref f0, vI rc, vI kp, vI lk, vI lg, vI mn, .ref w1, .ref w2, .ref w3, vI ca, vI st, vI ck]), (w1, aI G 5 RW), (w2, aI G 5 SB), (w3, aI G 5 CB), (g0, ob 1 [.ref g1, vI nb]), (g1, aJ G 24 dk), (f0, ob 2 [.ref h0, .ref f1, vI nf, vI tm]), (f1, aI G 40 K)] ++ (mkW G L)) s.heap.size)) ([.ref b0, vI b] : List Value).toArray s 0 0 (va_A ([(b0, ob 6 [.ref b1, vI mc, .ref g0, .ref e0, vI rn, .ref f0, .ref w0, .ref u0, vI ll]), (b1, aR G 6 MK), (w0, ob 5 [.ref g0, .ref f0, vI rc, vI kp, vI lk, vI lg, vI mn, .ref w1, .ref w2, .ref w3, vI ca, vI st, vI ck]), (w1, aI G 5 RW), (w2, aI G 5 SB), (w3, aI G 5 CB), (g0, ob 1 [.ref g1, vI nb]), (g1, aJ G 24 dk), (f0, ob 2 [.ref h0, .ref f1, vI nf, vI tm]), (f1, aI G 40 K)] ++ (mkW G L)) s.heap.size)) (F0 m 0 ls []) by rw [hHe, hLe] at hgo; exact hgo
  rw [← hHe] at hP
  have hS : va_S A s.heap H locs := by rw [hHe, hLe]; exact hS
  clear hHe hLe
  refine lv_iconst (v := iI 0) hx hb dX6_walkFrom_0 rfl ?_
  refine lv_istore_n (lv' := [(2, vI 0), (0, .ref b0), (1, vI b)]) hx hb dX6_walkFrom_1 rfl hl (by decide) rfl (fun ls hl => ?_)
  have cut_2 : ∀ (n_ : Nat) (qx : Int) (qmn : Int) (qlk : Int) (qlg : Int) (qca : Int) (qst : Int) (qck : Int) (qR : Int → Int) (qS : Int → Int) (qC : Int → Int) (qK : Int → Int) (qnf : Int) (qtm : Int) (H : Heap) (locs : List Loc) (ls : Array Slot), va_P G.1 vwCl ([(b0, ob 6 [.ref b1, vI mc, .ref g0, .ref e0, vI rn, .ref f0, .ref w0, .ref u0, vI ll]), (b1, aR G 6 MK), (w0, ob 5 [.ref g0, .ref f0, vI rc, vI kp, vI qlk, vI qlg, vI qmn, .ref w1, .ref w2, .ref w3, vI qca, vI qst, vI qck]), (w1, aI G 5 qR), (w2, aI G 5 qS), (w3, aI G 5 qC), (g0, ob 1 [.ref g1, vI nb]), (g1, aJ G 24 dk), (f0, ob 2 [.ref h0, .ref f1, vI qnf, vI qtm]), (f1, aI G 40 qK)] ++ (mkW G L)) H → va_D A ([(b0, ob 6 [.ref b1, vI mc, .ref g0, .ref e0, vI rn, .ref f0, .ref w0, .ref u0, vI ll]), (b1, aR G 6 MK), (w0, ob 5 [.ref g0, .ref f0, vI rc, vI kp, vI qlk, vI qlg, vI qmn, .ref w1, .ref w2, .ref w3, vI qca, vI qst, vI qck]), (w1, aI G 5 qR), (w2, aI G 5 qS), (w3, aI G 5 qC), (g0, ob 1 [.ref g1, vI nb]), (g1, aJ G 24 dk), (f0, ob 2 [.ref h0, .ref f1, vI qnf, vI qtm]), (f1, aI G 40 qK)] ++ (mkW G L)) → va_S A s.heap H locs → lv_has ls 4 [(0, .ref b0), (1, vI b), (2, vI qx)] → (0 ≤ qx ∧ qx ≤ 6) → (wmQ (gmC L dk) rc nb kp b (if qx < (L.length : Int) then qx else (L.length : Int)) lk lg S K nf tm qlk qlg qK qnf qtm) → (6 - qx).toNat < n_ → W p l e (headSpec (Cond.code yX6_walkFrom cX6_walkFrom 4 none :: tb) ({ frames := 10, cells := 0, slots := 0, locals := 259 } : Room)).room s m ([.ref b0, vI b] : List Value).toArray below meth c H locs 0 0 (MQ below (va_Qv (fun u : Int × Int × Int × Int × Int × Int × (Int → Int) × (Int → Int) × (Int → Int) × (Int → Int) × Int × Int => wmQ (gmC L dk) rc nb kp b (L.length : Int) lk lg S K nf tm u.2.1 u.2.2.1 u.2.2.2.2.2.2.2.2.2.1 u.2.2.2.2.2.2.2.2.2.2.1 u.2.2.2.2.2.2.2.2.2.2.2) (fun (u : Int × Int × Int × Int × Int × Int × (Int → Int) × (Int → Int) × (Int → Int) × (Int → Int) × Int × Int) t => zB G ([(b0, ob 6 [.ref b1, vI mc, .ref g0, .ref e0, vI rn, .ref f0, .ref w0, .ref u0, vI ll]), (b1, aR G 6 MK), (w0, ob 5 [.ref g0, .ref f0, vI rc, vI kp, vI lk, vI lg, vI mn, .ref w1, .ref w2, .ref w3, vI ca, vI st, vI ck]), (w1, aI G 5 RW), (w2, aI G 5 SB), (w3, aI G 5 CB), (g0, ob 1 [.ref g1, vI nb]), (g1, aJ G 24 dk), (f0, ob 2 [.ref h0, .ref f1, vI nf, vI tm]), (f1, aI G 40 K)] ++ (mkW G L)) s.heap.size ([(b0, ob 6 [.ref b1, vI mc, .ref g0, .ref e0, vI rn, .ref f0, .ref w0, .ref u0, vI ll]), (b1, aR G 6 MK), (w0, ob 5 [.ref g0, .ref f0, vI rc, vI kp, vI u.2.1, vI u.2.2.1, vI u.1, .ref w1, .ref w2, .ref w3, vI u.2.2.2.1, vI u.2.2.2.2.1, vI u.2.2.2.2.2.1]), (w1, aI G 5 u.2.2.2.2.2.2.1), (w2, aI G 5 u.2.2.2.2.2.2.2.1), (w3, aI G 5 u.2.2.2.2.2.2.2.2.1), (g0, ob 1 [.ref g1, vI nb]), (g1, aJ G 24 dk), (f0, ob 2 [.ref h0, .ref f1, vI u.2.2.2.2.2.2.2.2.2.2.1, vI u.2.2.2.2.2.2.2.2.2.2.2]), (f1, aI G 40 u.2.2.2.2.2.2.2.2.2.1)] ++ (mkW G L)) t) (va_A ([(b0, ob 6 [.ref b1, vI mc, .ref g0, .ref e0, vI rn, .ref f0, .ref w0, .ref u0, vI ll]), (b1, aR G 6 MK), (w0, ob 5 [.ref g0, .ref f0, vI rc, vI kp, vI lk, vI lg, vI mn, .ref w1, .ref w2, .ref w3, vI ca, vI st, vI ck]), (w1, aI G 5 RW), (w2, aI G 5 SB), (w3, aI G 5 CB), (g0, ob 1 [.ref g1, vI nb]), (g1, aJ G 24 dk), (f0, ob 2 [.ref h0, .ref f1, vI nf, vI tm]), (f1, aI G 40 K)] ++ (mkW G L)) s.heap.size)) ([.ref b0, vI b] : List Value).toArray s 0 0 (va_A ([(b0, ob 6 [.ref b1, vI mc, .ref g0, .ref e0, vI rn, .ref f0, .ref w0, .ref u0, vI ll]), (b1, aR G 6 MK), (w0, ob 5 [.ref g0, .ref f0, vI rc, vI kp, vI lk, vI lg, vI mn, .ref w1, .ref w2, .ref w3, vI ca, vI st, vI ck]), (w1, aI G 5 RW), (w2, aI G 5 SB), (w3, aI G 5 CB), (g0, ob 1 [.ref g1, vI nb]), (g1, aJ G 24 dk), (f0, ob 2 [.ref h0, .ref f1, vI nf, vI tm]), (f1, aI G 40 K)] ++ (mkW G L)) s.heap.size)) (F0 m 2 ls []) := by
    intro n_
    induction n_ with
    | zero => exact fun qx qmn qlk qlg qca qst qck qR qS qC qK qnf qtm H locs ls hP hD hS hl hqx hqw hm_ => absurd hm_ (Nat.not_lt_zero _)
    | succ n_ ih_2 =>
      intro qx qmn qlk qlg qca qst qck qR qS qC qK qnf qtm H locs ls hP hD hS hl hqx hqw hm_
      have hwk := hqw.1
      have hwg := hqw.2.1
      have hwf2 := hqw.2.2.1
      refine lv_iload_n hx hb dX6_walkFrom_2 rfl (lv_at hl 2 rfl) ?_
      refine lv_bipush (v := iI 6) hx hb dX6_walkFrom_3 (by decide) ?_
      refine z_icmp_ge (tgt := 35) hx hb dX6_walkFrom_5 (by decide) (by omega) (fun c_5 => ?_) (fun c_5 => ?_)
      · have hP : va_P G.1 vwCl ([(b0, ob 6 [.ref b1, vI mc, .ref g0, .ref e0, vI rn, .ref f0, .ref w0, .ref u0, vI ll]), (b1, aR G 6 MK), (w0, ob 5 [.ref g0, .ref f0, vI rc, vI kp, vI qlk, vI qlg, vI qmn, .ref w1, .ref w2, .ref w3, vI qca, vI qst, vI qck]), (w1, aI G 5 qR), (w2, aI G 5 qS), (w3, aI G 5 qC), (g0, ob 1 [.ref g1, vI nb]), (g1, aJ G 24 dk), (f0, ob 2 [.ref h0, .ref f1, vI qnf, vI qtm]), (f1, aI G 40 qK)] ++ (mkW G L)) H := hP
        have hD : va_D A ([(b0, ob 6 [.ref b1, vI mc, .ref g0, .ref e0, vI rn, .ref f0, .ref w0, .ref u0, vI ll]), (b1, aR G 6 MK), (w0, ob 5 [.ref g0, .ref f0, vI rc, vI kp, vI qlk, vI qlg, vI qmn, .ref w1, .ref w2, .ref w3, vI qca, vI qst, vI qck]), (w1, aI G 5 qR), (w2, aI G 5 qS), (w3, aI G 5 qC), (g0, ob 1 [.ref g1, vI nb]), (g1, aJ G 24 dk), (f0, ob 2 [.ref h0, .ref f1, vI qnf, vI qtm]), (f1, aI G 40 qK)] ++ (mkW G L)) := hD
        exact z_vretT hC hr hlk ⟨qmn, qlk, qlg, qca, qst, qck, qR, qS, qC, qK, qnf, qtm⟩ hAe hP hD hS (by have h9 := hqw; have h8 := hol.1; rw [if_neg (by omega)] at h9; exact h9) dX6_walkFrom_35
      · refine lv_aload_n hx hb dX6_walkFrom_8 rfl (lv_at hl 0 rfl) ?_
        refine z_get (v := .ref b1) hC hK hP inX6 rfl 0 rfl 0 (by decide) tw_198 rfl dX6_walkFrom_9 ?_
        refine lv_iload_n hx hb dX6_walkFrom_12 rfl (lv_at hl 2 rfl) ?_
        refine z_aald hC hK hP 1 rfl (by omega) (by decide) dX6_walkFrom_13 ?_
        rcases mk_case hma (j := qx) (by omega) with ⟨hno_, hle_⟩ | ⟨L1, y9, L2, hL_, hlt_, hso_, hat_, hin_⟩
        · refine z_topn hno_ ?_
          refine lv_astore_nN (lv' := [(3, .null), (0, .ref b0), (1, vI b), (2, vI qx)]) hx hb dX6_walkFrom_14 rfl hl (by decide) rfl (fun ls hl => ?_)
          refine lv_aload_nN hx hb dX6_walkFrom_15 rfl (lv_at hl 0 rfl) ?_
          refine lv_ifnullN (tgt := 29) hx hb dX6_walkFrom_16 (by decide) ?_
          refine z_iinc (k := 3) (lv' := [(2, vI (qx + 1)), (3, .null), (0, .ref b0), (1, vI b)]) hx hb dX6_walkFrom_29 hl rfl (by decide) rfl (fun ls hl => ?_)
          refine lv_goto (tgt := 2) hx hb dX6_walkFrom_32 (by decide) ?_
          exact ih_2 (qx + 1) qmn qlk qlg qca qst qck qR qS qC qK qnf qtm H locs ls hP hD hS (lv_sub hl [2, 3, 0] rfl) (by omega) (by first | exact wm_skip hle_ hqw | exact wm_next hlt_ hws) (by omega)
        · refine z_topr (b := mO y9) hso_ ?_
          have hpm_ : ([(b0, ob 6 [.ref b1, vI mc, .ref g0, .ref e0, vI rn, .ref f0, .ref w0, .ref u0, vI ll]), (b1, aR G 6 MK), (w0, ob 5 [.ref g0, .ref f0, vI rc, vI kp, vI qlk, vI qlg, vI qmn, .ref w1, .ref w2, .ref w3, vI qca, vI qst, vI qck]), (w1, aI G 5 qR), (w2, aI G 5 qS), (w3, aI G 5 qC), (g0, ob 1 [.ref g1, vI nb]), (g1, aJ G 24 dk), (f0, ob 2 [.ref h0, .ref f1, vI qnf, vI qtm]), (f1, aI G 40 qK)] ++ mkW G L).Perm (([(b0, ob 6 [.ref b1, vI mc, .ref g0, .ref e0, vI rn, .ref f0, .ref w0, .ref u0, vI ll]), (b1, aR G 6 MK), (w0, ob 5 [.ref g0, .ref f0, vI rc, vI kp, vI qlk, vI qlg, vI qmn, .ref w1, .ref w2, .ref w3, vI qca, vI qst, vI qck]), (w1, aI G 5 qR), (w2, aI G 5 qS), (w3, aI G 5 qC), (g0, ob 1 [.ref g1, vI nb]), (g1, aJ G 24 dk), (f0, ob 2 [.ref h0, .ref f1, vI qnf, vI qtm]), (f1, aI G 40 qK)] ++ mkC G y9) ++ mkW G (L1 ++ L2)) := by rw [hL_]; exact mkW_to G _ L1 y9 L2
          have hP := va_P_perm hpm_ hP
          have hD := va_D_perm hpm_ hD
          have hP : va_P G.1 vwCl ([(b0, ob 6 [.ref b1, vI mc, .ref g0, .ref e0, vI rn, .ref f0, .ref w0, .ref u0, vI ll]), (b1, aR G 6 MK), (w0, ob 5 [.ref g0, .ref f0, vI rc, vI kp, vI qlk, vI qlg, vI qmn, .ref w1, .ref w2, .ref w3, vI qca, vI qst, vI qck]), (w1, aI G 5 qR), (w2, aI G 5 qS), (w3, aI G 5 qC), (g0, ob 1 [.ref g1, vI nb]), (g1, aJ G 24 dk), (f0, ob 2 [.ref h0, .ref f1, vI qnf, vI qtm]), (f1, aI G 40 qK), ((mO y9), ob 4 [vI (mF y9), vI (mS y9), vI (mK y9), vI (mG y9), vI (mE y9), .ref (mA y9)]), ((mA y9), aI G 4096 (mT y9))] ++ (mkW G (L1 ++ L2))) H := hP
          have hD : va_D A ([(b0, ob 6 [.ref b1, vI mc, .ref g0, .ref e0, vI rn, .ref f0, .ref w0, .ref u0, vI ll]), (b1, aR G 6 MK), (w0, ob 5 [.ref g0, .ref f0, vI rc, vI kp, vI qlk, vI qlg, vI qmn, .ref w1, .ref w2, .ref w3, vI qca, vI qst, vI qck]), (w1, aI G 5 qR), (w2, aI G 5 qS), (w3, aI G 5 qC), (g0, ob 1 [.ref g1, vI nb]), (g1, aJ G 24 dk), (f0, ob 2 [.ref h0, .ref f1, vI qnf, vI qtm]), (f1, aI G 40 qK), ((mO y9), ob 4 [vI (mF y9), vI (mS y9), vI (mK y9), vI (mG y9), vI (mE y9), .ref (mA y9)]), ((mA y9), aI G 4096 (mT y9))] ++ (mkW G (L1 ++ L2))) := hD
          have hoy_ := hol.2 y9 hin_
          have hgm_ := gmC_at hat_ dk
          refine lv_astore_n (lv' := [(3, .ref (mO y9)), (0, .ref b0), (1, vI b), (2, vI qx)]) hx hb dX6_walkFrom_14 rfl hl (by decide) rfl (fun ls hl => ?_)
          refine lv_aload_n hx hb dX6_walkFrom_15 rfl (lv_at hl 0 rfl) ?_
          refine lv_ifnull hx hb dX6_walkFrom_16 ?_
          refine lv_aload_n hx hb dX6_walkFrom_19 rfl (lv_at hl 1 rfl) ?_
          refine z_get (v := .ref w0) hC hK hP inX6 rfl 0 rfl 6 (by decide) tw_204 rfl dX6_walkFrom_20 ?_
          refine lv_aload_n hx hb dX6_walkFrom_23 rfl (lv_at hl 0 rfl) ?_
          refine lv_iload_n hx hb dX6_walkFrom_24 rfl (lv_at hl 3 rfl) ?_
          refine lv_iload_n hx hb dX6_walkFrom_25 rfl (lv_at hl 2 rfl) ?_
          have hqy := wm_here hlt_ hqw
          refine z_wVv_t (q0 := 2) (ci := 5) (b := w0) (rest := []) (wr := [(b0, ob 6 [.ref b1, vI mc, .ref g0, .ref e0, vI rn, .ref f0, .ref w0, .ref u0, vI ll]), (b1, aR G 6 MK)]) hC hK hP hD hS hA (c_X5_lookFrom l G H.size w0 w1 w2 w3 g0 f0 rc kp qlk qlg qmn qca qst qck qR qS qC g1 nb dk (mO y9) (mA y9) (mF y9) (mS y9) (mK y9) (mG y9) (mE y9) (mT y9) f1 h0 qnf qtm qK (insA (catZ (fun z => sF (gmC L dk) rc nb z b) qx.toNat) S) qx b (hoy_.2.2.2.2) (hoy_.1) (by omega) (hoy_.2.1.1) (hoy_.2.1.2) (by omega) (by omega) (by omega) (by omega) (by omega) (hkp) (hwf2) (wm_rp hqy)) mv_X5_lookFrom tw_265 [2, 3, 4, 5, 6, 7, 10, 11, 8, 9] [0, 1] rfl rfl rfl rfl (by decide) rfl rfl rfl rfl hl.1 rfl (Nat.le_of_ble_eq_true rfl) ⟨rfl, rfl, Nat.le_of_ble_eq_true rfl, Nat.le_of_ble_eq_true rfl⟩ ⟨Nat.le_of_ble_eq_true rfl, Nat.le_of_ble_eq_true rfl⟩ dX6_walkFrom_26 (fun u H locs hw hP hD hS => ?_)
          obtain ⟨lk'_1, lg'_1, ca'_1, st'_1, ck'_1, RW'_1, SB'_1, CB'_1, K'_1, nf'_1, tm'_1⟩ := u
          dsimp only at hw hP hD
          have hP : va_P G.1 vwCl ([(b0, ob 6 [.ref b1, vI mc, .ref g0, .ref e0, vI rn, .ref f0, .ref w0, .ref u0, vI ll]), (b1, aR G 6 MK), (w0, ob 5 [.ref g0, .ref f0, vI rc, vI kp, vI lk'_1, vI lg'_1, vI qx, .ref w1, .ref w2, .ref w3, vI ca'_1, vI st'_1, vI ck'_1]), (w1, aI G 5 RW'_1), (w2, aI G 5 SB'_1), (w3, aI G 5 CB'_1), (g0, ob 1 [.ref g1, vI nb]), (g1, aJ G 24 dk), ((mO y9), ob 4 [vI (mF y9), vI (mS y9), vI (mK y9), vI (mG y9), vI (mE y9), .ref (mA y9)]), ((mA y9), aI G 4096 (mT y9)), (f0, ob 2 [.ref h0, .ref f1, vI nf'_1, vI tm'_1]), (f1, aI G 40 K'_1)] ++ (mkW G (L1 ++ L2))) H := hP
          have hD : va_D A ([(b0, ob 6 [.ref b1, vI mc, .ref g0, .ref e0, vI rn, .ref f0, .ref w0, .ref u0, vI ll]), (b1, aR G 6 MK), (w0, ob 5 [.ref g0, .ref f0, vI rc, vI kp, vI lk'_1, vI lg'_1, vI qx, .ref w1, .ref w2, .ref w3, vI ca'_1, vI st'_1, vI ck'_1]), (w1, aI G 5 RW'_1), (w2, aI G 5 SB'_1), (w3, aI G 5 CB'_1), (g0, ob 1 [.ref g1, vI nb]), (g1, aJ G 24 dk), ((mO y9), ob 4 [vI (mF y9), vI (mS y9), vI (mK y9), vI (mG y9), vI (mE y9), .ref (mA y9)]), ((mA y9), aI G 4096 (mT y9)), (f0, ob 2 [.ref h0, .ref f1, vI nf'_1, vI tm'_1]), (f1, aI G 40 K'_1)] ++ (mkW G (L1 ++ L2))) := hD
          have hw_1 := hw
          have hws := wm_s (gm := (gmC L dk)) (gmC_C L dk qx) (by omega) hqy (by rw [hgm_]; exact hw_1)
          have hP := hP.part (cx := [(b0, ob 6 [.ref b1, vI mc, .ref g0, .ref e0, vI rn, .ref f0, .ref w0, .ref u0, vI ll]), (b1, aR G 6 MK), (w0, ob 5 [.ref g0, .ref f0, vI rc, vI kp, vI lk'_1, vI lg'_1, vI qx, .ref w1, .ref w2, .ref w3, vI ca'_1, vI st'_1, vI ck'_1]), (w1, aI G 5 RW'_1), (w2, aI G 5 SB'_1), (w3, aI G 5 CB'_1), (g0, ob 1 [.ref g1, vI nb]), (g1, aJ G 24 dk), (f0, ob 2 [.ref h0, .ref f1, vI nf'_1, vI tm'_1]), (f1, aI G 40 K'_1), ((mO y9), ob 4 [vI (mF y9), vI (mS y9), vI (mK y9), vI (mG y9), vI (mE y9), .ref (mA y9)]), ((mA y9), aI G 4096 (mT y9))]) [0, 1, 2, 3, 4, 5, 6, 7, 10, 11, 8, 9] rfl
          have hD := hD.part (cx := [(b0, ob 6 [.ref b1, vI mc, .ref g0, .ref e0, vI rn, .ref f0, .ref w0, .ref u0, vI ll]), (b1, aR G 6 MK), (w0, ob 5 [.ref g0, .ref f0, vI rc, vI kp, vI lk'_1, vI lg'_1, vI qx, .ref w1, .ref w2, .ref w3, vI ca'_1, vI st'_1, vI ck'_1]), (w1, aI G 5 RW'_1), (w2, aI G 5 SB'_1), (w3, aI G 5 CB'_1), (g0, ob 1 [.ref g1, vI nb]), (g1, aJ G 24 dk), (f0, ob 2 [.ref h0, .ref f1, vI nf'_1, vI tm'_1]), (f1, aI G 40 K'_1), ((mO y9), ob 4 [vI (mF y9), vI (mS y9), vI (mK y9), vI (mG y9), vI (mE y9), .ref (mA y9)]), ((mA y9), aI G 4096 (mT y9))]) [0, 1, 2, 3, 4, 5, 6, 7, 10, 11, 8, 9] (by decide) rfl
          have hpn_ : (([(b0, ob 6 [.ref b1, vI mc, .ref g0, .ref e0, vI rn, .ref f0, .ref w0, .ref u0, vI ll]), (b1, aR G 6 MK), (w0, ob 5 [.ref g0, .ref f0, vI rc, vI kp, vI lk'_1, vI lg'_1, vI qx, .ref w1, .ref w2, .ref w3, vI ca'_1, vI st'_1, vI ck'_1]), (w1, aI G 5 RW'_1), (w2, aI G 5 SB'_1), (w3, aI G 5 CB'_1), (g0, ob 1 [.ref g1, vI nb]), (g1, aJ G 24 dk), (f0, ob 2 [.ref h0, .ref f1, vI nf'_1, vI tm'_1]), (f1, aI G 40 K'_1)] ++ mkC G y9) ++ mkW G (L1 ++ L2)).Perm ([(b0, ob 6 [.ref b1, vI mc, .ref g0, .ref e0, vI rn, .ref f0, .ref w0, .ref u0, vI ll]), (b1, aR G 6 MK), (w0, ob 5 [.ref g0, .ref f0, vI rc, vI kp, vI lk'_1, vI lg'_1, vI qx, .ref w1, .ref w2, .ref w3, vI ca'_1, vI st'_1, vI ck'_1]), (w1, aI G 5 RW'_1), (w2, aI G 5 SB'_1), (w3, aI G 5 CB'_1), (g0, ob 1 [.ref g1, vI nb]), (g1, aJ G 24 dk), (f0, ob 2 [.ref h0, .ref f1, vI nf'_1, vI tm'_1]), (f1, aI G 40 K'_1)] ++ mkW G L) := by rw [hL_]; exact (mkW_to G _ L1 y9 L2).symm
          have hP := va_P_perm hpn_ hP
          have hD := va_D_perm hpn_ hD
          have hP : va_P G.1 vwCl ([(b0, ob 6 [.ref b1, vI mc, .ref g0, .ref e0, vI rn, .ref f0, .ref w0, .ref u0, vI ll]), (b1, aR G 6 MK), (w0, ob 5 [.ref g0, .ref f0, vI rc, vI kp, vI lk'_1, vI lg'_1, vI qx, .ref w1, .ref w2, .ref w3, vI ca'_1, vI st'_1, vI ck'_1]), (w1, aI G 5 RW'_1), (w2, aI G 5 SB'_1), (w3, aI G 5 CB'_1), (g0, ob 1 [.ref g1, vI nb]), (g1, aJ G 24 dk), (f0, ob 2 [.ref h0, .ref f1, vI nf'_1, vI tm'_1]), (f1, aI G 40 K'_1)] ++ (mkW G L)) H := hP
          have hD : va_D A ([(b0, ob 6 [.ref b1, vI mc, .ref g0, .ref e0, vI rn, .ref f0, .ref w0, .ref u0, vI ll]), (b1, aR G 6 MK), (w0, ob 5 [.ref g0, .ref f0, vI rc, vI kp, vI lk'_1, vI lg'_1, vI qx, .ref w1, .ref w2, .ref w3, vI ca'_1, vI st'_1, vI ck'_1]), (w1, aI G 5 RW'_1), (w2, aI G 5 SB'_1), (w3, aI G 5 CB'_1), (g0, ob 1 [.ref g1, vI nb]), (g1, aJ G 24 dk), (f0, ob 2 [.ref h0, .ref f1, vI nf'_1, vI tm'_1]), (f1, aI G 40 K'_1)] ++ (mkW G L)) := hD
          refine z_iinc (k := 3) (lv' := [(2, vI (qx + 1)), (3, .ref (mO y9)), (0, .ref b0), (1, vI b)]) hx hb dX6_walkFrom_29 hl rfl (by decide) rfl (fun ls hl => ?_)
          refine lv_goto (tgt := 2) hx hb dX6_walkFrom_32 (by decide) ?_
          exact ih_2 (qx + 1) qx lk'_1 lg'_1 ca'_1 st'_1 ck'_1 RW'_1 SB'_1 CB'_1 K'_1 nf'_1 tm'_1 H locs ls hP hD hS (lv_sub hl [2, 3, 0] rfl) (by omega) (by first | exact wm_skip hle_ hqw | exact wm_next hlt_ hws) (by omega)
  exact cut_2 ((6 - (0 : Int)).toNat + 1) 0 mn lk lg ca st ck RW SB CB K nf tm H locs ls hP hD hS (lv_sub hl [1, 2, 0] rfl) (by omega) (wm_at0 (wm_0 hlk0 hlg hwf hrp)) (Nat.lt_succ_self _)

set_option maxRecDepth 100000 in
set_option maxHeartbeats 4000000 in
theorem c_X6_torn_0 (l : Launch) (G : zGt) (sz : Nat) (b0 b1 g0 e0 f0 w0 u0 : Nat) (mc rn ll : Int) (w1 w2 w3 : Nat) (rc kp lk lg mn ca st ck : Int) (RW SB CB : Int → Int) (MK : Int → Option Nat) (L : List mkT) (g1 : Nat) (nb : Int) (dk : Int → Int64) (f1 h0 : Nat) (nf tm : Int) (K : Int → Int) (x : Int) (hnb : 0 ≤ nb ∧ nb ≤ 24) (hxb : 0 ≤ x ∧ x < nb) (hrn : 1 ≤ rn ∧ rn ≤ 23) (hwf : wfC K nf tm) (hma : mkA L MK) (hol : okL L) : Met l yX6_torn (Cond.code yX6_torn cX6_torn 3 (some .int) :: tb) ({ frames := 11, cells := 0, slots := 0, locals := 282 } : Room) (zPw G ([(b0, ob 6 [.ref b1, vI mc, .ref g0, .ref e0, vI rn, .ref f0, .ref w0, .ref u0, vI ll]), (b1, aR G 6 MK), (w0, ob 5 [.ref g0, .ref f0, vI rc, vI kp, vI lk, vI lg, vI mn, .ref w1, .ref w2, .ref w3, vI ca, vI st, vI ck]), (w1, aI G 5 RW), (w2, aI G 5 SB), (w3, aI G 5 CB), (g0, ob 1 [.ref g1, vI nb]), (g1, aJ G 24 dk), (f0, ob 2 [.ref h0, .ref f1, vI nf, vI tm]), (f1, aI G 40 K)] ++ (mkW G L)) sz [.ref b0, vI x]) (va_Qi (fun (r : Int32) (u : Int × Int × Int × Int × Int × Int × (Int → Int) × (Int → Int) × (Int → Int)) => r = iI (if sumZ (fun z => sL (gmC L dk) rn nb z x) L.length ≤ 20000 then mxZ (fun z => sG (gmC L dk) rn nb z x) L.length else -1) ∧ (0 ≤ u.2.1 ∧ u.2.1 ≤ 20001) ∧ (0 ≤ u.2.2.1 ∧ u.2.2.1 ≤ 5)) (fun (u : Int × Int × Int × Int × Int × Int × (Int → Int) × (Int → Int) × (Int → Int)) t => zB G ([(b0, ob 6 [.ref b1, vI mc, .ref g0, .ref e0, vI rn, .ref f0, .ref w0, .ref u0, vI ll]), (b1, aR G 6 MK), (w0, ob 5 [.ref g0, .ref f0, vI rc, vI kp, vI lk, vI lg, vI mn, .ref w1, .ref w2, .ref w3, vI ca, vI st, vI ck]), (w1, aI G 5 RW), (w2, aI G 5 SB), (w3, aI G 5 CB), (g0, ob 1 [.ref g1, vI nb]), (g1, aJ G 24 dk), (f0, ob 2 [.ref h0, .ref f1, vI nf, vI tm]), (f1, aI G 40 K)] ++ (mkW G L)) sz ([(b0, ob 6 [.ref b1, vI mc, .ref g0, .ref e0, vI rn, .ref f0, .ref w0, .ref u0, vI ll]), (b1, aR G 6 MK), (w0, ob 5 [.ref g0, .ref f0, vI rn, vI 0, vI u.2.1, vI u.2.2.1, vI u.1, .ref w1, .ref w2, .ref w3, vI u.2.2.2.1, vI u.2.2.2.2.1, vI u.2.2.2.2.2.1]), (w1, aI G 5 u.2.2.2.2.2.2.1), (w2, aI G 5 u.2.2.2.2.2.2.2.1), (w3, aI G 5 u.2.2.2.2.2.2.2.2), (g0, ob 1 [.ref g1, vI nb]), (g1, aJ G 24 dk), (f0, ob 2 [.ref h0, .ref f1, vI nf, vI tm]), (f1, aI G 40 K)] ++ (mkW G L)) t) (va_A ([(b0, ob 6 [.ref b1, vI mc, .ref g0, .ref e0, vI rn, .ref f0, .ref w0, .ref u0, vI ll]), (b1, aR G 6 MK), (w0, ob 5 [.ref g0, .ref f0, vI rc, vI kp, vI lk, vI lg, vI mn, .ref w1, .ref w2, .ref w3, vI ca, vI st, vI ck]), (w1, aI G 5 RW), (w2, aI G 5 SB), (w3, aI G 5 CB), (g0, ob 1 [.ref g1, vI nb]), (g1, aJ G 24 dk), (f0, ob 2 [.ref h0, .ref f1, vI nf, vI tm]), (f1, aI G 40 K)] ++ (mkW G L)) sz)) 0 0 (va_A ([(b0, ob 6 [.ref b1, vI mc, .ref g0, .ref e0, vI rn, .ref f0, .ref w0, .ref u0, vI ll]), (b1, aR G 6 MK), (w0, ob 5 [.ref g0, .ref f0, vI rc, vI kp, vI lk, vI lg, vI mn, .ref w1, .ref w2, .ref w3, vI ca, vI st, vI ck]), (w1, aI G 5 RW), (w2, aI G 5 SB), (w3, aI G 5 CB), (g0, ob 1 [.ref g1, vI nb]), (g1, aJ G 24 dk), (f0, ob 2 [.ref h0, .ref f1, vI nf, vI tm]), (f1, aI G 40 K)] ++ (mkW G L)) sz) := by
  refine Met.ofW (cc := cX6_torn) (maxL := 3) (ret := (some .int)) (by decide) rfl ?_
  intro p e s m args below meth c s₁ B hml hv
  obtain ⟨rfl, hsz, hP, hK, hD0⟩ := hv
  subst hsz
  have hD := hD0.self (sz := s.heap.size)
  obtain ⟨A, hAe⟩ : ∃ A : Nat → Prop, A = va_A ([(b0, ob 6 [.ref b1, vI mc, .ref g0, .ref e0, vI rn, .ref f0, .ref w0, .ref u0, vI ll]), (b1, aR G 6 MK), (w0, ob 5 [.ref g0, .ref f0, vI rc, vI kp, vI lk, vI lg, vI mn, .ref w1, .ref w2, .ref w3, vI ca, vI st, vI ck]), (w1, aI G 5 RW), (w2, aI G 5 SB), (w3, aI G 5 CB), (g0, ob 1 [.ref g1, vI nb]), (g1, aJ G 24 dk), (f0, ob 2 [.ref h0, .ref f1, vI nf, vI tm]), (f1, aI G 40 K)] ++ (mkW G L)) s.heap.size := ⟨_, rfl⟩
  rw [← hAe] at hD
  have hA : ∀ q : Nat, s.heap.size ≤ q → A q := fun q h => by rw [hAe]; exact Or.inr h
  have hS : va_S A s.heap s.heap [] := va_S.rf
  obtain ⟨hC, hr, hlk⟩ := z_begin B hml
  have hC : CallFix p m c cX6_torn 3 s _ tb RX6 := hC
  have hx := hC.1
  have hb := hC.2.1
  have hl := lv_entry ([.ref b0, vI x]) (n := 3) (Nat.le_of_ble_eq_true rfl)
  rw [lg_entry_eq]
  generalize (lg_sl ([.ref b0, vI x]) ++ List.replicate (3 - (lg_sl ([.ref b0, vI x])).length) Slot.unset).toArray = ls at hl ⊢
  have hl : lv_has ls 3 [(0, .ref b0), (1, vI x)] := hl
  obtain ⟨H, hHe⟩ : ∃ H : Heap, H = s.heap := ⟨_, rfl⟩
  obtain ⟨locs, hLe⟩ : ∃ L : List Loc, L = [] := ⟨_, rfl⟩
  suffices hgo : W p l e (headSpec (Cond.code yX6_torn cX6_torn 3 (some .int) :: tb) ({ frames := 11, cells := 0, slots := 0, locals := 282 } : Room)).room s m ([.ref b0, vI x] : List Value).toArray below meth c H locs 0 0 (MQ below (va_Qi (fun (r : Int32) (u : Int × Int × Int × Int × Int × Int × (Int → Int) × (Int → Int) × (Int → Int)) => r = iI (if sumZ (fun z => sL (gmC L dk) rn nb z x) L.length ≤ 20000 then mxZ (fun z => sG (gmC L dk) rn nb z x) L.length else -1) ∧ (0 ≤ u.2.1 ∧ u.2.1 ≤ 20001) ∧ (0 ≤ u.2.2.1 ∧ u.2.2.1 ≤ 5)) (fun (u : Int × Int × Int × Int × Int × Int × (Int → Int) × (Int → Int) × (Int → Int)) t => zB G ([(b0, ob 6 [.ref b1, vI mc, .ref g0, .ref e0, vI rn, .ref f0, .ref w0, .ref u0, vI ll]), (b1, aR G 6 MK), (w0, ob 5 [.ref g0, .ref f0, vI rc, vI kp, vI lk, vI lg, vI mn, .ref w1, .ref w2, .ref w3, vI ca, vI st, vI ck]), (w1, aI G 5 RW), (w2, aI G 5 SB), (w3, aI G 5 CB), (g0, ob 1 [.ref g1, vI nb]), (g1, aJ G 24 dk), (f0, ob 2 [.ref h0, .ref f1, vI nf, vI tm]), (f1, aI G 40 K)] ++ (mkW G L)) s.heap.size ([(b0, ob 6 [.ref b1, vI mc, .ref g0, .ref e0, vI rn, .ref f0, .ref w0, .ref u0, vI ll]), (b1, aR G 6 MK), (w0, ob 5 [.ref g0, .ref f0, vI rn, vI 0, vI u.2.1, vI u.2.2.1, vI u.1, .ref w1, .ref w2, .ref w3, vI u.2.2.2.1, vI u.2.2.2.2.1, vI u.2.2.2.2.2.1]), (w1, aI G 5 u.2.2.2.2.2.2.1), (w2, aI G 5 u.2.2.2.2.2.2.2.1), (w3, aI G 5 u.2.2.2.2.2.2.2.2), (g0, ob 1 [.ref g1, vI nb]), (g1, aJ G 24 dk), (f0, ob 2 [.ref h0, .ref f1, vI nf, vI tm]), (f1, aI G 40 K)] ++ (mkW G L)) t) (va_A ([(b0, ob 6 [.ref b1, vI mc, .ref g0, .ref e0, vI rn, .ref f0, .ref w0, .ref u0, vI ll]), (b1, aR G 6 MK), (w0, ob 5 [.ref g0, .ref f0, vI rc, vI kp, vI lk, vI lg, vI mn, .ref w1, .ref w2, .ref w3, vI ca, vI st, vI ck]), (w1, aI G 5 RW), (w2, aI G 5 SB), (w3, aI G 5 CB), (g0, ob 1 [.ref g1, vI nb]), (g1, aJ G 24 dk), (f0, ob 2 [.ref h0, .ref f1, vI nf, vI tm]), (f1, aI G 40 K)] ++ (mkW G L)) s.heap.size)) ([.ref b0, vI x] : List Value).toArray s 0 0 (va_A ([(b0, ob 6 [.ref b1, vI mc, .ref g0, .ref e0, vI rn, .ref f0, .ref w0, .ref u0, vI ll]), (b1, aR G 6 MK), (w0, ob 5 [.ref g0, .ref f0, vI rc, vI kp, vI lk, vI lg, vI mn, .ref w1, .ref w2, .ref w3, vI ca, vI st, vI ck]), (w1, aI G 5 RW), (w2, aI G 5 SB), (w3, aI G 5 CB), (g0, ob 1 [.ref g1, vI nb]), (g1, aJ G 24 dk), (f0, ob 2 [.ref h0, .ref f1, vI nf, vI tm]), (f1, aI G 40 K)] ++ (mkW G L)) s.heap.size)) (F0 m 0 ls []) by rw [hHe, hLe] at hgo; exact hgo
  rw [← hHe] at hP
  have hS : va_S A s.heap H locs := by rw [hHe, hLe]; exact hS
  clear hHe hLe
  refine lv_aload_n hx hb dX6_torn_0 rfl (lv_at hl 0 rfl) ?_
  refine lv_iload_n hx hb dX6_torn_1 rfl (lv_at hl 1 rfl) ?_
  refine z_rVi (q0 := 0) (ci := 6) (b := b0) (rest := []) hC hK hP (c_X6_neededBlock l G b0 b1 g0 e0 f0 w0 u0 mc rn ll g1 nb dk x (by omega) (by omega)) mv_X6_neededBlock tw_645 [0, 6, 7] rfl rfl rfl rfl hl.1 rfl (Nat.le_of_ble_eq_true rfl) ⟨rfl, rfl, Nat.le_of_ble_eq_true rfl, Nat.le_of_ble_eq_true rfl⟩ ⟨Nat.le_of_ble_eq_true rfl, Nat.le_of_ble_eq_true rfl⟩ dX6_torn_2 ?_
  refine lv_istore_n (lv' := [(2, vI x), (0, .ref b0), (1, vI x)]) hx hb dX6_torn_5 rfl hl (by decide) rfl (fun ls hl => ?_)
  refine lv_aload_n hx hb dX6_torn_6 rfl (lv_at hl 1 rfl) ?_
  refine z_get (v := .ref w0) hC hK hP inX6 rfl 0 rfl 6 (by decide) tw_204 rfl dX6_torn_7 ?_
  refine lv_aload_n hx hb dX6_torn_10 rfl (lv_at hl 1 rfl) ?_
  refine z_get (v := vI rn) hC hK hP inX6 rfl 0 rfl 4 (by decide) tw_202 rfl dX6_torn_11 ?_
  refine lv_iconst (v := iI 0) hx hb dX6_torn_14 rfl ?_
  refine z_wVv_t (q0 := 2) (ci := 5) (b := w0) (rest := []) (wr := [(b0, ob 6 [.ref b1, vI mc, .ref g0, .ref e0, vI rn, .ref f0, .ref w0, .ref u0, vI ll]), (b1, aR G 6 MK), (w1, aI G 5 RW), (w2, aI G 5 SB), (w3, aI G 5 CB), (g0, ob 1 [.ref g1, vI nb]), (g1, aJ G 24 dk), (f0, ob 2 [.ref h0, .ref f1, vI nf, vI tm]), (f1, aI G 40 K)]) hC hK hP hD hS hA (c_X5_begin l G H.size w0 w1 w2 w3 g0 f0 rc kp lk lg mn ca st ck rn 0 (Or.inl rfl)) mv_X5_begin tw_253 [2] [0, 1, 3, 4, 5, 6, 7, 8, 9] rfl rfl rfl rfl (by decide) rfl rfl rfl rfl hl.1 rfl (Nat.le_of_ble_eq_true rfl) ⟨rfl, rfl, Nat.le_of_ble_eq_true rfl, Nat.le_of_ble_eq_true rfl⟩ ⟨Nat.le_of_ble_eq_true rfl, Nat.le_of_ble_eq_true rfl⟩ dX6_torn_15 (fun u H locs hw hP hD hS => ?_)
  have hP : va_P G.1 vwCl ([(b0, ob 6 [.ref b1, vI mc, .ref g0, .ref e0, vI rn, .ref f0, .ref w0, .ref u0, vI ll]), (b1, aR G 6 MK), (w1, aI G 5 RW), (w2, aI G 5 SB), (w3, aI G 5 CB), (g0, ob 1 [.ref g1, vI nb]), (g1, aJ G 24 dk), (f0, ob 2 [.ref h0, .ref f1, vI nf, vI tm]), (f1, aI G 40 K), (w0, ob 5 [.ref g0, .ref f0, vI rn, vI 0, vI 0, vI 0, vI mn, .ref w1, .ref w2, .ref w3, vI ca, vI st, vI ck])] ++ (mkW G L)) H := hP
  have hD : va_D A ([(b0, ob 6 [.ref b1, vI mc, .ref g0, .ref e0, vI rn, .ref f0, .ref w0, .ref u0, vI ll]), (b1, aR G 6 MK), (w1, aI G 5 RW), (w2, aI G 5 SB), (w3, aI G 5 CB), (g0, ob 1 [.ref g1, vI nb]), (g1, aJ G 24 dk), (f0, ob 2 [.ref h0, .ref f1, vI nf, vI tm]), (f1, aI G 40 K), (w0, ob 5 [.ref g0, .ref f0, vI rn, vI 0, vI 0, vI 0, vI mn, .ref w1, .ref w2, .ref w3, vI ca, vI st, vI ck])] ++ (mkW G L)) := hD
  have hw_1 := hw
  clear hw_1
  refine lv_aload_n hx hb dX6_torn_18 rfl (lv_at hl 1 rfl) ?_
  refine lv_iload_n hx hb dX6_torn_19 rfl (lv_at hl 0 rfl) ?_
  refine z_wVv_T (q0 := 0) (ci := 6) (b := b0) (rest := []) (wr := []) hC hK hP hD hS hA (c_X6_walkFrom l G H.size b0 b1 g0 e0 f0 w0 u0 mc rn ll w1 w2 w3 rn 0 0 0 mn ca st ck RW SB CB MK L g1 nb dk f1 h0 nf tm K ([]) x (by omega) (by omega) (by omega) (by omega) (by omega) (Or.inl rfl) (hwf) (fun h => absurd h (by decide)) (hma) (hol)) mv_X6_walkFrom tw_261 [0, 1, 9, 2, 3, 4, 5, 6, 7, 8] [] rfl rfl rfl rfl (by decide) rfl rfl rfl rfl hl.1 rfl (Nat.le_of_ble_eq_true rfl) ⟨rfl, rfl, Nat.le_of_ble_eq_true rfl, Nat.le_of_ble_eq_true rfl⟩ ⟨Nat.le_of_ble_eq_true rfl, Nat.le_of_ble_eq_true rfl⟩ dX6_torn_20 (fun u H locs hw hP hD hS => ?_)
  obtain ⟨mn'_2, lk'_2, lg'_2, ca'_2, st'_2, ck'_2, RW'_2, SB'_2, CB'_2, K'_2, nf'_2, tm'_2⟩ := u
  dsimp only at hw hP hD
  have hP : va_P G.1 vwCl ([(b0, ob 6 [.ref b1, vI mc, .ref g0, .ref e0, vI rn, .ref f0, .ref w0, .ref u0, vI ll]), (b1, aR G 6 MK), (w0, ob 5 [.ref g0, .ref f0, vI rn, vI 0, vI lk'_2, vI lg'_2, vI mn'_2, .ref w1, .ref w2, .ref w3, vI ca'_2, vI st'_2, vI ck'_2]), (w1, aI G 5 RW'_2), (w2, aI G 5 SB'_2), (w3, aI G 5 CB'_2), (g0, ob 1 [.ref g1, vI nb]), (g1, aJ G 24 dk), (f0, ob 2 [.ref h0, .ref f1, vI nf'_2, vI tm'_2]), (f1, aI G 40 K'_2)] ++ (mkW G L)) H := hP
  have hD : va_D A ([(b0, ob 6 [.ref b1, vI mc, .ref g0, .ref e0, vI rn, .ref f0, .ref w0, .ref u0, vI ll]), (b1, aR G 6 MK), (w0, ob 5 [.ref g0, .ref f0, vI rn, vI 0, vI lk'_2, vI lg'_2, vI mn'_2, .ref w1, .ref w2, .ref w3, vI ca'_2, vI st'_2, vI ck'_2]), (w1, aI G 5 RW'_2), (w2, aI G 5 SB'_2), (w3, aI G 5 CB'_2), (g0, ob 1 [.ref g1, vI nb]), (g1, aJ G 24 dk), (f0, ob 2 [.ref h0, .ref f1, vI nf'_2, vI tm'_2]), (f1, aI G 40 K'_2)] ++ (mkW G L)) := hD
  have hw_2 := hw
  obtain ⟨v1, v2, v3, v4, v5, v6⟩ := hw_2
  obtain ⟨y1, y2, y3⟩ := v4 rfl
  refine lv_aload_n hx hb dX6_torn_23 rfl (lv_at hl 1 rfl) ?_
  refine z_get (v := .ref w0) hC hK hP inX6 rfl 0 rfl 6 (by decide) tw_204 rfl dX6_torn_24 ?_
  refine z_rVi (q0 := 2) (ci := 5) (b := w0) (rest := []) hC hK hP (c_X5_isTooLong l G w0 w1 w2 w3 g0 f0 rn 0 lk'_2 lg'_2 mn'_2 ca'_2 st'_2 ck'_2 (v1)) mv_X5_isTooLong tw_348 [2] rfl rfl rfl rfl hl.1 rfl (Nat.le_of_ble_eq_true rfl) ⟨rfl, rfl, Nat.le_of_ble_eq_true rfl, Nat.le_of_ble_eq_true rfl⟩ ⟨Nat.le_of_ble_eq_true rfl, Nat.le_of_ble_eq_true rfl⟩ dX6_torn_27 ?_
  refine z_if_eq (tgt := 37) hx hb dX6_torn_30 (by decide) (by split <;> omega) (fun c_30 => ?_) (fun c_30 => ?_)
  · have hz9 : lk'_2 ≤ 20000 := by split at c_30 <;> omega
    have hz8 := wt_ok v5 v6 hz9 (mxZ_nn _)
    refine lv_aload_n hx hb dX6_torn_37 rfl (lv_at hl 1 rfl) ?_
    refine z_get (v := .ref w0) hC hK hP inX6 rfl 0 rfl 6 (by decide) tw_204 rfl dX6_torn_38 ?_
    refine z_rVi (q0 := 2) (ci := 5) (b := w0) (rest := []) hC hK hP (c_X5_longest l G w0 w1 w2 w3 g0 f0 rn 0 lk'_2 lg'_2 mn'_2 ca'_2 st'_2 ck'_2) mv_X5_longest tw_774 [2] rfl rfl rfl rfl hl.1 rfl (Nat.le_of_ble_eq_true rfl) ⟨rfl, rfl, Nat.le_of_ble_eq_true rfl, Nat.le_of_ble_eq_true rfl⟩ ⟨Nat.le_of_ble_eq_true rfl, Nat.le_of_ble_eq_true rfl⟩ dX6_torn_41 ?_
    have hP : va_P G.1 vwCl ([(b0, ob 6 [.ref b1, vI mc, .ref g0, .ref e0, vI rn, .ref f0, .ref w0, .ref u0, vI ll]), (b1, aR G 6 MK), (w0, ob 5 [.ref g0, .ref f0, vI rn, vI 0, vI lk'_2, vI lg'_2, vI mn'_2, .ref w1, .ref w2, .ref w3, vI ca'_2, vI st'_2, vI ck'_2]), (w1, aI G 5 RW'_2), (w2, aI G 5 SB'_2), (w3, aI G 5 CB'_2), (g0, ob 1 [.ref g1, vI nb]), (g1, aJ G 24 dk), (f0, ob 2 [.ref h0, .ref f1, vI nf, vI tm]), (f1, aI G 40 K)] ++ (mkW G L)) H := by rw [y1, y2, y3] at hP; exact hP
    have hD : va_D A ([(b0, ob 6 [.ref b1, vI mc, .ref g0, .ref e0, vI rn, .ref f0, .ref w0, .ref u0, vI ll]), (b1, aR G 6 MK), (w0, ob 5 [.ref g0, .ref f0, vI rn, vI 0, vI lk'_2, vI lg'_2, vI mn'_2, .ref w1, .ref w2, .ref w3, vI ca'_2, vI st'_2, vI ck'_2]), (w1, aI G 5 RW'_2), (w2, aI G 5 SB'_2), (w3, aI G 5 CB'_2), (g0, ob 1 [.ref g1, vI nb]), (g1, aJ G 24 dk), (f0, ob 2 [.ref h0, .ref f1, vI nf, vI tm]), (f1, aI G 40 K)] ++ (mkW G L)) := by rw [y1, y2, y3] at hD; exact hD
    exact z_iretT hC hr hlk ⟨mn'_2, lk'_2, lg'_2, ca'_2, st'_2, ck'_2, RW'_2, SB'_2, CB'_2⟩ hAe hP hD hS (⟨congrArg iI (by first | exact hz8.symm | exact hz8), ⟨v1, v2⟩⟩) dX6_torn_44
  · have hz9 : 20000 < lk'_2 := by split at c_30 <;> omega
    have hz8 := wt_no v5 hz9
    refine lv_iconst (v := iI (-1)) hx hb dX6_torn_33 rfl ?_
    refine lv_goto (tgt := 44) hx hb dX6_torn_34 (by decide) ?_
    have hP : va_P G.1 vwCl ([(b0, ob 6 [.ref b1, vI mc, .ref g0, .ref e0, vI rn, .ref f0, .ref w0, .ref u0, vI ll]), (b1, aR G 6 MK), (w0, ob 5 [.ref g0, .ref f0, vI rn, vI 0, vI lk'_2, vI lg'_2, vI mn'_2, .ref w1, .ref w2, .ref w3, vI ca'_2, vI st'_2, vI ck'_2]), (w1, aI G 5 RW'_2), (w2, aI G 5 SB'_2), (w3, aI G 5 CB'_2), (g0, ob 1 [.ref g1, vI nb]), (g1, aJ G 24 dk), (f0, ob 2 [.ref h0, .ref f1, vI nf, vI tm]), (f1, aI G 40 K)] ++ (mkW G L)) H := by rw [y1, y2, y3] at hP; exact hP
    have hD : va_D A ([(b0, ob 6 [.ref b1, vI mc, .ref g0, .ref e0, vI rn, .ref f0, .ref w0, .ref u0, vI ll]), (b1, aR G 6 MK), (w0, ob 5 [.ref g0, .ref f0, vI rn, vI 0, vI lk'_2, vI lg'_2, vI mn'_2, .ref w1, .ref w2, .ref w3, vI ca'_2, vI st'_2, vI ck'_2]), (w1, aI G 5 RW'_2), (w2, aI G 5 SB'_2), (w3, aI G 5 CB'_2), (g0, ob 1 [.ref g1, vI nb]), (g1, aJ G 24 dk), (f0, ob 2 [.ref h0, .ref f1, vI nf, vI tm]), (f1, aI G 40 K)] ++ (mkW G L)) := by rw [y1, y2, y3] at hD; exact hD
    exact z_iretT hC hr hlk ⟨mn'_2, lk'_2, lg'_2, ca'_2, st'_2, ck'_2, RW'_2, SB'_2, CB'_2⟩ hAe hP hD hS (⟨congrArg iI (by first | exact hz8.symm | exact hz8), ⟨v1, v2⟩⟩) dX6_torn_44
