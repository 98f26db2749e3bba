theorem cov_tie {S : List Int} {D0 : Int → Int64} {n : Int} {K GA CH BE FN FR : Int → Int} {nf vgr vcn vcg vcb gr eb ec ef iv : Int} (hS : S.length ≤ 40) (hk : ∀ k ∈ S, okK D0 n k ∧ dsK k) (hn : 0 ≤ n ∧ n ≤ 24) (hnf : nf = (S.length : Int)) (hK : ∀ x : Int, 0 ≤ x ∧ x < nf → K x = S.getD x.toNat 0) (hC : cvC K GA nf vgr vcn vcg vcb CH) (hM : cvT (fun j => S.getD j.toNat 0) GA nf gr eb ec ef iv BE)
    (hen : ∀ f : Int, 0 ≤ f ∧ f < nf → FN f = kSz (S.getD f.toNat 0) ∧ ∀ k : Int, 0 ≤ k ∧ k < kSz (S.getD f.toNat 0) → FR (5 * f + k) = kBl (S.getD f.toNat 0) k) : inD K nf n vgr vcn vcb CH iv eb ec BE FN FR := by
  obtain ⟨KK, hKK⟩ : ∃ KK : Int → Int, KK = fun j => S.getD j.toNat 0 := ⟨_, rfl⟩
  rw [← hKK] at hM
  have hKx : ∀ x : Int, S.getD x.toNat 0 = KK x := fun x => by rw [hKK]
  have hK2 : ∀ x : Int, 0 ≤ x ∧ x < nf → K x = KK x := fun x hx => (hK x hx).trans (hKx x)
  have hen2 : ∀ f : Int, 0 ≤ f ∧ f < nf → FN f = kSz (KK f) ∧ ∀ k : Int, 0 ≤ k ∧ k < kSz (KK f) → FR (5 * f + k) = kBl (KK f) k := fun f hf => by rw [← hKx f]; exact hen f hf
  have hkx : ∀ x : Int, 0 ≤ x ∧ x < nf → okK D0 n (KK x) ∧ dsK (KK x) := fun x hx => by rw [← hKx x]; exact hk _ (getD_in (by omega))
  have hnf0 : 0 ≤ nf ∧ nf ≤ 40 := by omega
  clear hKK hKx hK hen hk
  obtain ⟨c1, c2, c3⟩ := hC
  obtain ⟨m1, m2, m3, m4⟩ := hM
  have eg : vgr = gr := by
    rw [c1, m1]
    exact ngF_cg _ (fun j hj => by show kBl (K j) 0 = kBl (KK j) 0; rw [hK2 j (by omega)])
  have hgb := ngF_bd (fun f => kBl (KK f) 0) nf.toNat
  rw [← m1] at hgb
  rcases Int.lt_or_le 6 gr with h6 | h6
  · obtain ⟨q1, q2, q3⟩ := c3 (by omega)
    obtain ⟨p1, p2, p3⟩ := m4 h6
    have p0 : iv = 0 := by rw [m2, if_neg (by omega)]
    refine ⟨⟨by omega, by omega, by omega, fun i hi => by omega, Or.inl p0, fun j hj => by rw [p3 j hj]; decide, fun j hj h => by rw [p3 j hj] at h; omega⟩, ?_, ?_, fun x => ?_, fun x => ?_⟩
    · rw [if_neg (by omega), if_neg (by omega)]
    · rw [if_neg (by omega), if_neg (by omega)]
    · rw [if_neg (by omega), if_neg (by omega)]
    · rw [if_neg (by omega), if_neg (by omega)]
  · obtain ⟨r1, r2⟩ := m3 h6
    have hC2 := c2 (by omega)
    have p1 : iv = 1 := by rw [m2, if_pos h6]
    have eK : gcF (fun j => kBl (K j) 0) (zfl GA nf 7) nf.toNat = gcF (fun f => kBl (KK f) 0) (zfl GA nf 7) nf.toNat := gcF_cg _ (fun j hj => by show kBl (K j) 0 = kBl (KK j) 0; rw [hK2 j (by omega)])
    rw [eK, eg] at hC2
    have hgk := (gc_ok (fun f => kBl (KK f) 0) GA hnf0.1 (by rw [← m1]; exact h6)).1
    rw [← m1] at hgk
    generalize gcF (fun f => kBl (KK f) 0) (zfl GA nf 7) nf.toNat = ga at hC2 r1 hgk
    have hrange : ∀ x : Int, 0 ≤ x ∧ x < 0 + (gr.toNat : Int) → ∀ k : Int, ga x ≤ k ∧ k < ga (x + 1) → 0 ≤ k ∧ k < nf := fun x hx k hk9 => by have := hgk x (by omega); omega
    have e1 : btZ ga (fun k => gnZ (K k)) (fun k => kBits (K k)) gr.toNat 0 [] 0 0 (-1, [], 0) = btZ ga (fun k => gnZ (KK k)) (fun k => kBits (KK k)) gr.toNat 0 [] 0 0 (0, [], 0) := by
      rw [btZ_gn (GN' := fun k => gnZ (KK k)) (BB' := fun k => kBits (KK k)) gr.toNat 0 [] 0 0 (-1, [], 0) (fun x hx k hk9 => by
        have h9 := hrange x hx k hk9
        exact ⟨(by show gnZ (K k) = gnZ (KK k); rw [hK2 k h9]), (by show kBits (K k) = kBits (KK k); rw [hK2 k h9])⟩)]
      exact btZ_start gr.toNat 0 _ _ (fun x hx k hk9 => by
        have h9 := hkx k (hrange x hx k hk9)
        have z1 := h9.1.1.2.1
        have z2 := kCost_bd (KK k)
        show 0 < gnZ (KK k)
        unfold gnZ
        omega) (Or.inr ⟨rfl, rfl⟩)
    rw [e1] at hC2
    have hw := btZ_inv (GA := ga) (GN := fun k => gnZ (KK k)) (BB := fun k => kBits (KK k)) (P := wP KK nf) gr.toNat 0 [] 0 0 (0, [], 0) (fun x hx k hk9 ps bi gn hP hz => wP_s (hrange x hx k hk9) (kB_ok (hkx k (hrange x hx k hk9)).1 (hkx k (hrange x hx k hk9)).2 hn.2) hz hP) (wP_0 _ _) (wP_0 _ _)
    generalize btZ ga (fun k => gnZ (KK k)) (fun k => kBits (KK k)) gr.toNat 0 [] 0 0 (0, [], 0) = cu at hC2 r1 hw
    obtain ⟨v1, v2, v3, v4, v5⟩ := hC2
    obtain ⟨u1, u2, u3, u4⟩ := r1
    obtain ⟨w1, w2, w3, w4, w5⟩ := hw
    have hCH : ∀ i : Int, 0 ≤ i ∧ i < vcn → CH i = cu.2.1.getD i.toNat 0 ∧ (0 ≤ CH i ∧ CH i < nf) := fun i hi => by
      have h9 := v4 i.toNat (by omega)
      rw [Int.toNat_of_nonneg hi.1] at h9
      exact ⟨h9, by rw [h9]; exact w1 _ (getD_in (by omega))⟩
    have hg := lsum_gn KK cu.2.1
    have b1 := lsum_bd (f := fun k => kSz (KK k)) (c := 5) (fun k => kSz_bd _) cu.2.1
    have b2 := lsum_bd (f := fun k => kCost (KK k)) (c := 128) (fun k => kCost_bd _) cu.2.1
    rw [← w2] at hg
    have hcost : sumZ (fun i => kCost (K (CH i))) vcn.toNat = lsum (fun k => kCost (KK k)) cu.2.1 := by
      rw [← lsum_get, show vcn.toNat = cu.2.1.length by omega]
      refine sumZ_cg _ (fun j hj => ?_)
      have h9 := hCH j (by omega)
      show kCost (K (CH j)) = kCost (KK (cu.2.1.getD j.toNat 0))
      rw [hK2 _ h9.2, h9.1]
    have heb : eb = lsum (fun k => kSz (KK k)) cu.2.1 ∧ ec = lsum (fun k => kCost (KK k)) cu.2.1 := by
      generalize lsum (fun k => kSz (KK k)) cu.2.1 = SA at hg b1 ⊢
      generalize lsum (fun k => kCost (KK k)) cu.2.1 = SC at hg b2 ⊢
      omega
    have hpk : pkL BE 6 = cu.2.1 := by
      rw [u3]
      have h9 := pkL_ext (BE := BE) gr.toNat (6 - gr.toNat) (fun j hj => by have := r2 j (by omega); omega)
      rw [show gr.toNat + (6 - gr.toNat) = 6 by omega] at h9
      exact h9
    have hBE : ∀ j : Int, 0 ≤ j ∧ j < 6 → -1 ≤ BE j ∧ BE j < 41 ∧ (0 ≤ BE j → BE j < nf) := fun j hj => by
      have a1 : -1 ≤ BE j := by
        rcases Int.lt_or_le j gr with q | q
        · exact u4 j ⟨hj.1, q⟩
        · rw [r2 j ⟨q, hj.2⟩]; decide
      have a2 : 0 ≤ BE j → BE j < nf := fun h0 => (w1 (BE j) (by rw [← hpk]; exact (mem_pkL 6 _).mpr ⟨h0, j, hj, rfl⟩)).2
      exact ⟨a1, by omega, a2⟩
    refine ⟨⟨by omega, by omega, by rw [v5]; exact w3, fun i hi => (hCH i hi).2, Or.inr p1, fun j hj => ⟨(hBE j hj).1, (hBE j hj).2.1⟩, fun j hj h => ?_⟩, ?_, ?_, fun x => ?_, fun x => ?_⟩
    · have h9 := (hBE j hj).2.2 h
      obtain ⟨f1, f2⟩ := hen2 (BE j) ⟨h, h9⟩
      have z1 := kSz_bd (KK (BE j))
      rw [f1]
      exact ⟨z1, fun k hk9 => by rw [f2 k hk9]; have := kBl_bd (KK (BE j)) k; omega⟩
    · rw [if_pos (by omega), if_pos (Or.inl p1), v5, bc_pc w3, w5]
      exact heb.1.symm
    · rw [if_pos (by omega), if_pos (Or.inl p1), hcost]
      exact heb.2.symm
    · rw [if_pos (by omega), hpk]
      by_cases q : 0 ≤ x
      · rw [if_pos (show iv = 1 ∧ 0 ≤ x from ⟨p1, q⟩)]
        by_cases w : x < vcn
        · rw [if_pos ⟨q, w⟩, (hCH x ⟨q, w⟩).1, List.getD_eq_getElem?_getD, List.getD_eq_getElem?_getD, List.getElem?_eq_getElem (by omega)]
          rfl
        · rw [if_neg (by omega), List.getD_eq_getElem?_getD, List.getElem?_eq_none (by omega)]
          rfl
      · rw [if_neg (by omega), if_neg (by omega)]
    · rw [if_pos (by omega)]
      by_cases q : 0 ≤ x
      · rw [if_pos (show iv = 1 ∧ 0 ≤ x from ⟨p1, q⟩), v5]
        refine fr_eq (fun b hb => ?_) 25 0 x (Int.le_refl 0)
        rw [w4 b (by omega)]
        constructor
        · rintro ⟨k, hk9, i, hi, w⟩
          have h9 := w1 k hk9
          rw [← hpk] at hk9
          obtain ⟨h0, g, hg9, e⟩ := (mem_pkL 6 k).mp hk9
          obtain ⟨f1, f2⟩ := hen2 k h9
          exact ⟨g, hg9, by rw [e]; exact h0, i, by rw [e, f1]; exact hi, by rw [e, f2 i hi]; exact w⟩
        · rintro ⟨g, hg9, h0, i, hi, w⟩
          have h9 := (hBE g hg9).2.2 h0
          obtain ⟨f1, f2⟩ := hen2 (BE g) ⟨h0, h9⟩
          rw [f1] at hi
          rw [f2 i hi] at w
          have hm : BE g ∈ cu.2.1 := by rw [← hpk]; exact (mem_pkL 6 _).mpr ⟨h0, g, hg9, rfl⟩
          exact ⟨BE g, hm, i, hi, w⟩
      · rw [if_neg (by omega)]
        exact fr_neg _ _ _ _ _ (by omega)
