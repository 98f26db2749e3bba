theorem gcF_inv (B G0 : Int → Int) : ∀ k : Nat, (∀ j : Int, 0 ≤ j ∧ j < ngF B k ∧ j < 6 → 0 ≤ gcF B G0 k j ∧ gcF B G0 k j < (k : Int)) ∧ (∀ j : Int, 0 ≤ j ∧ j + 1 < ngF B k ∧ j + 1 < 6 → gcF B G0 k j < gcF B G0 k (j + 1)) ∧ (∀ j : Int, ngF B k ≤ j ∨ 6 ≤ j → gcF B G0 k j = G0 j) ∧ (0 < k → 0 < ngF B k ∧ gcF B G0 k 0 = 0) := by
  intro k
  induction k with
  | zero => exact ⟨fun j hj => by have : ngF B 0 = 0 := rfl; omega, fun j hj => by have : ngF B 0 = 0 := rfl; omega, fun j _ => rfl, fun h => absurd h (Nat.lt_irrefl 0)⟩
  | succ k ih =>
    obtain ⟨h1, h2, h3, h4⟩ := ih
    have hb := ngF_bd B k
    by_cases q : nwF B (k : Int)
    · have e1 : ngF B (k + 1) = ngF B k + 1 := by show ngF B k + cIf _ 1 0 = _; rw [cIf_t q]
      by_cases w : ngF B k < 6
      · have e2 : gcF B G0 (k + 1) = zup (gcF B G0 k) (ngF B k) (k : Int) := by show cIf _ (cIf _ _ _) _ = _; rw [cIf_t q, cIf_t w]
        rw [e1, e2]
        refine ⟨fun j hj => ?_, fun j hj => ?_, fun j hj => ?_, fun _ => ⟨by omega, ?_⟩⟩
        · rcases (show j = ngF B k ∨ j < ngF B k by omega) with z | z
          · rw [z, zup_s]; omega
          · rw [zup_n _ _ (by omega)]; have := h1 j (by omega); omega
        · rcases (show j + 1 = ngF B k ∨ j + 1 < ngF B k by omega) with z | z
          · rw [z, zup_s, zup_n _ _ (by omega)]; have := h1 j (by omega); omega
          · rw [zup_n _ _ (by omega), zup_n _ _ (by omega)]; exact h2 j (by omega)
        · rw [zup_n _ _ (by omega)]; exact h3 j (by omega)
        · rcases Nat.eq_zero_or_pos k with z | z
          · have z0 : ngF B k = 0 := by rw [z]; rfl
            rw [z0, zup_s, z]; rfl
          · have := h4 z; rw [zup_n _ _ (by omega)]; exact this.2
      · have e2 : gcF B G0 (k + 1) = gcF B G0 k := by show cIf _ (cIf _ _ _) _ = _; rw [cIf_t q, cIf_f w]
        rw [e1, e2]
        exact ⟨fun j hj => by have := h1 j (by omega); omega, fun j hj => h2 j (by omega), fun j hj => h3 j (by omega), fun _ => ⟨by omega, (h4 (by omega)).2⟩⟩
    · have e1 : ngF B (k + 1) = ngF B k := by show ngF B k + cIf _ 1 0 = _; rw [cIf_f q]; omega
      have e2 : gcF B G0 (k + 1) = gcF B G0 k := by show cIf _ (cIf _ _ _) _ = _; rw [cIf_f q]
      rw [e1, e2]
      have hk : 0 < k := by
        rcases Nat.eq_zero_or_pos k with z | z
        · exact absurd (Or.inl (by rw [z]; rfl)) q
        · exact z
      exact ⟨fun j hj => by have := h1 j hj; omega, h2, h3, fun _ => h4 hk⟩
theorem gc_ok (B GA : Int → Int) {nf : Int} (hn : 0 ≤ nf) (h6 : ngF B nf.toNat ≤ 6) : (∀ g : Int, 0 ≤ g ∧ g < ngF B nf.toNat → 0 ≤ gcF B (zfl GA nf 7) nf.toNat g ∧ gcF B (zfl GA nf 7) nf.toNat g ≤ gcF B (zfl GA nf 7) nf.toNat (g + 1) ∧ gcF B (zfl GA nf 7) nf.toNat (g + 1) ≤ nf) ∧ gcF B (zfl GA nf 7) nf.toNat (ngF B nf.toNat) = nf ∧ (∀ g : Int, 0 ≤ g ∧ g ≤ ngF B nf.toNat → gcF B (zfl GA nf 7) nf.toNat g ≤ gcF B (zfl GA nf 7) nf.toNat (ngF B nf.toNat)) ∧ gcF B (zfl GA nf 7) nf.toNat 0 = 0 := by
  obtain ⟨h1, h2, h3, h4⟩ := gcF_inv B (zfl GA nf 7) nf.toNat
  have hb := ngF_bd B nf.toNat
  have he : gcF B (zfl GA nf 7) nf.toNat (ngF B nf.toNat) = nf := by rw [h3 _ (Or.inl (Int.le_refl _))]; exact if_pos (by omega)
  refine ⟨fun g hg => ?_, he, fun g hg => ?_, ?_⟩
  · have a1 := h1 g (by omega)
    rcases (show g + 1 = ngF B nf.toNat ∨ g + 1 < ngF B nf.toNat by omega) with z | z
    · rw [z, he]; omega
    · have a2 := h2 g (by omega)
      have a3 := h1 (g + 1) (by omega)
      omega
  · rw [he]
    rcases (show g = ngF B nf.toNat ∨ g < ngF B nf.toNat by omega) with z | z
    · rw [z, he]; exact Int.le_refl _
    · have := h1 g (by omega); omega
  · rcases (show nf = 0 ∨ 0 < nf by omega) with z | z
    · have e0 : ngF B nf.toNat = 0 := by rw [z]; rfl
      rw [e0] at he; omega
    · exact (h4 (by omega)).2
theorem rpH_0 (CH : Int → Int) : rpH (-1, [], 0) CH 0 (-1) 0 := ⟨rfl, rfl, Nat.zero_le 6, fun i hi => absurd hi (Nat.not_lt_zero _), rfl⟩
theorem rpT_0 (TR : Int → Int) : rpT [] TR 0 := ⟨rfl, fun i hi => absurd hi (Nat.not_lt_zero _)⟩
/-- the JDK's count of one bits -/
def bc1 (x : Int) : Int := x - zand (zushr x 1) 1431655765
def bc2 (x : Int) : Int := zand x 858993459 + zand (zushr x 2) 858993459
def bc3 (x : Int) : Int := zand (x + zushr x 4) 252645135
def bc4 (x : Int) : Int := x + zushr x 8
def bc5 (x : Int) : Int := x + zushr x 16
def bcZ (x : Int) : Int := zand (bc5 (bc4 (bc3 (bc2 (bc1 x))))) 63
theorem ms_J6_bitCount_0f7a4 : zMS yJ6_bitCount_0f7a4 cJ6_bitCount_0f7a4 1 (some .int) 1 := ⟨tw_421, tw_420, tw_52, by decide +kernel⟩
theorem mv_X0_findGroups : zMV yX0_findGroups cX0_findGroups 2 none RX0 0 := ⟨tw_357, tw_356, tw_6, tw_40, by decide +kernel⟩
theorem mv_X0_isTold : zMV yX0_isTold cX0_isTold 1 (some .boolean) RX0 0 := ⟨tw_376, tw_374, tw_375, tw_40, by decide +kernel⟩
theorem mv_X0_weighFiles : zMV yX0_weighFiles cX0_weighFiles 4 none RX0 0 := ⟨tw_380, tw_379, tw_8, tw_40, by decide +kernel⟩
set_option maxRecDepth 100000 in
set_option maxHeartbeats 4000000 in
theorem c_J6_bitCount_0f7a4 (l : Launch) (G : zGt) (x : Int)  : Met l yJ6_bitCount_0f7a4 (Cond.code yJ6_bitCount_0f7a4 cJ6_bitCount_0f7a4 1 (some .int) :: tb) ({ frames := 0, cells := 0, slots := 0, locals := 0 } : Room) (zPr G [] [vI x]) (vp_Si (fun r => r = iI (bcZ x))) 0 0 (fun _ => False) := by
  refine va_MetF (cc := cJ6_bitCount_0f7a4) (maxL := 1) (ret := (some .int)) (by decide +kernel) rfl ?_
  intro p e s m args below meth c s₁ B hml hv
  obtain ⟨rfl, hP, hK⟩ := hv
  obtain ⟨hC, hr, hlk⟩ := z_begin B hml
  have hC : CallFix p m c cJ6_bitCount_0f7a4 1 s _ tb RJ6 := hC
  have hx := hC.1
  have hb := hC.2.1
  have hl := lv_entry ([vI x]) (n := 1) (Nat.le_of_ble_eq_true rfl)
  rw [lg_entry_eq]
  generalize (lg_sl ([vI x]) ++ List.replicate (1 - (lg_sl ([vI x])).length) Slot.unset).toArray = ls at hl ⊢
  have hl : lv_has ls 1 [(0, vI x)] := hl
  refine lv_iload_n hx hb dJ6_bitCount_0f7a4_0 rfl (lv_at hl 0 rfl) ?_
  refine lv_iload_n hx hb dJ6_bitCount_0f7a4_1 rfl (lv_at hl 0 rfl) ?_
  refine lv_iconst (v := iI 1) hx hb dJ6_bitCount_0f7a4_2 rfl ?_
  refine z_iushr hx hb dJ6_bitCount_0f7a4_3 ?_
  refine lv_ldcw (v := iI 1431655765) hx hb hC.2.2.2.1 (hC.2.2.2.2 _ tw_422) dJ6_bitCount_0f7a4_4 ?_
  refine z_iand hx hb dJ6_bitCount_0f7a4_7 ?_
  refine z_isub hx hb dJ6_bitCount_0f7a4_8 ?_
  refine lv_istore_n (lv' := [(0, vI (x - (zand (zushr x 1) 1431655765)))]) hx hb dJ6_bitCount_0f7a4_9 rfl hl (by decide) rfl (fun ls hl => ?_)
  refine lv_iload_n hx hb dJ6_bitCount_0f7a4_10 rfl (lv_at hl 0 rfl) ?_
  refine lv_ldcw (v := iI 858993459) hx hb hC.2.2.2.1 (hC.2.2.2.2 _ tw_423) dJ6_bitCount_0f7a4_11 ?_
  refine z_iand hx hb dJ6_bitCount_0f7a4_14 ?_
  refine lv_iload_n hx hb dJ6_bitCount_0f7a4_15 rfl (lv_at hl 0 rfl) ?_
  refine lv_iconst (v := iI 2) hx hb dJ6_bitCount_0f7a4_16 rfl ?_
  refine z_iushr hx hb dJ6_bitCount_0f7a4_17 ?_
  refine lv_ldcw (v := iI 858993459) hx hb hC.2.2.2.1 (hC.2.2.2.2 _ tw_423) dJ6_bitCount_0f7a4_18 ?_
  refine z_iand hx hb dJ6_bitCount_0f7a4_21 ?_
  refine z_iadd hx hb dJ6_bitCount_0f7a4_22 ?_
  refine lv_istore_n (lv' := [(0, vI ((zand (x - (zand (zushr x 1) 1431655765)) 858993459) + (zand (zushr (x - (zand (zushr x 1) 1431655765)) 2) 858993459)))]) hx hb dJ6_bitCount_0f7a4_23 rfl hl (by decide) rfl (fun ls hl => ?_)
  refine lv_iload_n hx hb dJ6_bitCount_0f7a4_24 rfl (lv_at hl 0 rfl) ?_
  refine lv_iload_n hx hb dJ6_bitCount_0f7a4_25 rfl (lv_at hl 0 rfl) ?_
  refine lv_iconst (v := iI 4) hx hb dJ6_bitCount_0f7a4_26 rfl ?_
  refine z_iushr hx hb dJ6_bitCount_0f7a4_27 ?_
  refine z_iadd hx hb dJ6_bitCount_0f7a4_28 ?_
  refine lv_ldcw (v := iI 252645135) hx hb hC.2.2.2.1 (hC.2.2.2.2 _ tw_424) dJ6_bitCount_0f7a4_29 ?_
  refine z_iand hx hb dJ6_bitCount_0f7a4_32 ?_
  refine lv_istore_n (lv' := [(0, vI (zand (((zand (x - (zand (zushr x 1) 1431655765)) 858993459) + (zand (zushr (x - (zand (zushr x 1) 1431655765)) 2) 858993459)) + (zushr ((zand (x - (zand (zushr x 1) 1431655765)) 858993459) + (zand (zushr (x - (zand (zushr x 1) 1431655765)) 2) 858993459)) 4)) 252645135))]) hx hb dJ6_bitCount_0f7a4_33 rfl hl (by decide) rfl (fun ls hl => ?_)
  refine lv_iload_n hx hb dJ6_bitCount_0f7a4_34 rfl (lv_at hl 0 rfl) ?_
  refine lv_iload_n hx hb dJ6_bitCount_0f7a4_35 rfl (lv_at hl 0 rfl) ?_
  refine lv_bipush (v := iI 8) hx hb dJ6_bitCount_0f7a4_36 (by decide) ?_
  refine z_iushr hx hb dJ6_bitCount_0f7a4_38 ?_
  refine z_iadd hx hb dJ6_bitCount_0f7a4_39 ?_
  refine lv_istore_n (lv' := [(0, vI ((zand (((zand (x - (zand (zushr x 1) 1431655765)) 858993459) + (zand (zushr (x - (zand (zushr x 1) 1431655765)) 2) 858993459)) + (zushr ((zand (x - (zand (zushr x 1) 1431655765)) 858993459) + (zand (zushr (x - (zand (zushr x 1) 1431655765)) 2) 858993459)) 4)) 252645135) + (zushr (zand (((zand (x - (zand (zushr x 1) 1431655765)) 858993459) + (zand (zushr (x - (zand (zushr x 1) 1431655765)) 2) 858993459)) + (zushr ((zand (x - (zand (zushr x 1) 1431655765)) 858993459) + (zand (zushr (x - (zand (zushr x 1) 1431655765)) 2) 858993459)) 4)) 252645135) 8)))]) hx hb dJ6_bitCount_0f7a4_40 rfl hl (by decide) rfl (fun ls hl => ?_)
  refine lv_iload_n hx hb dJ6_bitCount_0f7a4_41 rfl (lv_at hl 0 rfl) ?_
  refine lv_iload_n hx hb dJ6_bitCount_0f7a4_42 rfl (lv_at hl 0 rfl) ?_
  refine lv_bipush (v := iI 16) hx hb dJ6_bitCount_0f7a4_43 (by decide) ?_
  refine z_iushr hx hb dJ6_bitCount_0f7a4_45 ?_
  refine z_iadd hx hb dJ6_bitCount_0f7a4_46 ?_
  refine lv_istore_n (lv' := [(0, vI (((zand (((zand (x - (zand (zushr x 1) 1431655765)) 858993459) + (zand (zushr (x - (zand (zushr x 1) 1431655765)) 2) 858993459)) + (zushr ((zand (x - (zand (zushr x 1) 1431655765)) 858993459) + (zand (zushr (x - (zand (zushr x 1) 1431655765)) 2) 858993459)) 4)) 252645135) + (zushr (zand (((zand (x - (zand (zushr x 1) 1431655765)) 858993459) + (zand (zushr (x - (zand (zushr x 1) 1431655765)) 2) 858993459)) + (zushr ((zand (x - (zand (zushr x 1) 1431655765)) 858993459) + (zand (zushr (x - (zand (zushr x 1) 1431655765)) 2) 858993459)) 4)) 252645135) 8)) + (zushr ((zand (((zand (x - (zand (zushr x 1) 1431655765)) 858993459) + (zand (zushr (x - (zand (zushr x 1) 1431655765)) 2) 858993459)) + (zushr ((zand (x - (zand (zushr x 1) 1431655765)) 858993459) + (zand (zushr (x - (zand (zushr x 1) 1431655765)) 2) 858993459)) 4)) 252645135) + (zushr (zand (((zand (x - (zand (zushr x 1) 1431655765)) 858993459) + (zand (zushr (x - (zand (zushr x 1) 1431655765)) 2) 858993459)) + (zushr ((zand (x - (zand (zushr x 1) 1431655765)) 858993459) + (zand (zushr (x - (zand (zushr x 1) 1431655765)) 2) 858993459)) 4)) 252645135) 8)) 16)))]) hx hb dJ6_bitCount_0f7a4_47 rfl hl (by decide) rfl (fun ls hl => ?_)
  refine lv_iload_n hx hb dJ6_bitCount_0f7a4_48 rfl (lv_at hl 0 rfl) ?_
  refine lv_bipush (v := iI 63) hx hb dJ6_bitCount_0f7a4_49 (by decide) ?_
  refine z_iand hx hb dJ6_bitCount_0f7a4_51 ?_
  exact z_iretR hC hr hlk (rfl) dJ6_bitCount_0f7a4_52

set_option maxRecDepth 100000 in
set_option maxHeartbeats 4000000 in
theorem c_X0_blocksInAll (l : Launch) (G : zGt) (u0 u1 u2 u3 u4 u5 u6 f0 : Nat) (gr cn cg cb : Int)  : Met l yX0_blocksInAll (Cond.code yX0_blocksInAll cX0_blocksInAll 1 (some .int) :: tb) ({ frames := 1, cells := 0, slots := 0, locals := 20 } : Room) (zPr G [(u0, ob 0 [.ref f0, vI gr, .ref u1, .ref u2, .ref u3, .ref u4, .ref u5, .ref u6, vI cn, vI cg, vI cb])] [.ref u0]) (vp_Si (fun r => r = iI (bcZ cb))) 0 0 (fun _ => False) := by
  refine Met.ofW (cc := cX0_blocksInAll) (maxL := 1) (ret := (some .int)) (by decide) rfl ?_
  intro p e s m args below meth c s₁ B hml hv
  obtain ⟨rfl, hP, hK⟩ := hv
  obtain ⟨hC, hr, hlk⟩ := z_begin B hml
  have hC : CallFix p m c cX0_blocksInAll 1 s _ tb RX0 := hC
  have hx := hC.1
  have hb := hC.2.1
  have hl := lv_entry ([.ref u0]) (n := 1) (Nat.le_of_ble_eq_true rfl)
  rw [lg_entry_eq]
  generalize (lg_sl ([.ref u0]) ++ List.replicate (1 - (lg_sl ([.ref u0])).length) Slot.unset).toArray = ls at hl ⊢
  have hl : lv_has ls 1 [(0, .ref u0)] := hl
  refine lv_aload_n hx hb dX0_blocksInAll_0 rfl (lv_at hl 0 rfl) ?_
  refine z_get (v := vI cb) hC hK hP inX0 rfl 0 rfl 10 (by decide) tw_174 rfl dX0_blocksInAll_1 ?_
  refine z_rSi (rest := []) hC hK hP (c_J6_bitCount_0f7a4 l G cb) ms_J6_bitCount_0f7a4 tw_419 [] rfl rfl hl.1 rfl (Nat.le_of_ble_eq_true rfl) ⟨rfl, rfl, Nat.le_of_ble_eq_true rfl, Nat.le_of_ble_eq_true rfl⟩ ⟨Nat.le_of_ble_eq_true rfl, Nat.le_of_ble_eq_true rfl⟩ dX0_blocksInAll_4 ?_
  exact z_iretR hC hr hlk (rfl) dX0_blocksInAll_7

set_option maxRecDepth 100000 in
set_option maxHeartbeats 4000000 in
theorem c_X0_choose (l : Launch) (G : zGt) (sz : Nat) (u0 u1 u2 u3 u4 u5 u6 f0 : Nat) (gr cn cg cb : Int) (GA GN BB HP TR CH : Int → Int) (f1 h0 : Nat) (nf tm : Int) (K : Int → Int) (hnf : 0 ≤ nf ∧ nf ≤ 40) (hK0 : ∀ j : Int, 0 ≤ j ∧ j < nf → 0 ≤ K j ∧ K j < 268435456) : Met l yX0_choose (Cond.code yX0_choose cX0_choose 1 none :: tb) ({ frames := 9, cells := 0, slots := 0, locals := 216 } : Room) (zPw G [(u0, ob 0 [.ref f0, vI gr, .ref u1, .ref u2, .ref u3, .ref u4, .ref u5, .ref u6, vI cn, vI cg, vI cb]), (u1, aI G 7 GA), (u2, aI G 40 GN), (u3, aI G 40 BB), (u4, aI G 7 HP), (u5, aI G 6 TR), (u6, aI G 6 CH), (f0, ob 2 [.ref h0, .ref f1, vI nf, vI tm]), (f1, aI G 40 K)] sz [.ref u0]) (va_Qv (fun u : Int × Int × Int × Int × (Int → Int) × (Int → Int) × (Int → Int) × (Int → Int) × (Int → Int) × (Int → Int) => u.1 = ngF (fun j => kBl (K j) 0) nf.toNat ∧ (u.1 ≤ 6 → rpH (btZ (gcF (fun j => kBl (K j) 0) (zfl GA nf 7) nf.toNat) (fun k => gnZ (K k)) (fun k => kBits (K k)) u.1.toNat 0 [] 0 0 (-1, [], 0)) u.2.2.2.2.2.2.2.2.2 u.2.1 u.2.2.1 u.2.2.2.1) ∧ (6 < u.1 → u.2.1 = 0 ∧ u.2.2.1 = -1 ∧ u.2.2.2.1 = 0)) (fun (u : Int × Int × Int × Int × (Int → Int) × (Int → Int) × (Int → Int) × (Int → Int) × (Int → Int) × (Int → Int)) t => zB G [(u0, ob 0 [.ref f0, vI gr, .ref u1, .ref u2, .ref u3, .ref u4, .ref u5, .ref u6, vI cn, vI cg, vI cb]), (u1, aI G 7 GA), (u2, aI G 40 GN), (u3, aI G 40 BB), (u4, aI G 7 HP), (u5, aI G 6 TR), (u6, aI G 6 CH), (f0, ob 2 [.ref h0, .ref f1, vI nf, vI tm]), (f1, aI G 40 K)] sz [(u0, ob 0 [.ref f0, vI u.1, .ref u1, .ref u2, .ref u3, .ref u4, .ref u5, .ref u6, vI u.2.1, vI u.2.2.1, vI u.2.2.2.1]), (u1, aI G 7 u.2.2.2.2.1), (u2, aI G 40 u.2.2.2.2.2.1), (u3, aI G 40 u.2.2.2.2.2.2.1), (u4, aI G 7 u.2.2.2.2.2.2.2.1), (u5, aI G 6 u.2.2.2.2.2.2.2.2.1), (u6, aI G 6 u.2.2.2.2.2.2.2.2.2), (f0, ob 2 [.ref h0, .ref f1, vI nf, vI tm]), (f1, aI G 40 K)] t) (va_A [(u0, ob 0 [.ref f0, vI gr, .ref u1, .ref u2, .ref u3, .ref u4, .ref u5, .ref u6, vI cn, vI cg, vI cb]), (u1, aI G 7 GA), (u2, aI G 40 GN), (u3, aI G 40 BB), (u4, aI G 7 HP), (u5, aI G 6 TR), (u6, aI G 6 CH), (f0, ob 2 [.ref h0, .ref f1, vI nf, vI tm]), (f1, aI G 40 K)] sz)) 0 0 (va_A [(u0, ob 0 [.ref f0, vI gr, .ref u1, .ref u2, .ref u3, .ref u4, .ref u5, .ref u6, vI cn, vI cg, vI cb]), (u1, aI G 7 GA), (u2, aI G 40 GN), (u3, aI G 40 BB), (u4, aI G 7 HP), (u5, aI G 6 TR), (u6, aI G 6 CH), (f0, ob 2 [.ref h0, .ref f1, vI nf, vI tm]), (f1, aI G 40 K)] sz) := by
  refine Met.ofW (cc := cX0_choose) (maxL := 1) (ret := none) (by decide) rfl ?_
  intro p e s m args below meth c s₁ B hml hv
  obtain ⟨rfl, hsz, hP, hK, hD0⟩ := hv
  subst hsz
  have hD := hD0.self (sz := s.heap.size)
  obtain ⟨A, hAe⟩ : ∃ A : Nat → Prop, A = va_A [(u0, ob 0 [.ref f0, vI gr, .ref u1, .ref u2, .ref u3, .ref u4, .ref u5, .ref u6, vI cn, vI cg, vI cb]), (u1, aI G 7 GA), (u2, aI G 40 GN), (u3, aI G 40 BB), (u4, aI G 7 HP), (u5, aI G 6 TR), (u6, aI G 6 CH), (f0, ob 2 [.ref h0, .ref f1, vI nf, vI tm]), (f1, aI G 40 K)] s.heap.size := ⟨_, rfl⟩
  rw [← hAe] at hD
  have hA : ∀ q : Nat, s.heap.size ≤ q → A q := fun q h => by rw [hAe]; exact Or.inr h
  have hS : va_S A s.heap s.heap [] := va_S.rf
  obtain ⟨hC, hr, hlk⟩ := z_begin B hml
  have hC : CallFix p m c cX0_choose 1 s _ tb RX0 := hC
  have hx := hC.1
  have hb := hC.2.1
  have hl := lv_entry ([.ref u0]) (n := 1) (Nat.le_of_ble_eq_true rfl)
  rw [lg_entry_eq]
  generalize (lg_sl ([.ref u0]) ++ List.replicate (1 - (lg_sl ([.ref u0])).length) Slot.unset).toArray = ls at hl ⊢
  have hl : lv_has ls 1 [(0, .ref u0)] := hl
  obtain ⟨H, hHe⟩ : ∃ H : Heap, H = s.heap := ⟨_, rfl⟩
  obtain ⟨locs, hLe⟩ : ∃ L : List Loc, L = [] := ⟨_, rfl⟩
  suffices hgo : W p l e (headSpec (Cond.code yX0_choose cX0_choose 1 none :: tb) ({ frames := 9, cells := 0, slots := 0, locals := 216 } : Room)).room s m ([.ref u0] : List Value).toArray below meth c H locs 0 0 (MQ below (va_Qv (fun u : Int × Int × Int × Int × (Int → Int) × (Int → Int) × (Int → Int) × (Int → Int) × (Int → Int) × (Int → Int) => u.1 = ngF (fun j => kBl (K j) 0) nf.toNat ∧ (u.1 ≤ 6 → rpH (btZ (gcF (fun j => kBl (K j) 0) (zfl GA nf 7) nf.toNat) (fun k => gnZ (K k)) (fun k => kBits (K k)) u.1.toNat 0 [] 0 0 (-1, [], 0)) u.2.2.2.2.2.2.2.2.2 u.2.1 u.2.2.1 u.2.2.2.1) ∧ (6 < u.1 → u.2.1 = 0 ∧ u.2.2.1 = -1 ∧ u.2.2.2.1 = 0)) (fun (u : Int × Int × Int × Int × (Int → Int) × (Int → Int) × (Int → Int) × (Int → Int) × (Int → Int) × (Int → Int)) t => zB G [(u0, ob 0 [.ref f0, vI gr, .ref u1, .ref u2, .ref u3, .ref u4, .ref u5, .ref u6, vI cn, vI cg, vI cb]), (u1, aI G 7 GA), (u2, aI G 40 GN), (u3, aI G 40 BB), (u4, aI G 7 HP), (u5, aI G 6 TR), (u6, aI G 6 CH), (f0, ob 2 [.ref h0, .ref f1, vI nf, vI tm]), (f1, aI G 40 K)] s.heap.size [(u0, ob 0 [.ref f0, vI u.1, .ref u1, .ref u2, .ref u3, .ref u4, .ref u5, .ref u6, vI u.2.1, vI u.2.2.1, vI u.2.2.2.1]), (u1, aI G 7 u.2.2.2.2.1), (u2, aI G 40 u.2.2.2.2.2.1), (u3, aI G 40 u.2.2.2.2.2.2.1), (u4, aI G 7 u.2.2.2.2.2.2.2.1), (u5, aI G 6 u.2.2.2.2.2.2.2.2.1), (u6, aI G 6 u.2.2.2.2.2.2.2.2.2), (f0, ob 2 [.ref h0, .ref f1, vI nf, vI tm]), (f1, aI G 40 K)] t) (va_A [(u0, ob 0 [.ref f0, vI gr, .ref u1, .ref u2, .ref u3, .ref u4, .ref u5, .ref u6, vI cn, vI cg, vI cb]), (u1, aI G 7 GA), (u2, aI G 40 GN), (u3, aI G 40 BB), (u4, aI G 7 HP), (u5, aI G 6 TR), (u6, aI G 6 CH), (f0, ob 2 [.ref h0, .ref f1, vI nf, vI tm]), (f1, aI G 40 K)] s.heap.size)) ([.ref u0] : List Value).toArray s 0 0 (va_A [(u0, ob 0 [.ref f0, vI gr, .ref u1, .ref u2, .ref u3, .ref u4, .ref u5, .ref u6, vI cn, vI cg, vI cb]), (u1, aI G 7 GA), (u2, aI G 40 GN), (u3, aI G 40 BB), (u4, aI G 7 HP), (u5, aI G 6 TR), (u6, aI G 6 CH), (f0, ob 2 [.ref h0, .ref f1, vI nf, vI tm]), (f1, aI G 40 K)] s.heap.size)) (F0 m 0 ls []) by rw [hHe, hLe] at hgo; exact hgo
  rw [← hHe] at hP
  have hS : va_S A s.heap H locs := by rw [hHe, hLe]; exact hS
  clear hHe hLe
  have hng := ngF_bd (fun j => kBl (K j) 0) nf.toNat
  refine lv_aload_n hx hb dX0_choose_0 rfl (lv_at hl 0 rfl) ?_
  refine lv_iconst (v := iI 0) hx hb dX0_choose_1 rfl ?_
  refine z_put (ws' := [(u0, ob 0 [.ref f0, vI gr, .ref u1, .ref u2, .ref u3, .ref u4, .ref u5, .ref u6, vI 0, vI cg, vI cb]), (u1, aI G 7 GA), (u2, aI G 40 GN), (u3, aI G 40 BB), (u4, aI G 7 HP), (u5, aI G 6 TR), (u6, aI G 6 CH), (f0, ob 2 [.ref h0, .ref f1, vI nf, vI tm]), (f1, aI G 40 K)]) hC hK hP hD hS inX0 tyX0 tyX0_ok nmX0 rfl 0 rfl 8 (by decide) tw_172 rfl rfl rfl (Nat.le_of_ble_eq_true rfl) rfl dX0_choose_2 (fun H locs hP hD hS => ?_)
  refine lv_aload_n hx hb dX0_choose_5 rfl (lv_at hl 0 rfl) ?_
  refine lv_iconst (v := iI (-1)) hx hb dX0_choose_6 rfl ?_
  refine z_put (ws' := [(u0, ob 0 [.ref f0, vI gr, .ref u1, .ref u2, .ref u3, .ref u4, .ref u5, .ref u6, vI 0, vI (-1), vI cb]), (u1, aI G 7 GA), (u2, aI G 40 GN), (u3, aI G 40 BB), (u4, aI G 7 HP), (u5, aI G 6 TR), (u6, aI G 6 CH), (f0, ob 2 [.ref h0, .ref f1, vI nf, vI tm]), (f1, aI G 40 K)]) hC hK hP hD hS inX0 tyX0 tyX0_ok nmX0 rfl 0 rfl 9 (by decide) tw_173 rfl rfl rfl (Nat.le_of_ble_eq_true rfl) rfl dX0_choose_7 (fun H locs hP hD hS => ?_)
  refine lv_aload_n hx hb dX0_choose_10 rfl (lv_at hl 0 rfl) ?_
  refine lv_iconst (v := iI 0) hx hb dX0_choose_11 rfl ?_
  refine z_put (ws' := [(u0, ob 0 [.ref f0, vI gr, .ref u1, .ref u2, .ref u3, .ref u4, .ref u5, .ref u6, vI 0, vI (-1), vI 0]), (u1, aI G 7 GA), (u2, aI G 40 GN), (u3, aI G 40 BB), (u4, aI G 7 HP), (u5, aI G 6 TR), (u6, aI G 6 CH), (f0, ob 2 [.ref h0, .ref f1, vI nf, vI tm]), (f1, aI G 40 K)]) hC hK hP hD hS inX0 tyX0 tyX0_ok nmX0 rfl 0 rfl 10 (by decide) tw_174 rfl rfl rfl (Nat.le_of_ble_eq_true rfl) rfl dX0_choose_12 (fun H locs hP hD hS => ?_)
  refine lv_aload_n hx hb dX0_choose_15 rfl (lv_at hl 0 rfl) ?_
  refine z_wVv (q0 := 0) (ci := 0) (b := u0) (rest := []) (wr := [(u2, aI G 40 GN), (u3, aI G 40 BB), (u4, aI G 7 HP), (u5, aI G 6 TR), (u6, aI G 6 CH)]) hC hK hP hD hS hA (c_X0_findGroups l G H.size u0 u1 u2 u3 u4 u5 u6 f0 gr 0 (-1) 0 GA f1 h0 nf tm K (by omega) (by omega)) mv_X0_findGroups tw_354 [0, 1, 7, 8] [2, 3, 4, 5, 6] rfl rfl rfl rfl (by decide) rfl rfl rfl rfl hl.1 rfl (Nat.le_of_ble_eq_true rfl) ⟨rfl, rfl, Nat.le_of_ble_eq_true rfl, Nat.le_of_ble_eq_true rfl⟩ ⟨Nat.le_of_ble_eq_true rfl, Nat.le_of_ble_eq_true rfl⟩ dX0_choose_16 (fun u H locs hw hP hD hS => ?_)
  have hP : va_P G.1 vwCl [(u2, aI G 40 GN), (u3, aI G 40 BB), (u4, aI G 7 HP), (u5, aI G 6 TR), (u6, aI G 6 CH), (u0, ob 0 [.ref f0, vI (ngF (fun j => kBl (K j) 0) nf.toNat), .ref u1, .ref u2, .ref u3, .ref u4, .ref u5, .ref u6, vI 0, vI (-1), vI 0]), (u1, aI G 7 (gcF (fun j => kBl (K j) 0) (zfl GA nf 7) nf.toNat)), (f0, ob 2 [.ref h0, .ref f1, vI nf, vI tm]), (f1, aI G 40 K)] H := hP
  have hD : va_D A [(u2, aI G 40 GN), (u3, aI G 40 BB), (u4, aI G 7 HP), (u5, aI G 6 TR), (u6, aI G 6 CH), (u0, ob 0 [.ref f0, vI (ngF (fun j => kBl (K j) 0) nf.toNat), .ref u1, .ref u2, .ref u3, .ref u4, .ref u5, .ref u6, vI 0, vI (-1), vI 0]), (u1, aI G 7 (gcF (fun j => kBl (K j) 0) (zfl GA nf 7) nf.toNat)), (f0, ob 2 [.ref h0, .ref f1, vI nf, vI tm]), (f1, aI G 40 K)] := hD
  have hw_1 := hw
  clear hw_1
  refine lv_aload_n hx hb dX0_choose_19 rfl (lv_at hl 0 rfl) ?_
  refine z_rVi (q0 := 5) (ci := 0) (b := u0) (rest := []) hC hK hP (c_X0_isTold l G u0 u1 u2 u3 u4 u5 u6 f0 (ngF (fun j => kBl (K j) 0) nf.toNat) 0 (-1) 0 (by omega)) mv_X0_isTold tw_373 [5] rfl rfl rfl rfl hl.1 rfl (Nat.le_of_ble_eq_true rfl) ⟨rfl, rfl, Nat.le_of_ble_eq_true rfl, Nat.le_of_ble_eq_true rfl⟩ ⟨Nat.le_of_ble_eq_true rfl, Nat.le_of_ble_eq_true rfl⟩ dX0_choose_20 ?_
  refine z_if_eq (tgt := 38) hx hb dX0_choose_23 (by decide) (by split <;> omega) (fun c_23 => ?_) (fun c_23 => ?_)
  · have h6 : 6 < ngF (fun j => kBl (K j) 0) nf.toNat := by split at c_23 <;> omega
    exact z_vretW hC hr hlk ⟨ngF (fun j => kBl (K j) 0) nf.toNat, 0, (-1), 0, gcF (fun j => kBl (K j) 0) (zfl GA nf 7) nf.toNat, GN, BB, HP, TR, CH⟩ hAe hP hD hS [5, 6, 0, 1, 2, 3, 4, 7, 8] (by decide) rfl rfl (by first | exact ⟨rfl, fun _ => by have h9 := hw_3.1; rw [Int.sub_zero] at h9; exact h9, fun h => by omega⟩ | exact ⟨rfl, fun h => by omega, fun _ => ⟨rfl, rfl, rfl⟩⟩) dX0_choose_38
  · have h6 : ngF (fun j => kBl (K j) 0) nf.toNat ≤ 6 := by split at c_23 <;> omega
    obtain ⟨hg1, hg2, hg3, hg4⟩ := gc_ok (fun j => kBl (K j) 0) GA hnf.1 h6
    refine lv_aload_n hx hb dX0_choose_26 rfl (lv_at hl 0 rfl) ?_
    refine z_wVv (q0 := 5) (ci := 0) (b := u0) (rest := []) (wr := [(u5, aI G 6 TR), (u6, aI G 6 CH)]) hC hK hP hD hS hA (c_X0_weighFiles l G H.size u0 u1 u2 u3 u4 u5 u6 f0 (ngF (fun j => kBl (K j) 0) nf.toNat) 0 (-1) 0 (gcF (fun j => kBl (K j) 0) (zfl GA nf 7) nf.toNat) GN BB HP f1 h0 nf tm K (by omega) (hK0) (by omega) (hg1)) mv_X0_weighFiles tw_377 [5, 6, 0, 1, 2, 7, 8] [3, 4] rfl rfl rfl rfl (by decide) rfl rfl rfl rfl hl.1 rfl (Nat.le_of_ble_eq_true rfl) ⟨rfl, rfl, Nat.le_of_ble_eq_true rfl, Nat.le_of_ble_eq_true rfl⟩ ⟨Nat.le_of_ble_eq_true rfl, Nat.le_of_ble_eq_true rfl⟩ dX0_choose_27 (fun u H locs hw hP hD hS => ?_)
    obtain ⟨GN'_2, BB'_2, HP'_2⟩ := u
    dsimp only at hw hP hD
    have hP : va_P G.1 vwCl [(u5, aI G 6 TR), (u6, aI G 6 CH), (u0, ob 0 [.ref f0, vI (ngF (fun j => kBl (K j) 0) nf.toNat), .ref u1, .ref u2, .ref u3, .ref u4, .ref u5, .ref u6, vI 0, vI (-1), vI 0]), (u1, aI G 7 (gcF (fun j => kBl (K j) 0) (zfl GA nf 7) nf.toNat)), (u2, aI G 40 GN'_2), (u3, aI G 40 BB'_2), (u4, aI G 7 HP'_2), (f0, ob 2 [.ref h0, .ref f1, vI nf, vI tm]), (f1, aI G 40 K)] H := hP
    have hD : va_D A [(u5, aI G 6 TR), (u6, aI G 6 CH), (u0, ob 0 [.ref f0, vI (ngF (fun j => kBl (K j) 0) nf.toNat), .ref u1, .ref u2, .ref u3, .ref u4, .ref u5, .ref u6, vI 0, vI (-1), vI 0]), (u1, aI G 7 (gcF (fun j => kBl (K j) 0) (zfl GA nf 7) nf.toNat)), (u2, aI G 40 GN'_2), (u3, aI G 40 BB'_2), (u4, aI G 7 HP'_2), (f0, ob 2 [.ref h0, .ref f1, vI nf, vI tm]), (f1, aI G 40 K)] := hD
    have hw_2 := hw
    refine lv_aload_n hx hb dX0_choose_30 rfl (lv_at hl 0 rfl) ?_
    refine lv_iconst (v := iI 0) hx hb dX0_choose_31 rfl ?_
    refine lv_iconst (v := iI 0) hx hb dX0_choose_32 rfl ?_
    refine lv_iconst (v := iI 0) hx hb dX0_choose_33 rfl ?_
    refine lv_iconst (v := iI 0) hx hb dX0_choose_34 rfl ?_
    refine z_wVv (q0 := 2) (ci := 0) (b := u0) (rest := []) (wr := [(f0, ob 2 [.ref h0, .ref f1, vI nf, vI tm]), (f1, aI G 40 K)]) hC hK hP hD hS hA (c_X0_tryGroup_0 l G H.size u0 u1 u2 u3 u4 u5 u6 f0 (ngF (fun j => kBl (K j) 0) nf.toNat) 0 (-1) 0 (gcF (fun j => kBl (K j) 0) (zfl GA nf 7) nf.toNat) GN'_2 BB'_2 HP'_2 TR CH nf K ([]) (-1, [], 0) 0 0 0 (by omega) (by omega) (by omega) (hg1) (hg3) (fun k hk => hw_2.1 k (by rw [hg4]; exact hk)) (hw_2.2) (rpT_0 _) (by omega) (by omega) (show -12001 ≤ (-1 : Int) ∧ (-1 : Int) ≤ 3000000 by omega) (rpH_0 _)) mv_X0_tryGroup tw_400 [2, 3, 4, 5, 6, 0, 1] [7, 8] rfl rfl rfl rfl (by decide) rfl rfl rfl rfl hl.1 rfl (Nat.le_of_ble_eq_true rfl) ⟨rfl, rfl, Nat.le_of_ble_eq_true rfl, Nat.le_of_ble_eq_true rfl⟩ ⟨Nat.le_of_ble_eq_true rfl, Nat.le_of_ble_eq_true rfl⟩ dX0_choose_35 (fun u H locs hw hP hD hS => ?_)
    obtain ⟨cn'_3, cg'_3, cb'_3, TR'_3, CH'_3⟩ := u
    dsimp only at hw hP hD
    have hP : va_P G.1 vwCl [(f0, ob 2 [.ref h0, .ref f1, vI nf, vI tm]), (f1, aI G 40 K), (u0, ob 0 [.ref f0, vI (ngF (fun j => kBl (K j) 0) nf.toNat), .ref u1, .ref u2, .ref u3, .ref u4, .ref u5, .ref u6, vI cn'_3, vI cg'_3, vI cb'_3]), (u1, aI G 7 (gcF (fun j => kBl (K j) 0) (zfl GA nf 7) nf.toNat)), (u2, aI G 40 GN'_2), (u3, aI G 40 BB'_2), (u4, aI G 7 HP'_2), (u5, aI G 6 TR'_3), (u6, aI G 6 CH'_3)] H := hP
    have hD : va_D A [(f0, ob 2 [.ref h0, .ref f1, vI nf, vI tm]), (f1, aI G 40 K), (u0, ob 0 [.ref f0, vI (ngF (fun j => kBl (K j) 0) nf.toNat), .ref u1, .ref u2, .ref u3, .ref u4, .ref u5, .ref u6, vI cn'_3, vI cg'_3, vI cb'_3]), (u1, aI G 7 (gcF (fun j => kBl (K j) 0) (zfl GA nf 7) nf.toNat)), (u2, aI G 40 GN'_2), (u3, aI G 40 BB'_2), (u4, aI G 7 HP'_2), (u5, aI G 6 TR'_3), (u6, aI G 6 CH'_3)] := hD
    have hw_3 := hw
    exact z_vretW hC hr hlk ⟨(ngF (fun j => kBl (K j) 0) nf.toNat), cn'_3, cg'_3, cb'_3, (gcF (fun j => kBl (K j) 0) (zfl GA nf 7) nf.toNat), GN'_2, BB'_2, HP'_2, TR'_3, CH'_3⟩ hAe hP hD hS [2, 3, 4, 5, 6, 7, 8, 0, 1] (by decide) rfl rfl (by first | exact ⟨rfl, fun _ => by have h9 := hw_3.1; rw [Int.sub_zero] at h9; exact h9, fun h => by omega⟩ | exact ⟨rfl, fun h => by omega, fun _ => ⟨rfl, rfl, rfl⟩⟩) dX0_choose_38
