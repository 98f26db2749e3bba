theorem ms_X6_byteOf : zMS yX6_byteOf cX6_byteOf 3 (some .int) 2 := ⟨tw_291, tw_290, tw_35, by decide +kernel⟩
theorem mv_X1_allOf : zMV yX1_allOf cX1_allOf 2 (some .long) RX1 1 := ⟨tw_284, tw_282, tw_283, tw_36, by decide +kernel⟩
set_option maxRecDepth 100000 in
set_option maxHeartbeats 4000000 in
theorem c_J9_abs_0f7a4 (l : Launch) (G : zGt) (x : Int) (hx0 : -2147483648 ≤ x ∧ x < 2147483648) : Met l yJ9_abs_0f7a4 (Cond.code yJ9_abs_0f7a4 cJ9_abs_0f7a4 1 (some .int) :: tb) ({ frames := 0, cells := 0, slots := 0, locals := 0 } : Room) (zPr G [] [vI x]) (vp_Si (fun r => r = iI (if x < 0 then -x else x))) 0 0 (fun _ => False) := by
  refine va_MetF (cc := cJ9_abs_0f7a4) (maxL := 1) (ret := (some .int)) (by decide +kernel) rfl ?_
  intro p e s m args below meth c s₁ B hml hv
  obtain ⟨rfl, hP, hK⟩ := hv
  obtain ⟨hC, hr, hlk⟩ := z_begin B hml
  have hC : CallFix p m c cJ9_abs_0f7a4 1 s _ tb RJ9 := hC
  have hx := hC.1
  have hb := hC.2.1
  have hl := lv_entry ([vI x]) (n := 1) (Nat.le_of_ble_eq_true rfl)
  rw [lg_entry_eq]
  generalize (lg_sl ([vI x]) ++ List.replicate (1 - (lg_sl ([vI x])).length) Slot.unset).toArray = ls at hl ⊢
  have hl : lv_has ls 1 [(0, vI x)] := hl
  refine lv_iload_n hx hb dJ9_abs_0f7a4_0 rfl (lv_at hl 0 rfl) ?_
  refine z_if_ge (tgt := 9) hx hb dJ9_abs_0f7a4_1 (by decide) (by omega) (fun c_1 => ?_) (fun c_1 => ?_)
  · refine lv_iload_n hx hb dJ9_abs_0f7a4_9 rfl (lv_at hl 0 rfl) ?_
    exact z_iretR hC hr hlk (by split <;> omega) dJ9_abs_0f7a4_10
  · refine lv_iload_n hx hb dJ9_abs_0f7a4_4 rfl (lv_at hl 0 rfl) ?_
    refine z_ineg hx hb dJ9_abs_0f7a4_5 ?_
    refine lv_goto (tgt := 10) hx hb dJ9_abs_0f7a4_6 (by decide) ?_
    exact z_iretR hC hr hlk (by split <;> omega) dJ9_abs_0f7a4_10

set_option maxRecDepth 100000 in
set_option maxHeartbeats 4000000 in
theorem c_J9_max_7cf53 (l : Launch) (G : zGt) (x y : Int) (hx : -2147483648 ≤ x ∧ x < 2147483648) (hy : -2147483648 ≤ y ∧ y < 2147483648) : Met l yJ9_max_7cf53 (Cond.code yJ9_max_7cf53 cJ9_max_7cf53 2 (some .int) :: tb) ({ frames := 0, cells := 0, slots := 0, locals := 0 } : Room) (zPr G [] [vI x, vI y]) (vp_Si (fun r => r = iI (if x < y then y else x))) 0 0 (fun _ => False) := by
  refine va_MetF (cc := cJ9_max_7cf53) (maxL := 2) (ret := (some .int)) (by decide +kernel) rfl ?_
  intro p e s m args below meth c s₁ B hml hv
  obtain ⟨rfl, hP, hK⟩ := hv
  obtain ⟨hC, hr, hlk⟩ := z_begin B hml
  have hC : CallFix p m c cJ9_max_7cf53 2 s _ tb RJ9 := hC
  have hx := hC.1
  have hb := hC.2.1
  have hl := lv_entry ([vI x, vI y]) (n := 2) (Nat.le_of_ble_eq_true rfl)
  rw [lg_entry_eq]
  generalize (lg_sl ([vI x, vI y]) ++ List.replicate (2 - (lg_sl ([vI x, vI y])).length) Slot.unset).toArray = ls at hl ⊢
  have hl : lv_has ls 2 [(0, vI x), (1, vI y)] := hl
  refine lv_iload_n hx hb dJ9_max_7cf53_0 rfl (lv_at hl 0 rfl) ?_
  refine lv_iload_n hx hb dJ9_max_7cf53_1 rfl (lv_at hl 1 rfl) ?_
  refine z_icmp_lt (tgt := 9) hx hb dJ9_max_7cf53_2 (by decide) (by omega) (fun c_2 => ?_) (fun c_2 => ?_)
  · refine lv_iload_n hx hb dJ9_max_7cf53_9 rfl (lv_at hl 1 rfl) ?_
    exact z_iretR hC hr hlk (by split <;> omega) dJ9_max_7cf53_10
  · refine lv_iload_n hx hb dJ9_max_7cf53_5 rfl (lv_at hl 0 rfl) ?_
    refine lv_goto (tgt := 10) hx hb dJ9_max_7cf53_6 (by decide) ?_
    exact z_iretR hC hr hlk (by split <;> omega) dJ9_max_7cf53_10

set_option maxRecDepth 100000 in
set_option maxHeartbeats 4000000 in
theorem c_J9_min_7cf53 (l : Launch) (G : zGt) (x y : Int) (hx : -2147483648 ≤ x ∧ x < 2147483648) (hy : -2147483648 ≤ y ∧ y < 2147483648) : Met l yJ9_min_7cf53 (Cond.code yJ9_min_7cf53 cJ9_min_7cf53 2 (some .int) :: tb) ({ frames := 0, cells := 0, slots := 0, locals := 0 } : Room) (zPr G [] [vI x, vI y]) (vp_Si (fun r => r = iI (if y < x then y else x))) 0 0 (fun _ => False) := by
  refine va_MetF (cc := cJ9_min_7cf53) (maxL := 2) (ret := (some .int)) (by decide +kernel) rfl ?_
  intro p e s m args below meth c s₁ B hml hv
  obtain ⟨rfl, hP, hK⟩ := hv
  obtain ⟨hC, hr, hlk⟩ := z_begin B hml
  have hC : CallFix p m c cJ9_min_7cf53 2 s _ tb RJ9 := hC
  have hx := hC.1
  have hb := hC.2.1
  have hl := lv_entry ([vI x, vI y]) (n := 2) (Nat.le_of_ble_eq_true rfl)
  rw [lg_entry_eq]
  generalize (lg_sl ([vI x, vI y]) ++ List.replicate (2 - (lg_sl ([vI x, vI y])).length) Slot.unset).toArray = ls at hl ⊢
  have hl : lv_has ls 2 [(0, vI x), (1, vI y)] := hl
  refine lv_iload_n hx hb dJ9_min_7cf53_0 rfl (lv_at hl 0 rfl) ?_
  refine lv_iload_n hx hb dJ9_min_7cf53_1 rfl (lv_at hl 1 rfl) ?_
  refine z_icmp_gt (tgt := 9) hx hb dJ9_min_7cf53_2 (by decide) (by omega) (fun c_2 => ?_) (fun c_2 => ?_)
  · refine lv_iload_n hx hb dJ9_min_7cf53_9 rfl (lv_at hl 1 rfl) ?_
    exact z_iretR hC hr hlk (by split <;> omega) dJ9_min_7cf53_10
  · refine lv_iload_n hx hb dJ9_min_7cf53_5 rfl (lv_at hl 0 rfl) ?_
    refine lv_goto (tgt := 10) hx hb dJ9_min_7cf53_6 (by decide) ?_
    exact z_iretR hC hr hlk (by split <;> omega) dJ9_min_7cf53_10

set_option maxRecDepth 100000 in
set_option maxHeartbeats 4000000 in
theorem c_X6_isByte (l : Launch) (G : zGt) (x : Int) (hx : -2147483648 ≤ x ∧ x < 2147483648) : Met l yX6_isByte (Cond.code yX6_isByte cX6_isByte 1 (some .boolean) :: tb) ({ frames := 0, cells := 0, slots := 0, locals := 0 } : Room) (zPr G [] [vI x]) (vp_Si (fun r => r = iI (if 0 ≤ x ∧ x < 256 then 1 else 0))) 0 0 (fun _ => False) := by
  refine Met.ofW (cc := cX6_isByte) (maxL := 1) (ret := (some .boolean)) (by decide) rfl ?_
  intro p e s m args below meth c s₁ B hml hv
  obtain ⟨rfl, hP, hK⟩ := hv
  obtain ⟨hC, hr, hlk⟩ := z_begin B hml
  have hC : CallFix p m c cX6_isByte 1 s _ tb RX6 := hC
  have hx := hC.1
  have hb := hC.2.1
  have hl := lv_entry ([vI x]) (n := 1) (Nat.le_of_ble_eq_true rfl)
  rw [lg_entry_eq]
  generalize (lg_sl ([vI x]) ++ List.replicate (1 - (lg_sl ([vI x])).length) Slot.unset).toArray = ls at hl ⊢
  have hl : lv_has ls 1 [(0, vI x)] := hl
  refine lv_iload_n hx hb dX6_isByte_0 rfl (lv_at hl 0 rfl) ?_
  refine z_if_lt (tgt := 15) hx hb dX6_isByte_1 (by decide) (by omega) (fun c_1 => ?_) (fun c_1 => ?_)
  · refine lv_iconst (v := iI 0) hx hb dX6_isByte_15 rfl ?_
    exact z_bretR hC hr hlk (by split <;> omega) (by omega) dX6_isByte_16
  · refine lv_iload_n hx hb dX6_isByte_4 rfl (lv_at hl 0 rfl) ?_
    refine lv_sipush (v := iI 256) hx hb dX6_isByte_5 (by decide) ?_
    refine z_icmp_ge (tgt := 15) hx hb dX6_isByte_8 (by decide) (by omega) (fun c_8 => ?_) (fun c_8 => ?_)
    · refine lv_iconst (v := iI 0) hx hb dX6_isByte_15 rfl ?_
      exact z_bretR hC hr hlk (by split <;> omega) (by omega) dX6_isByte_16
    · refine lv_iconst (v := iI 1) hx hb dX6_isByte_11 rfl ?_
      refine lv_goto (tgt := 16) hx hb dX6_isByte_12 (by decide) ?_
      exact z_bretR hC hr hlk (by split <;> omega) (by omega) dX6_isByte_16

set_option maxRecDepth 100000 in
set_option maxHeartbeats 4000000 in
theorem c_X6_isState (l : Launch) (G : zGt) (x : Int) (hx : -2147483648 ≤ x ∧ x < 2147483648) : Met l yX6_isState (Cond.code yX6_isState cX6_isState 1 (some .boolean) :: tb) ({ frames := 0, cells := 0, slots := 0, locals := 0 } : Room) (zPr G [] [vI x]) (vp_Si (fun r => r = iI (if 0 ≤ x ∧ x < 16 then 1 else 0))) 0 0 (fun _ => False) := by
  refine Met.ofW (cc := cX6_isState) (maxL := 1) (ret := (some .boolean)) (by decide) rfl ?_
  intro p e s m args below meth c s₁ B hml hv
  obtain ⟨rfl, hP, hK⟩ := hv
  obtain ⟨hC, hr, hlk⟩ := z_begin B hml
  have hC : CallFix p m c cX6_isState 1 s _ tb RX6 := hC
  have hx := hC.1
  have hb := hC.2.1
  have hl := lv_entry ([vI x]) (n := 1) (Nat.le_of_ble_eq_true rfl)
  rw [lg_entry_eq]
  generalize (lg_sl ([vI x]) ++ List.replicate (1 - (lg_sl ([vI x])).length) Slot.unset).toArray = ls at hl ⊢
  have hl : lv_has ls 1 [(0, vI x)] := hl
  refine lv_iload_n hx hb dX6_isState_0 rfl (lv_at hl 0 rfl) ?_
  refine z_if_lt (tgt := 14) hx hb dX6_isState_1 (by decide) (by omega) (fun c_1 => ?_) (fun c_1 => ?_)
  · refine lv_iconst (v := iI 0) hx hb dX6_isState_14 rfl ?_
    exact z_bretR hC hr hlk (by split <;> omega) (by omega) dX6_isState_15
  · refine lv_iload_n hx hb dX6_isState_4 rfl (lv_at hl 0 rfl) ?_
    refine lv_bipush (v := iI 16) hx hb dX6_isState_5 (by decide) ?_
    refine z_icmp_ge (tgt := 14) hx hb dX6_isState_7 (by decide) (by omega) (fun c_7 => ?_) (fun c_7 => ?_)
    · refine lv_iconst (v := iI 0) hx hb dX6_isState_14 rfl ?_
      exact z_bretR hC hr hlk (by split <;> omega) (by omega) dX6_isState_15
    · refine lv_iconst (v := iI 1) hx hb dX6_isState_10 rfl ?_
      refine lv_goto (tgt := 15) hx hb dX6_isState_11 (by decide) ?_
      exact z_bretR hC hr hlk (by split <;> omega) (by omega) dX6_isState_15

set_option maxRecDepth 100000 in
set_option maxHeartbeats 4000000 in
theorem c_X6_byteOf (l : Launch) (G : zGt) (v : Int64) (k : Int)  : Met l yX6_byteOf (Cond.code yX6_byteOf cX6_byteOf 3 (some .int) :: tb) ({ frames := 0, cells := 0, slots := 0, locals := 0 } : Room) (zPr G [] [.long v, vI k]) (vp_Si (fun r => r = iI (zand (zl2i (zlushr v (8 * (7 - k)))) 255))) 0 0 (fun _ => False) := by
  refine Met.ofW (cc := cX6_byteOf) (maxL := 3) (ret := (some .int)) (by decide) rfl ?_
  intro p e s m args below meth c s₁ B hml hv
  obtain ⟨rfl, hP, hK⟩ := hv
  obtain ⟨hC, hr, hlk⟩ := z_begin B hml
  have hC : CallFix p m c cX6_byteOf 3 s _ tb RX6 := hC
  have hx := hC.1
  have hb := hC.2.1
  have hl := lv_entry ([.long v, vI k]) (n := 3) (Nat.le_of_ble_eq_true rfl)
  rw [lg_entry_eq]
  generalize (lg_sl ([.long v, vI k]) ++ List.replicate (3 - (lg_sl ([.long v, vI k])).length) Slot.unset).toArray = ls at hl ⊢
  have hl : lv_has ls 3 [(0, .long v), (2, vI k)] := hl
  refine lv_lload_n hx hb dX6_byteOf_0 rfl (lv_at hl 0 rfl) ?_
  refine lv_bipush (v := iI 8) hx hb dX6_byteOf_1 (by decide) ?_
  refine lv_bipush (v := iI 7) hx hb dX6_byteOf_3 (by decide) ?_
  refine lv_iload_n hx hb dX6_byteOf_5 rfl (lv_at hl 1 rfl) ?_
  refine z_isub hx hb dX6_byteOf_6 ?_
  refine z_imul hx hb dX6_byteOf_7 ?_
  refine lv_lushr (v := zlushr v (8 * (7 - k))) hx hb dX6_byteOf_8 rfl ?_
  refine z_l2i hx hb dX6_byteOf_9 ?_
  refine lv_sipush (v := iI 255) hx hb dX6_byteOf_10 (by decide) ?_
  refine z_iand hx hb dX6_byteOf_13 ?_
  exact z_iretR hC hr hlk (rfl) dX6_byteOf_14

set_option maxRecDepth 100000 in
set_option maxHeartbeats 4000000 in
theorem c_X6_isZeroBehind (l : Launch) (G : zGt) (v : Int64) (k : Int)  : Met l yX6_isZeroBehind (Cond.code yX6_isZeroBehind cX6_isZeroBehind 3 (some .boolean) :: tb) ({ frames := 0, cells := 0, slots := 0, locals := 0 } : Room) (zPr G [] [.long v, vI k]) (vp_Si (fun r => r = iI (if zlshl (zlshl v (8 * k)) 8 = 0 then 1 else 0))) 0 0 (fun _ => False) := by
  refine Met.ofW (cc := cX6_isZeroBehind) (maxL := 3) (ret := (some .boolean)) (by decide) rfl ?_
  intro p e s m args below meth c s₁ B hml hv
  obtain ⟨rfl, hP, hK⟩ := hv
  obtain ⟨hC, hr, hlk⟩ := z_begin B hml
  have hC : CallFix p m c cX6_isZeroBehind 3 s _ tb RX6 := hC
  have hx := hC.1
  have hb := hC.2.1
  have hl := lv_entry ([.long v, vI k]) (n := 3) (Nat.le_of_ble_eq_true rfl)
  rw [lg_entry_eq]
  generalize (lg_sl ([.long v, vI k]) ++ List.replicate (3 - (lg_sl ([.long v, vI k])).length) Slot.unset).toArray = ls at hl ⊢
  have hl : lv_has ls 3 [(0, .long v), (2, vI k)] := hl
  refine lv_lload_n hx hb dX6_isZeroBehind_0 rfl (lv_at hl 0 rfl) ?_
  refine lv_bipush (v := iI 8) hx hb dX6_isZeroBehind_1 (by decide) ?_
  refine lv_iload_n hx hb dX6_isZeroBehind_3 rfl (lv_at hl 1 rfl) ?_
  refine z_imul hx hb dX6_isZeroBehind_4 ?_
  refine lv_lshl (v := zlshl v (8 * k)) hx hb dX6_isZeroBehind_5 rfl ?_
  refine lv_bipush (v := iI 8) hx hb dX6_isZeroBehind_6 (by decide) ?_
  refine lv_lshl (v := zlshl (zlshl v (8 * k)) 8) hx hb dX6_isZeroBehind_8 rfl ?_
  refine lv_lconst (v := 0) hx hb dX6_isZeroBehind_9 rfl ?_
  refine z_lcmp hx hb dX6_isZeroBehind_10 (fun lc_1 hlc_1 elc_1 => ?_)
  refine z_if_ne (tgt := 18) hx hb dX6_isZeroBehind_11 (by decide) (by omega) (fun c_11 => ?_) (fun c_11 => ?_)
  · refine lv_iconst (v := iI 0) hx hb dX6_isZeroBehind_18 rfl ?_
    exact z_bretR hC hr hlk (by first | rw [if_pos (elc_1.mp c_11)] | rw [if_neg (fun q => c_11 (elc_1.mpr q))]) (by omega) dX6_isZeroBehind_19
  · refine lv_iconst (v := iI 1) hx hb dX6_isZeroBehind_14 rfl ?_
    refine lv_goto (tgt := 19) hx hb dX6_isZeroBehind_15 (by decide) ?_
    exact z_bretR hC hr hlk (by first | rw [if_pos (elc_1.mp c_11)] | rw [if_neg (fun q => c_11 (elc_1.mpr q))]) (by omega) dX6_isZeroBehind_19

set_option maxRecDepth 100000 in
set_option maxHeartbeats 4000000 in
theorem c_X6_blocksOf (l : Launch) (G : zGt) (k : Int)  : Met l yX6_blocksOf (Cond.code yX6_blocksOf cX6_blocksOf 1 (some .int) :: tb) ({ frames := 0, cells := 0, slots := 0, locals := 0 } : Room) (zPr G [] [vI k]) (vp_Si (fun r => r = iI (zdiv (3 + k) 8 + 1))) 0 0 (fun _ => False) := by
  refine Met.ofW (cc := cX6_blocksOf) (maxL := 1) (ret := (some .int)) (by decide) rfl ?_
  intro p e s m args below meth c s₁ B hml hv
  obtain ⟨rfl, hP, hK⟩ := hv
  obtain ⟨hC, hr, hlk⟩ := z_begin B hml
  have hC : CallFix p m c cX6_blocksOf 1 s _ tb RX6 := hC
  have hx := hC.1
  have hb := hC.2.1
  have hl := lv_entry ([vI k]) (n := 1) (Nat.le_of_ble_eq_true rfl)
  rw [lg_entry_eq]
  generalize (lg_sl ([vI k]) ++ List.replicate (1 - (lg_sl ([vI k])).length) Slot.unset).toArray = ls at hl ⊢
  have hl : lv_has ls 1 [(0, vI k)] := hl
  refine lv_iconst (v := iI 3) hx hb dX6_blocksOf_0 rfl ?_
  refine lv_iload_n hx hb dX6_blocksOf_1 rfl (lv_at hl 0 rfl) ?_
  refine z_iadd hx hb dX6_blocksOf_2 ?_
  refine lv_bipush (v := iI 8) hx hb dX6_blocksOf_3 (by decide) ?_
  refine z_idiv hx hb dX6_blocksOf_5 (by omega) ?_
  refine lv_iconst (v := iI 1) hx hb dX6_blocksOf_6 rfl ?_
  refine z_iadd hx hb dX6_blocksOf_7 ?_
  exact z_iretR hC hr hlk (rfl) dX6_blocksOf_8

set_option maxRecDepth 100000 in
set_option maxHeartbeats 4000000 in
theorem c_X1_size (l : Launch) (G : zGt) (h0 h1 : Nat) (n : Int) (f : Int → Int64)  : Met l yX1_size (Cond.code yX1_size cX1_size 1 (some .int) :: tb) ({ frames := 0, cells := 0, slots := 0, locals := 0 } : Room) (zPr G [(h0, ob 1 [.ref h1, vI n]), (h1, aJ G 24 f)] [.ref h0]) (vp_Si (fun r => r = iI n)) 0 0 (fun _ => False) := by
  refine Met.ofW (cc := cX1_size) (maxL := 1) (ret := (some .int)) (by decide) rfl ?_
  intro p e s m args below meth c s₁ B hml hv
  obtain ⟨rfl, hP, hK⟩ := hv
  obtain ⟨hC, hr, hlk⟩ := z_begin B hml
  have hC : CallFix p m c cX1_size 1 s _ tb RX1 := hC
  have hx := hC.1
  have hb := hC.2.1
  have hl := lv_entry ([.ref h0]) (n := 1) (Nat.le_of_ble_eq_true rfl)
  rw [lg_entry_eq]
  generalize (lg_sl ([.ref h0]) ++ List.replicate (1 - (lg_sl ([.ref h0])).length) Slot.unset).toArray = ls at hl ⊢
  have hl : lv_has ls 1 [(0, .ref h0)] := hl
  refine lv_aload_n hx hb dX1_size_0 rfl (lv_at hl 0 rfl) ?_
  refine z_get (v := vI n) hC hK hP inX1 rfl 0 rfl 1 (by decide) tw_70 rfl dX1_size_1 ?_
  exact z_iretR hC hr hlk (rfl) dX1_size_4

set_option maxRecDepth 100000 in
set_option maxHeartbeats 4000000 in
theorem c_X1_allOf (l : Launch) (G : zGt) (h0 h1 : Nat) (n : Int) (f : Int → Int64) (k : Int) (hn : 0 ≤ n ∧ n ≤ 24) (hk : -2147483648 ≤ k ∧ k < 2147483648) : Met l yX1_allOf (Cond.code yX1_allOf cX1_allOf 2 (some .long) :: tb) ({ frames := 0, cells := 0, slots := 0, locals := 0 } : Room) (zPr G [(h0, ob 1 [.ref h1, vI n]), (h1, aJ G 24 f)] [.ref h0, vI k]) (vp_Sl (fun r => r = if 0 ≤ k ∧ k < n then f k else 0)) 0 0 (fun _ => False) := by
  refine Met.ofW (cc := cX1_allOf) (maxL := 2) (ret := (some .long)) (by decide) rfl ?_
  intro p e s m args below meth c s₁ B hml hv
  obtain ⟨rfl, hP, hK⟩ := hv
  obtain ⟨hC, hr, hlk⟩ := z_begin B hml
  have hC : CallFix p m c cX1_allOf 2 s _ tb RX1 := hC
  have hx := hC.1
  have hb := hC.2.1
  have hl := lv_entry ([.ref h0, vI k]) (n := 2) (Nat.le_of_ble_eq_true rfl)
  rw [lg_entry_eq]
  generalize (lg_sl ([.ref h0, vI k]) ++ List.replicate (2 - (lg_sl ([.ref h0, vI k])).length) Slot.unset).toArray = ls at hl ⊢
  have hl : lv_has ls 2 [(0, .ref h0), (1, vI k)] := hl
  refine lv_iload_n hx hb dX1_allOf_0 rfl (lv_at hl 1 rfl) ?_
  refine z_if_lt (tgt := 21) hx hb dX1_allOf_1 (by decide) (by omega) (fun c_1 => ?_) (fun c_1 => ?_)
  · refine lv_lconst (v := 0) hx hb dX1_allOf_21 rfl ?_
    exact z_lretR hC hr hlk (by split <;> first | rfl | (exfalso; omega)) dX1_allOf_22
  · refine lv_iload_n hx hb dX1_allOf_4 rfl (lv_at hl 1 rfl) ?_
    refine lv_aload_n hx hb dX1_allOf_5 rfl (lv_at hl 0 rfl) ?_
    refine z_get (v := vI n) hC hK hP inX1 rfl 0 rfl 1 (by decide) tw_70 rfl dX1_allOf_6 ?_
    refine z_icmp_ge (tgt := 21) hx hb dX1_allOf_9 (by decide) (by omega) (fun c_9 => ?_) (fun c_9 => ?_)
    · refine lv_lconst (v := 0) hx hb dX1_allOf_21 rfl ?_
      exact z_lretR hC hr hlk (by split <;> first | rfl | (exfalso; omega)) dX1_allOf_22
    · refine lv_aload_n hx hb dX1_allOf_12 rfl (lv_at hl 0 rfl) ?_
      refine z_get (v := .ref h1) hC hK hP inX1 rfl 0 rfl 0 (by decide) tw_69 rfl dX1_allOf_13 ?_
      refine lv_iload_n hx hb dX1_allOf_16 rfl (lv_at hl 1 rfl) ?_
      refine z_lald hC hK hP 1 rfl (by omega) (by decide) dX1_allOf_17 ?_
      refine lv_goto (tgt := 22) hx hb dX1_allOf_18 (by decide) ?_
      exact z_lretR hC hr hlk (by split <;> first | rfl | (exfalso; omega)) dX1_allOf_22

set_option maxRecDepth 100000 in
set_option maxHeartbeats 4000000 in
theorem c_X1_add (l : Launch) (G : zGt) (sz : Nat) (h0 h1 : Nat) (n : Int) (f : Int → Int64) (v : Int64) (hn : 0 ≤ n ∧ n ≤ 24) : Met l yX1_add (Cond.code yX1_add cX1_add 3 (some .int) :: tb) ({ frames := 0, cells := 0, slots := 0, locals := 0 } : Room) (zPw G [(h0, ob 1 [.ref h1, vI n]), (h1, aJ G 24 f)] sz [.ref h0, .long v]) (va_Qi (fun (r : Int32) (u : Int × Int × (Int → Int64)) => r = iI u.1 ∧ (n < 24 → u.1 = n ∧ u.2.1 = n + 1 ∧ u.2.2 = zup f n v) ∧ (24 ≤ n → u.1 = -1 ∧ u.2.1 = n ∧ u.2.2 = f)) (fun (u : Int × Int × (Int → Int64)) t => zB G [(h0, ob 1 [.ref h1, vI n]), (h1, aJ G 24 f)] sz [(h0, ob 1 [.ref h1, vI u.2.1]), (h1, aJ G 24 u.2.2)] t) (va_A [(h0, ob 1 [.ref h1, vI n]), (h1, aJ G 24 f)] sz)) 0 0 (va_A [(h0, ob 1 [.ref h1, vI n]), (h1, aJ G 24 f)] sz) := by
  refine Met.ofW (cc := cX1_add) (maxL := 3) (ret := (some .int)) (by decide) rfl ?_
  intro p e s m args below meth c s₁ B hml hv
  obtain ⟨rfl, hsz, hP, hK, hD0⟩ := hv
  subst hsz
  have hD := hD0.self (sz := s.heap.size)
  obtain ⟨A, hAe⟩ : ∃ A : Nat → Prop, A = va_A [(h0, ob 1 [.ref h1, vI n]), (h1, aJ G 24 f)] s.heap.size := ⟨_, rfl⟩
  rw [← hAe] at hD
  have hA : ∀ q : Nat, s.heap.size ≤ q → A q := fun q h => by rw [hAe]; exact Or.inr h
  have hS : va_S A s.heap s.heap [] := va_S.rf
  obtain ⟨hC, hr, hlk⟩ := z_begin B hml
  have hC : CallFix p m c cX1_add 3 s _ tb RX1 := hC
  have hx := hC.1
  have hb := hC.2.1
  have hl := lv_entry ([.ref h0, .long v]) (n := 3) (Nat.le_of_ble_eq_true rfl)
  rw [lg_entry_eq]
  generalize (lg_sl ([.ref h0, .long v]) ++ List.replicate (3 - (lg_sl ([.ref h0, .long v])).length) Slot.unset).toArray = ls at hl ⊢
  have hl : lv_has ls 3 [(0, .ref h0), (1, .long v)] := hl
  obtain ⟨H, hHe⟩ : ∃ H : Heap, H = s.heap := ⟨_, rfl⟩
  obtain ⟨locs, hLe⟩ : ∃ L : List Loc, L = [] := ⟨_, rfl⟩
  suffices hgo : W p l e (headSpec (Cond.code yX1_add cX1_add 3 (some .int) :: tb) ({ frames := 0, cells := 0, slots := 0, locals := 0 } : Room)).room s m ([.ref h0, .long v] : List Value).toArray below meth c H locs 0 0 (MQ below (va_Qi (fun (r : Int32) (u : Int × Int × (Int → Int64)) => r = iI u.1 ∧ (n < 24 → u.1 = n ∧ u.2.1 = n + 1 ∧ u.2.2 = zup f n v) ∧ (24 ≤ n → u.1 = -1 ∧ u.2.1 = n ∧ u.2.2 = f)) (fun (u : Int × Int × (Int → Int64)) t => zB G [(h0, ob 1 [.ref h1, vI n]), (h1, aJ G 24 f)] s.heap.size [(h0, ob 1 [.ref h1, vI u.2.1]), (h1, aJ G 24 u.2.2)] t) (va_A [(h0, ob 1 [.ref h1, vI n]), (h1, aJ G 24 f)] s.heap.size)) ([.ref h0, .long v] : List Value).toArray s 0 0 (va_A [(h0, ob 1 [.ref h1, vI n]), (h1, aJ G 24 f)] s.heap.size)) (F0 m 0 ls []) by rw [hHe, hLe] at hgo; exact hgo
  rw [← hHe] at hP
  have hS : va_S A s.heap H locs := by rw [hHe, hLe]; exact hS
  clear hHe hLe
  refine lv_aload_n hx hb dX1_add_0 rfl (lv_at hl 0 rfl) ?_
  refine z_get (v := vI n) hC hK hP inX1 rfl 0 rfl 1 (by decide) tw_70 rfl dX1_add_1 ?_
  refine lv_bipush (v := iI 24) hx hb dX1_add_4 (by decide) ?_
  refine z_icmp_lt (tgt := 11) hx hb dX1_add_6 (by decide) (by omega) (fun c_6 => ?_) (fun c_6 => ?_)
  · refine lv_aload_n hx hb dX1_add_11 rfl (lv_at hl 0 rfl) ?_
    refine z_get (v := .ref h1) hC hK hP inX1 rfl 0 rfl 0 (by decide) tw_69 rfl dX1_add_12 ?_
    refine lv_aload_n hx hb dX1_add_15 rfl (lv_at hl 0 rfl) ?_
    refine z_get (v := vI n) hC hK hP inX1 rfl 0 rfl 1 (by decide) tw_70 rfl dX1_add_16 ?_
    refine lv_lload_n hx hb dX1_add_19 rfl (lv_at hl 1 rfl) ?_
    refine z_last (ws' := [(h0, ob 1 [.ref h1, vI n]), (h1, aJ G 24 (zup f n v))]) hC hK hP hD hS 1 rfl (by omega) (by decide) rfl dX1_add_20 (fun H locs hP hD hS => ?_)
    refine lv_aload_n hx hb dX1_add_21 rfl (lv_at hl 0 rfl) ?_
    refine lv_dup hx hb dX1_add_22 rfl ?_
    refine z_get (v := vI n) hC hK hP inX1 rfl 0 rfl 1 (by decide) tw_70 rfl dX1_add_23 ?_
    refine lv_iconst (v := iI 1) hx hb dX1_add_26 rfl ?_
    refine z_iadd hx hb dX1_add_27 ?_
    refine z_put (ws' := [(h0, ob 1 [.ref h1, vI (n + 1)]), (h1, aJ G 24 (zup f n v))]) hC hK hP hD hS inX1 tyX1 tyX1_ok nmX1 rfl 0 rfl 1 (by decide) tw_70 rfl rfl rfl (Nat.le_of_ble_eq_true rfl) rfl dX1_add_28 (fun H locs hP hD hS => ?_)
    refine lv_aload_n hx hb dX1_add_31 rfl (lv_at hl 0 rfl) ?_
    refine z_get (v := vI (n + 1)) hC hK hP inX1 rfl 0 rfl 1 (by decide) tw_70 rfl dX1_add_32 ?_
    refine lv_iconst (v := iI 1) hx hb dX1_add_35 rfl ?_
    refine z_isub hx hb dX1_add_36 ?_
    exact z_iretW hC hr hlk ⟨(n + 1) - 1, n + 1, zup f n v⟩ hAe hP hD hS [0, 1] (by decide) rfl rfl (⟨rfl, by refine ⟨fun h => ?_, fun h => ?_⟩ <;> first | (exfalso; omega) | exact ⟨by omega, rfl, rfl⟩⟩) dX1_add_37
  · refine lv_iconst (v := iI (-1)) hx hb dX1_add_9 rfl ?_
    exact z_iretW hC hr hlk ⟨-1, n, f⟩ hAe hP hD hS [0, 1] (by decide) rfl rfl (⟨rfl, by refine ⟨fun h => ?_, fun h => ?_⟩ <;> first | (exfalso; omega) | exact ⟨by omega, rfl, rfl⟩⟩) dX1_add_10

set_option maxRecDepth 100000 in
set_option maxHeartbeats 4000000 in
theorem c_X1_exchange (l : Launch) (G : zGt) (sz : Nat) (h0 h1 : Nat) (n : Int) (f : Int → Int64) (k : Int) (v : Int64) (hn : 0 ≤ n ∧ n ≤ 24) (hk : 0 ≤ k ∧ k < n) : Met l yX1_exchange (Cond.code yX1_exchange cX1_exchange 6 (some .long) :: tb) ({ frames := 1, cells := 0, slots := 0, locals := 21 } : Room) (zPw G [(h0, ob 1 [.ref h1, vI n]), (h1, aJ G 24 f)] sz [.ref h0, vI k, .long v]) (va_Ql (fun (r : Int64) (u : Unit) => r = (f k) ∧ True) (fun (u : Unit) t => zB G [(h0, ob 1 [.ref h1, vI n]), (h1, aJ G 24 f)] sz [(h0, ob 1 [.ref h1, vI n]), (h1, aJ G 24 (zup f k v))] t) (va_A [(h0, ob 1 [.ref h1, vI n]), (h1, aJ G 24 f)] sz)) 0 0 (va_A [(h0, ob 1 [.ref h1, vI n]), (h1, aJ G 24 f)] sz) := by
  refine Met.ofW (cc := cX1_exchange) (maxL := 6) (ret := (some .long)) (by decide) rfl ?_
  intro p e s m args below meth c s₁ B hml hv
  obtain ⟨rfl, hsz, hP, hK, hD0⟩ := hv
  subst hsz
  have hD := hD0.self (sz := s.heap.size)
  obtain ⟨A, hAe⟩ : ∃ A : Nat → Prop, A = va_A [(h0, ob 1 [.ref h1, vI n]), (h1, aJ G 24 f)] s.heap.size := ⟨_, rfl⟩
  rw [← hAe] at hD
  have hA : ∀ q : Nat, s.heap.size ≤ q → A q := fun q h => by rw [hAe]; exact Or.inr h
  have hS : va_S A s.heap s.heap [] := va_S.rf
  obtain ⟨hC, hr, hlk⟩ := z_begin B hml
  have hC : CallFix p m c cX1_exchange 6 s _ tb RX1 := hC
  have hx := hC.1
  have hb := hC.2.1
  have hl := lv_entry ([.ref h0, vI k, .long v]) (n := 6) (Nat.le_of_ble_eq_true rfl)
  rw [lg_entry_eq]
  generalize (lg_sl ([.ref h0, vI k, .long v]) ++ List.replicate (6 - (lg_sl ([.ref h0, vI k, .long v])).length) Slot.unset).toArray = ls at hl ⊢
  have hl : lv_has ls 6 [(0, .ref h0), (1, vI k), (2, .long v)] := hl
  obtain ⟨H, hHe⟩ : ∃ H : Heap, H = s.heap := ⟨_, rfl⟩
  obtain ⟨locs, hLe⟩ : ∃ L : List Loc, L = [] := ⟨_, rfl⟩
  suffices hgo : W p l e (headSpec (Cond.code yX1_exchange cX1_exchange 6 (some .long) :: tb) ({ frames := 1, cells := 0, slots := 0, locals := 21 } : Room)).room s m ([.ref h0, vI k, .long v] : List Value).toArray below meth c H locs 0 0 (MQ below (va_Ql (fun (r : Int64) (u : Unit) => r = (f k) ∧ True) (fun (u : Unit) t => zB G [(h0, ob 1 [.ref h1, vI n]), (h1, aJ G 24 f)] s.heap.size [(h0, ob 1 [.ref h1, vI n]), (h1, aJ G 24 (zup f k v))] t) (va_A [(h0, ob 1 [.ref h1, vI n]), (h1, aJ G 24 f)] s.heap.size)) ([.ref h0, vI k, .long v] : List Value).toArray s 0 0 (va_A [(h0, ob 1 [.ref h1, vI n]), (h1, aJ G 24 f)] s.heap.size)) (F0 m 0 ls []) by rw [hHe, hLe] at hgo; exact hgo
  rw [← hHe] at hP
  have hS : va_S A s.heap H locs := by rw [hHe, hLe]; exact hS
  clear hHe hLe
  refine lv_aload_n hx hb dX1_exchange_0 rfl (lv_at hl 0 rfl) ?_
  refine lv_iload_n hx hb dX1_exchange_1 rfl (lv_at hl 1 rfl) ?_
  refine z_rVl (q0 := 0) (ci := 1) (b := h0) (rest := []) hC hK hP (c_X1_allOf l G h0 h1 n f k (by omega) (by omega)) mv_X1_allOf tw_654 [0, 1] rfl rfl rfl rfl hl.1 rfl (Nat.le_of_ble_eq_true rfl) ⟨rfl, rfl, Nat.le_of_ble_eq_true rfl, Nat.le_of_ble_eq_true rfl⟩ ⟨Nat.le_of_ble_eq_true rfl, Nat.le_of_ble_eq_true rfl⟩ dX1_exchange_2 ?_
  refine lv_lstore (lv' := [(4, .long (if 0 ≤ k ∧ k < n then f k else 0)), (0, .ref h0), (1, vI k), (2, .long v)]) hx hb dX1_exchange_5 hl (by decide) rfl (fun ls hl => ?_)
  refine lv_iload_n hx hb dX1_exchange_7 rfl (lv_at hl 2 rfl) ?_
  refine z_if_lt (tgt := 26) hx hb dX1_exchange_8 (by decide) (by omega) (fun c_8 => ?_) (fun c_8 => ?_)
  · exfalso; omega
  · refine lv_iload_n hx hb dX1_exchange_11 rfl (lv_at hl 2 rfl) ?_
    refine lv_aload_n hx hb dX1_exchange_12 rfl (lv_at hl 1 rfl) ?_
    refine z_get (v := vI n) hC hK hP inX1 rfl 0 rfl 1 (by decide) tw_70 rfl dX1_exchange_13 ?_
    refine z_icmp_ge (tgt := 26) hx hb dX1_exchange_16 (by decide) (by omega) (fun c_16 => ?_) (fun c_16 => ?_)
    · exfalso; omega
    · refine lv_aload_n hx hb dX1_exchange_19 rfl (lv_at hl 1 rfl) ?_
      refine z_get (v := .ref h1) hC hK hP inX1 rfl 0 rfl 0 (by decide) tw_69 rfl dX1_exchange_20 ?_
      refine lv_iload_n hx hb dX1_exchange_23 rfl (lv_at hl 2 rfl) ?_
      refine lv_lload_n hx hb dX1_exchange_24 rfl (lv_at hl 3 rfl) ?_
      refine z_last (ws' := [(h0, ob 1 [.ref h1, vI n]), (h1, aJ G 24 (zup f k v))]) hC hK hP hD hS 1 rfl (by omega) (by decide) rfl dX1_exchange_25 (fun H locs hP hD hS => ?_)
      refine lv_lload hx hb dX1_exchange_26 (lv_at hl 0 rfl) ?_
      exact z_lretW hC hr hlk () hAe hP hD hS [0, 1] (by decide) rfl rfl (⟨by rw [if_pos (by omega)], trivial⟩) dX1_exchange_28

set_option maxRecDepth 100000 in
set_option maxHeartbeats 4000000 in
theorem c_X1_byteAt (l : Launch) (G : zGt) (h0 h1 : Nat) (n : Int) (f : Int → Int64) (k j : Int) (hn : 0 ≤ n ∧ n ≤ 24) (hk : -2147483648 ≤ k ∧ k < 2147483648) : Met l yX1_byteAt (Cond.code yX1_byteAt cX1_byteAt 3 (some .int) :: tb) ({ frames := 1, cells := 0, slots := 0, locals := 22 } : Room) (zPr G [(h0, ob 1 [.ref h1, vI n]), (h1, aJ G 24 f)] [.ref h0, vI k, vI j]) (vp_Si (fun r => r = iI (zand (zl2i (zlushr (if 0 ≤ k ∧ k < n then f k else 0) (8 * (7 - j)))) 255))) 0 0 (fun _ => False) := by
  refine Met.ofW (cc := cX1_byteAt) (maxL := 3) (ret := (some .int)) (by decide) rfl ?_
  intro p e s m args below meth c s₁ B hml hv
  obtain ⟨rfl, hP, hK⟩ := hv
  obtain ⟨hC, hr, hlk⟩ := z_begin B hml
  have hC : CallFix p m c cX1_byteAt 3 s _ tb RX1 := hC
  have hx := hC.1
  have hb := hC.2.1
  have hl := lv_entry ([.ref h0, vI k, vI j]) (n := 3) (Nat.le_of_ble_eq_true rfl)
  rw [lg_entry_eq]
  generalize (lg_sl ([.ref h0, vI k, vI j]) ++ List.replicate (3 - (lg_sl ([.ref h0, vI k, vI j])).length) Slot.unset).toArray = ls at hl ⊢
  have hl : lv_has ls 3 [(0, .ref h0), (1, vI k), (2, vI j)] := hl
  refine lv_aload_n hx hb dX1_byteAt_0 rfl (lv_at hl 0 rfl) ?_
  refine lv_iload_n hx hb dX1_byteAt_1 rfl (lv_at hl 1 rfl) ?_
  refine z_rVl (q0 := 0) (ci := 1) (b := h0) (rest := []) hC hK hP (c_X1_allOf l G h0 h1 n f k (by omega) (by omega)) mv_X1_allOf tw_654 [0, 1] rfl rfl rfl rfl hl.1 rfl (Nat.le_of_ble_eq_true rfl) ⟨rfl, rfl, Nat.le_of_ble_eq_true rfl, Nat.le_of_ble_eq_true rfl⟩ ⟨Nat.le_of_ble_eq_true rfl, Nat.le_of_ble_eq_true rfl⟩ dX1_byteAt_2 ?_
  refine lv_iload_n hx hb dX1_byteAt_5 rfl (lv_at hl 2 rfl) ?_
  refine z_rNi (rest := []) hC hK hP (c_X6_byteOf l G (if 0 ≤ k ∧ k < n then f k else 0) j) ms_X6_byteOf hK.2.2.2 [] rfl rfl hl.1 rfl (Nat.le_of_ble_eq_true rfl) ⟨rfl, rfl, Nat.le_of_ble_eq_true rfl, Nat.le_of_ble_eq_true rfl⟩ ⟨Nat.le_of_ble_eq_true rfl, Nat.le_of_ble_eq_true rfl⟩ dX1_byteAt_6 ?_
  exact z_iretR hC hr hlk (rfl) dX1_byteAt_9
