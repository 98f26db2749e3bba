/-- keys from place a on moved up by one; the key put in at p -/
def shZ (K : Int → Int) (n a : Int) : Int → Int := fun j => if a < j ∧ j ≤ n then K (j - 1) else K j
def insZ (K : Int → Int) (n p key : Int) : Int → Int := fun j => if p < j ∧ j ≤ n then K (j - 1) else if j = p then key else K j
theorem shZ_0 (K : Int → Int) (n : Int) : shZ K n n = K := by
  funext j
  exact if_neg (by omega)
theorem shZ_lo (K : Int → Int) {n a j : Int} (h : j ≤ a) : shZ K n a j = K j := if_neg (by omega)
theorem shZ_s (K : Int → Int) {n a : Int} (h : a ≤ n) : zup (shZ K n a) a (shZ K n a (a - 1)) = shZ K n (a - 1) := by
  funext j
  rw [shZ_lo K (by omega)]
  by_cases q : j = a
  · subst q
    rw [zup_s]
    exact (if_pos (by omega)).symm
  · rw [zup_n _ _ q]
    unfold shZ
    by_cases w : a < j ∧ j ≤ n
    · rw [if_pos w, if_pos (by omega)]
    · rw [if_neg w, if_neg (by omega)]
theorem insZ_e (K : Int → Int) {n p key : Int} : zup (shZ K n p) p key = insZ K n p key := by
  funext j
  by_cases q : j = p
  · subst q
    rw [zup_s]
    unfold insZ
    rw [if_neg (by omega), if_pos rfl]
  · rw [zup_n _ _ q]
    unfold insZ shZ
    by_cases w : p < j ∧ j ≤ n
    · rw [if_pos w, if_pos w]
    · rw [if_neg w, if_neg w, if_neg q]
theorem byZ_bd (v : Int64) (j : Int) : 0 ≤ byZ v j ∧ byZ v j < 256 := by
  unfold byZ
  have h := zand_rng (zl2i (zlushr v (8 * (7 - j)))) 255
  have h2 : ∀ x : Int32, 0 ≤ (x &&& 255).toInt ∧ (x &&& 255).toInt < 256 := by
    intro x
    obtain ⟨j, hj, e⟩ := pk_andE x (m := 255) 8 rfl
    rw [e, nI_toInt (by omega)]
    omega
  exact h2 _
theorem ms_J9_abs_0f7a4 : zMS yJ9_abs_0f7a4 cJ9_abs_0f7a4 1 (some .int) 1 := ⟨tw_394, tw_393, tw_50, by decide +kernel⟩
theorem ms_X2_keyOf : zMS yX2_keyOf cX2_keyOf 5 (some .int) 3 := ⟨tw_338, tw_337, tw_38, by decide +kernel⟩
theorem mv_X1_becomeLike : zMV yX1_becomeLike cX1_becomeLike 2 none RX1 1 := ⟨tw_245, tw_243, tw_244, tw_36, by decide +kernel⟩
theorem mv_X1_byteAt : zMV yX1_byteAt cX1_byteAt 3 (some .int) RX1 2 := ⟨tw_746, tw_744, tw_745, tw_36, by decide +kernel⟩
theorem mv_X1_size : zMV yX1_size cX1_size 1 (some .int) RX1 0 := ⟨tw_260, tw_258, tw_259, tw_36, by decide +kernel⟩
theorem mv_X2_blockOf : zMV yX2_blockOf cX2_blockOf 4 (some .int) RX2 2 := ⟨tw_368, tw_366, tw_367, tw_38, by decide +kernel⟩
theorem mv_X2_keyAt : zMV yX2_keyAt cX2_keyAt 2 (some .int) RX2 1 := ⟨tw_372, tw_371, tw_7, tw_38, by decide +kernel⟩
theorem mv_X2_lengthOf : zMV yX2_lengthOf cX2_lengthOf 2 (some .int) RX2 1 := ⟨tw_742, tw_740, tw_741, tw_38, by decide +kernel⟩
theorem mv_X2_sizeOf : zMV yX2_sizeOf cX2_sizeOf 3 (some .int) RX2 1 := ⟨tw_384, tw_382, tw_383, tw_38, by decide +kernel⟩
theorem mv_X2_tellNone : zMV yX2_tellNone cX2_tellNone 1 none RX2 0 := ⟨tw_252, tw_250, tw_251, tw_38, by decide +kernel⟩
set_option maxRecDepth 100000 in
set_option maxHeartbeats 4000000 in
theorem c_X1_becomeLike (l : Launch) (G : zGt) (sz : Nat) (h0 h1 : Nat) (n : Int) (f : Int → Int64) (g0 g1 : Nat) (n2 : Int) (f2 : Int → Int64)  : Met l yX1_becomeLike (Cond.code yX1_becomeLike cX1_becomeLike 2 none :: tb) ({ frames := 1, cells := 0, slots := 0, locals := 18 } : Room) (zPw G [(h0, ob 1 [.ref h1, vI n]), (h1, aJ G 24 f), (g0, ob 1 [.ref g1, vI n2]), (g1, aJ G 24 f2)] sz [.ref h0, .ref g0]) (va_Qv (fun u : Unit => True) (fun (u : Unit) t => zB G [(h0, ob 1 [.ref h1, vI n]), (h1, aJ G 24 f), (g0, ob 1 [.ref g1, vI n2]), (g1, aJ G 24 f2)] sz [(h0, ob 1 [.ref h1, vI n2]), (h1, aJ G 24 (zcpy f2 f 24)), (g0, ob 1 [.ref g1, vI n2]), (g1, aJ G 24 f2)] t) (va_A [(h0, ob 1 [.ref h1, vI n]), (h1, aJ G 24 f), (g0, ob 1 [.ref g1, vI n2]), (g1, aJ G 24 f2)] sz)) 0 0 (va_A [(h0, ob 1 [.ref h1, vI n]), (h1, aJ G 24 f), (g0, ob 1 [.ref g1, vI n2]), (g1, aJ G 24 f2)] sz) := by
  refine Met.ofW (cc := cX1_becomeLike) (maxL := 2) (ret := none) (by decide) rfl ?_
  intro p e s m args below meth c s₁ B hml hv
  obtain ⟨rfl, hsz, hP, hK, hD0⟩ := hv
  subst hsz
  have hD := hD0.self (sz := s.heap.size)
  obtain ⟨A, hAe⟩ : ∃ A : Nat → Prop, A = va_A [(h0, ob 1 [.ref h1, vI n]), (h1, aJ G 24 f), (g0, ob 1 [.ref g1, vI n2]), (g1, aJ G 24 f2)] s.heap.size := ⟨_, rfl⟩
  rw [← hAe] at hD
  have hA : ∀ q : Nat, s.heap.size ≤ q → A q := fun q h => by rw [hAe]; exact Or.inr h
  have hS : va_S A s.heap s.heap [] := va_S.rf
  obtain ⟨hC, hr, hlk⟩ := z_begin B hml
  have hC : CallFix p m c cX1_becomeLike 2 s _ tb RX1 := hC
  have hx := hC.1
  have hb := hC.2.1
  have hl := lv_entry ([.ref h0, .ref g0]) (n := 2) (Nat.le_of_ble_eq_true rfl)
  rw [lg_entry_eq]
  generalize (lg_sl ([.ref h0, .ref g0]) ++ List.replicate (2 - (lg_sl ([.ref h0, .ref g0])).length) Slot.unset).toArray = ls at hl ⊢
  have hl : lv_has ls 2 [(0, .ref h0), (1, .ref g0)] := hl
  obtain ⟨H, hHe⟩ : ∃ H : Heap, H = s.heap := ⟨_, rfl⟩
  obtain ⟨locs, hLe⟩ : ∃ L : List Loc, L = [] := ⟨_, rfl⟩
  suffices hgo : W p l e (headSpec (Cond.code yX1_becomeLike cX1_becomeLike 2 none :: tb) ({ frames := 1, cells := 0, slots := 0, locals := 18 } : Room)).room s m ([.ref h0, .ref g0] : List Value).toArray below meth c H locs 0 0 (MQ below (va_Qv (fun u : Unit => True) (fun (u : Unit) t => zB G [(h0, ob 1 [.ref h1, vI n]), (h1, aJ G 24 f), (g0, ob 1 [.ref g1, vI n2]), (g1, aJ G 24 f2)] s.heap.size [(h0, ob 1 [.ref h1, vI n2]), (h1, aJ G 24 (zcpy f2 f 24)), (g0, ob 1 [.ref g1, vI n2]), (g1, aJ G 24 f2)] t) (va_A [(h0, ob 1 [.ref h1, vI n]), (h1, aJ G 24 f), (g0, ob 1 [.ref g1, vI n2]), (g1, aJ G 24 f2)] s.heap.size)) ([.ref h0, .ref g0] : List Value).toArray s 0 0 (va_A [(h0, ob 1 [.ref h1, vI n]), (h1, aJ G 24 f), (g0, ob 1 [.ref g1, vI n2]), (g1, aJ G 24 f2)] s.heap.size)) (F0 m 0 ls []) by rw [hHe, hLe] at hgo; exact hgo
  rw [← hHe] at hP
  have hS : va_S A s.heap H locs := by rw [hHe, hLe]; exact hS
  clear hHe hLe
  refine lv_aload_n hx hb dX1_becomeLike_0 rfl (lv_at hl 1 rfl) ?_
  refine z_get (v := .ref g1) hC hK hP inX1 rfl 2 rfl 0 (by decide) tw_69 rfl dX1_becomeLike_1 ?_
  refine lv_iconst (v := iI 0) hx hb dX1_becomeLike_4 rfl ?_
  refine lv_aload_n hx hb dX1_becomeLike_5 rfl (lv_at hl 0 rfl) ?_
  refine z_get (v := .ref h1) hC hK hP inX1 rfl 0 rfl 0 (by decide) tw_69 rfl dX1_becomeLike_6 ?_
  refine lv_iconst (v := iI 0) hx hb dX1_becomeLike_9 rfl ?_
  refine lv_bipush (v := iI 24) hx hb dX1_becomeLike_10 (by decide) ?_
  refine z_copyl (rest := []) (ws' := [(h0, ob 1 [.ref h1, vI n]), (h1, aJ G 24 (zcpy f2 f 24)), (g0, ob 1 [.ref g1, vI n2]), (g1, aJ G 24 f2)]) hC hK hP hD hS hl.1 tw_246 tw_247 tw_49 3 1 rfl rfl (by decide) rfl ⟨Nat.le_of_ble_eq_true rfl, Nat.le_of_ble_eq_true rfl⟩ dX1_becomeLike_12 (fun H locs hP hD hS => ?_)
  refine lv_aload_n hx hb dX1_becomeLike_15 rfl (lv_at hl 0 rfl) ?_
  refine lv_aload_n hx hb dX1_becomeLike_16 rfl (lv_at hl 1 rfl) ?_
  refine z_get (v := vI n2) hC hK hP inX1 rfl 2 rfl 1 (by decide) tw_70 rfl dX1_becomeLike_17 ?_
  refine z_put (ws' := [(h0, ob 1 [.ref h1, vI n2]), (h1, aJ G 24 (zcpy f2 f 24)), (g0, ob 1 [.ref g1, vI n2]), (g1, aJ G 24 f2)]) hC hK hP hD hS inX1 tyX1 tyX1_ok nmX1 rfl 0 rfl 1 (by decide) tw_70 rfl rfl rfl (Nat.le_of_ble_eq_true rfl) rfl dX1_becomeLike_20 (fun H locs hP hD hS => ?_)
  exact z_vretW hC hr hlk () hAe hP hD hS [0, 1, 2, 3] (by decide) rfl rfl (trivial) dX1_becomeLike_23

set_option maxRecDepth 100000 in
set_option maxHeartbeats 4000000 in
theorem c_X2_size (l : Launch) (G : zGt) (f0 f1 h0 : Nat) (nf tm : Int) (K : Int → Int)  : Met l yX2_size (Cond.code yX2_size cX2_size 1 (some .int) :: tb) ({ frames := 0, cells := 0, slots := 0, locals := 0 } : Room) (zPr G [(f0, ob 2 [.ref h0, .ref f1, vI nf, vI tm]), (f1, aI G 40 K)] [.ref f0]) (vp_Si (fun r => r = iI nf)) 0 0 (fun _ => False) := by
  refine Met.ofW (cc := cX2_size) (maxL := 1) (ret := (some .int)) (by decide) rfl ?_
  intro p e s m args below meth c s₁ B hml hv
  obtain ⟨rfl, hP, hK⟩ := hv
  obtain ⟨hC, hr, hlk⟩ := z_begin B hml
  have hC : CallFix p m c cX2_size 1 s _ tb RX2 := hC
  have hx := hC.1
  have hb := hC.2.1
  have hl := lv_entry ([.ref f0]) (n := 1) (Nat.le_of_ble_eq_true rfl)
  rw [lg_entry_eq]
  generalize (lg_sl ([.ref f0]) ++ List.replicate (1 - (lg_sl ([.ref f0])).length) Slot.unset).toArray = ls at hl ⊢
  have hl : lv_has ls 1 [(0, .ref f0)] := hl
  refine lv_aload_n hx hb dX2_size_0 rfl (lv_at hl 0 rfl) ?_
  refine z_get (v := vI nf) hC hK hP inX2 rfl 0 rfl 2 (by decide) tw_101 rfl dX2_size_1 ?_
  exact z_iretR hC hr hlk (rfl) dX2_size_4

set_option maxRecDepth 100000 in
set_option maxHeartbeats 4000000 in
theorem c_X2_areTooMany (l : Launch) (G : zGt) (f0 f1 h0 : Nat) (nf tm : Int) (K : Int → Int) (htm : tm = 0 ∨ tm = 1) : Met l yX2_areTooMany (Cond.code yX2_areTooMany cX2_areTooMany 1 (some .boolean) :: tb) ({ frames := 0, cells := 0, slots := 0, locals := 0 } : Room) (zPr G [(f0, ob 2 [.ref h0, .ref f1, vI nf, vI tm]), (f1, aI G 40 K)] [.ref f0]) (vp_Si (fun r => r = iI tm)) 0 0 (fun _ => False) := by
  refine Met.ofW (cc := cX2_areTooMany) (maxL := 1) (ret := (some .boolean)) (by decide) rfl ?_
  intro p e s m args below meth c s₁ B hml hv
  obtain ⟨rfl, hP, hK⟩ := hv
  obtain ⟨hC, hr, hlk⟩ := z_begin B hml
  have hC : CallFix p m c cX2_areTooMany 1 s _ tb RX2 := hC
  have hx := hC.1
  have hb := hC.2.1
  have hl := lv_entry ([.ref f0]) (n := 1) (Nat.le_of_ble_eq_true rfl)
  rw [lg_entry_eq]
  generalize (lg_sl ([.ref f0]) ++ List.replicate (1 - (lg_sl ([.ref f0])).length) Slot.unset).toArray = ls at hl ⊢
  have hl : lv_has ls 1 [(0, .ref f0)] := hl
  refine lv_aload_n hx hb dX2_areTooMany_0 rfl (lv_at hl 0 rfl) ?_
  refine z_get (v := vI tm) hC hK hP inX2 rfl 0 rfl 3 (by decide) tw_102 rfl dX2_areTooMany_1 ?_
  exact z_bretR hC hr hlk (rfl) (htm) dX2_areTooMany_4

set_option maxRecDepth 100000 in
set_option maxHeartbeats 4000000 in
theorem c_X2_tellNone (l : Launch) (G : zGt) (sz : Nat) (f0 f1 h0 : Nat) (nf tm : Int) (K : Int → Int)  : Met l yX2_tellNone (Cond.code yX2_tellNone cX2_tellNone 1 none :: tb) ({ frames := 0, cells := 0, slots := 0, locals := 0 } : Room) (zPw G [(f0, ob 2 [.ref h0, .ref f1, vI nf, vI tm]), (f1, aI G 40 K)] sz [.ref f0]) (va_Qv (fun u : Unit => True) (fun (u : Unit) t => zB G [(f0, ob 2 [.ref h0, .ref f1, vI nf, vI tm]), (f1, aI G 40 K)] sz [(f0, ob 2 [.ref h0, .ref f1, vI 0, vI 0]), (f1, aI G 40 K)] t) (va_A [(f0, ob 2 [.ref h0, .ref f1, vI nf, vI tm]), (f1, aI G 40 K)] sz)) 0 0 (va_A [(f0, ob 2 [.ref h0, .ref f1, vI nf, vI tm]), (f1, aI G 40 K)] sz) := by
  refine Met.ofW (cc := cX2_tellNone) (maxL := 1) (ret := none) (by decide) rfl ?_
  intro p e s m args below meth c s₁ B hml hv
  obtain ⟨rfl, hsz, hP, hK, hD0⟩ := hv
  subst hsz
  have hD := hD0.self (sz := s.heap.size)
  obtain ⟨A, hAe⟩ : ∃ A : Nat → Prop, A = va_A [(f0, ob 2 [.ref h0, .ref f1, vI nf, vI tm]), (f1, aI G 40 K)] s.heap.size := ⟨_, rfl⟩
  rw [← hAe] at hD
  have hA : ∀ q : Nat, s.heap.size ≤ q → A q := fun q h => by rw [hAe]; exact Or.inr h
  have hS : va_S A s.heap s.heap [] := va_S.rf
  obtain ⟨hC, hr, hlk⟩ := z_begin B hml
  have hC : CallFix p m c cX2_tellNone 1 s _ tb RX2 := hC
  have hx := hC.1
  have hb := hC.2.1
  have hl := lv_entry ([.ref f0]) (n := 1) (Nat.le_of_ble_eq_true rfl)
  rw [lg_entry_eq]
  generalize (lg_sl ([.ref f0]) ++ List.replicate (1 - (lg_sl ([.ref f0])).length) Slot.unset).toArray = ls at hl ⊢
  have hl : lv_has ls 1 [(0, .ref f0)] := hl
  obtain ⟨H, hHe⟩ : ∃ H : Heap, H = s.heap := ⟨_, rfl⟩
  obtain ⟨locs, hLe⟩ : ∃ L : List Loc, L = [] := ⟨_, rfl⟩
  suffices hgo : W p l e (headSpec (Cond.code yX2_tellNone cX2_tellNone 1 none :: tb) ({ frames := 0, cells := 0, slots := 0, locals := 0 } : Room)).room s m ([.ref f0] : List Value).toArray below meth c H locs 0 0 (MQ below (va_Qv (fun u : Unit => True) (fun (u : Unit) t => zB G [(f0, ob 2 [.ref h0, .ref f1, vI nf, vI tm]), (f1, aI G 40 K)] s.heap.size [(f0, ob 2 [.ref h0, .ref f1, vI 0, vI 0]), (f1, aI G 40 K)] t) (va_A [(f0, ob 2 [.ref h0, .ref f1, vI nf, vI tm]), (f1, aI G 40 K)] s.heap.size)) ([.ref f0] : List Value).toArray s 0 0 (va_A [(f0, ob 2 [.ref h0, .ref f1, vI nf, vI tm]), (f1, aI G 40 K)] s.heap.size)) (F0 m 0 ls []) by rw [hHe, hLe] at hgo; exact hgo
  rw [← hHe] at hP
  have hS : va_S A s.heap H locs := by rw [hHe, hLe]; exact hS
  clear hHe hLe
  refine lv_aload_n hx hb dX2_tellNone_0 rfl (lv_at hl 0 rfl) ?_
  refine lv_iconst (v := iI 0) hx hb dX2_tellNone_1 rfl ?_
  refine z_put (ws' := [(f0, ob 2 [.ref h0, .ref f1, vI 0, vI tm]), (f1, aI G 40 K)]) hC hK hP hD hS inX2 tyX2 tyX2_ok nmX2 rfl 0 rfl 2 (by decide) tw_101 rfl rfl rfl (Nat.le_of_ble_eq_true rfl) rfl dX2_tellNone_2 (fun H locs hP hD hS => ?_)
  refine lv_aload_n hx hb dX2_tellNone_5 rfl (lv_at hl 0 rfl) ?_
  refine lv_iconst (v := iI 0) hx hb dX2_tellNone_6 rfl ?_
  refine z_put (ws' := [(f0, ob 2 [.ref h0, .ref f1, vI 0, vI 0]), (f1, aI G 40 K)]) hC hK hP hD hS inX2 tyX2 tyX2_ok nmX2 rfl 0 rfl 3 (by decide) tw_102 rfl (by rfl) (by rfl) (Nat.le_of_ble_eq_true rfl) rfl dX2_tellNone_7 (fun H locs hP hD hS => ?_)
  exact z_vretW hC hr hlk () hAe hP hD hS [0, 1] (by decide) rfl rfl (trivial) dX2_tellNone_10

set_option maxRecDepth 100000 in
set_option maxHeartbeats 4000000 in
theorem c_X2_blocksThen (l : Launch) (G : zGt) (f0 f1 h0 : Nat) (nf tm : Int) (K : Int → Int) (h1 : Nat) (n : Int) (f : Int → Int64)  : Met l yX2_blocksThen (Cond.code yX2_blocksThen cX2_blocksThen 1 (some .int) :: tb) ({ frames := 1, cells := 0, slots := 0, locals := 20 } : Room) (zPr G [(f0, ob 2 [.ref h0, .ref f1, vI nf, vI tm]), (f1, aI G 40 K), (h0, ob 1 [.ref h1, vI n]), (h1, aJ G 24 f)] [.ref f0]) (vp_Si (fun r => r = iI n)) 0 0 (fun _ => False) := by
  refine Met.ofW (cc := cX2_blocksThen) (maxL := 1) (ret := (some .int)) (by decide) rfl ?_
  intro p e s m args below meth c s₁ B hml hv
  obtain ⟨rfl, hP, hK⟩ := hv
  obtain ⟨hC, hr, hlk⟩ := z_begin B hml
  have hC : CallFix p m c cX2_blocksThen 1 s _ tb RX2 := hC
  have hx := hC.1
  have hb := hC.2.1
  have hl := lv_entry ([.ref f0]) (n := 1) (Nat.le_of_ble_eq_true rfl)
  rw [lg_entry_eq]
  generalize (lg_sl ([.ref f0]) ++ List.replicate (1 - (lg_sl ([.ref f0])).length) Slot.unset).toArray = ls at hl ⊢
  have hl : lv_has ls 1 [(0, .ref f0)] := hl
  refine lv_aload_n hx hb dX2_blocksThen_0 rfl (lv_at hl 0 rfl) ?_
  refine z_get (v := .ref h0) hC hK hP inX2 rfl 0 rfl 0 (by decide) tw_99 rfl dX2_blocksThen_1 ?_
  refine z_rVi (q0 := 2) (ci := 1) (b := h0) (rest := []) hC hK hP (c_X1_size l G h0 h1 n f) mv_X1_size tw_453 [2, 3] rfl rfl rfl rfl hl.1 rfl (Nat.le_of_ble_eq_true rfl) ⟨rfl, rfl, Nat.le_of_ble_eq_true rfl, Nat.le_of_ble_eq_true rfl⟩ ⟨Nat.le_of_ble_eq_true rfl, Nat.le_of_ble_eq_true rfl⟩ dX2_blocksThen_4 ?_
  exact z_iretR hC hr hlk (rfl) dX2_blocksThen_7

set_option maxRecDepth 100000 in
set_option maxHeartbeats 4000000 in
theorem c_X2_begin (l : Launch) (G : zGt) (sz : Nat) (f0 f1 h0 : Nat) (nf tm : Int) (K : Int → Int) (h1 : Nat) (n : Int) (f : Int → Int64) (g0 g1 : Nat) (n2 : Int) (f2 : Int → Int64)  : Met l yX2_begin (Cond.code yX2_begin cX2_begin 2 none :: tb) ({ frames := 2, cells := 0, slots := 0, locals := 39 } : Room) (zPw G [(f0, ob 2 [.ref h0, .ref f1, vI nf, vI tm]), (f1, aI G 40 K), (h0, ob 1 [.ref h1, vI n]), (h1, aJ G 24 f), (g0, ob 1 [.ref g1, vI n2]), (g1, aJ G 24 f2)] sz [.ref f0, .ref g0]) (va_Qv (fun u : Unit => True) (fun (u : Unit) t => zB G [(f0, ob 2 [.ref h0, .ref f1, vI nf, vI tm]), (f1, aI G 40 K), (h0, ob 1 [.ref h1, vI n]), (h1, aJ G 24 f), (g0, ob 1 [.ref g1, vI n2]), (g1, aJ G 24 f2)] sz [(f0, ob 2 [.ref h0, .ref f1, vI 0, vI 0]), (f1, aI G 40 K), (h0, ob 1 [.ref h1, vI n2]), (h1, aJ G 24 (zcpy f2 f 24)), (g0, ob 1 [.ref g1, vI n2]), (g1, aJ G 24 f2)] t) (va_A [(f0, ob 2 [.ref h0, .ref f1, vI nf, vI tm]), (f1, aI G 40 K), (h0, ob 1 [.ref h1, vI n]), (h1, aJ G 24 f), (g0, ob 1 [.ref g1, vI n2]), (g1, aJ G 24 f2)] sz)) 0 0 (va_A [(f0, ob 2 [.ref h0, .ref f1, vI nf, vI tm]), (f1, aI G 40 K), (h0, ob 1 [.ref h1, vI n]), (h1, aJ G 24 f), (g0, ob 1 [.ref g1, vI n2]), (g1, aJ G 24 f2)] sz) := by
  refine Met.ofW (cc := cX2_begin) (maxL := 2) (ret := none) (by decide) rfl ?_
  intro p e s m args below meth c s₁ B hml hv
  obtain ⟨rfl, hsz, hP, hK, hD0⟩ := hv
  subst hsz
  have hD := hD0.self (sz := s.heap.size)
  obtain ⟨A, hAe⟩ : ∃ A : Nat → Prop, A = va_A [(f0, ob 2 [.ref h0, .ref f1, vI nf, vI tm]), (f1, aI G 40 K), (h0, ob 1 [.ref h1, vI n]), (h1, aJ G 24 f), (g0, ob 1 [.ref g1, vI n2]), (g1, aJ G 24 f2)] s.heap.size := ⟨_, rfl⟩
  rw [← hAe] at hD
  have hA : ∀ q : Nat, s.heap.size ≤ q → A q := fun q h => by rw [hAe]; exact Or.inr h
  have hS : va_S A s.heap s.heap [] := va_S.rf
  obtain ⟨hC, hr, hlk⟩ := z_begin B hml
  have hC : CallFix p m c cX2_begin 2 s _ tb RX2 := hC
  have hx := hC.1
  have hb := hC.2.1
  have hl := lv_entry ([.ref f0, .ref g0]) (n := 2) (Nat.le_of_ble_eq_true rfl)
  rw [lg_entry_eq]
  generalize (lg_sl ([.ref f0, .ref g0]) ++ List.replicate (2 - (lg_sl ([.ref f0, .ref g0])).length) Slot.unset).toArray = ls at hl ⊢
  have hl : lv_has ls 2 [(0, .ref f0), (1, .ref g0)] := hl
  obtain ⟨H, hHe⟩ : ∃ H : Heap, H = s.heap := ⟨_, rfl⟩
  obtain ⟨locs, hLe⟩ : ∃ L : List Loc, L = [] := ⟨_, rfl⟩
  suffices hgo : W p l e (headSpec (Cond.code yX2_begin cX2_begin 2 none :: tb) ({ frames := 2, cells := 0, slots := 0, locals := 39 } : Room)).room s m ([.ref f0, .ref g0] : List Value).toArray below meth c H locs 0 0 (MQ below (va_Qv (fun u : Unit => True) (fun (u : Unit) t => zB G [(f0, ob 2 [.ref h0, .ref f1, vI nf, vI tm]), (f1, aI G 40 K), (h0, ob 1 [.ref h1, vI n]), (h1, aJ G 24 f), (g0, ob 1 [.ref g1, vI n2]), (g1, aJ G 24 f2)] s.heap.size [(f0, ob 2 [.ref h0, .ref f1, vI 0, vI 0]), (f1, aI G 40 K), (h0, ob 1 [.ref h1, vI n2]), (h1, aJ G 24 (zcpy f2 f 24)), (g0, ob 1 [.ref g1, vI n2]), (g1, aJ G 24 f2)] t) (va_A [(f0, ob 2 [.ref h0, .ref f1, vI nf, vI tm]), (f1, aI G 40 K), (h0, ob 1 [.ref h1, vI n]), (h1, aJ G 24 f), (g0, ob 1 [.ref g1, vI n2]), (g1, aJ G 24 f2)] s.heap.size)) ([.ref f0, .ref g0] : List Value).toArray s 0 0 (va_A [(f0, ob 2 [.ref h0, .ref f1, vI nf, vI tm]), (f1, aI G 40 K), (h0, ob 1 [.ref h1, vI n]), (h1, aJ G 24 f), (g0, ob 1 [.ref g1, vI n2]), (g1, aJ G 24 f2)] s.heap.size)) (F0 m 0 ls []) by rw [hHe, hLe] at hgo; exact hgo
  rw [← hHe] at hP
  have hS : va_S A s.heap H locs := by rw [hHe, hLe]; exact hS
  clear hHe hLe
  refine lv_aload_n hx hb dX2_begin_0 rfl (lv_at hl 0 rfl) ?_
  refine z_get (v := .ref h0) hC hK hP inX2 rfl 0 rfl 0 (by decide) tw_99 rfl dX2_begin_1 ?_
  refine lv_aload_n hx hb dX2_begin_4 rfl (lv_at hl 1 rfl) ?_
  refine z_wVv (q0 := 2) (ci := 1) (b := h0) (rest := []) (wr := [(f0, ob 2 [.ref h0, .ref f1, vI nf, vI tm]), (f1, aI G 40 K)]) hC hK hP hD hS hA (c_X1_becomeLike l G H.size h0 h1 n f g0 g1 n2 f2) mv_X1_becomeLike tw_242 [2, 3, 4, 5] [0, 1] rfl rfl rfl rfl (by decide) rfl rfl rfl rfl hl.1 rfl (Nat.le_of_ble_eq_true rfl) ⟨rfl, rfl, Nat.le_of_ble_eq_true rfl, Nat.le_of_ble_eq_true rfl⟩ ⟨Nat.le_of_ble_eq_true rfl, Nat.le_of_ble_eq_true rfl⟩ dX2_begin_5 (fun u H locs hw hP hD hS => ?_)
  have hP : va_P G.1 vwCl [(f0, ob 2 [.ref h0, .ref f1, vI nf, vI tm]), (f1, aI G 40 K), (h0, ob 1 [.ref h1, vI n2]), (h1, aJ G 24 (zcpy f2 f 24)), (g0, ob 1 [.ref g1, vI n2]), (g1, aJ G 24 f2)] H := hP
  have hD : va_D A [(f0, ob 2 [.ref h0, .ref f1, vI nf, vI tm]), (f1, aI G 40 K), (h0, ob 1 [.ref h1, vI n2]), (h1, aJ G 24 (zcpy f2 f 24)), (g0, ob 1 [.ref g1, vI n2]), (g1, aJ G 24 f2)] := hD
  have hw_1 := hw
  clear hw_1
  refine lv_aload_n hx hb dX2_begin_8 rfl (lv_at hl 0 rfl) ?_
  refine z_wVv (q0 := 0) (ci := 2) (b := f0) (rest := []) (wr := [(h0, ob 1 [.ref h1, vI n2]), (h1, aJ G 24 (zcpy f2 f 24)), (g0, ob 1 [.ref g1, vI n2]), (g1, aJ G 24 f2)]) hC hK hP hD hS hA (c_X2_tellNone l G H.size f0 f1 h0 nf tm K) mv_X2_tellNone tw_249 [0, 1] [2, 3, 4, 5] rfl rfl rfl rfl (by decide) rfl rfl rfl rfl hl.1 rfl (Nat.le_of_ble_eq_true rfl) ⟨rfl, rfl, Nat.le_of_ble_eq_true rfl, Nat.le_of_ble_eq_true rfl⟩ ⟨Nat.le_of_ble_eq_true rfl, Nat.le_of_ble_eq_true rfl⟩ dX2_begin_9 (fun u H locs hw hP hD hS => ?_)
  have hP : va_P G.1 vwCl [(h0, ob 1 [.ref h1, vI n2]), (h1, aJ G 24 (zcpy f2 f 24)), (g0, ob 1 [.ref g1, vI n2]), (g1, aJ G 24 f2), (f0, ob 2 [.ref h0, .ref f1, vI 0, vI 0]), (f1, aI G 40 K)] H := hP
  have hD : va_D A [(h0, ob 1 [.ref h1, vI n2]), (h1, aJ G 24 (zcpy f2 f 24)), (g0, ob 1 [.ref g1, vI n2]), (g1, aJ G 24 f2), (f0, ob 2 [.ref h0, .ref f1, vI 0, vI 0]), (f1, aI G 40 K)] := hD
  have hw_2 := hw
  clear hw_2
  exact z_vretW hC hr hlk () hAe hP hD hS [4, 5, 0, 1, 2, 3] (by decide) rfl rfl (trivial) dX2_begin_12

set_option maxRecDepth 100000 in
set_option maxHeartbeats 4000000 in
theorem c_X2_keyOf (l : Launch) (G : zGt) (r0 : Nat) (F : Int → Int) (n mm : Int) (hn : 0 ≤ n ∧ n ≤ 5) : Met l yX2_keyOf (Cond.code yX2_keyOf cX2_keyOf 5 (some .int) :: tb) ({ frames := 0, cells := 0, slots := 0, locals := 0 } : Room) (zPr G [(r0, aI G 5 F)] [.ref r0, vI n, vI mm]) (vp_Si (fun r => r = iI (kyZ F n mm))) 0 0 (fun _ => False) := by
  refine Met.ofW (cc := cX2_keyOf) (maxL := 5) (ret := (some .int)) (by decide) rfl ?_
  intro p e s m args below meth c s₁ B hml hv
  obtain ⟨rfl, hP, hK⟩ := hv
  obtain ⟨hC, hr, hlk⟩ := z_begin B hml
  have hC : CallFix p m c cX2_keyOf 5 s _ tb RX2 := hC
  have hx := hC.1
  have hb := hC.2.1
  have hl := lv_entry ([.ref r0, vI n, vI mm]) (n := 5) (Nat.le_of_ble_eq_true rfl)
  rw [lg_entry_eq]
  generalize (lg_sl ([.ref r0, vI n, vI mm]) ++ List.replicate (5 - (lg_sl ([.ref r0, vI n, vI mm])).length) Slot.unset).toArray = ls at hl ⊢
  have hl : lv_has ls 5 [(0, .ref r0), (1, vI n), (2, vI mm)] := hl
  refine lv_iconst (v := iI 0) hx hb dX2_keyOf_0 rfl ?_
  refine lv_istore_n (lv' := [(3, vI 0), (0, .ref r0), (1, vI n), (2, vI mm)]) hx hb dX2_keyOf_1 rfl hl (by decide) rfl (fun ls hl => ?_)
  refine lv_iconst (v := iI 0) hx hb dX2_keyOf_2 rfl ?_
  refine lv_istore (lv' := [(4, vI 0), (3, vI 0), (0, .ref r0), (1, vI n), (2, vI mm)]) hx hb dX2_keyOf_3 hl (by decide) rfl (fun ls hl => ?_)
  have cut_5 : ∀ (n_ : Nat) (qi : Int) (qk : Int) (ls : Array Slot), lv_has ls 5 [(0, .ref r0), (1, vI n), (2, vI mm), (3, vI qk), (4, vI qi)] → (0 ≤ qi ∧ qi ≤ 5) → (qk = kyF F n qi.toNat) → (5 - qi).toNat < n_ → W p l e (headSpec (Cond.code yX2_keyOf cX2_keyOf 5 (some .int) :: tb) ({ frames := 0, cells := 0, slots := 0, locals := 0 } : Room)).room s m ([.ref r0, vI n, vI mm] : List Value).toArray below meth c s.heap [] 0 0 (MQ below (vp_Si (fun r => r = iI (kyZ F n mm))) ([.ref r0, vI n, vI mm] : List Value).toArray s 0 0 (fun _ => False)) (F0 m 5 ls []) := by
    intro n_
    induction n_ with
    | zero => exact fun qi qk ls hl hqi hqk hm_ => absurd hm_ (Nat.not_lt_zero _)
    | succ n_ ih_5 =>
      intro qi qk ls hl hqi hqk hm_
      refine lv_iload hx hb dX2_keyOf_5 (lv_at hl 4 rfl) ?_
      refine lv_iconst (v := iI 5) hx hb dX2_keyOf_7 rfl ?_
      refine z_icmp_ge (tgt := 45) hx hb dX2_keyOf_8 (by decide) (by omega) (fun c_8 => ?_) (fun c_8 => ?_)
      · refine lv_iload_n hx hb dX2_keyOf_45 rfl (lv_at hl 3 rfl) ?_
        refine lv_iconst (v := iI 3) hx hb dX2_keyOf_46 rfl ?_
        refine z_ishl hx hb dX2_keyOf_47 ?_
        refine lv_iload_n hx hb dX2_keyOf_48 rfl (lv_at hl 2 rfl) ?_
        refine z_ior hx hb dX2_keyOf_49 ?_
        exact z_iretR hC hr hlk (by rw [hqk, show qi = 5 by omega]; rfl) dX2_keyOf_50
      · refine lv_iload_n hx hb dX2_keyOf_11 rfl (lv_at hl 3 rfl) ?_
        refine lv_iconst (v := iI 5) hx hb dX2_keyOf_12 rfl ?_
        refine z_ishl hx hb dX2_keyOf_13 ?_
        refine lv_iload hx hb dX2_keyOf_14 (lv_at hl 4 rfl) ?_
        refine lv_iload_n hx hb dX2_keyOf_16 rfl (lv_at hl 1 rfl) ?_
        refine z_icmp_ge (tgt := 36) hx hb dX2_keyOf_17 (by decide) (by omega) (fun c_17 => ?_) (fun c_17 => ?_)
        · refine lv_iconst (v := iI 0) hx hb dX2_keyOf_36 rfl ?_
          refine z_ior hx hb dX2_keyOf_37 ?_
          refine lv_istore_n (lv' := [(3, vI (zor (zshl qk 5) 0)), (0, .ref r0), (1, vI n), (2, vI mm), (4, vI qi)]) hx hb dX2_keyOf_38 rfl hl (by decide) rfl (fun ls hl => ?_)
          refine z_iinc (k := 4) (lv' := [(4, vI (qi + 1)), (3, vI (zor (zshl qk 5) 0)), (0, .ref r0), (1, vI n), (2, vI mm)]) hx hb dX2_keyOf_39 hl rfl (by decide) rfl (fun ls hl => ?_)
          refine lv_goto (tgt := 5) hx hb dX2_keyOf_42 (by decide) ?_
          exact ih_5 (qi + 1) (zor (zshl qk 5) 0) ls (lv_sub hl [2, 3, 4, 1, 0] rfl) (by omega) (by first | exact kyF_s (by omega) hqk (by rw [if_pos (by omega)]) | exact kyF_s (by omega) hqk (by rw [if_neg (by omega)])) (by omega)
        · refine lv_iload hx hb dX2_keyOf_20 (lv_at hl 4 rfl) ?_
          refine lv_aload_n hx hb dX2_keyOf_22 rfl (lv_at hl 0 rfl) ?_
          refine z_alen hC hK hP 0 rfl dX2_keyOf_23 ?_
          refine z_icmp_ge (tgt := 36) hx hb dX2_keyOf_24 (by decide) (by omega) (fun c_24 => ?_) (fun c_24 => ?_)
          · exfalso; omega
          · refine lv_aload_n hx hb dX2_keyOf_27 rfl (lv_at hl 0 rfl) ?_
            refine lv_iload hx hb dX2_keyOf_28 (lv_at hl 4 rfl) ?_
            refine z_iald hC hK hP 0 rfl (by omega) (by decide) dX2_keyOf_30 ?_
            refine lv_iconst (v := iI 1) hx hb dX2_keyOf_31 rfl ?_
            refine z_iadd hx hb dX2_keyOf_32 ?_
            refine lv_goto (tgt := 37) hx hb dX2_keyOf_33 (by decide) ?_
            refine z_ior hx hb dX2_keyOf_37 ?_
            refine lv_istore_n (lv' := [(3, vI (zor (zshl qk 5) ((F qi) + 1))), (0, .ref r0), (1, vI n), (2, vI mm), (4, vI qi)]) hx hb dX2_keyOf_38 rfl hl (by decide) rfl (fun ls hl => ?_)
            refine z_iinc (k := 4) (lv' := [(4, vI (qi + 1)), (3, vI (zor (zshl qk 5) ((F qi) + 1))), (0, .ref r0), (1, vI n), (2, vI mm)]) hx hb dX2_keyOf_39 hl rfl (by decide) rfl (fun ls hl => ?_)
            refine lv_goto (tgt := 5) hx hb dX2_keyOf_42 (by decide) ?_
            exact ih_5 (qi + 1) (zor (zshl qk 5) ((F qi) + 1)) ls (lv_sub hl [2, 3, 4, 1, 0] rfl) (by omega) (by first | exact kyF_s (by omega) hqk (by rw [if_pos (by omega)]) | exact kyF_s (by omega) hqk (by rw [if_neg (by omega)])) (by omega)
  exact cut_5 ((5 - (0 : Int)).toNat + 1) 0 0 ls (lv_sub hl [2, 3, 4, 1, 0] rfl) (by omega) (rfl) (Nat.lt_succ_self _)

set_option maxRecDepth 100000 in
set_option maxHeartbeats 4000000 in
theorem c_X2_keyAt (l : Launch) (G : zGt) (f0 f1 h0 : Nat) (nf tm : Int) (K : Int → Int) (k : Int) (hnf : 0 ≤ nf ∧ nf ≤ 40) (hk : 0 ≤ k ∧ k < nf) : Met l yX2_keyAt (Cond.code yX2_keyAt cX2_keyAt 2 (some .int) :: tb) ({ frames := 0, cells := 0, slots := 0, locals := 0 } : Room) (zPr G [(f0, ob 2 [.ref h0, .ref f1, vI nf, vI tm]), (f1, aI G 40 K)] [.ref f0, vI k]) (vp_Si (fun r => r = iI (K k))) 0 0 (fun _ => False) := by
  refine Met.ofW (cc := cX2_keyAt) (maxL := 2) (ret := (some .int)) (by decide) rfl ?_
  intro p e s m args below meth c s₁ B hml hv
  obtain ⟨rfl, hP, hK⟩ := hv
  obtain ⟨hC, hr, hlk⟩ := z_begin B hml
  have hC : CallFix p m c cX2_keyAt 2 s _ tb RX2 := hC
  have hx := hC.1
  have hb := hC.2.1
  have hl := lv_entry ([.ref f0, vI k]) (n := 2) (Nat.le_of_ble_eq_true rfl)
  rw [lg_entry_eq]
  generalize (lg_sl ([.ref f0, vI k]) ++ List.replicate (2 - (lg_sl ([.ref f0, vI k])).length) Slot.unset).toArray = ls at hl ⊢
  have hl : lv_has ls 2 [(0, .ref f0), (1, vI k)] := hl
  refine lv_iload_n hx hb dX2_keyAt_0 rfl (lv_at hl 1 rfl) ?_
  refine z_if_lt (tgt := 21) hx hb dX2_keyAt_1 (by decide) (by omega) (fun c_1 => ?_) (fun c_1 => ?_)
  · exfalso; omega
  · refine lv_iload_n hx hb dX2_keyAt_4 rfl (lv_at hl 1 rfl) ?_
    refine lv_aload_n hx hb dX2_keyAt_5 rfl (lv_at hl 0 rfl) ?_
    refine z_get (v := vI nf) hC hK hP inX2 rfl 0 rfl 2 (by decide) tw_101 rfl dX2_keyAt_6 ?_
    refine z_icmp_ge (tgt := 21) hx hb dX2_keyAt_9 (by decide) (by omega) (fun c_9 => ?_) (fun c_9 => ?_)
    · exfalso; omega
    · refine lv_aload_n hx hb dX2_keyAt_12 rfl (lv_at hl 0 rfl) ?_
      refine z_get (v := .ref f1) hC hK hP inX2 rfl 0 rfl 1 (by decide) tw_100 rfl dX2_keyAt_13 ?_
      refine lv_iload_n hx hb dX2_keyAt_16 rfl (lv_at hl 1 rfl) ?_
      refine z_iald hC hK hP 1 rfl (by omega) (by decide) dX2_keyAt_17 ?_
      refine lv_goto (tgt := 22) hx hb dX2_keyAt_18 (by decide) ?_
      exact z_iretR hC hr hlk (rfl) dX2_keyAt_22

set_option maxRecDepth 100000 in
set_option maxHeartbeats 4000000 in
theorem c_X2_makeOf (l : Launch) (G : zGt) (f0 f1 h0 : Nat) (nf tm : Int) (K : Int → Int) (k : Int) (hnf : 0 ≤ nf ∧ nf ≤ 40) (hK0 : ∀ j : Int, 0 ≤ j ∧ j < nf → 0 ≤ K j ∧ K j < 268435456) (hk : 0 ≤ k ∧ k < nf) : Met l yX2_makeOf (Cond.code yX2_makeOf cX2_makeOf 2 (some .int) :: tb) ({ frames := 1, cells := 0, slots := 0, locals := 21 } : Room) (zPr G [(f0, ob 2 [.ref h0, .ref f1, vI nf, vI tm]), (f1, aI G 40 K)] [.ref f0, vI k]) (vp_Si (fun r => r = iI (K k % 8))) 0 0 (fun _ => False) := by
  refine Met.ofW (cc := cX2_makeOf) (maxL := 2) (ret := (some .int)) (by decide) rfl ?_
  intro p e s m args below meth c s₁ B hml hv
  obtain ⟨rfl, hP, hK⟩ := hv
  obtain ⟨hC, hr, hlk⟩ := z_begin B hml
  have hC : CallFix p m c cX2_makeOf 2 s _ tb RX2 := hC
  have hx := hC.1
  have hb := hC.2.1
  have hl := lv_entry ([.ref f0, vI k]) (n := 2) (Nat.le_of_ble_eq_true rfl)
  rw [lg_entry_eq]
  generalize (lg_sl ([.ref f0, vI k]) ++ List.replicate (2 - (lg_sl ([.ref f0, vI k])).length) Slot.unset).toArray = ls at hl ⊢
  have hl : lv_has ls 2 [(0, .ref f0), (1, vI k)] := hl
  refine lv_aload_n hx hb dX2_makeOf_0 rfl (lv_at hl 0 rfl) ?_
  refine lv_iload_n hx hb dX2_makeOf_1 rfl (lv_at hl 1 rfl) ?_
  refine z_rVi (q0 := 0) (ci := 2) (b := f0) (rest := []) hC hK hP (c_X2_keyAt l G f0 f1 h0 nf tm K k (by omega) (by omega)) mv_X2_keyAt tw_369 [0, 1] rfl rfl rfl rfl hl.1 rfl (Nat.le_of_ble_eq_true rfl) ⟨rfl, rfl, Nat.le_of_ble_eq_true rfl, Nat.le_of_ble_eq_true rfl⟩ ⟨Nat.le_of_ble_eq_true rfl, Nat.le_of_ble_eq_true rfl⟩ dX2_makeOf_2 ?_
  refine lv_bipush (v := iI 7) hx hb dX2_makeOf_5 (by decide) ?_
  refine z_iand hx hb dX2_makeOf_7 ?_
  have hkk := hK0 k hk
  exact z_iretR hC hr hlk (by rw [zand_7 (by omega)]) dX2_makeOf_8

set_option maxRecDepth 100000 in
set_option maxHeartbeats 4000000 in
theorem c_X2_blockOf (l : Launch) (G : zGt) (f0 f1 h0 : Nat) (nf tm : Int) (K : Int → Int) (k i : Int) (hnf : 0 ≤ nf ∧ nf ≤ 40) (hK0 : ∀ j : Int, 0 ≤ j ∧ j < nf → 0 ≤ K j ∧ K j < 268435456) (hk : 0 ≤ k ∧ k < nf) (hi : -2147483648 ≤ i ∧ i < 2147483648) : Met l yX2_blockOf (Cond.code yX2_blockOf cX2_blockOf 4 (some .int) :: tb) ({ frames := 1, cells := 0, slots := 0, locals := 21 } : Room) (zPr G [(f0, ob 2 [.ref h0, .ref f1, vI nf, vI tm]), (f1, aI G 40 K)] [.ref f0, vI k, vI i]) (vp_Si (fun r => r = iI (kBl (K k) i))) 0 0 (fun _ => False) := by
  refine Met.ofW (cc := cX2_blockOf) (maxL := 4) (ret := (some .int)) (by decide) rfl ?_
  intro p e s m args below meth c s₁ B hml hv
  obtain ⟨rfl, hP, hK⟩ := hv
  obtain ⟨hC, hr, hlk⟩ := z_begin B hml
  have hC : CallFix p m c cX2_blockOf 4 s _ tb RX2 := hC
  have hx := hC.1
  have hb := hC.2.1
  have hl := lv_entry ([.ref f0, vI k, vI i]) (n := 4) (Nat.le_of_ble_eq_true rfl)
  rw [lg_entry_eq]
  generalize (lg_sl ([.ref f0, vI k, vI i]) ++ List.replicate (4 - (lg_sl ([.ref f0, vI k, vI i])).length) Slot.unset).toArray = ls at hl ⊢
  have hl : lv_has ls 4 [(0, .ref f0), (1, vI k), (2, vI i)] := hl
  refine lv_iload_n hx hb dX2_blockOf_0 rfl (lv_at hl 2 rfl) ?_
  refine z_if_lt (tgt := 9) hx hb dX2_blockOf_1 (by decide) (by omega) (fun c_1 => ?_) (fun c_1 => ?_)
  · refine lv_iconst (v := iI (-1)) hx hb dX2_blockOf_9 rfl ?_
    exact z_iretR hC hr hlk (by unfold kBl; rw [if_neg (by omega)]) dX2_blockOf_10
  · refine lv_iload_n hx hb dX2_blockOf_4 rfl (lv_at hl 2 rfl) ?_
    refine lv_iconst (v := iI 5) hx hb dX2_blockOf_5 rfl ?_
    refine z_icmp_lt (tgt := 11) hx hb dX2_blockOf_6 (by decide) (by omega) (fun c_6 => ?_) (fun c_6 => ?_)
    · refine lv_iconst (v := iI 3) hx hb dX2_blockOf_11 rfl ?_
      refine lv_iconst (v := iI 5) hx hb dX2_blockOf_12 rfl ?_
      refine lv_iconst (v := iI 4) hx hb dX2_blockOf_13 rfl ?_
      refine lv_iload_n hx hb dX2_blockOf_14 rfl (lv_at hl 2 rfl) ?_
      refine z_isub hx hb dX2_blockOf_15 ?_
      refine z_imul hx hb dX2_blockOf_16 ?_
      refine z_iadd hx hb dX2_blockOf_17 ?_
      refine lv_istore_n (lv' := [(3, vI (3 + (5 * (4 - i)))), (0, .ref f0), (1, vI k), (2, vI i)]) hx hb dX2_blockOf_18 rfl hl (by decide) rfl (fun ls hl => ?_)
      refine lv_aload_n hx hb dX2_blockOf_19 rfl (lv_at hl 1 rfl) ?_
      refine lv_iload_n hx hb dX2_blockOf_20 rfl (lv_at hl 2 rfl) ?_
      refine z_rVi (q0 := 0) (ci := 2) (b := f0) (rest := []) hC hK hP (c_X2_keyAt l G f0 f1 h0 nf tm K k (by omega) (by omega)) mv_X2_keyAt tw_369 [0, 1] rfl rfl rfl rfl hl.1 rfl (Nat.le_of_ble_eq_true rfl) ⟨rfl, rfl, Nat.le_of_ble_eq_true rfl, Nat.le_of_ble_eq_true rfl⟩ ⟨Nat.le_of_ble_eq_true rfl, Nat.le_of_ble_eq_true rfl⟩ dX2_blockOf_21 ?_
      refine lv_iload_n hx hb dX2_blockOf_24 rfl (lv_at hl 0 rfl) ?_
      refine z_iushr hx hb dX2_blockOf_25 ?_
      refine lv_bipush (v := iI 31) hx hb dX2_blockOf_26 (by decide) ?_
      refine z_iand hx hb dX2_blockOf_28 ?_
      refine lv_iconst (v := iI 1) hx hb dX2_blockOf_29 rfl ?_
      refine z_isub hx hb dX2_blockOf_30 ?_
      have hkk := hK0 k hk
      have hsh : zushr (K k) (3 + 5 * (4 - i)) = K k / ((2 ^ (23 - 5 * i).toNat : Nat) : Int) := by
        have h9 := zushr_div (a := K k) (23 - 5 * i).toNat (by omega) (by omega)
        rwa [Int.toNat_of_nonneg (by omega), show 23 - 5 * i = 3 + 5 * (4 - i) by omega, show (3 + 5 * (4 - i)).toNat = (23 - 5 * i).toNat by omega] at h9
      have hb2 : 0 ≤ K k / ((2 ^ (23 - 5 * i).toNat : Nat) : Int) ∧ K k / ((2 ^ (23 - 5 * i).toNat : Nat) : Int) < 2147483648 := by
        have h8 := Int.ediv_le_self ((2 ^ (23 - 5 * i).toNat : Nat) : Int) hkk.1
        exact ⟨Int.ediv_nonneg hkk.1 (Int.natCast_nonneg _), by omega⟩
      exact z_iretR hC hr hlk (by unfold kBl; rw [if_pos (by omega), hsh, zand_31 hb2]) dX2_blockOf_31
    · refine lv_iconst (v := iI (-1)) hx hb dX2_blockOf_9 rfl ?_
      exact z_iretR hC hr hlk (by unfold kBl; rw [if_neg (by omega)]) dX2_blockOf_10

set_option maxRecDepth 100000 in
set_option maxHeartbeats 4000000 in
theorem c_X2_lengthOf (l : Launch) (G : zGt) (f0 f1 h0 : Nat) (nf tm : Int) (K : Int → Int) (h1 : Nat) (n : Int) (f : Int → Int64) (k : Int) (hnf : 0 ≤ nf ∧ nf ≤ 40) (hK0 : ∀ j : Int, 0 ≤ j ∧ j < nf → 0 ≤ K j ∧ K j < 268435456) (hk : 0 ≤ k ∧ k < nf) (hn : 0 ≤ n ∧ n ≤ 24) : Met l yX2_lengthOf (Cond.code yX2_lengthOf cX2_lengthOf 2 (some .int) :: tb) ({ frames := 2, cells := 0, slots := 0, locals := 44 } : Room) (zPr G [(f0, ob 2 [.ref h0, .ref f1, vI nf, vI tm]), (f1, aI G 40 K), (h0, ob 1 [.ref h1, vI n]), (h1, aJ G 24 f)] [.ref f0, vI k]) (vp_Si (fun r => r = iI (byZ (if 0 ≤ kBl (K k) 0 ∧ kBl (K k) 0 < n then f (kBl (K k) 0) else 0) 2))) 0 0 (fun _ => False) := by
  refine Met.ofW (cc := cX2_lengthOf) (maxL := 2) (ret := (some .int)) (by decide) rfl ?_
  intro p e s m args below meth c s₁ B hml hv
  obtain ⟨rfl, hP, hK⟩ := hv
  obtain ⟨hC, hr, hlk⟩ := z_begin B hml
  have hC : CallFix p m c cX2_lengthOf 2 s _ tb RX2 := hC
  have hx := hC.1
  have hb := hC.2.1
  have hl := lv_entry ([.ref f0, vI k]) (n := 2) (Nat.le_of_ble_eq_true rfl)
  rw [lg_entry_eq]
  generalize (lg_sl ([.ref f0, vI k]) ++ List.replicate (2 - (lg_sl ([.ref f0, vI k])).length) Slot.unset).toArray = ls at hl ⊢
  have hl : lv_has ls 2 [(0, .ref f0), (1, vI k)] := hl
  refine lv_aload_n hx hb dX2_lengthOf_0 rfl (lv_at hl 0 rfl) ?_
  refine z_get (v := .ref h0) hC hK hP inX2 rfl 0 rfl 0 (by decide) tw_99 rfl dX2_lengthOf_1 ?_
  refine lv_aload_n hx hb dX2_lengthOf_4 rfl (lv_at hl 0 rfl) ?_
  refine lv_iload_n hx hb dX2_lengthOf_5 rfl (lv_at hl 1 rfl) ?_
  refine lv_iconst (v := iI 0) hx hb dX2_lengthOf_6 rfl ?_
  refine z_rVi (q0 := 0) (ci := 2) (b := f0) (rest := [.ref h0]) hC hK hP (c_X2_blockOf l G f0 f1 h0 nf tm K k 0 (by omega) (by omega) (by omega) (by omega)) mv_X2_blockOf tw_385 [0, 1] rfl rfl rfl rfl hl.1 rfl (Nat.le_of_ble_eq_true rfl) ⟨rfl, rfl, Nat.le_of_ble_eq_true rfl, Nat.le_of_ble_eq_true rfl⟩ ⟨Nat.le_of_ble_eq_true rfl, Nat.le_of_ble_eq_true rfl⟩ dX2_lengthOf_7 ?_
  refine lv_iconst (v := iI 2) hx hb dX2_lengthOf_10 rfl ?_
  have hkb := kBl_bd (K k) 0
  refine z_rVi (q0 := 2) (ci := 1) (b := h0) (rest := []) hC hK hP (c_X1_byteAt l G h0 h1 n f (kBl (K k) 0) 2 (by omega) (by omega)) mv_X1_byteAt tw_743 [2, 3] rfl rfl rfl rfl hl.1 rfl (Nat.le_of_ble_eq_true rfl) ⟨rfl, rfl, Nat.le_of_ble_eq_true rfl, Nat.le_of_ble_eq_true rfl⟩ ⟨Nat.le_of_ble_eq_true rfl, Nat.le_of_ble_eq_true rfl⟩ dX2_lengthOf_11 ?_
  exact z_iretR hC hr hlk (rfl) dX2_lengthOf_14

set_option maxRecDepth 100000 in
set_option maxHeartbeats 4000000 in
theorem c_X2_sizeOf (l : Launch) (G : zGt) (f0 f1 h0 : Nat) (nf tm : Int) (K : Int → Int) (k : Int) (hnf : 0 ≤ nf ∧ nf ≤ 40) (hK0 : ∀ j : Int, 0 ≤ j ∧ j < nf → 0 ≤ K j ∧ K j < 268435456) (hk : 0 ≤ k ∧ k < nf) : Met l yX2_sizeOf (Cond.code yX2_sizeOf cX2_sizeOf 3 (some .int) :: tb) ({ frames := 2, cells := 0, slots := 0, locals := 44 } : Room) (zPr G [(f0, ob 2 [.ref h0, .ref f1, vI nf, vI tm]), (f1, aI G 40 K)] [.ref f0, vI k]) (vp_Si (fun r => r = iI (kSz (K k)))) 0 0 (fun _ => False) := by
  refine Met.ofW (cc := cX2_sizeOf) (maxL := 3) (ret := (some .int)) (by decide) rfl ?_
  intro p e s m args below meth c s₁ B hml hv
  obtain ⟨rfl, hP, hK⟩ := hv
  obtain ⟨hC, hr, hlk⟩ := z_begin B hml
  have hC : CallFix p m c cX2_sizeOf 3 s _ tb RX2 := hC
  have hx := hC.1
  have hb := hC.2.1
  have hl := lv_entry ([.ref f0, vI k]) (n := 3) (Nat.le_of_ble_eq_true rfl)
  rw [lg_entry_eq]
  generalize (lg_sl ([.ref f0, vI k]) ++ List.replicate (3 - (lg_sl ([.ref f0, vI k])).length) Slot.unset).toArray = ls at hl ⊢
  have hl : lv_has ls 3 [(0, .ref f0), (1, vI k)] := hl
  refine lv_iconst (v := iI 0) hx hb dX2_sizeOf_0 rfl ?_
  refine lv_istore_n (lv' := [(2, vI 0), (0, .ref f0), (1, vI k)]) hx hb dX2_sizeOf_1 rfl hl (by decide) rfl (fun ls hl => ?_)
  have cut_2 : ∀ (n_ : Nat) (qi : Int) (ls : Array Slot), lv_has ls 3 [(0, .ref f0), (1, vI k), (2, vI qi)] → (0 ≤ qi ∧ qi ≤ 5) → (∀ j : Int, 0 ≤ j ∧ j < qi → kBl (K k) j ≠ -1) → (5 - qi).toNat < n_ → W p l e (headSpec (Cond.code yX2_sizeOf cX2_sizeOf 3 (some .int) :: tb) ({ frames := 2, cells := 0, slots := 0, locals := 44 } : Room)).room s m ([.ref f0, vI k] : List Value).toArray below meth c s.heap [] 0 0 (MQ below (vp_Si (fun r => r = iI (kSz (K k)))) ([.ref f0, vI k] : List Value).toArray s 0 0 (fun _ => False)) (F0 m 2 ls []) := by
    intro n_
    induction n_ with
    | zero => exact fun qi ls hl hqi hqs hm_ => absurd hm_ (Nat.not_lt_zero _)
    | succ n_ ih_2 =>
      intro qi ls hl hqi hqs hm_
      refine lv_iload_n hx hb dX2_sizeOf_2 rfl (lv_at hl 2 rfl) ?_
      refine lv_iconst (v := iI 5) hx hb dX2_sizeOf_3 rfl ?_
      refine z_icmp_ge (tgt := 23) hx hb dX2_sizeOf_4 (by decide) (by omega) (fun c_4 => ?_) (fun c_4 => ?_)
      · refine lv_iload_n hx hb dX2_sizeOf_23 rfl (lv_at hl 2 rfl) ?_
        exact z_iretR hC hr hlk (by first | exact kSz_is hqi hqs (fun h => by omega) | exact kSz_is hqi hqs (fun h => c_14)) dX2_sizeOf_24
      · refine lv_aload_n hx hb dX2_sizeOf_7 rfl (lv_at hl 0 rfl) ?_
        refine lv_iload_n hx hb dX2_sizeOf_8 rfl (lv_at hl 1 rfl) ?_
        refine lv_iload_n hx hb dX2_sizeOf_9 rfl (lv_at hl 2 rfl) ?_
        refine z_rVi (q0 := 0) (ci := 2) (b := f0) (rest := []) hC hK hP (c_X2_blockOf l G f0 f1 h0 nf tm K k qi (by omega) (by omega) (by omega) (by omega)) mv_X2_blockOf tw_385 [0, 1] rfl rfl rfl rfl hl.1 rfl (Nat.le_of_ble_eq_true rfl) ⟨rfl, rfl, Nat.le_of_ble_eq_true rfl, Nat.le_of_ble_eq_true rfl⟩ ⟨Nat.le_of_ble_eq_true rfl, Nat.le_of_ble_eq_true rfl⟩ dX2_sizeOf_10 ?_
        refine lv_iconst (v := iI (-1)) hx hb dX2_sizeOf_13 rfl ?_
        refine z_icmp_eq (tgt := 23) hx hb dX2_sizeOf_14 (by decide) (by have := kBl_bd (K k) qi; omega) (fun c_14 => ?_) (fun c_14 => ?_)
        · refine lv_iload_n hx hb dX2_sizeOf_23 rfl (lv_at hl 2 rfl) ?_
          exact z_iretR hC hr hlk (by first | exact kSz_is hqi hqs (fun h => by omega) | exact kSz_is hqi hqs (fun h => c_14)) dX2_sizeOf_24
        · refine z_iinc (k := 2) (lv' := [(2, vI (qi + 1)), (0, .ref f0), (1, vI k)]) hx hb dX2_sizeOf_17 hl rfl (by decide) rfl (fun ls hl => ?_)
          refine lv_goto (tgt := 2) hx hb dX2_sizeOf_20 (by decide) ?_
          exact ih_2 (qi + 1) ls (lv_sub hl [1, 2, 0] rfl) (by omega) (fun j hj => Or.elim (show j < qi ∨ j = qi by omega) (fun h => hqs j (by omega)) (fun h => by rw [h]; exact c_14)) (by omega)
  exact cut_2 ((5 - (0 : Int)).toNat + 1) 0 ls (lv_sub hl [1, 2, 0] rfl) (by omega) (fun j hj => by omega) (Nat.lt_succ_self _)

set_option maxRecDepth 100000 in
set_option maxHeartbeats 4000000 in
theorem c_X2_costOf (l : Launch) (G : zGt) (f0 f1 h0 : Nat) (nf tm : Int) (K : Int → Int) (k : Int) (hnf : 0 ≤ nf ∧ nf ≤ 40) (hK0 : ∀ j : Int, 0 ≤ j ∧ j < nf → 0 ≤ K j ∧ K j < 268435456) (hk : 0 ≤ k ∧ k < nf) : Met l yX2_costOf (Cond.code yX2_costOf cX2_costOf 5 (some .int) :: tb) ({ frames := 3, cells := 0, slots := 0, locals := 66 } : Room) (zPr G [(f0, ob 2 [.ref h0, .ref f1, vI nf, vI tm]), (f1, aI G 40 K)] [.ref f0, vI k]) (vp_Si (fun r => r = iI (kCost (K k)))) 0 0 (fun _ => False) := by
  refine Met.ofW (cc := cX2_costOf) (maxL := 5) (ret := (some .int)) (by decide) rfl ?_
  intro p e s m args below meth c s₁ B hml hv
  obtain ⟨rfl, hP, hK⟩ := hv
  obtain ⟨hC, hr, hlk⟩ := z_begin B hml
  have hC : CallFix p m c cX2_costOf 5 s _ tb RX2 := hC
  have hx := hC.1
  have hb := hC.2.1
  have hl := lv_entry ([.ref f0, vI k]) (n := 5) (Nat.le_of_ble_eq_true rfl)
  rw [lg_entry_eq]
  generalize (lg_sl ([.ref f0, vI k]) ++ List.replicate (5 - (lg_sl ([.ref f0, vI k])).length) Slot.unset).toArray = ls at hl ⊢
  have hl : lv_has ls 5 [(0, .ref f0), (1, vI k)] := hl
  have hsz := kSz_bd (K k)
  refine lv_iconst (v := iI 0) hx hb dX2_costOf_0 rfl ?_
  refine lv_istore_n (lv' := [(2, vI 0), (0, .ref f0), (1, vI k)]) hx hb dX2_costOf_1 rfl hl (by decide) rfl (fun ls hl => ?_)
  refine lv_aload_n hx hb dX2_costOf_2 rfl (lv_at hl 1 rfl) ?_
  refine lv_iload_n hx hb dX2_costOf_3 rfl (lv_at hl 2 rfl) ?_
  refine z_rVi (q0 := 0) (ci := 2) (b := f0) (rest := []) hC hK hP (c_X2_sizeOf l G f0 f1 h0 nf tm K k (by omega) (by omega) (by omega)) mv_X2_sizeOf tw_391 [0, 1] rfl rfl rfl rfl hl.1 rfl (Nat.le_of_ble_eq_true rfl) ⟨rfl, rfl, Nat.le_of_ble_eq_true rfl, Nat.le_of_ble_eq_true rfl⟩ ⟨Nat.le_of_ble_eq_true rfl, Nat.le_of_ble_eq_true rfl⟩ dX2_costOf_4 ?_
  refine lv_istore_n (lv' := [(3, vI (kSz (K k))), (2, vI 0), (0, .ref f0), (1, vI k)]) hx hb dX2_costOf_7 rfl hl (by decide) rfl (fun ls hl => ?_)
  refine lv_iconst (v := iI 1) hx hb dX2_costOf_8 rfl ?_
  refine lv_istore (lv' := [(4, vI 1), (3, vI (kSz (K k))), (2, vI 0), (0, .ref f0), (1, vI k)]) hx hb dX2_costOf_9 hl (by decide) rfl (fun ls hl => ?_)
  have cut_11 : ∀ (n_ : Nat) (qi : Int) (qs : Int) (ls : Array Slot), lv_has ls 5 [(0, .ref f0), (1, vI k), (2, vI qs), (3, vI (kSz (K k))), (4, vI qi)] → (1 ≤ qi ∧ (qi ≤ kSz (K k) ∨ qi = 1)) → (qs = sumZ (kGap (K k)) (qi - 1).toNat) → (kSz (K k) - qi).toNat < n_ → W p l e (headSpec (Cond.code yX2_costOf cX2_costOf 5 (some .int) :: tb) ({ frames := 3, cells := 0, slots := 0, locals := 66 } : Room)).room s m ([.ref f0, vI k] : List Value).toArray below meth c s.heap [] 0 0 (MQ below (vp_Si (fun r => r = iI (kCost (K k)))) ([.ref f0, vI k] : List Value).toArray s 0 0 (fun _ => False)) (F0 m 11 ls []) := by
    intro n_
    induction n_ with
    | zero => exact fun qi qs ls hl hqi hqs hm_ => absurd hm_ (Nat.not_lt_zero _)
    | succ n_ ih_11 =>
      intro qi qs ls hl hqi hqs hm_
      refine lv_iload hx hb dX2_costOf_11 (lv_at hl 4 rfl) ?_
      refine lv_iload_n hx hb dX2_costOf_13 rfl (lv_at hl 3 rfl) ?_
      refine z_icmp_ge (tgt := 48) hx hb dX2_costOf_14 (by decide) (by omega) (fun c_14 => ?_) (fun c_14 => ?_)
      · refine lv_iload_n hx hb dX2_costOf_48 rfl (lv_at hl 2 rfl) ?_
        exact z_iretR hC hr hlk (by rw [hqs]; unfold kCost; rw [show (qi - 1).toNat = (kSz (K k) - 1).toNat by omega]) dX2_costOf_49
      · refine lv_iload_n hx hb dX2_costOf_17 rfl (lv_at hl 2 rfl) ?_
        refine lv_aload_n hx hb dX2_costOf_18 rfl (lv_at hl 0 rfl) ?_
        refine lv_iload_n hx hb dX2_costOf_19 rfl (lv_at hl 1 rfl) ?_
        refine lv_iload hx hb dX2_costOf_20 (lv_at hl 4 rfl) ?_
        refine z_rVi (q0 := 0) (ci := 2) (b := f0) (rest := [vI qs]) hC hK hP (c_X2_blockOf l G f0 f1 h0 nf tm K k qi (by omega) (by omega) (by omega) (by omega)) mv_X2_blockOf tw_385 [0, 1] rfl rfl rfl rfl hl.1 rfl (Nat.le_of_ble_eq_true rfl) ⟨rfl, rfl, Nat.le_of_ble_eq_true rfl, Nat.le_of_ble_eq_true rfl⟩ ⟨Nat.le_of_ble_eq_true rfl, Nat.le_of_ble_eq_true rfl⟩ dX2_costOf_22 ?_
        refine lv_aload_n hx hb dX2_costOf_25 rfl (lv_at hl 0 rfl) ?_
        refine lv_iload_n hx hb dX2_costOf_26 rfl (lv_at hl 1 rfl) ?_
        refine lv_iload hx hb dX2_costOf_27 (lv_at hl 4 rfl) ?_
        refine lv_iconst (v := iI 1) hx hb dX2_costOf_29 rfl ?_
        refine z_isub hx hb dX2_costOf_30 ?_
        refine z_rVi (q0 := 0) (ci := 2) (b := f0) (rest := [vI (kBl (K k) qi), vI qs]) hC hK hP (c_X2_blockOf l G f0 f1 h0 nf tm K k (qi - 1) (by omega) (by omega) (by omega) (by omega)) mv_X2_blockOf tw_385 [0, 1] rfl rfl rfl rfl hl.1 rfl (Nat.le_of_ble_eq_true rfl) ⟨rfl, rfl, Nat.le_of_ble_eq_true rfl, Nat.le_of_ble_eq_true rfl⟩ ⟨Nat.le_of_ble_eq_true rfl, Nat.le_of_ble_eq_true rfl⟩ dX2_costOf_31 ?_
        refine lv_iconst (v := iI 1) hx hb dX2_costOf_34 rfl ?_
        refine z_iadd hx hb dX2_costOf_35 ?_
        refine z_isub hx hb dX2_costOf_36 ?_
        refine z_rSi (rest := [vI qs]) hC hK hP (c_J9_abs_0f7a4 l G ((kBl (K k) qi) - ((kBl (K k) (qi - 1)) + 1)) (by have h1 := kBl_bd (K k) qi; have h2 := kBl_bd (K k) (qi - 1); omega)) ms_J9_abs_0f7a4 tw_392 [] rfl rfl hl.1 rfl (Nat.le_of_ble_eq_true rfl) ⟨rfl, rfl, Nat.le_of_ble_eq_true rfl, Nat.le_of_ble_eq_true rfl⟩ ⟨Nat.le_of_ble_eq_true rfl, Nat.le_of_ble_eq_true rfl⟩ dX2_costOf_37 ?_
        refine z_iadd hx hb dX2_costOf_40 ?_
        refine lv_istore_n (lv' := [(2, vI (qs + (if ((kBl (K k) qi) - ((kBl (K k) (qi - 1)) + 1)) < 0 then -((kBl (K k) qi) - ((kBl (K k) (qi - 1)) + 1)) else ((kBl (K k) qi) - ((kBl (K k) (qi - 1)) + 1))))), (0, .ref f0), (1, vI k), (3, vI (kSz (K k))), (4, vI qi)]) hx hb dX2_costOf_41 rfl hl (by decide) rfl (fun ls hl => ?_)
        refine z_iinc (k := 4) (lv' := [(4, vI (qi + 1)), (2, vI (qs + (if ((kBl (K k) qi) - ((kBl (K k) (qi - 1)) + 1)) < 0 then -((kBl (K k) qi) - ((kBl (K k) (qi - 1)) + 1)) else ((kBl (K k) qi) - ((kBl (K k) (qi - 1)) + 1))))), (0, .ref f0), (1, vI k), (3, vI (kSz (K k)))]) hx hb dX2_costOf_42 hl rfl (by decide) rfl (fun ls hl => ?_)
        refine lv_goto (tgt := 11) hx hb dX2_costOf_45 (by decide) ?_
        exact ih_11 (qi + 1) (qs + (if ((kBl (K k) qi) - ((kBl (K k) (qi - 1)) + 1)) < 0 then -((kBl (K k) qi) - ((kBl (K k) (qi - 1)) + 1)) else ((kBl (K k) qi) - ((kBl (K k) (qi - 1)) + 1)))) ls (lv_sub hl [2, 3, 1, 4, 0] rfl) (by omega) (by have h9 := sumZ_s (g := kGap (K k)) (i := qi - 1) (by omega) hqs; rw [show qi + 1 - 1 = qi - 1 + 1 by omega, ← h9]; unfold kGap; rw [show qi - 1 + 1 = qi by omega]) (by omega)
  exact cut_11 ((kSz (K k) - (1 : Int)).toNat + 1) 1 0 ls (lv_sub hl [3, 4, 2, 1, 0] rfl) (by omega) (rfl) (Nat.lt_succ_self _)

set_option maxRecDepth 100000 in
set_option maxHeartbeats 4000000 in
theorem c_X2_blockBitsOf (l : Launch) (G : zGt) (f0 f1 h0 : Nat) (nf tm : Int) (K : Int → Int) (k : Int) (hnf : 0 ≤ nf ∧ nf ≤ 40) (hK0 : ∀ j : Int, 0 ≤ j ∧ j < nf → 0 ≤ K j ∧ K j < 268435456) (hk : 0 ≤ k ∧ k < nf) : Met l yX2_blockBitsOf (Cond.code yX2_blockBitsOf cX2_blockBitsOf 5 (some .int) :: tb) ({ frames := 3, cells := 0, slots := 0, locals := 66 } : Room) (zPr G [(f0, ob 2 [.ref h0, .ref f1, vI nf, vI tm]), (f1, aI G 40 K)] [.ref f0, vI k]) (vp_Si (fun r => r = iI (kBits (K k)))) 0 0 (fun _ => False) := by
  refine Met.ofW (cc := cX2_blockBitsOf) (maxL := 5) (ret := (some .int)) (by decide) rfl ?_
  intro p e s m args below meth c s₁ B hml hv
  obtain ⟨rfl, hP, hK⟩ := hv
  obtain ⟨hC, hr, hlk⟩ := z_begin B hml
  have hC : CallFix p m c cX2_blockBitsOf 5 s _ tb RX2 := hC
  have hx := hC.1
  have hb := hC.2.1
  have hl := lv_entry ([.ref f0, vI k]) (n := 5) (Nat.le_of_ble_eq_true rfl)
  rw [lg_entry_eq]
  generalize (lg_sl ([.ref f0, vI k]) ++ List.replicate (5 - (lg_sl ([.ref f0, vI k])).length) Slot.unset).toArray = ls at hl ⊢
  have hl : lv_has ls 5 [(0, .ref f0), (1, vI k)] := hl
  have hsz := kSz_bd (K k)
  refine lv_iconst (v := iI 0) hx hb dX2_blockBitsOf_0 rfl ?_
  refine lv_istore_n (lv' := [(2, vI 0), (0, .ref f0), (1, vI k)]) hx hb dX2_blockBitsOf_1 rfl hl (by decide) rfl (fun ls hl => ?_)
  refine lv_aload_n hx hb dX2_blockBitsOf_2 rfl (lv_at hl 1 rfl) ?_
  refine lv_iload_n hx hb dX2_blockBitsOf_3 rfl (lv_at hl 2 rfl) ?_
  refine z_rVi (q0 := 0) (ci := 2) (b := f0) (rest := []) hC hK hP (c_X2_sizeOf l G f0 f1 h0 nf tm K k (by omega) (by omega) (by omega)) mv_X2_sizeOf tw_391 [0, 1] rfl rfl rfl rfl hl.1 rfl (Nat.le_of_ble_eq_true rfl) ⟨rfl, rfl, Nat.le_of_ble_eq_true rfl, Nat.le_of_ble_eq_true rfl⟩ ⟨Nat.le_of_ble_eq_true rfl, Nat.le_of_ble_eq_true rfl⟩ dX2_blockBitsOf_4 ?_
  refine lv_istore_n (lv' := [(3, vI (kSz (K k))), (2, vI 0), (0, .ref f0), (1, vI k)]) hx hb dX2_blockBitsOf_7 rfl hl (by decide) rfl (fun ls hl => ?_)
  refine lv_iconst (v := iI 0) hx hb dX2_blockBitsOf_8 rfl ?_
  refine lv_istore (lv' := [(4, vI 0), (3, vI (kSz (K k))), (2, vI 0), (0, .ref f0), (1, vI k)]) hx hb dX2_blockBitsOf_9 hl (by decide) rfl (fun ls hl => ?_)
  have cut_11 : ∀ (n_ : Nat) (qi : Int) (qs : Int) (ls : Array Slot), lv_has ls 5 [(0, .ref f0), (1, vI k), (2, vI qs), (3, vI (kSz (K k))), (4, vI qi)] → (0 ≤ qi ∧ qi ≤ kSz (K k)) → (qs = orZ (fun i => zshl 1 (kBl (K k) i)) qi.toNat) → (kSz (K k) - qi).toNat < n_ → W p l e (headSpec (Cond.code yX2_blockBitsOf cX2_blockBitsOf 5 (some .int) :: tb) ({ frames := 3, cells := 0, slots := 0, locals := 66 } : Room)).room s m ([.ref f0, vI k] : List Value).toArray below meth c s.heap [] 0 0 (MQ below (vp_Si (fun r => r = iI (kBits (K k)))) ([.ref f0, vI k] : List Value).toArray s 0 0 (fun _ => False)) (F0 m 11 ls []) := by
    intro n_
    induction n_ with
    | zero => exact fun qi qs ls hl hqi hqs hm_ => absurd hm_ (Nat.not_lt_zero _)
    | succ n_ ih_11 =>
      intro qi qs ls hl hqi hqs hm_
      refine lv_iload hx hb dX2_blockBitsOf_11 (lv_at hl 4 rfl) ?_
      refine lv_iload_n hx hb dX2_blockBitsOf_13 rfl (lv_at hl 3 rfl) ?_
      refine z_icmp_ge (tgt := 35) hx hb dX2_blockBitsOf_14 (by decide) (by omega) (fun c_14 => ?_) (fun c_14 => ?_)
      · refine lv_iload_n hx hb dX2_blockBitsOf_35 rfl (lv_at hl 2 rfl) ?_
        exact z_iretR hC hr hlk (by rw [hqs, show qi = kSz (K k) by omega]; rfl) dX2_blockBitsOf_36
      · refine lv_iload_n hx hb dX2_blockBitsOf_17 rfl (lv_at hl 2 rfl) ?_
        refine lv_iconst (v := iI 1) hx hb dX2_blockBitsOf_18 rfl ?_
        refine lv_aload_n hx hb dX2_blockBitsOf_19 rfl (lv_at hl 0 rfl) ?_
        refine lv_iload_n hx hb dX2_blockBitsOf_20 rfl (lv_at hl 1 rfl) ?_
        refine lv_iload hx hb dX2_blockBitsOf_21 (lv_at hl 4 rfl) ?_
        refine z_rVi (q0 := 0) (ci := 2) (b := f0) (rest := [vI 1, vI qs]) hC hK hP (c_X2_blockOf l G f0 f1 h0 nf tm K k qi (by omega) (by omega) (by omega) (by omega)) mv_X2_blockOf tw_385 [0, 1] rfl rfl rfl rfl hl.1 rfl (Nat.le_of_ble_eq_true rfl) ⟨rfl, rfl, Nat.le_of_ble_eq_true rfl, Nat.le_of_ble_eq_true rfl⟩ ⟨Nat.le_of_ble_eq_true rfl, Nat.le_of_ble_eq_true rfl⟩ dX2_blockBitsOf_23 ?_
        refine z_ishl hx hb dX2_blockBitsOf_26 ?_
        refine z_ior hx hb dX2_blockBitsOf_27 ?_
        refine lv_istore_n (lv' := [(2, vI (zor qs (zshl 1 (kBl (K k) qi)))), (0, .ref f0), (1, vI k), (3, vI (kSz (K k))), (4, vI qi)]) hx hb dX2_blockBitsOf_28 rfl hl (by decide) rfl (fun ls hl => ?_)
        refine z_iinc (k := 4) (lv' := [(4, vI (qi + 1)), (2, vI (zor qs (zshl 1 (kBl (K k) qi)))), (0, .ref f0), (1, vI k), (3, vI (kSz (K k)))]) hx hb dX2_blockBitsOf_29 hl rfl (by decide) rfl (fun ls hl => ?_)
        refine lv_goto (tgt := 11) hx hb dX2_blockBitsOf_32 (by decide) ?_
        exact ih_11 (qi + 1) (zor qs (zshl 1 (kBl (K k) qi))) ls (lv_sub hl [2, 3, 1, 4, 0] rfl) (by omega) (orZ_s (by omega) hqs) (by omega)
  exact cut_11 ((kSz (K k) - (0 : Int)).toNat + 1) 0 0 ls (lv_sub hl [3, 4, 2, 1, 0] rfl) (by omega) (rfl) (Nat.lt_succ_self _)

set_option maxRecDepth 100000 in
set_option maxHeartbeats 4000000 in
theorem c_X2_isSure (l : Launch) (G : zGt) (f0 f1 h0 : Nat) (nf tm : Int) (K : Int → Int) (k : Int) (hnf : 0 ≤ nf ∧ nf ≤ 40) (hK0 : ∀ j : Int, 0 ≤ j ∧ j < nf → 0 ≤ K j ∧ K j < 268435456) (hk : 0 ≤ k ∧ k < nf) : Met l yX2_isSure (Cond.code yX2_isSure cX2_isSure 3 (some .boolean) :: tb) ({ frames := 2, cells := 0, slots := 0, locals := 44 } : Room) (zPr G [(f0, ob 2 [.ref h0, .ref f1, vI nf, vI tm]), (f1, aI G 40 K)] [.ref f0, vI k]) (vp_Si (fun r => r = iI (bZ (∀ j : Int, 0 ≤ j ∧ j < nf → j ≠ k → kBl (K j) 0 ≠ kBl (K k) 0)))) 0 0 (fun _ => False) := by
  refine Met.ofW (cc := cX2_isSure) (maxL := 3) (ret := (some .boolean)) (by decide) rfl ?_
  intro p e s m args below meth c s₁ B hml hv
  obtain ⟨rfl, hP, hK⟩ := hv
  obtain ⟨hC, hr, hlk⟩ := z_begin B hml
  have hC : CallFix p m c cX2_isSure 3 s _ tb RX2 := hC
  have hx := hC.1
  have hb := hC.2.1
  have hl := lv_entry ([.ref f0, vI k]) (n := 3) (Nat.le_of_ble_eq_true rfl)
  rw [lg_entry_eq]
  generalize (lg_sl ([.ref f0, vI k]) ++ List.replicate (3 - (lg_sl ([.ref f0, vI k])).length) Slot.unset).toArray = ls at hl ⊢
  have hl : lv_has ls 3 [(0, .ref f0), (1, vI k)] := hl
  refine lv_iconst (v := iI 0) hx hb dX2_isSure_0 rfl ?_
  refine lv_istore_n (lv' := [(2, vI 0), (0, .ref f0), (1, vI k)]) hx hb dX2_isSure_1 rfl hl (by decide) rfl (fun ls hl => ?_)
  have cut_2 : ∀ (n_ : Nat) (qi : Int) (ls : Array Slot), lv_has ls 3 [(0, .ref f0), (1, vI k), (2, vI qi)] → (0 ≤ qi ∧ qi ≤ nf) → (∀ j : Int, 0 ≤ j ∧ j < qi → j ≠ k → kBl (K j) 0 ≠ kBl (K k) 0) → (nf - qi).toNat < n_ → W p l e (headSpec (Cond.code yX2_isSure cX2_isSure 3 (some .boolean) :: tb) ({ frames := 2, cells := 0, slots := 0, locals := 44 } : Room)).room s m ([.ref f0, vI k] : List Value).toArray below meth c s.heap [] 0 0 (MQ below (vp_Si (fun r => r = iI (bZ (∀ j : Int, 0 ≤ j ∧ j < nf → j ≠ k → kBl (K j) 0 ≠ kBl (K k) 0)))) ([.ref f0, vI k] : List Value).toArray s 0 0 (fun _ => False)) (F0 m 2 ls []) := by
    intro n_
    induction n_ with
    | zero => exact fun qi ls hl hqi hqs hm_ => absurd hm_ (Nat.not_lt_zero _)
    | succ n_ ih_2 =>
      intro qi ls hl hqi hqs hm_
      refine lv_iload_n hx hb dX2_isSure_2 rfl (lv_at hl 2 rfl) ?_
      refine lv_aload_n hx hb dX2_isSure_3 rfl (lv_at hl 0 rfl) ?_
      refine z_get (v := vI nf) hC hK hP inX2 rfl 0 rfl 2 (by decide) tw_101 rfl dX2_isSure_4 ?_
      refine z_icmp_ge (tgt := 38) hx hb dX2_isSure_7 (by decide) (by omega) (fun c_7 => ?_) (fun c_7 => ?_)
      · refine lv_iconst (v := iI 1) hx hb dX2_isSure_38 rfl ?_
        exact z_bretR hC hr hlk ((bZ_t (fun j hj => hqs j (by omega))).symm) (by omega) dX2_isSure_39
      · refine lv_iload_n hx hb dX2_isSure_10 rfl (lv_at hl 2 rfl) ?_
        refine lv_iload_n hx hb dX2_isSure_11 rfl (lv_at hl 1 rfl) ?_
        refine z_icmp_eq (tgt := 32) hx hb dX2_isSure_12 (by decide) (by omega) (fun c_12 => ?_) (fun c_12 => ?_)
        · refine z_iinc (k := 2) (lv' := [(2, vI (qi + 1)), (0, .ref f0), (1, vI k)]) hx hb dX2_isSure_32 hl rfl (by decide) rfl (fun ls hl => ?_)
          refine lv_goto (tgt := 2) hx hb dX2_isSure_35 (by decide) ?_
          exact ih_2 (qi + 1) ls (lv_sub hl [1, 2, 0] rfl) (by omega) (fun j hj hne => Or.elim (show j < qi ∨ j = qi by omega) (fun h => hqs j (by omega) hne) (fun h => by rw [h]; first | exact absurd (h.trans c_12) hne | exact c_27)) (by omega)
        · refine lv_aload_n hx hb dX2_isSure_15 rfl (lv_at hl 0 rfl) ?_
          refine lv_iload_n hx hb dX2_isSure_16 rfl (lv_at hl 2 rfl) ?_
          refine lv_iconst (v := iI 0) hx hb dX2_isSure_17 rfl ?_
          refine z_rVi (q0 := 0) (ci := 2) (b := f0) (rest := []) hC hK hP (c_X2_blockOf l G f0 f1 h0 nf tm K qi 0 (by omega) (by omega) (by omega) (by omega)) mv_X2_blockOf tw_385 [0, 1] rfl rfl rfl rfl hl.1 rfl (Nat.le_of_ble_eq_true rfl) ⟨rfl, rfl, Nat.le_of_ble_eq_true rfl, Nat.le_of_ble_eq_true rfl⟩ ⟨Nat.le_of_ble_eq_true rfl, Nat.le_of_ble_eq_true rfl⟩ dX2_isSure_18 ?_
          refine lv_aload_n hx hb dX2_isSure_21 rfl (lv_at hl 0 rfl) ?_
          refine lv_iload_n hx hb dX2_isSure_22 rfl (lv_at hl 1 rfl) ?_
          refine lv_iconst (v := iI 0) hx hb dX2_isSure_23 rfl ?_
          refine z_rVi (q0 := 0) (ci := 2) (b := f0) (rest := [vI (kBl (K qi) 0)]) hC hK hP (c_X2_blockOf l G f0 f1 h0 nf tm K k 0 (by omega) (by omega) (by omega) (by omega)) mv_X2_blockOf tw_385 [0, 1] rfl rfl rfl rfl hl.1 rfl (Nat.le_of_ble_eq_true rfl) ⟨rfl, rfl, Nat.le_of_ble_eq_true rfl, Nat.le_of_ble_eq_true rfl⟩ ⟨Nat.le_of_ble_eq_true rfl, Nat.le_of_ble_eq_true rfl⟩ dX2_isSure_24 ?_
          refine z_icmp_ne (tgt := 32) hx hb dX2_isSure_27 (by decide) (by have h1 := kBl_bd (K qi) 0; have h2 := kBl_bd (K k) 0; omega) (fun c_27 => ?_) (fun c_27 => ?_)
          · refine z_iinc (k := 2) (lv' := [(2, vI (qi + 1)), (0, .ref f0), (1, vI k)]) hx hb dX2_isSure_32 hl rfl (by decide) rfl (fun ls hl => ?_)
            refine lv_goto (tgt := 2) hx hb dX2_isSure_35 (by decide) ?_
            exact ih_2 (qi + 1) ls (lv_sub hl [1, 2, 0] rfl) (by omega) (fun j hj hne => Or.elim (show j < qi ∨ j = qi by omega) (fun h => hqs j (by omega) hne) (fun h => by rw [h]; first | exact absurd (h.trans c_12) hne | exact c_27)) (by omega)
          · refine lv_iconst (v := iI 0) hx hb dX2_isSure_30 rfl ?_
            exact z_bretR hC hr hlk ((bZ_f (fun h => h qi (by omega) c_12 c_27)).symm) (by omega) dX2_isSure_31
  exact cut_2 ((nf - (0 : Int)).toNat + 1) 0 ls (lv_sub hl [1, 2, 0] rfl) (by omega) (fun j hj => by omega) (Nat.lt_succ_self _)

set_option maxRecDepth 100000 in
set_option maxHeartbeats 4000000 in
theorem c_X2_dataByteOf (l : Launch) (G : zGt) (f0 f1 h0 : Nat) (nf tm : Int) (K : Int → Int) (h1 : Nat) (n : Int) (f : Int → Int64) (k i : Int) (hnf : 0 ≤ nf ∧ nf ≤ 40) (hK0 : ∀ j : Int, 0 ≤ j ∧ j < nf → 0 ≤ K j ∧ K j < 268435456) (hk : 0 ≤ k ∧ k < nf) (hn : 0 ≤ n ∧ n ≤ 24) (hi : -2147483648 ≤ i ∧ i < 2147483648) : Met l yX2_dataByteOf (Cond.code yX2_dataByteOf cX2_dataByteOf 4 (some .int) :: tb) ({ frames := 3, cells := 0, slots := 0, locals := 65 } : Room) (zPr G [(f0, ob 2 [.ref h0, .ref f1, vI nf, vI tm]), (f1, aI G 40 K), (h0, ob 1 [.ref h1, vI n]), (h1, aJ G 24 f)] [.ref f0, vI k, vI i]) (vp_Si (fun r => r = iI (if 0 ≤ i ∧ i < byZ (if 0 ≤ kBl (K k) 0 ∧ kBl (K k) 0 < n then f (kBl (K k) 0) else 0) 2 then byZ (if 0 ≤ kBl (K k) ((3 + i) / 8) ∧ kBl (K k) ((3 + i) / 8) < n then f (kBl (K k) ((3 + i) / 8)) else 0) ((3 + i) % 8) else -1))) 0 0 (fun _ => False) := by
  refine Met.ofW (cc := cX2_dataByteOf) (maxL := 4) (ret := (some .int)) (by decide) rfl ?_
  intro p e s m args below meth c s₁ B hml hv
  obtain ⟨rfl, hP, hK⟩ := hv
  obtain ⟨hC, hr, hlk⟩ := z_begin B hml
  have hC : CallFix p m c cX2_dataByteOf 4 s _ tb RX2 := hC
  have hx := hC.1
  have hb := hC.2.1
  have hl := lv_entry ([.ref f0, vI k, vI i]) (n := 4) (Nat.le_of_ble_eq_true rfl)
  rw [lg_entry_eq]
  generalize (lg_sl ([.ref f0, vI k, vI i]) ++ List.replicate (4 - (lg_sl ([.ref f0, vI k, vI i])).length) Slot.unset).toArray = ls at hl ⊢
  have hl : lv_has ls 4 [(0, .ref f0), (1, vI k), (2, vI i)] := hl
  refine lv_iload_n hx hb dX2_dataByteOf_0 rfl (lv_at hl 2 rfl) ?_
  refine z_if_lt (tgt := 13) hx hb dX2_dataByteOf_1 (by decide) (by omega) (fun c_1 => ?_) (fun c_1 => ?_)
  · refine lv_iconst (v := iI (-1)) hx hb dX2_dataByteOf_13 rfl ?_
    exact z_iretR hC hr hlk (by rw [if_neg (by omega)]) dX2_dataByteOf_14
  · refine lv_iload_n hx hb dX2_dataByteOf_4 rfl (lv_at hl 2 rfl) ?_
    refine lv_aload_n hx hb dX2_dataByteOf_5 rfl (lv_at hl 0 rfl) ?_
    refine lv_iload_n hx hb dX2_dataByteOf_6 rfl (lv_at hl 1 rfl) ?_
    refine z_rVi (q0 := 0) (ci := 2) (b := f0) (rest := [vI i]) hC hK hP (c_X2_lengthOf l G f0 f1 h0 nf tm K h1 n f k (by omega) (by omega) (by omega) (by omega)) mv_X2_lengthOf tw_766 [0, 1, 2, 3] rfl rfl rfl rfl hl.1 rfl (Nat.le_of_ble_eq_true rfl) ⟨rfl, rfl, Nat.le_of_ble_eq_true rfl, Nat.le_of_ble_eq_true rfl⟩ ⟨Nat.le_of_ble_eq_true rfl, Nat.le_of_ble_eq_true rfl⟩ dX2_dataByteOf_7 ?_
    have hlb := byZ_bd (if 0 ≤ kBl (K k) 0 ∧ kBl (K k) 0 < n then f (kBl (K k) 0) else 0) 2
    refine z_icmp_lt (tgt := 15) hx hb dX2_dataByteOf_10 (by decide) (by omega) (fun c_10 => ?_) (fun c_10 => ?_)
    · refine lv_iconst (v := iI 3) hx hb dX2_dataByteOf_15 rfl ?_
      refine lv_iload_n hx hb dX2_dataByteOf_16 rfl (lv_at hl 2 rfl) ?_
      refine z_iadd hx hb dX2_dataByteOf_17 ?_
      refine lv_istore_n (lv' := [(3, vI (3 + i)), (0, .ref f0), (1, vI k), (2, vI i)]) hx hb dX2_dataByteOf_18 rfl hl (by decide) rfl (fun ls hl => ?_)
      refine lv_aload_n hx hb dX2_dataByteOf_19 rfl (lv_at hl 1 rfl) ?_
      refine z_get (v := .ref h0) hC hK hP inX2 rfl 0 rfl 0 (by decide) tw_99 rfl dX2_dataByteOf_20 ?_
      refine lv_aload_n hx hb dX2_dataByteOf_23 rfl (lv_at hl 1 rfl) ?_
      refine lv_iload_n hx hb dX2_dataByteOf_24 rfl (lv_at hl 2 rfl) ?_
      refine lv_iload_n hx hb dX2_dataByteOf_25 rfl (lv_at hl 0 rfl) ?_
      refine lv_bipush (v := iI 8) hx hb dX2_dataByteOf_26 (by decide) ?_
      refine z_idiv hx hb dX2_dataByteOf_28 (by omega) ?_
      refine z_top (y := (3 + i) / 8) (zdiv_nat (by omega) (by omega)) ?_
      refine z_rVi (q0 := 0) (ci := 2) (b := f0) (rest := [.ref h0]) hC hK hP (c_X2_blockOf l G f0 f1 h0 nf tm K k ((3 + i) / 8) (by omega) (by omega) (by omega) (by omega)) mv_X2_blockOf tw_385 [0, 1] rfl rfl rfl rfl hl.1 rfl (Nat.le_of_ble_eq_true rfl) ⟨rfl, rfl, Nat.le_of_ble_eq_true rfl, Nat.le_of_ble_eq_true rfl⟩ ⟨Nat.le_of_ble_eq_true rfl, Nat.le_of_ble_eq_true rfl⟩ dX2_dataByteOf_29 ?_
      refine lv_iload_n hx hb dX2_dataByteOf_32 rfl (lv_at hl 0 rfl) ?_
      refine lv_bipush (v := iI 8) hx hb dX2_dataByteOf_33 (by decide) ?_
      refine z_irem hx hb dX2_dataByteOf_35 (by omega) ?_
      refine z_top (y := (3 + i) % 8) (zrem_nat (by omega) (by omega)) ?_
      have hkb := kBl_bd (K k) ((3 + i) / 8)
      refine z_rVi (q0 := 2) (ci := 1) (b := h0) (rest := []) hC hK hP (c_X1_byteAt l G h0 h1 n f (kBl (K k) ((3 + i) / 8)) ((3 + i) % 8) (by omega) (by omega)) mv_X1_byteAt tw_743 [2, 3] rfl rfl rfl rfl hl.1 rfl (Nat.le_of_ble_eq_true rfl) ⟨rfl, rfl, Nat.le_of_ble_eq_true rfl, Nat.le_of_ble_eq_true rfl⟩ ⟨Nat.le_of_ble_eq_true rfl, Nat.le_of_ble_eq_true rfl⟩ dX2_dataByteOf_36 ?_
      exact z_iretR hC hr hlk ((if_pos ⟨c_1, c_10⟩).symm) dX2_dataByteOf_39
    · refine lv_iconst (v := iI (-1)) hx hb dX2_dataByteOf_13 rfl ?_
      exact z_iretR hC hr hlk (by rw [if_neg (by omega)]) dX2_dataByteOf_14

set_option maxRecDepth 100000 in
set_option maxHeartbeats 4000000 in
theorem c_X2_add (l : Launch) (G : zGt) (sz : Nat) (f0 f1 h0 : Nat) (nf tm : Int) (K : Int → Int) (r0 : Nat) (F : Int → Int) (mm rn : Int) (hnf : 0 ≤ nf ∧ nf ≤ 40) (hK0 : ∀ j : Int, 0 ≤ j ∧ j < nf → 0 ≤ K j ∧ K j < 268435456) (hr0 : 0 ≤ rn ∧ rn ≤ 5) : Met l yX2_add (Cond.code yX2_add cX2_add 6 none :: tb) ({ frames := 1, cells := 0, slots := 0, locals := 24 } : Room) (zPw G [(f0, ob 2 [.ref h0, .ref f1, vI nf, vI tm]), (f1, aI G 40 K), (r0, aI G 5 F)] sz [.ref f0, .ref r0, vI rn, vI mm]) (va_Qv (fun u : (Int → Int) × Int × Int × Int => (nf < 40 → u.2.1 = nf + 1 ∧ u.2.2.1 = tm ∧ (0 ≤ u.2.2.2 ∧ u.2.2.2 ≤ nf) ∧ (u.2.2.2 = 0 ∨ K (u.2.2.2 - 1) ≤ kyZ F rn mm) ∧ (∀ j : Int, u.2.2.2 ≤ j ∧ j < nf → kyZ F rn mm < K j) ∧ u.1 = insZ K nf u.2.2.2 (kyZ F rn mm)) ∧ (40 ≤ nf → u.2.1 = nf ∧ u.2.2.1 = 1 ∧ u.1 = K)) (fun (u : (Int → Int) × Int × Int × Int) t => zB G [(f0, ob 2 [.ref h0, .ref f1, vI nf, vI tm]), (f1, aI G 40 K), (r0, aI G 5 F)] sz [(f0, ob 2 [.ref h0, .ref f1, vI u.2.1, vI u.2.2.1]), (f1, aI G 40 u.1), (r0, aI G 5 F)] t) (va_A [(f0, ob 2 [.ref h0, .ref f1, vI nf, vI tm]), (f1, aI G 40 K), (r0, aI G 5 F)] sz)) 0 0 (va_A [(f0, ob 2 [.ref h0, .ref f1, vI nf, vI tm]), (f1, aI G 40 K), (r0, aI G 5 F)] sz) := by
  refine Met.ofW (cc := cX2_add) (maxL := 6) (ret := none) (by decide) rfl ?_
  intro p e s m args below meth c s₁ B hml hv
  obtain ⟨rfl, hsz, hP, hK, hD0⟩ := hv
  subst hsz
  have hD := hD0.self (sz := s.heap.size)
  obtain ⟨A, hAe⟩ : ∃ A : Nat → Prop, A = va_A [(f0, ob 2 [.ref h0, .ref f1, vI nf, vI tm]), (f1, aI G 40 K), (r0, aI G 5 F)] s.heap.size := ⟨_, rfl⟩
  rw [← hAe] at hD
  have hA : ∀ q : Nat, s.heap.size ≤ q → A q := fun q h => by rw [hAe]; exact Or.inr h
  have hS : va_S A s.heap s.heap [] := va_S.rf
  obtain ⟨hC, hr, hlk⟩ := z_begin B hml
  have hC : CallFix p m c cX2_add 6 s _ tb RX2 := hC
  have hx := hC.1
  have hb := hC.2.1
  have hl := lv_entry ([.ref f0, .ref r0, vI rn, vI mm]) (n := 6) (Nat.le_of_ble_eq_true rfl)
  rw [lg_entry_eq]
  generalize (lg_sl ([.ref f0, .ref r0, vI rn, vI mm]) ++ List.replicate (6 - (lg_sl ([.ref f0, .ref r0, vI rn, vI mm])).length) Slot.unset).toArray = ls at hl ⊢
  have hl : lv_has ls 6 [(0, .ref f0), (1, .ref r0), (2, vI rn), (3, vI mm)] := hl
  obtain ⟨H, hHe⟩ : ∃ H : Heap, H = s.heap := ⟨_, rfl⟩
  obtain ⟨locs, hLe⟩ : ∃ L : List Loc, L = [] := ⟨_, rfl⟩
  suffices hgo : W p l e (headSpec (Cond.code yX2_add cX2_add 6 none :: tb) ({ frames := 1, cells := 0, slots := 0, locals := 24 } : Room)).room s m ([.ref f0, .ref r0, vI rn, vI mm] : List Value).toArray below meth c H locs 0 0 (MQ below (va_Qv (fun u : (Int → Int) × Int × Int × Int => (nf < 40 → u.2.1 = nf + 1 ∧ u.2.2.1 = tm ∧ (0 ≤ u.2.2.2 ∧ u.2.2.2 ≤ nf) ∧ (u.2.2.2 = 0 ∨ K (u.2.2.2 - 1) ≤ kyZ F rn mm) ∧ (∀ j : Int, u.2.2.2 ≤ j ∧ j < nf → kyZ F rn mm < K j) ∧ u.1 = insZ K nf u.2.2.2 (kyZ F rn mm)) ∧ (40 ≤ nf → u.2.1 = nf ∧ u.2.2.1 = 1 ∧ u.1 = K)) (fun (u : (Int → Int) × Int × Int × Int) t => zB G [(f0, ob 2 [.ref h0, .ref f1, vI nf, vI tm]), (f1, aI G 40 K), (r0, aI G 5 F)] s.heap.size [(f0, ob 2 [.ref h0, .ref f1, vI u.2.1, vI u.2.2.1]), (f1, aI G 40 u.1), (r0, aI G 5 F)] t) (va_A [(f0, ob 2 [.ref h0, .ref f1, vI nf, vI tm]), (f1, aI G 40 K), (r0, aI G 5 F)] s.heap.size)) ([.ref f0, .ref r0, vI rn, vI mm] : List Value).toArray s 0 0 (va_A [(f0, ob 2 [.ref h0, .ref f1, vI nf, vI tm]), (f1, aI G 40 K), (r0, aI G 5 F)] s.heap.size)) (F0 m 0 ls []) by rw [hHe, hLe] at hgo; exact hgo
  rw [← hHe] at hP
  have hS : va_S A s.heap H locs := by rw [hHe, hLe]; exact hS
  clear hHe hLe
  refine lv_aload_n hx hb dX2_add_0 rfl (lv_at hl 0 rfl) ?_
  refine z_get (v := vI nf) hC hK hP inX2 rfl 0 rfl 2 (by decide) tw_101 rfl dX2_add_1 ?_
  refine lv_bipush (v := iI 40) hx hb dX2_add_4 (by decide) ?_
  refine z_icmp_lt (tgt := 15) hx hb dX2_add_6 (by decide) (by omega) (fun c_6 => ?_) (fun c_6 => ?_)
  · refine lv_aload_n hx hb dX2_add_15 rfl (lv_at hl 1 rfl) ?_
    refine lv_iload_n hx hb dX2_add_16 rfl (lv_at hl 2 rfl) ?_
    refine lv_iload_n hx hb dX2_add_17 rfl (lv_at hl 3 rfl) ?_
    refine z_rSi (rest := []) hC hK hP (c_X2_keyOf l G r0 F rn mm (by omega)) ms_X2_keyOf tw_336 [2] rfl rfl hl.1 rfl (Nat.le_of_ble_eq_true rfl) ⟨rfl, rfl, Nat.le_of_ble_eq_true rfl, Nat.le_of_ble_eq_true rfl⟩ ⟨Nat.le_of_ble_eq_true rfl, Nat.le_of_ble_eq_true rfl⟩ dX2_add_18 ?_
    refine lv_istore (lv' := [(4, vI (kyZ F rn mm)), (0, .ref f0), (1, .ref r0), (2, vI rn), (3, vI mm)]) hx hb dX2_add_21 hl (by decide) rfl (fun ls hl => ?_)
    refine lv_aload_n hx hb dX2_add_23 rfl (lv_at hl 1 rfl) ?_
    refine z_get (v := vI nf) hC hK hP inX2 rfl 0 rfl 2 (by decide) tw_101 rfl dX2_add_24 ?_
    refine lv_istore (lv' := [(5, vI nf), (4, vI (kyZ F rn mm)), (0, .ref f0), (1, .ref r0), (2, vI rn), (3, vI mm)]) hx hb dX2_add_27 hl (by decide) rfl (fun ls hl => ?_)
    have cut_29 : ∀ (n_ : Nat) (qa : Int) (qF : Int → Int) (H : Heap) (locs : List Loc) (ls : Array Slot), va_P G.1 vwCl [(f0, ob 2 [.ref h0, .ref f1, vI nf, vI tm]), (f1, aI G 40 qF), (r0, aI G 5 F)] H → va_D A [(f0, ob 2 [.ref h0, .ref f1, vI nf, vI tm]), (f1, aI G 40 qF), (r0, aI G 5 F)] → va_S A s.heap H locs → lv_has ls 6 [(0, .ref f0), (1, .ref r0), (2, vI rn), (3, vI mm), (4, vI (kyZ F rn mm)), (5, vI qa)] → (0 ≤ qa ∧ qa ≤ nf) → (qF = shZ K nf qa) → (∀ j : Int, qa ≤ j ∧ j < nf → kyZ F rn mm < K j) → qa.toNat < n_ → W p l e (headSpec (Cond.code yX2_add cX2_add 6 none :: tb) ({ frames := 1, cells := 0, slots := 0, locals := 24 } : Room)).room s m ([.ref f0, .ref r0, vI rn, vI mm] : List Value).toArray below meth c H locs 0 0 (MQ below (va_Qv (fun u : (Int → Int) × Int × Int × Int => (nf < 40 → u.2.1 = nf + 1 ∧ u.2.2.1 = tm ∧ (0 ≤ u.2.2.2 ∧ u.2.2.2 ≤ nf) ∧ (u.2.2.2 = 0 ∨ K (u.2.2.2 - 1) ≤ kyZ F rn mm) ∧ (∀ j : Int, u.2.2.2 ≤ j ∧ j < nf → kyZ F rn mm < K j) ∧ u.1 = insZ K nf u.2.2.2 (kyZ F rn mm)) ∧ (40 ≤ nf → u.2.1 = nf ∧ u.2.2.1 = 1 ∧ u.1 = K)) (fun (u : (Int → Int) × Int × Int × Int) t => zB G [(f0, ob 2 [.ref h0, .ref f1, vI nf, vI tm]), (f1, aI G 40 K), (r0, aI G 5 F)] s.heap.size [(f0, ob 2 [.ref h0, .ref f1, vI u.2.1, vI u.2.2.1]), (f1, aI G 40 u.1), (r0, aI G 5 F)] t) (va_A [(f0, ob 2 [.ref h0, .ref f1, vI nf, vI tm]), (f1, aI G 40 K), (r0, aI G 5 F)] s.heap.size)) ([.ref f0, .ref r0, vI rn, vI mm] : List Value).toArray s 0 0 (va_A [(f0, ob 2 [.ref h0, .ref f1, vI nf, vI tm]), (f1, aI G 40 K), (r0, aI G 5 F)] s.heap.size)) (F0 m 29 ls []) := by
      intro n_
      induction n_ with
      | zero => exact fun qa qF H locs ls hP hD hS hl hqa hqF hqg hm_ => absurd hm_ (Nat.not_lt_zero _)
      | succ n_ ih_29 =>
        intro qa qF H locs ls hP hD hS hl hqa hqF hqg hm_
        refine lv_iload hx hb dX2_add_29 (lv_at hl 5 rfl) ?_
        refine z_if_le (tgt := 70) hx hb dX2_add_31 (by decide) (by omega) (fun c_31 => ?_) (fun c_31 => ?_)
        · have hfin : zup qF qa (kyZ F rn mm) = insZ K nf qa (kyZ F rn mm) := by rw [hqF]; exact insZ_e K
          refine lv_aload_n hx hb dX2_add_70 rfl (lv_at hl 0 rfl) ?_
          refine z_get (v := .ref f1) hC hK hP inX2 rfl 0 rfl 1 (by decide) tw_100 rfl dX2_add_71 ?_
          refine lv_iload hx hb dX2_add_74 (lv_at hl 5 rfl) ?_
          refine lv_iload hx hb dX2_add_76 (lv_at hl 4 rfl) ?_
          refine z_iast (ws' := [(f0, ob 2 [.ref h0, .ref f1, vI nf, vI tm]), (f1, aI G 40 (zup qF qa (kyZ F rn mm))), (r0, aI G 5 F)]) hC hK hP hD hS 1 rfl (by omega) (by decide) rfl dX2_add_78 (fun H locs hP hD hS => ?_)
          refine lv_aload_n hx hb dX2_add_79 rfl (lv_at hl 0 rfl) ?_
          refine lv_dup hx hb dX2_add_80 rfl ?_
          refine z_get (v := vI nf) hC hK hP inX2 rfl 0 rfl 2 (by decide) tw_101 rfl dX2_add_81 ?_
          refine lv_iconst (v := iI 1) hx hb dX2_add_84 rfl ?_
          refine z_iadd hx hb dX2_add_85 ?_
          refine z_put (ws' := [(f0, ob 2 [.ref h0, .ref f1, vI (nf + 1), vI tm]), (f1, aI G 40 (zup qF qa (kyZ F rn mm))), (r0, aI G 5 F)]) hC hK hP hD hS inX2 tyX2 tyX2_ok nmX2 rfl 0 rfl 2 (by decide) tw_101 rfl rfl rfl (Nat.le_of_ble_eq_true rfl) rfl dX2_add_86 (fun H locs hP hD hS => ?_)
          exact z_vretW hC hr hlk ⟨zup qF qa (kyZ F rn mm), nf + 1, tm, qa⟩ hAe hP hD hS [0, 1, 2] (by decide) rfl rfl (⟨fun h => ⟨rfl, rfl, hqa, (by first | (rw [hq1] at c_45; exact Or.inr c_45) | exact Or.inl (show qa = 0 by omega)), hqg, hfin⟩, fun h => absurd h (by omega)⟩) dX2_add_89
        · refine lv_aload_n hx hb dX2_add_34 rfl (lv_at hl 0 rfl) ?_
          refine z_get (v := .ref f1) hC hK hP inX2 rfl 0 rfl 1 (by decide) tw_100 rfl dX2_add_35 ?_
          refine lv_iload hx hb dX2_add_38 (lv_at hl 5 rfl) ?_
          refine lv_iconst (v := iI 1) hx hb dX2_add_40 rfl ?_
          refine z_isub hx hb dX2_add_41 ?_
          refine z_iald hC hK hP 1 rfl (by omega) (by decide) dX2_add_42 ?_
          refine lv_iload hx hb dX2_add_43 (lv_at hl 4 rfl) ?_
          have hq1 : qF (qa - 1) = K (qa - 1) := by rw [hqF]; exact shZ_lo K (by omega)
          have hq2 := hK0 (qa - 1) (by omega)
          have hq3 : -2147483648 ≤ kyZ F rn mm ∧ kyZ F rn mm < 2147483648 := zor_rng _ _
          refine z_icmp_le (tgt := 70) hx hb dX2_add_45 (by decide) (by rw [hq1]; omega) (fun c_45 => ?_) (fun c_45 => ?_)
          · have hfin : zup qF qa (kyZ F rn mm) = insZ K nf qa (kyZ F rn mm) := by rw [hqF]; exact insZ_e K
            refine lv_aload_n hx hb dX2_add_70 rfl (lv_at hl 0 rfl) ?_
            refine z_get (v := .ref f1) hC hK hP inX2 rfl 0 rfl 1 (by decide) tw_100 rfl dX2_add_71 ?_
            refine lv_iload hx hb dX2_add_74 (lv_at hl 5 rfl) ?_
            refine lv_iload hx hb dX2_add_76 (lv_at hl 4 rfl) ?_
            refine z_iast (ws' := [(f0, ob 2 [.ref h0, .ref f1, vI nf, vI tm]), (f1, aI G 40 (zup qF qa (kyZ F rn mm))), (r0, aI G 5 F)]) hC hK hP hD hS 1 rfl (by omega) (by decide) rfl dX2_add_78 (fun H locs hP hD hS => ?_)
            refine lv_aload_n hx hb dX2_add_79 rfl (lv_at hl 0 rfl) ?_
            refine lv_dup hx hb dX2_add_80 rfl ?_
            refine z_get (v := vI nf) hC hK hP inX2 rfl 0 rfl 2 (by decide) tw_101 rfl dX2_add_81 ?_
            refine lv_iconst (v := iI 1) hx hb dX2_add_84 rfl ?_
            refine z_iadd hx hb dX2_add_85 ?_
            refine z_put (ws' := [(f0, ob 2 [.ref h0, .ref f1, vI (nf + 1), vI tm]), (f1, aI G 40 (zup qF qa (kyZ F rn mm))), (r0, aI G 5 F)]) hC hK hP hD hS inX2 tyX2 tyX2_ok nmX2 rfl 0 rfl 2 (by decide) tw_101 rfl rfl rfl (Nat.le_of_ble_eq_true rfl) rfl dX2_add_86 (fun H locs hP hD hS => ?_)
            exact z_vretW hC hr hlk ⟨zup qF qa (kyZ F rn mm), nf + 1, tm, qa⟩ hAe hP hD hS [0, 1, 2] (by decide) rfl rfl (⟨fun h => ⟨rfl, rfl, hqa, (by first | (rw [hq1] at c_45; exact Or.inr c_45) | exact Or.inl (show qa = 0 by omega)), hqg, hfin⟩, fun h => absurd h (by omega)⟩) dX2_add_89
          · refine lv_aload_n hx hb dX2_add_48 rfl (lv_at hl 0 rfl) ?_
            refine z_get (v := .ref f1) hC hK hP inX2 rfl 0 rfl 1 (by decide) tw_100 rfl dX2_add_49 ?_
            refine lv_iload hx hb dX2_add_52 (lv_at hl 5 rfl) ?_
            refine lv_aload_n hx hb dX2_add_54 rfl (lv_at hl 0 rfl) ?_
            refine z_get (v := .ref f1) hC hK hP inX2 rfl 0 rfl 1 (by decide) tw_100 rfl dX2_add_55 ?_
            refine lv_iload hx hb dX2_add_58 (lv_at hl 5 rfl) ?_
            refine lv_iconst (v := iI 1) hx hb dX2_add_60 rfl ?_
            refine z_isub hx hb dX2_add_61 ?_
            refine z_iald hC hK hP 1 rfl (by omega) (by decide) dX2_add_62 ?_
            refine z_iast (ws' := [(f0, ob 2 [.ref h0, .ref f1, vI nf, vI tm]), (f1, aI G 40 (zup qF qa (qF (qa - 1)))), (r0, aI G 5 F)]) hC hK hP hD hS 1 rfl (by omega) (by decide) rfl dX2_add_63 (fun H locs hP hD hS => ?_)
            refine z_iinc (k := 5) (lv' := [(5, vI (qa + (-1))), (0, .ref f0), (1, .ref r0), (2, vI rn), (3, vI mm), (4, vI (kyZ F rn mm))]) hx hb dX2_add_64 hl rfl (by decide) rfl (fun ls hl => ?_)
            refine lv_goto (tgt := 29) hx hb dX2_add_67 (by decide) ?_
            exact ih_29 (qa + (-1)) (zup qF qa (qF (qa - 1))) H locs ls hP hD hS (lv_sub hl [1, 2, 3, 4, 5, 0] rfl) (by omega) (by rw [hqF]; exact shZ_s K (by omega)) (fun j hj => Or.elim (show qa ≤ j ∨ j = qa - 1 by omega) (fun h => hqg j (by omega)) (fun h => by rw [h, ← hq1]; exact c_45)) (by omega)
    exact cut_29 (nf.toNat + 1) nf K H locs ls hP hD hS (lv_sub hl [2, 3, 4, 5, 1, 0] rfl) (by omega) ((shZ_0 K nf).symm) (fun j hj => by omega) (Nat.lt_succ_self _)
  · refine lv_aload_n hx hb dX2_add_9 rfl (lv_at hl 0 rfl) ?_
    refine lv_iconst (v := iI 1) hx hb dX2_add_10 rfl ?_
    refine z_put (ws' := [(f0, ob 2 [.ref h0, .ref f1, vI nf, vI 1]), (f1, aI G 40 K), (r0, aI G 5 F)]) hC hK hP hD hS inX2 tyX2 tyX2_ok nmX2 rfl 0 rfl 3 (by decide) tw_102 rfl (by rfl) (by rfl) (Nat.le_of_ble_eq_true rfl) rfl dX2_add_11 (fun H locs hP hD hS => ?_)
    exact z_vretW hC hr hlk ⟨K, nf, 1, 0⟩ hAe hP hD hS [0, 1, 2] (by decide) rfl rfl (⟨fun h => absurd h (by omega), fun h => ⟨rfl, rfl, rfl⟩⟩) dX2_add_14
