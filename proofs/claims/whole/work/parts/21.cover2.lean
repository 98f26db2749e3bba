theorem ms_J7_fill_53178 : zMS yJ7_fill_53178 cJ7_fill_53178 4 none 2 := ⟨tw_364, tw_363, tw_51, by decide +kernel⟩
theorem mv_X2_blocksThen : zMV yX2_blocksThen cX2_blocksThen 1 (some .int) RX2 0 := ⟨tw_452, tw_450, tw_451, tw_38, by decide +kernel⟩
theorem mv_X2_costOf : zMV yX2_costOf cX2_costOf 5 (some .int) RX2 1 := ⟨tw_390, tw_388, tw_389, tw_38, by decide +kernel⟩
theorem mv_X2_size : zMV yX2_size cX2_size 1 (some .int) RX2 0 := ⟨tw_361, tw_359, tw_360, tw_38, by decide +kernel⟩

set_option maxRecDepth 100000 in
set_option maxHeartbeats 4000000 in
theorem c_J7_fill_53178 (l : Launch) (G : zGt) (sz : Nat) (z0 : Nat) (FF : Int → Int) (v : Int)  : Met l yJ7_fill_53178 (Cond.code yJ7_fill_53178 cJ7_fill_53178 4 none :: tb) ({ frames := 0, cells := 0, slots := 0, locals := 0 } : Room) (zPw G [(z0, aI G 7 FF)] sz [.ref z0, vI v]) (va_Qv (fun u : Unit => True) (fun (u : Unit) t => zB G [(z0, aI G 7 FF)] sz [(z0, aI G 7 (zfl FF v 7))] t) (va_A [(z0, aI G 7 FF)] sz)) 0 0 (va_A [(z0, aI G 7 FF)] sz) := by
  refine va_MetF (cc := cJ7_fill_53178) (maxL := 4) (ret := none) (by decide +kernel) rfl ?_
  intro p e s m args below meth c s₁ B hml hv
  obtain ⟨rfl, hsz, hP, hK, hD0⟩ := hv
  subst hsz
  have hD := hD0.self (sz := s.heap.size)
  obtain ⟨A, hAe⟩ : ∃ A : Nat → Prop, A = va_A [(z0, aI G 7 FF)] s.heap.size := ⟨_, rfl⟩
  rw [← hAe] at hD
  have hA : ∀ q : Nat, s.heap.size ≤ q → A q := fun q h => by rw [hAe]; exact Or.inr h
  have hS : va_S A s.heap s.heap [] := va_S.rf
  obtain ⟨hC, hr, hlk⟩ := z_begin B hml
  have hC : CallFix p m c cJ7_fill_53178 4 s _ tb RJ7 := hC
  have hx := hC.1
  have hb := hC.2.1
  have hl := lv_entry ([.ref z0, vI v]) (n := 4) (Nat.le_of_ble_eq_true rfl)
  rw [lg_entry_eq]
  generalize (lg_sl ([.ref z0, vI v]) ++ List.replicate (4 - (lg_sl ([.ref z0, vI v])).length) Slot.unset).toArray = ls at hl ⊢
  have hl : lv_has ls 4 [(0, .ref z0), (1, vI v)] := hl
  obtain ⟨H, hHe⟩ : ∃ H : Heap, H = s.heap := ⟨_, rfl⟩
  obtain ⟨locs, hLe⟩ : ∃ L : List Loc, L = [] := ⟨_, rfl⟩
  suffices hgo : W p l e (headSpec (Cond.code yJ7_fill_53178 cJ7_fill_53178 4 none :: tb) ({ frames := 0, cells := 0, slots := 0, locals := 0 } : Room)).room s m ([.ref z0, vI v] : List Value).toArray below meth c H locs 0 0 (MQ below (va_Qv (fun u : Unit => True) (fun (u : Unit) t => zB G [(z0, aI G 7 FF)] s.heap.size [(z0, aI G 7 (zfl FF v 7))] t) (va_A [(z0, aI G 7 FF)] s.heap.size)) ([.ref z0, vI v] : List Value).toArray s 0 0 (va_A [(z0, aI G 7 FF)] s.heap.size)) (F0 m 0 ls []) by rw [hHe, hLe] at hgo; exact hgo
  rw [← hHe] at hP
  have hS : va_S A s.heap H locs := by rw [hHe, hLe]; exact hS
  clear hHe hLe
  refine lv_iconst (v := iI 0) hx hb dJ7_fill_53178_0 rfl ?_
  refine lv_istore_n (lv' := [(2, vI 0), (0, .ref z0), (1, vI v)]) hx hb dJ7_fill_53178_1 rfl hl (by decide) rfl (fun ls hl => ?_)
  refine lv_aload_n hx hb dJ7_fill_53178_2 rfl (lv_at hl 1 rfl) ?_
  refine z_alen hC hK hP 0 rfl dJ7_fill_53178_3 ?_
  refine lv_istore_n (lv' := [(3, vI ((7 : Nat) : Int)), (2, vI 0), (0, .ref z0), (1, vI v)]) hx hb dJ7_fill_53178_4 rfl hl (by decide) rfl (fun ls hl => ?_)
  have cut_5 : ∀ (n_ : Nat) (qi : Int) (qF : Int → Int) (H : Heap) (locs : List Loc) (ls : Array Slot), va_P G.1 vwCl [(z0, aI G 7 qF)] H → va_D A [(z0, aI G 7 qF)] → va_S A s.heap H locs → lv_has ls 4 [(0, .ref z0), (1, vI v), (2, vI qi), (3, vI ((7 : Nat) : Int))] → (0 ≤ qi ∧ qi ≤ 7) → (qF = zfl FF v qi) → (7 - qi).toNat < n_ → W p l e (headSpec (Cond.code yJ7_fill_53178 cJ7_fill_53178 4 none :: tb) ({ frames := 0, cells := 0, slots := 0, locals := 0 } : Room)).room s m ([.ref z0, vI v] : List Value).toArray below meth c H locs 0 0 (MQ below (va_Qv (fun u : Unit => True) (fun (u : Unit) t => zB G [(z0, aI G 7 FF)] s.heap.size [(z0, aI G 7 (zfl FF v 7))] t) (va_A [(z0, aI G 7 FF)] s.heap.size)) ([.ref z0, vI v] : List Value).toArray s 0 0 (va_A [(z0, aI G 7 FF)] s.heap.size)) (F0 m 5 ls []) := by
    intro n_
    induction n_ with
    | zero => exact fun qi qF H locs ls hP hD hS hl hqi hqF hm_ => absurd hm_ (Nat.not_lt_zero _)
    | succ n_ ih_5 =>
      intro qi qF H locs ls hP hD hS hl hqi hqF hm_
      refine lv_iload_n hx hb dJ7_fill_53178_5 rfl (lv_at hl 2 rfl) ?_
      refine lv_iload_n hx hb dJ7_fill_53178_6 rfl (lv_at hl 3 rfl) ?_
      refine z_icmp_ge (tgt := 20) hx hb dJ7_fill_53178_7 (by decide) (by omega) (fun c_7 => ?_) (fun c_7 => ?_)
      · have hfin : qF = zfl FF v 7 := by rw [hqF, show qi = 7 by omega]
        have hP : va_P G.1 vwCl [(z0, aI G 7 (zfl FF v 7))] H := by rw [← hfin]; exact hP
        have hD : va_D A [(z0, aI G 7 (zfl FF v 7))] := by rw [← hfin]; exact hD
        exact z_vretW hC hr hlk () hAe hP hD hS [0] (by decide) rfl rfl (trivial) dJ7_fill_53178_20
      · refine lv_aload_n hx hb dJ7_fill_53178_10 rfl (lv_at hl 0 rfl) ?_
        refine lv_iload_n hx hb dJ7_fill_53178_11 rfl (lv_at hl 2 rfl) ?_
        refine lv_iload_n hx hb dJ7_fill_53178_12 rfl (lv_at hl 1 rfl) ?_
        refine z_iast (ws' := [(z0, aI G 7 (zup qF qi v))]) hC hK hP hD hS 0 rfl (by omega) (by decide) rfl dJ7_fill_53178_13 (fun H locs hP hD hS => ?_)
        refine z_iinc (k := 2) (lv' := [(2, vI (qi + 1)), (0, .ref z0), (1, vI v), (3, vI ((7 : Nat) : Int))]) hx hb dJ7_fill_53178_14 hl rfl (by decide) rfl (fun ls hl => ?_)
        refine lv_goto (tgt := 5) hx hb dJ7_fill_53178_17 (by decide) ?_
        exact ih_5 (qi + 1) (zup qF qi v) H locs ls hP hD hS (lv_sub hl [1, 2, 0, 3] rfl) (by omega) (by rw [hqF]; exact zfl_s FF (by omega)) (by omega)
  exact cut_5 ((7 - (0 : Int)).toNat + 1) 0 FF H locs ls hP hD hS (lv_sub hl [2, 3, 1, 0] rfl) (by omega) ((zfl_0 FF v).symm) (Nat.lt_succ_self _)

set_option maxRecDepth 100000 in
set_option maxHeartbeats 4000000 in
theorem c_X0_isTold (l : Launch) (G : zGt) (u0 u1 u2 u3 u4 u5 u6 f0 : Nat) (gr cn cg cb : Int) (hgr : 0 ≤ gr ∧ gr ≤ 40) : Met l yX0_isTold (Cond.code yX0_isTold cX0_isTold 1 (some .boolean) :: tb) ({ frames := 0, cells := 0, slots := 0, locals := 0 } : Room) (zPr G [(u0, ob 0 [.ref f0, vI gr, .ref u1, .ref u2, .ref u3, .ref u4, .ref u5, .ref u6, vI cn, vI cg, vI cb])] [.ref u0]) (vp_Si (fun r => r = iI (if gr ≤ 6 then 1 else 0))) 0 0 (fun _ => False) := by
  refine Met.ofW (cc := cX0_isTold) (maxL := 1) (ret := (some .boolean)) (by decide) rfl ?_
  intro p e s m args below meth c s₁ B hml hv
  obtain ⟨rfl, hP, hK⟩ := hv
  obtain ⟨hC, hr, hlk⟩ := z_begin B hml
  have hC : CallFix p m c cX0_isTold 1 s _ tb RX0 := hC
  have hx := hC.1
  have hb := hC.2.1
  have hl := lv_entry ([.ref u0]) (n := 1) (Nat.le_of_ble_eq_true rfl)
  rw [lg_entry_eq]
  generalize (lg_sl ([.ref u0]) ++ List.replicate (1 - (lg_sl ([.ref u0])).length) Slot.unset).toArray = ls at hl ⊢
  have hl : lv_has ls 1 [(0, .ref u0)] := hl
  refine lv_aload_n hx hb dX0_isTold_0 rfl (lv_at hl 0 rfl) ?_
  refine z_get (v := vI gr) hC hK hP inX0 rfl 0 rfl 1 (by decide) tw_165 rfl dX0_isTold_1 ?_
  refine lv_bipush (v := iI 6) hx hb dX0_isTold_4 (by decide) ?_
  refine z_icmp_gt (tgt := 13) hx hb dX0_isTold_6 (by decide) (by omega) (fun c_6 => ?_) (fun c_6 => ?_)
  · refine lv_iconst (v := iI 0) hx hb dX0_isTold_13 rfl ?_
    exact z_bretR hC hr hlk (by split <;> omega) (by omega) dX0_isTold_14
  · refine lv_iconst (v := iI 1) hx hb dX0_isTold_9 rfl ?_
    refine lv_goto (tgt := 14) hx hb dX0_isTold_10 (by decide) ?_
    exact z_bretR hC hr hlk (by split <;> omega) (by omega) dX0_isTold_14

set_option maxRecDepth 100000 in
set_option maxHeartbeats 4000000 in
theorem c_X0_keepTried (l : Launch) (G : zGt) (sz : Nat) (u0 u1 u2 u3 u4 u5 u6 f0 : Nat) (gr cn cg cb : Int) (TR CH : Int → Int) (x y z : Int)  : Met l yX0_keepTried (Cond.code yX0_keepTried cX0_keepTried 4 none :: tb) ({ frames := 1, cells := 0, slots := 0, locals := 18 } : Room) (zPw G [(u0, ob 0 [.ref f0, vI gr, .ref u1, .ref u2, .ref u3, .ref u4, .ref u5, .ref u6, vI cn, vI cg, vI cb]), (u5, aI G 6 TR), (u6, aI G 6 CH)] sz [.ref u0, vI x, vI y, vI z]) (va_Qv (fun u : Unit => True) (fun (u : Unit) t => zB G [(u0, ob 0 [.ref f0, vI gr, .ref u1, .ref u2, .ref u3, .ref u4, .ref u5, .ref u6, vI cn, vI cg, vI cb]), (u5, aI G 6 TR), (u6, aI G 6 CH)] sz [(u0, ob 0 [.ref f0, vI gr, .ref u1, .ref u2, .ref u3, .ref u4, .ref u5, .ref u6, vI x, vI z, vI y]), (u5, aI G 6 TR), (u6, aI G 6 (zcpy TR CH 6))] t) (va_A [(u0, ob 0 [.ref f0, vI gr, .ref u1, .ref u2, .ref u3, .ref u4, .ref u5, .ref u6, vI cn, vI cg, vI cb]), (u5, aI G 6 TR), (u6, aI G 6 CH)] sz)) 0 0 (va_A [(u0, ob 0 [.ref f0, vI gr, .ref u1, .ref u2, .ref u3, .ref u4, .ref u5, .ref u6, vI cn, vI cg, vI cb]), (u5, aI G 6 TR), (u6, aI G 6 CH)] sz) := by
  refine Met.ofW (cc := cX0_keepTried) (maxL := 4) (ret := none) (by decide) rfl ?_
  intro p e s m args below meth c s₁ B hml hv
  obtain ⟨rfl, hsz, hP, hK, hD0⟩ := hv
  subst hsz
  have hD := hD0.self (sz := s.heap.size)
  obtain ⟨A, hAe⟩ : ∃ A : Nat → Prop, A = va_A [(u0, ob 0 [.ref f0, vI gr, .ref u1, .ref u2, .ref u3, .ref u4, .ref u5, .ref u6, vI cn, vI cg, vI cb]), (u5, aI G 6 TR), (u6, aI G 6 CH)] s.heap.size := ⟨_, rfl⟩
  rw [← hAe] at hD
  have hA : ∀ q : Nat, s.heap.size ≤ q → A q := fun q h => by rw [hAe]; exact Or.inr h
  have hS : va_S A s.heap s.heap [] := va_S.rf
  obtain ⟨hC, hr, hlk⟩ := z_begin B hml
  have hC : CallFix p m c cX0_keepTried 4 s _ tb RX0 := hC
  have hx := hC.1
  have hb := hC.2.1
  have hl := lv_entry ([.ref u0, vI x, vI y, vI z]) (n := 4) (Nat.le_of_ble_eq_true rfl)
  rw [lg_entry_eq]
  generalize (lg_sl ([.ref u0, vI x, vI y, vI z]) ++ List.replicate (4 - (lg_sl ([.ref u0, vI x, vI y, vI z])).length) Slot.unset).toArray = ls at hl ⊢
  have hl : lv_has ls 4 [(0, .ref u0), (1, vI x), (2, vI y), (3, vI z)] := hl
  obtain ⟨H, hHe⟩ : ∃ H : Heap, H = s.heap := ⟨_, rfl⟩
  obtain ⟨locs, hLe⟩ : ∃ L : List Loc, L = [] := ⟨_, rfl⟩
  suffices hgo : W p l e (headSpec (Cond.code yX0_keepTried cX0_keepTried 4 none :: tb) ({ frames := 1, cells := 0, slots := 0, locals := 18 } : Room)).room s m ([.ref u0, vI x, vI y, vI z] : List Value).toArray below meth c H locs 0 0 (MQ below (va_Qv (fun u : Unit => True) (fun (u : Unit) t => zB G [(u0, ob 0 [.ref f0, vI gr, .ref u1, .ref u2, .ref u3, .ref u4, .ref u5, .ref u6, vI cn, vI cg, vI cb]), (u5, aI G 6 TR), (u6, aI G 6 CH)] s.heap.size [(u0, ob 0 [.ref f0, vI gr, .ref u1, .ref u2, .ref u3, .ref u4, .ref u5, .ref u6, vI x, vI z, vI y]), (u5, aI G 6 TR), (u6, aI G 6 (zcpy TR CH 6))] t) (va_A [(u0, ob 0 [.ref f0, vI gr, .ref u1, .ref u2, .ref u3, .ref u4, .ref u5, .ref u6, vI cn, vI cg, vI cb]), (u5, aI G 6 TR), (u6, aI G 6 CH)] s.heap.size)) ([.ref u0, vI x, vI y, vI z] : List Value).toArray s 0 0 (va_A [(u0, ob 0 [.ref f0, vI gr, .ref u1, .ref u2, .ref u3, .ref u4, .ref u5, .ref u6, vI cn, vI cg, vI cb]), (u5, aI G 6 TR), (u6, aI G 6 CH)] s.heap.size)) (F0 m 0 ls []) by rw [hHe, hLe] at hgo; exact hgo
  rw [← hHe] at hP
  have hS : va_S A s.heap H locs := by rw [hHe, hLe]; exact hS
  clear hHe hLe
  refine lv_aload_n hx hb dX0_keepTried_0 rfl (lv_at hl 0 rfl) ?_
  refine z_get (v := .ref u5) hC hK hP inX0 rfl 0 rfl 6 (by decide) tw_170 rfl dX0_keepTried_1 ?_
  refine lv_iconst (v := iI 0) hx hb dX0_keepTried_4 rfl ?_
  refine lv_aload_n hx hb dX0_keepTried_5 rfl (lv_at hl 0 rfl) ?_
  refine z_get (v := .ref u6) hC hK hP inX0 rfl 0 rfl 7 (by decide) tw_171 rfl dX0_keepTried_6 ?_
  refine lv_iconst (v := iI 0) hx hb dX0_keepTried_9 rfl ?_
  refine lv_bipush (v := iI 6) hx hb dX0_keepTried_10 (by decide) ?_
  refine z_copyi (rest := []) (ws' := [(u0, ob 0 [.ref f0, vI gr, .ref u1, .ref u2, .ref u3, .ref u4, .ref u5, .ref u6, vI cn, vI cg, vI cb]), (u5, aI G 6 TR), (u6, aI G 6 (zcpy TR CH 6))]) hC hK hP hD hS hl.1 tw_408 tw_247 tw_49 1 2 rfl rfl (by decide) rfl ⟨Nat.le_of_ble_eq_true rfl, Nat.le_of_ble_eq_true rfl⟩ dX0_keepTried_12 (fun H locs hP hD hS => ?_)
  refine lv_aload_n hx hb dX0_keepTried_15 rfl (lv_at hl 0 rfl) ?_
  refine lv_iload_n hx hb dX0_keepTried_16 rfl (lv_at hl 1 rfl) ?_
  refine z_put (ws' := [(u0, ob 0 [.ref f0, vI gr, .ref u1, .ref u2, .ref u3, .ref u4, .ref u5, .ref u6, vI x, vI cg, vI cb]), (u5, aI G 6 TR), (u6, aI G 6 (zcpy TR CH 6))]) hC hK hP hD hS inX0 tyX0 tyX0_ok nmX0 rfl 0 rfl 8 (by decide) tw_172 rfl rfl rfl (Nat.le_of_ble_eq_true rfl) rfl dX0_keepTried_17 (fun H locs hP hD hS => ?_)
  refine lv_aload_n hx hb dX0_keepTried_20 rfl (lv_at hl 0 rfl) ?_
  refine lv_iload_n hx hb dX0_keepTried_21 rfl (lv_at hl 3 rfl) ?_
  refine z_put (ws' := [(u0, ob 0 [.ref f0, vI gr, .ref u1, .ref u2, .ref u3, .ref u4, .ref u5, .ref u6, vI x, vI z, vI cb]), (u5, aI G 6 TR), (u6, aI G 6 (zcpy TR CH 6))]) hC hK hP hD hS inX0 tyX0 tyX0_ok nmX0 rfl 0 rfl 9 (by decide) tw_173 rfl rfl rfl (Nat.le_of_ble_eq_true rfl) rfl dX0_keepTried_22 (fun H locs hP hD hS => ?_)
  refine lv_aload_n hx hb dX0_keepTried_25 rfl (lv_at hl 0 rfl) ?_
  refine lv_iload_n hx hb dX0_keepTried_26 rfl (lv_at hl 2 rfl) ?_
  refine z_put (ws' := [(u0, ob 0 [.ref f0, vI gr, .ref u1, .ref u2, .ref u3, .ref u4, .ref u5, .ref u6, vI x, vI z, vI y]), (u5, aI G 6 TR), (u6, aI G 6 (zcpy TR CH 6))]) hC hK hP hD hS inX0 tyX0 tyX0_ok nmX0 rfl 0 rfl 10 (by decide) tw_174 rfl rfl rfl (Nat.le_of_ble_eq_true rfl) rfl dX0_keepTried_27 (fun H locs hP hD hS => ?_)
  exact z_vretW hC hr hlk () hAe hP hD hS [0, 1, 2] (by decide) rfl rfl (trivial) dX0_keepTried_30

set_option maxRecDepth 100000 in
set_option maxHeartbeats 4000000 in
theorem c_X0_fileAt (l : Launch) (G : zGt) (u0 u1 u2 u3 u4 u5 u6 f0 : Nat) (gr cn cg cb : Int) (CH : Int → Int) (i : Int) (hi : -2147483648 ≤ i ∧ i < 2147483648) (hcn : 0 ≤ cn ∧ cn ≤ 6) : Met l yX0_fileAt (Cond.code yX0_fileAt cX0_fileAt 2 (some .int) :: tb) ({ frames := 0, cells := 0, slots := 0, locals := 0 } : Room) (zPr G [(u0, ob 0 [.ref f0, vI gr, .ref u1, .ref u2, .ref u3, .ref u4, .ref u5, .ref u6, vI cn, vI cg, vI cb]), (u6, aI G 6 CH)] [.ref u0, vI i]) (vp_Si (fun r => r = iI (if 0 ≤ i ∧ i < cn then CH i else -1))) 0 0 (fun _ => False) := by
  refine Met.ofW (cc := cX0_fileAt) (maxL := 2) (ret := (some .int)) (by decide) rfl ?_
  intro p e s m args below meth c s₁ B hml hv
  obtain ⟨rfl, hP, hK⟩ := hv
  obtain ⟨hC, hr, hlk⟩ := z_begin B hml
  have hC : CallFix p m c cX0_fileAt 2 s _ tb RX0 := hC
  have hx := hC.1
  have hb := hC.2.1
  have hl := lv_entry ([.ref u0, vI i]) (n := 2) (Nat.le_of_ble_eq_true rfl)
  rw [lg_entry_eq]
  generalize (lg_sl ([.ref u0, vI i]) ++ List.replicate (2 - (lg_sl ([.ref u0, vI i])).length) Slot.unset).toArray = ls at hl ⊢
  have hl : lv_has ls 2 [(0, .ref u0), (1, vI i)] := hl
  refine lv_iload_n hx hb dX0_fileAt_0 rfl (lv_at hl 1 rfl) ?_
  refine z_if_lt (tgt := 21) hx hb dX0_fileAt_1 (by decide) (by omega) (fun c_1 => ?_) (fun c_1 => ?_)
  · refine lv_iconst (v := iI (-1)) hx hb dX0_fileAt_21 rfl ?_
    exact z_iretR hC hr hlk (by split <;> first | rfl | (exfalso; omega)) dX0_fileAt_22
  · refine lv_iload_n hx hb dX0_fileAt_4 rfl (lv_at hl 1 rfl) ?_
    refine lv_aload_n hx hb dX0_fileAt_5 rfl (lv_at hl 0 rfl) ?_
    refine z_get (v := vI cn) hC hK hP inX0 rfl 0 rfl 8 (by decide) tw_172 rfl dX0_fileAt_6 ?_
    refine z_icmp_ge (tgt := 21) hx hb dX0_fileAt_9 (by decide) (by omega) (fun c_9 => ?_) (fun c_9 => ?_)
    · refine lv_iconst (v := iI (-1)) hx hb dX0_fileAt_21 rfl ?_
      exact z_iretR hC hr hlk (by split <;> first | rfl | (exfalso; omega)) dX0_fileAt_22
    · refine lv_aload_n hx hb dX0_fileAt_12 rfl (lv_at hl 0 rfl) ?_
      refine z_get (v := .ref u6) hC hK hP inX0 rfl 0 rfl 7 (by decide) tw_171 rfl dX0_fileAt_13 ?_
      refine lv_iload_n hx hb dX0_fileAt_16 rfl (lv_at hl 1 rfl) ?_
      refine z_iald hC hK hP 1 rfl (by omega) (by decide) dX0_fileAt_17 ?_
      refine lv_goto (tgt := 22) hx hb dX0_fileAt_18 (by decide) ?_
      exact z_iretR hC hr hlk (by split <;> first | rfl | (exfalso; omega)) dX0_fileAt_22

set_option maxRecDepth 100000 in
set_option maxHeartbeats 4000000 in
theorem c_X0_costInAll (l : Launch) (G : zGt) (u0 u1 u2 u3 u4 u5 u6 f0 : Nat) (gr cn cg cb : Int) (CH : Int → Int) (f1 h0 : Nat) (nf tm : Int) (K : Int → Int) (hcn : 0 ≤ cn ∧ cn ≤ 6) (hnf : 0 ≤ nf ∧ nf ≤ 40) (hK0 : ∀ j : Int, 0 ≤ j ∧ j < nf → 0 ≤ K j ∧ K j < 268435456) (hch : ∀ i : Int, 0 ≤ i ∧ i < cn → 0 ≤ CH i ∧ CH i < nf) : Met l yX0_costInAll (Cond.code yX0_costInAll cX0_costInAll 3 (some .int) :: tb) ({ frames := 4, cells := 0, slots := 0, locals := 90 } : Room) (zPr G [(u0, ob 0 [.ref f0, vI gr, .ref u1, .ref u2, .ref u3, .ref u4, .ref u5, .ref u6, vI cn, vI cg, vI cb]), (u6, aI G 6 CH), (f0, ob 2 [.ref h0, .ref f1, vI nf, vI tm]), (f1, aI G 40 K)] [.ref u0]) (vp_Si (fun r => r = iI (sumZ (fun i => kCost (K (CH i))) cn.toNat))) 0 0 (fun _ => False) := by
  refine Met.ofW (cc := cX0_costInAll) (maxL := 3) (ret := (some .int)) (by decide) rfl ?_
  intro p e s m args below meth c s₁ B hml hv
  obtain ⟨rfl, hP, hK⟩ := hv
  obtain ⟨hC, hr, hlk⟩ := z_begin B hml
  have hC : CallFix p m c cX0_costInAll 3 s _ tb RX0 := hC
  have hx := hC.1
  have hb := hC.2.1
  have hl := lv_entry ([.ref u0]) (n := 3) (Nat.le_of_ble_eq_true rfl)
  rw [lg_entry_eq]
  generalize (lg_sl ([.ref u0]) ++ List.replicate (3 - (lg_sl ([.ref u0])).length) Slot.unset).toArray = ls at hl ⊢
  have hl : lv_has ls 3 [(0, .ref u0)] := hl
  refine lv_iconst (v := iI 0) hx hb dX0_costInAll_0 rfl ?_
  refine lv_istore_n (lv' := [(1, vI 0), (0, .ref u0)]) hx hb dX0_costInAll_1 rfl hl (by decide) rfl (fun ls hl => ?_)
  refine lv_iconst (v := iI 0) hx hb dX0_costInAll_2 rfl ?_
  refine lv_istore_n (lv' := [(2, vI 0), (1, vI 0), (0, .ref u0)]) hx hb dX0_costInAll_3 rfl hl (by decide) rfl (fun ls hl => ?_)
  have cut_4 : ∀ (n_ : Nat) (qi : Int) (qs : Int) (ls : Array Slot), lv_has ls 3 [(0, .ref u0), (1, vI qs), (2, vI qi)] → (0 ≤ qi ∧ qi ≤ cn) → (qs = sumZ (fun i => kCost (K (CH i))) qi.toNat) → (cn - qi).toNat < n_ → W p l e (headSpec (Cond.code yX0_costInAll cX0_costInAll 3 (some .int) :: tb) ({ frames := 4, cells := 0, slots := 0, locals := 90 } : Room)).room s m ([.ref u0] : List Value).toArray below meth c s.heap [] 0 0 (MQ below (vp_Si (fun r => r = iI (sumZ (fun i => kCost (K (CH i))) cn.toNat))) ([.ref u0] : List Value).toArray s 0 0 (fun _ => False)) (F0 m 4 ls []) := by
    intro n_
    induction n_ with
    | zero => exact fun qi qs ls hl hqi hqs hm_ => absurd hm_ (Nat.not_lt_zero _)
    | succ n_ ih_4 =>
      intro qi qs ls hl hqi hqs hm_
      refine lv_iload_n hx hb dX0_costInAll_4 rfl (lv_at hl 2 rfl) ?_
      refine lv_aload_n hx hb dX0_costInAll_5 rfl (lv_at hl 0 rfl) ?_
      refine z_get (v := vI cn) hC hK hP inX0 rfl 0 rfl 8 (by decide) tw_172 rfl dX0_costInAll_6 ?_
      refine z_icmp_ge (tgt := 34) hx hb dX0_costInAll_9 (by decide) (by omega) (fun c_9 => ?_) (fun c_9 => ?_)
      · refine lv_iload_n hx hb dX0_costInAll_34 rfl (lv_at hl 1 rfl) ?_
        exact z_iretR hC hr hlk (by rw [hqs, show qi = cn by omega]) dX0_costInAll_35
      · refine lv_iload_n hx hb dX0_costInAll_12 rfl (lv_at hl 1 rfl) ?_
        refine lv_aload_n hx hb dX0_costInAll_13 rfl (lv_at hl 0 rfl) ?_
        refine z_get (v := .ref f0) hC hK hP inX0 rfl 0 rfl 0 (by decide) tw_164 rfl dX0_costInAll_14 ?_
        refine lv_aload_n hx hb dX0_costInAll_17 rfl (lv_at hl 0 rfl) ?_
        refine z_get (v := .ref u6) hC hK hP inX0 rfl 0 rfl 7 (by decide) tw_171 rfl dX0_costInAll_18 ?_
        refine lv_iload_n hx hb dX0_costInAll_21 rfl (lv_at hl 2 rfl) ?_
        refine z_iald hC hK hP 1 rfl (by omega) (by decide) dX0_costInAll_22 ?_
        refine z_rVi (q0 := 2) (ci := 2) (b := f0) (rest := [vI qs]) hC hK hP (c_X2_costOf l G f0 f1 h0 nf tm K (CH qi) (by omega) (by omega) (hch qi (by omega))) mv_X2_costOf tw_387 [2, 3] rfl rfl rfl rfl hl.1 rfl (Nat.le_of_ble_eq_true rfl) ⟨rfl, rfl, Nat.le_of_ble_eq_true rfl, Nat.le_of_ble_eq_true rfl⟩ ⟨Nat.le_of_ble_eq_true rfl, Nat.le_of_ble_eq_true rfl⟩ dX0_costInAll_23 ?_
        refine z_iadd hx hb dX0_costInAll_26 ?_
        refine lv_istore_n (lv' := [(1, vI (qs + (kCost (K (CH qi))))), (0, .ref u0), (2, vI qi)]) hx hb dX0_costInAll_27 rfl hl (by decide) rfl (fun ls hl => ?_)
        refine z_iinc (k := 2) (lv' := [(2, vI (qi + 1)), (1, vI (qs + (kCost (K (CH qi))))), (0, .ref u0)]) hx hb dX0_costInAll_28 hl rfl (by decide) rfl (fun ls hl => ?_)
        refine lv_goto (tgt := 4) hx hb dX0_costInAll_31 (by decide) ?_
        exact ih_4 (qi + 1) (qs + (kCost (K (CH qi)))) ls (lv_sub hl [2, 1, 0] rfl) (by omega) (sumZ_s (g := fun i => kCost (K (CH i))) (by omega) hqs) (by omega)
  exact cut_4 ((cn - (0 : Int)).toNat + 1) 0 0 ls (lv_sub hl [2, 1, 0] rfl) (by omega) (rfl) (Nat.lt_succ_self _)

theorem iI_0W {x : Int} (h : -4294967296 < x ∧ x < 4294967296) : iI x = 0 ↔ x = 0 := by
  constructor
  · intro q
    have h1 : (iI x).toInt = 0 := by rw [q]; rfl
    have h2 : x.bmod (2 ^ 32) = 0 := by rw [← Int32.toInt_ofInt]; exact h1
    have h3 : x % 4294967296 = 0 := by
      have h2' : (if x % 4294967296 < (4294967296 + 1) / 2 then x % 4294967296 else x % 4294967296 - 4294967296) = 0 := h2
      split at h2' <;> omega
    omega
  · intro q; rw [q]; rfl
theorem z_if_neW {p : Program} {l : Launch} {e : Env} {R : Room} {s : State} {m : MethodId} {args : Array Value} {below : List Frame} {meth : Method} {c : Code} {H : Heap} {locs : List Loc} {cells slots : Nat} {Q : State → Prop} {cc : ByteArray} {pc : Nat} {ls : Array Slot} {rest : List Value} (hx : p.tables.exec = Jvm.exec) (hb : c.code = cc) {x : Int} {off : Int} {tgt : Nat} (hdg : decode cc pc = .ok (.ifCond .ne off, 3)) (ht : (pc : Int) + off = (tgt : Int)) (hr : -4294967296 < x ∧ x < 4294967296) (kt : x ≠ 0 → W p l e R s m args below meth c H locs cells slots Q (F0 m tgt ls rest)) (kf : x = 0 → W p l e R s m args below meth c H locs cells slots Q (F0 m (pc + 3) ls rest)) : W p l e R s m args below meth c H locs cells slots Q (F0 m pc ls (.int (iI x) :: rest)) :=
  lv_if_ne hx hb hdg ht (fun q => kt (fun w => q ((iI_0W hr).mpr w))) (fun q => kf ((iI_0W hr).mp q))

/-- the i-th block that is not among the bits: from block x on, with l still to pass -/
def frZ (bits n : Int) : Nat → Int → Int → Int
  | 0, _, _ => -1
  | k + 1, x, l => if n ≤ x then -1 else if bits / ((2 ^ x.toNat : Nat) : Int) % 2 = 1 then frZ bits n k (x + 1) l else if l = 0 then x else frZ bits n k (x + 1) (l - 1)

set_option maxRecDepth 100000 in
set_option maxHeartbeats 4000000 in
theorem c_X0_freeBlockAt (l : Launch) (G : zGt) (u0 u1 u2 u3 u4 u5 u6 f0 : Nat) (gr cn cg cb : Int) (f1 h0 : Nat) (nf tm : Int) (K : Int → Int) (h1 : Nat) (n : Int) (f : Int → Int64) (i : Int) (hn : 0 ≤ n ∧ n ≤ 24) (hcb : 0 ≤ cb ∧ cb < 16777216) (hi : -2147483648 ≤ i ∧ i < 2147483648) : Met l yX0_freeBlockAt (Cond.code yX0_freeBlockAt cX0_freeBlockAt 4 (some .int) :: tb) ({ frames := 2, cells := 0, slots := 0, locals := 40 } : Room) (zPr G [(u0, ob 0 [.ref f0, vI gr, .ref u1, .ref u2, .ref u3, .ref u4, .ref u5, .ref u6, vI cn, vI cg, vI cb]), (f0, ob 2 [.ref h0, .ref f1, vI nf, vI tm]), (f1, aI G 40 K), (h0, ob 1 [.ref h1, vI n]), (h1, aJ G 24 f)] [.ref u0, vI i]) (vp_Si (fun r => r = iI (frZ cb n 25 0 i))) 0 0 (fun _ => False) := by
  refine Met.ofW (cc := cX0_freeBlockAt) (maxL := 4) (ret := (some .int)) (by decide) rfl ?_
  intro p e s m args below meth c s₁ B hml hv
  obtain ⟨rfl, hP, hK⟩ := hv
  obtain ⟨hC, hr, hlk⟩ := z_begin B hml
  have hC : CallFix p m c cX0_freeBlockAt 4 s _ tb RX0 := hC
  have hx := hC.1
  have hb := hC.2.1
  have hl := lv_entry ([.ref u0, vI i]) (n := 4) (Nat.le_of_ble_eq_true rfl)
  rw [lg_entry_eq]
  generalize (lg_sl ([.ref u0, vI i]) ++ List.replicate (4 - (lg_sl ([.ref u0, vI i])).length) Slot.unset).toArray = ls at hl ⊢
  have hl : lv_has ls 4 [(0, .ref u0), (1, vI i)] := hl
  refine lv_iload_n hx hb dX0_freeBlockAt_0 rfl (lv_at hl 1 rfl) ?_
  refine lv_istore_n (lv' := [(2, vI i), (0, .ref u0), (1, vI i)]) hx hb dX0_freeBlockAt_1 rfl hl (by decide) rfl (fun ls hl => ?_)
  refine lv_iconst (v := iI 0) hx hb dX0_freeBlockAt_2 rfl ?_
  refine lv_istore_n (lv' := [(3, vI 0), (2, vI i), (0, .ref u0), (1, vI i)]) hx hb dX0_freeBlockAt_3 rfl hl (by decide) rfl (fun ls hl => ?_)
  have cut_4 : ∀ (n_ : Nat) (qb : Int) (qi : Int) (ls : Array Slot), lv_has ls 4 [(0, .ref u0), (1, vI i), (2, vI qi), (3, vI qb)] → (0 ≤ qb ∧ qb ≤ n) → (i - qb ≤ qi ∧ qi ≤ i) → (frZ cb n (25 - qb.toNat) qb qi = frZ cb n 25 0 i) → (n - qb).toNat < n_ → W p l e (headSpec (Cond.code yX0_freeBlockAt cX0_freeBlockAt 4 (some .int) :: tb) ({ frames := 2, cells := 0, slots := 0, locals := 40 } : Room)).room s m ([.ref u0, vI i] : List Value).toArray below meth c s.heap [] 0 0 (MQ below (vp_Si (fun r => r = iI (frZ cb n 25 0 i))) ([.ref u0, vI i] : List Value).toArray s 0 0 (fun _ => False)) (F0 m 4 ls []) := by
    intro n_
    induction n_ with
    | zero => exact fun qb qi ls hl hqb hqi hqf hm_ => absurd hm_ (Nat.not_lt_zero _)
    | succ n_ ih_4 =>
      intro qb qi ls hl hqb hqi hqf hm_
      have hqs : 25 - qb.toNat = (25 - (qb + 1).toNat) + 1 := by omega
      rw [hqs] at hqf
      refine lv_iload_n hx hb dX0_freeBlockAt_4 rfl (lv_at hl 3 rfl) ?_
      refine lv_aload_n hx hb dX0_freeBlockAt_5 rfl (lv_at hl 0 rfl) ?_
      refine z_get (v := .ref f0) hC hK hP inX0 rfl 0 rfl 0 (by decide) tw_164 rfl dX0_freeBlockAt_6 ?_
      refine z_rVi (q0 := 1) (ci := 2) (b := f0) (rest := [vI qb]) hC hK hP (c_X2_blocksThen l G f0 f1 h0 nf tm K h1 n f) mv_X2_blocksThen tw_449 [1, 2, 3, 4] rfl rfl rfl rfl hl.1 rfl (Nat.le_of_ble_eq_true rfl) ⟨rfl, rfl, Nat.le_of_ble_eq_true rfl, Nat.le_of_ble_eq_true rfl⟩ ⟨Nat.le_of_ble_eq_true rfl, Nat.le_of_ble_eq_true rfl⟩ dX0_freeBlockAt_9 ?_
      refine z_icmp_ge (tgt := 41) hx hb dX0_freeBlockAt_12 (by decide) (by omega) (fun c_12 => ?_) (fun c_12 => ?_)
      · refine lv_iconst (v := iI (-1)) hx hb dX0_freeBlockAt_41 rfl ?_
        exact z_iretR hC hr hlk (by rw [← hqf]; unfold frZ; rw [if_pos (by omega)]) dX0_freeBlockAt_42
      · refine lv_aload_n hx hb dX0_freeBlockAt_15 rfl (lv_at hl 0 rfl) ?_
        refine z_get (v := vI cb) hC hK hP inX0 rfl 0 rfl 10 (by decide) tw_174 rfl dX0_freeBlockAt_16 ?_
        refine lv_iload_n hx hb dX0_freeBlockAt_19 rfl (lv_at hl 3 rfl) ?_
        refine z_iushr hx hb dX0_freeBlockAt_20 ?_
        refine lv_iconst (v := iI 1) hx hb dX0_freeBlockAt_21 rfl ?_
        refine z_iand hx hb dX0_freeBlockAt_22 ?_
        refine z_if_ne (tgt := 35) hx hb dX0_freeBlockAt_23 (by decide) (zand_rng _ _) (fun c_23 => ?_) (fun c_23 => ?_)
        · have hbz : zand (zushr cb qb) 1 = 1 := by rw [bit_test hcb (by omega)] at c_23 ⊢; omega
          refine z_iinc (k := 3) (lv' := [(3, vI (qb + 1)), (0, .ref u0), (1, vI i), (2, vI qi)]) hx hb dX0_freeBlockAt_35 hl rfl (by decide) rfl (fun ls hl => ?_)
          refine lv_goto (tgt := 4) hx hb dX0_freeBlockAt_38 (by decide) ?_
          exact ih_4 (qb + 1) qi ls (lv_sub hl [1, 2, 3, 0] rfl) (by omega) (by omega) (by rw [← hqf]; conv => rhs; unfold frZ; first | rw [if_neg (by omega), if_pos (by rw [← bit_test hcb (by omega)]; have := hbz; omega)] | rw [if_neg (by omega), if_neg (by rw [← bit_test hcb (by omega)]; omega), if_neg c_27, show qi - 1 = qi + -1 by omega]) (by omega)
        · refine lv_iload_n hx hb dX0_freeBlockAt_26 rfl (lv_at hl 2 rfl) ?_
          refine z_if_neW (tgt := 32) hx hb dX0_freeBlockAt_27 (by decide) (by omega) (fun c_27 => ?_) (fun c_27 => ?_)
          · refine z_iinc (k := 2) (lv' := [(2, vI (qi + (-1))), (0, .ref u0), (1, vI i), (3, vI qb)]) hx hb dX0_freeBlockAt_32 hl rfl (by decide) rfl (fun ls hl => ?_)
            refine z_iinc (k := 3) (lv' := [(3, vI (qb + 1)), (2, vI (qi + (-1))), (0, .ref u0), (1, vI i)]) hx hb dX0_freeBlockAt_35 hl rfl (by decide) rfl (fun ls hl => ?_)
            refine lv_goto (tgt := 4) hx hb dX0_freeBlockAt_38 (by decide) ?_
            exact ih_4 (qb + 1) (qi + (-1)) ls (lv_sub hl [2, 3, 1, 0] rfl) (by omega) (by omega) (by rw [← hqf]; conv => rhs; unfold frZ; first | rw [if_neg (by omega), if_pos (by rw [← bit_test hcb (by omega)]; have := hbz; omega)] | rw [if_neg (by omega), if_neg (by rw [← bit_test hcb (by omega)]; omega), if_neg c_27, show qi - 1 = qi + -1 by omega]) (by omega)
          · refine lv_iload_n hx hb dX0_freeBlockAt_30 rfl (lv_at hl 3 rfl) ?_
            exact z_iretR hC hr hlk (by rw [← hqf]; unfold frZ; rw [if_neg (by omega), if_neg (by rw [← bit_test hcb (by omega)]; omega), if_pos c_27]) dX0_freeBlockAt_31
  exact cut_4 ((n - (0 : Int)).toNat + 1) 0 i ls (lv_sub hl [2, 3, 1, 0] rfl) (by omega) (by omega) (rfl) (Nat.lt_succ_self _)

set_option maxRecDepth 100000 in
set_option maxHeartbeats 4000000 in
theorem c_X0_findGroups (l : Launch) (G : zGt) (sz : Nat) (u0 u1 u2 u3 u4 u5 u6 f0 : Nat) (gr cn cg cb : Int) (GA : Int → Int) (f1 h0 : Nat) (nf tm : Int) (K : Int → Int) (hnf : 0 ≤ nf ∧ nf ≤ 40) (hK0 : ∀ j : Int, 0 ≤ j ∧ j < nf → 0 ≤ K j ∧ K j < 268435456) : Met l yX0_findGroups (Cond.code yX0_findGroups cX0_findGroups 2 none :: tb) ({ frames := 2, cells := 0, slots := 0, locals := 44 } : Room) (zPw G [(u0, ob 0 [.ref f0, vI gr, .ref u1, .ref u2, .ref u3, .ref u4, .ref u5, .ref u6, vI cn, vI cg, vI cb]), (u1, aI G 7 GA), (f0, ob 2 [.ref h0, .ref f1, vI nf, vI tm]), (f1, aI G 40 K)] sz [.ref u0]) (va_Qv (fun u : Unit => True) (fun (u : Unit) t => zB G [(u0, ob 0 [.ref f0, vI gr, .ref u1, .ref u2, .ref u3, .ref u4, .ref u5, .ref u6, vI cn, vI cg, vI cb]), (u1, aI G 7 GA), (f0, ob 2 [.ref h0, .ref f1, vI nf, vI tm]), (f1, aI G 40 K)] sz [(u0, ob 0 [.ref f0, vI (ngF (fun j => kBl (K j) 0) nf.toNat), .ref u1, .ref u2, .ref u3, .ref u4, .ref u5, .ref u6, vI cn, vI cg, vI cb]), (u1, aI G 7 (gcF (fun j => kBl (K j) 0) (zfl GA nf 7) nf.toNat)), (f0, ob 2 [.ref h0, .ref f1, vI nf, vI tm]), (f1, aI G 40 K)] t) (va_A [(u0, ob 0 [.ref f0, vI gr, .ref u1, .ref u2, .ref u3, .ref u4, .ref u5, .ref u6, vI cn, vI cg, vI cb]), (u1, aI G 7 GA), (f0, ob 2 [.ref h0, .ref f1, vI nf, vI tm]), (f1, aI G 40 K)] sz)) 0 0 (va_A [(u0, ob 0 [.ref f0, vI gr, .ref u1, .ref u2, .ref u3, .ref u4, .ref u5, .ref u6, vI cn, vI cg, vI cb]), (u1, aI G 7 GA), (f0, ob 2 [.ref h0, .ref f1, vI nf, vI tm]), (f1, aI G 40 K)] sz) := by
  refine Met.ofW (cc := cX0_findGroups) (maxL := 2) (ret := none) (by decide) rfl ?_
  intro p e s m args below meth c s₁ B hml hv
  obtain ⟨rfl, hsz, hP, hK, hD0⟩ := hv
  subst hsz
  have hD := hD0.self (sz := s.heap.size)
  obtain ⟨A, hAe⟩ : ∃ A : Nat → Prop, A = va_A [(u0, ob 0 [.ref f0, vI gr, .ref u1, .ref u2, .ref u3, .ref u4, .ref u5, .ref u6, vI cn, vI cg, vI cb]), (u1, aI G 7 GA), (f0, ob 2 [.ref h0, .ref f1, vI nf, vI tm]), (f1, aI G 40 K)] s.heap.size := ⟨_, rfl⟩
  rw [← hAe] at hD
  have hA : ∀ q : Nat, s.heap.size ≤ q → A q := fun q h => by rw [hAe]; exact Or.inr h
  have hS : va_S A s.heap s.heap [] := va_S.rf
  obtain ⟨hC, hr, hlk⟩ := z_begin B hml
  have hC : CallFix p m c cX0_findGroups 2 s _ tb RX0 := hC
  have hx := hC.1
  have hb := hC.2.1
  have hl := lv_entry ([.ref u0]) (n := 2) (Nat.le_of_ble_eq_true rfl)
  rw [lg_entry_eq]
  generalize (lg_sl ([.ref u0]) ++ List.replicate (2 - (lg_sl ([.ref u0])).length) Slot.unset).toArray = ls at hl ⊢
  have hl : lv_has ls 2 [(0, .ref u0)] := hl
  obtain ⟨H, hHe⟩ : ∃ H : Heap, H = s.heap := ⟨_, rfl⟩
  obtain ⟨locs, hLe⟩ : ∃ L : List Loc, L = [] := ⟨_, rfl⟩
  suffices hgo : W p l e (headSpec (Cond.code yX0_findGroups cX0_findGroups 2 none :: tb) ({ frames := 2, cells := 0, slots := 0, locals := 44 } : Room)).room s m ([.ref u0] : List Value).toArray below meth c H locs 0 0 (MQ below (va_Qv (fun u : Unit => True) (fun (u : Unit) t => zB G [(u0, ob 0 [.ref f0, vI gr, .ref u1, .ref u2, .ref u3, .ref u4, .ref u5, .ref u6, vI cn, vI cg, vI cb]), (u1, aI G 7 GA), (f0, ob 2 [.ref h0, .ref f1, vI nf, vI tm]), (f1, aI G 40 K)] s.heap.size [(u0, ob 0 [.ref f0, vI (ngF (fun j => kBl (K j) 0) nf.toNat), .ref u1, .ref u2, .ref u3, .ref u4, .ref u5, .ref u6, vI cn, vI cg, vI cb]), (u1, aI G 7 (gcF (fun j => kBl (K j) 0) (zfl GA nf 7) nf.toNat)), (f0, ob 2 [.ref h0, .ref f1, vI nf, vI tm]), (f1, aI G 40 K)] t) (va_A [(u0, ob 0 [.ref f0, vI gr, .ref u1, .ref u2, .ref u3, .ref u4, .ref u5, .ref u6, vI cn, vI cg, vI cb]), (u1, aI G 7 GA), (f0, ob 2 [.ref h0, .ref f1, vI nf, vI tm]), (f1, aI G 40 K)] s.heap.size)) ([.ref u0] : List Value).toArray s 0 0 (va_A [(u0, ob 0 [.ref f0, vI gr, .ref u1, .ref u2, .ref u3, .ref u4, .ref u5, .ref u6, vI cn, vI cg, vI cb]), (u1, aI G 7 GA), (f0, ob 2 [.ref h0, .ref f1, vI nf, vI tm]), (f1, aI G 40 K)] s.heap.size)) (F0 m 0 ls []) by rw [hHe, hLe] at hgo; exact hgo
  rw [← hHe] at hP
  have hS : va_S A s.heap H locs := by rw [hHe, hLe]; exact hS
  clear hHe hLe
  refine lv_aload_n hx hb dX0_findGroups_0 rfl (lv_at hl 0 rfl) ?_
  refine lv_iconst (v := iI 0) hx hb dX0_findGroups_1 rfl ?_
  refine z_put (ws' := [(u0, ob 0 [.ref f0, vI 0, .ref u1, .ref u2, .ref u3, .ref u4, .ref u5, .ref u6, vI cn, vI cg, vI cb]), (u1, aI G 7 GA), (f0, ob 2 [.ref h0, .ref f1, vI nf, vI tm]), (f1, aI G 40 K)]) hC hK hP hD hS inX0 tyX0 tyX0_ok nmX0 rfl 0 rfl 1 (by decide) tw_165 rfl rfl rfl (Nat.le_of_ble_eq_true rfl) rfl dX0_findGroups_2 (fun H locs hP hD hS => ?_)
  refine lv_aload_n hx hb dX0_findGroups_5 rfl (lv_at hl 0 rfl) ?_
  refine z_get (v := .ref u1) hC hK hP inX0 rfl 0 rfl 2 (by decide) tw_166 rfl dX0_findGroups_6 ?_
  refine lv_aload_n hx hb dX0_findGroups_9 rfl (lv_at hl 0 rfl) ?_
  refine z_get (v := .ref f0) hC hK hP inX0 rfl 0 rfl 0 (by decide) tw_164 rfl dX0_findGroups_10 ?_
  refine z_rVi (q0 := 2) (ci := 2) (b := f0) (rest := [.ref u1]) hC hK hP (c_X2_size l G f0 f1 h0 nf tm K) mv_X2_size tw_358 [2, 3] rfl rfl rfl rfl hl.1 rfl (Nat.le_of_ble_eq_true rfl) ⟨rfl, rfl, Nat.le_of_ble_eq_true rfl, Nat.le_of_ble_eq_true rfl⟩ ⟨Nat.le_of_ble_eq_true rfl, Nat.le_of_ble_eq_true rfl⟩ dX0_findGroups_13 ?_
  refine z_wSv (rest := []) (wr := [(u0, ob 0 [.ref f0, vI 0, .ref u1, .ref u2, .ref u3, .ref u4, .ref u5, .ref u6, vI cn, vI cg, vI cb]), (f0, ob 2 [.ref h0, .ref f1, vI nf, vI tm]), (f1, aI G 40 K)]) hC hK hP hD hS hA (c_J7_fill_53178 l G H.size u1 GA nf) ms_J7_fill_53178 tw_362 [1] [0, 2, 3] rfl rfl rfl rfl (by decide) rfl rfl hl.1 rfl (Nat.le_of_ble_eq_true rfl) ⟨rfl, rfl, Nat.le_of_ble_eq_true rfl, Nat.le_of_ble_eq_true rfl⟩ ⟨Nat.le_of_ble_eq_true rfl, Nat.le_of_ble_eq_true rfl⟩ dX0_findGroups_16 (fun u H locs hw hP hD hS => ?_)
  have hP : va_P G.1 vwCl [(u0, ob 0 [.ref f0, vI 0, .ref u1, .ref u2, .ref u3, .ref u4, .ref u5, .ref u6, vI cn, vI cg, vI cb]), (f0, ob 2 [.ref h0, .ref f1, vI nf, vI tm]), (f1, aI G 40 K), (u1, aI G 7 (zfl GA nf 7))] H := hP
  have hD : va_D A [(u0, ob 0 [.ref f0, vI 0, .ref u1, .ref u2, .ref u3, .ref u4, .ref u5, .ref u6, vI cn, vI cg, vI cb]), (f0, ob 2 [.ref h0, .ref f1, vI nf, vI tm]), (f1, aI G 40 K), (u1, aI G 7 (zfl GA nf 7))] := hD
  have hw_1 := hw
  clear hw_1
  refine lv_iconst (v := iI 0) hx hb dX0_findGroups_19 rfl ?_
  refine lv_istore_n (lv' := [(1, vI 0), (0, .ref u0)]) hx hb dX0_findGroups_20 rfl hl (by decide) rfl (fun ls hl => ?_)
  have cut_21 : ∀ (n_ : Nat) (qk : Int) (qg : Int) (qG : Int → Int) (H : Heap) (locs : List Loc) (ls : Array Slot), va_P G.1 vwCl [(u0, ob 0 [.ref f0, vI qg, .ref u1, .ref u2, .ref u3, .ref u4, .ref u5, .ref u6, vI cn, vI cg, vI cb]), (f0, ob 2 [.ref h0, .ref f1, vI nf, vI tm]), (f1, aI G 40 K), (u1, aI G 7 qG)] H → va_D A [(u0, ob 0 [.ref f0, vI qg, .ref u1, .ref u2, .ref u3, .ref u4, .ref u5, .ref u6, vI cn, vI cg, vI cb]), (f0, ob 2 [.ref h0, .ref f1, vI nf, vI tm]), (f1, aI G 40 K), (u1, aI G 7 qG)] → va_S A s.heap H locs → lv_has ls 2 [(0, .ref u0), (1, vI qk)] → (0 ≤ qk ∧ qk ≤ nf) → (qg = ngF (fun j => kBl (K j) 0) qk.toNat) → (qG = gcF (fun j => kBl (K j) 0) (zfl GA nf 7) qk.toNat) → (nf - qk).toNat < n_ → W p l e (headSpec (Cond.code yX0_findGroups cX0_findGroups 2 none :: tb) ({ frames := 2, cells := 0, slots := 0, locals := 44 } : Room)).room s m ([.ref u0] : List Value).toArray below meth c H locs 0 0 (MQ below (va_Qv (fun u : Unit => True) (fun (u : Unit) t => zB G [(u0, ob 0 [.ref f0, vI gr, .ref u1, .ref u2, .ref u3, .ref u4, .ref u5, .ref u6, vI cn, vI cg, vI cb]), (u1, aI G 7 GA), (f0, ob 2 [.ref h0, .ref f1, vI nf, vI tm]), (f1, aI G 40 K)] s.heap.size [(u0, ob 0 [.ref f0, vI (ngF (fun j => kBl (K j) 0) nf.toNat), .ref u1, .ref u2, .ref u3, .ref u4, .ref u5, .ref u6, vI cn, vI cg, vI cb]), (u1, aI G 7 (gcF (fun j => kBl (K j) 0) (zfl GA nf 7) nf.toNat)), (f0, ob 2 [.ref h0, .ref f1, vI nf, vI tm]), (f1, aI G 40 K)] t) (va_A [(u0, ob 0 [.ref f0, vI gr, .ref u1, .ref u2, .ref u3, .ref u4, .ref u5, .ref u6, vI cn, vI cg, vI cb]), (u1, aI G 7 GA), (f0, ob 2 [.ref h0, .ref f1, vI nf, vI tm]), (f1, aI G 40 K)] s.heap.size)) ([.ref u0] : List Value).toArray s 0 0 (va_A [(u0, ob 0 [.ref f0, vI gr, .ref u1, .ref u2, .ref u3, .ref u4, .ref u5, .ref u6, vI cn, vI cg, vI cb]), (u1, aI G 7 GA), (f0, ob 2 [.ref h0, .ref f1, vI nf, vI tm]), (f1, aI G 40 K)] s.heap.size)) (F0 m 21 ls []) := by
    intro n_
    induction n_ with
    | zero => exact fun qk qg qG H locs ls hP hD hS hl hqk hqg hqG hm_ => absurd hm_ (Nat.not_lt_zero _)
    | succ n_ ih_21 =>
      intro qk qg qG H locs ls hP hD hS hl hqk hqg hqG hm_
      have hqb := ngF_bd (fun j => kBl (K j) 0) qk.toNat
      rw [← hqg] at hqb
      refine lv_iload_n hx hb dX0_findGroups_21 rfl (lv_at hl 1 rfl) ?_
      refine lv_aload_n hx hb dX0_findGroups_22 rfl (lv_at hl 0 rfl) ?_
      refine z_get (v := .ref f0) hC hK hP inX0 rfl 0 rfl 0 (by decide) tw_164 rfl dX0_findGroups_23 ?_
      refine z_rVi (q0 := 1) (ci := 2) (b := f0) (rest := [vI qk]) hC hK hP (c_X2_size l G f0 f1 h0 nf tm K) mv_X2_size tw_358 [1, 2] rfl rfl rfl rfl hl.1 rfl (Nat.le_of_ble_eq_true rfl) ⟨rfl, rfl, Nat.le_of_ble_eq_true rfl, Nat.le_of_ble_eq_true rfl⟩ ⟨Nat.le_of_ble_eq_true rfl, Nat.le_of_ble_eq_true rfl⟩ dX0_findGroups_26 ?_
      refine z_icmp_ge (tgt := 94) hx hb dX0_findGroups_29 (by decide) (by omega) (fun c_29 => ?_) (fun c_29 => ?_)
      · have hf1 : qg = ngF (fun j => kBl (K j) 0) nf.toNat := by rw [hqg, show qk = nf by omega]
        have hf2 : qG = gcF (fun j => kBl (K j) 0) (zfl GA nf 7) nf.toNat := by rw [hqG, show qk = nf by omega]
        have hP := hP.sub (ws' := [(u0, ob 0 [.ref f0, vI qg, .ref u1, .ref u2, .ref u3, .ref u4, .ref u5, .ref u6, vI cn, vI cg, vI cb]), (u1, aI G 7 qG), (f0, ob 2 [.ref h0, .ref f1, vI nf, vI tm]), (f1, aI G 40 K)]) [0, 3, 1, 2] rfl
        have hD := hD.sub (ws' := [(u0, ob 0 [.ref f0, vI qg, .ref u1, .ref u2, .ref u3, .ref u4, .ref u5, .ref u6, vI cn, vI cg, vI cb]), (u1, aI G 7 qG), (f0, ob 2 [.ref h0, .ref f1, vI nf, vI tm]), (f1, aI G 40 K)]) [0, 3, 1, 2] (by decide) rfl
        have hP : va_P G.1 vwCl [(u0, ob 0 [.ref f0, vI (ngF (fun j => kBl (K j) 0) nf.toNat), .ref u1, .ref u2, .ref u3, .ref u4, .ref u5, .ref u6, vI cn, vI cg, vI cb]), (u1, aI G 7 (gcF (fun j => kBl (K j) 0) (zfl GA nf 7) nf.toNat)), (f0, ob 2 [.ref h0, .ref f1, vI nf, vI tm]), (f1, aI G 40 K)] H := by rw [← hf1, ← hf2]; exact hP
        have hD : va_D A [(u0, ob 0 [.ref f0, vI (ngF (fun j => kBl (K j) 0) nf.toNat), .ref u1, .ref u2, .ref u3, .ref u4, .ref u5, .ref u6, vI cn, vI cg, vI cb]), (u1, aI G 7 (gcF (fun j => kBl (K j) 0) (zfl GA nf 7) nf.toNat)), (f0, ob 2 [.ref h0, .ref f1, vI nf, vI tm]), (f1, aI G 40 K)] := by rw [← hf1, ← hf2]; exact hD
        exact z_vretW hC hr hlk () hAe hP hD hS [0, 1, 2, 3] (by decide) rfl rfl (trivial) dX0_findGroups_94
      · refine lv_iload_n hx hb dX0_findGroups_32 rfl (lv_at hl 1 rfl) ?_
        refine z_if_eq (tgt := 59) hx hb dX0_findGroups_33 (by decide) (by omega) (fun c_33 => ?_) (fun c_33 => ?_)
        · have hnew : nwF (fun j => kBl (K j) 0) qk := Or.inl c_33
          refine lv_aload_n hx hb dX0_findGroups_59 rfl (lv_at hl 0 rfl) ?_
          refine z_get (v := vI qg) hC hK hP inX0 rfl 0 rfl 1 (by decide) tw_165 rfl dX0_findGroups_60 ?_
          refine lv_bipush (v := iI 6) hx hb dX0_findGroups_63 (by decide) ?_
          refine z_icmp_ge (tgt := 78) hx hb dX0_findGroups_65 (by decide) (by omega) (fun c_65 => ?_) (fun c_65 => ?_)
          · refine lv_aload_n hx hb dX0_findGroups_78 rfl (lv_at hl 0 rfl) ?_
            refine lv_dup hx hb dX0_findGroups_79 rfl ?_
            refine z_get (v := vI qg) hC hK hP inX0 rfl 0 rfl 1 (by decide) tw_165 rfl dX0_findGroups_80 ?_
            refine lv_iconst (v := iI 1) hx hb dX0_findGroups_83 rfl ?_
            refine z_iadd hx hb dX0_findGroups_84 ?_
            refine z_put (ws' := [(u0, ob 0 [.ref f0, vI (qg + 1), .ref u1, .ref u2, .ref u3, .ref u4, .ref u5, .ref u6, vI cn, vI cg, vI cb]), (f0, ob 2 [.ref h0, .ref f1, vI nf, vI tm]), (f1, aI G 40 K), (u1, aI G 7 qG)]) hC hK hP hD hS inX0 tyX0 tyX0_ok nmX0 rfl 0 rfl 1 (by decide) tw_165 rfl rfl rfl (Nat.le_of_ble_eq_true rfl) rfl dX0_findGroups_85 (fun H locs hP hD hS => ?_)
            refine z_iinc (k := 1) (lv' := [(1, vI (qk + 1)), (0, .ref u0)]) hx hb dX0_findGroups_88 hl rfl (by decide) rfl (fun ls hl => ?_)
            refine lv_goto (tgt := 21) hx hb dX0_findGroups_91 (by decide) ?_
            exact ih_21 (qk + 1) (qg + 1) qG H locs ls hP hD hS (lv_sub hl [1, 0] rfl) (by omega) (by first | exact ngF_t (by omega) hqg hnew | exact ngF_f (by omega) hqg hold) (by first | exact gcF_t (by omega) hqg hqG hnew c_65 | exact gcF_6 (by omega) hqg hqG hnew c_65 | exact gcF_f (by omega) hqG hold) (by omega)
          · refine lv_aload_n hx hb dX0_findGroups_68 rfl (lv_at hl 0 rfl) ?_
            refine z_get (v := .ref u1) hC hK hP inX0 rfl 0 rfl 2 (by decide) tw_166 rfl dX0_findGroups_69 ?_
            refine lv_aload_n hx hb dX0_findGroups_72 rfl (lv_at hl 0 rfl) ?_
            refine z_get (v := vI qg) hC hK hP inX0 rfl 0 rfl 1 (by decide) tw_165 rfl dX0_findGroups_73 ?_
            refine lv_iload_n hx hb dX0_findGroups_76 rfl (lv_at hl 1 rfl) ?_
            refine z_iast (ws' := [(u0, ob 0 [.ref f0, vI qg, .ref u1, .ref u2, .ref u3, .ref u4, .ref u5, .ref u6, vI cn, vI cg, vI cb]), (f0, ob 2 [.ref h0, .ref f1, vI nf, vI tm]), (f1, aI G 40 K), (u1, aI G 7 (zup qG qg qk))]) hC hK hP hD hS 3 rfl (by omega) (by decide) rfl dX0_findGroups_77 (fun H locs hP hD hS => ?_)
            refine lv_aload_n hx hb dX0_findGroups_78 rfl (lv_at hl 0 rfl) ?_
            refine lv_dup hx hb dX0_findGroups_79 rfl ?_
            refine z_get (v := vI qg) hC hK hP inX0 rfl 0 rfl 1 (by decide) tw_165 rfl dX0_findGroups_80 ?_
            refine lv_iconst (v := iI 1) hx hb dX0_findGroups_83 rfl ?_
            refine z_iadd hx hb dX0_findGroups_84 ?_
            refine z_put (ws' := [(u0, ob 0 [.ref f0, vI (qg + 1), .ref u1, .ref u2, .ref u3, .ref u4, .ref u5, .ref u6, vI cn, vI cg, vI cb]), (f0, ob 2 [.ref h0, .ref f1, vI nf, vI tm]), (f1, aI G 40 K), (u1, aI G 7 (zup qG qg qk))]) hC hK hP hD hS inX0 tyX0 tyX0_ok nmX0 rfl 0 rfl 1 (by decide) tw_165 rfl rfl rfl (Nat.le_of_ble_eq_true rfl) rfl dX0_findGroups_85 (fun H locs hP hD hS => ?_)
            refine z_iinc (k := 1) (lv' := [(1, vI (qk + 1)), (0, .ref u0)]) hx hb dX0_findGroups_88 hl rfl (by decide) rfl (fun ls hl => ?_)
            refine lv_goto (tgt := 21) hx hb dX0_findGroups_91 (by decide) ?_
            exact ih_21 (qk + 1) (qg + 1) (zup qG qg qk) H locs ls hP hD hS (lv_sub hl [1, 0] rfl) (by omega) (by first | exact ngF_t (by omega) hqg hnew | exact ngF_f (by omega) hqg hold) (by first | exact gcF_t (by omega) hqg hqG hnew c_65 | exact gcF_6 (by omega) hqg hqG hnew c_65 | exact gcF_f (by omega) hqG hold) (by omega)
        · refine lv_aload_n hx hb dX0_findGroups_36 rfl (lv_at hl 0 rfl) ?_
          refine z_get (v := .ref f0) hC hK hP inX0 rfl 0 rfl 0 (by decide) tw_164 rfl dX0_findGroups_37 ?_
          refine lv_iload_n hx hb dX0_findGroups_40 rfl (lv_at hl 1 rfl) ?_
          refine lv_iconst (v := iI 0) hx hb dX0_findGroups_41 rfl ?_
          refine z_rVi (q0 := 1) (ci := 2) (b := f0) (rest := []) hC hK hP (c_X2_blockOf l G f0 f1 h0 nf tm K qk 0 (by omega) (by omega) (by omega) (by omega)) mv_X2_blockOf tw_365 [1, 2] rfl rfl rfl rfl hl.1 rfl (Nat.le_of_ble_eq_true rfl) ⟨rfl, rfl, Nat.le_of_ble_eq_true rfl, Nat.le_of_ble_eq_true rfl⟩ ⟨Nat.le_of_ble_eq_true rfl, Nat.le_of_ble_eq_true rfl⟩ dX0_findGroups_42 ?_
          refine lv_aload_n hx hb dX0_findGroups_45 rfl (lv_at hl 0 rfl) ?_
          refine z_get (v := .ref f0) hC hK hP inX0 rfl 0 rfl 0 (by decide) tw_164 rfl dX0_findGroups_46 ?_
          refine lv_iload_n hx hb dX0_findGroups_49 rfl (lv_at hl 1 rfl) ?_
          refine lv_iconst (v := iI 1) hx hb dX0_findGroups_50 rfl ?_
          refine z_isub hx hb dX0_findGroups_51 ?_
          refine lv_iconst (v := iI 0) hx hb dX0_findGroups_52 rfl ?_
          refine z_rVi (q0 := 1) (ci := 2) (b := f0) (rest := [vI (kBl (K qk) 0)]) hC hK hP (c_X2_blockOf l G f0 f1 h0 nf tm K (qk - 1) 0 (by omega) (by omega) (by omega) (by omega)) mv_X2_blockOf tw_365 [1, 2] rfl rfl rfl rfl hl.1 rfl (Nat.le_of_ble_eq_true rfl) ⟨rfl, rfl, Nat.le_of_ble_eq_true rfl, Nat.le_of_ble_eq_true rfl⟩ ⟨Nat.le_of_ble_eq_true rfl, Nat.le_of_ble_eq_true rfl⟩ dX0_findGroups_53 ?_
          refine z_icmp_eq (tgt := 88) hx hb dX0_findGroups_56 (by decide) (by have h1 := kBl_bd (K qk) 0; have h2 := kBl_bd (K (qk - 1)) 0; omega) (fun c_56 => ?_) (fun c_56 => ?_)
          · have hold : ¬ nwF (fun j => kBl (K j) 0) qk := fun h => h.elim c_33 (fun w => w c_56)
            refine z_iinc (k := 1) (lv' := [(1, vI (qk + 1)), (0, .ref u0)]) hx hb dX0_findGroups_88 hl rfl (by decide) rfl (fun ls hl => ?_)
            refine lv_goto (tgt := 21) hx hb dX0_findGroups_91 (by decide) ?_
            exact ih_21 (qk + 1) qg qG H locs ls hP hD hS (lv_sub hl [1, 0] rfl) (by omega) (by first | exact ngF_t (by omega) hqg hnew | exact ngF_f (by omega) hqg hold) (by first | exact gcF_t (by omega) hqg hqG hnew c_65 | exact gcF_6 (by omega) hqg hqG hnew c_65 | exact gcF_f (by omega) hqG hold) (by omega)
          · have hnew : nwF (fun j => kBl (K j) 0) qk := Or.inr c_56
            refine lv_aload_n hx hb dX0_findGroups_59 rfl (lv_at hl 0 rfl) ?_
            refine z_get (v := vI qg) hC hK hP inX0 rfl 0 rfl 1 (by decide) tw_165 rfl dX0_findGroups_60 ?_
            refine lv_bipush (v := iI 6) hx hb dX0_findGroups_63 (by decide) ?_
            refine z_icmp_ge (tgt := 78) hx hb dX0_findGroups_65 (by decide) (by omega) (fun c_65 => ?_) (fun c_65 => ?_)
            · refine lv_aload_n hx hb dX0_findGroups_78 rfl (lv_at hl 0 rfl) ?_
              refine lv_dup hx hb dX0_findGroups_79 rfl ?_
              refine z_get (v := vI qg) hC hK hP inX0 rfl 0 rfl 1 (by decide) tw_165 rfl dX0_findGroups_80 ?_
              refine lv_iconst (v := iI 1) hx hb dX0_findGroups_83 rfl ?_
              refine z_iadd hx hb dX0_findGroups_84 ?_
              refine z_put (ws' := [(u0, ob 0 [.ref f0, vI (qg + 1), .ref u1, .ref u2, .ref u3, .ref u4, .ref u5, .ref u6, vI cn, vI cg, vI cb]), (f0, ob 2 [.ref h0, .ref f1, vI nf, vI tm]), (f1, aI G 40 K), (u1, aI G 7 qG)]) hC hK hP hD hS inX0 tyX0 tyX0_ok nmX0 rfl 0 rfl 1 (by decide) tw_165 rfl rfl rfl (Nat.le_of_ble_eq_true rfl) rfl dX0_findGroups_85 (fun H locs hP hD hS => ?_)
              refine z_iinc (k := 1) (lv' := [(1, vI (qk + 1)), (0, .ref u0)]) hx hb dX0_findGroups_88 hl rfl (by decide) rfl (fun ls hl => ?_)
              refine lv_goto (tgt := 21) hx hb dX0_findGroups_91 (by decide) ?_
              exact ih_21 (qk + 1) (qg + 1) qG H locs ls hP hD hS (lv_sub hl [1, 0] rfl) (by omega) (by first | exact ngF_t (by omega) hqg hnew | exact ngF_f (by omega) hqg hold) (by first | exact gcF_t (by omega) hqg hqG hnew c_65 | exact gcF_6 (by omega) hqg hqG hnew c_65 | exact gcF_f (by omega) hqG hold) (by omega)
            · refine lv_aload_n hx hb dX0_findGroups_68 rfl (lv_at hl 0 rfl) ?_
              refine z_get (v := .ref u1) hC hK hP inX0 rfl 0 rfl 2 (by decide) tw_166 rfl dX0_findGroups_69 ?_
              refine lv_aload_n hx hb dX0_findGroups_72 rfl (lv_at hl 0 rfl) ?_
              refine z_get (v := vI qg) hC hK hP inX0 rfl 0 rfl 1 (by decide) tw_165 rfl dX0_findGroups_73 ?_
              refine lv_iload_n hx hb dX0_findGroups_76 rfl (lv_at hl 1 rfl) ?_
              refine z_iast (ws' := [(u0, ob 0 [.ref f0, vI qg, .ref u1, .ref u2, .ref u3, .ref u4, .ref u5, .ref u6, vI cn, vI cg, vI cb]), (f0, ob 2 [.ref h0, .ref f1, vI nf, vI tm]), (f1, aI G 40 K), (u1, aI G 7 (zup qG qg qk))]) hC hK hP hD hS 3 rfl (by omega) (by decide) rfl dX0_findGroups_77 (fun H locs hP hD hS => ?_)
              refine lv_aload_n hx hb dX0_findGroups_78 rfl (lv_at hl 0 rfl) ?_
              refine lv_dup hx hb dX0_findGroups_79 rfl ?_
              refine z_get (v := vI qg) hC hK hP inX0 rfl 0 rfl 1 (by decide) tw_165 rfl dX0_findGroups_80 ?_
              refine lv_iconst (v := iI 1) hx hb dX0_findGroups_83 rfl ?_
              refine z_iadd hx hb dX0_findGroups_84 ?_
              refine z_put (ws' := [(u0, ob 0 [.ref f0, vI (qg + 1), .ref u1, .ref u2, .ref u3, .ref u4, .ref u5, .ref u6, vI cn, vI cg, vI cb]), (f0, ob 2 [.ref h0, .ref f1, vI nf, vI tm]), (f1, aI G 40 K), (u1, aI G 7 (zup qG qg qk))]) hC hK hP hD hS inX0 tyX0 tyX0_ok nmX0 rfl 0 rfl 1 (by decide) tw_165 rfl rfl rfl (Nat.le_of_ble_eq_true rfl) rfl dX0_findGroups_85 (fun H locs hP hD hS => ?_)
              refine z_iinc (k := 1) (lv' := [(1, vI (qk + 1)), (0, .ref u0)]) hx hb dX0_findGroups_88 hl rfl (by decide) rfl (fun ls hl => ?_)
              refine lv_goto (tgt := 21) hx hb dX0_findGroups_91 (by decide) ?_
              exact ih_21 (qk + 1) (qg + 1) (zup qG qg qk) H locs ls hP hD hS (lv_sub hl [1, 0] rfl) (by omega) (by first | exact ngF_t (by omega) hqg hnew | exact ngF_f (by omega) hqg hold) (by first | exact gcF_t (by omega) hqg hqG hnew c_65 | exact gcF_6 (by omega) hqg hqG hnew c_65 | exact gcF_f (by omega) hqG hold) (by omega)
  exact cut_21 ((nf - (0 : Int)).toNat + 1) 0 0 (zfl GA nf 7) H locs ls hP hD hS (lv_sub hl [1, 0] rfl) (by omega) (rfl) (rfl) (Nat.lt_succ_self _)
