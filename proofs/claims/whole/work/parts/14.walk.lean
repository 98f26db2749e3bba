/-- what is read of a block ahead of the check: the states and the check behind its first k bytes (data from place da on); nothing more once no state can be there -/
def rdF (T : Int → Int) (kd : Int) (v : Int64) (da st ck : Int) : Nat → Int × Int
  | 0 => (st, ck)
  | k + 1 => if (rdF T kd v da st ck k).1 = 0 then rdF T kd v da st ck k else (if da ≤ (k : Int) then stepZ T (byZ v (k : Int)) (rdF T kd v da st ck k).1 else (rdF T kd v da st ck k).1, ckZ kd (rdF T kd v da st ck k).2 (byZ v (k : Int)))
theorem rdF_bd {T : Int → Int} (hT : ∀ j : Int, 0 ≤ j ∧ j < 4096 → 0 ≤ T j ∧ T j < 65536) {kd : Int} {v : Int64} {da st ck : Int} (hs : 0 ≤ st ∧ st < 65536) (hc : 0 ≤ ck ∧ ck < 256) : ∀ k : Nat, (0 ≤ (rdF T kd v da st ck k).1 ∧ (rdF T kd v da st ck k).1 < 65536) ∧ (0 ≤ (rdF T kd v da st ck k).2 ∧ (rdF T kd v da st ck k).2 < 256) := by
  intro k
  induction k with
  | zero => exact ⟨hs, hc⟩
  | succ k ih =>
    unfold rdF
    split
    · exact ih
    · refine ⟨?_, ckZ_bd ih.2 (byZ_bd _ _)⟩
      by_cases hd : da ≤ (k : Int)
      · simp only [if_pos hd]
        exact stepZ_bd hT (byZ_bd _ _) _
      · simp only [if_neg hd]
        exact ih.1
theorem rdF_z {T : Int → Int} {kd : Int} {v : Int64} {da st ck : Int} {k : Nat} (h : (rdF T kd v da st ck k).1 = 0) : rdF T kd v da st ck (k + 1) = rdF T kd v da st ck k := if_pos h
theorem rdF_end {T : Int → Int} {kd : Int} {v : Int64} {da st ck : Int} {k : Nat} (h : (rdF T kd v da st ck k).1 = 0) : ∀ j, rdF T kd v da st ck (k + j) = rdF T kd v da st ck k := by
  intro j
  induction j with
  | zero => rfl
  | succ j ih =>
    show rdF T kd v da st ck ((k + j) + 1) = _
    rw [rdF_z (by rw [ih]; exact h), ih]
theorem rdF_s1 {T : Int → Int} {kd : Int} {v : Int64} {da st ck i : Int} (hi : 0 ≤ i) (h : (rdF T kd v da st ck i.toNat).1 ≠ 0) (hd : da ≤ i) : (stepZ T (byZ v i) (rdF T kd v da st ck i.toNat).1, ckZ kd (rdF T kd v da st ck i.toNat).2 (byZ v i)) = rdF T kd v da st ck (i + 1).toNat := by
  rw [show (i + 1).toNat = i.toNat + 1 by omega]
  conv => rhs; unfold rdF
  rw [if_neg h, Int.toNat_of_nonneg hi, if_pos hd]
theorem rdF_s2 {T : Int → Int} {kd : Int} {v : Int64} {da st ck i : Int} (hi : 0 ≤ i) (h : (rdF T kd v da st ck i.toNat).1 ≠ 0) (hd : i < da) : ((rdF T kd v da st ck i.toNat).1, ckZ kd (rdF T kd v da st ck i.toNat).2 (byZ v i)) = rdF T kd v da st ck (i + 1).toNat := by
  rw [show (i + 1).toNat = i.toNat + 1 by omega]
  conv => rhs; unfold rdF
  rw [if_neg h, Int.toNat_of_nonneg hi, if_neg (by omega)]
/-- where a row goes on, the states and the check behind its blocks so far -/
def stB (SB : Int → Int) (d : Int) : Int := if d = 0 then 1 else SB (d - 1)
def ckB (CB : Int → Int) (d : Int) : Int := if d = 0 then 0 else CB (d - 1)
def dtB (d : Int) : Int := if d = 0 then 3 else 0
theorem ms_J9_min_7cf53 : zMS yJ9_min_7cf53 cJ9_min_7cf53 2 (some .int) 2 := ⟨tw_302, tw_301, tw_50, by decide +kernel⟩
theorem ms_X6_isZeroBehind : zMS yX6_isZeroBehind cX6_isZeroBehind 3 (some .boolean) 2 := ⟨tw_305, tw_304, tw_35, by decide +kernel⟩
theorem mv_X5_readAheadOfCheck : zMV yX5_readAheadOfCheck cX5_readAheadOfCheck 9 none RX5 4 := ⟨tw_309, tw_308, tw_4, tw_39, by decide +kernel⟩
theorem mv_X5_readsHead : zMV yX5_readsHead cX5_readsHead 5 (some .boolean) RX5 2 := ⟨tw_288, tw_287, tw_3, tw_39, by decide +kernel⟩
set_option maxRecDepth 100000 in
set_option maxHeartbeats 4000000 in
theorem c_X5_begin (l : Launch) (G : zGt) (sz : Nat) (w0 w1 w2 w3 g0 f0 : Nat) (rc kp lk lg mn ca st ck : Int) (x y : Int) (hy : y = 0 ∨ y = 1) : Met l yX5_begin (Cond.code yX5_begin cX5_begin 3 none :: tb) ({ frames := 0, cells := 0, slots := 0, locals := 0 } : Room) (zPw G [(w0, ob 5 [.ref g0, .ref f0, vI rc, vI kp, vI lk, vI lg, vI mn, .ref w1, .ref w2, .ref w3, vI ca, vI st, vI ck])] sz [.ref w0, vI x, vI y]) (va_Qv (fun u : Unit => True) (fun (u : Unit) t => zB G [(w0, ob 5 [.ref g0, .ref f0, vI rc, vI kp, vI lk, vI lg, vI mn, .ref w1, .ref w2, .ref w3, vI ca, vI st, vI ck])] sz [(w0, ob 5 [.ref g0, .ref f0, vI x, vI y, vI 0, vI 0, vI mn, .ref w1, .ref w2, .ref w3, vI ca, vI st, vI ck])] t) (va_A [(w0, ob 5 [.ref g0, .ref f0, vI rc, vI kp, vI lk, vI lg, vI mn, .ref w1, .ref w2, .ref w3, vI ca, vI st, vI ck])] sz)) 0 0 (va_A [(w0, ob 5 [.ref g0, .ref f0, vI rc, vI kp, vI lk, vI lg, vI mn, .ref w1, .ref w2, .ref w3, vI ca, vI st, vI ck])] sz) := by
  refine Met.ofW (cc := cX5_begin) (maxL := 3) (ret := none) (by decide) rfl ?_
  intro p e s m args below meth c s₁ B hml hv
  obtain ⟨rfl, hsz, hP, hK, hD0⟩ := hv
  subst hsz
  have hD := hD0.self (sz := s.heap.size)
  obtain ⟨A, hAe⟩ : ∃ A : Nat → Prop, A = va_A [(w0, ob 5 [.ref g0, .ref f0, vI rc, vI kp, vI lk, vI lg, vI mn, .ref w1, .ref w2, .ref w3, vI ca, vI st, vI ck])] s.heap.size := ⟨_, rfl⟩
  rw [← hAe] at hD
  have hA : ∀ q : Nat, s.heap.size ≤ q → A q := fun q h => by rw [hAe]; exact Or.inr h
  have hS : va_S A s.heap s.heap [] := va_S.rf
  obtain ⟨hC, hr, hlk⟩ := z_begin B hml
  have hC : CallFix p m c cX5_begin 3 s _ tb RX5 := hC
  have hx := hC.1
  have hb := hC.2.1
  have hl := lv_entry ([.ref w0, vI x, vI y]) (n := 3) (Nat.le_of_ble_eq_true rfl)
  rw [lg_entry_eq]
  generalize (lg_sl ([.ref w0, vI x, vI y]) ++ List.replicate (3 - (lg_sl ([.ref w0, vI x, vI y])).length) Slot.unset).toArray = ls at hl ⊢
  have hl : lv_has ls 3 [(0, .ref w0), (1, vI x), (2, vI y)] := hl
  obtain ⟨H, hHe⟩ : ∃ H : Heap, H = s.heap := ⟨_, rfl⟩
  obtain ⟨locs, hLe⟩ : ∃ L : List Loc, L = [] := ⟨_, rfl⟩
  suffices hgo : W p l e (headSpec (Cond.code yX5_begin cX5_begin 3 none :: tb) ({ frames := 0, cells := 0, slots := 0, locals := 0 } : Room)).room s m ([.ref w0, vI x, vI y] : List Value).toArray below meth c H locs 0 0 (MQ below (va_Qv (fun u : Unit => True) (fun (u : Unit) t => zB G [(w0, ob 5 [.ref g0, .ref f0, vI rc, vI kp, vI lk, vI lg, vI mn, .ref w1, .ref w2, .ref w3, vI ca, vI st, vI ck])] s.heap.size [(w0, ob 5 [.ref g0, .ref f0, vI x, vI y, vI 0, vI 0, vI mn, .ref w1, .ref w2, .ref w3, vI ca, vI st, vI ck])] t) (va_A [(w0, ob 5 [.ref g0, .ref f0, vI rc, vI kp, vI lk, vI lg, vI mn, .ref w1, .ref w2, .ref w3, vI ca, vI st, vI ck])] s.heap.size)) ([.ref w0, vI x, vI y] : List Value).toArray s 0 0 (va_A [(w0, ob 5 [.ref g0, .ref f0, vI rc, vI kp, vI lk, vI lg, vI mn, .ref w1, .ref w2, .ref w3, vI ca, vI st, vI ck])] s.heap.size)) (F0 m 0 ls []) by rw [hHe, hLe] at hgo; exact hgo
  rw [← hHe] at hP
  have hS : va_S A s.heap H locs := by rw [hHe, hLe]; exact hS
  clear hHe hLe
  refine lv_aload_n hx hb dX5_begin_0 rfl (lv_at hl 0 rfl) ?_
  refine lv_iload_n hx hb dX5_begin_1 rfl (lv_at hl 1 rfl) ?_
  refine z_put (ws' := [(w0, ob 5 [.ref g0, .ref f0, vI x, vI kp, vI lk, vI lg, vI mn, .ref w1, .ref w2, .ref w3, vI ca, vI st, vI ck])]) hC hK hP hD hS inX5 tyX5 tyX5_ok nmX5 rfl 0 rfl 2 (by decide) tw_120 rfl rfl rfl (Nat.le_of_ble_eq_true rfl) rfl dX5_begin_2 (fun H locs hP hD hS => ?_)
  refine lv_aload_n hx hb dX5_begin_5 rfl (lv_at hl 0 rfl) ?_
  refine lv_iload_n hx hb dX5_begin_6 rfl (lv_at hl 2 rfl) ?_
  refine z_put (ws' := [(w0, ob 5 [.ref g0, .ref f0, vI x, vI y, vI lk, vI lg, vI mn, .ref w1, .ref w2, .ref w3, vI ca, vI st, vI ck])]) hC hK hP hD hS inX5 tyX5 tyX5_ok nmX5 rfl 0 rfl 3 (by decide) tw_121 rfl (by rcases hy with rfl | rfl <;> rfl) (by rcases hy with rfl | rfl <;> rfl) (Nat.le_of_ble_eq_true rfl) rfl dX5_begin_7 (fun H locs hP hD hS => ?_)
  refine lv_aload_n hx hb dX5_begin_10 rfl (lv_at hl 0 rfl) ?_
  refine lv_iconst (v := iI 0) hx hb dX5_begin_11 rfl ?_
  refine z_put (ws' := [(w0, ob 5 [.ref g0, .ref f0, vI x, vI y, vI 0, vI lg, vI mn, .ref w1, .ref w2, .ref w3, vI ca, vI st, vI ck])]) hC hK hP hD hS inX5 tyX5 tyX5_ok nmX5 rfl 0 rfl 4 (by decide) tw_122 rfl rfl rfl (Nat.le_of_ble_eq_true rfl) rfl dX5_begin_12 (fun H locs hP hD hS => ?_)
  refine lv_aload_n hx hb dX5_begin_15 rfl (lv_at hl 0 rfl) ?_
  refine lv_iconst (v := iI 0) hx hb dX5_begin_16 rfl ?_
  refine z_put (ws' := [(w0, ob 5 [.ref g0, .ref f0, vI x, vI y, vI 0, vI 0, vI mn, .ref w1, .ref w2, .ref w3, vI ca, vI st, vI ck])]) hC hK hP hD hS inX5 tyX5 tyX5_ok nmX5 rfl 0 rfl 5 (by decide) tw_123 rfl rfl rfl (Nat.le_of_ble_eq_true rfl) rfl dX5_begin_17 (fun H locs hP hD hS => ?_)
  exact z_vretW hC hr hlk () hAe hP hD hS [0] (by decide) rfl rfl (trivial) dX5_begin_20

set_option maxRecDepth 100000 in
set_option maxHeartbeats 4000000 in
theorem c_X5_looks (l : Launch) (G : zGt) (w0 w1 w2 w3 g0 f0 : Nat) (rc kp lk lg mn ca st ck : Int)  : Met l yX5_looks (Cond.code yX5_looks cX5_looks 1 (some .int) :: tb) ({ frames := 0, cells := 0, slots := 0, locals := 0 } : Room) (zPr G [(w0, ob 5 [.ref g0, .ref f0, vI rc, vI kp, vI lk, vI lg, vI mn, .ref w1, .ref w2, .ref w3, vI ca, vI st, vI ck])] [.ref w0]) (vp_Si (fun r => r = iI lk)) 0 0 (fun _ => False) := by
  refine Met.ofW (cc := cX5_looks) (maxL := 1) (ret := (some .int)) (by decide) rfl ?_
  intro p e s m args below meth c s₁ B hml hv
  obtain ⟨rfl, hP, hK⟩ := hv
  obtain ⟨hC, hr, hlk⟩ := z_begin B hml
  have hC : CallFix p m c cX5_looks 1 s _ tb RX5 := hC
  have hx := hC.1
  have hb := hC.2.1
  have hl := lv_entry ([.ref w0]) (n := 1) (Nat.le_of_ble_eq_true rfl)
  rw [lg_entry_eq]
  generalize (lg_sl ([.ref w0]) ++ List.replicate (1 - (lg_sl ([.ref w0])).length) Slot.unset).toArray = ls at hl ⊢
  have hl : lv_has ls 1 [(0, .ref w0)] := hl
  refine lv_aload_n hx hb dX5_looks_0 rfl (lv_at hl 0 rfl) ?_
  refine z_get (v := vI lk) hC hK hP inX5 rfl 0 rfl 4 (by decide) tw_122 rfl dX5_looks_1 ?_
  exact z_iretR hC hr hlk (rfl) dX5_looks_4

set_option maxRecDepth 100000 in
set_option maxHeartbeats 4000000 in
theorem c_X5_longest (l : Launch) (G : zGt) (w0 w1 w2 w3 g0 f0 : Nat) (rc kp lk lg mn ca st ck : Int)  : Met l yX5_longest (Cond.code yX5_longest cX5_longest 1 (some .int) :: tb) ({ frames := 0, cells := 0, slots := 0, locals := 0 } : Room) (zPr G [(w0, ob 5 [.ref g0, .ref f0, vI rc, vI kp, vI lk, vI lg, vI mn, .ref w1, .ref w2, .ref w3, vI ca, vI st, vI ck])] [.ref w0]) (vp_Si (fun r => r = iI lg)) 0 0 (fun _ => False) := by
  refine Met.ofW (cc := cX5_longest) (maxL := 1) (ret := (some .int)) (by decide) rfl ?_
  intro p e s m args below meth c s₁ B hml hv
  obtain ⟨rfl, hP, hK⟩ := hv
  obtain ⟨hC, hr, hlk⟩ := z_begin B hml
  have hC : CallFix p m c cX5_longest 1 s _ tb RX5 := hC
  have hx := hC.1
  have hb := hC.2.1
  have hl := lv_entry ([.ref w0]) (n := 1) (Nat.le_of_ble_eq_true rfl)
  rw [lg_entry_eq]
  generalize (lg_sl ([.ref w0]) ++ List.replicate (1 - (lg_sl ([.ref w0])).length) Slot.unset).toArray = ls at hl ⊢
  have hl : lv_has ls 1 [(0, .ref w0)] := hl
  refine lv_aload_n hx hb dX5_longest_0 rfl (lv_at hl 0 rfl) ?_
  refine z_get (v := vI lg) hC hK hP inX5 rfl 0 rfl 5 (by decide) tw_123 rfl dX5_longest_1 ?_
  exact z_iretR hC hr hlk (rfl) dX5_longest_4

set_option maxRecDepth 100000 in
set_option maxHeartbeats 4000000 in
theorem c_X5_isTooLong (l : Launch) (G : zGt) (w0 w1 w2 w3 g0 f0 : Nat) (rc kp lk lg mn ca st ck : Int) (hlk : 0 ≤ lk ∧ lk ≤ 20001) : Met l yX5_isTooLong (Cond.code yX5_isTooLong cX5_isTooLong 1 (some .boolean) :: tb) ({ frames := 0, cells := 0, slots := 0, locals := 0 } : Room) (zPr G [(w0, ob 5 [.ref g0, .ref f0, vI rc, vI kp, vI lk, vI lg, vI mn, .ref w1, .ref w2, .ref w3, vI ca, vI st, vI ck])] [.ref w0]) (vp_Si (fun r => r = iI (if 20000 < lk then 1 else 0))) 0 0 (fun _ => False) := by
  refine Met.ofW (cc := cX5_isTooLong) (maxL := 1) (ret := (some .boolean)) (by decide) rfl ?_
  intro p e s m args below meth c s₁ B hml hv
  obtain ⟨rfl, hP, hK⟩ := hv
  obtain ⟨hC, hr, hlk⟩ := z_begin B hml
  have hC : CallFix p m c cX5_isTooLong 1 s _ tb RX5 := hC
  have hx := hC.1
  have hb := hC.2.1
  have hl := lv_entry ([.ref w0]) (n := 1) (Nat.le_of_ble_eq_true rfl)
  rw [lg_entry_eq]
  generalize (lg_sl ([.ref w0]) ++ List.replicate (1 - (lg_sl ([.ref w0])).length) Slot.unset).toArray = ls at hl ⊢
  have hl : lv_has ls 1 [(0, .ref w0)] := hl
  refine lv_aload_n hx hb dX5_isTooLong_0 rfl (lv_at hl 0 rfl) ?_
  refine z_get (v := vI lk) hC hK hP inX5 rfl 0 rfl 4 (by decide) tw_122 rfl dX5_isTooLong_1 ?_
  refine lv_sipush (v := iI 20000) hx hb dX5_isTooLong_4 (by decide) ?_
  refine z_icmp_le (tgt := 14) hx hb dX5_isTooLong_7 (by decide) (by omega) (fun c_7 => ?_) (fun c_7 => ?_)
  · refine lv_iconst (v := iI 0) hx hb dX5_isTooLong_14 rfl ?_
    exact z_bretR hC hr hlk (by split <;> omega) (by omega) dX5_isTooLong_15
  · refine lv_iconst (v := iI 1) hx hb dX5_isTooLong_10 rfl ?_
    refine lv_goto (tgt := 15) hx hb dX5_isTooLong_11 (by decide) ?_
    exact z_bretR hC hr hlk (by split <;> omega) (by omega) dX5_isTooLong_15

set_option maxRecDepth 100000 in
set_option maxHeartbeats 4000000 in
theorem c_X5_readsHead (l : Launch) (G : zGt) (sz : Nat) (w0 w1 w2 w3 g0 f0 : Nat) (rc kp lk lg mn ca st ck : Int) (m0 m1 : Nat) (a1 a2 kd gl ed : Int) (T : Int → Int) (v : Int64) (ha1 : 0 ≤ a1 ∧ a1 < 256) (ha2 : 0 ≤ a2 ∧ a2 < 256) : Met l yX5_readsHead (Cond.code yX5_readsHead cX5_readsHead 5 (some .boolean) :: tb) ({ frames := 1, cells := 0, slots := 0, locals := 22 } : Room) (zPw G [(w0, ob 5 [.ref g0, .ref f0, vI rc, vI kp, vI lk, vI lg, vI mn, .ref w1, .ref w2, .ref w3, vI ca, vI st, vI ck]), (m0, ob 4 [vI a1, vI a2, vI kd, vI gl, vI ed, .ref m1]), (m1, aI G 4096 T)] sz [.ref w0, .ref m0, .long v]) (va_Qi (fun (r : Int32) (u : Unit) => r = iI (bZ (byZ v 0 = a1 ∧ byZ v 1 = a2 ∧ byZ v 2 ≤ 36)) ∧ True) (fun (u : Unit) t => zB G [(w0, ob 5 [.ref g0, .ref f0, vI rc, vI kp, vI lk, vI lg, vI mn, .ref w1, .ref w2, .ref w3, vI ca, vI st, vI ck]), (m0, ob 4 [vI a1, vI a2, vI kd, vI gl, vI ed, .ref m1]), (m1, aI G 4096 T)] sz [(w0, ob 5 [.ref g0, .ref f0, vI rc, vI kp, vI lk, vI lg, vI mn, .ref w1, .ref w2, .ref w3, vI (3 + byZ v 2), vI st, vI ck]), (m0, ob 4 [vI a1, vI a2, vI kd, vI gl, vI ed, .ref m1]), (m1, aI G 4096 T)] t) (va_A [(w0, ob 5 [.ref g0, .ref f0, vI rc, vI kp, vI lk, vI lg, vI mn, .ref w1, .ref w2, .ref w3, vI ca, vI st, vI ck]), (m0, ob 4 [vI a1, vI a2, vI kd, vI gl, vI ed, .ref m1]), (m1, aI G 4096 T)] sz)) 0 0 (va_A [(w0, ob 5 [.ref g0, .ref f0, vI rc, vI kp, vI lk, vI lg, vI mn, .ref w1, .ref w2, .ref w3, vI ca, vI st, vI ck]), (m0, ob 4 [vI a1, vI a2, vI kd, vI gl, vI ed, .ref m1]), (m1, aI G 4096 T)] sz) := by
  refine Met.ofW (cc := cX5_readsHead) (maxL := 5) (ret := (some .boolean)) (by decide) rfl ?_
  intro p e s m args below meth c s₁ B hml hv
  obtain ⟨rfl, hsz, hP, hK, hD0⟩ := hv
  subst hsz
  have hD := hD0.self (sz := s.heap.size)
  obtain ⟨A, hAe⟩ : ∃ A : Nat → Prop, A = va_A [(w0, ob 5 [.ref g0, .ref f0, vI rc, vI kp, vI lk, vI lg, vI mn, .ref w1, .ref w2, .ref w3, vI ca, vI st, vI ck]), (m0, ob 4 [vI a1, vI a2, vI kd, vI gl, vI ed, .ref m1]), (m1, aI G 4096 T)] s.heap.size := ⟨_, rfl⟩
  rw [← hAe] at hD
  have hA : ∀ q : Nat, s.heap.size ≤ q → A q := fun q h => by rw [hAe]; exact Or.inr h
  have hS : va_S A s.heap s.heap [] := va_S.rf
  obtain ⟨hC, hr, hlk⟩ := z_begin B hml
  have hC : CallFix p m c cX5_readsHead 5 s _ tb RX5 := hC
  have hx := hC.1
  have hb := hC.2.1
  have hl := lv_entry ([.ref w0, .ref m0, .long v]) (n := 5) (Nat.le_of_ble_eq_true rfl)
  rw [lg_entry_eq]
  generalize (lg_sl ([.ref w0, .ref m0, .long v]) ++ List.replicate (5 - (lg_sl ([.ref w0, .ref m0, .long v])).length) Slot.unset).toArray = ls at hl ⊢
  have hl : lv_has ls 5 [(0, .ref w0), (1, .ref m0), (2, .long v)] := hl
  obtain ⟨H, hHe⟩ : ∃ H : Heap, H = s.heap := ⟨_, rfl⟩
  obtain ⟨locs, hLe⟩ : ∃ L : List Loc, L = [] := ⟨_, rfl⟩
  suffices hgo : W p l e (headSpec (Cond.code yX5_readsHead cX5_readsHead 5 (some .boolean) :: tb) ({ frames := 1, cells := 0, slots := 0, locals := 22 } : Room)).room s m ([.ref w0, .ref m0, .long v] : List Value).toArray below meth c H locs 0 0 (MQ below (va_Qi (fun (r : Int32) (u : Unit) => r = iI (bZ (byZ v 0 = a1 ∧ byZ v 1 = a2 ∧ byZ v 2 ≤ 36)) ∧ True) (fun (u : Unit) t => zB G [(w0, ob 5 [.ref g0, .ref f0, vI rc, vI kp, vI lk, vI lg, vI mn, .ref w1, .ref w2, .ref w3, vI ca, vI st, vI ck]), (m0, ob 4 [vI a1, vI a2, vI kd, vI gl, vI ed, .ref m1]), (m1, aI G 4096 T)] s.heap.size [(w0, ob 5 [.ref g0, .ref f0, vI rc, vI kp, vI lk, vI lg, vI mn, .ref w1, .ref w2, .ref w3, vI (3 + byZ v 2), vI st, vI ck]), (m0, ob 4 [vI a1, vI a2, vI kd, vI gl, vI ed, .ref m1]), (m1, aI G 4096 T)] t) (va_A [(w0, ob 5 [.ref g0, .ref f0, vI rc, vI kp, vI lk, vI lg, vI mn, .ref w1, .ref w2, .ref w3, vI ca, vI st, vI ck]), (m0, ob 4 [vI a1, vI a2, vI kd, vI gl, vI ed, .ref m1]), (m1, aI G 4096 T)] s.heap.size)) ([.ref w0, .ref m0, .long v] : List Value).toArray s 0 0 (va_A [(w0, ob 5 [.ref g0, .ref f0, vI rc, vI kp, vI lk, vI lg, vI mn, .ref w1, .ref w2, .ref w3, vI ca, vI st, vI ck]), (m0, ob 4 [vI a1, vI a2, vI kd, vI gl, vI ed, .ref m1]), (m1, aI G 4096 T)] s.heap.size)) (F0 m 0 ls []) by rw [hHe, hLe] at hgo; exact hgo
  rw [← hHe] at hP
  have hS : va_S A s.heap H locs := by rw [hHe, hLe]; exact hS
  clear hHe hLe
  have hv0 := byZ_bd v 0
  have hv1 := byZ_bd v 1
  have hv2 := byZ_bd v 2
  refine lv_lload_n hx hb dX5_readsHead_0 rfl (lv_at hl 2 rfl) ?_
  refine lv_iconst (v := iI 2) hx hb dX5_readsHead_1 rfl ?_
  refine z_rNi (rest := []) hC hK hP (c_X6_byteOf l G v 2) ms_X6_byteOf hK.2.1 [] rfl rfl hl.1 rfl (Nat.le_of_ble_eq_true rfl) ⟨rfl, rfl, Nat.le_of_ble_eq_true rfl, Nat.le_of_ble_eq_true rfl⟩ ⟨Nat.le_of_ble_eq_true rfl, Nat.le_of_ble_eq_true rfl⟩ dX5_readsHead_2 ?_
  refine z_top (y := byZ v 2) (rfl) ?_
  refine lv_istore (lv' := [(4, vI (byZ v 2)), (0, .ref w0), (1, .ref m0), (2, .long v)]) hx hb dX5_readsHead_5 hl (by decide) rfl (fun ls hl => ?_)
  refine lv_aload_n hx hb dX5_readsHead_7 rfl (lv_at hl 1 rfl) ?_
  refine lv_iconst (v := iI 3) hx hb dX5_readsHead_8 rfl ?_
  refine lv_iload hx hb dX5_readsHead_9 (lv_at hl 0 rfl) ?_
  refine z_iadd hx hb dX5_readsHead_11 ?_
  refine z_put (ws' := [(w0, ob 5 [.ref g0, .ref f0, vI rc, vI kp, vI lk, vI lg, vI mn, .ref w1, .ref w2, .ref w3, vI (3 + (byZ v 2)), vI st, vI ck]), (m0, ob 4 [vI a1, vI a2, vI kd, vI gl, vI ed, .ref m1]), (m1, aI G 4096 T)]) hC hK hP hD hS inX5 tyX5 tyX5_ok nmX5 rfl 0 rfl 10 (by decide) tw_128 rfl rfl rfl (Nat.le_of_ble_eq_true rfl) rfl dX5_readsHead_12 (fun H locs hP hD hS => ?_)
  refine lv_lload_n hx hb dX5_readsHead_15 rfl (lv_at hl 3 rfl) ?_
  refine lv_iconst (v := iI 0) hx hb dX5_readsHead_16 rfl ?_
  refine z_rNi (rest := []) hC hK hP (c_X6_byteOf l G v 0) ms_X6_byteOf hK.2.1 [] rfl rfl hl.1 rfl (Nat.le_of_ble_eq_true rfl) ⟨rfl, rfl, Nat.le_of_ble_eq_true rfl, Nat.le_of_ble_eq_true rfl⟩ ⟨Nat.le_of_ble_eq_true rfl, Nat.le_of_ble_eq_true rfl⟩ dX5_readsHead_17 ?_
  refine z_top (y := byZ v 0) (rfl) ?_
  refine lv_aload_n hx hb dX5_readsHead_20 rfl (lv_at hl 2 rfl) ?_
  refine z_rVi (q0 := 1) (ci := 4) (b := m0) (rest := [vI (byZ v 0)]) hC hK hP (c_X4_firstHead l G m0 m1 a1 a2 kd gl ed T) mv_X4_firstHead tw_292 [1, 2] rfl rfl rfl rfl hl.1 rfl (Nat.le_of_ble_eq_true rfl) ⟨rfl, rfl, Nat.le_of_ble_eq_true rfl, Nat.le_of_ble_eq_true rfl⟩ ⟨Nat.le_of_ble_eq_true rfl, Nat.le_of_ble_eq_true rfl⟩ dX5_readsHead_21 ?_
  refine z_icmp_ne (tgt := 50) hx hb dX5_readsHead_24 (by decide) (by omega) (fun c_24 => ?_) (fun c_24 => ?_)
  · refine lv_iconst (v := iI 0) hx hb dX5_readsHead_50 rfl ?_
    exact z_bretW hC hr hlk () hAe hP hD hS [0, 1, 2] (by decide) rfl rfl (⟨by first | exact congrArg iI (bZ_t ⟨c_24, c_36, c_43⟩).symm | exact congrArg iI (bZ_f (fun h => by omega)).symm, trivial⟩) (by omega) dX5_readsHead_51
  · refine lv_lload_n hx hb dX5_readsHead_27 rfl (lv_at hl 3 rfl) ?_
    refine lv_iconst (v := iI 1) hx hb dX5_readsHead_28 rfl ?_
    refine z_rNi (rest := []) hC hK hP (c_X6_byteOf l G v 1) ms_X6_byteOf hK.2.1 [] rfl rfl hl.1 rfl (Nat.le_of_ble_eq_true rfl) ⟨rfl, rfl, Nat.le_of_ble_eq_true rfl, Nat.le_of_ble_eq_true rfl⟩ ⟨Nat.le_of_ble_eq_true rfl, Nat.le_of_ble_eq_true rfl⟩ dX5_readsHead_29 ?_
    refine z_top (y := byZ v 1) (rfl) ?_
    refine lv_aload_n hx hb dX5_readsHead_32 rfl (lv_at hl 2 rfl) ?_
    refine z_rVi (q0 := 1) (ci := 4) (b := m0) (rest := [vI (byZ v 1)]) hC hK hP (c_X4_secondHead l G m0 m1 a1 a2 kd gl ed T) mv_X4_secondHead tw_296 [1, 2] rfl rfl rfl rfl hl.1 rfl (Nat.le_of_ble_eq_true rfl) ⟨rfl, rfl, Nat.le_of_ble_eq_true rfl, Nat.le_of_ble_eq_true rfl⟩ ⟨Nat.le_of_ble_eq_true rfl, Nat.le_of_ble_eq_true rfl⟩ dX5_readsHead_33 ?_
    refine z_icmp_ne (tgt := 50) hx hb dX5_readsHead_36 (by decide) (by omega) (fun c_36 => ?_) (fun c_36 => ?_)
    · refine lv_iconst (v := iI 0) hx hb dX5_readsHead_50 rfl ?_
      exact z_bretW hC hr hlk () hAe hP hD hS [0, 1, 2] (by decide) rfl rfl (⟨by first | exact congrArg iI (bZ_t ⟨c_24, c_36, c_43⟩).symm | exact congrArg iI (bZ_f (fun h => by omega)).symm, trivial⟩) (by omega) dX5_readsHead_51
    · refine lv_iload hx hb dX5_readsHead_39 (lv_at hl 0 rfl) ?_
      refine lv_bipush (v := iI 36) hx hb dX5_readsHead_41 (by decide) ?_
      refine z_icmp_gt (tgt := 50) hx hb dX5_readsHead_43 (by decide) (by omega) (fun c_43 => ?_) (fun c_43 => ?_)
      · refine lv_iconst (v := iI 0) hx hb dX5_readsHead_50 rfl ?_
        exact z_bretW hC hr hlk () hAe hP hD hS [0, 1, 2] (by decide) rfl rfl (⟨by first | exact congrArg iI (bZ_t ⟨c_24, c_36, c_43⟩).symm | exact congrArg iI (bZ_f (fun h => by omega)).symm, trivial⟩) (by omega) dX5_readsHead_51
      · refine lv_iconst (v := iI 1) hx hb dX5_readsHead_46 rfl ?_
        refine lv_goto (tgt := 51) hx hb dX5_readsHead_47 (by decide) ?_
        exact z_bretW hC hr hlk () hAe hP hD hS [0, 1, 2] (by decide) rfl rfl (⟨by first | exact congrArg iI (bZ_t ⟨c_24, c_36, c_43⟩).symm | exact congrArg iI (bZ_f (fun h => by omega)).symm, trivial⟩) (by omega) dX5_readsHead_51

set_option maxRecDepth 100000 in
set_option maxHeartbeats 4000000 in
theorem c_X5_readAheadOfCheck (l : Launch) (G : zGt) (sz : Nat) (w0 w1 w2 w3 g0 f0 : Nat) (rc kp lk lg mn ca st ck : Int) (SB CB : Int → Int) (m0 m1 : Nat) (a1 a2 kd gl ed : Int) (T : Int → Int) (d : Int) (v : Int64) (en : Int) (hT : ∀ j : Int, 0 ≤ j ∧ j < 4096 → 0 ≤ T j ∧ T j < 65536) (hkd : 0 ≤ kd ∧ kd < 3) (hd : 0 ≤ d ∧ d < 5) (hen : 0 ≤ en ∧ en ≤ 8) (hst : 0 ≤ stB SB d ∧ stB SB d < 65536) (hck : 0 ≤ ckB CB d ∧ ckB CB d < 256) : Met l yX5_readAheadOfCheck (Cond.code yX5_readAheadOfCheck cX5_readAheadOfCheck 9 none :: tb) ({ frames := 2, cells := 0, slots := 0, locals := 44 } : Room) (zPw G [(w0, ob 5 [.ref g0, .ref f0, vI rc, vI kp, vI lk, vI lg, vI mn, .ref w1, .ref w2, .ref w3, vI ca, vI st, vI ck]), (w2, aI G 5 SB), (w3, aI G 5 CB), (m0, ob 4 [vI a1, vI a2, vI kd, vI gl, vI ed, .ref m1]), (m1, aI G 4096 T)] sz [.ref w0, .ref m0, vI d, .long v, vI en]) (va_Qv (fun u : Unit => True) (fun (u : Unit) t => zB G [(w0, ob 5 [.ref g0, .ref f0, vI rc, vI kp, vI lk, vI lg, vI mn, .ref w1, .ref w2, .ref w3, vI ca, vI st, vI ck]), (w2, aI G 5 SB), (w3, aI G 5 CB), (m0, ob 4 [vI a1, vI a2, vI kd, vI gl, vI ed, .ref m1]), (m1, aI G 4096 T)] sz [(w0, ob 5 [.ref g0, .ref f0, vI rc, vI kp, vI lk, vI lg, vI mn, .ref w1, .ref w2, .ref w3, vI ca, vI ((rdF T kd v (dtB d) (stB SB d) (ckB CB d) en.toNat).1), vI ((rdF T kd v (dtB d) (stB SB d) (ckB CB d) en.toNat).2)]), (w2, aI G 5 SB), (w3, aI G 5 CB), (m0, ob 4 [vI a1, vI a2, vI kd, vI gl, vI ed, .ref m1]), (m1, aI G 4096 T)] t) (va_A [(w0, ob 5 [.ref g0, .ref f0, vI rc, vI kp, vI lk, vI lg, vI mn, .ref w1, .ref w2, .ref w3, vI ca, vI st, vI ck]), (w2, aI G 5 SB), (w3, aI G 5 CB), (m0, ob 4 [vI a1, vI a2, vI kd, vI gl, vI ed, .ref m1]), (m1, aI G 4096 T)] sz)) 0 0 (va_A [(w0, ob 5 [.ref g0, .ref f0, vI rc, vI kp, vI lk, vI lg, vI mn, .ref w1, .ref w2, .ref w3, vI ca, vI st, vI ck]), (w2, aI G 5 SB), (w3, aI G 5 CB), (m0, ob 4 [vI a1, vI a2, vI kd, vI gl, vI ed, .ref m1]), (m1, aI G 4096 T)] sz) := by
  refine Met.ofW (cc := cX5_readAheadOfCheck) (maxL := 9) (ret := none) (by decide) rfl ?_
  intro p e s m args below meth c s₁ B hml hv
  obtain ⟨rfl, hsz, hP, hK, hD0⟩ := hv
  subst hsz
  have hD := hD0.self (sz := s.heap.size)
  obtain ⟨A, hAe⟩ : ∃ A : Nat → Prop, A = va_A [(w0, ob 5 [.ref g0, .ref f0, vI rc, vI kp, vI lk, vI lg, vI mn, .ref w1, .ref w2, .ref w3, vI ca, vI st, vI ck]), (w2, aI G 5 SB), (w3, aI G 5 CB), (m0, ob 4 [vI a1, vI a2, vI kd, vI gl, vI ed, .ref m1]), (m1, aI G 4096 T)] s.heap.size := ⟨_, rfl⟩
  rw [← hAe] at hD
  have hA : ∀ q : Nat, s.heap.size ≤ q → A q := fun q h => by rw [hAe]; exact Or.inr h
  have hS : va_S A s.heap s.heap [] := va_S.rf
  obtain ⟨hC, hr, hlk⟩ := z_begin B hml
  have hC : CallFix p m c cX5_readAheadOfCheck 9 s _ tb RX5 := hC
  have hx := hC.1
  have hb := hC.2.1
  have hl := lv_entry ([.ref w0, .ref m0, vI d, .long v, vI en]) (n := 9) (Nat.le_of_ble_eq_true rfl)
  rw [lg_entry_eq]
  generalize (lg_sl ([.ref w0, .ref m0, vI d, .long v, vI en]) ++ List.replicate (9 - (lg_sl ([.ref w0, .ref m0, vI d, .long v, vI en])).length) Slot.unset).toArray = ls at hl ⊢
  have hl : lv_has ls 9 [(0, .ref w0), (1, .ref m0), (2, vI d), (3, .long v), (5, vI en)] := hl
  obtain ⟨H, hHe⟩ : ∃ H : Heap, H = s.heap := ⟨_, rfl⟩
  obtain ⟨locs, hLe⟩ : ∃ L : List Loc, L = [] := ⟨_, rfl⟩
  suffices hgo : W p l e (headSpec (Cond.code yX5_readAheadOfCheck cX5_readAheadOfCheck 9 none :: tb) ({ frames := 2, cells := 0, slots := 0, locals := 44 } : Room)).room s m ([.ref w0, .ref m0, vI d, .long v, vI en] : List Value).toArray below meth c H locs 0 0 (MQ below (va_Qv (fun u : Unit => True) (fun (u : Unit) t => zB G [(w0, ob 5 [.ref g0, .ref f0, vI rc, vI kp, vI lk, vI lg, vI mn, .ref w1, .ref w2, .ref w3, vI ca, vI st, vI ck]), (w2, aI G 5 SB), (w3, aI G 5 CB), (m0, ob 4 [vI a1, vI a2, vI kd, vI gl, vI ed, .ref m1]), (m1, aI G 4096 T)] s.heap.size [(w0, ob 5 [.ref g0, .ref f0, vI rc, vI kp, vI lk, vI lg, vI mn, .ref w1, .ref w2, .ref w3, vI ca, vI ((rdF T kd v (dtB d) (stB SB d) (ckB CB d) en.toNat).1), vI ((rdF T kd v (dtB d) (stB SB d) (ckB CB d) en.toNat).2)]), (w2, aI G 5 SB), (w3, aI G 5 CB), (m0, ob 4 [vI a1, vI a2, vI kd, vI gl, vI ed, .ref m1]), (m1, aI G 4096 T)] t) (va_A [(w0, ob 5 [.ref g0, .ref f0, vI rc, vI kp, vI lk, vI lg, vI mn, .ref w1, .ref w2, .ref w3, vI ca, vI st, vI ck]), (w2, aI G 5 SB), (w3, aI G 5 CB), (m0, ob 4 [vI a1, vI a2, vI kd, vI gl, vI ed, .ref m1]), (m1, aI G 4096 T)] s.heap.size)) ([.ref w0, .ref m0, vI d, .long v, vI en] : List Value).toArray s 0 0 (va_A [(w0, ob 5 [.ref g0, .ref f0, vI rc, vI kp, vI lk, vI lg, vI mn, .ref w1, .ref w2, .ref w3, vI ca, vI st, vI ck]), (w2, aI G 5 SB), (w3, aI G 5 CB), (m0, ob 4 [vI a1, vI a2, vI kd, vI gl, vI ed, .ref m1]), (m1, aI G 4096 T)] s.heap.size)) (F0 m 0 ls []) by rw [hHe, hLe] at hgo; exact hgo
  rw [← hHe] at hP
  have hS : va_S A s.heap H locs := by rw [hHe, hLe]; exact hS
  clear hHe hLe
  have hbd := fun k : Nat => rdF_bd (T := T) hT (kd := kd) (v := v) (da := dtB d) hst hck k
  have cut_20 : ∀ (q1 : Int) (H : Heap) (locs : List Loc) (ls : Array Slot), va_P G.1 vwCl [(w0, ob 5 [.ref g0, .ref f0, vI rc, vI kp, vI lk, vI lg, vI mn, .ref w1, .ref w2, .ref w3, vI ca, vI q1, vI ck]), (w2, aI G 5 SB), (w3, aI G 5 CB), (m0, ob 4 [vI a1, vI a2, vI kd, vI gl, vI ed, .ref m1]), (m1, aI G 4096 T)] H → va_D A [(w0, ob 5 [.ref g0, .ref f0, vI rc, vI kp, vI lk, vI lg, vI mn, .ref w1, .ref w2, .ref w3, vI ca, vI q1, vI ck]), (w2, aI G 5 SB), (w3, aI G 5 CB), (m0, ob 4 [vI a1, vI a2, vI kd, vI gl, vI ed, .ref m1]), (m1, aI G 4096 T)] → va_S A s.heap H locs → lv_has ls 9 [(0, .ref w0), (1, .ref m0), (2, vI d), (3, .long v), (5, vI en)] → (q1 = stB SB d) → W p l e (headSpec (Cond.code yX5_readAheadOfCheck cX5_readAheadOfCheck 9 none :: tb) ({ frames := 2, cells := 0, slots := 0, locals := 44 } : Room)).room s m ([.ref w0, .ref m0, vI d, .long v, vI en] : List Value).toArray below meth c H locs 0 0 (MQ below (va_Qv (fun u : Unit => True) (fun (u : Unit) t => zB G [(w0, ob 5 [.ref g0, .ref f0, vI rc, vI kp, vI lk, vI lg, vI mn, .ref w1, .ref w2, .ref w3, vI ca, vI st, vI ck]), (w2, aI G 5 SB), (w3, aI G 5 CB), (m0, ob 4 [vI a1, vI a2, vI kd, vI gl, vI ed, .ref m1]), (m1, aI G 4096 T)] s.heap.size [(w0, ob 5 [.ref g0, .ref f0, vI rc, vI kp, vI lk, vI lg, vI mn, .ref w1, .ref w2, .ref w3, vI ca, vI ((rdF T kd v (dtB d) (stB SB d) (ckB CB d) en.toNat).1), vI ((rdF T kd v (dtB d) (stB SB d) (ckB CB d) en.toNat).2)]), (w2, aI G 5 SB), (w3, aI G 5 CB), (m0, ob 4 [vI a1, vI a2, vI kd, vI gl, vI ed, .ref m1]), (m1, aI G 4096 T)] t) (va_A [(w0, ob 5 [.ref g0, .ref f0, vI rc, vI kp, vI lk, vI lg, vI mn, .ref w1, .ref w2, .ref w3, vI ca, vI st, vI ck]), (w2, aI G 5 SB), (w3, aI G 5 CB), (m0, ob 4 [vI a1, vI a2, vI kd, vI gl, vI ed, .ref m1]), (m1, aI G 4096 T)] s.heap.size)) ([.ref w0, .ref m0, vI d, .long v, vI en] : List Value).toArray s 0 0 (va_A [(w0, ob 5 [.ref g0, .ref f0, vI rc, vI kp, vI lk, vI lg, vI mn, .ref w1, .ref w2, .ref w3, vI ca, vI st, vI ck]), (w2, aI G 5 SB), (w3, aI G 5 CB), (m0, ob 4 [vI a1, vI a2, vI kd, vI gl, vI ed, .ref m1]), (m1, aI G 4096 T)] s.heap.size)) (F0 m 20 ls []) := by
    intro q1 H locs ls hP hD hS hl hq1
    have cut_40 : ∀ (q2 : Int) (H : Heap) (locs : List Loc) (ls : Array Slot), va_P G.1 vwCl [(w0, ob 5 [.ref g0, .ref f0, vI rc, vI kp, vI lk, vI lg, vI mn, .ref w1, .ref w2, .ref w3, vI ca, vI q1, vI q2]), (w2, aI G 5 SB), (w3, aI G 5 CB), (m0, ob 4 [vI a1, vI a2, vI kd, vI gl, vI ed, .ref m1]), (m1, aI G 4096 T)] H → va_D A [(w0, ob 5 [.ref g0, .ref f0, vI rc, vI kp, vI lk, vI lg, vI mn, .ref w1, .ref w2, .ref w3, vI ca, vI q1, vI q2]), (w2, aI G 5 SB), (w3, aI G 5 CB), (m0, ob 4 [vI a1, vI a2, vI kd, vI gl, vI ed, .ref m1]), (m1, aI G 4096 T)] → va_S A s.heap H locs → lv_has ls 9 [(0, .ref w0), (1, .ref m0), (2, vI d), (3, .long v), (5, vI en)] → (q2 = ckB CB d) → W p l e (headSpec (Cond.code yX5_readAheadOfCheck cX5_readAheadOfCheck 9 none :: tb) ({ frames := 2, cells := 0, slots := 0, locals := 44 } : Room)).room s m ([.ref w0, .ref m0, vI d, .long v, vI en] : List Value).toArray below meth c H locs 0 0 (MQ below (va_Qv (fun u : Unit => True) (fun (u : Unit) t => zB G [(w0, ob 5 [.ref g0, .ref f0, vI rc, vI kp, vI lk, vI lg, vI mn, .ref w1, .ref w2, .ref w3, vI ca, vI st, vI ck]), (w2, aI G 5 SB), (w3, aI G 5 CB), (m0, ob 4 [vI a1, vI a2, vI kd, vI gl, vI ed, .ref m1]), (m1, aI G 4096 T)] s.heap.size [(w0, ob 5 [.ref g0, .ref f0, vI rc, vI kp, vI lk, vI lg, vI mn, .ref w1, .ref w2, .ref w3, vI ca, vI ((rdF T kd v (dtB d) (stB SB d) (ckB CB d) en.toNat).1), vI ((rdF T kd v (dtB d) (stB SB d) (ckB CB d) en.toNat).2)]), (w2, aI G 5 SB), (w3, aI G 5 CB), (m0, ob 4 [vI a1, vI a2, vI kd, vI gl, vI ed, .ref m1]), (m1, aI G 4096 T)] t) (va_A [(w0, ob 5 [.ref g0, .ref f0, vI rc, vI kp, vI lk, vI lg, vI mn, .ref w1, .ref w2, .ref w3, vI ca, vI st, vI ck]), (w2, aI G 5 SB), (w3, aI G 5 CB), (m0, ob 4 [vI a1, vI a2, vI kd, vI gl, vI ed, .ref m1]), (m1, aI G 4096 T)] s.heap.size)) ([.ref w0, .ref m0, vI d, .long v, vI en] : List Value).toArray s 0 0 (va_A [(w0, ob 5 [.ref g0, .ref f0, vI rc, vI kp, vI lk, vI lg, vI mn, .ref w1, .ref w2, .ref w3, vI ca, vI st, vI ck]), (w2, aI G 5 SB), (w3, aI G 5 CB), (m0, ob 4 [vI a1, vI a2, vI kd, vI gl, vI ed, .ref m1]), (m1, aI G 4096 T)] s.heap.size)) (F0 m 40 ls []) := by
      intro q2 H locs ls hP hD hS hl hq2
      have cut_51 : ∀ (q3 : Int) (H : Heap) (locs : List Loc) (ls : Array Slot), va_P G.1 vwCl [(w0, ob 5 [.ref g0, .ref f0, vI rc, vI kp, vI lk, vI lg, vI mn, .ref w1, .ref w2, .ref w3, vI ca, vI q1, vI q2]), (w2, aI G 5 SB), (w3, aI G 5 CB), (m0, ob 4 [vI a1, vI a2, vI kd, vI gl, vI ed, .ref m1]), (m1, aI G 4096 T)] H → va_D A [(w0, ob 5 [.ref g0, .ref f0, vI rc, vI kp, vI lk, vI lg, vI mn, .ref w1, .ref w2, .ref w3, vI ca, vI q1, vI q2]), (w2, aI G 5 SB), (w3, aI G 5 CB), (m0, ob 4 [vI a1, vI a2, vI kd, vI gl, vI ed, .ref m1]), (m1, aI G 4096 T)] → va_S A s.heap H locs → lv_has ls 9 [(0, .ref w0), (1, .ref m0), (2, vI d), (3, .long v), (5, vI en), (6, vI q3)] → (q3 = dtB d) → W p l e (headSpec (Cond.code yX5_readAheadOfCheck cX5_readAheadOfCheck 9 none :: tb) ({ frames := 2, cells := 0, slots := 0, locals := 44 } : Room)).room s m ([.ref w0, .ref m0, vI d, .long v, vI en] : List Value).toArray below meth c H locs 0 0 (MQ below (va_Qv (fun u : Unit => True) (fun (u : Unit) t => zB G [(w0, ob 5 [.ref g0, .ref f0, vI rc, vI kp, vI lk, vI lg, vI mn, .ref w1, .ref w2, .ref w3, vI ca, vI st, vI ck]), (w2, aI G 5 SB), (w3, aI G 5 CB), (m0, ob 4 [vI a1, vI a2, vI kd, vI gl, vI ed, .ref m1]), (m1, aI G 4096 T)] s.heap.size [(w0, ob 5 [.ref g0, .ref f0, vI rc, vI kp, vI lk, vI lg, vI mn, .ref w1, .ref w2, .ref w3, vI ca, vI ((rdF T kd v (dtB d) (stB SB d) (ckB CB d) en.toNat).1), vI ((rdF T kd v (dtB d) (stB SB d) (ckB CB d) en.toNat).2)]), (w2, aI G 5 SB), (w3, aI G 5 CB), (m0, ob 4 [vI a1, vI a2, vI kd, vI gl, vI ed, .ref m1]), (m1, aI G 4096 T)] t) (va_A [(w0, ob 5 [.ref g0, .ref f0, vI rc, vI kp, vI lk, vI lg, vI mn, .ref w1, .ref w2, .ref w3, vI ca, vI st, vI ck]), (w2, aI G 5 SB), (w3, aI G 5 CB), (m0, ob 4 [vI a1, vI a2, vI kd, vI gl, vI ed, .ref m1]), (m1, aI G 4096 T)] s.heap.size)) ([.ref w0, .ref m0, vI d, .long v, vI en] : List Value).toArray s 0 0 (va_A [(w0, ob 5 [.ref g0, .ref f0, vI rc, vI kp, vI lk, vI lg, vI mn, .ref w1, .ref w2, .ref w3, vI ca, vI st, vI ck]), (w2, aI G 5 SB), (w3, aI G 5 CB), (m0, ob 4 [vI a1, vI a2, vI kd, vI gl, vI ed, .ref m1]), (m1, aI G 4096 T)] s.heap.size)) (F0 m 51 ls []) := by
        intro q3 H locs ls hP hD hS hl hq3
        have hq3b : 0 ≤ q3 ∧ q3 ≤ 3 := by rw [hq3]; unfold dtB; split <;> omega
        refine lv_iconst (v := iI 0) hx hb dX5_readAheadOfCheck_51 rfl ?_
        refine lv_istore (lv' := [(7, vI 0), (0, .ref w0), (1, .ref m0), (2, vI d), (3, .long v), (5, vI en), (6, vI q3)]) hx hb dX5_readAheadOfCheck_52 hl (by decide) rfl (fun ls hl => ?_)
        have cut_54 : ∀ (n_ : Nat) (qi : Int) (qs : Int) (qc : Int) (H : Heap) (locs : List Loc) (ls : Array Slot), va_P G.1 vwCl [(w0, ob 5 [.ref g0, .ref f0, vI rc, vI kp, vI lk, vI lg, vI mn, .ref w1, .ref w2, .ref w3, vI ca, vI qs, vI qc]), (w2, aI G 5 SB), (w3, aI G 5 CB), (m0, ob 4 [vI a1, vI a2, vI kd, vI gl, vI ed, .ref m1]), (m1, aI G 4096 T)] H → va_D A [(w0, ob 5 [.ref g0, .ref f0, vI rc, vI kp, vI lk, vI lg, vI mn, .ref w1, .ref w2, .ref w3, vI ca, vI qs, vI qc]), (w2, aI G 5 SB), (w3, aI G 5 CB), (m0, ob 4 [vI a1, vI a2, vI kd, vI gl, vI ed, .ref m1]), (m1, aI G 4096 T)] → va_S A s.heap H locs → lv_has ls 9 [(0, .ref w0), (1, .ref m0), (2, vI d), (3, .long v), (5, vI en), (6, vI q3), (7, vI qi)] → (0 ≤ qi ∧ qi ≤ en) → (qs = (rdF T kd v (dtB d) (stB SB d) (ckB CB d) qi.toNat).1) → (qc = (rdF T kd v (dtB d) (stB SB d) (ckB CB d) qi.toNat).2) → (en - qi).toNat < n_ → W p l e (headSpec (Cond.code yX5_readAheadOfCheck cX5_readAheadOfCheck 9 none :: tb) ({ frames := 2, cells := 0, slots := 0, locals := 44 } : Room)).room s m ([.ref w0, .ref m0, vI d, .long v, vI en] : List Value).toArray below meth c H locs 0 0 (MQ below (va_Qv (fun u : Unit => True) (fun (u : Unit) t => zB G [(w0, ob 5 [.ref g0, .ref f0, vI rc, vI kp, vI lk, vI lg, vI mn, .ref w1, .ref w2, .ref w3, vI ca, vI st, vI ck]), (w2, aI G 5 SB), (w3, aI G 5 CB), (m0, ob 4 [vI a1, vI a2, vI kd, vI gl, vI ed, .ref m1]), (m1, aI G 4096 T)] s.heap.size [(w0, ob 5 [.ref g0, .ref f0, vI rc, vI kp, vI lk, vI lg, vI mn, .ref w1, .ref w2, .ref w3, vI ca, vI ((rdF T kd v (dtB d) (stB SB d) (ckB CB d) en.toNat).1), vI ((rdF T kd v (dtB d) (stB SB d) (ckB CB d) en.toNat).2)]), (w2, aI G 5 SB), (w3, aI G 5 CB), (m0, ob 4 [vI a1, vI a2, vI kd, vI gl, vI ed, .ref m1]), (m1, aI G 4096 T)] t) (va_A [(w0, ob 5 [.ref g0, .ref f0, vI rc, vI kp, vI lk, vI lg, vI mn, .ref w1, .ref w2, .ref w3, vI ca, vI st, vI ck]), (w2, aI G 5 SB), (w3, aI G 5 CB), (m0, ob 4 [vI a1, vI a2, vI kd, vI gl, vI ed, .ref m1]), (m1, aI G 4096 T)] s.heap.size)) ([.ref w0, .ref m0, vI d, .long v, vI en] : List Value).toArray s 0 0 (va_A [(w0, ob 5 [.ref g0, .ref f0, vI rc, vI kp, vI lk, vI lg, vI mn, .ref w1, .ref w2, .ref w3, vI ca, vI st, vI ck]), (w2, aI G 5 SB), (w3, aI G 5 CB), (m0, ob 4 [vI a1, vI a2, vI kd, vI gl, vI ed, .ref m1]), (m1, aI G 4096 T)] s.heap.size)) (F0 m 54 ls []) := by
          intro n_
          induction n_ with
          | zero => exact fun qi qs qc H locs ls hP hD hS hl hqi hqs hqc hm_ => absurd hm_ (Nat.not_lt_zero _)
          | succ n_ ih_54 =>
            intro qi qs qc H locs ls hP hD hS hl hqi hqs hqc hm_
            have hqb := hbd qi.toNat
            rw [← hqs, ← hqc] at hqb
            refine lv_iload hx hb dX5_readAheadOfCheck_54 (lv_at hl 6 rfl) ?_
            refine lv_iload hx hb dX5_readAheadOfCheck_56 (lv_at hl 4 rfl) ?_
            refine z_icmp_ge (tgt := 117) hx hb dX5_readAheadOfCheck_58 (by decide) (by omega) (fun c_58 => ?_) (fun c_58 => ?_)
            · have hfin : rdF T kd v (dtB d) (stB SB d) (ckB CB d) en.toNat = rdF T kd v (dtB d) (stB SB d) (ckB CB d) qi.toNat := by first | (rw [show qi = en by omega]) | (have h9 := rdF_end (T := T) (kd := kd) (v := v) (da := dtB d) (st := stB SB d) (ck := ckB CB d) (k := qi.toNat) (by rw [← hqs]; exact c_65) (en.toNat - qi.toNat); rwa [show qi.toNat + (en.toNat - qi.toNat) = en.toNat by omega] at h9)
              have hP : va_P G.1 vwCl [(w0, ob 5 [.ref g0, .ref f0, vI rc, vI kp, vI lk, vI lg, vI mn, .ref w1, .ref w2, .ref w3, vI ca, vI ((rdF T kd v (dtB d) (stB SB d) (ckB CB d) en.toNat).1), vI ((rdF T kd v (dtB d) (stB SB d) (ckB CB d) en.toNat).2)]), (w2, aI G 5 SB), (w3, aI G 5 CB), (m0, ob 4 [vI a1, vI a2, vI kd, vI gl, vI ed, .ref m1]), (m1, aI G 4096 T)] H := by rw [hfin, ← hqs, ← hqc]; exact hP
              have hD : va_D A [(w0, ob 5 [.ref g0, .ref f0, vI rc, vI kp, vI lk, vI lg, vI mn, .ref w1, .ref w2, .ref w3, vI ca, vI ((rdF T kd v (dtB d) (stB SB d) (ckB CB d) en.toNat).1), vI ((rdF T kd v (dtB d) (stB SB d) (ckB CB d) en.toNat).2)]), (w2, aI G 5 SB), (w3, aI G 5 CB), (m0, ob 4 [vI a1, vI a2, vI kd, vI gl, vI ed, .ref m1]), (m1, aI G 4096 T)] := by rw [hfin, ← hqs, ← hqc]; exact hD
              exact z_vretW hC hr hlk () hAe hP hD hS [0, 1, 2, 3, 4] (by decide) rfl rfl (trivial) dX5_readAheadOfCheck_117
            · refine lv_aload_n hx hb dX5_readAheadOfCheck_61 rfl (lv_at hl 0 rfl) ?_
              refine z_get (v := vI qs) hC hK hP inX5 rfl 0 rfl 11 (by decide) tw_129 rfl dX5_readAheadOfCheck_62 ?_
              refine z_if_eq (tgt := 117) hx hb dX5_readAheadOfCheck_65 (by decide) (by omega) (fun c_65 => ?_) (fun c_65 => ?_)
              · have hfin : rdF T kd v (dtB d) (stB SB d) (ckB CB d) en.toNat = rdF T kd v (dtB d) (stB SB d) (ckB CB d) qi.toNat := by first | (rw [show qi = en by omega]) | (have h9 := rdF_end (T := T) (kd := kd) (v := v) (da := dtB d) (st := stB SB d) (ck := ckB CB d) (k := qi.toNat) (by rw [← hqs]; exact c_65) (en.toNat - qi.toNat); rwa [show qi.toNat + (en.toNat - qi.toNat) = en.toNat by omega] at h9)
                have hP : va_P G.1 vwCl [(w0, ob 5 [.ref g0, .ref f0, vI rc, vI kp, vI lk, vI lg, vI mn, .ref w1, .ref w2, .ref w3, vI ca, vI ((rdF T kd v (dtB d) (stB SB d) (ckB CB d) en.toNat).1), vI ((rdF T kd v (dtB d) (stB SB d) (ckB CB d) en.toNat).2)]), (w2, aI G 5 SB), (w3, aI G 5 CB), (m0, ob 4 [vI a1, vI a2, vI kd, vI gl, vI ed, .ref m1]), (m1, aI G 4096 T)] H := by rw [hfin, ← hqs, ← hqc]; exact hP
                have hD : va_D A [(w0, ob 5 [.ref g0, .ref f0, vI rc, vI kp, vI lk, vI lg, vI mn, .ref w1, .ref w2, .ref w3, vI ca, vI ((rdF T kd v (dtB d) (stB SB d) (ckB CB d) en.toNat).1), vI ((rdF T kd v (dtB d) (stB SB d) (ckB CB d) en.toNat).2)]), (w2, aI G 5 SB), (w3, aI G 5 CB), (m0, ob 4 [vI a1, vI a2, vI kd, vI gl, vI ed, .ref m1]), (m1, aI G 4096 T)] := by rw [hfin, ← hqs, ← hqc]; exact hD
                exact z_vretW hC hr hlk () hAe hP hD hS [0, 1, 2, 3, 4] (by decide) rfl rfl (trivial) dX5_readAheadOfCheck_117
              · refine lv_lload_n hx hb dX5_readAheadOfCheck_68 rfl (lv_at hl 3 rfl) ?_
                refine lv_iload hx hb dX5_readAheadOfCheck_69 (lv_at hl 6 rfl) ?_
                refine z_rNi (rest := []) hC hK hP (c_X6_byteOf l G v qi) ms_X6_byteOf hK.2.1 [] rfl rfl hl.1 rfl (Nat.le_of_ble_eq_true rfl) ⟨rfl, rfl, Nat.le_of_ble_eq_true rfl, Nat.le_of_ble_eq_true rfl⟩ ⟨Nat.le_of_ble_eq_true rfl, Nat.le_of_ble_eq_true rfl⟩ dX5_readAheadOfCheck_71 ?_
                refine z_top (y := byZ v qi) (rfl) ?_
                refine lv_istore (lv' := [(8, vI (byZ v qi)), (0, .ref w0), (1, .ref m0), (2, vI d), (3, .long v), (5, vI en), (6, vI q3), (7, vI qi)]) hx hb dX5_readAheadOfCheck_74 hl (by decide) rfl (fun ls hl => ?_)
                refine lv_aload_n hx hb dX5_readAheadOfCheck_76 rfl (lv_at hl 1 rfl) ?_
                refine lv_aload_n hx hb dX5_readAheadOfCheck_77 rfl (lv_at hl 2 rfl) ?_
                refine lv_aload_n hx hb dX5_readAheadOfCheck_78 rfl (lv_at hl 1 rfl) ?_
                refine z_get (v := vI qc) hC hK hP inX5 rfl 0 rfl 12 (by decide) tw_130 rfl dX5_readAheadOfCheck_79 ?_
                refine lv_iload hx hb dX5_readAheadOfCheck_82 (lv_at hl 0 rfl) ?_
                refine z_rVi (q0 := 3) (ci := 4) (b := m0) (rest := [.ref w0]) hC hK hP (c_X4_checkWith l G m0 m1 a1 a2 kd gl ed T qc (byZ v qi) (by omega)) mv_X4_checkWith tw_310 [3, 4] rfl rfl rfl rfl hl.1 rfl (Nat.le_of_ble_eq_true rfl) ⟨rfl, rfl, Nat.le_of_ble_eq_true rfl, Nat.le_of_ble_eq_true rfl⟩ ⟨Nat.le_of_ble_eq_true rfl, Nat.le_of_ble_eq_true rfl⟩ dX5_readAheadOfCheck_84 ?_
                refine z_put (ws' := [(w0, ob 5 [.ref g0, .ref f0, vI rc, vI kp, vI lk, vI lg, vI mn, .ref w1, .ref w2, .ref w3, vI ca, vI qs, vI (ckZ kd qc (byZ v qi))]), (w2, aI G 5 SB), (w3, aI G 5 CB), (m0, ob 4 [vI a1, vI a2, vI kd, vI gl, vI ed, .ref m1]), (m1, aI G 4096 T)]) hC hK hP hD hS inX5 tyX5 tyX5_ok nmX5 rfl 0 rfl 12 (by decide) tw_130 rfl rfl rfl (Nat.le_of_ble_eq_true rfl) rfl dX5_readAheadOfCheck_87 (fun H locs hP hD hS => ?_)
                refine lv_iload hx hb dX5_readAheadOfCheck_90 (lv_at hl 7 rfl) ?_
                refine lv_iload hx hb dX5_readAheadOfCheck_92 (lv_at hl 6 rfl) ?_
                refine z_icmp_lt (tgt := 111) hx hb dX5_readAheadOfCheck_94 (by decide) (by omega) (fun c_94 => ?_) (fun c_94 => ?_)
                · refine z_iinc (k := 7) (lv' := [(7, vI (qi + 1)), (8, vI (byZ v qi)), (0, .ref w0), (1, .ref m0), (2, vI d), (3, .long v), (5, vI en), (6, vI q3)]) hx hb dX5_readAheadOfCheck_111 hl rfl (by decide) rfl (fun ls hl => ?_)
                  refine lv_goto (tgt := 54) hx hb dX5_readAheadOfCheck_114 (by decide) ?_
                  exact ih_54 (qi + 1) qs (ckZ kd qc (byZ v qi)) H locs ls hP hD hS (lv_sub hl [2, 3, 4, 5, 6, 7, 0] rfl) (by omega) (by first | (have h9 := congrArg Prod.fst (rdF_s1 (T := T) (kd := kd) (v := v) (da := dtB d) (st := stB SB d) (ck := ckB CB d) (i := qi) (by omega) (by rw [← hqs]; exact c_65) (by omega)); rw [← hqs] at h9; exact h9) | (have h9 := congrArg Prod.fst (rdF_s2 (T := T) (kd := kd) (v := v) (da := dtB d) (st := stB SB d) (ck := ckB CB d) (i := qi) (by omega) (by rw [← hqs]; exact c_65) (by omega)); rw [← hqs] at h9; exact h9)) (by first | (have h9 := congrArg Prod.snd (rdF_s1 (T := T) (kd := kd) (v := v) (da := dtB d) (st := stB SB d) (ck := ckB CB d) (i := qi) (by omega) (by rw [← hqs]; exact c_65) (by omega)); rw [← hqc] at h9; exact h9) | (have h9 := congrArg Prod.snd (rdF_s2 (T := T) (kd := kd) (v := v) (da := dtB d) (st := stB SB d) (ck := ckB CB d) (i := qi) (by omega) (by rw [← hqs]; exact c_65) (by omega)); rw [← hqc] at h9; exact h9)) (by omega)
                · refine lv_aload_n hx hb dX5_readAheadOfCheck_97 rfl (lv_at hl 1 rfl) ?_
                  refine lv_aload_n hx hb dX5_readAheadOfCheck_98 rfl (lv_at hl 2 rfl) ?_
                  refine lv_aload_n hx hb dX5_readAheadOfCheck_99 rfl (lv_at hl 1 rfl) ?_
                  refine z_get (v := vI qs) hC hK hP inX5 rfl 0 rfl 11 (by decide) tw_129 rfl dX5_readAheadOfCheck_100 ?_
                  refine lv_iload hx hb dX5_readAheadOfCheck_103 (lv_at hl 0 rfl) ?_
                  refine z_rVi (q0 := 3) (ci := 4) (b := m0) (rest := [.ref w0]) hC hK hP (c_X4_stepFrom l G m0 m1 a1 a2 kd gl ed T qs (byZ v qi) (hqb.1) (byZ_bd v qi)) mv_X4_stepFrom tw_317 [3, 4] rfl rfl rfl rfl hl.1 rfl (Nat.le_of_ble_eq_true rfl) ⟨rfl, rfl, Nat.le_of_ble_eq_true rfl, Nat.le_of_ble_eq_true rfl⟩ ⟨Nat.le_of_ble_eq_true rfl, Nat.le_of_ble_eq_true rfl⟩ dX5_readAheadOfCheck_105 ?_
                  refine z_put (ws' := [(w0, ob 5 [.ref g0, .ref f0, vI rc, vI kp, vI lk, vI lg, vI mn, .ref w1, .ref w2, .ref w3, vI ca, vI (stepZ T (byZ v qi) qs), vI (ckZ kd qc (byZ v qi))]), (w2, aI G 5 SB), (w3, aI G 5 CB), (m0, ob 4 [vI a1, vI a2, vI kd, vI gl, vI ed, .ref m1]), (m1, aI G 4096 T)]) hC hK hP hD hS inX5 tyX5 tyX5_ok nmX5 rfl 0 rfl 11 (by decide) tw_129 rfl rfl rfl (Nat.le_of_ble_eq_true rfl) rfl dX5_readAheadOfCheck_108 (fun H locs hP hD hS => ?_)
                  refine z_iinc (k := 7) (lv' := [(7, vI (qi + 1)), (8, vI (byZ v qi)), (0, .ref w0), (1, .ref m0), (2, vI d), (3, .long v), (5, vI en), (6, vI q3)]) hx hb dX5_readAheadOfCheck_111 hl rfl (by decide) rfl (fun ls hl => ?_)
                  refine lv_goto (tgt := 54) hx hb dX5_readAheadOfCheck_114 (by decide) ?_
                  exact ih_54 (qi + 1) (stepZ T (byZ v qi) qs) (ckZ kd qc (byZ v qi)) H locs ls hP hD hS (lv_sub hl [2, 3, 4, 5, 6, 7, 0] rfl) (by omega) (by first | (have h9 := congrArg Prod.fst (rdF_s1 (T := T) (kd := kd) (v := v) (da := dtB d) (st := stB SB d) (ck := ckB CB d) (i := qi) (by omega) (by rw [← hqs]; exact c_65) (by omega)); rw [← hqs] at h9; exact h9) | (have h9 := congrArg Prod.fst (rdF_s2 (T := T) (kd := kd) (v := v) (da := dtB d) (st := stB SB d) (ck := ckB CB d) (i := qi) (by omega) (by rw [← hqs]; exact c_65) (by omega)); rw [← hqs] at h9; exact h9)) (by first | (have h9 := congrArg Prod.snd (rdF_s1 (T := T) (kd := kd) (v := v) (da := dtB d) (st := stB SB d) (ck := ckB CB d) (i := qi) (by omega) (by rw [← hqs]; exact c_65) (by omega)); rw [← hqc] at h9; exact h9) | (have h9 := congrArg Prod.snd (rdF_s2 (T := T) (kd := kd) (v := v) (da := dtB d) (st := stB SB d) (ck := ckB CB d) (i := qi) (by omega) (by rw [← hqs]; exact c_65) (by omega)); rw [← hqc] at h9; exact h9)) (by omega)
        exact cut_54 ((en - (0 : Int)).toNat + 1) 0 q1 q2 H locs ls hP hD hS (lv_sub hl [1, 2, 3, 4, 5, 6, 0] rfl) (by omega) (hq1) (hq2) (Nat.lt_succ_self _)
      refine lv_iload_n hx hb dX5_readAheadOfCheck_40 rfl (lv_at hl 2 rfl) ?_
      refine z_if_ne (tgt := 48) hx hb dX5_readAheadOfCheck_41 (by decide) (by omega) (fun c_41 => ?_) (fun c_41 => ?_)
      · refine lv_iconst (v := iI 0) hx hb dX5_readAheadOfCheck_48 rfl ?_
        refine lv_istore (lv' := [(6, vI 0), (0, .ref w0), (1, .ref m0), (2, vI d), (3, .long v), (5, vI en)]) hx hb dX5_readAheadOfCheck_49 hl (by decide) rfl (fun ls hl => ?_)
        exact cut_51 0 H locs ls hP hD hS (lv_sub hl [1, 2, 3, 4, 5, 0] rfl) (by first | (unfold dtB; rw [if_pos (by omega)]) | (unfold dtB; rw [if_neg (by omega)]))
      · refine lv_iconst (v := iI 3) hx hb dX5_readAheadOfCheck_44 rfl ?_
        refine lv_goto (tgt := 49) hx hb dX5_readAheadOfCheck_45 (by decide) ?_
        refine lv_istore (lv' := [(6, vI 3), (0, .ref w0), (1, .ref m0), (2, vI d), (3, .long v), (5, vI en)]) hx hb dX5_readAheadOfCheck_49 hl (by decide) rfl (fun ls hl => ?_)
        exact cut_51 3 H locs ls hP hD hS (lv_sub hl [1, 2, 3, 4, 5, 0] rfl) (by first | (unfold dtB; rw [if_pos (by omega)]) | (unfold dtB; rw [if_neg (by omega)]))
    refine lv_aload_n hx hb dX5_readAheadOfCheck_20 rfl (lv_at hl 0 rfl) ?_
    refine lv_iload_n hx hb dX5_readAheadOfCheck_21 rfl (lv_at hl 2 rfl) ?_
    refine z_if_ne (tgt := 29) hx hb dX5_readAheadOfCheck_22 (by decide) (by omega) (fun c_22 => ?_) (fun c_22 => ?_)
    · refine lv_aload_n hx hb dX5_readAheadOfCheck_29 rfl (lv_at hl 0 rfl) ?_
      refine z_get (v := .ref w3) hC hK hP inX5 rfl 0 rfl 9 (by decide) tw_127 rfl dX5_readAheadOfCheck_30 ?_
      refine lv_iload_n hx hb dX5_readAheadOfCheck_33 rfl (lv_at hl 2 rfl) ?_
      refine lv_iconst (v := iI 1) hx hb dX5_readAheadOfCheck_34 rfl ?_
      refine z_isub hx hb dX5_readAheadOfCheck_35 ?_
      refine z_iald hC hK hP 2 rfl (by omega) (by decide) dX5_readAheadOfCheck_36 ?_
      refine z_put (ws' := [(w0, ob 5 [.ref g0, .ref f0, vI rc, vI kp, vI lk, vI lg, vI mn, .ref w1, .ref w2, .ref w3, vI ca, vI q1, vI (CB (d - 1))]), (w2, aI G 5 SB), (w3, aI G 5 CB), (m0, ob 4 [vI a1, vI a2, vI kd, vI gl, vI ed, .ref m1]), (m1, aI G 4096 T)]) hC hK hP hD hS inX5 tyX5 tyX5_ok nmX5 rfl 0 rfl 12 (by decide) tw_130 rfl rfl rfl (Nat.le_of_ble_eq_true rfl) rfl dX5_readAheadOfCheck_37 (fun H locs hP hD hS => ?_)
      exact cut_40 (CB (d - 1)) H locs ls hP hD hS hl (by first | (unfold ckB; rw [if_pos (by omega)]) | (unfold ckB; rw [if_neg (by omega)]))
    · refine lv_iconst (v := iI 0) hx hb dX5_readAheadOfCheck_25 rfl ?_
      refine lv_goto (tgt := 37) hx hb dX5_readAheadOfCheck_26 (by decide) ?_
      refine z_put (ws' := [(w0, ob 5 [.ref g0, .ref f0, vI rc, vI kp, vI lk, vI lg, vI mn, .ref w1, .ref w2, .ref w3, vI ca, vI q1, vI 0]), (w2, aI G 5 SB), (w3, aI G 5 CB), (m0, ob 4 [vI a1, vI a2, vI kd, vI gl, vI ed, .ref m1]), (m1, aI G 4096 T)]) hC hK hP hD hS inX5 tyX5 tyX5_ok nmX5 rfl 0 rfl 12 (by decide) tw_130 rfl rfl rfl (Nat.le_of_ble_eq_true rfl) rfl dX5_readAheadOfCheck_37 (fun H locs hP hD hS => ?_)
      exact cut_40 0 H locs ls hP hD hS hl (by first | (unfold ckB; rw [if_pos (by omega)]) | (unfold ckB; rw [if_neg (by omega)]))
  refine lv_aload_n hx hb dX5_readAheadOfCheck_0 rfl (lv_at hl 0 rfl) ?_
  refine lv_iload_n hx hb dX5_readAheadOfCheck_1 rfl (lv_at hl 2 rfl) ?_
  refine z_if_ne (tgt := 9) hx hb dX5_readAheadOfCheck_2 (by decide) (by omega) (fun c_2 => ?_) (fun c_2 => ?_)
  · refine lv_aload_n hx hb dX5_readAheadOfCheck_9 rfl (lv_at hl 0 rfl) ?_
    refine z_get (v := .ref w2) hC hK hP inX5 rfl 0 rfl 8 (by decide) tw_126 rfl dX5_readAheadOfCheck_10 ?_
    refine lv_iload_n hx hb dX5_readAheadOfCheck_13 rfl (lv_at hl 2 rfl) ?_
    refine lv_iconst (v := iI 1) hx hb dX5_readAheadOfCheck_14 rfl ?_
    refine z_isub hx hb dX5_readAheadOfCheck_15 ?_
    refine z_iald hC hK hP 1 rfl (by omega) (by decide) dX5_readAheadOfCheck_16 ?_
    refine z_put (ws' := [(w0, ob 5 [.ref g0, .ref f0, vI rc, vI kp, vI lk, vI lg, vI mn, .ref w1, .ref w2, .ref w3, vI ca, vI (SB (d - 1)), vI ck]), (w2, aI G 5 SB), (w3, aI G 5 CB), (m0, ob 4 [vI a1, vI a2, vI kd, vI gl, vI ed, .ref m1]), (m1, aI G 4096 T)]) hC hK hP hD hS inX5 tyX5 tyX5_ok nmX5 rfl 0 rfl 11 (by decide) tw_129 rfl rfl rfl (Nat.le_of_ble_eq_true rfl) rfl dX5_readAheadOfCheck_17 (fun H locs hP hD hS => ?_)
    exact cut_20 (SB (d - 1)) H locs ls hP hD hS hl (by first | (unfold stB; rw [if_pos (by omega)]) | (unfold stB; rw [if_neg (by omega)]))
  · refine lv_iconst (v := iI 1) hx hb dX5_readAheadOfCheck_5 rfl ?_
    refine lv_goto (tgt := 17) hx hb dX5_readAheadOfCheck_6 (by decide) ?_
    refine z_put (ws' := [(w0, ob 5 [.ref g0, .ref f0, vI rc, vI kp, vI lk, vI lg, vI mn, .ref w1, .ref w2, .ref w3, vI ca, vI 1, vI ck]), (w2, aI G 5 SB), (w3, aI G 5 CB), (m0, ob 4 [vI a1, vI a2, vI kd, vI gl, vI ed, .ref m1]), (m1, aI G 4096 T)]) hC hK hP hD hS inX5 tyX5 tyX5_ok nmX5 rfl 0 rfl 11 (by decide) tw_129 rfl rfl rfl (Nat.le_of_ble_eq_true rfl) rfl dX5_readAheadOfCheck_17 (fun H locs hP hD hS => ?_)
    exact cut_20 1 H locs ls hP hD hS hl (by first | (unfold stB; rw [if_pos (by omega)]) | (unfold stB; rw [if_neg (by omega)]))

/-- a block behind a row of d blocks: where the check stands, how many bytes of the block are ahead of it, what is read of them, whether the row goes on fitting -/
def caB (v : Int64) (ca d : Int) : Int := if d = 0 then 3 + byZ v 2 else ca
def enB (x d : Int) : Int := if 8 < x - d * 8 then 8 else x - d * 8
def rdB (T : Int → Int) (kd : Int) (SB CB : Int → Int) (v : Int64) (x d : Int) : Int × Int := rdF T kd v (dtB d) (stB SB d) (ckB CB d) (enB x d).toNat
def fitP (a1 a2 gl : Int) (T : Int → Int) (kd : Int) (SB CB : Int → Int) (v : Int64) (x d : Int) : Prop :=
  (d = 0 → byZ v 0 = a1 ∧ byZ v 1 = a2 ∧ byZ v 2 ≤ 36) ∧ (x - d * 8 < 8 → zlshl (zlshl v (8 * enB x d)) 8 = 0) ∧ ((x - d * 8 ≤ 8 → zand (rdB T kd SB CB v x d).1 gl ≠ 0) ∧ (8 < x - d * 8 → (rdB T kd SB CB v x d).1 ≠ 0)) ∧ (x - d * 8 < 8 → byZ v (enB x d) = (rdB T kd SB CB v x d).2)

set_option maxRecDepth 100000 in
set_option maxHeartbeats 4000000 in
theorem c_X5_fits (l : Launch) (G : zGt) (sz : Nat) (w0 w1 w2 w3 g0 f0 : Nat) (rc kp lk lg mn ca st ck : Int) (SB CB : Int → Int) (g1 : Nat) (nb : Int) (dk : Int → Int64) (m0 m1 : Nat) (a1 a2 kd gl ed : Int) (T : Int → Int) (d b : Int) (hT : ∀ j : Int, 0 ≤ j ∧ j < 4096 → 0 ≤ T j ∧ T j < 65536) (hkd : 0 ≤ kd ∧ kd < 3) (hnb : 0 ≤ nb ∧ nb ≤ 24) (ha1 : 0 ≤ a1 ∧ a1 < 256) (ha2 : 0 ≤ a2 ∧ a2 < 256) (hd : 0 ≤ d ∧ d < 5) (hb0 : 0 ≤ b ∧ b < nb) (hca : d ≠ 0 → d * 8 ≤ ca ∧ ca ≤ 39) (hst : 0 ≤ stB SB d ∧ stB SB d < 65536) (hck : 0 ≤ ckB CB d ∧ ckB CB d < 256) : Met l yX5_fits (Cond.code yX5_fits cX5_fits 10 (some .boolean) :: tb) ({ frames := 3, cells := 0, slots := 0, locals := 72 } : Room) (zPw G [(w0, ob 5 [.ref g0, .ref f0, vI rc, vI kp, vI lk, vI lg, vI mn, .ref w1, .ref w2, .ref w3, vI ca, vI st, vI ck]), (w2, aI G 5 SB), (w3, aI G 5 CB), (g0, ob 1 [.ref g1, vI nb]), (g1, aJ G 24 dk), (m0, ob 4 [vI a1, vI a2, vI kd, vI gl, vI ed, .ref m1]), (m1, aI G 4096 T)] sz [.ref w0, .ref m0, vI d, vI b]) (va_Qi (fun (r : Int32) (u : Int × Int × Int × Int × (Int → Int) × (Int → Int)) => r = iI u.1 ∧ u.2.1 = caB (dk b) ca d ∧ u.1 = bZ (fitP a1 a2 gl T kd SB CB (dk b) (caB (dk b) ca d) d) ∧ (u.1 = 1 → u.2.2.2.2.1 = zup SB d (rdB T kd SB CB (dk b) (caB (dk b) ca d) d).1 ∧ u.2.2.2.2.2 = zup CB d (rdB T kd SB CB (dk b) (caB (dk b) ca d) d).2) ∧ (u.1 = 0 → u.2.2.2.2.1 = SB ∧ u.2.2.2.2.2 = CB)) (fun (u : Int × Int × Int × Int × (Int → Int) × (Int → Int)) t => zB G [(w0, ob 5 [.ref g0, .ref f0, vI rc, vI kp, vI lk, vI lg, vI mn, .ref w1, .ref w2, .ref w3, vI ca, vI st, vI ck]), (w2, aI G 5 SB), (w3, aI G 5 CB), (g0, ob 1 [.ref g1, vI nb]), (g1, aJ G 24 dk), (m0, ob 4 [vI a1, vI a2, vI kd, vI gl, vI ed, .ref m1]), (m1, aI G 4096 T)] sz [(w0, ob 5 [.ref g0, .ref f0, vI rc, vI kp, vI lk, vI lg, vI mn, .ref w1, .ref w2, .ref w3, vI u.2.1, vI u.2.2.1, vI u.2.2.2.1]), (w2, aI G 5 u.2.2.2.2.1), (w3, aI G 5 u.2.2.2.2.2), (g0, ob 1 [.ref g1, vI nb]), (g1, aJ G 24 dk), (m0, ob 4 [vI a1, vI a2, vI kd, vI gl, vI ed, .ref m1]), (m1, aI G 4096 T)] t) (va_A [(w0, ob 5 [.ref g0, .ref f0, vI rc, vI kp, vI lk, vI lg, vI mn, .ref w1, .ref w2, .ref w3, vI ca, vI st, vI ck]), (w2, aI G 5 SB), (w3, aI G 5 CB), (g0, ob 1 [.ref g1, vI nb]), (g1, aJ G 24 dk), (m0, ob 4 [vI a1, vI a2, vI kd, vI gl, vI ed, .ref m1]), (m1, aI G 4096 T)] sz)) 0 0 (va_A [(w0, ob 5 [.ref g0, .ref f0, vI rc, vI kp, vI lk, vI lg, vI mn, .ref w1, .ref w2, .ref w3, vI ca, vI st, vI ck]), (w2, aI G 5 SB), (w3, aI G 5 CB), (g0, ob 1 [.ref g1, vI nb]), (g1, aJ G 24 dk), (m0, ob 4 [vI a1, vI a2, vI kd, vI gl, vI ed, .ref m1]), (m1, aI G 4096 T)] sz) := by
  refine Met.ofW (cc := cX5_fits) (maxL := 10) (ret := (some .boolean)) (by decide) rfl ?_
  intro p e s m args below meth c s₁ B hml hv
  obtain ⟨rfl, hsz, hP, hK, hD0⟩ := hv
  subst hsz
  have hD := hD0.self (sz := s.heap.size)
  obtain ⟨A, hAe⟩ : ∃ A : Nat → Prop, A = va_A [(w0, ob 5 [.ref g0, .ref f0, vI rc, vI kp, vI lk, vI lg, vI mn, .ref w1, .ref w2, .ref w3, vI ca, vI st, vI ck]), (w2, aI G 5 SB), (w3, aI G 5 CB), (g0, ob 1 [.ref g1, vI nb]), (g1, aJ G 24 dk), (m0, ob 4 [vI a1, vI a2, vI kd, vI gl, vI ed, .ref m1]), (m1, aI G 4096 T)] s.heap.size := ⟨_, rfl⟩
  rw [← hAe] at hD
  have hA : ∀ q : Nat, s.heap.size ≤ q → A q := fun q h => by rw [hAe]; exact Or.inr h
  have hS : va_S A s.heap s.heap [] := va_S.rf
  obtain ⟨hC, hr, hlk⟩ := z_begin B hml
  have hC : CallFix p m c cX5_fits 10 s _ tb RX5 := hC
  have hx := hC.1
  have hb := hC.2.1
  have hl := lv_entry ([.ref w0, .ref m0, vI d, vI b]) (n := 10) (Nat.le_of_ble_eq_true rfl)
  rw [lg_entry_eq]
  generalize (lg_sl ([.ref w0, .ref m0, vI d, vI b]) ++ List.replicate (10 - (lg_sl ([.ref w0, .ref m0, vI d, vI b])).length) Slot.unset).toArray = ls at hl ⊢
  have hl : lv_has ls 10 [(0, .ref w0), (1, .ref m0), (2, vI d), (3, vI b)] := hl
  obtain ⟨H, hHe⟩ : ∃ H : Heap, H = s.heap := ⟨_, rfl⟩
  obtain ⟨locs, hLe⟩ : ∃ L : List Loc, L = [] := ⟨_, rfl⟩
  suffices hgo : W p l e (headSpec (Cond.code yX5_fits cX5_fits 10 (some .boolean) :: tb) ({ frames := 3, cells := 0, slots := 0, locals := 72 } : Room)).room s m ([.ref w0, .ref m0, vI d, vI b] : List Value).toArray below meth c H locs 0 0 (MQ below (va_Qi (fun (r : Int32) (u : Int × Int × Int × Int × (Int → Int) × (Int → Int)) => r = iI u.1 ∧ u.2.1 = caB (dk b) ca d ∧ u.1 = bZ (fitP a1 a2 gl T kd SB CB (dk b) (caB (dk b) ca d) d) ∧ (u.1 = 1 → u.2.2.2.2.1 = zup SB d (rdB T kd SB CB (dk b) (caB (dk b) ca d) d).1 ∧ u.2.2.2.2.2 = zup CB d (rdB T kd SB CB (dk b) (caB (dk b) ca d) d).2) ∧ (u.1 = 0 → u.2.2.2.2.1 = SB ∧ u.2.2.2.2.2 = CB)) (fun (u : Int × Int × Int × Int × (Int → Int) × (Int → Int)) t => zB G [(w0, ob 5 [.ref g0, .ref f0, vI rc, vI kp, vI lk, vI lg, vI mn, .ref w1, .ref w2, .ref w3, vI ca, vI st, vI ck]), (w2, aI G 5 SB), (w3, aI G 5 CB), (g0, ob 1 [.ref g1, vI nb]), (g1, aJ G 24 dk), (m0, ob 4 [vI a1, vI a2, vI kd, vI gl, vI ed, .ref m1]), (m1, aI G 4096 T)] s.heap.size [(w0, ob 5 [.ref g0, .ref f0, vI rc, vI kp, vI lk, vI lg, vI mn, .ref w1, .ref w2, .ref w3, vI u.2.1, vI u.2.2.1, vI u.2.2.2.1]), (w2, aI G 5 u.2.2.2.2.1), (w3, aI G 5 u.2.2.2.2.2), (g0, ob 1 [.ref g1, vI nb]), (g1, aJ G 24 dk), (m0, ob 4 [vI a1, vI a2, vI kd, vI gl, vI ed, .ref m1]), (m1, aI G 4096 T)] t) (va_A [(w0, ob 5 [.ref g0, .ref f0, vI rc, vI kp, vI lk, vI lg, vI mn, .ref w1, .ref w2, .ref w3, vI ca, vI st, vI ck]), (w2, aI G 5 SB), (w3, aI G 5 CB), (g0, ob 1 [.ref g1, vI nb]), (g1, aJ G 24 dk), (m0, ob 4 [vI a1, vI a2, vI kd, vI gl, vI ed, .ref m1]), (m1, aI G 4096 T)] s.heap.size)) ([.ref w0, .ref m0, vI d, vI b] : List Value).toArray s 0 0 (va_A [(w0, ob 5 [.ref g0, .ref f0, vI rc, vI kp, vI lk, vI lg, vI mn, .ref w1, .ref w2, .ref w3, vI ca, vI st, vI ck]), (w2, aI G 5 SB), (w3, aI G 5 CB), (g0, ob 1 [.ref g1, vI nb]), (g1, aJ G 24 dk), (m0, ob 4 [vI a1, vI a2, vI kd, vI gl, vI ed, .ref m1]), (m1, aI G 4096 T)] s.heap.size)) (F0 m 0 ls []) by rw [hHe, hLe] at hgo; exact hgo
  rw [← hHe] at hP
  have hS : va_S A s.heap H locs := by rw [hHe, hLe]; exact hS
  clear hHe hLe
  have hv2 := byZ_bd (dk b) 2
  have hbd := fun k : Nat => rdF_bd (T := T) hT (kd := kd) (v := dk b) (da := dtB d) hst hck k
  refine lv_aload_n hx hb dX5_fits_0 rfl (lv_at hl 0 rfl) ?_
  refine z_get (v := .ref g0) hC hK hP inX5 rfl 0 rfl 0 (by decide) tw_118 rfl dX5_fits_1 ?_
  refine lv_iload_n hx hb dX5_fits_4 rfl (lv_at hl 3 rfl) ?_
  refine z_rVl (q0 := 3) (ci := 1) (b := g0) (rest := []) hC hK hP (c_X1_allOf l G g0 g1 nb dk b (by omega) (by omega)) mv_X1_allOf tw_281 [3, 4] rfl rfl rfl rfl hl.1 rfl (Nat.le_of_ble_eq_true rfl) ⟨rfl, rfl, Nat.le_of_ble_eq_true rfl, Nat.le_of_ble_eq_true rfl⟩ ⟨Nat.le_of_ble_eq_true rfl, Nat.le_of_ble_eq_true rfl⟩ dX5_fits_5 ?_
  refine z_topl (y := dk b) (if_pos hb0) ?_
  have cut_26 : ∀ (q0 : Int) (H : Heap) (locs : List Loc) (ls : Array Slot), va_P G.1 vwCl [(w0, ob 5 [.ref g0, .ref f0, vI rc, vI kp, vI lk, vI lg, vI mn, .ref w1, .ref w2, .ref w3, vI q0, vI st, vI ck]), (w2, aI G 5 SB), (w3, aI G 5 CB), (g0, ob 1 [.ref g1, vI nb]), (g1, aJ G 24 dk), (m0, ob 4 [vI a1, vI a2, vI kd, vI gl, vI ed, .ref m1]), (m1, aI G 4096 T)] H → va_D A [(w0, ob 5 [.ref g0, .ref f0, vI rc, vI kp, vI lk, vI lg, vI mn, .ref w1, .ref w2, .ref w3, vI q0, vI st, vI ck]), (w2, aI G 5 SB), (w3, aI G 5 CB), (g0, ob 1 [.ref g1, vI nb]), (g1, aJ G 24 dk), (m0, ob 4 [vI a1, vI a2, vI kd, vI gl, vI ed, .ref m1]), (m1, aI G 4096 T)] → va_S A s.heap H locs → lv_has ls 10 [(0, .ref w0), (1, .ref m0), (2, vI d), (3, vI b), (4, .long (dk b))] → (q0 = caB (dk b) ca d) → (d = 0 → byZ (dk b) 0 = a1 ∧ byZ (dk b) 1 = a2 ∧ byZ (dk b) 2 ≤ 36) → W p l e (headSpec (Cond.code yX5_fits cX5_fits 10 (some .boolean) :: tb) ({ frames := 3, cells := 0, slots := 0, locals := 72 } : Room)).room s m ([.ref w0, .ref m0, vI d, vI b] : List Value).toArray below meth c H locs 0 0 (MQ below (va_Qi (fun (r : Int32) (u : Int × Int × Int × Int × (Int → Int) × (Int → Int)) => r = iI u.1 ∧ u.2.1 = caB (dk b) ca d ∧ u.1 = bZ (fitP a1 a2 gl T kd SB CB (dk b) (caB (dk b) ca d) d) ∧ (u.1 = 1 → u.2.2.2.2.1 = zup SB d (rdB T kd SB CB (dk b) (caB (dk b) ca d) d).1 ∧ u.2.2.2.2.2 = zup CB d (rdB T kd SB CB (dk b) (caB (dk b) ca d) d).2) ∧ (u.1 = 0 → u.2.2.2.2.1 = SB ∧ u.2.2.2.2.2 = CB)) (fun (u : Int × Int × Int × Int × (Int → Int) × (Int → Int)) t => zB G [(w0, ob 5 [.ref g0, .ref f0, vI rc, vI kp, vI lk, vI lg, vI mn, .ref w1, .ref w2, .ref w3, vI ca, vI st, vI ck]), (w2, aI G 5 SB), (w3, aI G 5 CB), (g0, ob 1 [.ref g1, vI nb]), (g1, aJ G 24 dk), (m0, ob 4 [vI a1, vI a2, vI kd, vI gl, vI ed, .ref m1]), (m1, aI G 4096 T)] s.heap.size [(w0, ob 5 [.ref g0, .ref f0, vI rc, vI kp, vI lk, vI lg, vI mn, .ref w1, .ref w2, .ref w3, vI u.2.1, vI u.2.2.1, vI u.2.2.2.1]), (w2, aI G 5 u.2.2.2.2.1), (w3, aI G 5 u.2.2.2.2.2), (g0, ob 1 [.ref g1, vI nb]), (g1, aJ G 24 dk), (m0, ob 4 [vI a1, vI a2, vI kd, vI gl, vI ed, .ref m1]), (m1, aI G 4096 T)] t) (va_A [(w0, ob 5 [.ref g0, .ref f0, vI rc, vI kp, vI lk, vI lg, vI mn, .ref w1, .ref w2, .ref w3, vI ca, vI st, vI ck]), (w2, aI G 5 SB), (w3, aI G 5 CB), (g0, ob 1 [.ref g1, vI nb]), (g1, aJ G 24 dk), (m0, ob 4 [vI a1, vI a2, vI kd, vI gl, vI ed, .ref m1]), (m1, aI G 4096 T)] s.heap.size)) ([.ref w0, .ref m0, vI d, vI b] : List Value).toArray s 0 0 (va_A [(w0, ob 5 [.ref g0, .ref f0, vI rc, vI kp, vI lk, vI lg, vI mn, .ref w1, .ref w2, .ref w3, vI ca, vI st, vI ck]), (w2, aI G 5 SB), (w3, aI G 5 CB), (g0, ob 1 [.ref g1, vI nb]), (g1, aJ G 24 dk), (m0, ob 4 [vI a1, vI a2, vI kd, vI gl, vI ed, .ref m1]), (m1, aI G 4096 T)] s.heap.size)) (F0 m 26 ls []) := by
    intro q0 H locs ls hP hD hS hl hq0 hqh
    have hq0b : d * 8 ≤ q0 ∧ q0 ≤ 39 := by rw [hq0]; unfold caB; by_cases h0 : d = 0; rw [if_pos h0]; have := hqh h0; omega; rw [if_neg h0]; exact hca h0
    have hdl : 0 ≤ q0 - d * 8 := by omega
    refine lv_aload_n hx hb dX5_fits_26 rfl (lv_at hl 0 rfl) ?_
    refine z_get (v := vI q0) hC hK hP inX5 rfl 0 rfl 10 (by decide) tw_128 rfl dX5_fits_27 ?_
    refine lv_iload_n hx hb dX5_fits_30 rfl (lv_at hl 2 rfl) ?_
    refine lv_bipush (v := iI 8) hx hb dX5_fits_31 (by decide) ?_
    refine z_imul hx hb dX5_fits_33 ?_
    refine z_isub hx hb dX5_fits_34 ?_
    refine lv_istore (lv' := [(6, vI (q0 - (d * 8))), (0, .ref w0), (1, .ref m0), (2, vI d), (3, vI b), (4, .long (dk b))]) hx hb dX5_fits_35 hl (by decide) rfl (fun ls hl => ?_)
    have cut_58 : ∀ (q8 : Int) (H : Heap) (locs : List Loc) (ls : Array Slot), va_P G.1 vwCl [(w0, ob 5 [.ref g0, .ref f0, vI rc, vI kp, vI lk, vI lg, vI mn, .ref w1, .ref w2, .ref w3, vI q0, vI st, vI ck]), (w2, aI G 5 SB), (w3, aI G 5 CB), (g0, ob 1 [.ref g1, vI nb]), (g1, aJ G 24 dk), (m0, ob 4 [vI a1, vI a2, vI kd, vI gl, vI ed, .ref m1]), (m1, aI G 4096 T)] H → va_D A [(w0, ob 5 [.ref g0, .ref f0, vI rc, vI kp, vI lk, vI lg, vI mn, .ref w1, .ref w2, .ref w3, vI q0, vI st, vI ck]), (w2, aI G 5 SB), (w3, aI G 5 CB), (g0, ob 1 [.ref g1, vI nb]), (g1, aJ G 24 dk), (m0, ob 4 [vI a1, vI a2, vI kd, vI gl, vI ed, .ref m1]), (m1, aI G 4096 T)] → va_S A s.heap H locs → lv_has ls 10 [(0, .ref w0), (1, .ref m0), (2, vI d), (3, vI b), (4, .long (dk b)), (6, vI (q0 - (d * 8))), (7, vI (enB q0 d))] → ((q8 = 1 ∧ q0 - d * 8 < 8) ∨ (q8 = 0 ∧ 8 ≤ q0 - d * 8)) → W p l e (headSpec (Cond.code yX5_fits cX5_fits 10 (some .boolean) :: tb) ({ frames := 3, cells := 0, slots := 0, locals := 72 } : Room)).room s m ([.ref w0, .ref m0, vI d, vI b] : List Value).toArray below meth c H locs 0 0 (MQ below (va_Qi (fun (r : Int32) (u : Int × Int × Int × Int × (Int → Int) × (Int → Int)) => r = iI u.1 ∧ u.2.1 = caB (dk b) ca d ∧ u.1 = bZ (fitP a1 a2 gl T kd SB CB (dk b) (caB (dk b) ca d) d) ∧ (u.1 = 1 → u.2.2.2.2.1 = zup SB d (rdB T kd SB CB (dk b) (caB (dk b) ca d) d).1 ∧ u.2.2.2.2.2 = zup CB d (rdB T kd SB CB (dk b) (caB (dk b) ca d) d).2) ∧ (u.1 = 0 → u.2.2.2.2.1 = SB ∧ u.2.2.2.2.2 = CB)) (fun (u : Int × Int × Int × Int × (Int → Int) × (Int → Int)) t => zB G [(w0, ob 5 [.ref g0, .ref f0, vI rc, vI kp, vI lk, vI lg, vI mn, .ref w1, .ref w2, .ref w3, vI ca, vI st, vI ck]), (w2, aI G 5 SB), (w3, aI G 5 CB), (g0, ob 1 [.ref g1, vI nb]), (g1, aJ G 24 dk), (m0, ob 4 [vI a1, vI a2, vI kd, vI gl, vI ed, .ref m1]), (m1, aI G 4096 T)] s.heap.size [(w0, ob 5 [.ref g0, .ref f0, vI rc, vI kp, vI lk, vI lg, vI mn, .ref w1, .ref w2, .ref w3, vI u.2.1, vI u.2.2.1, vI u.2.2.2.1]), (w2, aI G 5 u.2.2.2.2.1), (w3, aI G 5 u.2.2.2.2.2), (g0, ob 1 [.ref g1, vI nb]), (g1, aJ G 24 dk), (m0, ob 4 [vI a1, vI a2, vI kd, vI gl, vI ed, .ref m1]), (m1, aI G 4096 T)] t) (va_A [(w0, ob 5 [.ref g0, .ref f0, vI rc, vI kp, vI lk, vI lg, vI mn, .ref w1, .ref w2, .ref w3, vI ca, vI st, vI ck]), (w2, aI G 5 SB), (w3, aI G 5 CB), (g0, ob 1 [.ref g1, vI nb]), (g1, aJ G 24 dk), (m0, ob 4 [vI a1, vI a2, vI kd, vI gl, vI ed, .ref m1]), (m1, aI G 4096 T)] s.heap.size)) ([.ref w0, .ref m0, vI d, vI b] : List Value).toArray s 0 0 (va_A [(w0, ob 5 [.ref g0, .ref f0, vI rc, vI kp, vI lk, vI lg, vI mn, .ref w1, .ref w2, .ref w3, vI ca, vI st, vI ck]), (w2, aI G 5 SB), (w3, aI G 5 CB), (g0, ob 1 [.ref g1, vI nb]), (g1, aJ G 24 dk), (m0, ob 4 [vI a1, vI a2, vI kd, vI gl, vI ed, .ref m1]), (m1, aI G 4096 T)] s.heap.size)) (F0 m 58 ls [vI q8]) := by
      intro q8 H locs ls hP hD hS hl hq8
      have hen : 0 ≤ enB q0 d ∧ enB q0 d ≤ 8 := by unfold enB; split <;> omega
      refine lv_istore (lv' := [(8, vI q8), (0, .ref w0), (1, .ref m0), (2, vI d), (3, vI b), (4, .long (dk b)), (6, vI (q0 - (d * 8))), (7, vI (enB q0 d))]) hx hb dX5_fits_58 hl (by decide) rfl (fun ls hl => ?_)
      have cut_77 : ∀  (H : Heap) (locs : List Loc) (ls : Array Slot), va_P G.1 vwCl [(w0, ob 5 [.ref g0, .ref f0, vI rc, vI kp, vI lk, vI lg, vI mn, .ref w1, .ref w2, .ref w3, vI q0, vI st, vI ck]), (w2, aI G 5 SB), (w3, aI G 5 CB), (g0, ob 1 [.ref g1, vI nb]), (g1, aJ G 24 dk), (m0, ob 4 [vI a1, vI a2, vI kd, vI gl, vI ed, .ref m1]), (m1, aI G 4096 T)] H → va_D A [(w0, ob 5 [.ref g0, .ref f0, vI rc, vI kp, vI lk, vI lg, vI mn, .ref w1, .ref w2, .ref w3, vI q0, vI st, vI ck]), (w2, aI G 5 SB), (w3, aI G 5 CB), (g0, ob 1 [.ref g1, vI nb]), (g1, aJ G 24 dk), (m0, ob 4 [vI a1, vI a2, vI kd, vI gl, vI ed, .ref m1]), (m1, aI G 4096 T)] → va_S A s.heap H locs → lv_has ls 10 [(0, .ref w0), (1, .ref m0), (2, vI d), (3, vI b), (4, .long (dk b)), (6, vI (q0 - (d * 8))), (7, vI (enB q0 d)), (8, vI q8)] → (q0 - d * 8 < 8 → zlshl (zlshl (dk b) (8 * enB q0 d)) 8 = 0) → W p l e (headSpec (Cond.code yX5_fits cX5_fits 10 (some .boolean) :: tb) ({ frames := 3, cells := 0, slots := 0, locals := 72 } : Room)).room s m ([.ref w0, .ref m0, vI d, vI b] : List Value).toArray below meth c H locs 0 0 (MQ below (va_Qi (fun (r : Int32) (u : Int × Int × Int × Int × (Int → Int) × (Int → Int)) => r = iI u.1 ∧ u.2.1 = caB (dk b) ca d ∧ u.1 = bZ (fitP a1 a2 gl T kd SB CB (dk b) (caB (dk b) ca d) d) ∧ (u.1 = 1 → u.2.2.2.2.1 = zup SB d (rdB T kd SB CB (dk b) (caB (dk b) ca d) d).1 ∧ u.2.2.2.2.2 = zup CB d (rdB T kd SB CB (dk b) (caB (dk b) ca d) d).2) ∧ (u.1 = 0 → u.2.2.2.2.1 = SB ∧ u.2.2.2.2.2 = CB)) (fun (u : Int × Int × Int × Int × (Int → Int) × (Int → Int)) t => zB G [(w0, ob 5 [.ref g0, .ref f0, vI rc, vI kp, vI lk, vI lg, vI mn, .ref w1, .ref w2, .ref w3, vI ca, vI st, vI ck]), (w2, aI G 5 SB), (w3, aI G 5 CB), (g0, ob 1 [.ref g1, vI nb]), (g1, aJ G 24 dk), (m0, ob 4 [vI a1, vI a2, vI kd, vI gl, vI ed, .ref m1]), (m1, aI G 4096 T)] s.heap.size [(w0, ob 5 [.ref g0, .ref f0, vI rc, vI kp, vI lk, vI lg, vI mn, .ref w1, .ref w2, .ref w3, vI u.2.1, vI u.2.2.1, vI u.2.2.2.1]), (w2, aI G 5 u.2.2.2.2.1), (w3, aI G 5 u.2.2.2.2.2), (g0, ob 1 [.ref g1, vI nb]), (g1, aJ G 24 dk), (m0, ob 4 [vI a1, vI a2, vI kd, vI gl, vI ed, .ref m1]), (m1, aI G 4096 T)] t) (va_A [(w0, ob 5 [.ref g0, .ref f0, vI rc, vI kp, vI lk, vI lg, vI mn, .ref w1, .ref w2, .ref w3, vI ca, vI st, vI ck]), (w2, aI G 5 SB), (w3, aI G 5 CB), (g0, ob 1 [.ref g1, vI nb]), (g1, aJ G 24 dk), (m0, ob 4 [vI a1, vI a2, vI kd, vI gl, vI ed, .ref m1]), (m1, aI G 4096 T)] s.heap.size)) ([.ref w0, .ref m0, vI d, vI b] : List Value).toArray s 0 0 (va_A [(w0, ob 5 [.ref g0, .ref f0, vI rc, vI kp, vI lk, vI lg, vI mn, .ref w1, .ref w2, .ref w3, vI ca, vI st, vI ck]), (w2, aI G 5 SB), (w3, aI G 5 CB), (g0, ob 1 [.ref g1, vI nb]), (g1, aJ G 24 dk), (m0, ob 4 [vI a1, vI a2, vI kd, vI gl, vI ed, .ref m1]), (m1, aI G 4096 T)] s.heap.size)) (F0 m 77 ls []) := by
        intro H locs ls hP hD hS hl hqz
        refine lv_aload_n hx hb dX5_fits_77 rfl (lv_at hl 0 rfl) ?_
        refine lv_aload_n hx hb dX5_fits_78 rfl (lv_at hl 1 rfl) ?_
        refine lv_iload_n hx hb dX5_fits_79 rfl (lv_at hl 2 rfl) ?_
        refine lv_lload hx hb dX5_fits_80 (lv_at hl 4 rfl) ?_
        refine lv_iload hx hb dX5_fits_82 (lv_at hl 6 rfl) ?_
        refine z_wVv (q0 := 0) (ci := 5) (b := w0) (rest := []) (wr := [(g0, ob 1 [.ref g1, vI nb]), (g1, aJ G 24 dk)]) hC hK hP hD hS hA (c_X5_readAheadOfCheck l G H.size w0 w1 w2 w3 g0 f0 rc kp lk lg mn q0 st ck SB CB m0 m1 a1 a2 kd gl ed T d (dk b) (enB q0 d) (by omega) (by omega) (by omega) (by omega) (hst) (hck)) mv_X5_readAheadOfCheck tw_306 [0, 1, 2, 5, 6] [3, 4] rfl rfl rfl rfl (by decide) rfl rfl rfl rfl hl.1 rfl (Nat.le_of_ble_eq_true rfl) ⟨rfl, rfl, Nat.le_of_ble_eq_true rfl, Nat.le_of_ble_eq_true rfl⟩ ⟨Nat.le_of_ble_eq_true rfl, Nat.le_of_ble_eq_true rfl⟩ dX5_fits_84 (fun u H locs hw hP hD hS => ?_)
        have hP : va_P G.1 vwCl [(g0, ob 1 [.ref g1, vI nb]), (g1, aJ G 24 dk), (w0, ob 5 [.ref g0, .ref f0, vI rc, vI kp, vI lk, vI lg, vI mn, .ref w1, .ref w2, .ref w3, vI q0, vI ((rdF T kd (dk b) (dtB d) (stB SB d) (ckB CB d) (enB q0 d).toNat).1), vI ((rdF T kd (dk b) (dtB d) (stB SB d) (ckB CB d) (enB q0 d).toNat).2)]), (w2, aI G 5 SB), (w3, aI G 5 CB), (m0, ob 4 [vI a1, vI a2, vI kd, vI gl, vI ed, .ref m1]), (m1, aI G 4096 T)] H := hP
        have hD : va_D A [(g0, ob 1 [.ref g1, vI nb]), (g1, aJ G 24 dk), (w0, ob 5 [.ref g0, .ref f0, vI rc, vI kp, vI lk, vI lg, vI mn, .ref w1, .ref w2, .ref w3, vI q0, vI ((rdF T kd (dk b) (dtB d) (stB SB d) (ckB CB d) (enB q0 d).toNat).1), vI ((rdF T kd (dk b) (dtB d) (stB SB d) (ckB CB d) (enB q0 d).toNat).2)]), (w2, aI G 5 SB), (w3, aI G 5 CB), (m0, ob 4 [vI a1, vI a2, vI kd, vI gl, vI ed, .ref m1]), (m1, aI G 4096 T)] := hD
        have hw_1 := hw
        clear hw_1
        have cut_117 : ∀ (q9 : Int) (H : Heap) (locs : List Loc) (ls : Array Slot), va_P G.1 vwCl [(g0, ob 1 [.ref g1, vI nb]), (g1, aJ G 24 dk), (w0, ob 5 [.ref g0, .ref f0, vI rc, vI kp, vI lk, vI lg, vI mn, .ref w1, .ref w2, .ref w3, vI q0, vI ((rdF T kd (dk b) (dtB d) (stB SB d) (ckB CB d) (enB q0 d).toNat).1), vI ((rdF T kd (dk b) (dtB d) (stB SB d) (ckB CB d) (enB q0 d).toNat).2)]), (w2, aI G 5 SB), (w3, aI G 5 CB), (m0, ob 4 [vI a1, vI a2, vI kd, vI gl, vI ed, .ref m1]), (m1, aI G 4096 T)] H → va_D A [(g0, ob 1 [.ref g1, vI nb]), (g1, aJ G 24 dk), (w0, ob 5 [.ref g0, .ref f0, vI rc, vI kp, vI lk, vI lg, vI mn, .ref w1, .ref w2, .ref w3, vI q0, vI ((rdF T kd (dk b) (dtB d) (stB SB d) (ckB CB d) (enB q0 d).toNat).1), vI ((rdF T kd (dk b) (dtB d) (stB SB d) (ckB CB d) (enB q0 d).toNat).2)]), (w2, aI G 5 SB), (w3, aI G 5 CB), (m0, ob 4 [vI a1, vI a2, vI kd, vI gl, vI ed, .ref m1]), (m1, aI G 4096 T)] → va_S A s.heap H locs → lv_has ls 10 [(0, .ref w0), (1, .ref m0), (2, vI d), (3, vI b), (4, .long (dk b)), (6, vI (q0 - (d * 8))), (7, vI (enB q0 d)), (8, vI q8)] → (0 ≤ q9 ∧ q9 ≤ 1) → (q9 ≠ 0 ↔ ((q0 - d * 8 ≤ 8 → zand (rdB T kd SB CB (dk b) q0 d).1 gl ≠ 0) ∧ (8 < q0 - d * 8 → (rdB T kd SB CB (dk b) q0 d).1 ≠ 0))) → W p l e (headSpec (Cond.code yX5_fits cX5_fits 10 (some .boolean) :: tb) ({ frames := 3, cells := 0, slots := 0, locals := 72 } : Room)).room s m ([.ref w0, .ref m0, vI d, vI b] : List Value).toArray below meth c H locs 0 0 (MQ below (va_Qi (fun (r : Int32) (u : Int × Int × Int × Int × (Int → Int) × (Int → Int)) => r = iI u.1 ∧ u.2.1 = caB (dk b) ca d ∧ u.1 = bZ (fitP a1 a2 gl T kd SB CB (dk b) (caB (dk b) ca d) d) ∧ (u.1 = 1 → u.2.2.2.2.1 = zup SB d (rdB T kd SB CB (dk b) (caB (dk b) ca d) d).1 ∧ u.2.2.2.2.2 = zup CB d (rdB T kd SB CB (dk b) (caB (dk b) ca d) d).2) ∧ (u.1 = 0 → u.2.2.2.2.1 = SB ∧ u.2.2.2.2.2 = CB)) (fun (u : Int × Int × Int × Int × (Int → Int) × (Int → Int)) t => zB G [(w0, ob 5 [.ref g0, .ref f0, vI rc, vI kp, vI lk, vI lg, vI mn, .ref w1, .ref w2, .ref w3, vI ca, vI st, vI ck]), (w2, aI G 5 SB), (w3, aI G 5 CB), (g0, ob 1 [.ref g1, vI nb]), (g1, aJ G 24 dk), (m0, ob 4 [vI a1, vI a2, vI kd, vI gl, vI ed, .ref m1]), (m1, aI G 4096 T)] s.heap.size [(w0, ob 5 [.ref g0, .ref f0, vI rc, vI kp, vI lk, vI lg, vI mn, .ref w1, .ref w2, .ref w3, vI u.2.1, vI u.2.2.1, vI u.2.2.2.1]), (w2, aI G 5 u.2.2.2.2.1), (w3, aI G 5 u.2.2.2.2.2), (g0, ob 1 [.ref g1, vI nb]), (g1, aJ G 24 dk), (m0, ob 4 [vI a1, vI a2, vI kd, vI gl, vI ed, .ref m1]), (m1, aI G 4096 T)] t) (va_A [(w0, ob 5 [.ref g0, .ref f0, vI rc, vI kp, vI lk, vI lg, vI mn, .ref w1, .ref w2, .ref w3, vI ca, vI st, vI ck]), (w2, aI G 5 SB), (w3, aI G 5 CB), (g0, ob 1 [.ref g1, vI nb]), (g1, aJ G 24 dk), (m0, ob 4 [vI a1, vI a2, vI kd, vI gl, vI ed, .ref m1]), (m1, aI G 4096 T)] s.heap.size)) ([.ref w0, .ref m0, vI d, vI b] : List Value).toArray s 0 0 (va_A [(w0, ob 5 [.ref g0, .ref f0, vI rc, vI kp, vI lk, vI lg, vI mn, .ref w1, .ref w2, .ref w3, vI ca, vI st, vI ck]), (w2, aI G 5 SB), (w3, aI G 5 CB), (g0, ob 1 [.ref g1, vI nb]), (g1, aJ G 24 dk), (m0, ob 4 [vI a1, vI a2, vI kd, vI gl, vI ed, .ref m1]), (m1, aI G 4096 T)] s.heap.size)) (F0 m 117 ls [vI q9]) := by
          intro q9 H locs ls hP hD hS hl hq9 hqr
          refine lv_istore (lv' := [(9, vI q9), (0, .ref w0), (1, .ref m0), (2, vI d), (3, vI b), (4, .long (dk b)), (6, vI (q0 - (d * 8))), (7, vI (enB q0 d)), (8, vI q8)]) hx hb dX5_fits_117 hl (by decide) rfl (fun ls hl => ?_)
          have cut_145 : ∀  (H : Heap) (locs : List Loc) (ls : Array Slot), va_P G.1 vwCl [(g0, ob 1 [.ref g1, vI nb]), (g1, aJ G 24 dk), (w0, ob 5 [.ref g0, .ref f0, vI rc, vI kp, vI lk, vI lg, vI mn, .ref w1, .ref w2, .ref w3, vI q0, vI ((rdF T kd (dk b) (dtB d) (stB SB d) (ckB CB d) (enB q0 d).toNat).1), vI ((rdF T kd (dk b) (dtB d) (stB SB d) (ckB CB d) (enB q0 d).toNat).2)]), (w2, aI G 5 SB), (w3, aI G 5 CB), (m0, ob 4 [vI a1, vI a2, vI kd, vI gl, vI ed, .ref m1]), (m1, aI G 4096 T)] H → va_D A [(g0, ob 1 [.ref g1, vI nb]), (g1, aJ G 24 dk), (w0, ob 5 [.ref g0, .ref f0, vI rc, vI kp, vI lk, vI lg, vI mn, .ref w1, .ref w2, .ref w3, vI q0, vI ((rdF T kd (dk b) (dtB d) (stB SB d) (ckB CB d) (enB q0 d).toNat).1), vI ((rdF T kd (dk b) (dtB d) (stB SB d) (ckB CB d) (enB q0 d).toNat).2)]), (w2, aI G 5 SB), (w3, aI G 5 CB), (m0, ob 4 [vI a1, vI a2, vI kd, vI gl, vI ed, .ref m1]), (m1, aI G 4096 T)] → va_S A s.heap H locs → lv_has ls 10 [(0, .ref w0), (1, .ref m0), (2, vI d), (3, vI b), (4, .long (dk b)), (6, vI (q0 - (d * 8))), (7, vI (enB q0 d)), (8, vI q8), (9, vI q9)] → (fitP a1 a2 gl T kd SB CB (dk b) q0 d) → W p l e (headSpec (Cond.code yX5_fits cX5_fits 10 (some .boolean) :: tb) ({ frames := 3, cells := 0, slots := 0, locals := 72 } : Room)).room s m ([.ref w0, .ref m0, vI d, vI b] : List Value).toArray below meth c H locs 0 0 (MQ below (va_Qi (fun (r : Int32) (u : Int × Int × Int × Int × (Int → Int) × (Int → Int)) => r = iI u.1 ∧ u.2.1 = caB (dk b) ca d ∧ u.1 = bZ (fitP a1 a2 gl T kd SB CB (dk b) (caB (dk b) ca d) d) ∧ (u.1 = 1 → u.2.2.2.2.1 = zup SB d (rdB T kd SB CB (dk b) (caB (dk b) ca d) d).1 ∧ u.2.2.2.2.2 = zup CB d (rdB T kd SB CB (dk b) (caB (dk b) ca d) d).2) ∧ (u.1 = 0 → u.2.2.2.2.1 = SB ∧ u.2.2.2.2.2 = CB)) (fun (u : Int × Int × Int × Int × (Int → Int) × (Int → Int)) t => zB G [(w0, ob 5 [.ref g0, .ref f0, vI rc, vI kp, vI lk, vI lg, vI mn, .ref w1, .ref w2, .ref w3, vI ca, vI st, vI ck]), (w2, aI G 5 SB), (w3, aI G 5 CB), (g0, ob 1 [.ref g1, vI nb]), (g1, aJ G 24 dk), (m0, ob 4 [vI a1, vI a2, vI kd, vI gl, vI ed, .ref m1]), (m1, aI G 4096 T)] s.heap.size [(w0, ob 5 [.ref g0, .ref f0, vI rc, vI kp, vI lk, vI lg, vI mn, .ref w1, .ref w2, .ref w3, vI u.2.1, vI u.2.2.1, vI u.2.2.2.1]), (w2, aI G 5 u.2.2.2.2.1), (w3, aI G 5 u.2.2.2.2.2), (g0, ob 1 [.ref g1, vI nb]), (g1, aJ G 24 dk), (m0, ob 4 [vI a1, vI a2, vI kd, vI gl, vI ed, .ref m1]), (m1, aI G 4096 T)] t) (va_A [(w0, ob 5 [.ref g0, .ref f0, vI rc, vI kp, vI lk, vI lg, vI mn, .ref w1, .ref w2, .ref w3, vI ca, vI st, vI ck]), (w2, aI G 5 SB), (w3, aI G 5 CB), (g0, ob 1 [.ref g1, vI nb]), (g1, aJ G 24 dk), (m0, ob 4 [vI a1, vI a2, vI kd, vI gl, vI ed, .ref m1]), (m1, aI G 4096 T)] s.heap.size)) ([.ref w0, .ref m0, vI d, vI b] : List Value).toArray s 0 0 (va_A [(w0, ob 5 [.ref g0, .ref f0, vI rc, vI kp, vI lk, vI lg, vI mn, .ref w1, .ref w2, .ref w3, vI ca, vI st, vI ck]), (w2, aI G 5 SB), (w3, aI G 5 CB), (g0, ob 1 [.ref g1, vI nb]), (g1, aJ G 24 dk), (m0, ob 4 [vI a1, vI a2, vI kd, vI gl, vI ed, .ref m1]), (m1, aI G 4096 T)] s.heap.size)) (F0 m 145 ls []) := by
            intro H locs ls hP hD hS hl hqf
            refine lv_aload_n hx hb dX5_fits_145 rfl (lv_at hl 0 rfl) ?_
            refine z_get (v := .ref w2) hC hK hP inX5 rfl 2 rfl 8 (by decide) tw_126 rfl dX5_fits_146 ?_
            refine lv_iload_n hx hb dX5_fits_149 rfl (lv_at hl 2 rfl) ?_
            refine lv_aload_n hx hb dX5_fits_150 rfl (lv_at hl 0 rfl) ?_
            refine z_get (v := vI ((rdF T kd (dk b) (dtB d) (stB SB d) (ckB CB d) (enB q0 d).toNat).1)) hC hK hP inX5 rfl 2 rfl 11 (by decide) tw_129 rfl dX5_fits_151 ?_
            refine z_iast (ws' := [(g0, ob 1 [.ref g1, vI nb]), (g1, aJ G 24 dk), (w0, ob 5 [.ref g0, .ref f0, vI rc, vI kp, vI lk, vI lg, vI mn, .ref w1, .ref w2, .ref w3, vI q0, vI ((rdF T kd (dk b) (dtB d) (stB SB d) (ckB CB d) (enB q0 d).toNat).1), vI ((rdF T kd (dk b) (dtB d) (stB SB d) (ckB CB d) (enB q0 d).toNat).2)]), (w2, aI G 5 (zup SB d ((rdF T kd (dk b) (dtB d) (stB SB d) (ckB CB d) (enB q0 d).toNat).1))), (w3, aI G 5 CB), (m0, ob 4 [vI a1, vI a2, vI kd, vI gl, vI ed, .ref m1]), (m1, aI G 4096 T)]) hC hK hP hD hS 3 rfl (by omega) (by decide) rfl dX5_fits_154 (fun H locs hP hD hS => ?_)
            refine lv_aload_n hx hb dX5_fits_155 rfl (lv_at hl 0 rfl) ?_
            refine z_get (v := .ref w3) hC hK hP inX5 rfl 2 rfl 9 (by decide) tw_127 rfl dX5_fits_156 ?_
            refine lv_iload_n hx hb dX5_fits_159 rfl (lv_at hl 2 rfl) ?_
            refine lv_aload_n hx hb dX5_fits_160 rfl (lv_at hl 0 rfl) ?_
            refine z_get (v := vI ((rdF T kd (dk b) (dtB d) (stB SB d) (ckB CB d) (enB q0 d).toNat).2)) hC hK hP inX5 rfl 2 rfl 12 (by decide) tw_130 rfl dX5_fits_161 ?_
            refine z_iast (ws' := [(g0, ob 1 [.ref g1, vI nb]), (g1, aJ G 24 dk), (w0, ob 5 [.ref g0, .ref f0, vI rc, vI kp, vI lk, vI lg, vI mn, .ref w1, .ref w2, .ref w3, vI q0, vI ((rdF T kd (dk b) (dtB d) (stB SB d) (ckB CB d) (enB q0 d).toNat).1), vI ((rdF T kd (dk b) (dtB d) (stB SB d) (ckB CB d) (enB q0 d).toNat).2)]), (w2, aI G 5 (zup SB d ((rdF T kd (dk b) (dtB d) (stB SB d) (ckB CB d) (enB q0 d).toNat).1))), (w3, aI G 5 (zup CB d ((rdF T kd (dk b) (dtB d) (stB SB d) (ckB CB d) (enB q0 d).toNat).2))), (m0, ob 4 [vI a1, vI a2, vI kd, vI gl, vI ed, .ref m1]), (m1, aI G 4096 T)]) hC hK hP hD hS 4 rfl (by omega) (by decide) rfl dX5_fits_164 (fun H locs hP hD hS => ?_)
            refine lv_iconst (v := iI 1) hx hb dX5_fits_165 rfl ?_
            exact z_bretW hC hr hlk ⟨1, q0, (rdF T kd (dk b) (dtB d) (stB SB d) (ckB CB d) (enB q0 d).toNat).1, (rdF T kd (dk b) (dtB d) (stB SB d) (ckB CB d) (enB q0 d).toNat).2, zup SB d ((rdF T kd (dk b) (dtB d) (stB SB d) (ckB CB d) (enB q0 d).toNat).1), zup CB d ((rdF T kd (dk b) (dtB d) (stB SB d) (ckB CB d) (enB q0 d).toNat).2)⟩ hAe hP hD hS [2, 3, 4, 0, 1, 5, 6] (by decide) rfl rfl (⟨rfl, ⟨hq0, (bZ_t (hq0 ▸ hqf)).symm, fun _ => ⟨by rw [← hq0]; rfl, by rw [← hq0]; rfl⟩, fun h => absurd h (show ¬ ((1 : Int) = 0) by decide)⟩⟩) (by simp) dX5_fits_166
          refine lv_iload hx hb dX5_fits_119 (lv_at hl 0 rfl) ?_
          refine z_if_eq (tgt := 143) hx hb dX5_fits_121 (by decide) (by omega) (fun c_121 => ?_) (fun c_121 => ?_)
          · refine lv_iconst (v := iI 0) hx hb dX5_fits_143 rfl ?_
            exact z_bretW hC hr hlk ⟨0, q0, (rdF T kd (dk b) (dtB d) (stB SB d) (ckB CB d) (enB q0 d).toNat).1, (rdF T kd (dk b) (dtB d) (stB SB d) (ckB CB d) (enB q0 d).toNat).2, SB, CB⟩ hAe hP hD hS [2, 3, 4, 0, 1, 5, 6] (by decide) rfl rfl (⟨rfl, ⟨hq0, (bZ_f (fun h => by rw [← hq0] at h; first | exact absurd (h.2.2.2 (by omega)) c_140 | exact absurd c_121 (hqr.mpr h.2.2.1))).symm, fun h => absurd h (show ¬ ((0 : Int) = 1) by decide), fun _ => ⟨rfl, rfl⟩⟩⟩) (by simp) dX5_fits_144
          · refine lv_iload hx hb dX5_fits_124 (lv_at hl 8 rfl) ?_
            refine z_if_eq (tgt := 145) hx hb dX5_fits_126 (by decide) (by omega) (fun c_126 => ?_) (fun c_126 => ?_)
            · exact cut_145 H locs ls hP hD hS (lv_sub hl [1, 2, 3, 4, 5, 6, 7, 8, 0] rfl) (by first | exact ⟨hqh, hqz, hqr.mp c_121, fun h => absurd h (by omega)⟩ | exact ⟨hqh, hqz, hqr.mp c_121, fun _ => c_140⟩)
            · refine lv_lload hx hb dX5_fits_129 (lv_at hl 5 rfl) ?_
              refine lv_iload hx hb dX5_fits_131 (lv_at hl 7 rfl) ?_
              refine z_rNi (rest := []) hC hK hP (c_X6_byteOf l G (dk b) (enB q0 d)) ms_X6_byteOf hK.2.1 [] rfl rfl hl.1 rfl (Nat.le_of_ble_eq_true rfl) ⟨rfl, rfl, Nat.le_of_ble_eq_true rfl, Nat.le_of_ble_eq_true rfl⟩ ⟨Nat.le_of_ble_eq_true rfl, Nat.le_of_ble_eq_true rfl⟩ dX5_fits_133 ?_
              refine z_top (y := byZ (dk b) (enB q0 d)) (rfl) ?_
              refine lv_aload_n hx hb dX5_fits_136 rfl (lv_at hl 1 rfl) ?_
              refine z_get (v := vI ((rdF T kd (dk b) (dtB d) (stB SB d) (ckB CB d) (enB q0 d).toNat).2)) hC hK hP inX5 rfl 2 rfl 12 (by decide) tw_130 rfl dX5_fits_137 ?_
              refine z_icmp_eq (tgt := 145) hx hb dX5_fits_140 (by decide) (by have h1 := byZ_bd (dk b) (enB q0 d); have h2 := (hbd (enB q0 d).toNat).2; omega) (fun c_140 => ?_) (fun c_140 => ?_)
              · exact cut_145 H locs ls hP hD hS (lv_sub hl [1, 2, 3, 4, 5, 6, 7, 8, 0] rfl) (by first | exact ⟨hqh, hqz, hqr.mp c_121, fun h => absurd h (by omega)⟩ | exact ⟨hqh, hqz, hqr.mp c_121, fun _ => c_140⟩)
              · refine lv_iconst (v := iI 0) hx hb dX5_fits_143 rfl ?_
                exact z_bretW hC hr hlk ⟨0, q0, (rdF T kd (dk b) (dtB d) (stB SB d) (ckB CB d) (enB q0 d).toNat).1, (rdF T kd (dk b) (dtB d) (stB SB d) (ckB CB d) (enB q0 d).toNat).2, SB, CB⟩ hAe hP hD hS [2, 3, 4, 0, 1, 5, 6] (by decide) rfl rfl (⟨rfl, ⟨hq0, (bZ_f (fun h => by rw [← hq0] at h; first | exact absurd (h.2.2.2 (by omega)) c_140 | exact absurd c_121 (hqr.mpr h.2.2.1))).symm, fun h => absurd h (show ¬ ((0 : Int) = 1) by decide), fun _ => ⟨rfl, rfl⟩⟩⟩) (by simp) dX5_fits_144
        refine lv_iload hx hb dX5_fits_87 (lv_at hl 5 rfl) ?_
        refine lv_bipush (v := iI 8) hx hb dX5_fits_89 (by decide) ?_
        refine z_icmp_gt (tgt := 105) hx hb dX5_fits_91 (by decide) (by omega) (fun c_91 => ?_) (fun c_91 => ?_)
        · refine lv_aload_n hx hb dX5_fits_105 rfl (lv_at hl 0 rfl) ?_
          refine z_get (v := vI ((rdF T kd (dk b) (dtB d) (stB SB d) (ckB CB d) (enB q0 d).toNat).1)) hC hK hP inX5 rfl 2 rfl 11 (by decide) tw_129 rfl dX5_fits_106 ?_
          refine z_if_eq (tgt := 116) hx hb dX5_fits_109 (by decide) (by have := (hbd (enB q0 d).toNat).1; omega) (fun c_109 => ?_) (fun c_109 => ?_)
          · refine lv_iconst (v := iI 0) hx hb dX5_fits_116 rfl ?_
            exact cut_117 0 H locs ls hP hD hS hl (by omega) (⟨fun h => absurd rfl h, fun h => absurd c_109 (h.2 (by omega))⟩)
          · refine lv_iconst (v := iI 1) hx hb dX5_fits_112 rfl ?_
            refine lv_goto (tgt := 117) hx hb dX5_fits_113 (by decide) ?_
            exact cut_117 1 H locs ls hP hD hS hl (by omega) (⟨fun _ => ⟨fun h => absurd h (by omega), fun _ => c_109⟩, fun _ => by decide⟩)
        · refine lv_aload_n hx hb dX5_fits_94 rfl (lv_at hl 1 rfl) ?_
          refine lv_aload_n hx hb dX5_fits_95 rfl (lv_at hl 0 rfl) ?_
          refine z_get (v := vI ((rdF T kd (dk b) (dtB d) (stB SB d) (ckB CB d) (enB q0 d).toNat).1)) hC hK hP inX5 rfl 2 rfl 11 (by decide) tw_129 rfl dX5_fits_96 ?_
          refine z_rVi (q0 := 5) (ci := 4) (b := m0) (rest := []) hC hK hP (c_X4_mayEndIn l G m0 m1 a1 a2 kd gl ed T ((rdF T kd (dk b) (dtB d) (stB SB d) (ckB CB d) (enB q0 d).toNat).1)) mv_X4_mayEndIn tw_321 [5, 6] rfl rfl rfl rfl hl.1 rfl (Nat.le_of_ble_eq_true rfl) ⟨rfl, rfl, Nat.le_of_ble_eq_true rfl, Nat.le_of_ble_eq_true rfl⟩ ⟨Nat.le_of_ble_eq_true rfl, Nat.le_of_ble_eq_true rfl⟩ dX5_fits_99 ?_
          refine lv_goto (tgt := 117) hx hb dX5_fits_102 (by decide) ?_
          exact cut_117 (if zand ((rdF T kd (dk b) (dtB d) (stB SB d) (ckB CB d) (enB q0 d).toNat).1) gl = 0 then 0 else 1) H locs ls hP hD hS hl (by split <;> omega) (⟨fun h => ⟨fun _ q => h (if_pos q), fun h => absurd h (by omega)⟩, fun h q => h.1 (by omega) (by split at q; assumption; omega)⟩)
      refine lv_iload hx hb dX5_fits_60 (lv_at hl 0 rfl) ?_
      refine z_if_eq (tgt := 77) hx hb dX5_fits_62 (by decide) (by omega) (fun c_62 => ?_) (fun c_62 => ?_)
      · exact cut_77 H locs ls hP hD hS (lv_sub hl [1, 2, 3, 4, 5, 6, 7, 0] rfl) (by first | exact fun h => absurd h (by omega) | exact fun _ => Classical.byContradiction (fun q => by rw [if_neg q] at c_72; omega))
      · refine lv_lload hx hb dX5_fits_65 (lv_at hl 5 rfl) ?_
        refine lv_iload hx hb dX5_fits_67 (lv_at hl 7 rfl) ?_
        refine z_rNi (rest := []) hC hK hP (c_X6_isZeroBehind l G (dk b) (enB q0 d)) ms_X6_isZeroBehind hK.2.2.1 [] rfl rfl hl.1 rfl (Nat.le_of_ble_eq_true rfl) ⟨rfl, rfl, Nat.le_of_ble_eq_true rfl, Nat.le_of_ble_eq_true rfl⟩ ⟨Nat.le_of_ble_eq_true rfl, Nat.le_of_ble_eq_true rfl⟩ dX5_fits_69 ?_
        refine z_if_ne (tgt := 77) hx hb dX5_fits_72 (by decide) (by split <;> omega) (fun c_72 => ?_) (fun c_72 => ?_)
        · exact cut_77 H locs ls hP hD hS (lv_sub hl [1, 2, 3, 4, 5, 6, 7, 0] rfl) (by first | exact fun h => absurd h (by omega) | exact fun _ => Classical.byContradiction (fun q => by rw [if_neg q] at c_72; omega))
        · refine lv_iconst (v := iI 0) hx hb dX5_fits_75 rfl ?_
          exact z_bretW hC hr hlk ⟨0, q0, st, ck, SB, CB⟩ hAe hP hD hS [0, 1, 2, 3, 4, 5, 6] (by decide) rfl rfl (⟨rfl, ⟨hq0, (bZ_f (fun h => by rw [← hq0] at h; have := h.2.1 (by omega); rw [if_pos this] at c_72; omega)).symm, fun h => absurd h (show ¬ ((0 : Int) = 1) by decide), fun _ => ⟨rfl, rfl⟩⟩⟩) (by simp) dX5_fits_76
    refine lv_iload hx hb dX5_fits_37 (lv_at hl 0 rfl) ?_
    refine lv_bipush (v := iI 8) hx hb dX5_fits_39 (by decide) ?_
    refine z_rSi (rest := []) hC hK hP (c_J9_min_7cf53 l G (q0 - (d * 8)) 8 (by omega) (by omega)) ms_J9_min_7cf53 tw_300 [] rfl rfl hl.1 rfl (Nat.le_of_ble_eq_true rfl) ⟨rfl, rfl, Nat.le_of_ble_eq_true rfl, Nat.le_of_ble_eq_true rfl⟩ ⟨Nat.le_of_ble_eq_true rfl, Nat.le_of_ble_eq_true rfl⟩ dX5_fits_41 ?_
    refine z_top (y := enB q0 d) (rfl) ?_
    refine lv_istore (lv' := [(7, vI (enB q0 d)), (6, vI (q0 - (d * 8))), (0, .ref w0), (1, .ref m0), (2, vI d), (3, vI b), (4, .long (dk b))]) hx hb dX5_fits_44 hl (by decide) rfl (fun ls hl => ?_)
    refine lv_iload hx hb dX5_fits_46 (lv_at hl 1 rfl) ?_
    refine lv_bipush (v := iI 8) hx hb dX5_fits_48 (by decide) ?_
    refine z_icmp_ge (tgt := 57) hx hb dX5_fits_50 (by decide) (by omega) (fun c_50 => ?_) (fun c_50 => ?_)
    · refine lv_iconst (v := iI 0) hx hb dX5_fits_57 rfl ?_
      exact cut_58 0 H locs ls hP hD hS (lv_sub hl [2, 3, 4, 5, 6, 1, 0] rfl) (by omega)
    · refine lv_iconst (v := iI 1) hx hb dX5_fits_53 rfl ?_
      refine lv_goto (tgt := 58) hx hb dX5_fits_54 (by decide) ?_
      exact cut_58 1 H locs ls hP hD hS (lv_sub hl [2, 3, 4, 5, 6, 1, 0] rfl) (by omega)
  refine lv_lstore (lv' := [(4, .long (dk b)), (0, .ref w0), (1, .ref m0), (2, vI d), (3, vI b)]) hx hb dX5_fits_8 hl (by decide) rfl (fun ls hl => ?_)
  refine lv_iload_n hx hb dX5_fits_10 rfl (lv_at hl 3 rfl) ?_
  refine z_if_ne (tgt := 26) hx hb dX5_fits_11 (by decide) (by omega) (fun c_11 => ?_) (fun c_11 => ?_)
  · exact cut_26 ca H locs ls hP hD hS (lv_sub hl [1, 2, 3, 4, 0] rfl) (by first | (unfold caB; rw [if_pos (by omega)]) | (unfold caB; rw [if_neg (by omega)])) (by first | exact fun h => absurd h (by omega) | exact fun _ => bZ_ne.mp c_21)
  · refine lv_aload_n hx hb dX5_fits_14 rfl (lv_at hl 1 rfl) ?_
    refine lv_aload_n hx hb dX5_fits_15 rfl (lv_at hl 2 rfl) ?_
    refine lv_lload hx hb dX5_fits_16 (lv_at hl 0 rfl) ?_
    refine z_wVi (q0 := 0) (ci := 5) (b := w0) (rest := []) (wr := [(w2, aI G 5 SB), (w3, aI G 5 CB), (g0, ob 1 [.ref g1, vI nb]), (g1, aJ G 24 dk)]) hC hK hP hD hS hA (c_X5_readsHead l G H.size w0 w1 w2 w3 g0 f0 rc kp lk lg mn ca st ck m0 m1 a1 a2 kd gl ed T (dk b) (by omega) (by omega)) mv_X5_readsHead tw_285 [0, 5, 6] [1, 2, 3, 4] rfl rfl rfl rfl (by decide) rfl rfl rfl rfl hl.1 rfl (Nat.le_of_ble_eq_true rfl) ⟨rfl, rfl, Nat.le_of_ble_eq_true rfl, Nat.le_of_ble_eq_true rfl⟩ ⟨Nat.le_of_ble_eq_true rfl, Nat.le_of_ble_eq_true rfl⟩ dX5_fits_18 (fun r u H locs hw hP hD hS => ?_)
    have hP : va_P G.1 vwCl [(w2, aI G 5 SB), (w3, aI G 5 CB), (g0, ob 1 [.ref g1, vI nb]), (g1, aJ G 24 dk), (w0, ob 5 [.ref g0, .ref f0, vI rc, vI kp, vI lk, vI lg, vI mn, .ref w1, .ref w2, .ref w3, vI (3 + byZ (dk b) 2), vI st, vI ck]), (m0, ob 4 [vI a1, vI a2, vI kd, vI gl, vI ed, .ref m1]), (m1, aI G 4096 T)] H := hP
    have hD : va_D A [(w2, aI G 5 SB), (w3, aI G 5 CB), (g0, ob 1 [.ref g1, vI nb]), (g1, aJ G 24 dk), (w0, ob 5 [.ref g0, .ref f0, vI rc, vI kp, vI lk, vI lg, vI mn, .ref w1, .ref w2, .ref w3, vI (3 + byZ (dk b) 2), vI st, vI ck]), (m0, ob 4 [vI a1, vI a2, vI kd, vI gl, vI ed, .ref m1]), (m1, aI G 4096 T)] := hD
    obtain ⟨hrw_, hw_2⟩ := hw
    rw [hrw_]
    clear hrw_
    clear hw_2
    refine z_if_ne (tgt := 26) hx hb dX5_fits_21 (by decide) (by have := bZ_rng (byZ (dk b) 0 = a1 ∧ byZ (dk b) 1 = a2 ∧ byZ (dk b) 2 ≤ 36); omega) (fun c_21 => ?_) (fun c_21 => ?_)
    · exact cut_26 (3 + byZ (dk b) 2) H locs ls (hP.sub [4, 0, 1, 2, 3, 5, 6] rfl) (hD.sub [4, 0, 1, 2, 3, 5, 6] (by decide) rfl) hS (lv_sub hl [1, 2, 3, 4, 0] rfl) (by first | (unfold caB; rw [if_pos (by omega)]) | (unfold caB; rw [if_neg (by omega)])) (by first | exact fun h => absurd h (by omega) | exact fun _ => bZ_ne.mp c_21)
    · refine lv_iconst (v := iI 0) hx hb dX5_fits_24 rfl ?_
      exact z_bretW hC hr hlk ⟨0, 3 + byZ (dk b) 2, st, ck, SB, CB⟩ hAe hP hD hS [4, 0, 1, 2, 3, 5, 6] (by decide) rfl rfl (⟨rfl, ⟨by unfold caB; rw [if_pos (by omega)], (bZ_f (fun h => by have := h.1 (by omega); exact absurd (bZ_t this) (by omega))).symm, fun h => absurd h (show ¬ ((0 : Int) = 1) by decide), fun _ => ⟨rfl, rfl⟩⟩⟩) (by simp) dX5_fits_25
