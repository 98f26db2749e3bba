/-! answers that are references; the bench's own methods that answer -/
def vp_Sr (b : Nat) : Array Value → State → Outcome → State → Prop := fun _ st o t => o = .returned (some (.ref b)) ∧ t.heap = st.heap
section ZRf
variable {p : Program} {l : Launch} {e : Env} {R : Room} {s : State} {m : MethodId} {args : Array Value} {below : List Frame} {meth : Method} {c : Code} {H : Heap} {locs : List Loc} {cells slots : Nat} {Q : State → Prop}
variable {cc : ByteArray} {pc nL : Nat} {ls : Array Slot} {rest st0 : List Value} {G : zGt} {A : Nat → Prop} {H0 : Heap} {ws : va_W} {own : String} {a : Nat}
theorem z_topr {r : Option Nat} {b : Nat} (h : r = some b) (k : W p l e R s m args below meth c H locs cells slots Q (F0 m pc ls (.ref b :: rest))) : W p l e R s m args below meth c H locs cells slots Q (F0 m pc ls (va_rf r :: rest)) := by rw [h]; exact k
theorem z_topn {r : Option Nat} (h : r = none) (k : W p l e R s m args below meth c H locs cells slots Q (F0 m pc ls (.null :: rest))) : W p l e R s m args below meth c H locs cells slots Q (F0 m pc ls (va_rf r :: rest)) := by rw [h]; exact k
theorem z_aretR (hC : CallFix p m c cc nL s args tb own) {nm : String} (hr : meth.sig.returnType = some (.object nm)) (hlocks : meth.locks = false) {b : Nat} (hdg : decode cc pc = .ok (.areturn, 1)) : W p l e R s m args below meth c s.heap [] 0 0 (MQ below (vp_Sr b) args s 0 0 (fun _ => False)) (F0 m pc ls [.ref b]) :=
  W.aret hC.1 hC.2.1 hr (Or.inl ⟨nm, rfl⟩) (Or.inr ⟨b, rfl⟩) (fun t ht hW => ⟨rfl, ht⟩) (fun _ h => nomatch h) hdg hlocks
theorem z_rVr (hC : CallFix p m c cc nL s args tb own) (hK : zK G s) (hP : va_P G.1 vwCl ws H) {y : MethodName} {bytes : ByteArray} {maxL n index ci q0 b b1 : Nat} {ret : Option FieldType} {rm : Room} {As : List Value} {wc : va_W} {q : vw_C} {fs : List Value}
    (hM : Met l y (Cond.code y bytes maxL ret :: tb) rm (zPr G wc (.ref b :: As)) (vp_Sr b1) 0 0 (fun _ => False)) (hm : zMV y bytes maxL ret q.1 n) (hl : Cond.methodLink own index y ∈ tb) (is : List Nat) (hs : is.filterMap (fun i => ws[i]?) = wc) (hc : vwCl[ci]? = some q) (he : ws[q0]? = some (b, ob ci fs)) (hn : As.length = n) (hsz : ls.size = nL) (hst : st0 = As.reverse ++ .ref b :: rest) (hW : (rest.map fun v => v.category).sum ≤ 8)
    (hR : rm.cells = 0 ∧ rm.slots = 0 ∧ rm.frames + 1 ≤ R.frames ∧ 8 + (maxL + 11) + rm.locals ≤ R.locals) (hf : cells ≤ R.cells ∧ slots ≤ R.slots) (hdg : decode cc pc = .ok (.invokevirtual index, 3))
    (kk : W p l e R s m args below meth c H locs cells slots Q (F0 m (pc + 3) ls (.ref b1 :: rest))) : W p l e R s m args below meth c H locs cells slots Q (F0 m pc ls st0) := by
  have hr := va_runV (below := below) (locs := locs) (cells := cells) (slots := slots) (g := F0 m pc ls st0) (rest := rest) (meth := meth) (e := e) hC hM (cwV n hC.2.2.2.2 (tb_wsV hm hl) rfl hR.1 hR.2.1 hm.2.2.2.2 hR.2.2) ⟨zPr.blind, va_recv hK.1 hP hc he, fun U hU hW => ⟨rfl, by rw [hU]; exact hP.sub is hs, hK.warm hW⟩⟩ rfl hn hsz hst (lv_room hW) hdg hf
  intro T hT X
  obtain ⟨v, st₀, t, T', L, h0, X', hL, e1, e2, ⟨hv, hh⟩, st⟩ := hr T hT X
  cases hv
  have hL0 : L = [] := List.eq_nil_iff_forall_not_mem.mpr (fun q hq => hL q hq)
  subst hL0
  rw [List.append_nil] at X'
  obtain ⟨t2, a1, b2⟩ := kk T' (by rw [e1, hh, h0]) X'
  exact ⟨t2, st t2 a1, b2⟩
end ZRf
theorem bZ_rng2 (P : Prop) : -2147483648 ≤ bZ P ∧ bZ P < 2147483648 := by have := bZ_rng P; omega
theorem bZ_11 {P : Prop} (h : bZ P ≠ 0) : bZ P = 1 := by have := bZ_rng P; omega
theorem ms_X6_blocksOf : zMS yX6_blocksOf cX6_blocksOf 1 (some .int) 1 := ⟨tw_698, tw_697, tw_35, by decide +kernel⟩
theorem ms_X6_isByte : zMS yX6_isByte cX6_isByte 1 (some .boolean) 1 := ⟨tw_473, tw_472, tw_35, by decide +kernel⟩
theorem ms_X6_isState : zMS yX6_isState cX6_isState 1 (some .boolean) 1 := ⟨tw_613, tw_612, tw_35, by decide +kernel⟩
theorem mv_X0_blocksInAll : zMV yX0_blocksInAll cX0_blocksInAll 1 (some .int) RX0 0 := ⟨tw_418, tw_416, tw_417, tw_40, by decide +kernel⟩
theorem mv_X0_costInAll : zMV yX0_costInAll cX0_costInAll 3 (some .int) RX0 0 := ⟨tw_432, tw_430, tw_431, tw_40, by decide +kernel⟩
theorem mv_X0_fileAt : zMV yX0_fileAt cX0_fileAt 2 (some .int) RX0 1 := ⟨tw_440, tw_438, tw_439, tw_40, by decide +kernel⟩
theorem mv_X0_freeBlockAt : zMV yX0_freeBlockAt cX0_freeBlockAt 4 (some .int) RX0 1 := ⟨tw_448, tw_446, tw_447, tw_40, by decide +kernel⟩
theorem mv_X1_add : zMV yX1_add cX1_add 3 (some .int) RX1 1 := ⟨tw_233, tw_231, tw_232, tw_36, by decide +kernel⟩
theorem mv_X1_exchange : zMV yX1_exchange cX1_exchange 6 (some .long) RX1 2 := ⟨tw_653, tw_651, tw_652, tw_36, by decide +kernel⟩
theorem mv_X2_dataByteOf : zMV yX2_dataByteOf cX2_dataByteOf 4 (some .int) RX2 2 := ⟨tw_765, tw_763, tw_764, tw_38, by decide +kernel⟩
theorem mv_X2_isSure : zMV yX2_isSure cX2_isSure 3 (some .boolean) RX2 1 := ⟨tw_752, tw_750, tw_751, tw_38, by decide +kernel⟩
theorem mv_X2_makeOf : zMV yX2_makeOf cX2_makeOf 2 (some .int) RX2 1 := ⟨tw_738, tw_736, tw_737, tw_38, by decide +kernel⟩
theorem mv_X3_add : zMV yX3_add cX3_add 2 (some .int) RX3 1 := ⟨tw_682, tw_680, tw_681, tw_37, by decide +kernel⟩
theorem mv_X3_blockOfFile : zMV yX3_blockOfFile cX3_blockOfFile 6 (some .long) RX3 2 := ⟨tw_702, tw_700, tw_701, tw_37, by decide +kernel⟩
theorem mv_X3_empty : zMV yX3_empty cX3_empty 1 none RX3 0 := ⟨tw_721, tw_719, tw_720, tw_37, by decide +kernel⟩
theorem mv_X3_isRightFor : zMV yX3_isRightFor cX3_isRightFor 4 (some .boolean) RX3 1 := ⟨tw_693, tw_691, tw_692, tw_37, by decide +kernel⟩
theorem mv_X3_size : zMV yX3_size cX3_size 1 (some .int) RX3 0 := ⟨tw_461, tw_459, tw_460, tw_37, by decide +kernel⟩
theorem mv_X4_addEdge : zMV yX4_addEdge cX4_addEdge 6 none RX4 4 := ⟨tw_624, tw_622, tw_623, tw_47, by decide +kernel⟩
theorem mv_X4_edgeCount : zMV yX4_edgeCount cX4_edgeCount 1 (some .int) RX4 0 := ⟨tw_619, tw_617, tw_618, tw_47, by decide +kernel⟩
theorem mv_X4_exchangeGoals : zMV yX4_exchangeGoals cX4_exchangeGoals 3 (some .int) RX4 1 := ⟨tw_637, tw_635, tw_636, tw_47, by decide +kernel⟩
theorem mv_X6_neededBlock : zMV yX6_neededBlock cX6_neededBlock 2 (some .int) RX6 1 := ⟨tw_648, tw_647, tw_13, tw_35, by decide +kernel⟩
theorem mv_X6_neededFile : zMV yX6_neededFile cX6_neededFile 2 (some .int) RX6 1 := ⟨tw_732, tw_731, tw_16, tw_35, by decide +kernel⟩
theorem mv_X6_neededMake : zMV yX6_neededMake cX6_neededMake 3 (some (.object "RescueBench$Make")) RX6 1 := ⟨tw_594, tw_593, tw_12, tw_35, by decide +kernel⟩
set_option maxRecDepth 100000 in
set_option maxHeartbeats 4000000 in
theorem c_X6_neededMake (l : Launch) (G : zGt) (b0 b1 g0 e0 f0 w0 u0 : Nat) (mc rn ll : Int) (MK : Int → Option Nat) (x : Int) (m0 : Nat) (hx0 : 0 ≤ x ∧ x < 6) (hmk : MK x = some m0) : Met l yX6_neededMake (Cond.code yX6_neededMake cX6_neededMake 3 (some (.object "RescueBench$Make")) :: tb) ({ frames := 0, cells := 0, slots := 0, locals := 0 } : Room) (zPr G [(b0, ob 6 [.ref b1, vI mc, .ref g0, .ref e0, vI rn, .ref f0, .ref w0, .ref u0, vI ll]), (b1, aR G 6 MK)] [.ref b0, vI x]) (vp_Sr m0) 0 0 (fun _ => False) := by
  refine Met.ofW (cc := cX6_neededMake) (maxL := 3) (ret := (some (.object "RescueBench$Make"))) (by decide) rfl ?_
  intro p e s m args below meth c s₁ B hml hv
  obtain ⟨rfl, hP, hK⟩ := hv
  obtain ⟨hC, hr, hlk⟩ := z_begin B hml
  have hC : CallFix p m c cX6_neededMake 3 s _ tb RX6 := hC
  have hx := hC.1
  have hb := hC.2.1
  have hl := lv_entry ([.ref b0, vI x]) (n := 3) (Nat.le_of_ble_eq_true rfl)
  rw [lg_entry_eq]
  generalize (lg_sl ([.ref b0, vI x]) ++ List.replicate (3 - (lg_sl ([.ref b0, vI x])).length) Slot.unset).toArray = ls at hl ⊢
  have hl : lv_has ls 3 [(0, .ref b0), (1, vI x)] := hl
  refine lv_iload_n hx hb dX6_neededMake_0 rfl (lv_at hl 1 rfl) ?_
  refine z_if_lt (tgt := 19) hx hb dX6_neededMake_1 (by decide) (by omega) (fun c_1 => ?_) (fun c_1 => ?_)
  · exfalso; omega
  · refine lv_iload_n hx hb dX6_neededMake_4 rfl (lv_at hl 1 rfl) ?_
    refine lv_bipush (v := iI 6) hx hb dX6_neededMake_5 (by decide) ?_
    refine z_icmp_ge (tgt := 19) hx hb dX6_neededMake_7 (by decide) (by omega) (fun c_7 => ?_) (fun c_7 => ?_)
    · exfalso; omega
    · refine lv_aload_n hx hb dX6_neededMake_10 rfl (lv_at hl 0 rfl) ?_
      refine z_get (v := .ref b1) hC hK hP inX6 rfl 0 rfl 0 (by decide) tw_198 rfl dX6_neededMake_11 ?_
      refine lv_iload_n hx hb dX6_neededMake_14 rfl (lv_at hl 1 rfl) ?_
      refine z_aald hC hK hP 1 rfl (by omega) (by decide) dX6_neededMake_15 ?_
      refine z_topr (b := m0) (hmk) ?_
      refine lv_goto (tgt := 20) hx hb dX6_neededMake_16 (by decide) ?_
      refine lv_astore_n (lv' := [(2, .ref m0), (0, .ref b0), (1, vI x)]) hx hb dX6_neededMake_20 rfl hl (by decide) rfl (fun ls hl => ?_)
      refine lv_aload_n hx hb dX6_neededMake_21 rfl (lv_at hl 0 rfl) ?_
      refine lv_ifnonnull (tgt := 35) hx hb dX6_neededMake_22 (by decide) ?_
      refine lv_aload_n hx hb dX6_neededMake_35 rfl (lv_at hl 0 rfl) ?_
      exact z_aretR hC hr hlk dX6_neededMake_36

set_option maxRecDepth 100000 in
set_option maxHeartbeats 4000000 in
theorem c_X6_neededBlock (l : Launch) (G : zGt) (b0 b1 g0 e0 f0 w0 u0 : Nat) (mc rn ll : Int) (g1 : Nat) (nb : Int) (dk : Int → Int64) (x : Int) (hnb : 0 ≤ nb ∧ nb ≤ 24) (hxb : 0 ≤ x ∧ x < nb) : Met l yX6_neededBlock (Cond.code yX6_neededBlock cX6_neededBlock 2 (some .int) :: tb) ({ frames := 1, cells := 0, slots := 0, locals := 20 } : Room) (zPr G [(b0, ob 6 [.ref b1, vI mc, .ref g0, .ref e0, vI rn, .ref f0, .ref w0, .ref u0, vI ll]), (g0, ob 1 [.ref g1, vI nb]), (g1, aJ G 24 dk)] [.ref b0, vI x]) (vp_Si (fun r => r = iI x)) 0 0 (fun _ => False) := by
  refine Met.ofW (cc := cX6_neededBlock) (maxL := 2) (ret := (some .int)) (by decide) rfl ?_
  intro p e s m args below meth c s₁ B hml hv
  obtain ⟨rfl, hP, hK⟩ := hv
  obtain ⟨hC, hr, hlk⟩ := z_begin B hml
  have hC : CallFix p m c cX6_neededBlock 2 s _ tb RX6 := hC
  have hx := hC.1
  have hb := hC.2.1
  have hl := lv_entry ([.ref b0, vI x]) (n := 2) (Nat.le_of_ble_eq_true rfl)
  rw [lg_entry_eq]
  generalize (lg_sl ([.ref b0, vI x]) ++ List.replicate (2 - (lg_sl ([.ref b0, vI x])).length) Slot.unset).toArray = ls at hl ⊢
  have hl : lv_has ls 2 [(0, .ref b0), (1, vI x)] := hl
  refine lv_iload_n hx hb dX6_neededBlock_0 rfl (lv_at hl 1 rfl) ?_
  refine z_if_lt (tgt := 15) hx hb dX6_neededBlock_1 (by decide) (by omega) (fun c_1 => ?_) (fun c_1 => ?_)
  · exfalso; omega
  · refine lv_iload_n hx hb dX6_neededBlock_4 rfl (lv_at hl 1 rfl) ?_
    refine lv_aload_n hx hb dX6_neededBlock_5 rfl (lv_at hl 0 rfl) ?_
    refine z_get (v := .ref g0) hC hK hP inX6 rfl 0 rfl 2 (by decide) tw_200 rfl dX6_neededBlock_6 ?_
    refine z_rVi (q0 := 1) (ci := 1) (b := g0) (rest := [vI x]) hC hK hP (c_X1_size l G g0 g1 nb dk) mv_X1_size tw_257 [1, 2] rfl rfl rfl rfl hl.1 rfl (Nat.le_of_ble_eq_true rfl) ⟨rfl, rfl, Nat.le_of_ble_eq_true rfl, Nat.le_of_ble_eq_true rfl⟩ ⟨Nat.le_of_ble_eq_true rfl, Nat.le_of_ble_eq_true rfl⟩ dX6_neededBlock_9 ?_
    refine z_icmp_lt (tgt := 25) hx hb dX6_neededBlock_12 (by decide) (by omega) (fun c_12 => ?_) (fun c_12 => ?_)
    · refine lv_iload_n hx hb dX6_neededBlock_25 rfl (lv_at hl 1 rfl) ?_
      exact z_iretR hC hr hlk (rfl) dX6_neededBlock_26
    · exfalso; omega

set_option maxRecDepth 100000 in
set_option maxHeartbeats 4000000 in
theorem c_X6_neededFile (l : Launch) (G : zGt) (b0 b1 g0 e0 f0 w0 u0 : Nat) (mc rn ll : Int) (f1 h0 : Nat) (nf tm : Int) (K : Int → Int) (x : Int) (hnf : 0 ≤ nf ∧ nf ≤ 40) (hxf : 0 ≤ x ∧ x < nf) : Met l yX6_neededFile (Cond.code yX6_neededFile cX6_neededFile 2 (some .int) :: tb) ({ frames := 1, cells := 0, slots := 0, locals := 20 } : Room) (zPr G [(b0, ob 6 [.ref b1, vI mc, .ref g0, .ref e0, vI rn, .ref f0, .ref w0, .ref u0, vI ll]), (f0, ob 2 [.ref h0, .ref f1, vI nf, vI tm]), (f1, aI G 40 K)] [.ref b0, vI x]) (vp_Si (fun r => r = iI x)) 0 0 (fun _ => False) := by
  refine Met.ofW (cc := cX6_neededFile) (maxL := 2) (ret := (some .int)) (by decide) rfl ?_
  intro p e s m args below meth c s₁ B hml hv
  obtain ⟨rfl, hP, hK⟩ := hv
  obtain ⟨hC, hr, hlk⟩ := z_begin B hml
  have hC : CallFix p m c cX6_neededFile 2 s _ tb RX6 := hC
  have hx := hC.1
  have hb := hC.2.1
  have hl := lv_entry ([.ref b0, vI x]) (n := 2) (Nat.le_of_ble_eq_true rfl)
  rw [lg_entry_eq]
  generalize (lg_sl ([.ref b0, vI x]) ++ List.replicate (2 - (lg_sl ([.ref b0, vI x])).length) Slot.unset).toArray = ls at hl ⊢
  have hl : lv_has ls 2 [(0, .ref b0), (1, vI x)] := hl
  refine lv_iload_n hx hb dX6_neededFile_0 rfl (lv_at hl 1 rfl) ?_
  refine z_if_lt (tgt := 15) hx hb dX6_neededFile_1 (by decide) (by omega) (fun c_1 => ?_) (fun c_1 => ?_)
  · exfalso; omega
  · refine lv_iload_n hx hb dX6_neededFile_4 rfl (lv_at hl 1 rfl) ?_
    refine lv_aload_n hx hb dX6_neededFile_5 rfl (lv_at hl 0 rfl) ?_
    refine z_get (v := .ref f0) hC hK hP inX6 rfl 0 rfl 5 (by decide) tw_203 rfl dX6_neededFile_6 ?_
    refine z_rVi (q0 := 1) (ci := 2) (b := f0) (rest := [vI x]) hC hK hP (c_X2_size l G f0 f1 h0 nf tm K) mv_X2_size tw_409 [1, 2] rfl rfl rfl rfl hl.1 rfl (Nat.le_of_ble_eq_true rfl) ⟨rfl, rfl, Nat.le_of_ble_eq_true rfl, Nat.le_of_ble_eq_true rfl⟩ ⟨Nat.le_of_ble_eq_true rfl, Nat.le_of_ble_eq_true rfl⟩ dX6_neededFile_9 ?_
    refine z_icmp_lt (tgt := 25) hx hb dX6_neededFile_12 (by decide) (by omega) (fun c_12 => ?_) (fun c_12 => ?_)
    · refine lv_iload_n hx hb dX6_neededFile_25 rfl (lv_at hl 1 rfl) ?_
      exact z_iretR hC hr hlk (rfl) dX6_neededFile_26
    · exfalso; omega

set_option maxRecDepth 100000 in
set_option maxHeartbeats 4000000 in
theorem c_X6_goals_0 (l : Launch) (G : zGt) (sz : Nat) (b0 b1 g0 e0 f0 w0 u0 : Nat) (mc rn ll : Int) (MK : Int → Option Nat) (m0 m1 : Nat) (a1 a2 kd gl ed : Int) (T : Int → Int) (x y : Int) (hx0 : 0 ≤ x ∧ x < 6) (hmk : MK x = some m0) (hy : 0 ≤ y ∧ y < 65536) : Met l yX6_goals (Cond.code yX6_goals cX6_goals 4 (some .int) :: tb) ({ frames := 1, cells := 0, slots := 0, locals := 22 } : Room) (zPw G [(b0, ob 6 [.ref b1, vI mc, .ref g0, .ref e0, vI rn, .ref f0, .ref w0, .ref u0, vI ll]), (b1, aR G 6 MK), (m0, ob 4 [vI a1, vI a2, vI kd, vI gl, vI ed, .ref m1]), (m1, aI G 4096 T)] sz [.ref b0, vI x, vI y]) (va_Qi (fun (r : Int32) (u : Unit) => r = iI gl ∧ True) (fun (u : Unit) t => zB G [(b0, ob 6 [.ref b1, vI mc, .ref g0, .ref e0, vI rn, .ref f0, .ref w0, .ref u0, vI ll]), (b1, aR G 6 MK), (m0, ob 4 [vI a1, vI a2, vI kd, vI gl, vI ed, .ref m1]), (m1, aI G 4096 T)] sz [(b0, ob 6 [.ref b1, vI mc, .ref g0, .ref e0, vI rn, .ref f0, .ref w0, .ref u0, vI ll]), (b1, aR G 6 MK), (m0, ob 4 [vI a1, vI a2, vI kd, vI y, vI ed, .ref m1]), (m1, aI G 4096 T)] t) (va_A [(b0, ob 6 [.ref b1, vI mc, .ref g0, .ref e0, vI rn, .ref f0, .ref w0, .ref u0, vI ll]), (b1, aR G 6 MK), (m0, ob 4 [vI a1, vI a2, vI kd, vI gl, vI ed, .ref m1]), (m1, aI G 4096 T)] sz)) 0 0 (va_A [(b0, ob 6 [.ref b1, vI mc, .ref g0, .ref e0, vI rn, .ref f0, .ref w0, .ref u0, vI ll]), (b1, aR G 6 MK), (m0, ob 4 [vI a1, vI a2, vI kd, vI gl, vI ed, .ref m1]), (m1, aI G 4096 T)] sz) := by
  refine Met.ofW (cc := cX6_goals) (maxL := 4) (ret := (some .int)) (by decide) rfl ?_
  intro p e s m args below meth c s₁ B hml hv
  obtain ⟨rfl, hsz, hP, hK, hD0⟩ := hv
  subst hsz
  have hD := hD0.self (sz := s.heap.size)
  obtain ⟨A, hAe⟩ : ∃ A : Nat → Prop, A = va_A [(b0, ob 6 [.ref b1, vI mc, .ref g0, .ref e0, vI rn, .ref f0, .ref w0, .ref u0, vI ll]), (b1, aR G 6 MK), (m0, ob 4 [vI a1, vI a2, vI kd, vI gl, vI ed, .ref m1]), (m1, aI G 4096 T)] s.heap.size := ⟨_, rfl⟩
  rw [← hAe] at hD
  have hA : ∀ q : Nat, s.heap.size ≤ q → A q := fun q h => by rw [hAe]; exact Or.inr h
  have hS : va_S A s.heap s.heap [] := va_S.rf
  obtain ⟨hC, hr, hlk⟩ := z_begin B hml
  have hC : CallFix p m c cX6_goals 4 s _ tb RX6 := hC
  have hx := hC.1
  have hb := hC.2.1
  have hl := lv_entry ([.ref b0, vI x, vI y]) (n := 4) (Nat.le_of_ble_eq_true rfl)
  rw [lg_entry_eq]
  generalize (lg_sl ([.ref b0, vI x, vI y]) ++ List.replicate (4 - (lg_sl ([.ref b0, vI x, vI y])).length) Slot.unset).toArray = ls at hl ⊢
  have hl : lv_has ls 4 [(0, .ref b0), (1, vI x), (2, vI y)] := hl
  obtain ⟨H, hHe⟩ : ∃ H : Heap, H = s.heap := ⟨_, rfl⟩
  obtain ⟨locs, hLe⟩ : ∃ L : List Loc, L = [] := ⟨_, rfl⟩
  suffices hgo : W p l e (headSpec (Cond.code yX6_goals cX6_goals 4 (some .int) :: tb) ({ frames := 1, cells := 0, slots := 0, locals := 22 } : Room)).room s m ([.ref b0, vI x, vI y] : List Value).toArray below meth c H locs 0 0 (MQ below (va_Qi (fun (r : Int32) (u : Unit) => r = iI gl ∧ True) (fun (u : Unit) t => zB G [(b0, ob 6 [.ref b1, vI mc, .ref g0, .ref e0, vI rn, .ref f0, .ref w0, .ref u0, vI ll]), (b1, aR G 6 MK), (m0, ob 4 [vI a1, vI a2, vI kd, vI gl, vI ed, .ref m1]), (m1, aI G 4096 T)] s.heap.size [(b0, ob 6 [.ref b1, vI mc, .ref g0, .ref e0, vI rn, .ref f0, .ref w0, .ref u0, vI ll]), (b1, aR G 6 MK), (m0, ob 4 [vI a1, vI a2, vI kd, vI y, vI ed, .ref m1]), (m1, aI G 4096 T)] t) (va_A [(b0, ob 6 [.ref b1, vI mc, .ref g0, .ref e0, vI rn, .ref f0, .ref w0, .ref u0, vI ll]), (b1, aR G 6 MK), (m0, ob 4 [vI a1, vI a2, vI kd, vI gl, vI ed, .ref m1]), (m1, aI G 4096 T)] s.heap.size)) ([.ref b0, vI x, vI y] : List Value).toArray s 0 0 (va_A [(b0, ob 6 [.ref b1, vI mc, .ref g0, .ref e0, vI rn, .ref f0, .ref w0, .ref u0, vI ll]), (b1, aR G 6 MK), (m0, ob 4 [vI a1, vI a2, vI kd, vI gl, vI ed, .ref m1]), (m1, aI G 4096 T)] s.heap.size)) (F0 m 0 ls []) by rw [hHe, hLe] at hgo; exact hgo
  rw [← hHe] at hP
  have hS : va_S A s.heap H locs := by rw [hHe, hLe]; exact hS
  clear hHe hLe
  refine lv_aload_n hx hb dX6_goals_0 rfl (lv_at hl 0 rfl) ?_
  refine lv_iload_n hx hb dX6_goals_1 rfl (lv_at hl 1 rfl) ?_
  refine z_rVr (q0 := 0) (ci := 6) (b := b0) (rest := []) hC hK hP (c_X6_neededMake l G b0 b1 g0 e0 f0 w0 u0 mc rn ll MK x m0 (by omega) (hmk)) mv_X6_neededMake tw_591 [0, 1] rfl rfl rfl rfl hl.1 rfl (Nat.le_of_ble_eq_true rfl) ⟨rfl, rfl, Nat.le_of_ble_eq_true rfl, Nat.le_of_ble_eq_true rfl⟩ ⟨Nat.le_of_ble_eq_true rfl, Nat.le_of_ble_eq_true rfl⟩ dX6_goals_2 ?_
  refine lv_astore_n (lv' := [(3, .ref m0), (0, .ref b0), (1, vI x), (2, vI y)]) hx hb dX6_goals_5 rfl hl (by decide) rfl (fun ls hl => ?_)
  refine lv_iload_n hx hb dX6_goals_6 rfl (lv_at hl 3 rfl) ?_
  refine z_if_lt (tgt := 16) hx hb dX6_goals_7 (by decide) (by omega) (fun c_7 => ?_) (fun c_7 => ?_)
  · exfalso; omega
  · refine lv_iload_n hx hb dX6_goals_10 rfl (lv_at hl 3 rfl) ?_
    refine lv_ldc (v := iI 65535) hx hb hC.2.2.2.1 (hC.2.2.2.2 _ tw_632) dX6_goals_11 ?_
    refine z_icmp_le (tgt := 26) hx hb dX6_goals_13 (by decide) (by omega) (fun c_13 => ?_) (fun c_13 => ?_)
    · refine lv_aload_n hx hb dX6_goals_26 rfl (lv_at hl 0 rfl) ?_
      refine lv_iload_n hx hb dX6_goals_27 rfl (lv_at hl 3 rfl) ?_
      refine z_wVi (q0 := 2) (ci := 4) (b := m0) (rest := []) (wr := [(b0, ob 6 [.ref b1, vI mc, .ref g0, .ref e0, vI rn, .ref f0, .ref w0, .ref u0, vI ll]), (b1, aR G 6 MK)]) hC hK hP hD hS hA (c_X4_exchangeGoals l G H.size m0 m1 a1 a2 kd gl ed T y) mv_X4_exchangeGoals tw_634 [2, 3] [0, 1] rfl rfl rfl rfl (by decide) rfl rfl rfl rfl hl.1 rfl (Nat.le_of_ble_eq_true rfl) ⟨rfl, rfl, Nat.le_of_ble_eq_true rfl, Nat.le_of_ble_eq_true rfl⟩ ⟨Nat.le_of_ble_eq_true rfl, Nat.le_of_ble_eq_true rfl⟩ dX6_goals_28 (fun r u H locs hw hP hD hS => ?_)
      have hP : va_P G.1 vwCl [(b0, ob 6 [.ref b1, vI mc, .ref g0, .ref e0, vI rn, .ref f0, .ref w0, .ref u0, vI ll]), (b1, aR G 6 MK), (m0, ob 4 [vI a1, vI a2, vI kd, vI y, vI ed, .ref m1]), (m1, aI G 4096 T)] H := hP
      have hD : va_D A [(b0, ob 6 [.ref b1, vI mc, .ref g0, .ref e0, vI rn, .ref f0, .ref w0, .ref u0, vI ll]), (b1, aR G 6 MK), (m0, ob 4 [vI a1, vI a2, vI kd, vI y, vI ed, .ref m1]), (m1, aI G 4096 T)] := hD
      obtain ⟨hrw_, hw_1⟩ := hw
      rw [hrw_]
      clear hrw_
      clear hw_1
      exact z_iretW hC hr hlk () hAe hP hD hS [0, 1, 2, 3] (by decide) rfl rfl (⟨rfl, trivial⟩) dX6_goals_31
    · exfalso; omega

set_option maxRecDepth 100000 in
set_option maxHeartbeats 4000000 in
theorem c_X6_edge_0 (l : Launch) (G : zGt) (sz : Nat) (b0 b1 g0 e0 f0 w0 u0 : Nat) (mc rn ll : Int) (MK : Int → Option Nat) (m0 m1 : Nat) (a1 a2 kd gl ed : Int) (T : Int → Int) (x y z w t0 : Int) (hx0 : 0 ≤ x ∧ x < 6) (hmk : MK x = some m0) (hok : ((0 ≤ y ∧ y < 16) ∧ (0 ≤ t0 ∧ t0 < 16) ∧ (0 ≤ z ∧ z < 256) ∧ (0 ≤ w ∧ w < 256) ∧ z ≤ w)) (hed : 0 ≤ ed ∧ ed < 40) : Met l yX6_edge (Cond.code yX6_edge cX6_edge 7 (some .int) :: tb) ({ frames := 1, cells := 0, slots := 0, locals := 25 } : Room) (zPw G [(b0, ob 6 [.ref b1, vI mc, .ref g0, .ref e0, vI rn, .ref f0, .ref w0, .ref u0, vI ll]), (b1, aR G 6 MK), (m0, ob 4 [vI a1, vI a2, vI kd, vI gl, vI ed, .ref m1]), (m1, aI G 4096 T)] sz [.ref b0, vI x, vI y, vI z, vI w, vI t0]) (va_Qi (fun (r : Int32) (u : Unit) => r = iI (ed + 1) ∧ True) (fun (u : Unit) t => zB G [(b0, ob 6 [.ref b1, vI mc, .ref g0, .ref e0, vI rn, .ref f0, .ref w0, .ref u0, vI ll]), (b1, aR G 6 MK), (m0, ob 4 [vI a1, vI a2, vI kd, vI gl, vI ed, .ref m1]), (m1, aI G 4096 T)] sz [(b0, ob 6 [.ref b1, vI mc, .ref g0, .ref e0, vI rn, .ref f0, .ref w0, .ref u0, vI ll]), (b1, aR G 6 MK), (m0, ob 4 [vI a1, vI a2, vI kd, vI gl, vI (ed + 1), .ref m1]), (m1, aI G 4096 (addE T y z w (zshl 1 t0)))] t) (va_A [(b0, ob 6 [.ref b1, vI mc, .ref g0, .ref e0, vI rn, .ref f0, .ref w0, .ref u0, vI ll]), (b1, aR G 6 MK), (m0, ob 4 [vI a1, vI a2, vI kd, vI gl, vI ed, .ref m1]), (m1, aI G 4096 T)] sz)) 0 0 (va_A [(b0, ob 6 [.ref b1, vI mc, .ref g0, .ref e0, vI rn, .ref f0, .ref w0, .ref u0, vI ll]), (b1, aR G 6 MK), (m0, ob 4 [vI a1, vI a2, vI kd, vI gl, vI ed, .ref m1]), (m1, aI G 4096 T)] sz) := by
  refine Met.ofW (cc := cX6_edge) (maxL := 7) (ret := (some .int)) (by decide) rfl ?_
  intro p e s m args below meth c s₁ B hml hv
  obtain ⟨rfl, hsz, hP, hK, hD0⟩ := hv
  subst hsz
  have hD := hD0.self (sz := s.heap.size)
  obtain ⟨A, hAe⟩ : ∃ A : Nat → Prop, A = va_A [(b0, ob 6 [.ref b1, vI mc, .ref g0, .ref e0, vI rn, .ref f0, .ref w0, .ref u0, vI ll]), (b1, aR G 6 MK), (m0, ob 4 [vI a1, vI a2, vI kd, vI gl, vI ed, .ref m1]), (m1, aI G 4096 T)] s.heap.size := ⟨_, rfl⟩
  rw [← hAe] at hD
  have hA : ∀ q : Nat, s.heap.size ≤ q → A q := fun q h => by rw [hAe]; exact Or.inr h
  have hS : va_S A s.heap s.heap [] := va_S.rf
  obtain ⟨hC, hr, hlk⟩ := z_begin B hml
  have hC : CallFix p m c cX6_edge 7 s _ tb RX6 := hC
  have hx := hC.1
  have hb := hC.2.1
  have hl := lv_entry ([.ref b0, vI x, vI y, vI z, vI w, vI t0]) (n := 7) (Nat.le_of_ble_eq_true rfl)
  rw [lg_entry_eq]
  generalize (lg_sl ([.ref b0, vI x, vI y, vI z, vI w, vI t0]) ++ List.replicate (7 - (lg_sl ([.ref b0, vI x, vI y, vI z, vI w, vI t0])).length) Slot.unset).toArray = ls at hl ⊢
  have hl : lv_has ls 7 [(0, .ref b0), (1, vI x), (2, vI y), (3, vI z), (4, vI w), (5, vI t0)] := hl
  obtain ⟨H, hHe⟩ : ∃ H : Heap, H = s.heap := ⟨_, rfl⟩
  obtain ⟨locs, hLe⟩ : ∃ L : List Loc, L = [] := ⟨_, rfl⟩
  suffices hgo : W p l e (headSpec (Cond.code yX6_edge cX6_edge 7 (some .int) :: tb) ({ frames := 1, cells := 0, slots := 0, locals := 25 } : Room)).room s m ([.ref b0, vI x, vI y, vI z, vI w, vI t0] : List Value).toArray below meth c H locs 0 0 (MQ below (va_Qi (fun (r : Int32) (u : Unit) => r = iI (ed + 1) ∧ True) (fun (u : Unit) t => zB G [(b0, ob 6 [.ref b1, vI mc, .ref g0, .ref e0, vI rn, .ref f0, .ref w0, .ref u0, vI ll]), (b1, aR G 6 MK), (m0, ob 4 [vI a1, vI a2, vI kd, vI gl, vI ed, .ref m1]), (m1, aI G 4096 T)] s.heap.size [(b0, ob 6 [.ref b1, vI mc, .ref g0, .ref e0, vI rn, .ref f0, .ref w0, .ref u0, vI ll]), (b1, aR G 6 MK), (m0, ob 4 [vI a1, vI a2, vI kd, vI gl, vI (ed + 1), .ref m1]), (m1, aI G 4096 (addE T y z w (zshl 1 t0)))] t) (va_A [(b0, ob 6 [.ref b1, vI mc, .ref g0, .ref e0, vI rn, .ref f0, .ref w0, .ref u0, vI ll]), (b1, aR G 6 MK), (m0, ob 4 [vI a1, vI a2, vI kd, vI gl, vI ed, .ref m1]), (m1, aI G 4096 T)] s.heap.size)) ([.ref b0, vI x, vI y, vI z, vI w, vI t0] : List Value).toArray s 0 0 (va_A [(b0, ob 6 [.ref b1, vI mc, .ref g0, .ref e0, vI rn, .ref f0, .ref w0, .ref u0, vI ll]), (b1, aR G 6 MK), (m0, ob 4 [vI a1, vI a2, vI kd, vI gl, vI ed, .ref m1]), (m1, aI G 4096 T)] s.heap.size)) (F0 m 0 ls []) by rw [hHe, hLe] at hgo; exact hgo
  rw [← hHe] at hP
  have hS : va_S A s.heap H locs := by rw [hHe, hLe]; exact hS
  clear hHe hLe
  refine lv_aload_n hx hb dX6_edge_0 rfl (lv_at hl 0 rfl) ?_
  refine lv_iload_n hx hb dX6_edge_1 rfl (lv_at hl 1 rfl) ?_
  refine z_rVr (q0 := 0) (ci := 6) (b := b0) (rest := []) hC hK hP (c_X6_neededMake l G b0 b1 g0 e0 f0 w0 u0 mc rn ll MK x m0 (by omega) (hmk)) mv_X6_neededMake tw_591 [0, 1] rfl rfl rfl rfl hl.1 rfl (Nat.le_of_ble_eq_true rfl) ⟨rfl, rfl, Nat.le_of_ble_eq_true rfl, Nat.le_of_ble_eq_true rfl⟩ ⟨Nat.le_of_ble_eq_true rfl, Nat.le_of_ble_eq_true rfl⟩ dX6_edge_2 ?_
  refine lv_astore (lv' := [(6, .ref m0), (0, .ref b0), (1, vI x), (2, vI y), (3, vI z), (4, vI w), (5, vI t0)]) hx hb dX6_edge_5 hl (by decide) rfl (fun ls hl => ?_)
  refine lv_iload_n hx hb dX6_edge_7 rfl (lv_at hl 3 rfl) ?_
  refine z_rSi (rest := []) hC hK hP (c_X6_isState l G y (by omega)) ms_X6_isState tw_611 [] rfl rfl hl.1 rfl (Nat.le_of_ble_eq_true rfl) ⟨rfl, rfl, Nat.le_of_ble_eq_true rfl, Nat.le_of_ble_eq_true rfl⟩ ⟨Nat.le_of_ble_eq_true rfl, Nat.le_of_ble_eq_true rfl⟩ dX6_edge_8 ?_
  refine z_top (y := 1) (if_pos (by omega)) ?_
  refine z_if_eq (tgt := 22) hx hb dX6_edge_11 (by decide) (by omega) (fun c_11 => ?_) (fun c_11 => ?_)
  · exact absurd c_11 (by decide)
  · refine lv_iload hx hb dX6_edge_14 (lv_at hl 6 rfl) ?_
    refine z_rSi (rest := []) hC hK hP (c_X6_isState l G t0 (by omega)) ms_X6_isState tw_611 [] rfl rfl hl.1 rfl (Nat.le_of_ble_eq_true rfl) ⟨rfl, rfl, Nat.le_of_ble_eq_true rfl, Nat.le_of_ble_eq_true rfl⟩ ⟨Nat.le_of_ble_eq_true rfl, Nat.le_of_ble_eq_true rfl⟩ dX6_edge_16 ?_
    refine z_top (y := 1) (if_pos (by omega)) ?_
    refine z_if_ne (tgt := 32) hx hb dX6_edge_19 (by decide) (by omega) (fun c_19 => ?_) (fun c_19 => ?_)
    · refine lv_iload_n hx hb dX6_edge_32 rfl (lv_at hl 4 rfl) ?_
      refine z_rSi (rest := []) hC hK hP (c_X6_isByte l G z (by omega)) ms_X6_isByte tw_471 [] rfl rfl hl.1 rfl (Nat.le_of_ble_eq_true rfl) ⟨rfl, rfl, Nat.le_of_ble_eq_true rfl, Nat.le_of_ble_eq_true rfl⟩ ⟨Nat.le_of_ble_eq_true rfl, Nat.le_of_ble_eq_true rfl⟩ dX6_edge_33 ?_
      refine z_top (y := 1) (if_pos (by omega)) ?_
      refine z_if_eq (tgt := 53) hx hb dX6_edge_36 (by decide) (by omega) (fun c_36 => ?_) (fun c_36 => ?_)
      · exact absurd c_36 (by decide)
      · refine lv_iload hx hb dX6_edge_39 (lv_at hl 5 rfl) ?_
        refine z_rSi (rest := []) hC hK hP (c_X6_isByte l G w (by omega)) ms_X6_isByte tw_471 [] rfl rfl hl.1 rfl (Nat.le_of_ble_eq_true rfl) ⟨rfl, rfl, Nat.le_of_ble_eq_true rfl, Nat.le_of_ble_eq_true rfl⟩ ⟨Nat.le_of_ble_eq_true rfl, Nat.le_of_ble_eq_true rfl⟩ dX6_edge_41 ?_
        refine z_top (y := 1) (if_pos (by omega)) ?_
        refine z_if_eq (tgt := 53) hx hb dX6_edge_44 (by decide) (by omega) (fun c_44 => ?_) (fun c_44 => ?_)
        · exact absurd c_44 (by decide)
        · refine lv_iload_n hx hb dX6_edge_47 rfl (lv_at hl 4 rfl) ?_
          refine lv_iload hx hb dX6_edge_48 (lv_at hl 5 rfl) ?_
          refine z_icmp_le (tgt := 63) hx hb dX6_edge_50 (by decide) (by omega) (fun c_50 => ?_) (fun c_50 => ?_)
          · refine lv_aload hx hb dX6_edge_63 (lv_at hl 0 rfl) ?_
            refine z_rVi (q0 := 2) (ci := 4) (b := m0) (rest := []) hC hK hP (c_X4_edgeCount l G m0 m1 a1 a2 kd gl ed T) mv_X4_edgeCount tw_616 [2, 3] rfl rfl rfl rfl hl.1 rfl (Nat.le_of_ble_eq_true rfl) ⟨rfl, rfl, Nat.le_of_ble_eq_true rfl, Nat.le_of_ble_eq_true rfl⟩ ⟨Nat.le_of_ble_eq_true rfl, Nat.le_of_ble_eq_true rfl⟩ dX6_edge_65 ?_
            refine lv_bipush (v := iI 40) hx hb dX6_edge_68 (by decide) ?_
            refine z_icmp_lt (tgt := 83) hx hb dX6_edge_70 (by decide) (by omega) (fun c_70 => ?_) (fun c_70 => ?_)
            · refine lv_aload hx hb dX6_edge_83 (lv_at hl 0 rfl) ?_
              refine lv_iload_n hx hb dX6_edge_85 rfl (lv_at hl 3 rfl) ?_
              refine lv_iload_n hx hb dX6_edge_86 rfl (lv_at hl 4 rfl) ?_
              refine lv_iload hx hb dX6_edge_87 (lv_at hl 5 rfl) ?_
              refine lv_iload hx hb dX6_edge_89 (lv_at hl 6 rfl) ?_
              refine z_wVv (q0 := 2) (ci := 4) (b := m0) (rest := []) (wr := [(b0, ob 6 [.ref b1, vI mc, .ref g0, .ref e0, vI rn, .ref f0, .ref w0, .ref u0, vI ll]), (b1, aR G 6 MK)]) hC hK hP hD hS hA (c_X4_addEdge l G H.size m0 m1 a1 a2 kd gl ed T y z w t0 (by omega) (by omega) (by omega)) mv_X4_addEdge tw_621 [2, 3] [0, 1] rfl rfl rfl rfl (by decide) rfl rfl rfl rfl hl.1 rfl (Nat.le_of_ble_eq_true rfl) ⟨rfl, rfl, Nat.le_of_ble_eq_true rfl, Nat.le_of_ble_eq_true rfl⟩ ⟨Nat.le_of_ble_eq_true rfl, Nat.le_of_ble_eq_true rfl⟩ dX6_edge_91 (fun u H locs hw hP hD hS => ?_)
              have hP : va_P G.1 vwCl [(b0, ob 6 [.ref b1, vI mc, .ref g0, .ref e0, vI rn, .ref f0, .ref w0, .ref u0, vI ll]), (b1, aR G 6 MK), (m0, ob 4 [vI a1, vI a2, vI kd, vI gl, vI (ed + 1), .ref m1]), (m1, aI G 4096 (addE T y z w (zshl 1 t0)))] H := hP
              have hD : va_D A [(b0, ob 6 [.ref b1, vI mc, .ref g0, .ref e0, vI rn, .ref f0, .ref w0, .ref u0, vI ll]), (b1, aR G 6 MK), (m0, ob 4 [vI a1, vI a2, vI kd, vI gl, vI (ed + 1), .ref m1]), (m1, aI G 4096 (addE T y z w (zshl 1 t0)))] := hD
              have hw_1 := hw
              clear hw_1
              refine lv_aload hx hb dX6_edge_94 (lv_at hl 0 rfl) ?_
              refine z_rVi (q0 := 2) (ci := 4) (b := m0) (rest := []) hC hK hP (c_X4_edgeCount l G m0 m1 a1 a2 kd gl (ed + 1) (addE T y z w (zshl 1 t0))) mv_X4_edgeCount tw_616 [2, 3] rfl rfl rfl rfl hl.1 rfl (Nat.le_of_ble_eq_true rfl) ⟨rfl, rfl, Nat.le_of_ble_eq_true rfl, Nat.le_of_ble_eq_true rfl⟩ ⟨Nat.le_of_ble_eq_true rfl, Nat.le_of_ble_eq_true rfl⟩ dX6_edge_96 ?_
              exact z_iretW hC hr hlk () hAe hP hD hS [0, 1, 2, 3] (by decide) rfl rfl (⟨rfl, trivial⟩) dX6_edge_99
            · exfalso; omega
          · exfalso; omega
    · exact absurd c_19 (by decide)

set_option maxRecDepth 100000 in
set_option maxHeartbeats 4000000 in
theorem c_X6_block_0 (l : Launch) (G : zGt) (sz : Nat) (b0 b1 g0 e0 f0 w0 u0 : Nat) (mc rn ll : Int) (g1 : Nat) (nb : Int) (dk : Int → Int64) (v : Int64) (hnb : 0 ≤ nb ∧ nb < 24) : Met l yX6_block (Cond.code yX6_block cX6_block 3 (some .int) :: tb) ({ frames := 1, cells := 0, slots := 0, locals := 22 } : Room) (zPw G [(b0, ob 6 [.ref b1, vI mc, .ref g0, .ref e0, vI rn, .ref f0, .ref w0, .ref u0, vI ll]), (g0, ob 1 [.ref g1, vI nb]), (g1, aJ G 24 dk)] sz [.ref b0, .long v]) (va_Qi (fun (r : Int32) (u : Unit) => r = iI nb ∧ True) (fun (u : Unit) t => zB G [(b0, ob 6 [.ref b1, vI mc, .ref g0, .ref e0, vI rn, .ref f0, .ref w0, .ref u0, vI ll]), (g0, ob 1 [.ref g1, vI nb]), (g1, aJ G 24 dk)] sz [(b0, ob 6 [.ref b1, vI mc, .ref g0, .ref e0, vI rn, .ref f0, .ref w0, .ref u0, vI ll]), (g0, ob 1 [.ref g1, vI (nb + 1)]), (g1, aJ G 24 (zup dk nb v))] t) (va_A [(b0, ob 6 [.ref b1, vI mc, .ref g0, .ref e0, vI rn, .ref f0, .ref w0, .ref u0, vI ll]), (g0, ob 1 [.ref g1, vI nb]), (g1, aJ G 24 dk)] sz)) 0 0 (va_A [(b0, ob 6 [.ref b1, vI mc, .ref g0, .ref e0, vI rn, .ref f0, .ref w0, .ref u0, vI ll]), (g0, ob 1 [.ref g1, vI nb]), (g1, aJ G 24 dk)] sz) := by
  refine Met.ofW (cc := cX6_block) (maxL := 3) (ret := (some .int)) (by decide) rfl ?_
  intro p e s m args below meth c s₁ B hml hv
  obtain ⟨rfl, hsz, hP, hK, hD0⟩ := hv
  subst hsz
  have hD := hD0.self (sz := s.heap.size)
  obtain ⟨A, hAe⟩ : ∃ A : Nat → Prop, A = va_A [(b0, ob 6 [.ref b1, vI mc, .ref g0, .ref e0, vI rn, .ref f0, .ref w0, .ref u0, vI ll]), (g0, ob 1 [.ref g1, vI nb]), (g1, aJ G 24 dk)] s.heap.size := ⟨_, rfl⟩
  rw [← hAe] at hD
  have hA : ∀ q : Nat, s.heap.size ≤ q → A q := fun q h => by rw [hAe]; exact Or.inr h
  have hS : va_S A s.heap s.heap [] := va_S.rf
  obtain ⟨hC, hr, hlk⟩ := z_begin B hml
  have hC : CallFix p m c cX6_block 3 s _ tb RX6 := hC
  have hx := hC.1
  have hb := hC.2.1
  have hl := lv_entry ([.ref b0, .long v]) (n := 3) (Nat.le_of_ble_eq_true rfl)
  rw [lg_entry_eq]
  generalize (lg_sl ([.ref b0, .long v]) ++ List.replicate (3 - (lg_sl ([.ref b0, .long v])).length) Slot.unset).toArray = ls at hl ⊢
  have hl : lv_has ls 3 [(0, .ref b0), (1, .long v)] := hl
  obtain ⟨H, hHe⟩ : ∃ H : Heap, H = s.heap := ⟨_, rfl⟩
  obtain ⟨locs, hLe⟩ : ∃ L : List Loc, L = [] := ⟨_, rfl⟩
  suffices hgo : W p l e (headSpec (Cond.code yX6_block cX6_block 3 (some .int) :: tb) ({ frames := 1, cells := 0, slots := 0, locals := 22 } : Room)).room s m ([.ref b0, .long v] : List Value).toArray below meth c H locs 0 0 (MQ below (va_Qi (fun (r : Int32) (u : Unit) => r = iI nb ∧ True) (fun (u : Unit) t => zB G [(b0, ob 6 [.ref b1, vI mc, .ref g0, .ref e0, vI rn, .ref f0, .ref w0, .ref u0, vI ll]), (g0, ob 1 [.ref g1, vI nb]), (g1, aJ G 24 dk)] s.heap.size [(b0, ob 6 [.ref b1, vI mc, .ref g0, .ref e0, vI rn, .ref f0, .ref w0, .ref u0, vI ll]), (g0, ob 1 [.ref g1, vI (nb + 1)]), (g1, aJ G 24 (zup dk nb v))] t) (va_A [(b0, ob 6 [.ref b1, vI mc, .ref g0, .ref e0, vI rn, .ref f0, .ref w0, .ref u0, vI ll]), (g0, ob 1 [.ref g1, vI nb]), (g1, aJ G 24 dk)] s.heap.size)) ([.ref b0, .long v] : List Value).toArray s 0 0 (va_A [(b0, ob 6 [.ref b1, vI mc, .ref g0, .ref e0, vI rn, .ref f0, .ref w0, .ref u0, vI ll]), (g0, ob 1 [.ref g1, vI nb]), (g1, aJ G 24 dk)] s.heap.size)) (F0 m 0 ls []) by rw [hHe, hLe] at hgo; exact hgo
  rw [← hHe] at hP
  have hS : va_S A s.heap H locs := by rw [hHe, hLe]; exact hS
  clear hHe hLe
  refine lv_aload_n hx hb dX6_block_0 rfl (lv_at hl 0 rfl) ?_
  refine z_get (v := .ref g0) hC hK hP inX6 rfl 0 rfl 2 (by decide) tw_200 rfl dX6_block_1 ?_
  refine lv_lload_n hx hb dX6_block_4 rfl (lv_at hl 1 rfl) ?_
  refine z_wVi (q0 := 1) (ci := 1) (b := g0) (rest := []) (wr := [(b0, ob 6 [.ref b1, vI mc, .ref g0, .ref e0, vI rn, .ref f0, .ref w0, .ref u0, vI ll])]) hC hK hP hD hS hA (c_X1_add l G H.size g0 g1 nb dk v (by omega)) mv_X1_add tw_230 [1, 2] [0] rfl rfl rfl rfl (by decide) rfl rfl rfl rfl hl.1 rfl (Nat.le_of_ble_eq_true rfl) ⟨rfl, rfl, Nat.le_of_ble_eq_true rfl, Nat.le_of_ble_eq_true rfl⟩ ⟨Nat.le_of_ble_eq_true rfl, Nat.le_of_ble_eq_true rfl⟩ dX6_block_5 (fun r u H locs hw hP hD hS => ?_)
  obtain ⟨r'_1, n'_1, f'_1⟩ := u
  dsimp only at hw hP hD
  have hP : va_P G.1 vwCl [(b0, ob 6 [.ref b1, vI mc, .ref g0, .ref e0, vI rn, .ref f0, .ref w0, .ref u0, vI ll]), (g0, ob 1 [.ref g1, vI n'_1]), (g1, aJ G 24 f'_1)] H := hP
  have hD : va_D A [(b0, ob 6 [.ref b1, vI mc, .ref g0, .ref e0, vI rn, .ref f0, .ref w0, .ref u0, vI ll]), (g0, ob 1 [.ref g1, vI n'_1]), (g1, aJ G 24 f'_1)] := hD
  obtain ⟨hrw_, hw_1⟩ := hw
  rw [hrw_]
  clear hrw_
  obtain ⟨q1, q2, q3⟩ := hw_1.1 hnb.2
  have hP : va_P G.1 vwCl [(b0, ob 6 [.ref b1, vI mc, .ref g0, .ref e0, vI rn, .ref f0, .ref w0, .ref u0, vI ll]), (g0, ob 1 [.ref g1, vI (nb + 1)]), (g1, aJ G 24 (zup dk nb v))] H := by rw [← q2, ← q3]; exact hP
  have hD : va_D A [(b0, ob 6 [.ref b1, vI mc, .ref g0, .ref e0, vI rn, .ref f0, .ref w0, .ref u0, vI ll]), (g0, ob 1 [.ref g1, vI (nb + 1)]), (g1, aJ G 24 (zup dk nb v))] := by rw [← q2, ← q3]; exact hD
  exact z_iretW hC hr hlk () hAe hP hD hS [0, 1, 2] (by decide) rfl rfl (⟨congrArg iI q1, trivial⟩) dX6_block_8

set_option maxRecDepth 100000 in
set_option maxHeartbeats 4000000 in
theorem c_X6_block_n (l : Launch) (G : zGt) (sz : Nat) (b0 b1 g0 e0 f0 w0 u0 : Nat) (mc rn ll : Int) (g1 : Nat) (nb : Int) (dk : Int → Int64) (v : Int64) (hnb : nb = 24) : Met l yX6_block (Cond.code yX6_block cX6_block 3 (some .int) :: tb) ({ frames := 1, cells := 0, slots := 0, locals := 22 } : Room) (zPw G [(b0, ob 6 [.ref b1, vI mc, .ref g0, .ref e0, vI rn, .ref f0, .ref w0, .ref u0, vI ll]), (g0, ob 1 [.ref g1, vI nb]), (g1, aJ G 24 dk)] sz [.ref b0, .long v]) (va_Qi (fun (r : Int32) (u : Unit) => r = iI (-1) ∧ True) (fun (u : Unit) t => zB G [(b0, ob 6 [.ref b1, vI mc, .ref g0, .ref e0, vI rn, .ref f0, .ref w0, .ref u0, vI ll]), (g0, ob 1 [.ref g1, vI nb]), (g1, aJ G 24 dk)] sz [(b0, ob 6 [.ref b1, vI mc, .ref g0, .ref e0, vI rn, .ref f0, .ref w0, .ref u0, vI ll]), (g0, ob 1 [.ref g1, vI nb]), (g1, aJ G 24 dk)] t) (va_A [(b0, ob 6 [.ref b1, vI mc, .ref g0, .ref e0, vI rn, .ref f0, .ref w0, .ref u0, vI ll]), (g0, ob 1 [.ref g1, vI nb]), (g1, aJ G 24 dk)] sz)) 0 0 (va_A [(b0, ob 6 [.ref b1, vI mc, .ref g0, .ref e0, vI rn, .ref f0, .ref w0, .ref u0, vI ll]), (g0, ob 1 [.ref g1, vI nb]), (g1, aJ G 24 dk)] sz) := by
  refine Met.ofW (cc := cX6_block) (maxL := 3) (ret := (some .int)) (by decide) rfl ?_
  intro p e s m args below meth c s₁ B hml hv
  obtain ⟨rfl, hsz, hP, hK, hD0⟩ := hv
  subst hsz
  have hD := hD0.self (sz := s.heap.size)
  obtain ⟨A, hAe⟩ : ∃ A : Nat → Prop, A = va_A [(b0, ob 6 [.ref b1, vI mc, .ref g0, .ref e0, vI rn, .ref f0, .ref w0, .ref u0, vI ll]), (g0, ob 1 [.ref g1, vI nb]), (g1, aJ G 24 dk)] s.heap.size := ⟨_, rfl⟩
  rw [← hAe] at hD
  have hA : ∀ q : Nat, s.heap.size ≤ q → A q := fun q h => by rw [hAe]; exact Or.inr h
  have hS : va_S A s.heap s.heap [] := va_S.rf
  obtain ⟨hC, hr, hlk⟩ := z_begin B hml
  have hC : CallFix p m c cX6_block 3 s _ tb RX6 := hC
  have hx := hC.1
  have hb := hC.2.1
  have hl := lv_entry ([.ref b0, .long v]) (n := 3) (Nat.le_of_ble_eq_true rfl)
  rw [lg_entry_eq]
  generalize (lg_sl ([.ref b0, .long v]) ++ List.replicate (3 - (lg_sl ([.ref b0, .long v])).length) Slot.unset).toArray = ls at hl ⊢
  have hl : lv_has ls 3 [(0, .ref b0), (1, .long v)] := hl
  obtain ⟨H, hHe⟩ : ∃ H : Heap, H = s.heap := ⟨_, rfl⟩
  obtain ⟨locs, hLe⟩ : ∃ L : List Loc, L = [] := ⟨_, rfl⟩
  suffices hgo : W p l e (headSpec (Cond.code yX6_block cX6_block 3 (some .int) :: tb) ({ frames := 1, cells := 0, slots := 0, locals := 22 } : Room)).room s m ([.ref b0, .long v] : List Value).toArray below meth c H locs 0 0 (MQ below (va_Qi (fun (r : Int32) (u : Unit) => r = iI (-1) ∧ True) (fun (u : Unit) t => zB G [(b0, ob 6 [.ref b1, vI mc, .ref g0, .ref e0, vI rn, .ref f0, .ref w0, .ref u0, vI ll]), (g0, ob 1 [.ref g1, vI nb]), (g1, aJ G 24 dk)] s.heap.size [(b0, ob 6 [.ref b1, vI mc, .ref g0, .ref e0, vI rn, .ref f0, .ref w0, .ref u0, vI ll]), (g0, ob 1 [.ref g1, vI nb]), (g1, aJ G 24 dk)] t) (va_A [(b0, ob 6 [.ref b1, vI mc, .ref g0, .ref e0, vI rn, .ref f0, .ref w0, .ref u0, vI ll]), (g0, ob 1 [.ref g1, vI nb]), (g1, aJ G 24 dk)] s.heap.size)) ([.ref b0, .long v] : List Value).toArray s 0 0 (va_A [(b0, ob 6 [.ref b1, vI mc, .ref g0, .ref e0, vI rn, .ref f0, .ref w0, .ref u0, vI ll]), (g0, ob 1 [.ref g1, vI nb]), (g1, aJ G 24 dk)] s.heap.size)) (F0 m 0 ls []) by rw [hHe, hLe] at hgo; exact hgo
  rw [← hHe] at hP
  have hS : va_S A s.heap H locs := by rw [hHe, hLe]; exact hS
  clear hHe hLe
  refine lv_aload_n hx hb dX6_block_0 rfl (lv_at hl 0 rfl) ?_
  refine z_get (v := .ref g0) hC hK hP inX6 rfl 0 rfl 2 (by decide) tw_200 rfl dX6_block_1 ?_
  refine lv_lload_n hx hb dX6_block_4 rfl (lv_at hl 1 rfl) ?_
  refine z_wVi (q0 := 1) (ci := 1) (b := g0) (rest := []) (wr := [(b0, ob 6 [.ref b1, vI mc, .ref g0, .ref e0, vI rn, .ref f0, .ref w0, .ref u0, vI ll])]) hC hK hP hD hS hA (c_X1_add l G H.size g0 g1 nb dk v (by omega)) mv_X1_add tw_230 [1, 2] [0] rfl rfl rfl rfl (by decide) rfl rfl rfl rfl hl.1 rfl (Nat.le_of_ble_eq_true rfl) ⟨rfl, rfl, Nat.le_of_ble_eq_true rfl, Nat.le_of_ble_eq_true rfl⟩ ⟨Nat.le_of_ble_eq_true rfl, Nat.le_of_ble_eq_true rfl⟩ dX6_block_5 (fun r u H locs hw hP hD hS => ?_)
  obtain ⟨r'_1, n'_1, f'_1⟩ := u
  dsimp only at hw hP hD
  have hP : va_P G.1 vwCl [(b0, ob 6 [.ref b1, vI mc, .ref g0, .ref e0, vI rn, .ref f0, .ref w0, .ref u0, vI ll]), (g0, ob 1 [.ref g1, vI n'_1]), (g1, aJ G 24 f'_1)] H := hP
  have hD : va_D A [(b0, ob 6 [.ref b1, vI mc, .ref g0, .ref e0, vI rn, .ref f0, .ref w0, .ref u0, vI ll]), (g0, ob 1 [.ref g1, vI n'_1]), (g1, aJ G 24 f'_1)] := hD
  obtain ⟨hrw_, hw_1⟩ := hw
  rw [hrw_]
  clear hrw_
  obtain ⟨q1, q2, q3⟩ := hw_1.2 (by omega)
  have hP : va_P G.1 vwCl [(b0, ob 6 [.ref b1, vI mc, .ref g0, .ref e0, vI rn, .ref f0, .ref w0, .ref u0, vI ll]), (g0, ob 1 [.ref g1, vI nb]), (g1, aJ G 24 dk)] H := by rw [q2, q3] at hP; exact hP
  have hD : va_D A [(b0, ob 6 [.ref b1, vI mc, .ref g0, .ref e0, vI rn, .ref f0, .ref w0, .ref u0, vI ll]), (g0, ob 1 [.ref g1, vI nb]), (g1, aJ G 24 dk)] := by rw [q2, q3] at hD; exact hD
  exact z_iretW hC hr hlk () hAe hP hD hS [0, 1, 2] (by decide) rfl rfl (⟨congrArg iI q1, trivial⟩) dX6_block_8

set_option maxRecDepth 100000 in
set_option maxHeartbeats 4000000 in
theorem c_X6_change_0 (l : Launch) (G : zGt) (sz : Nat) (b0 b1 g0 e0 f0 w0 u0 : Nat) (mc rn ll : Int) (g1 : Nat) (nb : Int) (dk : Int → Int64) (x : Int) (v : Int64) (hnb : 0 ≤ nb ∧ nb ≤ 24) (hxb : 0 ≤ x ∧ x < nb) : Met l yX6_change (Cond.code yX6_change cX6_change 4 (some .long) :: tb) ({ frames := 2, cells := 0, slots := 0, locals := 46 } : Room) (zPw G [(b0, ob 6 [.ref b1, vI mc, .ref g0, .ref e0, vI rn, .ref f0, .ref w0, .ref u0, vI ll]), (g0, ob 1 [.ref g1, vI nb]), (g1, aJ G 24 dk)] sz [.ref b0, vI x, .long v]) (va_Ql (fun (r : Int64) (u : Unit) => r = (dk x) ∧ True) (fun (u : Unit) t => zB G [(b0, ob 6 [.ref b1, vI mc, .ref g0, .ref e0, vI rn, .ref f0, .ref w0, .ref u0, vI ll]), (g0, ob 1 [.ref g1, vI nb]), (g1, aJ G 24 dk)] sz [(b0, ob 6 [.ref b1, vI mc, .ref g0, .ref e0, vI rn, .ref f0, .ref w0, .ref u0, vI ll]), (g0, ob 1 [.ref g1, vI nb]), (g1, aJ G 24 (zup dk x v))] t) (va_A [(b0, ob 6 [.ref b1, vI mc, .ref g0, .ref e0, vI rn, .ref f0, .ref w0, .ref u0, vI ll]), (g0, ob 1 [.ref g1, vI nb]), (g1, aJ G 24 dk)] sz)) 0 0 (va_A [(b0, ob 6 [.ref b1, vI mc, .ref g0, .ref e0, vI rn, .ref f0, .ref w0, .ref u0, vI ll]), (g0, ob 1 [.ref g1, vI nb]), (g1, aJ G 24 dk)] sz) := by
  refine Met.ofW (cc := cX6_change) (maxL := 4) (ret := (some .long)) (by decide) rfl ?_
  intro p e s m args below meth c s₁ B hml hv
  obtain ⟨rfl, hsz, hP, hK, hD0⟩ := hv
  subst hsz
  have hD := hD0.self (sz := s.heap.size)
  obtain ⟨A, hAe⟩ : ∃ A : Nat → Prop, A = va_A [(b0, ob 6 [.ref b1, vI mc, .ref g0, .ref e0, vI rn, .ref f0, .ref w0, .ref u0, vI ll]), (g0, ob 1 [.ref g1, vI nb]), (g1, aJ G 24 dk)] s.heap.size := ⟨_, rfl⟩
  rw [← hAe] at hD
  have hA : ∀ q : Nat, s.heap.size ≤ q → A q := fun q h => by rw [hAe]; exact Or.inr h
  have hS : va_S A s.heap s.heap [] := va_S.rf
  obtain ⟨hC, hr, hlk⟩ := z_begin B hml
  have hC : CallFix p m c cX6_change 4 s _ tb RX6 := hC
  have hx := hC.1
  have hb := hC.2.1
  have hl := lv_entry ([.ref b0, vI x, .long v]) (n := 4) (Nat.le_of_ble_eq_true rfl)
  rw [lg_entry_eq]
  generalize (lg_sl ([.ref b0, vI x, .long v]) ++ List.replicate (4 - (lg_sl ([.ref b0, vI x, .long v])).length) Slot.unset).toArray = ls at hl ⊢
  have hl : lv_has ls 4 [(0, .ref b0), (1, vI x), (2, .long v)] := hl
  obtain ⟨H, hHe⟩ : ∃ H : Heap, H = s.heap := ⟨_, rfl⟩
  obtain ⟨locs, hLe⟩ : ∃ L : List Loc, L = [] := ⟨_, rfl⟩
  suffices hgo : W p l e (headSpec (Cond.code yX6_change cX6_change 4 (some .long) :: tb) ({ frames := 2, cells := 0, slots := 0, locals := 46 } : Room)).room s m ([.ref b0, vI x, .long v] : List Value).toArray below meth c H locs 0 0 (MQ below (va_Ql (fun (r : Int64) (u : Unit) => r = (dk x) ∧ True) (fun (u : Unit) t => zB G [(b0, ob 6 [.ref b1, vI mc, .ref g0, .ref e0, vI rn, .ref f0, .ref w0, .ref u0, vI ll]), (g0, ob 1 [.ref g1, vI nb]), (g1, aJ G 24 dk)] s.heap.size [(b0, ob 6 [.ref b1, vI mc, .ref g0, .ref e0, vI rn, .ref f0, .ref w0, .ref u0, vI ll]), (g0, ob 1 [.ref g1, vI nb]), (g1, aJ G 24 (zup dk x v))] t) (va_A [(b0, ob 6 [.ref b1, vI mc, .ref g0, .ref e0, vI rn, .ref f0, .ref w0, .ref u0, vI ll]), (g0, ob 1 [.ref g1, vI nb]), (g1, aJ G 24 dk)] s.heap.size)) ([.ref b0, vI x, .long v] : List Value).toArray s 0 0 (va_A [(b0, ob 6 [.ref b1, vI mc, .ref g0, .ref e0, vI rn, .ref f0, .ref w0, .ref u0, vI ll]), (g0, ob 1 [.ref g1, vI nb]), (g1, aJ G 24 dk)] s.heap.size)) (F0 m 0 ls []) by rw [hHe, hLe] at hgo; exact hgo
  rw [← hHe] at hP
  have hS : va_S A s.heap H locs := by rw [hHe, hLe]; exact hS
  clear hHe hLe
  refine lv_aload_n hx hb dX6_change_0 rfl (lv_at hl 0 rfl) ?_
  refine z_get (v := .ref g0) hC hK hP inX6 rfl 0 rfl 2 (by decide) tw_200 rfl dX6_change_1 ?_
  refine lv_aload_n hx hb dX6_change_4 rfl (lv_at hl 0 rfl) ?_
  refine lv_iload_n hx hb dX6_change_5 rfl (lv_at hl 1 rfl) ?_
  refine z_rVi (q0 := 0) (ci := 6) (b := b0) (rest := [.ref g0]) hC hK hP (c_X6_neededBlock l G b0 b1 g0 e0 f0 w0 u0 mc rn ll g1 nb dk x (by omega) (by omega)) mv_X6_neededBlock tw_645 [0, 1, 2] rfl rfl rfl rfl hl.1 rfl (Nat.le_of_ble_eq_true rfl) ⟨rfl, rfl, Nat.le_of_ble_eq_true rfl, Nat.le_of_ble_eq_true rfl⟩ ⟨Nat.le_of_ble_eq_true rfl, Nat.le_of_ble_eq_true rfl⟩ dX6_change_6 ?_
  refine lv_lload_n hx hb dX6_change_9 rfl (lv_at hl 2 rfl) ?_
  refine z_wVl (q0 := 1) (ci := 1) (b := g0) (rest := []) (wr := [(b0, ob 6 [.ref b1, vI mc, .ref g0, .ref e0, vI rn, .ref f0, .ref w0, .ref u0, vI ll])]) hC hK hP hD hS hA (c_X1_exchange l G H.size g0 g1 nb dk x v (by omega) (by omega)) mv_X1_exchange tw_650 [1, 2] [0] rfl rfl rfl rfl (by decide) rfl rfl rfl rfl hl.1 rfl (Nat.le_of_ble_eq_true rfl) ⟨rfl, rfl, Nat.le_of_ble_eq_true rfl, Nat.le_of_ble_eq_true rfl⟩ ⟨Nat.le_of_ble_eq_true rfl, Nat.le_of_ble_eq_true rfl⟩ dX6_change_10 (fun r u H locs hw hP hD hS => ?_)
  have hP : va_P G.1 vwCl [(b0, ob 6 [.ref b1, vI mc, .ref g0, .ref e0, vI rn, .ref f0, .ref w0, .ref u0, vI ll]), (g0, ob 1 [.ref g1, vI nb]), (g1, aJ G 24 (zup dk x v))] H := hP
  have hD : va_D A [(b0, ob 6 [.ref b1, vI mc, .ref g0, .ref e0, vI rn, .ref f0, .ref w0, .ref u0, vI ll]), (g0, ob 1 [.ref g1, vI nb]), (g1, aJ G 24 (zup dk x v))] := hD
  obtain ⟨hrw_, hw_1⟩ := hw
  rw [hrw_]
  clear hrw_
  clear hw_1
  exact z_lretW hC hr hlk () hAe hP hD hS [0, 1, 2] (by decide) rfl rfl (⟨rfl, trivial⟩) dX6_change_13

set_option maxRecDepth 100000 in
set_option maxHeartbeats 4000000 in
theorem c_X6_bytes_0 (l : Launch) (G : zGt) (b0 b1 g0 e0 f0 w0 u0 : Nat) (mc rn ll : Int) (g1 : Nat) (nb : Int) (dk : Int → Int64) (x : Int) (hnb : 0 ≤ nb ∧ nb ≤ 24) (hxb : 0 ≤ x ∧ x < nb) : Met l yX6_bytes (Cond.code yX6_bytes cX6_bytes 2 (some .long) :: tb) ({ frames := 2, cells := 0, slots := 0, locals := 41 } : Room) (zPr G [(b0, ob 6 [.ref b1, vI mc, .ref g0, .ref e0, vI rn, .ref f0, .ref w0, .ref u0, vI ll]), (g0, ob 1 [.ref g1, vI nb]), (g1, aJ G 24 dk)] [.ref b0, vI x]) (vp_Sl (fun r => r = dk x)) 0 0 (fun _ => False) := by
  refine Met.ofW (cc := cX6_bytes) (maxL := 2) (ret := (some .long)) (by decide) rfl ?_
  intro p e s m args below meth c s₁ B hml hv
  obtain ⟨rfl, hP, hK⟩ := hv
  obtain ⟨hC, hr, hlk⟩ := z_begin B hml
  have hC : CallFix p m c cX6_bytes 2 s _ tb RX6 := hC
  have hx := hC.1
  have hb := hC.2.1
  have hl := lv_entry ([.ref b0, vI x]) (n := 2) (Nat.le_of_ble_eq_true rfl)
  rw [lg_entry_eq]
  generalize (lg_sl ([.ref b0, vI x]) ++ List.replicate (2 - (lg_sl ([.ref b0, vI x])).length) Slot.unset).toArray = ls at hl ⊢
  have hl : lv_has ls 2 [(0, .ref b0), (1, vI x)] := hl
  refine lv_aload_n hx hb dX6_bytes_0 rfl (lv_at hl 0 rfl) ?_
  refine z_get (v := .ref g0) hC hK hP inX6 rfl 0 rfl 2 (by decide) tw_200 rfl dX6_bytes_1 ?_
  refine lv_aload_n hx hb dX6_bytes_4 rfl (lv_at hl 0 rfl) ?_
  refine lv_iload_n hx hb dX6_bytes_5 rfl (lv_at hl 1 rfl) ?_
  refine z_rVi (q0 := 0) (ci := 6) (b := b0) (rest := [.ref g0]) hC hK hP (c_X6_neededBlock l G b0 b1 g0 e0 f0 w0 u0 mc rn ll g1 nb dk x (by omega) (by omega)) mv_X6_neededBlock tw_645 [0, 1, 2] rfl rfl rfl rfl hl.1 rfl (Nat.le_of_ble_eq_true rfl) ⟨rfl, rfl, Nat.le_of_ble_eq_true rfl, Nat.le_of_ble_eq_true rfl⟩ ⟨Nat.le_of_ble_eq_true rfl, Nat.le_of_ble_eq_true rfl⟩ dX6_bytes_6 ?_
  refine z_rVl (q0 := 1) (ci := 1) (b := g0) (rest := []) hC hK hP (c_X1_allOf l G g0 g1 nb dk x (by omega) (by omega)) mv_X1_allOf tw_662 [1, 2] rfl rfl rfl rfl hl.1 rfl (Nat.le_of_ble_eq_true rfl) ⟨rfl, rfl, Nat.le_of_ble_eq_true rfl, Nat.le_of_ble_eq_true rfl⟩ ⟨Nat.le_of_ble_eq_true rfl, Nat.le_of_ble_eq_true rfl⟩ dX6_bytes_9 ?_
  exact z_lretR hC hr hlk (if_pos (by omega)) dX6_bytes_12

set_option maxRecDepth 100000 in
set_option maxHeartbeats 4000000 in
theorem c_X6_reach_0 (l : Launch) (G : zGt) (sz : Nat) (b0 b1 g0 e0 f0 w0 u0 : Nat) (mc rn ll : Int) (x : Int) (hx0 : 1 ≤ x ∧ x ≤ 23) : Met l yX6_reach (Cond.code yX6_reach cX6_reach 3 (some .int) :: tb) ({ frames := 0, cells := 0, slots := 0, locals := 0 } : Room) (zPw G [(b0, ob 6 [.ref b1, vI mc, .ref g0, .ref e0, vI rn, .ref f0, .ref w0, .ref u0, vI ll])] sz [.ref b0, vI x]) (va_Qi (fun (r : Int32) (u : Unit) => r = iI rn ∧ True) (fun (u : Unit) t => zB G [(b0, ob 6 [.ref b1, vI mc, .ref g0, .ref e0, vI rn, .ref f0, .ref w0, .ref u0, vI ll])] sz [(b0, ob 6 [.ref b1, vI mc, .ref g0, .ref e0, vI x, .ref f0, .ref w0, .ref u0, vI ll])] t) (va_A [(b0, ob 6 [.ref b1, vI mc, .ref g0, .ref e0, vI rn, .ref f0, .ref w0, .ref u0, vI ll])] sz)) 0 0 (va_A [(b0, ob 6 [.ref b1, vI mc, .ref g0, .ref e0, vI rn, .ref f0, .ref w0, .ref u0, vI ll])] sz) := by
  refine Met.ofW (cc := cX6_reach) (maxL := 3) (ret := (some .int)) (by decide) rfl ?_
  intro p e s m args below meth c s₁ B hml hv
  obtain ⟨rfl, hsz, hP, hK, hD0⟩ := hv
  subst hsz
  have hD := hD0.self (sz := s.heap.size)
  obtain ⟨A, hAe⟩ : ∃ A : Nat → Prop, A = va_A [(b0, ob 6 [.ref b1, vI mc, .ref g0, .ref e0, vI rn, .ref f0, .ref w0, .ref u0, vI ll])] s.heap.size := ⟨_, rfl⟩
  rw [← hAe] at hD
  have hA : ∀ q : Nat, s.heap.size ≤ q → A q := fun q h => by rw [hAe]; exact Or.inr h
  have hS : va_S A s.heap s.heap [] := va_S.rf
  obtain ⟨hC, hr, hlk⟩ := z_begin B hml
  have hC : CallFix p m c cX6_reach 3 s _ tb RX6 := hC
  have hx := hC.1
  have hb := hC.2.1
  have hl := lv_entry ([.ref b0, vI x]) (n := 3) (Nat.le_of_ble_eq_true rfl)
  rw [lg_entry_eq]
  generalize (lg_sl ([.ref b0, vI x]) ++ List.replicate (3 - (lg_sl ([.ref b0, vI x])).length) Slot.unset).toArray = ls at hl ⊢
  have hl : lv_has ls 3 [(0, .ref b0), (1, vI x)] := hl
  obtain ⟨H, hHe⟩ : ∃ H : Heap, H = s.heap := ⟨_, rfl⟩
  obtain ⟨locs, hLe⟩ : ∃ L : List Loc, L = [] := ⟨_, rfl⟩
  suffices hgo : W p l e (headSpec (Cond.code yX6_reach cX6_reach 3 (some .int) :: tb) ({ frames := 0, cells := 0, slots := 0, locals := 0 } : Room)).room s m ([.ref b0, vI x] : List Value).toArray below meth c H locs 0 0 (MQ below (va_Qi (fun (r : Int32) (u : Unit) => r = iI rn ∧ True) (fun (u : Unit) t => zB G [(b0, ob 6 [.ref b1, vI mc, .ref g0, .ref e0, vI rn, .ref f0, .ref w0, .ref u0, vI ll])] s.heap.size [(b0, ob 6 [.ref b1, vI mc, .ref g0, .ref e0, vI x, .ref f0, .ref w0, .ref u0, vI ll])] t) (va_A [(b0, ob 6 [.ref b1, vI mc, .ref g0, .ref e0, vI rn, .ref f0, .ref w0, .ref u0, vI ll])] s.heap.size)) ([.ref b0, vI x] : List Value).toArray s 0 0 (va_A [(b0, ob 6 [.ref b1, vI mc, .ref g0, .ref e0, vI rn, .ref f0, .ref w0, .ref u0, vI ll])] s.heap.size)) (F0 m 0 ls []) by rw [hHe, hLe] at hgo; exact hgo
  rw [← hHe] at hP
  have hS : va_S A s.heap H locs := by rw [hHe, hLe]; exact hS
  clear hHe hLe
  refine lv_iload_n hx hb dX6_reach_0 rfl (lv_at hl 1 rfl) ?_
  refine lv_iconst (v := iI 1) hx hb dX6_reach_1 rfl ?_
  refine z_icmp_lt (tgt := 11) hx hb dX6_reach_2 (by decide) (by omega) (fun c_2 => ?_) (fun c_2 => ?_)
  · exfalso; omega
  · refine lv_iload_n hx hb dX6_reach_5 rfl (lv_at hl 1 rfl) ?_
    refine lv_bipush (v := iI 23) hx hb dX6_reach_6 (by decide) ?_
    refine z_icmp_le (tgt := 21) hx hb dX6_reach_8 (by decide) (by omega) (fun c_8 => ?_) (fun c_8 => ?_)
    · refine lv_aload_n hx hb dX6_reach_21 rfl (lv_at hl 0 rfl) ?_
      refine z_get (v := vI rn) hC hK hP inX6 rfl 0 rfl 4 (by decide) tw_202 rfl dX6_reach_22 ?_
      refine lv_istore_n (lv' := [(2, vI rn), (0, .ref b0), (1, vI x)]) hx hb dX6_reach_25 rfl hl (by decide) rfl (fun ls hl => ?_)
      refine lv_aload_n hx hb dX6_reach_26 rfl (lv_at hl 1 rfl) ?_
      refine lv_iload_n hx hb dX6_reach_27 rfl (lv_at hl 2 rfl) ?_
      refine z_put (ws' := [(b0, ob 6 [.ref b1, vI mc, .ref g0, .ref e0, vI x, .ref f0, .ref w0, .ref u0, vI ll])]) hC hK hP hD hS inX6 tyX6 tyX6_ok nmX6 rfl 0 rfl 4 (by decide) tw_202 rfl rfl rfl (Nat.le_of_ble_eq_true rfl) rfl dX6_reach_28 (fun H locs hP hD hS => ?_)
      refine lv_iload_n hx hb dX6_reach_31 rfl (lv_at hl 0 rfl) ?_
      exact z_iretW hC hr hlk () hAe hP hD hS [0] (by decide) rfl rfl (⟨rfl, trivial⟩) dX6_reach_32
    · exfalso; omega

set_option maxRecDepth 100000 in
set_option maxHeartbeats 4000000 in
theorem c_X6_push_0 (l : Launch) (G : zGt) (sz : Nat) (b0 b1 g0 e0 f0 w0 u0 : Nat) (mc rn ll : Int) (e1 : Nat) (nh : Int) (hd : Int → Int) (x : Int) (hx0 : 0 ≤ x ∧ x < 256) (hnh : 0 ≤ nh ∧ nh < 36) : Met l yX6_push (Cond.code yX6_push cX6_push 2 (some .int) :: tb) ({ frames := 1, cells := 0, slots := 0, locals := 21 } : Room) (zPw G [(b0, ob 6 [.ref b1, vI mc, .ref g0, .ref e0, vI rn, .ref f0, .ref w0, .ref u0, vI ll]), (e0, ob 3 [.ref e1, vI nh]), (e1, aI G 36 hd)] sz [.ref b0, vI x]) (va_Qi (fun (r : Int32) (u : Unit) => r = iI (nh + 1) ∧ True) (fun (u : Unit) t => zB G [(b0, ob 6 [.ref b1, vI mc, .ref g0, .ref e0, vI rn, .ref f0, .ref w0, .ref u0, vI ll]), (e0, ob 3 [.ref e1, vI nh]), (e1, aI G 36 hd)] sz [(b0, ob 6 [.ref b1, vI mc, .ref g0, .ref e0, vI rn, .ref f0, .ref w0, .ref u0, vI ll]), (e0, ob 3 [.ref e1, vI (nh + 1)]), (e1, aI G 36 (zup hd nh x))] t) (va_A [(b0, ob 6 [.ref b1, vI mc, .ref g0, .ref e0, vI rn, .ref f0, .ref w0, .ref u0, vI ll]), (e0, ob 3 [.ref e1, vI nh]), (e1, aI G 36 hd)] sz)) 0 0 (va_A [(b0, ob 6 [.ref b1, vI mc, .ref g0, .ref e0, vI rn, .ref f0, .ref w0, .ref u0, vI ll]), (e0, ob 3 [.ref e1, vI nh]), (e1, aI G 36 hd)] sz) := by
  refine Met.ofW (cc := cX6_push) (maxL := 2) (ret := (some .int)) (by decide) rfl ?_
  intro p e s m args below meth c s₁ B hml hv
  obtain ⟨rfl, hsz, hP, hK, hD0⟩ := hv
  subst hsz
  have hD := hD0.self (sz := s.heap.size)
  obtain ⟨A, hAe⟩ : ∃ A : Nat → Prop, A = va_A [(b0, ob 6 [.ref b1, vI mc, .ref g0, .ref e0, vI rn, .ref f0, .ref w0, .ref u0, vI ll]), (e0, ob 3 [.ref e1, vI nh]), (e1, aI G 36 hd)] s.heap.size := ⟨_, rfl⟩
  rw [← hAe] at hD
  have hA : ∀ q : Nat, s.heap.size ≤ q → A q := fun q h => by rw [hAe]; exact Or.inr h
  have hS : va_S A s.heap s.heap [] := va_S.rf
  obtain ⟨hC, hr, hlk⟩ := z_begin B hml
  have hC : CallFix p m c cX6_push 2 s _ tb RX6 := hC
  have hx := hC.1
  have hb := hC.2.1
  have hl := lv_entry ([.ref b0, vI x]) (n := 2) (Nat.le_of_ble_eq_true rfl)
  rw [lg_entry_eq]
  generalize (lg_sl ([.ref b0, vI x]) ++ List.replicate (2 - (lg_sl ([.ref b0, vI x])).length) Slot.unset).toArray = ls at hl ⊢
  have hl : lv_has ls 2 [(0, .ref b0), (1, vI x)] := hl
  obtain ⟨H, hHe⟩ : ∃ H : Heap, H = s.heap := ⟨_, rfl⟩
  obtain ⟨locs, hLe⟩ : ∃ L : List Loc, L = [] := ⟨_, rfl⟩
  suffices hgo : W p l e (headSpec (Cond.code yX6_push cX6_push 2 (some .int) :: tb) ({ frames := 1, cells := 0, slots := 0, locals := 21 } : Room)).room s m ([.ref b0, vI x] : List Value).toArray below meth c H locs 0 0 (MQ below (va_Qi (fun (r : Int32) (u : Unit) => r = iI (nh + 1) ∧ True) (fun (u : Unit) t => zB G [(b0, ob 6 [.ref b1, vI mc, .ref g0, .ref e0, vI rn, .ref f0, .ref w0, .ref u0, vI ll]), (e0, ob 3 [.ref e1, vI nh]), (e1, aI G 36 hd)] s.heap.size [(b0, ob 6 [.ref b1, vI mc, .ref g0, .ref e0, vI rn, .ref f0, .ref w0, .ref u0, vI ll]), (e0, ob 3 [.ref e1, vI (nh + 1)]), (e1, aI G 36 (zup hd nh x))] t) (va_A [(b0, ob 6 [.ref b1, vI mc, .ref g0, .ref e0, vI rn, .ref f0, .ref w0, .ref u0, vI ll]), (e0, ob 3 [.ref e1, vI nh]), (e1, aI G 36 hd)] s.heap.size)) ([.ref b0, vI x] : List Value).toArray s 0 0 (va_A [(b0, ob 6 [.ref b1, vI mc, .ref g0, .ref e0, vI rn, .ref f0, .ref w0, .ref u0, vI ll]), (e0, ob 3 [.ref e1, vI nh]), (e1, aI G 36 hd)] s.heap.size)) (F0 m 0 ls []) by rw [hHe, hLe] at hgo; exact hgo
  rw [← hHe] at hP
  have hS : va_S A s.heap H locs := by rw [hHe, hLe]; exact hS
  clear hHe hLe
  refine lv_iload_n hx hb dX6_push_0 rfl (lv_at hl 1 rfl) ?_
  refine z_rSi (rest := []) hC hK hP (c_X6_isByte l G x (by omega)) ms_X6_isByte tw_471 [] rfl rfl hl.1 rfl (Nat.le_of_ble_eq_true rfl) ⟨rfl, rfl, Nat.le_of_ble_eq_true rfl, Nat.le_of_ble_eq_true rfl⟩ ⟨Nat.le_of_ble_eq_true rfl, Nat.le_of_ble_eq_true rfl⟩ dX6_push_1 ?_
  refine z_top (y := 1) (if_pos (by omega)) ?_
  refine z_if_ne (tgt := 17) hx hb dX6_push_4 (by decide) (by omega) (fun c_4 => ?_) (fun c_4 => ?_)
  · refine lv_aload_n hx hb dX6_push_17 rfl (lv_at hl 0 rfl) ?_
    refine z_get (v := .ref e0) hC hK hP inX6 rfl 0 rfl 3 (by decide) tw_201 rfl dX6_push_18 ?_
    refine lv_iload_n hx hb dX6_push_21 rfl (lv_at hl 1 rfl) ?_
    refine z_wVi (q0 := 1) (ci := 3) (b := e0) (rest := []) (wr := [(b0, ob 6 [.ref b1, vI mc, .ref g0, .ref e0, vI rn, .ref f0, .ref w0, .ref u0, vI ll])]) hC hK hP hD hS hA (c_X3_add l G H.size e0 e1 nh hd x (by omega)) mv_X3_add tw_679 [1, 2] [0] rfl rfl rfl rfl (by decide) rfl rfl rfl rfl hl.1 rfl (Nat.le_of_ble_eq_true rfl) ⟨rfl, rfl, Nat.le_of_ble_eq_true rfl, Nat.le_of_ble_eq_true rfl⟩ ⟨Nat.le_of_ble_eq_true rfl, Nat.le_of_ble_eq_true rfl⟩ dX6_push_22 (fun r u H locs hw hP hD hS => ?_)
    obtain ⟨r'_1, n'_1, h'_1⟩ := u
    dsimp only at hw hP hD
    have hP : va_P G.1 vwCl [(b0, ob 6 [.ref b1, vI mc, .ref g0, .ref e0, vI rn, .ref f0, .ref w0, .ref u0, vI ll]), (e0, ob 3 [.ref e1, vI n'_1]), (e1, aI G 36 h'_1)] H := hP
    have hD : va_D A [(b0, ob 6 [.ref b1, vI mc, .ref g0, .ref e0, vI rn, .ref f0, .ref w0, .ref u0, vI ll]), (e0, ob 3 [.ref e1, vI n'_1]), (e1, aI G 36 h'_1)] := hD
    obtain ⟨hrw_, hw_1⟩ := hw
    rw [hrw_]
    clear hrw_
    obtain ⟨q1, q2, q3⟩ := hw_1.1 hnh.2
    have hP : va_P G.1 vwCl [(b0, ob 6 [.ref b1, vI mc, .ref g0, .ref e0, vI rn, .ref f0, .ref w0, .ref u0, vI ll]), (e0, ob 3 [.ref e1, vI (nh + 1)]), (e1, aI G 36 (zup hd nh x))] H := by rw [← q2, ← q3]; exact hP
    have hD : va_D A [(b0, ob 6 [.ref b1, vI mc, .ref g0, .ref e0, vI rn, .ref f0, .ref w0, .ref u0, vI ll]), (e0, ob 3 [.ref e1, vI (nh + 1)]), (e1, aI G 36 (zup hd nh x))] := by rw [← q2, ← q3]; exact hD
    exact z_iretW hC hr hlk () hAe hP hD hS [0, 1, 2] (by decide) rfl rfl (⟨congrArg iI q1, trivial⟩) dX6_push_25
  · exact absurd c_4 (by decide)

set_option maxRecDepth 100000 in
set_option maxHeartbeats 4000000 in
theorem c_X6_push_n (l : Launch) (G : zGt) (sz : Nat) (b0 b1 g0 e0 f0 w0 u0 : Nat) (mc rn ll : Int) (e1 : Nat) (nh : Int) (hd : Int → Int) (x : Int) (hx0 : 0 ≤ x ∧ x < 256) (hnh : nh = 36) : Met l yX6_push (Cond.code yX6_push cX6_push 2 (some .int) :: tb) ({ frames := 1, cells := 0, slots := 0, locals := 21 } : Room) (zPw G [(b0, ob 6 [.ref b1, vI mc, .ref g0, .ref e0, vI rn, .ref f0, .ref w0, .ref u0, vI ll]), (e0, ob 3 [.ref e1, vI nh]), (e1, aI G 36 hd)] sz [.ref b0, vI x]) (va_Qi (fun (r : Int32) (u : Unit) => r = iI (-1) ∧ True) (fun (u : Unit) t => zB G [(b0, ob 6 [.ref b1, vI mc, .ref g0, .ref e0, vI rn, .ref f0, .ref w0, .ref u0, vI ll]), (e0, ob 3 [.ref e1, vI nh]), (e1, aI G 36 hd)] sz [(b0, ob 6 [.ref b1, vI mc, .ref g0, .ref e0, vI rn, .ref f0, .ref w0, .ref u0, vI ll]), (e0, ob 3 [.ref e1, vI nh]), (e1, aI G 36 hd)] t) (va_A [(b0, ob 6 [.ref b1, vI mc, .ref g0, .ref e0, vI rn, .ref f0, .ref w0, .ref u0, vI ll]), (e0, ob 3 [.ref e1, vI nh]), (e1, aI G 36 hd)] sz)) 0 0 (va_A [(b0, ob 6 [.ref b1, vI mc, .ref g0, .ref e0, vI rn, .ref f0, .ref w0, .ref u0, vI ll]), (e0, ob 3 [.ref e1, vI nh]), (e1, aI G 36 hd)] sz) := by
  refine Met.ofW (cc := cX6_push) (maxL := 2) (ret := (some .int)) (by decide) rfl ?_
  intro p e s m args below meth c s₁ B hml hv
  obtain ⟨rfl, hsz, hP, hK, hD0⟩ := hv
  subst hsz
  have hD := hD0.self (sz := s.heap.size)
  obtain ⟨A, hAe⟩ : ∃ A : Nat → Prop, A = va_A [(b0, ob 6 [.ref b1, vI mc, .ref g0, .ref e0, vI rn, .ref f0, .ref w0, .ref u0, vI ll]), (e0, ob 3 [.ref e1, vI nh]), (e1, aI G 36 hd)] s.heap.size := ⟨_, rfl⟩
  rw [← hAe] at hD
  have hA : ∀ q : Nat, s.heap.size ≤ q → A q := fun q h => by rw [hAe]; exact Or.inr h
  have hS : va_S A s.heap s.heap [] := va_S.rf
  obtain ⟨hC, hr, hlk⟩ := z_begin B hml
  have hC : CallFix p m c cX6_push 2 s _ tb RX6 := hC
  have hx := hC.1
  have hb := hC.2.1
  have hl := lv_entry ([.ref b0, vI x]) (n := 2) (Nat.le_of_ble_eq_true rfl)
  rw [lg_entry_eq]
  generalize (lg_sl ([.ref b0, vI x]) ++ List.replicate (2 - (lg_sl ([.ref b0, vI x])).length) Slot.unset).toArray = ls at hl ⊢
  have hl : lv_has ls 2 [(0, .ref b0), (1, vI x)] := hl
  obtain ⟨H, hHe⟩ : ∃ H : Heap, H = s.heap := ⟨_, rfl⟩
  obtain ⟨locs, hLe⟩ : ∃ L : List Loc, L = [] := ⟨_, rfl⟩
  suffices hgo : W p l e (headSpec (Cond.code yX6_push cX6_push 2 (some .int) :: tb) ({ frames := 1, cells := 0, slots := 0, locals := 21 } : Room)).room s m ([.ref b0, vI x] : List Value).toArray below meth c H locs 0 0 (MQ below (va_Qi (fun (r : Int32) (u : Unit) => r = iI (-1) ∧ True) (fun (u : Unit) t => zB G [(b0, ob 6 [.ref b1, vI mc, .ref g0, .ref e0, vI rn, .ref f0, .ref w0, .ref u0, vI ll]), (e0, ob 3 [.ref e1, vI nh]), (e1, aI G 36 hd)] s.heap.size [(b0, ob 6 [.ref b1, vI mc, .ref g0, .ref e0, vI rn, .ref f0, .ref w0, .ref u0, vI ll]), (e0, ob 3 [.ref e1, vI nh]), (e1, aI G 36 hd)] t) (va_A [(b0, ob 6 [.ref b1, vI mc, .ref g0, .ref e0, vI rn, .ref f0, .ref w0, .ref u0, vI ll]), (e0, ob 3 [.ref e1, vI nh]), (e1, aI G 36 hd)] s.heap.size)) ([.ref b0, vI x] : List Value).toArray s 0 0 (va_A [(b0, ob 6 [.ref b1, vI mc, .ref g0, .ref e0, vI rn, .ref f0, .ref w0, .ref u0, vI ll]), (e0, ob 3 [.ref e1, vI nh]), (e1, aI G 36 hd)] s.heap.size)) (F0 m 0 ls []) by rw [hHe, hLe] at hgo; exact hgo
  rw [← hHe] at hP
  have hS : va_S A s.heap H locs := by rw [hHe, hLe]; exact hS
  clear hHe hLe
  refine lv_iload_n hx hb dX6_push_0 rfl (lv_at hl 1 rfl) ?_
  refine z_rSi (rest := []) hC hK hP (c_X6_isByte l G x (by omega)) ms_X6_isByte tw_471 [] rfl rfl hl.1 rfl (Nat.le_of_ble_eq_true rfl) ⟨rfl, rfl, Nat.le_of_ble_eq_true rfl, Nat.le_of_ble_eq_true rfl⟩ ⟨Nat.le_of_ble_eq_true rfl, Nat.le_of_ble_eq_true rfl⟩ dX6_push_1 ?_
  refine z_top (y := 1) (if_pos (by omega)) ?_
  refine z_if_ne (tgt := 17) hx hb dX6_push_4 (by decide) (by omega) (fun c_4 => ?_) (fun c_4 => ?_)
  · refine lv_aload_n hx hb dX6_push_17 rfl (lv_at hl 0 rfl) ?_
    refine z_get (v := .ref e0) hC hK hP inX6 rfl 0 rfl 3 (by decide) tw_201 rfl dX6_push_18 ?_
    refine lv_iload_n hx hb dX6_push_21 rfl (lv_at hl 1 rfl) ?_
    refine z_wVi (q0 := 1) (ci := 3) (b := e0) (rest := []) (wr := [(b0, ob 6 [.ref b1, vI mc, .ref g0, .ref e0, vI rn, .ref f0, .ref w0, .ref u0, vI ll])]) hC hK hP hD hS hA (c_X3_add l G H.size e0 e1 nh hd x (by omega)) mv_X3_add tw_679 [1, 2] [0] rfl rfl rfl rfl (by decide) rfl rfl rfl rfl hl.1 rfl (Nat.le_of_ble_eq_true rfl) ⟨rfl, rfl, Nat.le_of_ble_eq_true rfl, Nat.le_of_ble_eq_true rfl⟩ ⟨Nat.le_of_ble_eq_true rfl, Nat.le_of_ble_eq_true rfl⟩ dX6_push_22 (fun r u H locs hw hP hD hS => ?_)
    obtain ⟨r'_1, n'_1, h'_1⟩ := u
    dsimp only at hw hP hD
    have hP : va_P G.1 vwCl [(b0, ob 6 [.ref b1, vI mc, .ref g0, .ref e0, vI rn, .ref f0, .ref w0, .ref u0, vI ll]), (e0, ob 3 [.ref e1, vI n'_1]), (e1, aI G 36 h'_1)] H := hP
    have hD : va_D A [(b0, ob 6 [.ref b1, vI mc, .ref g0, .ref e0, vI rn, .ref f0, .ref w0, .ref u0, vI ll]), (e0, ob 3 [.ref e1, vI n'_1]), (e1, aI G 36 h'_1)] := hD
    obtain ⟨hrw_, hw_1⟩ := hw
    rw [hrw_]
    clear hrw_
    obtain ⟨q1, q2, q3⟩ := hw_1.2 (by omega)
    have hP : va_P G.1 vwCl [(b0, ob 6 [.ref b1, vI mc, .ref g0, .ref e0, vI rn, .ref f0, .ref w0, .ref u0, vI ll]), (e0, ob 3 [.ref e1, vI nh]), (e1, aI G 36 hd)] H := by rw [q2, q3] at hP; exact hP
    have hD : va_D A [(b0, ob 6 [.ref b1, vI mc, .ref g0, .ref e0, vI rn, .ref f0, .ref w0, .ref u0, vI ll]), (e0, ob 3 [.ref e1, vI nh]), (e1, aI G 36 hd)] := by rw [q2, q3] at hD; exact hD
    exact z_iretW hC hr hlk () hAe hP hD hS [0, 1, 2] (by decide) rfl rfl (⟨congrArg iI q1, trivial⟩) dX6_push_25
  · exact absurd c_4 (by decide)

set_option maxRecDepth 100000 in
set_option maxHeartbeats 4000000 in
theorem c_X6_check_0 (l : Launch) (G : zGt) (b0 b1 g0 e0 f0 w0 u0 : Nat) (mc rn ll : Int) (MK : Int → Option Nat) (m0 m1 : Nat) (a1 a2 kd gl ed : Int) (T : Int → Int) (e1 : Nat) (nh : Int) (hd : Int → Int) (x : Int) (hx0 : 0 ≤ x ∧ x < 6) (hmk : MK x = some m0) (hnh : 0 ≤ nh ∧ nh ≤ 36) (hkd : 0 ≤ kd ∧ kd < 3) : Met l yX6_check (Cond.code yX6_check cX6_check 2 (some .int) :: tb) ({ frames := 3, cells := 0, slots := 0, locals := 67 } : Room) (zPr G [(b0, ob 6 [.ref b1, vI mc, .ref g0, .ref e0, vI rn, .ref f0, .ref w0, .ref u0, vI ll]), (b1, aR G 6 MK), (m0, ob 4 [vI a1, vI a2, vI kd, vI gl, vI ed, .ref m1]), (m1, aI G 4096 T), (e0, ob 3 [.ref e1, vI nh]), (e1, aI G 36 hd)] [.ref b0, vI x]) (vp_Si (fun r => r = iI (ckF kd (txA a1 a2 nh hd) (3 + nh).toNat))) 0 0 (fun _ => False) := by
  refine Met.ofW (cc := cX6_check) (maxL := 2) (ret := (some .int)) (by decide) rfl ?_
  intro p e s m args below meth c s₁ B hml hv
  obtain ⟨rfl, hP, hK⟩ := hv
  obtain ⟨hC, hr, hlk⟩ := z_begin B hml
  have hC : CallFix p m c cX6_check 2 s _ tb RX6 := hC
  have hx := hC.1
  have hb := hC.2.1
  have hl := lv_entry ([.ref b0, vI x]) (n := 2) (Nat.le_of_ble_eq_true rfl)
  rw [lg_entry_eq]
  generalize (lg_sl ([.ref b0, vI x]) ++ List.replicate (2 - (lg_sl ([.ref b0, vI x])).length) Slot.unset).toArray = ls at hl ⊢
  have hl : lv_has ls 2 [(0, .ref b0), (1, vI x)] := hl
  refine lv_aload_n hx hb dX6_check_0 rfl (lv_at hl 0 rfl) ?_
  refine z_get (v := .ref e0) hC hK hP inX6 rfl 0 rfl 3 (by decide) tw_201 rfl dX6_check_1 ?_
  refine lv_aload_n hx hb dX6_check_4 rfl (lv_at hl 0 rfl) ?_
  refine lv_iload_n hx hb dX6_check_5 rfl (lv_at hl 1 rfl) ?_
  refine z_rVr (q0 := 0) (ci := 6) (b := b0) (rest := [.ref e0]) hC hK hP (c_X6_neededMake l G b0 b1 g0 e0 f0 w0 u0 mc rn ll MK x m0 (by omega) (hmk)) mv_X6_neededMake tw_591 [0, 1] rfl rfl rfl rfl hl.1 rfl (Nat.le_of_ble_eq_true rfl) ⟨rfl, rfl, Nat.le_of_ble_eq_true rfl, Nat.le_of_ble_eq_true rfl⟩ ⟨Nat.le_of_ble_eq_true rfl, Nat.le_of_ble_eq_true rfl⟩ dX6_check_6 ?_
  refine z_rVi (q0 := 4) (ci := 3) (b := e0) (rest := []) hC hK hP (c_X3_checkByte l G e0 e1 nh hd m0 m1 a1 a2 kd gl ed T (by omega) (by omega)) mv_X3_checkByte tw_785 [4, 5, 2, 3] rfl rfl rfl rfl hl.1 rfl (Nat.le_of_ble_eq_true rfl) ⟨rfl, rfl, Nat.le_of_ble_eq_true rfl, Nat.le_of_ble_eq_true rfl⟩ ⟨Nat.le_of_ble_eq_true rfl, Nat.le_of_ble_eq_true rfl⟩ dX6_check_9 ?_
  exact z_iretR hC hr hlk (rfl) dX6_check_12

set_option maxRecDepth 100000 in
set_option maxHeartbeats 4000000 in
theorem c_X6_write_n (l : Launch) (G : zGt) (b0 b1 g0 e0 f0 w0 u0 : Nat) (mc rn ll : Int) (MK : Int → Option Nat) (m0 m1 : Nat) (a1 a2 kd gl ed : Int) (T : Int → Int) (g1 : Nat) (nb : Int) (dk : Int → Int64) (e1 : Nat) (nh : Int) (hd : Int → Int) (x : Int) (hx0 : 0 ≤ x ∧ x < 6) (hmk : MK x = some m0) (hnh : 0 ≤ nh ∧ nh ≤ 36) (hhd : ∀ j : Int, 0 ≤ j ∧ j < nh → 0 ≤ hd j ∧ hd j < 256) (hT : ∀ j : Int, 0 ≤ j ∧ j < 4096 → 0 ≤ T j ∧ T j < 65536) (hkd : 0 ≤ kd ∧ kd < 3) (hnb : 0 ≤ nb ∧ nb ≤ 24) (hri : zand (runS T hd nh.toNat) gl = 0) : Met l yX6_write (Cond.code yX6_write cX6_write 6 (some .int) :: tb) ({ frames := 2, cells := 0, slots := 0, locals := 49 } : Room) (zPr G [(b0, ob 6 [.ref b1, vI mc, .ref g0, .ref e0, vI rn, .ref f0, .ref w0, .ref u0, vI ll]), (b1, aR G 6 MK), (m0, ob 4 [vI a1, vI a2, vI kd, vI gl, vI ed, .ref m1]), (m1, aI G 4096 T), (g0, ob 1 [.ref g1, vI nb]), (g1, aJ G 24 dk), (e0, ob 3 [.ref e1, vI nh]), (e1, aI G 36 hd)] [.ref b0, vI x]) (vp_Si (fun r => r = iI (-1))) 0 0 (fun _ => False) := by
  refine Met.ofW (cc := cX6_write) (maxL := 6) (ret := (some .int)) (by decide) rfl ?_
  intro p e s m args below meth c s₁ B hml hv
  obtain ⟨rfl, hP, hK⟩ := hv
  obtain ⟨hC, hr, hlk⟩ := z_begin B hml
  have hC : CallFix p m c cX6_write 6 s _ tb RX6 := hC
  have hx := hC.1
  have hb := hC.2.1
  have hl := lv_entry ([.ref b0, vI x]) (n := 6) (Nat.le_of_ble_eq_true rfl)
  rw [lg_entry_eq]
  generalize (lg_sl ([.ref b0, vI x]) ++ List.replicate (6 - (lg_sl ([.ref b0, vI x])).length) Slot.unset).toArray = ls at hl ⊢
  have hl : lv_has ls 6 [(0, .ref b0), (1, vI x)] := hl
  refine lv_aload_n hx hb dX6_write_0 rfl (lv_at hl 0 rfl) ?_
  refine lv_iload_n hx hb dX6_write_1 rfl (lv_at hl 1 rfl) ?_
  refine z_rVr (q0 := 0) (ci := 6) (b := b0) (rest := []) hC hK hP (c_X6_neededMake l G b0 b1 g0 e0 f0 w0 u0 mc rn ll MK x m0 (by omega) (hmk)) mv_X6_neededMake tw_591 [0, 1] rfl rfl rfl rfl hl.1 rfl (Nat.le_of_ble_eq_true rfl) ⟨rfl, rfl, Nat.le_of_ble_eq_true rfl, Nat.le_of_ble_eq_true rfl⟩ ⟨Nat.le_of_ble_eq_true rfl, Nat.le_of_ble_eq_true rfl⟩ dX6_write_2 ?_
  refine lv_astore_n (lv' := [(2, .ref m0), (0, .ref b0), (1, vI x)]) hx hb dX6_write_5 rfl hl (by decide) rfl (fun ls hl => ?_)
  refine lv_aload_n hx hb dX6_write_6 rfl (lv_at hl 1 rfl) ?_
  refine z_get (v := .ref e0) hC hK hP inX6 rfl 0 rfl 3 (by decide) tw_201 rfl dX6_write_7 ?_
  refine lv_aload_n hx hb dX6_write_10 rfl (lv_at hl 0 rfl) ?_
  refine z_rVi (q0 := 6) (ci := 3) (b := e0) (rest := []) hC hK hP (c_X3_isRightFor l G e0 e1 nh hd m0 m1 a1 a2 kd gl ed T (by omega) (hhd) (hT)) mv_X3_isRightFor tw_690 [6, 7, 2, 3] rfl rfl rfl rfl hl.1 rfl (Nat.le_of_ble_eq_true rfl) ⟨rfl, rfl, Nat.le_of_ble_eq_true rfl, Nat.le_of_ble_eq_true rfl⟩ ⟨Nat.le_of_ble_eq_true rfl, Nat.le_of_ble_eq_true rfl⟩ dX6_write_11 ?_
  refine z_top (y := 0) (if_pos hri) ?_
  refine z_if_ne (tgt := 19) hx hb dX6_write_14 (by decide) (by omega) (fun c_14 => ?_) (fun c_14 => ?_)
  · exact absurd c_14 (by decide)
  · refine lv_iconst (v := iI (-1)) hx hb dX6_write_17 rfl ?_
    exact z_iretR hC hr hlk (rfl) dX6_write_18

set_option maxRecDepth 100000 in
set_option maxHeartbeats 4000000 in
theorem c_X6_write_f (l : Launch) (G : zGt) (b0 b1 g0 e0 f0 w0 u0 : Nat) (mc rn ll : Int) (MK : Int → Option Nat) (m0 m1 : Nat) (a1 a2 kd gl ed : Int) (T : Int → Int) (g1 : Nat) (nb : Int) (dk : Int → Int64) (e1 : Nat) (nh : Int) (hd : Int → Int) (x : Int) (hx0 : 0 ≤ x ∧ x < 6) (hmk : MK x = some m0) (hnh : 0 ≤ nh ∧ nh ≤ 36) (hhd : ∀ j : Int, 0 ≤ j ∧ j < nh → 0 ≤ hd j ∧ hd j < 256) (hT : ∀ j : Int, 0 ≤ j ∧ j < 4096 → 0 ≤ T j ∧ T j < 65536) (hkd : 0 ≤ kd ∧ kd < 3) (hnb : 0 ≤ nb ∧ nb ≤ 24) (hri : zand (runS T hd nh.toNat) gl ≠ 0) (hfu : 24 < nb + (11 + nh) / 8) : Met l yX6_write (Cond.code yX6_write cX6_write 6 (some .int) :: tb) ({ frames := 2, cells := 0, slots := 0, locals := 49 } : Room) (zPr G [(b0, ob 6 [.ref b1, vI mc, .ref g0, .ref e0, vI rn, .ref f0, .ref w0, .ref u0, vI ll]), (b1, aR G 6 MK), (m0, ob 4 [vI a1, vI a2, vI kd, vI gl, vI ed, .ref m1]), (m1, aI G 4096 T), (g0, ob 1 [.ref g1, vI nb]), (g1, aJ G 24 dk), (e0, ob 3 [.ref e1, vI nh]), (e1, aI G 36 hd)] [.ref b0, vI x]) (vp_Si (fun r => r = iI (-2))) 0 0 (fun _ => False) := by
  refine Met.ofW (cc := cX6_write) (maxL := 6) (ret := (some .int)) (by decide) rfl ?_
  intro p e s m args below meth c s₁ B hml hv
  obtain ⟨rfl, hP, hK⟩ := hv
  obtain ⟨hC, hr, hlk⟩ := z_begin B hml
  have hC : CallFix p m c cX6_write 6 s _ tb RX6 := hC
  have hx := hC.1
  have hb := hC.2.1
  have hl := lv_entry ([.ref b0, vI x]) (n := 6) (Nat.le_of_ble_eq_true rfl)
  rw [lg_entry_eq]
  generalize (lg_sl ([.ref b0, vI x]) ++ List.replicate (6 - (lg_sl ([.ref b0, vI x])).length) Slot.unset).toArray = ls at hl ⊢
  have hl : lv_has ls 6 [(0, .ref b0), (1, vI x)] := hl
  refine lv_aload_n hx hb dX6_write_0 rfl (lv_at hl 0 rfl) ?_
  refine lv_iload_n hx hb dX6_write_1 rfl (lv_at hl 1 rfl) ?_
  refine z_rVr (q0 := 0) (ci := 6) (b := b0) (rest := []) hC hK hP (c_X6_neededMake l G b0 b1 g0 e0 f0 w0 u0 mc rn ll MK x m0 (by omega) (hmk)) mv_X6_neededMake tw_591 [0, 1] rfl rfl rfl rfl hl.1 rfl (Nat.le_of_ble_eq_true rfl) ⟨rfl, rfl, Nat.le_of_ble_eq_true rfl, Nat.le_of_ble_eq_true rfl⟩ ⟨Nat.le_of_ble_eq_true rfl, Nat.le_of_ble_eq_true rfl⟩ dX6_write_2 ?_
  refine lv_astore_n (lv' := [(2, .ref m0), (0, .ref b0), (1, vI x)]) hx hb dX6_write_5 rfl hl (by decide) rfl (fun ls hl => ?_)
  refine lv_aload_n hx hb dX6_write_6 rfl (lv_at hl 1 rfl) ?_
  refine z_get (v := .ref e0) hC hK hP inX6 rfl 0 rfl 3 (by decide) tw_201 rfl dX6_write_7 ?_
  refine lv_aload_n hx hb dX6_write_10 rfl (lv_at hl 0 rfl) ?_
  refine z_rVi (q0 := 6) (ci := 3) (b := e0) (rest := []) hC hK hP (c_X3_isRightFor l G e0 e1 nh hd m0 m1 a1 a2 kd gl ed T (by omega) (hhd) (hT)) mv_X3_isRightFor tw_690 [6, 7, 2, 3] rfl rfl rfl rfl hl.1 rfl (Nat.le_of_ble_eq_true rfl) ⟨rfl, rfl, Nat.le_of_ble_eq_true rfl, Nat.le_of_ble_eq_true rfl⟩ ⟨Nat.le_of_ble_eq_true rfl, Nat.le_of_ble_eq_true rfl⟩ dX6_write_11 ?_
  refine z_top (y := 1) (if_neg hri) ?_
  refine z_if_ne (tgt := 19) hx hb dX6_write_14 (by decide) (by omega) (fun c_14 => ?_) (fun c_14 => ?_)
  · refine lv_aload_n hx hb dX6_write_19 rfl (lv_at hl 1 rfl) ?_
    refine z_get (v := .ref g0) hC hK hP inX6 rfl 0 rfl 2 (by decide) tw_200 rfl dX6_write_20 ?_
    refine z_rVi (q0 := 4) (ci := 1) (b := g0) (rest := []) hC hK hP (c_X1_size l G g0 g1 nb dk) mv_X1_size tw_257 [4, 5] rfl rfl rfl rfl hl.1 rfl (Nat.le_of_ble_eq_true rfl) ⟨rfl, rfl, Nat.le_of_ble_eq_true rfl, Nat.le_of_ble_eq_true rfl⟩ ⟨Nat.le_of_ble_eq_true rfl, Nat.le_of_ble_eq_true rfl⟩ dX6_write_23 ?_
    refine lv_istore_n (lv' := [(3, vI nb), (2, .ref m0), (0, .ref b0), (1, vI x)]) hx hb dX6_write_26 rfl hl (by decide) rfl (fun ls hl => ?_)
    refine lv_aload_n hx hb dX6_write_27 rfl (lv_at hl 2 rfl) ?_
    refine z_get (v := .ref e0) hC hK hP inX6 rfl 0 rfl 3 (by decide) tw_201 rfl dX6_write_28 ?_
    refine z_rVi (q0 := 6) (ci := 3) (b := e0) (rest := []) hC hK hP (c_X3_size l G e0 e1 nh hd) mv_X3_size tw_458 [6, 7] rfl rfl rfl rfl hl.1 rfl (Nat.le_of_ble_eq_true rfl) ⟨rfl, rfl, Nat.le_of_ble_eq_true rfl, Nat.le_of_ble_eq_true rfl⟩ ⟨Nat.le_of_ble_eq_true rfl, Nat.le_of_ble_eq_true rfl⟩ dX6_write_31 ?_
    refine z_rSi (rest := []) hC hK hP (c_X6_blocksOf l G nh) ms_X6_blocksOf tw_696 [] rfl rfl hl.1 rfl (Nat.le_of_ble_eq_true rfl) ⟨rfl, rfl, Nat.le_of_ble_eq_true rfl, Nat.le_of_ble_eq_true rfl⟩ ⟨Nat.le_of_ble_eq_true rfl, Nat.le_of_ble_eq_true rfl⟩ dX6_write_34 ?_
    refine z_top (y := (11 + nh) / 8) (by rw [zdiv_nat (by omega) (by omega)]; omega) ?_
    refine lv_istore (lv' := [(4, vI ((11 + nh) / 8)), (3, vI nb), (2, .ref m0), (0, .ref b0), (1, vI x)]) hx hb dX6_write_37 hl (by decide) rfl (fun ls hl => ?_)
    refine lv_iload_n hx hb dX6_write_39 rfl (lv_at hl 1 rfl) ?_
    refine lv_iload hx hb dX6_write_40 (lv_at hl 0 rfl) ?_
    refine z_iadd hx hb dX6_write_42 ?_
    refine lv_bipush (v := iI 24) hx hb dX6_write_43 (by decide) ?_
    refine z_icmp_le (tgt := 51) hx hb dX6_write_45 (by decide) (by omega) (fun c_45 => ?_) (fun c_45 => ?_)
    · exfalso; omega
    · refine lv_bipush (v := iI (-2)) hx hb dX6_write_48 (by decide) ?_
      exact z_iretR hC hr hlk (rfl) dX6_write_50
  · exact absurd c_14 (by decide)

set_option maxRecDepth 100000 in
set_option maxHeartbeats 4000000 in
theorem c_X6_write_0 (l : Launch) (G : zGt) (sz : Nat) (b0 b1 g0 e0 f0 w0 u0 : Nat) (mc rn ll : Int) (MK : Int → Option Nat) (m0 m1 : Nat) (a1 a2 kd gl ed : Int) (T : Int → Int) (g1 : Nat) (nb : Int) (dk : Int → Int64) (e1 : Nat) (nh : Int) (hd : Int → Int) (x : Int) (hx0 : 0 ≤ x ∧ x < 6) (hmk : MK x = some m0) (hnh : 0 ≤ nh ∧ nh ≤ 36) (hhd : ∀ j : Int, 0 ≤ j ∧ j < nh → 0 ≤ hd j ∧ hd j < 256) (hT : ∀ j : Int, 0 ≤ j ∧ j < 4096 → 0 ≤ T j ∧ T j < 65536) (hkd : 0 ≤ kd ∧ kd < 3) (hnb : 0 ≤ nb ∧ nb ≤ 24) (hri : zand (runS T hd nh.toNat) gl ≠ 0) (hfu : nb + (11 + nh) / 8 ≤ 24) : Met l yX6_write (Cond.code yX6_write cX6_write 6 (some .int) :: tb) ({ frames := 5, cells := 0, slots := 0, locals := 114 } : Room) (zPw G [(b0, ob 6 [.ref b1, vI mc, .ref g0, .ref e0, vI rn, .ref f0, .ref w0, .ref u0, vI ll]), (b1, aR G 6 MK), (m0, ob 4 [vI a1, vI a2, vI kd, vI gl, vI ed, .ref m1]), (m1, aI G 4096 T), (g0, ob 1 [.ref g1, vI nb]), (g1, aJ G 24 dk), (e0, ob 3 [.ref e1, vI nh]), (e1, aI G 36 hd)] sz [.ref b0, vI x]) (va_Qi (fun (r : Int32) (u : Unit) => r = iI nb ∧ True) (fun (u : Unit) t => zB G [(b0, ob 6 [.ref b1, vI mc, .ref g0, .ref e0, vI rn, .ref f0, .ref w0, .ref u0, vI ll]), (b1, aR G 6 MK), (m0, ob 4 [vI a1, vI a2, vI kd, vI gl, vI ed, .ref m1]), (m1, aI G 4096 T), (g0, ob 1 [.ref g1, vI nb]), (g1, aJ G 24 dk), (e0, ob 3 [.ref e1, vI nh]), (e1, aI G 36 hd)] sz [(b0, ob 6 [.ref b1, vI mc, .ref g0, .ref e0, vI rn, .ref f0, .ref w0, .ref u0, vI ll]), (b1, aR G 6 MK), (m0, ob 4 [vI a1, vI a2, vI kd, vI gl, vI ed, .ref m1]), (m1, aI G 4096 T), (g0, ob 1 [.ref g1, vI (nb + (11 + nh) / 8)]), (g1, aJ G 24 (wrF dk nb ((11 + nh) / 8) (txF kd a1 a2 nh hd))), (e0, ob 3 [.ref e1, vI 0]), (e1, aI G 36 hd)] t) (va_A [(b0, ob 6 [.ref b1, vI mc, .ref g0, .ref e0, vI rn, .ref f0, .ref w0, .ref u0, vI ll]), (b1, aR G 6 MK), (m0, ob 4 [vI a1, vI a2, vI kd, vI gl, vI ed, .ref m1]), (m1, aI G 4096 T), (g0, ob 1 [.ref g1, vI nb]), (g1, aJ G 24 dk), (e0, ob 3 [.ref e1, vI nh]), (e1, aI G 36 hd)] sz)) 0 0 (va_A [(b0, ob 6 [.ref b1, vI mc, .ref g0, .ref e0, vI rn, .ref f0, .ref w0, .ref u0, vI ll]), (b1, aR G 6 MK), (m0, ob 4 [vI a1, vI a2, vI kd, vI gl, vI ed, .ref m1]), (m1, aI G 4096 T), (g0, ob 1 [.ref g1, vI nb]), (g1, aJ G 24 dk), (e0, ob 3 [.ref e1, vI nh]), (e1, aI G 36 hd)] sz) := by
  refine Met.ofW (cc := cX6_write) (maxL := 6) (ret := (some .int)) (by decide) rfl ?_
  intro p e s m args below meth c s₁ B hml hv
  obtain ⟨rfl, hsz, hP, hK, hD0⟩ := hv
  subst hsz
  have hD := hD0.self (sz := s.heap.size)
  obtain ⟨A, hAe⟩ : ∃ A : Nat → Prop, A = va_A [(b0, ob 6 [.ref b1, vI mc, .ref g0, .ref e0, vI rn, .ref f0, .ref w0, .ref u0, vI ll]), (b1, aR G 6 MK), (m0, ob 4 [vI a1, vI a2, vI kd, vI gl, vI ed, .ref m1]), (m1, aI G 4096 T), (g0, ob 1 [.ref g1, vI nb]), (g1, aJ G 24 dk), (e0, ob 3 [.ref e1, vI nh]), (e1, aI G 36 hd)] s.heap.size := ⟨_, rfl⟩
  rw [← hAe] at hD
  have hA : ∀ q : Nat, s.heap.size ≤ q → A q := fun q h => by rw [hAe]; exact Or.inr h
  have hS : va_S A s.heap s.heap [] := va_S.rf
  obtain ⟨hC, hr, hlk⟩ := z_begin B hml
  have hC : CallFix p m c cX6_write 6 s _ tb RX6 := hC
  have hx := hC.1
  have hb := hC.2.1
  have hl := lv_entry ([.ref b0, vI x]) (n := 6) (Nat.le_of_ble_eq_true rfl)
  rw [lg_entry_eq]
  generalize (lg_sl ([.ref b0, vI x]) ++ List.replicate (6 - (lg_sl ([.ref b0, vI x])).length) Slot.unset).toArray = ls at hl ⊢
  have hl : lv_has ls 6 [(0, .ref b0), (1, vI x)] := hl
  obtain ⟨H, hHe⟩ : ∃ H : Heap, H = s.heap := ⟨_, rfl⟩
  obtain ⟨locs, hLe⟩ : ∃ L : List Loc, L = [] := ⟨_, rfl⟩
  suffices hgo : W p l e (headSpec (Cond.code yX6_write cX6_write 6 (some .int) :: tb) ({ frames := 5, cells := 0, slots := 0, locals := 114 } : Room)).room s m ([.ref b0, vI x] : List Value).toArray below meth c H locs 0 0 (MQ below (va_Qi (fun (r : Int32) (u : Unit) => r = iI nb ∧ True) (fun (u : Unit) t => zB G [(b0, ob 6 [.ref b1, vI mc, .ref g0, .ref e0, vI rn, .ref f0, .ref w0, .ref u0, vI ll]), (b1, aR G 6 MK), (m0, ob 4 [vI a1, vI a2, vI kd, vI gl, vI ed, .ref m1]), (m1, aI G 4096 T), (g0, ob 1 [.ref g1, vI nb]), (g1, aJ G 24 dk), (e0, ob 3 [.ref e1, vI nh]), (e1, aI G 36 hd)] s.heap.size [(b0, ob 6 [.ref b1, vI mc, .ref g0, .ref e0, vI rn, .ref f0, .ref w0, .ref u0, vI ll]), (b1, aR G 6 MK), (m0, ob 4 [vI a1, vI a2, vI kd, vI gl, vI ed, .ref m1]), (m1, aI G 4096 T), (g0, ob 1 [.ref g1, vI (nb + (11 + nh) / 8)]), (g1, aJ G 24 (wrF dk nb ((11 + nh) / 8) (txF kd a1 a2 nh hd))), (e0, ob 3 [.ref e1, vI 0]), (e1, aI G 36 hd)] t) (va_A [(b0, ob 6 [.ref b1, vI mc, .ref g0, .ref e0, vI rn, .ref f0, .ref w0, .ref u0, vI ll]), (b1, aR G 6 MK), (m0, ob 4 [vI a1, vI a2, vI kd, vI gl, vI ed, .ref m1]), (m1, aI G 4096 T), (g0, ob 1 [.ref g1, vI nb]), (g1, aJ G 24 dk), (e0, ob 3 [.ref e1, vI nh]), (e1, aI G 36 hd)] s.heap.size)) ([.ref b0, vI x] : List Value).toArray s 0 0 (va_A [(b0, ob 6 [.ref b1, vI mc, .ref g0, .ref e0, vI rn, .ref f0, .ref w0, .ref u0, vI ll]), (b1, aR G 6 MK), (m0, ob 4 [vI a1, vI a2, vI kd, vI gl, vI ed, .ref m1]), (m1, aI G 4096 T), (g0, ob 1 [.ref g1, vI nb]), (g1, aJ G 24 dk), (e0, ob 3 [.ref e1, vI nh]), (e1, aI G 36 hd)] s.heap.size)) (F0 m 0 ls []) by rw [hHe, hLe] at hgo; exact hgo
  rw [← hHe] at hP
  have hS : va_S A s.heap H locs := by rw [hHe, hLe]; exact hS
  clear hHe hLe
  refine lv_aload_n hx hb dX6_write_0 rfl (lv_at hl 0 rfl) ?_
  refine lv_iload_n hx hb dX6_write_1 rfl (lv_at hl 1 rfl) ?_
  refine z_rVr (q0 := 0) (ci := 6) (b := b0) (rest := []) hC hK hP (c_X6_neededMake l G b0 b1 g0 e0 f0 w0 u0 mc rn ll MK x m0 (by omega) (hmk)) mv_X6_neededMake tw_591 [0, 1] rfl rfl rfl rfl hl.1 rfl (Nat.le_of_ble_eq_true rfl) ⟨rfl, rfl, Nat.le_of_ble_eq_true rfl, Nat.le_of_ble_eq_true rfl⟩ ⟨Nat.le_of_ble_eq_true rfl, Nat.le_of_ble_eq_true rfl⟩ dX6_write_2 ?_
  refine lv_astore_n (lv' := [(2, .ref m0), (0, .ref b0), (1, vI x)]) hx hb dX6_write_5 rfl hl (by decide) rfl (fun ls hl => ?_)
  refine lv_aload_n hx hb dX6_write_6 rfl (lv_at hl 1 rfl) ?_
  refine z_get (v := .ref e0) hC hK hP inX6 rfl 0 rfl 3 (by decide) tw_201 rfl dX6_write_7 ?_
  refine lv_aload_n hx hb dX6_write_10 rfl (lv_at hl 0 rfl) ?_
  refine z_rVi (q0 := 6) (ci := 3) (b := e0) (rest := []) hC hK hP (c_X3_isRightFor l G e0 e1 nh hd m0 m1 a1 a2 kd gl ed T (by omega) (hhd) (hT)) mv_X3_isRightFor tw_690 [6, 7, 2, 3] rfl rfl rfl rfl hl.1 rfl (Nat.le_of_ble_eq_true rfl) ⟨rfl, rfl, Nat.le_of_ble_eq_true rfl, Nat.le_of_ble_eq_true rfl⟩ ⟨Nat.le_of_ble_eq_true rfl, Nat.le_of_ble_eq_true rfl⟩ dX6_write_11 ?_
  refine z_top (y := 1) (if_neg hri) ?_
  refine z_if_ne (tgt := 19) hx hb dX6_write_14 (by decide) (by omega) (fun c_14 => ?_) (fun c_14 => ?_)
  · refine lv_aload_n hx hb dX6_write_19 rfl (lv_at hl 1 rfl) ?_
    refine z_get (v := .ref g0) hC hK hP inX6 rfl 0 rfl 2 (by decide) tw_200 rfl dX6_write_20 ?_
    refine z_rVi (q0 := 4) (ci := 1) (b := g0) (rest := []) hC hK hP (c_X1_size l G g0 g1 nb dk) mv_X1_size tw_257 [4, 5] rfl rfl rfl rfl hl.1 rfl (Nat.le_of_ble_eq_true rfl) ⟨rfl, rfl, Nat.le_of_ble_eq_true rfl, Nat.le_of_ble_eq_true rfl⟩ ⟨Nat.le_of_ble_eq_true rfl, Nat.le_of_ble_eq_true rfl⟩ dX6_write_23 ?_
    refine lv_istore_n (lv' := [(3, vI nb), (2, .ref m0), (0, .ref b0), (1, vI x)]) hx hb dX6_write_26 rfl hl (by decide) rfl (fun ls hl => ?_)
    refine lv_aload_n hx hb dX6_write_27 rfl (lv_at hl 2 rfl) ?_
    refine z_get (v := .ref e0) hC hK hP inX6 rfl 0 rfl 3 (by decide) tw_201 rfl dX6_write_28 ?_
    refine z_rVi (q0 := 6) (ci := 3) (b := e0) (rest := []) hC hK hP (c_X3_size l G e0 e1 nh hd) mv_X3_size tw_458 [6, 7] rfl rfl rfl rfl hl.1 rfl (Nat.le_of_ble_eq_true rfl) ⟨rfl, rfl, Nat.le_of_ble_eq_true rfl, Nat.le_of_ble_eq_true rfl⟩ ⟨Nat.le_of_ble_eq_true rfl, Nat.le_of_ble_eq_true rfl⟩ dX6_write_31 ?_
    refine z_rSi (rest := []) hC hK hP (c_X6_blocksOf l G nh) ms_X6_blocksOf tw_696 [] rfl rfl hl.1 rfl (Nat.le_of_ble_eq_true rfl) ⟨rfl, rfl, Nat.le_of_ble_eq_true rfl, Nat.le_of_ble_eq_true rfl⟩ ⟨Nat.le_of_ble_eq_true rfl, Nat.le_of_ble_eq_true rfl⟩ dX6_write_34 ?_
    refine z_top (y := (11 + nh) / 8) (by rw [zdiv_nat (by omega) (by omega)]; omega) ?_
    refine lv_istore (lv' := [(4, vI ((11 + nh) / 8)), (3, vI nb), (2, .ref m0), (0, .ref b0), (1, vI x)]) hx hb dX6_write_37 hl (by decide) rfl (fun ls hl => ?_)
    refine lv_iload_n hx hb dX6_write_39 rfl (lv_at hl 1 rfl) ?_
    refine lv_iload hx hb dX6_write_40 (lv_at hl 0 rfl) ?_
    refine z_iadd hx hb dX6_write_42 ?_
    refine lv_bipush (v := iI 24) hx hb dX6_write_43 (by decide) ?_
    refine z_icmp_le (tgt := 51) hx hb dX6_write_45 (by decide) (by omega) (fun c_45 => ?_) (fun c_45 => ?_)
    · refine lv_iconst (v := iI 0) hx hb dX6_write_51 rfl ?_
      refine lv_istore (lv' := [(5, vI 0), (4, vI ((11 + nh) / 8)), (3, vI nb), (2, .ref m0), (0, .ref b0), (1, vI x)]) hx hb dX6_write_52 hl (by decide) rfl (fun ls hl => ?_)
      have cut_54 : ∀ (n_ : Nat) (qi : Int) (qn : Int) (qd : Int → Int64) (H : Heap) (locs : List Loc) (ls : Array Slot), va_P G.1 vwCl [(b0, ob 6 [.ref b1, vI mc, .ref g0, .ref e0, vI rn, .ref f0, .ref w0, .ref u0, vI ll]), (b1, aR G 6 MK), (m0, ob 4 [vI a1, vI a2, vI kd, vI gl, vI ed, .ref m1]), (m1, aI G 4096 T), (g0, ob 1 [.ref g1, vI qn]), (g1, aJ G 24 qd), (e0, ob 3 [.ref e1, vI nh]), (e1, aI G 36 hd)] H → va_D A [(b0, ob 6 [.ref b1, vI mc, .ref g0, .ref e0, vI rn, .ref f0, .ref w0, .ref u0, vI ll]), (b1, aR G 6 MK), (m0, ob 4 [vI a1, vI a2, vI kd, vI gl, vI ed, .ref m1]), (m1, aI G 4096 T), (g0, ob 1 [.ref g1, vI qn]), (g1, aJ G 24 qd), (e0, ob 3 [.ref e1, vI nh]), (e1, aI G 36 hd)] → va_S A s.heap H locs → lv_has ls 6 [(0, .ref b0), (1, vI x), (2, .ref m0), (3, vI nb), (4, vI ((11 + nh) / 8)), (5, vI qi)] → (0 ≤ qi ∧ qi ≤ (11 + nh) / 8) → (qn = nb + qi) → (qd = wrF dk nb qi (txF kd a1 a2 nh hd)) → ((11 + nh) / 8 - qi).toNat < n_ → W p l e (headSpec (Cond.code yX6_write cX6_write 6 (some .int) :: tb) ({ frames := 5, cells := 0, slots := 0, locals := 114 } : Room)).room s m ([.ref b0, vI x] : List Value).toArray below meth c H locs 0 0 (MQ below (va_Qi (fun (r : Int32) (u : Unit) => r = iI nb ∧ True) (fun (u : Unit) t => zB G [(b0, ob 6 [.ref b1, vI mc, .ref g0, .ref e0, vI rn, .ref f0, .ref w0, .ref u0, vI ll]), (b1, aR G 6 MK), (m0, ob 4 [vI a1, vI a2, vI kd, vI gl, vI ed, .ref m1]), (m1, aI G 4096 T), (g0, ob 1 [.ref g1, vI nb]), (g1, aJ G 24 dk), (e0, ob 3 [.ref e1, vI nh]), (e1, aI G 36 hd)] s.heap.size [(b0, ob 6 [.ref b1, vI mc, .ref g0, .ref e0, vI rn, .ref f0, .ref w0, .ref u0, vI ll]), (b1, aR G 6 MK), (m0, ob 4 [vI a1, vI a2, vI kd, vI gl, vI ed, .ref m1]), (m1, aI G 4096 T), (g0, ob 1 [.ref g1, vI (nb + (11 + nh) / 8)]), (g1, aJ G 24 (wrF dk nb ((11 + nh) / 8) (txF kd a1 a2 nh hd))), (e0, ob 3 [.ref e1, vI 0]), (e1, aI G 36 hd)] t) (va_A [(b0, ob 6 [.ref b1, vI mc, .ref g0, .ref e0, vI rn, .ref f0, .ref w0, .ref u0, vI ll]), (b1, aR G 6 MK), (m0, ob 4 [vI a1, vI a2, vI kd, vI gl, vI ed, .ref m1]), (m1, aI G 4096 T), (g0, ob 1 [.ref g1, vI nb]), (g1, aJ G 24 dk), (e0, ob 3 [.ref e1, vI nh]), (e1, aI G 36 hd)] s.heap.size)) ([.ref b0, vI x] : List Value).toArray s 0 0 (va_A [(b0, ob 6 [.ref b1, vI mc, .ref g0, .ref e0, vI rn, .ref f0, .ref w0, .ref u0, vI ll]), (b1, aR G 6 MK), (m0, ob 4 [vI a1, vI a2, vI kd, vI gl, vI ed, .ref m1]), (m1, aI G 4096 T), (g0, ob 1 [.ref g1, vI nb]), (g1, aJ G 24 dk), (e0, ob 3 [.ref e1, vI nh]), (e1, aI G 36 hd)] s.heap.size)) (F0 m 54 ls []) := by
        intro n_
        induction n_ with
        | zero => exact fun qi qn qd H locs ls hP hD hS hl hqi hqn hqd hm_ => absurd hm_ (Nat.not_lt_zero _)
        | succ n_ ih_54 =>
          intro qi qn qd H locs ls hP hD hS hl hqi hqn hqd hm_
          refine lv_iload hx hb dX6_write_54 (lv_at hl 5 rfl) ?_
          refine lv_iload hx hb dX6_write_56 (lv_at hl 4 rfl) ?_
          refine z_icmp_ge (tgt := 85) hx hb dX6_write_58 (by decide) (by omega) (fun c_58 => ?_) (fun c_58 => ?_)
          · have hf1 : qn = nb + (11 + nh) / 8 := by omega
            have hf2 : qd = wrF dk nb ((11 + nh) / 8) (txF kd a1 a2 nh hd) := by rw [hqd, show qi = (11 + nh) / 8 by omega]
            refine lv_aload_n hx hb dX6_write_85 rfl (lv_at hl 0 rfl) ?_
            refine z_get (v := .ref e0) hC hK hP inX6 rfl 0 rfl 3 (by decide) tw_201 rfl dX6_write_86 ?_
            refine z_wVv (q0 := 6) (ci := 3) (b := e0) (rest := []) (wr := [(b0, ob 6 [.ref b1, vI mc, .ref g0, .ref e0, vI rn, .ref f0, .ref w0, .ref u0, vI ll]), (b1, aR G 6 MK), (m0, ob 4 [vI a1, vI a2, vI kd, vI gl, vI ed, .ref m1]), (m1, aI G 4096 T), (g0, ob 1 [.ref g1, vI qn]), (g1, aJ G 24 qd)]) hC hK hP hD hS hA (c_X3_empty l G H.size e0 e1 nh hd) mv_X3_empty tw_718 [6, 7] [0, 1, 2, 3, 4, 5] rfl rfl rfl rfl (by decide) rfl rfl rfl rfl hl.1 rfl (Nat.le_of_ble_eq_true rfl) ⟨rfl, rfl, Nat.le_of_ble_eq_true rfl, Nat.le_of_ble_eq_true rfl⟩ ⟨Nat.le_of_ble_eq_true rfl, Nat.le_of_ble_eq_true rfl⟩ dX6_write_89 (fun u H locs hw hP hD hS => ?_)
            have hP : va_P G.1 vwCl [(b0, ob 6 [.ref b1, vI mc, .ref g0, .ref e0, vI rn, .ref f0, .ref w0, .ref u0, vI ll]), (b1, aR G 6 MK), (m0, ob 4 [vI a1, vI a2, vI kd, vI gl, vI ed, .ref m1]), (m1, aI G 4096 T), (g0, ob 1 [.ref g1, vI qn]), (g1, aJ G 24 qd), (e0, ob 3 [.ref e1, vI 0]), (e1, aI G 36 hd)] H := hP
            have hD : va_D A [(b0, ob 6 [.ref b1, vI mc, .ref g0, .ref e0, vI rn, .ref f0, .ref w0, .ref u0, vI ll]), (b1, aR G 6 MK), (m0, ob 4 [vI a1, vI a2, vI kd, vI gl, vI ed, .ref m1]), (m1, aI G 4096 T), (g0, ob 1 [.ref g1, vI qn]), (g1, aJ G 24 qd), (e0, ob 3 [.ref e1, vI 0]), (e1, aI G 36 hd)] := hD
            have hw_1 := hw
            clear hw_1
            refine lv_iload_n hx hb dX6_write_92 rfl (lv_at hl 3 rfl) ?_
            have hP : va_P G.1 vwCl [(b0, ob 6 [.ref b1, vI mc, .ref g0, .ref e0, vI rn, .ref f0, .ref w0, .ref u0, vI ll]), (b1, aR G 6 MK), (m0, ob 4 [vI a1, vI a2, vI kd, vI gl, vI ed, .ref m1]), (m1, aI G 4096 T), (g0, ob 1 [.ref g1, vI (nb + (11 + nh) / 8)]), (g1, aJ G 24 (wrF dk nb ((11 + nh) / 8) (txF kd a1 a2 nh hd))), (e0, ob 3 [.ref e1, vI 0]), (e1, aI G 36 hd)] H := by rw [← hf1, ← hf2]; exact hP
            have hD : va_D A [(b0, ob 6 [.ref b1, vI mc, .ref g0, .ref e0, vI rn, .ref f0, .ref w0, .ref u0, vI ll]), (b1, aR G 6 MK), (m0, ob 4 [vI a1, vI a2, vI kd, vI gl, vI ed, .ref m1]), (m1, aI G 4096 T), (g0, ob 1 [.ref g1, vI (nb + (11 + nh) / 8)]), (g1, aJ G 24 (wrF dk nb ((11 + nh) / 8) (txF kd a1 a2 nh hd))), (e0, ob 3 [.ref e1, vI 0]), (e1, aI G 36 hd)] := by rw [← hf1, ← hf2]; exact hD
            exact z_iretW hC hr hlk () hAe hP hD hS [0, 1, 2, 3, 4, 5, 6, 7] (by decide) rfl rfl (⟨rfl, trivial⟩) dX6_write_93
          · refine lv_aload_n hx hb dX6_write_61 rfl (lv_at hl 0 rfl) ?_
            refine z_get (v := .ref g0) hC hK hP inX6 rfl 0 rfl 2 (by decide) tw_200 rfl dX6_write_62 ?_
            refine lv_aload_n hx hb dX6_write_65 rfl (lv_at hl 0 rfl) ?_
            refine z_get (v := .ref e0) hC hK hP inX6 rfl 0 rfl 3 (by decide) tw_201 rfl dX6_write_66 ?_
            refine lv_aload_n hx hb dX6_write_69 rfl (lv_at hl 2 rfl) ?_
            refine lv_iload hx hb dX6_write_70 (lv_at hl 5 rfl) ?_
            refine z_rVl (q0 := 6) (ci := 3) (b := e0) (rest := [.ref g0]) hC hK hP (c_X3_blockOfFile l G e0 e1 nh hd m0 m1 a1 a2 kd gl ed T qi (by omega) (by omega) (by omega)) mv_X3_blockOfFile tw_699 [6, 7, 2, 3] rfl rfl rfl rfl hl.1 rfl (Nat.le_of_ble_eq_true rfl) ⟨rfl, rfl, Nat.le_of_ble_eq_true rfl, Nat.le_of_ble_eq_true rfl⟩ ⟨Nat.le_of_ble_eq_true rfl, Nat.le_of_ble_eq_true rfl⟩ dX6_write_72 ?_
            refine z_wVi (q0 := 4) (ci := 1) (b := g0) (rest := []) (wr := [(b0, ob 6 [.ref b1, vI mc, .ref g0, .ref e0, vI rn, .ref f0, .ref w0, .ref u0, vI ll]), (b1, aR G 6 MK), (m0, ob 4 [vI a1, vI a2, vI kd, vI gl, vI ed, .ref m1]), (m1, aI G 4096 T), (e0, ob 3 [.ref e1, vI nh]), (e1, aI G 36 hd)]) hC hK hP hD hS hA (c_X1_add l G H.size g0 g1 qn qd (lgF (txF kd a1 a2 nh hd) qi 8) (by omega)) mv_X1_add tw_230 [4, 5] [0, 1, 2, 3, 6, 7] rfl rfl rfl rfl (by decide) rfl rfl rfl rfl hl.1 rfl (Nat.le_of_ble_eq_true rfl) ⟨rfl, rfl, Nat.le_of_ble_eq_true rfl, Nat.le_of_ble_eq_true rfl⟩ ⟨Nat.le_of_ble_eq_true rfl, Nat.le_of_ble_eq_true rfl⟩ dX6_write_75 (fun r u H locs hw hP hD hS => ?_)
            obtain ⟨r'_2, n'_2, f'_2⟩ := u
            dsimp only at hw hP hD
            have hP : va_P G.1 vwCl [(b0, ob 6 [.ref b1, vI mc, .ref g0, .ref e0, vI rn, .ref f0, .ref w0, .ref u0, vI ll]), (b1, aR G 6 MK), (m0, ob 4 [vI a1, vI a2, vI kd, vI gl, vI ed, .ref m1]), (m1, aI G 4096 T), (e0, ob 3 [.ref e1, vI nh]), (e1, aI G 36 hd), (g0, ob 1 [.ref g1, vI n'_2]), (g1, aJ G 24 f'_2)] H := hP
            have hD : va_D A [(b0, ob 6 [.ref b1, vI mc, .ref g0, .ref e0, vI rn, .ref f0, .ref w0, .ref u0, vI ll]), (b1, aR G 6 MK), (m0, ob 4 [vI a1, vI a2, vI kd, vI gl, vI ed, .ref m1]), (m1, aI G 4096 T), (e0, ob 3 [.ref e1, vI nh]), (e1, aI G 36 hd), (g0, ob 1 [.ref g1, vI n'_2]), (g1, aJ G 24 f'_2)] := hD
            obtain ⟨hrw_, hw_2⟩ := hw
            rw [hrw_]
            clear hrw_
            obtain ⟨q1, q2, q3⟩ := hw_2.1 (by omega)
            refine lv_pop hx hb dX6_write_78 rfl ?_
            refine z_iinc (k := 5) (lv' := [(5, vI (qi + 1)), (0, .ref b0), (1, vI x), (2, .ref m0), (3, vI nb), (4, vI ((11 + nh) / 8))]) hx hb dX6_write_79 hl rfl (by decide) rfl (fun ls hl => ?_)
            refine lv_goto (tgt := 54) hx hb dX6_write_82 (by decide) ?_
            exact ih_54 (qi + 1) n'_2 f'_2 H locs ls (hP.sub [0, 1, 2, 3, 6, 7, 4, 5] rfl) (hD.sub [0, 1, 2, 3, 6, 7, 4, 5] (by decide) rfl) hS (lv_sub hl [1, 2, 3, 4, 5, 0] rfl) (by omega) (by omega) (by rw [q3, hqd, hqn]; exact wrF_s dk (by omega) _) (by omega)
      exact cut_54 (((11 + nh) / 8 - (0 : Int)).toNat + 1) 0 nb dk H locs ls hP hD hS (lv_sub hl [4, 5, 3, 2, 1, 0] rfl) (by omega) (by omega) ((wrF_0 dk nb _).symm) (Nat.lt_succ_self _)
    · exfalso; omega
  · exact absurd c_14 (by decide)

set_option maxRecDepth 100000 in
set_option maxHeartbeats 4000000 in
theorem c_X6_file_0 (l : Launch) (G : zGt) (b0 b1 g0 e0 f0 w0 u0 : Nat) (mc rn ll : Int) (f1 h0 : Nat) (nf tm : Int) (K : Int → Int) (h1 : Nat) (n : Int) (f : Int → Int64) (x y : Int) (hnf : 0 ≤ nf ∧ nf ≤ 40) (hK0 : ∀ j : Int, 0 ≤ j ∧ j < nf → 0 ≤ K j ∧ K j < 268435456) (hxf : 0 ≤ x ∧ x < nf) (hn : 0 ≤ n ∧ n ≤ 24) (hy : 0 ≤ y ∧ y < 2147483648) : Met l yX6_file (Cond.code yX6_file cX6_file 4 (some .int) :: tb) ({ frames := 4, cells := 0, slots := 0, locals := 90 } : Room) (zPr G [(b0, ob 6 [.ref b1, vI mc, .ref g0, .ref e0, vI rn, .ref f0, .ref w0, .ref u0, vI ll]), (f0, ob 2 [.ref h0, .ref f1, vI nf, vI tm]), (f1, aI G 40 K), (h0, ob 1 [.ref h1, vI n]), (h1, aJ G 24 f)] [.ref b0, vI x, vI y]) (vp_Si (fun r => r = iI (if y = 0 then K x % 8 else if y = 1 then byZ (if 0 ≤ kBl (K x) 0 ∧ kBl (K x) 0 < n then f (kBl (K x) 0) else 0) 2 else if y = 2 then kCost (K x) else if y = 3 then bZ (∀ j : Int, 0 ≤ j ∧ j < nf → j ≠ x → kBl (K j) 0 ≠ kBl (K x) 0) else if y = 4 then kSz (K x) else kBl (K x) (y - 5)))) 0 0 (fun _ => False) := by
  refine Met.ofW (cc := cX6_file) (maxL := 4) (ret := (some .int)) (by decide) rfl ?_
  intro p e s m args below meth c s₁ B hml hv
  obtain ⟨rfl, hP, hK⟩ := hv
  obtain ⟨hC, hr, hlk⟩ := z_begin B hml
  have hC : CallFix p m c cX6_file 4 s _ tb RX6 := hC
  have hx := hC.1
  have hb := hC.2.1
  have hl := lv_entry ([.ref b0, vI x, vI y]) (n := 4) (Nat.le_of_ble_eq_true rfl)
  rw [lg_entry_eq]
  generalize (lg_sl ([.ref b0, vI x, vI y]) ++ List.replicate (4 - (lg_sl ([.ref b0, vI x, vI y])).length) Slot.unset).toArray = ls at hl ⊢
  have hl : lv_has ls 4 [(0, .ref b0), (1, vI x), (2, vI y)] := hl
  refine lv_aload_n hx hb dX6_file_0 rfl (lv_at hl 0 rfl) ?_
  refine lv_iload_n hx hb dX6_file_1 rfl (lv_at hl 1 rfl) ?_
  refine z_rVi (q0 := 0) (ci := 6) (b := b0) (rest := []) hC hK hP (c_X6_neededFile l G b0 b1 g0 e0 f0 w0 u0 mc rn ll f1 h0 nf tm K x (by omega) (by omega)) mv_X6_neededFile tw_729 [0, 1, 2] rfl rfl rfl rfl hl.1 rfl (Nat.le_of_ble_eq_true rfl) ⟨rfl, rfl, Nat.le_of_ble_eq_true rfl, Nat.le_of_ble_eq_true rfl⟩ ⟨Nat.le_of_ble_eq_true rfl, Nat.le_of_ble_eq_true rfl⟩ dX6_file_2 ?_
  refine lv_istore_n (lv' := [(3, vI x), (0, .ref b0), (1, vI x), (2, vI y)]) hx hb dX6_file_5 rfl hl (by decide) rfl (fun ls hl => ?_)
  refine lv_iload_n hx hb dX6_file_6 rfl (lv_at hl 3 rfl) ?_
  refine z_if_ge (tgt := 20) hx hb dX6_file_7 (by decide) (by omega) (fun c_7 => ?_) (fun c_7 => ?_)
  · refine lv_iload_n hx hb dX6_file_20 rfl (lv_at hl 3 rfl) ?_
    have hsw_ : (iI y).toInt = y := iI_toInt (by omega)
    by_cases hs0_ : y < 0 ∨ 4 < y
    · refine lv_tableOut (tgt := 109) hx hb dX6_file_21 (by rw [hsw_]; omega) (by decide) ?_
      refine lv_aload_n hx hb dX6_file_109 rfl (lv_at hl 1 rfl) ?_
      refine z_get (v := .ref f0) hC hK hP inX6 rfl 0 rfl 5 (by decide) tw_203 rfl dX6_file_110 ?_
      refine lv_iload_n hx hb dX6_file_113 rfl (lv_at hl 0 rfl) ?_
      refine lv_iload_n hx hb dX6_file_114 rfl (lv_at hl 3 rfl) ?_
      refine lv_iconst (v := iI 5) hx hb dX6_file_115 rfl ?_
      refine z_isub hx hb dX6_file_116 ?_
      refine z_rVi (q0 := 1) (ci := 2) (b := f0) (rest := []) hC hK hP (c_X2_blockOf l G f0 f1 h0 nf tm K x (y - 5) (by omega) (hK0) (by omega) (by omega)) mv_X2_blockOf tw_754 [1, 2] rfl rfl rfl rfl hl.1 rfl (Nat.le_of_ble_eq_true rfl) ⟨rfl, rfl, Nat.le_of_ble_eq_true rfl, Nat.le_of_ble_eq_true rfl⟩ ⟨Nat.le_of_ble_eq_true rfl, Nat.le_of_ble_eq_true rfl⟩ dX6_file_117 ?_
      exact z_iretR hC hr hlk (by first | (rw [hs_]; rfl) | (rw [hs_, if_neg (by decide), if_neg (by decide), if_neg (by decide), if_pos rfl]; first | exact c_91.symm | exact (bZ_11 c_91).symm) | (rw [if_neg (by omega), if_neg (by omega), if_neg (by omega), if_neg (by omega), if_neg (by omega)])) dX6_file_120
    rcases (show y = 0 ∨ y = 1 ∨ y = 2 ∨ y = 3 ∨ y = 4 by omega) with hs_ | hs_ | hs_ | hs_ | hs_
    · refine lv_tableIn (off := 35) (tgt := 56) hx hb dX6_file_21 (by rw [hsw_]; omega) (by rw [hsw_]; omega) (by rw [hsw_, hs_]; rfl) (by decide) ?_
      refine lv_aload_n hx hb dX6_file_56 rfl (lv_at hl 1 rfl) ?_
      refine z_get (v := .ref f0) hC hK hP inX6 rfl 0 rfl 5 (by decide) tw_203 rfl dX6_file_57 ?_
      refine lv_iload_n hx hb dX6_file_60 rfl (lv_at hl 0 rfl) ?_
      refine z_rVi (q0 := 1) (ci := 2) (b := f0) (rest := []) hC hK hP (c_X2_makeOf l G f0 f1 h0 nf tm K x (by omega) (hK0) (by omega)) mv_X2_makeOf tw_735 [1, 2] rfl rfl rfl rfl hl.1 rfl (Nat.le_of_ble_eq_true rfl) ⟨rfl, rfl, Nat.le_of_ble_eq_true rfl, Nat.le_of_ble_eq_true rfl⟩ ⟨Nat.le_of_ble_eq_true rfl, Nat.le_of_ble_eq_true rfl⟩ dX6_file_61 ?_
      exact z_iretR hC hr hlk (by first | (rw [hs_]; rfl) | (rw [hs_, if_neg (by decide), if_neg (by decide), if_neg (by decide), if_pos rfl]; first | exact c_91.symm | exact (bZ_11 c_91).symm) | (rw [if_neg (by omega), if_neg (by omega), if_neg (by omega), if_neg (by omega), if_neg (by omega)])) dX6_file_64
    · refine lv_tableIn (off := 44) (tgt := 65) hx hb dX6_file_21 (by rw [hsw_]; omega) (by rw [hsw_]; omega) (by rw [hsw_, hs_]; rfl) (by decide) ?_
      refine lv_aload_n hx hb dX6_file_65 rfl (lv_at hl 1 rfl) ?_
      refine z_get (v := .ref f0) hC hK hP inX6 rfl 0 rfl 5 (by decide) tw_203 rfl dX6_file_66 ?_
      refine lv_iload_n hx hb dX6_file_69 rfl (lv_at hl 0 rfl) ?_
      refine z_rVi (q0 := 1) (ci := 2) (b := f0) (rest := []) hC hK hP (c_X2_lengthOf l G f0 f1 h0 nf tm K h1 n f x (by omega) (hK0) (by omega) (by omega)) mv_X2_lengthOf tw_739 [1, 2, 3, 4] rfl rfl rfl rfl hl.1 rfl (Nat.le_of_ble_eq_true rfl) ⟨rfl, rfl, Nat.le_of_ble_eq_true rfl, Nat.le_of_ble_eq_true rfl⟩ ⟨Nat.le_of_ble_eq_true rfl, Nat.le_of_ble_eq_true rfl⟩ dX6_file_70 ?_
      exact z_iretR hC hr hlk (by first | (rw [hs_]; rfl) | (rw [hs_, if_neg (by decide), if_neg (by decide), if_neg (by decide), if_pos rfl]; first | exact c_91.symm | exact (bZ_11 c_91).symm) | (rw [if_neg (by omega), if_neg (by omega), if_neg (by omega), if_neg (by omega), if_neg (by omega)])) dX6_file_73
    · refine lv_tableIn (off := 53) (tgt := 74) hx hb dX6_file_21 (by rw [hsw_]; omega) (by rw [hsw_]; omega) (by rw [hsw_, hs_]; rfl) (by decide) ?_
      refine lv_aload_n hx hb dX6_file_74 rfl (lv_at hl 1 rfl) ?_
      refine z_get (v := .ref f0) hC hK hP inX6 rfl 0 rfl 5 (by decide) tw_203 rfl dX6_file_75 ?_
      refine lv_iload_n hx hb dX6_file_78 rfl (lv_at hl 0 rfl) ?_
      refine z_rVi (q0 := 1) (ci := 2) (b := f0) (rest := []) hC hK hP (c_X2_costOf l G f0 f1 h0 nf tm K x (by omega) (hK0) (by omega)) mv_X2_costOf tw_748 [1, 2] rfl rfl rfl rfl hl.1 rfl (Nat.le_of_ble_eq_true rfl) ⟨rfl, rfl, Nat.le_of_ble_eq_true rfl, Nat.le_of_ble_eq_true rfl⟩ ⟨Nat.le_of_ble_eq_true rfl, Nat.le_of_ble_eq_true rfl⟩ dX6_file_79 ?_
      exact z_iretR hC hr hlk (by first | (rw [hs_]; rfl) | (rw [hs_, if_neg (by decide), if_neg (by decide), if_neg (by decide), if_pos rfl]; first | exact c_91.symm | exact (bZ_11 c_91).symm) | (rw [if_neg (by omega), if_neg (by omega), if_neg (by omega), if_neg (by omega), if_neg (by omega)])) dX6_file_82
    · refine lv_tableIn (off := 62) (tgt := 83) hx hb dX6_file_21 (by rw [hsw_]; omega) (by rw [hsw_]; omega) (by rw [hsw_, hs_]; rfl) (by decide) ?_
      refine lv_aload_n hx hb dX6_file_83 rfl (lv_at hl 1 rfl) ?_
      refine z_get (v := .ref f0) hC hK hP inX6 rfl 0 rfl 5 (by decide) tw_203 rfl dX6_file_84 ?_
      refine lv_iload_n hx hb dX6_file_87 rfl (lv_at hl 0 rfl) ?_
      refine z_rVi (q0 := 1) (ci := 2) (b := f0) (rest := []) hC hK hP (c_X2_isSure l G f0 f1 h0 nf tm K x (by omega) (hK0) (by omega)) mv_X2_isSure tw_749 [1, 2] rfl rfl rfl rfl hl.1 rfl (Nat.le_of_ble_eq_true rfl) ⟨rfl, rfl, Nat.le_of_ble_eq_true rfl, Nat.le_of_ble_eq_true rfl⟩ ⟨Nat.le_of_ble_eq_true rfl, Nat.le_of_ble_eq_true rfl⟩ dX6_file_88 ?_
      refine z_if_eq (tgt := 98) hx hb dX6_file_91 (by decide) (bZ_rng2 _) (fun c_91 => ?_) (fun c_91 => ?_)
      · refine lv_iconst (v := iI 0) hx hb dX6_file_98 rfl ?_
        exact z_iretR hC hr hlk (by first | (rw [hs_]; rfl) | (rw [hs_, if_neg (by decide), if_neg (by decide), if_neg (by decide), if_pos rfl]; first | exact c_91.symm | exact (bZ_11 c_91).symm) | (rw [if_neg (by omega), if_neg (by omega), if_neg (by omega), if_neg (by omega), if_neg (by omega)])) dX6_file_99
      · refine lv_iconst (v := iI 1) hx hb dX6_file_94 rfl ?_
        refine lv_goto (tgt := 99) hx hb dX6_file_95 (by decide) ?_
        exact z_iretR hC hr hlk (by first | (rw [hs_]; rfl) | (rw [hs_, if_neg (by decide), if_neg (by decide), if_neg (by decide), if_pos rfl]; first | exact c_91.symm | exact (bZ_11 c_91).symm) | (rw [if_neg (by omega), if_neg (by omega), if_neg (by omega), if_neg (by omega), if_neg (by omega)])) dX6_file_99
    · refine lv_tableIn (off := 79) (tgt := 100) hx hb dX6_file_21 (by rw [hsw_]; omega) (by rw [hsw_]; omega) (by rw [hsw_, hs_]; rfl) (by decide) ?_
      refine lv_aload_n hx hb dX6_file_100 rfl (lv_at hl 1 rfl) ?_
      refine z_get (v := .ref f0) hC hK hP inX6 rfl 0 rfl 5 (by decide) tw_203 rfl dX6_file_101 ?_
      refine lv_iload_n hx hb dX6_file_104 rfl (lv_at hl 0 rfl) ?_
      refine z_rVi (q0 := 1) (ci := 2) (b := f0) (rest := []) hC hK hP (c_X2_sizeOf l G f0 f1 h0 nf tm K x (by omega) (hK0) (by omega)) mv_X2_sizeOf tw_753 [1, 2] rfl rfl rfl rfl hl.1 rfl (Nat.le_of_ble_eq_true rfl) ⟨rfl, rfl, Nat.le_of_ble_eq_true rfl, Nat.le_of_ble_eq_true rfl⟩ ⟨Nat.le_of_ble_eq_true rfl, Nat.le_of_ble_eq_true rfl⟩ dX6_file_105 ?_
      exact z_iretR hC hr hlk (by first | (rw [hs_]; rfl) | (rw [hs_, if_neg (by decide), if_neg (by decide), if_neg (by decide), if_pos rfl]; first | exact c_91.symm | exact (bZ_11 c_91).symm) | (rw [if_neg (by omega), if_neg (by omega), if_neg (by omega), if_neg (by omega), if_neg (by omega)])) dX6_file_108
  · exfalso; omega

set_option maxRecDepth 100000 in
set_option maxHeartbeats 4000000 in
theorem c_X6_data_0 (l : Launch) (G : zGt) (b0 b1 g0 e0 f0 w0 u0 : Nat) (mc rn ll : Int) (f1 h0 : Nat) (nf tm : Int) (K : Int → Int) (h1 : Nat) (n : Int) (f : Int → Int64) (x y : Int) (hnf : 0 ≤ nf ∧ nf ≤ 40) (hK0 : ∀ j : Int, 0 ≤ j ∧ j < nf → 0 ≤ K j ∧ K j < 268435456) (hxf : 0 ≤ x ∧ x < nf) (hn : 0 ≤ n ∧ n ≤ 24) (hy : -2147483648 ≤ y ∧ y < 2147483648) : Met l yX6_data (Cond.code yX6_data cX6_data 3 (some .int) :: tb) ({ frames := 4, cells := 0, slots := 0, locals := 88 } : Room) (zPr G [(b0, ob 6 [.ref b1, vI mc, .ref g0, .ref e0, vI rn, .ref f0, .ref w0, .ref u0, vI ll]), (f0, ob 2 [.ref h0, .ref f1, vI nf, vI tm]), (f1, aI G 40 K), (h0, ob 1 [.ref h1, vI n]), (h1, aJ G 24 f)] [.ref b0, vI x, vI y]) (vp_Si (fun r => r = iI (if 0 ≤ y ∧ y < byZ (if 0 ≤ kBl (K x) 0 ∧ kBl (K x) 0 < n then f (kBl (K x) 0) else 0) 2 then byZ (if 0 ≤ kBl (K x) ((3 + y) / 8) ∧ kBl (K x) ((3 + y) / 8) < n then f (kBl (K x) ((3 + y) / 8)) else 0) ((3 + y) % 8) else -1))) 0 0 (fun _ => False) := by
  refine Met.ofW (cc := cX6_data) (maxL := 3) (ret := (some .int)) (by decide) rfl ?_
  intro p e s m args below meth c s₁ B hml hv
  obtain ⟨rfl, hP, hK⟩ := hv
  obtain ⟨hC, hr, hlk⟩ := z_begin B hml
  have hC : CallFix p m c cX6_data 3 s _ tb RX6 := hC
  have hx := hC.1
  have hb := hC.2.1
  have hl := lv_entry ([.ref b0, vI x, vI y]) (n := 3) (Nat.le_of_ble_eq_true rfl)
  rw [lg_entry_eq]
  generalize (lg_sl ([.ref b0, vI x, vI y]) ++ List.replicate (3 - (lg_sl ([.ref b0, vI x, vI y])).length) Slot.unset).toArray = ls at hl ⊢
  have hl : lv_has ls 3 [(0, .ref b0), (1, vI x), (2, vI y)] := hl
  refine lv_aload_n hx hb dX6_data_0 rfl (lv_at hl 0 rfl) ?_
  refine z_get (v := .ref f0) hC hK hP inX6 rfl 0 rfl 5 (by decide) tw_203 rfl dX6_data_1 ?_
  refine lv_aload_n hx hb dX6_data_4 rfl (lv_at hl 0 rfl) ?_
  refine lv_iload_n hx hb dX6_data_5 rfl (lv_at hl 1 rfl) ?_
  refine z_rVi (q0 := 0) (ci := 6) (b := b0) (rest := [.ref f0]) hC hK hP (c_X6_neededFile l G b0 b1 g0 e0 f0 w0 u0 mc rn ll f1 h0 nf tm K x (by omega) (by omega)) mv_X6_neededFile tw_729 [0, 1, 2] rfl rfl rfl rfl hl.1 rfl (Nat.le_of_ble_eq_true rfl) ⟨rfl, rfl, Nat.le_of_ble_eq_true rfl, Nat.le_of_ble_eq_true rfl⟩ ⟨Nat.le_of_ble_eq_true rfl, Nat.le_of_ble_eq_true rfl⟩ dX6_data_6 ?_
  refine lv_iload_n hx hb dX6_data_9 rfl (lv_at hl 2 rfl) ?_
  refine z_rVi (q0 := 1) (ci := 2) (b := f0) (rest := []) hC hK hP (c_X2_dataByteOf l G f0 f1 h0 nf tm K h1 n f x y (by omega) (hK0) (by omega) (by omega) (by omega)) mv_X2_dataByteOf tw_762 [1, 2, 3, 4] rfl rfl rfl rfl hl.1 rfl (Nat.le_of_ble_eq_true rfl) ⟨rfl, rfl, Nat.le_of_ble_eq_true rfl, Nat.le_of_ble_eq_true rfl⟩ ⟨Nat.le_of_ble_eq_true rfl, Nat.le_of_ble_eq_true rfl⟩ dX6_data_10 ?_
  exact z_iretR hC hr hlk (rfl) dX6_data_13

set_option maxRecDepth 100000 in
set_option maxHeartbeats 4000000 in
theorem c_X6_best_0 (l : Launch) (G : zGt) (b0 b1 g0 e0 f0 w0 u0 : Nat) (mc rn ll : Int) (u1 u2 u3 u4 u5 u6 : Nat) (gr cn cg cb : Int) (hgr : 0 ≤ gr ∧ gr ≤ 40) (hg6 : gr ≤ 6) : Met l yX6_best (Cond.code yX6_best cX6_best 1 (some .int) :: tb) ({ frames := 2, cells := 0, slots := 0, locals := 40 } : Room) (zPr G [(b0, ob 6 [.ref b1, vI mc, .ref g0, .ref e0, vI rn, .ref f0, .ref w0, .ref u0, vI ll]), (u0, ob 0 [.ref f0, vI gr, .ref u1, .ref u2, .ref u3, .ref u4, .ref u5, .ref u6, vI cn, vI cg, vI cb])] [.ref b0]) (vp_Si (fun r => r = iI (bcZ cb))) 0 0 (fun _ => False) := by
  refine Met.ofW (cc := cX6_best) (maxL := 1) (ret := (some .int)) (by decide) rfl ?_
  intro p e s m args below meth c s₁ B hml hv
  obtain ⟨rfl, hP, hK⟩ := hv
  obtain ⟨hC, hr, hlk⟩ := z_begin B hml
  have hC : CallFix p m c cX6_best 1 s _ tb RX6 := hC
  have hx := hC.1
  have hb := hC.2.1
  have hl := lv_entry ([.ref b0]) (n := 1) (Nat.le_of_ble_eq_true rfl)
  rw [lg_entry_eq]
  generalize (lg_sl ([.ref b0]) ++ List.replicate (1 - (lg_sl ([.ref b0])).length) Slot.unset).toArray = ls at hl ⊢
  have hl : lv_has ls 1 [(0, .ref b0)] := hl
  refine lv_aload_n hx hb dX6_best_0 rfl (lv_at hl 0 rfl) ?_
  refine z_get (v := .ref u0) hC hK hP inX6 rfl 0 rfl 7 (by decide) tw_205 rfl dX6_best_1 ?_
  refine z_rVi (q0 := 1) (ci := 0) (b := u0) (rest := []) hC hK hP (c_X0_isTold l G u0 u1 u2 u3 u4 u5 u6 f0 gr cn cg cb (by omega)) mv_X0_isTold tw_414 [1] rfl rfl rfl rfl hl.1 rfl (Nat.le_of_ble_eq_true rfl) ⟨rfl, rfl, Nat.le_of_ble_eq_true rfl, Nat.le_of_ble_eq_true rfl⟩ ⟨Nat.le_of_ble_eq_true rfl, Nat.le_of_ble_eq_true rfl⟩ dX6_best_4 ?_
  refine z_top (y := 1) (if_pos hg6) ?_
  refine z_if_eq (tgt := 20) hx hb dX6_best_7 (by decide) (by omega) (fun c_7 => ?_) (fun c_7 => ?_)
  · exact absurd c_7 (by decide)
  · refine lv_aload_n hx hb dX6_best_10 rfl (lv_at hl 0 rfl) ?_
    refine z_get (v := .ref u0) hC hK hP inX6 rfl 0 rfl 7 (by decide) tw_205 rfl dX6_best_11 ?_
    refine z_rVi (q0 := 1) (ci := 0) (b := u0) (rest := []) hC hK hP (c_X0_blocksInAll l G u0 u1 u2 u3 u4 u5 u6 f0 gr cn cg cb) mv_X0_blocksInAll tw_415 [1] rfl rfl rfl rfl hl.1 rfl (Nat.le_of_ble_eq_true rfl) ⟨rfl, rfl, Nat.le_of_ble_eq_true rfl, Nat.le_of_ble_eq_true rfl⟩ ⟨Nat.le_of_ble_eq_true rfl, Nat.le_of_ble_eq_true rfl⟩ dX6_best_14 ?_
    refine lv_goto (tgt := 21) hx hb dX6_best_17 (by decide) ?_
    exact z_iretR hC hr hlk (rfl) dX6_best_21

set_option maxRecDepth 100000 in
set_option maxHeartbeats 4000000 in
theorem c_X6_best_n (l : Launch) (G : zGt) (b0 b1 g0 e0 f0 w0 u0 : Nat) (mc rn ll : Int) (u1 u2 u3 u4 u5 u6 : Nat) (gr cn cg cb : Int) (hgr : 0 ≤ gr ∧ gr ≤ 40) (hg6 : 6 < gr) : Met l yX6_best (Cond.code yX6_best cX6_best 1 (some .int) :: tb) ({ frames := 1, cells := 0, slots := 0, locals := 20 } : Room) (zPr G [(b0, ob 6 [.ref b1, vI mc, .ref g0, .ref e0, vI rn, .ref f0, .ref w0, .ref u0, vI ll]), (u0, ob 0 [.ref f0, vI gr, .ref u1, .ref u2, .ref u3, .ref u4, .ref u5, .ref u6, vI cn, vI cg, vI cb])] [.ref b0]) (vp_Si (fun r => r = iI (-1))) 0 0 (fun _ => False) := by
  refine Met.ofW (cc := cX6_best) (maxL := 1) (ret := (some .int)) (by decide) rfl ?_
  intro p e s m args below meth c s₁ B hml hv
  obtain ⟨rfl, hP, hK⟩ := hv
  obtain ⟨hC, hr, hlk⟩ := z_begin B hml
  have hC : CallFix p m c cX6_best 1 s _ tb RX6 := hC
  have hx := hC.1
  have hb := hC.2.1
  have hl := lv_entry ([.ref b0]) (n := 1) (Nat.le_of_ble_eq_true rfl)
  rw [lg_entry_eq]
  generalize (lg_sl ([.ref b0]) ++ List.replicate (1 - (lg_sl ([.ref b0])).length) Slot.unset).toArray = ls at hl ⊢
  have hl : lv_has ls 1 [(0, .ref b0)] := hl
  refine lv_aload_n hx hb dX6_best_0 rfl (lv_at hl 0 rfl) ?_
  refine z_get (v := .ref u0) hC hK hP inX6 rfl 0 rfl 7 (by decide) tw_205 rfl dX6_best_1 ?_
  refine z_rVi (q0 := 1) (ci := 0) (b := u0) (rest := []) hC hK hP (c_X0_isTold l G u0 u1 u2 u3 u4 u5 u6 f0 gr cn cg cb (by omega)) mv_X0_isTold tw_414 [1] rfl rfl rfl rfl hl.1 rfl (Nat.le_of_ble_eq_true rfl) ⟨rfl, rfl, Nat.le_of_ble_eq_true rfl, Nat.le_of_ble_eq_true rfl⟩ ⟨Nat.le_of_ble_eq_true rfl, Nat.le_of_ble_eq_true rfl⟩ dX6_best_4 ?_
  refine z_top (y := 0) (if_neg (by omega)) ?_
  refine z_if_eq (tgt := 20) hx hb dX6_best_7 (by decide) (by omega) (fun c_7 => ?_) (fun c_7 => ?_)
  · refine lv_iconst (v := iI (-1)) hx hb dX6_best_20 rfl ?_
    exact z_iretR hC hr hlk (rfl) dX6_best_21
  · exact absurd c_7 (by decide)

set_option maxRecDepth 100000 in
set_option maxHeartbeats 4000000 in
theorem c_X6_cost_0 (l : Launch) (G : zGt) (b0 b1 g0 e0 f0 w0 u0 : Nat) (mc rn ll : Int) (u1 u2 u3 u4 u5 u6 : Nat) (gr cn cg cb : Int) (CH : Int → Int) (f1 h0 : Nat) (nf tm : Int) (K : Int → Int) (hgr : 0 ≤ gr ∧ gr ≤ 40) (hg6 : gr ≤ 6) (hcn : 0 ≤ cn ∧ cn ≤ 6) (hnf : 0 ≤ nf ∧ nf ≤ 40) (hK0 : ∀ j : Int, 0 ≤ j ∧ j < nf → 0 ≤ K j ∧ K j < 268435456) (hch : ∀ i : Int, 0 ≤ i ∧ i < cn → 0 ≤ CH i ∧ CH i < nf) : Met l yX6_cost (Cond.code yX6_cost cX6_cost 1 (some .int) :: tb) ({ frames := 5, cells := 0, slots := 0, locals := 112 } : Room) (zPr G [(b0, ob 6 [.ref b1, vI mc, .ref g0, .ref e0, vI rn, .ref f0, .ref w0, .ref u0, vI ll]), (u0, ob 0 [.ref f0, vI gr, .ref u1, .ref u2, .ref u3, .ref u4, .ref u5, .ref u6, vI cn, vI cg, vI cb]), (u6, aI G 6 CH), (f0, ob 2 [.ref h0, .ref f1, vI nf, vI tm]), (f1, aI G 40 K)] [.ref b0]) (vp_Si (fun r => r = iI (sumZ (fun i => kCost (K (CH i))) cn.toNat))) 0 0 (fun _ => False) := by
  refine Met.ofW (cc := cX6_cost) (maxL := 1) (ret := (some .int)) (by decide) rfl ?_
  intro p e s m args below meth c s₁ B hml hv
  obtain ⟨rfl, hP, hK⟩ := hv
  obtain ⟨hC, hr, hlk⟩ := z_begin B hml
  have hC : CallFix p m c cX6_cost 1 s _ tb RX6 := hC
  have hx := hC.1
  have hb := hC.2.1
  have hl := lv_entry ([.ref b0]) (n := 1) (Nat.le_of_ble_eq_true rfl)
  rw [lg_entry_eq]
  generalize (lg_sl ([.ref b0]) ++ List.replicate (1 - (lg_sl ([.ref b0])).length) Slot.unset).toArray = ls at hl ⊢
  have hl : lv_has ls 1 [(0, .ref b0)] := hl
  refine lv_aload_n hx hb dX6_cost_0 rfl (lv_at hl 0 rfl) ?_
  refine z_get (v := .ref u0) hC hK hP inX6 rfl 0 rfl 7 (by decide) tw_205 rfl dX6_cost_1 ?_
  refine z_rVi (q0 := 1) (ci := 0) (b := u0) (rest := []) hC hK hP (c_X0_isTold l G u0 u1 u2 u3 u4 u5 u6 f0 gr cn cg cb (by omega)) mv_X0_isTold tw_414 [1] rfl rfl rfl rfl hl.1 rfl (Nat.le_of_ble_eq_true rfl) ⟨rfl, rfl, Nat.le_of_ble_eq_true rfl, Nat.le_of_ble_eq_true rfl⟩ ⟨Nat.le_of_ble_eq_true rfl, Nat.le_of_ble_eq_true rfl⟩ dX6_cost_4 ?_
  refine z_top (y := 1) (if_pos hg6) ?_
  refine z_if_eq (tgt := 20) hx hb dX6_cost_7 (by decide) (by omega) (fun c_7 => ?_) (fun c_7 => ?_)
  · exact absurd c_7 (by decide)
  · refine lv_aload_n hx hb dX6_cost_10 rfl (lv_at hl 0 rfl) ?_
    refine z_get (v := .ref u0) hC hK hP inX6 rfl 0 rfl 7 (by decide) tw_205 rfl dX6_cost_11 ?_
    refine z_rVi (q0 := 1) (ci := 0) (b := u0) (rest := []) hC hK hP (c_X0_costInAll l G u0 u1 u2 u3 u4 u5 u6 f0 gr cn cg cb CH f1 h0 nf tm K (by omega) (by omega) (hK0) (hch)) mv_X0_costInAll tw_429 [1, 2, 3, 4] rfl rfl rfl rfl hl.1 rfl (Nat.le_of_ble_eq_true rfl) ⟨rfl, rfl, Nat.le_of_ble_eq_true rfl, Nat.le_of_ble_eq_true rfl⟩ ⟨Nat.le_of_ble_eq_true rfl, Nat.le_of_ble_eq_true rfl⟩ dX6_cost_14 ?_
    refine lv_goto (tgt := 21) hx hb dX6_cost_17 (by decide) ?_
    exact z_iretR hC hr hlk (rfl) dX6_cost_21

set_option maxRecDepth 100000 in
set_option maxHeartbeats 4000000 in
theorem c_X6_cost_n (l : Launch) (G : zGt) (b0 b1 g0 e0 f0 w0 u0 : Nat) (mc rn ll : Int) (u1 u2 u3 u4 u5 u6 : Nat) (gr cn cg cb : Int) (CH : Int → Int) (f1 h0 : Nat) (nf tm : Int) (K : Int → Int) (hgr : 0 ≤ gr ∧ gr ≤ 40) (hg6 : 6 < gr) : Met l yX6_cost (Cond.code yX6_cost cX6_cost 1 (some .int) :: tb) ({ frames := 1, cells := 0, slots := 0, locals := 20 } : Room) (zPr G [(b0, ob 6 [.ref b1, vI mc, .ref g0, .ref e0, vI rn, .ref f0, .ref w0, .ref u0, vI ll]), (u0, ob 0 [.ref f0, vI gr, .ref u1, .ref u2, .ref u3, .ref u4, .ref u5, .ref u6, vI cn, vI cg, vI cb]), (u6, aI G 6 CH), (f0, ob 2 [.ref h0, .ref f1, vI nf, vI tm]), (f1, aI G 40 K)] [.ref b0]) (vp_Si (fun r => r = iI (-1))) 0 0 (fun _ => False) := by
  refine Met.ofW (cc := cX6_cost) (maxL := 1) (ret := (some .int)) (by decide) rfl ?_
  intro p e s m args below meth c s₁ B hml hv
  obtain ⟨rfl, hP, hK⟩ := hv
  obtain ⟨hC, hr, hlk⟩ := z_begin B hml
  have hC : CallFix p m c cX6_cost 1 s _ tb RX6 := hC
  have hx := hC.1
  have hb := hC.2.1
  have hl := lv_entry ([.ref b0]) (n := 1) (Nat.le_of_ble_eq_true rfl)
  rw [lg_entry_eq]
  generalize (lg_sl ([.ref b0]) ++ List.replicate (1 - (lg_sl ([.ref b0])).length) Slot.unset).toArray = ls at hl ⊢
  have hl : lv_has ls 1 [(0, .ref b0)] := hl
  refine lv_aload_n hx hb dX6_cost_0 rfl (lv_at hl 0 rfl) ?_
  refine z_get (v := .ref u0) hC hK hP inX6 rfl 0 rfl 7 (by decide) tw_205 rfl dX6_cost_1 ?_
  refine z_rVi (q0 := 1) (ci := 0) (b := u0) (rest := []) hC hK hP (c_X0_isTold l G u0 u1 u2 u3 u4 u5 u6 f0 gr cn cg cb (by omega)) mv_X0_isTold tw_414 [1] rfl rfl rfl rfl hl.1 rfl (Nat.le_of_ble_eq_true rfl) ⟨rfl, rfl, Nat.le_of_ble_eq_true rfl, Nat.le_of_ble_eq_true rfl⟩ ⟨Nat.le_of_ble_eq_true rfl, Nat.le_of_ble_eq_true rfl⟩ dX6_cost_4 ?_
  refine z_top (y := 0) (if_neg (by omega)) ?_
  refine z_if_eq (tgt := 20) hx hb dX6_cost_7 (by decide) (by omega) (fun c_7 => ?_) (fun c_7 => ?_)
  · refine lv_iconst (v := iI (-1)) hx hb dX6_cost_20 rfl ?_
    exact z_iretR hC hr hlk (rfl) dX6_cost_21
  · exact absurd c_7 (by decide)

set_option maxRecDepth 100000 in
set_option maxHeartbeats 4000000 in
theorem c_X6_covers_0 (l : Launch) (G : zGt) (b0 b1 g0 e0 f0 w0 u0 : Nat) (mc rn ll : Int) (u1 u2 u3 u4 u5 u6 : Nat) (gr cn cg cb : Int) (CH : Int → Int) (x : Int) (hgr : 0 ≤ gr ∧ gr ≤ 40) (hg6 : gr ≤ 6) (hcn : 0 ≤ cn ∧ cn ≤ 6) (hx : -2147483648 ≤ x ∧ x < 2147483648) : Met l yX6_covers (Cond.code yX6_covers cX6_covers 2 (some .int) :: tb) ({ frames := 1, cells := 0, slots := 0, locals := 21 } : Room) (zPr G [(b0, ob 6 [.ref b1, vI mc, .ref g0, .ref e0, vI rn, .ref f0, .ref w0, .ref u0, vI ll]), (u0, ob 0 [.ref f0, vI gr, .ref u1, .ref u2, .ref u3, .ref u4, .ref u5, .ref u6, vI cn, vI cg, vI cb]), (u6, aI G 6 CH)] [.ref b0, vI x]) (vp_Si (fun r => r = iI (if 0 ≤ x ∧ x < cn then CH x else -1))) 0 0 (fun _ => False) := by
  refine Met.ofW (cc := cX6_covers) (maxL := 2) (ret := (some .int)) (by decide) rfl ?_
  intro p e s m args below meth c s₁ B hml hv
  obtain ⟨rfl, hP, hK⟩ := hv
  obtain ⟨hC, hr, hlk⟩ := z_begin B hml
  have hC : CallFix p m c cX6_covers 2 s _ tb RX6 := hC
  have hx := hC.1
  have hb := hC.2.1
  have hl := lv_entry ([.ref b0, vI x]) (n := 2) (Nat.le_of_ble_eq_true rfl)
  rw [lg_entry_eq]
  generalize (lg_sl ([.ref b0, vI x]) ++ List.replicate (2 - (lg_sl ([.ref b0, vI x])).length) Slot.unset).toArray = ls at hl ⊢
  have hl : lv_has ls 2 [(0, .ref b0), (1, vI x)] := hl
  refine lv_aload_n hx hb dX6_covers_0 rfl (lv_at hl 0 rfl) ?_
  refine z_get (v := .ref u0) hC hK hP inX6 rfl 0 rfl 7 (by decide) tw_205 rfl dX6_covers_1 ?_
  refine z_rVi (q0 := 1) (ci := 0) (b := u0) (rest := []) hC hK hP (c_X0_isTold l G u0 u1 u2 u3 u4 u5 u6 f0 gr cn cg cb (by omega)) mv_X0_isTold tw_414 [1] rfl rfl rfl rfl hl.1 rfl (Nat.le_of_ble_eq_true rfl) ⟨rfl, rfl, Nat.le_of_ble_eq_true rfl, Nat.le_of_ble_eq_true rfl⟩ ⟨Nat.le_of_ble_eq_true rfl, Nat.le_of_ble_eq_true rfl⟩ dX6_covers_4 ?_
  refine z_top (y := 1) (if_pos hg6) ?_
  refine z_if_eq (tgt := 21) hx hb dX6_covers_7 (by decide) (by omega) (fun c_7 => ?_) (fun c_7 => ?_)
  · exact absurd c_7 (by decide)
  · refine lv_aload_n hx hb dX6_covers_10 rfl (lv_at hl 0 rfl) ?_
    refine z_get (v := .ref u0) hC hK hP inX6 rfl 0 rfl 7 (by decide) tw_205 rfl dX6_covers_11 ?_
    refine lv_iload_n hx hb dX6_covers_14 rfl (lv_at hl 1 rfl) ?_
    refine z_rVi (q0 := 1) (ci := 0) (b := u0) (rest := []) hC hK hP (c_X0_fileAt l G u0 u1 u2 u3 u4 u5 u6 f0 gr cn cg cb CH x (by omega) (by omega)) mv_X0_fileAt tw_437 [1, 2] rfl rfl rfl rfl hl.1 rfl (Nat.le_of_ble_eq_true rfl) ⟨rfl, rfl, Nat.le_of_ble_eq_true rfl, Nat.le_of_ble_eq_true rfl⟩ ⟨Nat.le_of_ble_eq_true rfl, Nat.le_of_ble_eq_true rfl⟩ dX6_covers_15 ?_
    refine lv_goto (tgt := 22) hx hb dX6_covers_18 (by decide) ?_
    exact z_iretR hC hr hlk (rfl) dX6_covers_22

set_option maxRecDepth 100000 in
set_option maxHeartbeats 4000000 in
theorem c_X6_covers_n (l : Launch) (G : zGt) (b0 b1 g0 e0 f0 w0 u0 : Nat) (mc rn ll : Int) (u1 u2 u3 u4 u5 u6 : Nat) (gr cn cg cb : Int) (CH : Int → Int) (x : Int) (hgr : 0 ≤ gr ∧ gr ≤ 40) (hg6 : 6 < gr) : Met l yX6_covers (Cond.code yX6_covers cX6_covers 2 (some .int) :: tb) ({ frames := 1, cells := 0, slots := 0, locals := 20 } : Room) (zPr G [(b0, ob 6 [.ref b1, vI mc, .ref g0, .ref e0, vI rn, .ref f0, .ref w0, .ref u0, vI ll]), (u0, ob 0 [.ref f0, vI gr, .ref u1, .ref u2, .ref u3, .ref u4, .ref u5, .ref u6, vI cn, vI cg, vI cb]), (u6, aI G 6 CH)] [.ref b0, vI x]) (vp_Si (fun r => r = iI (-1))) 0 0 (fun _ => False) := by
  refine Met.ofW (cc := cX6_covers) (maxL := 2) (ret := (some .int)) (by decide) rfl ?_
  intro p e s m args below meth c s₁ B hml hv
  obtain ⟨rfl, hP, hK⟩ := hv
  obtain ⟨hC, hr, hlk⟩ := z_begin B hml
  have hC : CallFix p m c cX6_covers 2 s _ tb RX6 := hC
  have hx := hC.1
  have hb := hC.2.1
  have hl := lv_entry ([.ref b0, vI x]) (n := 2) (Nat.le_of_ble_eq_true rfl)
  rw [lg_entry_eq]
  generalize (lg_sl ([.ref b0, vI x]) ++ List.replicate (2 - (lg_sl ([.ref b0, vI x])).length) Slot.unset).toArray = ls at hl ⊢
  have hl : lv_has ls 2 [(0, .ref b0), (1, vI x)] := hl
  refine lv_aload_n hx hb dX6_covers_0 rfl (lv_at hl 0 rfl) ?_
  refine z_get (v := .ref u0) hC hK hP inX6 rfl 0 rfl 7 (by decide) tw_205 rfl dX6_covers_1 ?_
  refine z_rVi (q0 := 1) (ci := 0) (b := u0) (rest := []) hC hK hP (c_X0_isTold l G u0 u1 u2 u3 u4 u5 u6 f0 gr cn cg cb (by omega)) mv_X0_isTold tw_414 [1] rfl rfl rfl rfl hl.1 rfl (Nat.le_of_ble_eq_true rfl) ⟨rfl, rfl, Nat.le_of_ble_eq_true rfl, Nat.le_of_ble_eq_true rfl⟩ ⟨Nat.le_of_ble_eq_true rfl, Nat.le_of_ble_eq_true rfl⟩ dX6_covers_4 ?_
  refine z_top (y := 0) (if_neg (by omega)) ?_
  refine z_if_eq (tgt := 21) hx hb dX6_covers_7 (by decide) (by omega) (fun c_7 => ?_) (fun c_7 => ?_)
  · refine lv_iconst (v := iI (-1)) hx hb dX6_covers_21 rfl ?_
    exact z_iretR hC hr hlk (rfl) dX6_covers_22
  · exact absurd c_7 (by decide)

set_option maxRecDepth 100000 in
set_option maxHeartbeats 4000000 in
theorem c_X6_nobody_0 (l : Launch) (G : zGt) (b0 b1 g0 e0 f0 w0 u0 : Nat) (mc rn ll : Int) (u1 u2 u3 u4 u5 u6 : Nat) (gr cn cg cb : Int) (f1 h0 : Nat) (nf tm : Int) (K : Int → Int) (h1 : Nat) (n : Int) (f : Int → Int64) (x : Int) (hgr : 0 ≤ gr ∧ gr ≤ 40) (hg6 : gr ≤ 6) (hn : 0 ≤ n ∧ n ≤ 24) (hcb : 0 ≤ cb ∧ cb < 16777216) (hx : -2147483648 ≤ x ∧ x < 2147483648) : Met l yX6_nobody (Cond.code yX6_nobody cX6_nobody 2 (some .int) :: tb) ({ frames := 3, cells := 0, slots := 0, locals := 63 } : Room) (zPr G [(b0, ob 6 [.ref b1, vI mc, .ref g0, .ref e0, vI rn, .ref f0, .ref w0, .ref u0, vI ll]), (u0, ob 0 [.ref f0, vI gr, .ref u1, .ref u2, .ref u3, .ref u4, .ref u5, .ref u6, vI cn, vI cg, vI cb]), (f0, ob 2 [.ref h0, .ref f1, vI nf, vI tm]), (f1, aI G 40 K), (h0, ob 1 [.ref h1, vI n]), (h1, aJ G 24 f)] [.ref b0, vI x]) (vp_Si (fun r => r = iI (frZ cb n 25 0 x))) 0 0 (fun _ => False) := by
  refine Met.ofW (cc := cX6_nobody) (maxL := 2) (ret := (some .int)) (by decide) rfl ?_
  intro p e s m args below meth c s₁ B hml hv
  obtain ⟨rfl, hP, hK⟩ := hv
  obtain ⟨hC, hr, hlk⟩ := z_begin B hml
  have hC : CallFix p m c cX6_nobody 2 s _ tb RX6 := hC
  have hx := hC.1
  have hb := hC.2.1
  have hl := lv_entry ([.ref b0, vI x]) (n := 2) (Nat.le_of_ble_eq_true rfl)
  rw [lg_entry_eq]
  generalize (lg_sl ([.ref b0, vI x]) ++ List.replicate (2 - (lg_sl ([.ref b0, vI x])).length) Slot.unset).toArray = ls at hl ⊢
  have hl : lv_has ls 2 [(0, .ref b0), (1, vI x)] := hl
  refine lv_aload_n hx hb dX6_nobody_0 rfl (lv_at hl 0 rfl) ?_
  refine z_get (v := .ref u0) hC hK hP inX6 rfl 0 rfl 7 (by decide) tw_205 rfl dX6_nobody_1 ?_
  refine z_rVi (q0 := 1) (ci := 0) (b := u0) (rest := []) hC hK hP (c_X0_isTold l G u0 u1 u2 u3 u4 u5 u6 f0 gr cn cg cb (by omega)) mv_X0_isTold tw_414 [1] rfl rfl rfl rfl hl.1 rfl (Nat.le_of_ble_eq_true rfl) ⟨rfl, rfl, Nat.le_of_ble_eq_true rfl, Nat.le_of_ble_eq_true rfl⟩ ⟨Nat.le_of_ble_eq_true rfl, Nat.le_of_ble_eq_true rfl⟩ dX6_nobody_4 ?_
  refine z_top (y := 1) (if_pos hg6) ?_
  refine z_if_eq (tgt := 21) hx hb dX6_nobody_7 (by decide) (by omega) (fun c_7 => ?_) (fun c_7 => ?_)
  · exact absurd c_7 (by decide)
  · refine lv_aload_n hx hb dX6_nobody_10 rfl (lv_at hl 0 rfl) ?_
    refine z_get (v := .ref u0) hC hK hP inX6 rfl 0 rfl 7 (by decide) tw_205 rfl dX6_nobody_11 ?_
    refine lv_iload_n hx hb dX6_nobody_14 rfl (lv_at hl 1 rfl) ?_
    refine z_rVi (q0 := 1) (ci := 0) (b := u0) (rest := []) hC hK hP (c_X0_freeBlockAt l G u0 u1 u2 u3 u4 u5 u6 f0 gr cn cg cb f1 h0 nf tm K h1 n f x (by omega) (by omega) (by omega)) mv_X0_freeBlockAt tw_445 [1, 2, 3, 4, 5] rfl rfl rfl rfl hl.1 rfl (Nat.le_of_ble_eq_true rfl) ⟨rfl, rfl, Nat.le_of_ble_eq_true rfl, Nat.le_of_ble_eq_true rfl⟩ ⟨Nat.le_of_ble_eq_true rfl, Nat.le_of_ble_eq_true rfl⟩ dX6_nobody_15 ?_
    refine lv_goto (tgt := 22) hx hb dX6_nobody_18 (by decide) ?_
    exact z_iretR hC hr hlk (rfl) dX6_nobody_22

set_option maxRecDepth 100000 in
set_option maxHeartbeats 4000000 in
theorem c_X6_nobody_n (l : Launch) (G : zGt) (b0 b1 g0 e0 f0 w0 u0 : Nat) (mc rn ll : Int) (u1 u2 u3 u4 u5 u6 : Nat) (gr cn cg cb : Int) (f1 h0 : Nat) (nf tm : Int) (K : Int → Int) (h1 : Nat) (n : Int) (f : Int → Int64) (x : Int) (hgr : 0 ≤ gr ∧ gr ≤ 40) (hg6 : 6 < gr) : Met l yX6_nobody (Cond.code yX6_nobody cX6_nobody 2 (some .int) :: tb) ({ frames := 1, cells := 0, slots := 0, locals := 20 } : Room) (zPr G [(b0, ob 6 [.ref b1, vI mc, .ref g0, .ref e0, vI rn, .ref f0, .ref w0, .ref u0, vI ll]), (u0, ob 0 [.ref f0, vI gr, .ref u1, .ref u2, .ref u3, .ref u4, .ref u5, .ref u6, vI cn, vI cg, vI cb]), (f0, ob 2 [.ref h0, .ref f1, vI nf, vI tm]), (f1, aI G 40 K), (h0, ob 1 [.ref h1, vI n]), (h1, aJ G 24 f)] [.ref b0, vI x]) (vp_Si (fun r => r = iI (-1))) 0 0 (fun _ => False) := by
  refine Met.ofW (cc := cX6_nobody) (maxL := 2) (ret := (some .int)) (by decide) rfl ?_
  intro p e s m args below meth c s₁ B hml hv
  obtain ⟨rfl, hP, hK⟩ := hv
  obtain ⟨hC, hr, hlk⟩ := z_begin B hml
  have hC : CallFix p m c cX6_nobody 2 s _ tb RX6 := hC
  have hx := hC.1
  have hb := hC.2.1
  have hl := lv_entry ([.ref b0, vI x]) (n := 2) (Nat.le_of_ble_eq_true rfl)
  rw [lg_entry_eq]
  generalize (lg_sl ([.ref b0, vI x]) ++ List.replicate (2 - (lg_sl ([.ref b0, vI x])).length) Slot.unset).toArray = ls at hl ⊢
  have hl : lv_has ls 2 [(0, .ref b0), (1, vI x)] := hl
  refine lv_aload_n hx hb dX6_nobody_0 rfl (lv_at hl 0 rfl) ?_
  refine z_get (v := .ref u0) hC hK hP inX6 rfl 0 rfl 7 (by decide) tw_205 rfl dX6_nobody_1 ?_
  refine z_rVi (q0 := 1) (ci := 0) (b := u0) (rest := []) hC hK hP (c_X0_isTold l G u0 u1 u2 u3 u4 u5 u6 f0 gr cn cg cb (by omega)) mv_X0_isTold tw_414 [1] rfl rfl rfl rfl hl.1 rfl (Nat.le_of_ble_eq_true rfl) ⟨rfl, rfl, Nat.le_of_ble_eq_true rfl, Nat.le_of_ble_eq_true rfl⟩ ⟨Nat.le_of_ble_eq_true rfl, Nat.le_of_ble_eq_true rfl⟩ dX6_nobody_4 ?_
  refine z_top (y := 0) (if_neg (by omega)) ?_
  refine z_if_eq (tgt := 21) hx hb dX6_nobody_7 (by decide) (by omega) (fun c_7 => ?_) (fun c_7 => ?_)
  · refine lv_iconst (v := iI (-1)) hx hb dX6_nobody_21 rfl ?_
    exact z_iretR hC hr hlk (rfl) dX6_nobody_22
  · exact absurd c_7 (by decide)

set_option maxRecDepth 100000 in
set_option maxHeartbeats 4000000 in
theorem c_X6_count (l : Launch) (G : zGt) (b0 b1 g0 e0 f0 w0 u0 : Nat) (mc rn ll : Int) (g1 : Nat) (nb : Int) (dk : Int → Int64) (e1 : Nat) (nh : Int) (hd : Int → Int) (f1 h0 : Nat) (nf tm : Int) (K : Int → Int) (x : Int) (hx : -2147483648 ≤ x ∧ x < 2147483648) : Met l yX6_count (Cond.code yX6_count cX6_count 2 (some .int) :: tb) ({ frames := 1, cells := 0, slots := 0, locals := 20 } : Room) (zPr G [(b0, ob 6 [.ref b1, vI mc, .ref g0, .ref e0, vI rn, .ref f0, .ref w0, .ref u0, vI ll]), (g0, ob 1 [.ref g1, vI nb]), (g1, aJ G 24 dk), (e0, ob 3 [.ref e1, vI nh]), (e1, aI G 36 hd), (f0, ob 2 [.ref h0, .ref f1, vI nf, vI tm]), (f1, aI G 40 K)] [.ref b0, vI x]) (vp_Si (fun r => r = iI (if x = 0 then nb else if x = 1 then mc else if x = 2 then nh else if x = 3 then nf else if x = 4 then rn else if x = 5 then ll else -1))) 0 0 (fun _ => False) := by
  refine Met.ofW (cc := cX6_count) (maxL := 2) (ret := (some .int)) (by decide) rfl ?_
  intro p e s m args below meth c s₁ B hml hv
  obtain ⟨rfl, hP, hK⟩ := hv
  obtain ⟨hC, hr, hlk⟩ := z_begin B hml
  have hC : CallFix p m c cX6_count 2 s _ tb RX6 := hC
  have hx := hC.1
  have hb := hC.2.1
  have hl := lv_entry ([.ref b0, vI x]) (n := 2) (Nat.le_of_ble_eq_true rfl)
  rw [lg_entry_eq]
  generalize (lg_sl ([.ref b0, vI x]) ++ List.replicate (2 - (lg_sl ([.ref b0, vI x])).length) Slot.unset).toArray = ls at hl ⊢
  have hl : lv_has ls 2 [(0, .ref b0), (1, vI x)] := hl
  refine lv_iload_n hx hb dX6_count_0 rfl (lv_at hl 1 rfl) ?_
  have hsw_ : (iI x).toInt = x := iI_toInt (by omega)
  by_cases hs0_ : x < 0 ∨ 5 < x
  · refine lv_tableOut (tgt := 79) hx hb dX6_count_1 (by rw [hsw_]; omega) (by decide) ?_
    refine lv_iconst (v := iI (-1)) hx hb dX6_count_79 rfl ?_
    exact z_iretR hC hr hlk (by first | (rw [hs_]; rfl) | (rw [if_neg (by omega), if_neg (by omega), if_neg (by omega), if_neg (by omega), if_neg (by omega), if_neg (by omega)])) dX6_count_80
  rcases (show x = 0 ∨ x = 1 ∨ x = 2 ∨ x = 3 ∨ x = 4 ∨ x = 5 by omega) with hs_ | hs_ | hs_ | hs_ | hs_ | hs_
  · refine lv_tableIn (off := 39) (tgt := 40) hx hb dX6_count_1 (by rw [hsw_]; omega) (by rw [hsw_]; omega) (by rw [hsw_, hs_]; rfl) (by decide) ?_
    refine lv_aload_n hx hb dX6_count_40 rfl (lv_at hl 0 rfl) ?_
    refine z_get (v := .ref g0) hC hK hP inX6 rfl 0 rfl 2 (by decide) tw_200 rfl dX6_count_41 ?_
    refine z_rVi (q0 := 1) (ci := 1) (b := g0) (rest := []) hC hK hP (c_X1_size l G g0 g1 nb dk) mv_X1_size tw_257 [1, 2] rfl rfl rfl rfl hl.1 rfl (Nat.le_of_ble_eq_true rfl) ⟨rfl, rfl, Nat.le_of_ble_eq_true rfl, Nat.le_of_ble_eq_true rfl⟩ ⟨Nat.le_of_ble_eq_true rfl, Nat.le_of_ble_eq_true rfl⟩ dX6_count_44 ?_
    exact z_iretR hC hr hlk (by first | (rw [hs_]; rfl) | (rw [if_neg (by omega), if_neg (by omega), if_neg (by omega), if_neg (by omega), if_neg (by omega), if_neg (by omega)])) dX6_count_47
  · refine lv_tableIn (off := 47) (tgt := 48) hx hb dX6_count_1 (by rw [hsw_]; omega) (by rw [hsw_]; omega) (by rw [hsw_, hs_]; rfl) (by decide) ?_
    refine lv_aload_n hx hb dX6_count_48 rfl (lv_at hl 0 rfl) ?_
    refine z_get (v := vI mc) hC hK hP inX6 rfl 0 rfl 1 (by decide) tw_199 rfl dX6_count_49 ?_
    exact z_iretR hC hr hlk (by first | (rw [hs_]; rfl) | (rw [if_neg (by omega), if_neg (by omega), if_neg (by omega), if_neg (by omega), if_neg (by omega), if_neg (by omega)])) dX6_count_52
  · refine lv_tableIn (off := 52) (tgt := 53) hx hb dX6_count_1 (by rw [hsw_]; omega) (by rw [hsw_]; omega) (by rw [hsw_, hs_]; rfl) (by decide) ?_
    refine lv_aload_n hx hb dX6_count_53 rfl (lv_at hl 0 rfl) ?_
    refine z_get (v := .ref e0) hC hK hP inX6 rfl 0 rfl 3 (by decide) tw_201 rfl dX6_count_54 ?_
    refine z_rVi (q0 := 3) (ci := 3) (b := e0) (rest := []) hC hK hP (c_X3_size l G e0 e1 nh hd) mv_X3_size tw_458 [3, 4] rfl rfl rfl rfl hl.1 rfl (Nat.le_of_ble_eq_true rfl) ⟨rfl, rfl, Nat.le_of_ble_eq_true rfl, Nat.le_of_ble_eq_true rfl⟩ ⟨Nat.le_of_ble_eq_true rfl, Nat.le_of_ble_eq_true rfl⟩ dX6_count_57 ?_
    exact z_iretR hC hr hlk (by first | (rw [hs_]; rfl) | (rw [if_neg (by omega), if_neg (by omega), if_neg (by omega), if_neg (by omega), if_neg (by omega), if_neg (by omega)])) dX6_count_60
  · refine lv_tableIn (off := 60) (tgt := 61) hx hb dX6_count_1 (by rw [hsw_]; omega) (by rw [hsw_]; omega) (by rw [hsw_, hs_]; rfl) (by decide) ?_
    refine lv_aload_n hx hb dX6_count_61 rfl (lv_at hl 0 rfl) ?_
    refine z_get (v := .ref f0) hC hK hP inX6 rfl 0 rfl 5 (by decide) tw_203 rfl dX6_count_62 ?_
    refine z_rVi (q0 := 5) (ci := 2) (b := f0) (rest := []) hC hK hP (c_X2_size l G f0 f1 h0 nf tm K) mv_X2_size tw_409 [5, 6] rfl rfl rfl rfl hl.1 rfl (Nat.le_of_ble_eq_true rfl) ⟨rfl, rfl, Nat.le_of_ble_eq_true rfl, Nat.le_of_ble_eq_true rfl⟩ ⟨Nat.le_of_ble_eq_true rfl, Nat.le_of_ble_eq_true rfl⟩ dX6_count_65 ?_
    exact z_iretR hC hr hlk (by first | (rw [hs_]; rfl) | (rw [if_neg (by omega), if_neg (by omega), if_neg (by omega), if_neg (by omega), if_neg (by omega), if_neg (by omega)])) dX6_count_68
  · refine lv_tableIn (off := 68) (tgt := 69) hx hb dX6_count_1 (by rw [hsw_]; omega) (by rw [hsw_]; omega) (by rw [hsw_, hs_]; rfl) (by decide) ?_
    refine lv_aload_n hx hb dX6_count_69 rfl (lv_at hl 0 rfl) ?_
    refine z_get (v := vI rn) hC hK hP inX6 rfl 0 rfl 4 (by decide) tw_202 rfl dX6_count_70 ?_
    exact z_iretR hC hr hlk (by first | (rw [hs_]; rfl) | (rw [if_neg (by omega), if_neg (by omega), if_neg (by omega), if_neg (by omega), if_neg (by omega), if_neg (by omega)])) dX6_count_73
  · refine lv_tableIn (off := 73) (tgt := 74) hx hb dX6_count_1 (by rw [hsw_]; omega) (by rw [hsw_]; omega) (by rw [hsw_, hs_]; rfl) (by decide) ?_
    refine lv_aload_n hx hb dX6_count_74 rfl (lv_at hl 0 rfl) ?_
    refine z_get (v := vI ll) hC hK hP inX6 rfl 0 rfl 8 (by decide) tw_206 rfl dX6_count_75 ?_
    exact z_iretR hC hr hlk (by first | (rw [hs_]; rfl) | (rw [if_neg (by omega), if_neg (by omega), if_neg (by omega), if_neg (by omega), if_neg (by omega), if_neg (by omega)])) dX6_count_78
