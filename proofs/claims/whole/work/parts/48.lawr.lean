/-! the law's own methods: catches -/
abbrev zNo : String → State → State → Prop := vx_X (fun _ : Unit => False) (fun _ _ _ => False) (fun _ => False)
def zMH (y : MethodName) (bytes : ByteArray) (maxL : Nat) (ret : Option FieldType) (hh : List (Nat × Nat × Nat × Nat)) (n : Nat) : Prop :=
  Cond.codeWith y bytes maxL ret hh ∈ tb ∧ Cond.static y ∈ tb ∧ Cond.initialized y.cls ∈ tb ∧ (y.cls ≠ "java/lang/invoke/MethodHandle" ∧ y.cls ≠ "java/lang/invoke/VarHandle" ∧ (parseMethodDescriptor y.desc).map (fun d => d.parameters.length) = some n)
theorem z_beginH {l : Launch} {y : MethodName} {cc : ByteArray} {maxL : Nat} {ret : Option FieldType} {hh : List (Nat × Nat × Nat × Nat)} {rm : Room} {p : Program} {e : Env} {s : State} {m : MethodId} {args : Array Value} {below : List Frame} {meth : Method} {c : Code} {s₁ : State}
    (B : BodyLoose p l y (headSpec (Cond.codeWith y cc maxL ret hh :: tb) rm) cc maxL ret e s m args below meth c s₁) (hml : c.maxLocals = maxL) : CallFix p m c cc maxL s args tb y.cls ∧ meth.sig.returnType = ret ∧ meth.locks = false :=
  ⟨⟨B.exec, B.bytes, hml, findClass_of_methodNamed B.named, fun w hw => atoms_spec (ws := Cond.codeWith y cc maxL ret hh :: tb) B.pre w (List.mem_cons_of_mem _ hw)⟩, B.returns, B.notSynchronized⟩
section ZLw
variable {p : Program} {l : Launch} {e : Env} {R : Room} {s : State} {m : MethodId} {args : Array Value} {below : List Frame} {meth : Method} {c : Code} {H : Heap} {locs : List Loc} {cells slots : Nat} {Q : State → Prop}
variable {cc : ByteArray} {pc nL : Nat} {ls : Array Slot} {rest st0 : List Value} {G : zGt} {A : Nat → Prop} {ws : va_W} {own : String} {a : Nat}
/-- a callee that throws, caught here -/
theorem z_xC {pre suf : List ExceptionTableEntry} {x : ExceptionTableEntry} {name : String} (hC : CallFix p m c cc nL s args tb own) (hK : zK G s) (hTt : zT s) (hX : zX A s s.heap) (htab : c.exceptionTable.toList = pre ++ x :: suf) (hP : va_P G.1 vwCl ws H) (hD : va_D A ws) (hS : va_S A s.heap H locs) (hA1 : ∀ q, s.heap.size ≤ q → A q) {y : MethodName} {bytes : ByteArray} {maxL n index ci q0 b mc ms : Nat} {ret : Option FieldType} {rm : Room} {As : List Value} {wc wr : va_W} {q : vw_C} {fs : List Value} {E0 : String}
    (hM : vx_Met l y (Cond.code y bytes maxL ret :: tb) rm (zPx G wc H.size (.ref b :: As)) zFl (zXQ G wc H.size E0) mc ms (va_A wc H.size)) (hm : zMV y bytes maxL ret q.1 n) (hl : Cond.methodLink own index y ∈ tb)
    (is ir : List Nat) (hi1 : is.map (fun i => ws[i]?) = wc.map some) (hi2 : ir.map (fun i => ws[i]?) = wr.map some) (hn1 : va_nd is = true) (hn2 : va_nd ir = true) (hdis : ∀ i ∈ ir, i ∉ is) (hs : is.filterMap (fun i => ws[i]?) = wc) (hc : vwCl[ci]? = some q) (he : ws[q0]? = some (b, ob ci fs)) (hn : As.length = n) (hsz : ls.size = nL) (hst : st0 = As.reverse ++ .ref b :: rest) (hW : (rest.map fun v => v.category).sum ≤ 8)
    (hR : rm.cells = mc ∧ rm.slots = ms ∧ rm.frames + 1 ≤ R.frames ∧ 8 + (maxL + 11) + rm.locals ≤ R.locals) (hf : cells + mc ≤ R.cells ∧ slots + ms ≤ R.slots)
    (hpass : ∀ z ∈ pre, covers z pc = false ∨ (z.catchType ≠ 0 ∧ ∃ nm : String, (Cond.classLink own z.catchType nm).before args s = true ∧ va_Nc E0 nm s)) (hcov : covers x pc = true) (h0 : x.catchType ≠ 0) (hlink : Cond.classLink own x.catchType name ∈ tb) (hcast : (Cond.castable E0 name).before args s = true) (hdg : decode cc pc = .ok (.invokevirtual index, 3))
    (kk : ∀ (q9 : Nat) (H1 : Heap) (locs1 : List Loc), va_P G.1 vwCl (wr ++ wc) H1 → va_D A (wr ++ wc) → va_S A s.heap H1 locs1 → W p l e R s m args below meth c H1 locs1 (cells + mc) (slots + ms) Q (F0 m x.handlerPc ls [.ref q9])) :
    W p l e R s m args below meth c H locs cells slots Q (F0 m pc ls st0) := by
  have hFc := va_free (wc := wc) hD hS hA1 is hi1
  have hXh : zX (va_A wc H.size) s H := (hX.kept (fun a h1 h2 => hS.2.1 a h1 h2)).narrow hFc
  have hr := vx_runV (e := e) (below := below) (meth := meth) (locs := locs) (cells := cells) (slots := slots) (rest := rest) (g := F0 m pc ls st0) hC hM (cwV n hC.2.2.2.2 (tb_wsV hm hl) rfl hR.1 hR.2.1 hm.2.2.2.2 hR.2.2) ⟨zPx.blind, va_recv hK.1 hP hc he, fun U hU hW => ⟨rfl, by rw [hU], by rw [hU]; exact hP.sub is hs, hK.warm hW, (hD.sub is hn1 hi1).weaken (fun _ _ _ _ => trivial), hTt.warm hW, by rw [hU]; exact hXh.moved hW.alike⟩⟩ rfl hn hsz hst (lv_room hW) hdg hf
  intro T hT X
  rcases hr T hT X with ⟨v, st₀, t, T', L, g0, X', hL, e1, e2, hQ, st⟩ | ⟨q9, st₀, t, T', L, E, ce, g0, X', hL, e1, e2, ⟨u, hp, ⟨hE, hB⟩, hF⟩, hce, hcv, hcl, st⟩
  · exact hQ.elim
  · obtain ⟨k1, k2, k3⟩ := vx_keep g0 e1 hS (fun q _ h => hFc q h) hFc hL hF
    have hce2 : T'.heap[q9]? = some ce := by rw [e1]; exact hce
    obtain ⟨j1, j2⟩ := va_join (H1 := T'.heap) hP hD is ir hi1 hi2 hn2 hdis k2 hFc (by rw [e1]; exact hB.1) hB.2
    subst hE
    obtain ⟨t2, a1, b1⟩ := vx_catch (rest := rest) hC.2.2.2.1 pre x suf htab hpass hcov h0 (hC.2.2.2.2 _ hlink) hcast hce2 hcv hcl (kk q9 T'.heap (locs ++ L) j1 j2 k3) T' rfl X'
    exact ⟨t2, st.trans a1, b1⟩
end ZLw
section ZLs
variable {p : Program} {l : Launch} {e : Env} {R : Room} {s : State} {m : MethodId} {args : Array Value} {below : List Frame} {meth : Method} {c : Code} {H : Heap} {locs : List Loc} {cells slots : Nat} {Q : State → Prop}
variable {cc : ByteArray} {pc nL : Nat} {ls : Array Slot} {rest st0 : List Value} {G : zGt} {A : Nat → Prop} {X pl : va_W} {own : String} {a : Nat}
theorem z_wSx_t (hC : CallFix p m c cc nL s args tb own) (hK : zK G s) (hTt : zT s) (hX : zX A s s.heap) (hP : va_P G.1 vwCl (X ++ pl) H) (hD : va_D A (X ++ pl)) (hS : va_S A s.heap H locs) (hA : ∀ q, s.heap.size ≤ q → A q) {y : MethodName} {bytes : ByteArray} {maxL n index mc ms : Nat} {ret : Option FieldType} {hh : List (Nat × Nat × Nat × Nat)} {rm : Room} {As : List Value} {wc wr : va_W} {S : Type} {post : Int32 → S → Prop} {w1 : S → va_W}
    (hM : vx_Met l y (Cond.codeWith y bytes maxL ret hh :: tb) rm (zPx G wc H.size As) (va_Qi post (fun u t => zB G wc H.size (w1 u) t) (va_A wc H.size)) zNo mc ms (va_A wc H.size)) (hm : zMH y bytes maxL ret hh n) (hl : Cond.methodLink own index y ∈ tb)
    (is ir : List Nat) (hi1 : is.map (fun i => X[i]?) = wc.map some) (hi2 : ir.map (fun i => X[i]?) = wr.map some) (hn1 : va_nd is = true) (hn2 : va_nd ir = true) (hdis : ∀ i ∈ ir, i ∉ is) (hs : is.filterMap (fun i => X[i]?) = wc) (hn : As.length = n) (hsz : ls.size = nL) (hst : st0 = As.reverse ++ rest) (hW : (rest.map fun v => v.category).sum ≤ 8)
    (hR : rm.cells = mc ∧ rm.slots = ms ∧ rm.frames + 1 ≤ R.frames ∧ 8 + (maxL + 11) + rm.locals ≤ R.locals) (hf : cells + mc ≤ R.cells ∧ slots + ms ≤ R.slots) (hdg : decode cc pc = .ok (.invokestatic index, 3))
    (kk : ∀ (r : Int32) (u : S) (H1 : Heap) (locs1 : List Loc), post r u → va_P G.1 vwCl ((wr ++ w1 u) ++ pl) H1 → va_D A ((wr ++ w1 u) ++ pl) → va_S A s.heap H1 locs1 → W p l e R s m args below meth c H1 locs1 (cells + mc) (slots + ms) Q (F0 m (pc + 3) ls (.int r :: rest))) : W p l e R s m args below meth c H locs cells slots Q (F0 m pc ls st0) := by
  have hFc := va_free (wc := wc) (va_D_left hD) hS hA is hi1
  have hXh : zX (va_A wc H.size) s H := (hX.kept (fun a h1 h2 => hS.2.1 a h1 h2)).narrow hFc
  refine vx_calli (vx_runSX hC hM (vx_cwSW n hC.2.2.2.2 (tb_in (tb_c hl (tb_c hm.2.1 (tb_c hm.2.2.1 (tb_c hm.1 (fun _ h => h)))))) rfl hR.1 hR.2.1 hm.2.2.2 hR.2.2) ⟨zPx.blind, fun U hU hW => ⟨rfl, by rw [hU], by rw [hU]; exact (va_P_left hP).sub is hs, hK.warm hW, ((va_D_left hD).sub is hn1 hi1).weaken (fun _ _ _ _ => trivial), hTt.warm hW, by rw [hU]; exact hXh.moved hW.alike⟩⟩ rfl hn hsz hst (lv_room hW) hdg hf) hS (fun q _ h => hFc q h) hFc (fun q _ h => h.elim) (fun E ce q9 u t H1 locs1 ht hv hp hb h1 h2 h3 h4 h5 h6 => hp.elim) (fun r u t H1 locs1 ht hvm hw hB hz1 hk1 hS1 => ?_)
  subst ht
  obtain ⟨h1, h2⟩ := va_joinQ hP hD is ir hi1 hi2 hn2 hdis hk1 hFc hB.1 hB.2
  exact kk r u _ locs1 hw h1 h2 hS1
theorem z_wSx_T (hC : CallFix p m c cc nL s args tb own) (hK : zK G s) (hTt : zT s) (hX : zX A s s.heap) (hP : va_P G.1 vwCl (X ++ pl) H) (hD : va_D A (X ++ pl)) (hS : va_S A s.heap H locs) (hA : ∀ q, s.heap.size ≤ q → A q) {y : MethodName} {bytes : ByteArray} {maxL n index mc ms : Nat} {ret : Option FieldType} {hh : List (Nat × Nat × Nat × Nat)} {rm : Room} {As : List Value} {wc wr : va_W} {S : Type} {post : Int32 → S → Prop} {w1 pl1 : S → va_W}
    (hM : vx_Met l y (Cond.codeWith y bytes maxL ret hh :: tb) rm (zPx G (wc ++ pl) H.size As) (va_Qi post (fun u t => zB G (wc ++ pl) H.size (w1 u ++ pl1 u) t) (va_A (wc ++ pl) H.size)) zNo mc ms (va_A (wc ++ pl) H.size)) (hm : zMH y bytes maxL ret hh n) (hl : Cond.methodLink own index y ∈ tb)
    (is ir : List Nat) (hi1 : is.map (fun i => X[i]?) = wc.map some) (hi2 : ir.map (fun i => X[i]?) = wr.map some) (hn1 : va_nd is = true) (hn2 : va_nd ir = true) (hdis : ∀ i ∈ ir, i ∉ is) (hs : is.filterMap (fun i => X[i]?) = wc) (hn : As.length = n) (hsz : ls.size = nL) (hst : st0 = As.reverse ++ rest) (hW : (rest.map fun v => v.category).sum ≤ 8)
    (hR : rm.cells = mc ∧ rm.slots = ms ∧ rm.frames + 1 ≤ R.frames ∧ 8 + (maxL + 11) + rm.locals ≤ R.locals) (hf : cells + mc ≤ R.cells ∧ slots + ms ≤ R.slots) (hdg : decode cc pc = .ok (.invokestatic index, 3))
    (kk : ∀ (r : Int32) (u : S) (H1 : Heap) (locs1 : List Loc), post r u → va_P G.1 vwCl ((wr ++ w1 u) ++ pl1 u) H1 → va_D A ((wr ++ w1 u) ++ pl1 u) → va_S A s.heap H1 locs1 → W p l e R s m args below meth c H1 locs1 (cells + mc) (slots + ms) Q (F0 m (pc + 3) ls (.int r :: rest))) : W p l e R s m args below meth c H locs cells slots Q (F0 m pc ls st0) := by
  have hFc := va_freeP (cx := wc) hD hS hA is hi1
  have hXh : zX (va_A (wc ++ pl) H.size) s H := (hX.kept (fun a h1 h2 => hS.2.1 a h1 h2)).narrow hFc
  refine vx_calli (vx_runSX hC hM (vx_cwSW n hC.2.2.2.2 (tb_in (tb_c hl (tb_c hm.2.1 (tb_c hm.2.2.1 (tb_c hm.1 (fun _ h => h)))))) rfl hR.1 hR.2.1 hm.2.2.2 hR.2.2) ⟨zPx.blind, fun U hU hW => ⟨rfl, by rw [hU], by rw [hU]; exact hP.part is hi1, hK.warm hW, (hD.part is hn1 hi1).weaken (fun _ _ _ _ => trivial), hTt.warm hW, by rw [hU]; exact hXh.moved hW.alike⟩⟩ rfl hn hsz hst (lv_room hW) hdg hf) hS (fun q _ h => hFc q h) hFc (fun q _ h => h.elim) (fun E ce q9 u t H1 locs1 ht hv hp hb h1 h2 h3 h4 h5 h6 => hp.elim) (fun r u t H1 locs1 ht hvm hw hB hz1 hk1 hS1 => ?_)
  subst ht
  obtain ⟨h1, h2⟩ := va_joinP hP hD is ir hi1 hi2 hn2 hdis hk1 hFc hB.1 hB.2
  exact kk r u _ locs1 hw h1 h2 hS1
end ZLs
theorem mv_X6_bytes : zMV yX6_bytes cX6_bytes 2 (some .long) RX6 1 := ⟨tw_661, tw_659, tw_660, tw_35, by decide +kernel⟩
theorem mv_X6_change : zMV yX6_change cX6_change 4 (some .long) RX6 2 := ⟨tw_644, tw_642, tw_643, tw_35, by decide +kernel⟩
theorem mv_X6_check : zMV yX6_check cX6_check 2 (some .int) RX6 1 := ⟨tw_784, tw_782, tw_783, tw_35, by decide +kernel⟩
theorem mv_X6_data : zMV yX6_data cX6_data 3 (some .int) RX6 2 := ⟨tw_761, tw_759, tw_760, tw_35, by decide +kernel⟩
theorem mv_X6_edge : zMV yX6_edge cX6_edge 7 (some .int) RX6 5 := ⟨tw_590, tw_588, tw_589, tw_35, by decide +kernel⟩
theorem mv_X6_file : zMV yX6_file cX6_file 4 (some .int) RX6 2 := ⟨tw_728, tw_726, tw_727, tw_35, by decide +kernel⟩
theorem mv_X6_goals : zMV yX6_goals cX6_goals 4 (some .int) RX6 2 := ⟨tw_631, tw_629, tw_630, tw_35, by decide +kernel⟩
theorem mv_X6_make : zMV yX6_make cX6_make 4 (some .int) RX6 3 := ⟨tw_470, tw_468, tw_469, tw_35, by decide +kernel⟩
theorem mv_X6_push : zMV yX6_push cX6_push 2 (some .int) RX6 1 := ⟨tw_677, tw_675, tw_676, tw_35, by decide +kernel⟩
theorem mv_X6_reach : zMV yX6_reach cX6_reach 3 (some .int) RX6 1 := ⟨tw_669, tw_667, tw_668, tw_35, by decide +kernel⟩
theorem mv_X6_torn : zMV yX6_torn cX6_torn 3 (some .int) RX6 1 := ⟨tw_773, tw_771, tw_772, tw_35, by decide +kernel⟩
theorem mv_X6_write : zMV yX6_write cX6_write 6 (some .int) RX6 1 := ⟨tw_689, tw_687, tw_688, tw_35, by decide +kernel⟩
set_option maxRecDepth 100000 in
set_option maxHeartbeats 4000000 in
theorem c_L_make_0 (l : Launch) (hst : l.stackTraces = false) (G : zGt) (sz : Nat) (b0 b1 g0 e0 f0 w0 u0 : Nat) (mc rn ll : Int) (MK : Int → Option Nat) (x y z : Int) (z0 : Nat) (OV : Int → Int64) (khok : ((0 ≤ x ∧ x < 256) ∧ (0 ≤ y ∧ y < 256) ∧ 0 ≤ z ∧ z ≤ 2)) (khmc : 0 ≤ mc ∧ mc < 6) : vx_Met l yL_make (Cond.codeWith yL_make cL_make 6 (some .int) [(0, 12, 15, 13), (0, 12, 19, 15)] :: tb) ({ frames := 3, cells := 2, slots := 4102, locals := 58 } : Room) (zPx G [(b0, ob 6 [.ref b1, vI mc, .ref g0, .ref e0, vI rn, .ref f0, .ref w0, .ref u0, vI ll]), (b1, aR G 6 MK), (z0, aJ G 1 OV)] sz [.ref b0, vI x, vI y, vI z, .ref z0]) (va_Qi (fun (r : Int32) (u : Nat × Nat) => r = iI 0 ∧ True) (fun (u : Nat × Nat) t => zB G [(b0, ob 6 [.ref b1, vI mc, .ref g0, .ref e0, vI rn, .ref f0, .ref w0, .ref u0, vI ll]), (b1, aR G 6 MK), (z0, aJ G 1 OV)] sz [(b0, ob 6 [.ref b1, vI (mc + 1), .ref g0, .ref e0, vI rn, .ref f0, .ref w0, .ref u0, vI ll]), (b1, aR G 6 (zup MK mc (some u.1))), (u.1, ob 4 [vI x, vI y, vI z, vI 0, vI 0, .ref u.2]), (u.2, aI G 4096 (fun _ => 0)), (z0, aJ G 1 (zup OV 0 (zi2l mc)))] t) (va_A [(b0, ob 6 [.ref b1, vI mc, .ref g0, .ref e0, vI rn, .ref f0, .ref w0, .ref u0, vI ll]), (b1, aR G 6 MK), (z0, aJ G 1 OV)] sz)) zNo 2 4102 (va_A [(b0, ob 6 [.ref b1, vI mc, .ref g0, .ref e0, vI rn, .ref f0, .ref w0, .ref u0, vI ll]), (b1, aR G 6 MK), (z0, aJ G 1 OV)] sz) := by
  refine vx_ofWH (cc := cL_make) (maxL := 6) (ret := (some .int)) (hh := [(0, 12, 15, 13), (0, 12, 19, 15)]) (by decide) rfl ?_
  intro p e s m args below meth c s₁ B hml hv
  obtain ⟨rfl, hsz, hP, hK, hD0, hTt, hX⟩ := hv
  subst hsz
  have hD := hD0.self (sz := s.heap.size)
  obtain ⟨A, hAe⟩ : ∃ A : Nat → Prop, A = va_A [(b0, ob 6 [.ref b1, vI mc, .ref g0, .ref e0, vI rn, .ref f0, .ref w0, .ref u0, vI ll]), (b1, aR G 6 MK), (z0, aJ G 1 OV)] s.heap.size := ⟨_, rfl⟩
  rw [← hAe] at hD hX
  have hA : ∀ q : Nat, s.heap.size ≤ q → A q := fun q h => by rw [hAe]; exact Or.inr h
  have hS : va_S A s.heap s.heap [] := va_S.rf
  have htab := vx_table (x := yL_make) B (atoms_spec (ws := Cond.codeWith yL_make cL_make 6 (some .int) [(0, 12, 15, 13), (0, 12, 19, 15)] :: tb) B.pre _ List.mem_cons_self)
  obtain ⟨hC, hr, hlk⟩ := z_beginH B hml
  have hC : CallFix p m c cL_make 6 s _ tb RL := hC
  have hx := hC.1
  have hb := hC.2.1
  have hl := lv_entry ([.ref b0, vI x, vI y, vI z, .ref z0]) (n := 6) (Nat.le_of_ble_eq_true rfl)
  rw [lg_entry_eq]
  generalize (lg_sl ([.ref b0, vI x, vI y, vI z, .ref z0]) ++ List.replicate (6 - (lg_sl ([.ref b0, vI x, vI y, vI z, .ref z0])).length) Slot.unset).toArray = ls at hl ⊢
  have hl : lv_has ls 6 [(0, .ref b0), (1, vI x), (2, vI y), (3, vI z), (4, .ref z0)] := hl
  obtain ⟨H, hHe⟩ : ∃ H : Heap, H = s.heap := ⟨_, rfl⟩
  obtain ⟨locs, hLe⟩ : ∃ L : List Loc, L = [] := ⟨_, rfl⟩
  suffices hgo : W p l e (headSpec (Cond.codeWith yL_make cL_make 6 (some .int) [(0, 12, 15, 13), (0, 12, 19, 15)] :: tb) ({ frames := 3, cells := 2, slots := 4102, locals := 58 } : Room)).room s m ([.ref b0, vI x, vI y, vI z, .ref z0] : List Value).toArray below meth c H locs 0 0 (vx_MQ below (va_Qi (fun (r : Int32) (u : Nat × Nat) => r = iI 0 ∧ True) (fun (u : Nat × Nat) t => zB G [(b0, ob 6 [.ref b1, vI mc, .ref g0, .ref e0, vI rn, .ref f0, .ref w0, .ref u0, vI ll]), (b1, aR G 6 MK), (z0, aJ G 1 OV)] s.heap.size [(b0, ob 6 [.ref b1, vI (mc + 1), .ref g0, .ref e0, vI rn, .ref f0, .ref w0, .ref u0, vI ll]), (b1, aR G 6 (zup MK mc (some u.1))), (u.1, ob 4 [vI x, vI y, vI z, vI 0, vI 0, .ref u.2]), (u.2, aI G 4096 (fun _ => 0)), (z0, aJ G 1 (zup OV 0 (zi2l mc)))] t) (va_A [(b0, ob 6 [.ref b1, vI mc, .ref g0, .ref e0, vI rn, .ref f0, .ref w0, .ref u0, vI ll]), (b1, aR G 6 MK), (z0, aJ G 1 OV)] s.heap.size)) zNo ([.ref b0, vI x, vI y, vI z, .ref z0] : List Value).toArray s 2 4102 (va_A [(b0, ob 6 [.ref b1, vI mc, .ref g0, .ref e0, vI rn, .ref f0, .ref w0, .ref u0, vI ll]), (b1, aR G 6 MK), (z0, aJ G 1 OV)] s.heap.size)) (F0 m 0 ls []) by rw [hHe, hLe] at hgo; exact hgo
  rw [← hHe] at hP
  have hS : va_S A s.heap H locs := by rw [hHe, hLe]; exact hS
  clear hHe hLe
  refine lv_aload hx hb dL_make_0 (lv_at hl 4 rfl) ?_
  refine lv_iconst (v := iI 0) hx hb dL_make_2 rfl ?_
  refine lv_aload_n hx hb dL_make_3 rfl (lv_at hl 0 rfl) ?_
  refine lv_iload_n hx hb dL_make_4 rfl (lv_at hl 1 rfl) ?_
  refine lv_iload_n hx hb dL_make_5 rfl (lv_at hl 2 rfl) ?_
  refine lv_iload_n hx hb dL_make_6 rfl (lv_at hl 3 rfl) ?_
  refine z_wVi (q0 := 0) (ci := 6) (b := b0) (rest := [vI 0, .ref z0]) (wr := [(z0, aJ G 1 OV)]) hC hK hP hD hS hA (c_X6_make_0 l G H.size b0 b1 g0 e0 f0 w0 u0 mc rn ll MK x y z (khok) (khmc)) mv_X6_make tw_467 [0, 1] [2] rfl rfl rfl rfl (by decide) rfl rfl rfl rfl hl.1 rfl (Nat.le_of_ble_eq_true rfl) ⟨rfl, rfl, Nat.le_of_ble_eq_true rfl, Nat.le_of_ble_eq_true rfl⟩ ⟨Nat.le_of_ble_eq_true rfl, Nat.le_of_ble_eq_true rfl⟩ dL_make_7 (fun r u H locs hw hP hD hS => ?_)
  obtain ⟨m0'_1, m1'_1⟩ := u
  dsimp only at hw hP hD
  have hP : va_P G.1 vwCl [(z0, aJ G 1 OV), (b0, ob 6 [.ref b1, vI (mc + 1), .ref g0, .ref e0, vI rn, .ref f0, .ref w0, .ref u0, vI ll]), (b1, aR G 6 (zup MK mc (some m0'_1))), (m0'_1, ob 4 [vI x, vI y, vI z, vI 0, vI 0, .ref m1'_1]), (m1'_1, aI G 4096 (fun _ => 0))] H := hP
  have hD : va_D A [(z0, aJ G 1 OV), (b0, ob 6 [.ref b1, vI (mc + 1), .ref g0, .ref e0, vI rn, .ref f0, .ref w0, .ref u0, vI ll]), (b1, aR G 6 (zup MK mc (some m0'_1))), (m0'_1, ob 4 [vI x, vI y, vI z, vI 0, vI 0, .ref m1'_1]), (m1'_1, aI G 4096 (fun _ => 0))] := hD
  obtain ⟨hrw_, hw_1⟩ := hw
  rw [hrw_]
  clear hrw_
  have hpo := hw_1
  refine lv_i2l (v := zi2l mc) hx hb dL_make_10 rfl ?_
  refine z_last (ws' := [(z0, aJ G 1 (zup OV 0 (zi2l mc))), (b0, ob 6 [.ref b1, vI (mc + 1), .ref g0, .ref e0, vI rn, .ref f0, .ref w0, .ref u0, vI ll]), (b1, aR G 6 (zup MK mc (some m0'_1))), (m0'_1, ob 4 [vI x, vI y, vI z, vI 0, vI 0, .ref m1'_1]), (m1'_1, aI G 4096 (fun _ => 0))]) hC hK hP hD hS 0 rfl (by omega) (by decide) rfl dL_make_11 (fun H locs hP hD hS => ?_)
  refine lv_goto (tgt := 23) hx hb dL_make_12 (by decide) ?_
  refine lv_iconst (v := iI 0) hx hb dL_make_23 rfl ?_
  refine vx_ret ?_
  exact z_iretW hC hr hlk ⟨m0'_1, m1'_1⟩ hAe hP hD hS [1, 2, 3, 4, 0] (by decide) rfl rfl (⟨rfl, hpo⟩) dL_make_24

set_option maxRecDepth 100000 in
set_option maxHeartbeats 4000000 in
theorem c_L_make_1 (l : Launch) (hst : l.stackTraces = false) (G : zGt) (sz : Nat) (b0 b1 g0 e0 f0 w0 u0 : Nat) (mc rn ll : Int) (x y z : Int) (z0 : Nat) (OV : Int → Int64) (khx : -2147483648 ≤ x ∧ x < 2147483648) (khy : -2147483648 ≤ y ∧ y < 2147483648) (khz : -2147483648 ≤ z ∧ z < 2147483648) (khno : ¬ ((0 ≤ x ∧ x < 256) ∧ (0 ≤ y ∧ y < 256) ∧ 0 ≤ z ∧ z ≤ 2)) : vx_Met l yL_make (Cond.codeWith yL_make cL_make 6 (some .int) [(0, 12, 15, 13), (0, 12, 19, 15)] :: tb) ({ frames := 7, cells := 1, slots := 6, locals := 105 } : Room) (zPx G [(b0, ob 6 [.ref b1, vI mc, .ref g0, .ref e0, vI rn, .ref f0, .ref w0, .ref u0, vI ll]), (z0, aJ G 1 OV)] sz [.ref b0, vI x, vI y, vI z, .ref z0]) (va_Qi (fun (r : Int32) (u : Unit) => r = iI 1 ∧ True) (fun (u : Unit) t => zB G [(b0, ob 6 [.ref b1, vI mc, .ref g0, .ref e0, vI rn, .ref f0, .ref w0, .ref u0, vI ll]), (z0, aJ G 1 OV)] sz [(b0, ob 6 [.ref b1, vI mc, .ref g0, .ref e0, vI rn, .ref f0, .ref w0, .ref u0, vI ll]), (z0, aJ G 1 OV)] t) (va_A [(b0, ob 6 [.ref b1, vI mc, .ref g0, .ref e0, vI rn, .ref f0, .ref w0, .ref u0, vI ll]), (z0, aJ G 1 OV)] sz)) zNo 1 6 (va_A [(b0, ob 6 [.ref b1, vI mc, .ref g0, .ref e0, vI rn, .ref f0, .ref w0, .ref u0, vI ll]), (z0, aJ G 1 OV)] sz) := by
  refine vx_ofWH (cc := cL_make) (maxL := 6) (ret := (some .int)) (hh := [(0, 12, 15, 13), (0, 12, 19, 15)]) (by decide) rfl ?_
  intro p e s m args below meth c s₁ B hml hv
  obtain ⟨rfl, hsz, hP, hK, hD0, hTt, hX⟩ := hv
  subst hsz
  have hD := hD0.self (sz := s.heap.size)
  obtain ⟨A, hAe⟩ : ∃ A : Nat → Prop, A = va_A [(b0, ob 6 [.ref b1, vI mc, .ref g0, .ref e0, vI rn, .ref f0, .ref w0, .ref u0, vI ll]), (z0, aJ G 1 OV)] s.heap.size := ⟨_, rfl⟩
  rw [← hAe] at hD hX
  have hA : ∀ q : Nat, s.heap.size ≤ q → A q := fun q h => by rw [hAe]; exact Or.inr h
  have hS : va_S A s.heap s.heap [] := va_S.rf
  have htab := vx_table (x := yL_make) B (atoms_spec (ws := Cond.codeWith yL_make cL_make 6 (some .int) [(0, 12, 15, 13), (0, 12, 19, 15)] :: tb) B.pre _ List.mem_cons_self)
  obtain ⟨hC, hr, hlk⟩ := z_beginH B hml
  have hC : CallFix p m c cL_make 6 s _ tb RL := hC
  have hx := hC.1
  have hb := hC.2.1
  have hl := lv_entry ([.ref b0, vI x, vI y, vI z, .ref z0]) (n := 6) (Nat.le_of_ble_eq_true rfl)
  rw [lg_entry_eq]
  generalize (lg_sl ([.ref b0, vI x, vI y, vI z, .ref z0]) ++ List.replicate (6 - (lg_sl ([.ref b0, vI x, vI y, vI z, .ref z0])).length) Slot.unset).toArray = ls at hl ⊢
  have hl : lv_has ls 6 [(0, .ref b0), (1, vI x), (2, vI y), (3, vI z), (4, .ref z0)] := hl
  obtain ⟨H, hHe⟩ : ∃ H : Heap, H = s.heap := ⟨_, rfl⟩
  obtain ⟨locs, hLe⟩ : ∃ L : List Loc, L = [] := ⟨_, rfl⟩
  suffices hgo : W p l e (headSpec (Cond.codeWith yL_make cL_make 6 (some .int) [(0, 12, 15, 13), (0, 12, 19, 15)] :: tb) ({ frames := 7, cells := 1, slots := 6, locals := 105 } : Room)).room s m ([.ref b0, vI x, vI y, vI z, .ref z0] : List Value).toArray below meth c H locs 0 0 (vx_MQ below (va_Qi (fun (r : Int32) (u : Unit) => r = iI 1 ∧ True) (fun (u : Unit) t => zB G [(b0, ob 6 [.ref b1, vI mc, .ref g0, .ref e0, vI rn, .ref f0, .ref w0, .ref u0, vI ll]), (z0, aJ G 1 OV)] s.heap.size [(b0, ob 6 [.ref b1, vI mc, .ref g0, .ref e0, vI rn, .ref f0, .ref w0, .ref u0, vI ll]), (z0, aJ G 1 OV)] t) (va_A [(b0, ob 6 [.ref b1, vI mc, .ref g0, .ref e0, vI rn, .ref f0, .ref w0, .ref u0, vI ll]), (z0, aJ G 1 OV)] s.heap.size)) zNo ([.ref b0, vI x, vI y, vI z, .ref z0] : List Value).toArray s 1 6 (va_A [(b0, ob 6 [.ref b1, vI mc, .ref g0, .ref e0, vI rn, .ref f0, .ref w0, .ref u0, vI ll]), (z0, aJ G 1 OV)] s.heap.size)) (F0 m 0 ls []) by rw [hHe, hLe] at hgo; exact hgo
  rw [← hHe] at hP
  have hS : va_S A s.heap H locs := by rw [hHe, hLe]; exact hS
  clear hHe hLe
  refine lv_aload hx hb dL_make_0 (lv_at hl 4 rfl) ?_
  refine lv_iconst (v := iI 0) hx hb dL_make_2 rfl ?_
  refine lv_aload_n hx hb dL_make_3 rfl (lv_at hl 0 rfl) ?_
  refine lv_iload_n hx hb dL_make_4 rfl (lv_at hl 1 rfl) ?_
  refine lv_iload_n hx hb dL_make_5 rfl (lv_at hl 2 rfl) ?_
  refine lv_iload_n hx hb dL_make_6 rfl (lv_at hl 3 rfl) ?_
  refine z_xC (q0 := 0) (ci := 6) (b := b0) (rest := [vI 0, .ref z0]) (wr := [(z0, aJ G 1 OV)]) (pre := []) (x := ⟨0, 12, 15, 13⟩) (suf := [⟨0, 12, 19, 15⟩]) (name := XA) hC hK hTt hX (htab.trans rfl) hP hD hS hA (c_X6_make_1 l hst G H.size b0 b1 g0 e0 f0 w0 u0 mc rn ll x y z (khx) (khy) (khz) (khno)) mv_X6_make tw_467 [0] [1] rfl rfl rfl rfl (by decide) rfl rfl rfl rfl hl.1 rfl (Nat.le_of_ble_eq_true rfl) ⟨rfl, rfl, (Nat.le_of_ble_eq_true rfl), (Nat.le_of_ble_eq_true rfl)⟩ ⟨(Nat.le_of_ble_eq_true rfl), (Nat.le_of_ble_eq_true rfl)⟩ (fun z hz => absurd hz List.not_mem_nil) (by decide) (by decide) tw_465 (va_Nw.use rfl hTt.2.1.1) dL_make_7 (fun q9 H locs hP hD hS => ?_)
  have hP : va_P G.1 vwCl [(z0, aJ G 1 OV), (b0, ob 6 [.ref b1, vI mc, .ref g0, .ref e0, vI rn, .ref f0, .ref w0, .ref u0, vI ll])] H := hP
  have hD : va_D A [(z0, aJ G 1 OV), (b0, ob 6 [.ref b1, vI mc, .ref g0, .ref e0, vI rn, .ref f0, .ref w0, .ref u0, vI ll])] := hD
  refine lv_astore (lv' := [(5, .ref q9), (0, .ref b0), (1, vI x), (2, vI y), (3, vI z), (4, .ref z0)]) hx hb dL_make_15 hl (by decide) rfl (fun ls hl => ?_)
  refine lv_iconst (v := iI 1) hx hb dL_make_17 rfl ?_
  refine vx_ret ?_
  exact z_iretW hC hr hlk () hAe hP hD hS [1, 0] (by decide) rfl rfl (⟨rfl, trivial⟩) dL_make_18

set_option maxRecDepth 100000 in
set_option maxHeartbeats 4000000 in
theorem c_L_make_2 (l : Launch) (hst : l.stackTraces = false) (G : zGt) (sz : Nat) (b0 b1 g0 e0 f0 w0 u0 : Nat) (mc rn ll : Int) (x y z : Int) (z0 : Nat) (OV : Int → Int64) (khok : ((0 ≤ x ∧ x < 256) ∧ (0 ≤ y ∧ y < 256) ∧ 0 ≤ z ∧ z ≤ 2)) (khmc : mc = 6) : vx_Met l yL_make (Cond.codeWith yL_make cL_make 6 (some .int) [(0, 12, 15, 13), (0, 12, 19, 15)] :: tb) ({ frames := 7, cells := 1, slots := 6, locals := 105 } : Room) (zPx G [(b0, ob 6 [.ref b1, vI mc, .ref g0, .ref e0, vI rn, .ref f0, .ref w0, .ref u0, vI ll]), (z0, aJ G 1 OV)] sz [.ref b0, vI x, vI y, vI z, .ref z0]) (va_Qi (fun (r : Int32) (u : Unit) => r = iI 2 ∧ True) (fun (u : Unit) t => zB G [(b0, ob 6 [.ref b1, vI mc, .ref g0, .ref e0, vI rn, .ref f0, .ref w0, .ref u0, vI ll]), (z0, aJ G 1 OV)] sz [(b0, ob 6 [.ref b1, vI mc, .ref g0, .ref e0, vI rn, .ref f0, .ref w0, .ref u0, vI ll]), (z0, aJ G 1 OV)] t) (va_A [(b0, ob 6 [.ref b1, vI mc, .ref g0, .ref e0, vI rn, .ref f0, .ref w0, .ref u0, vI ll]), (z0, aJ G 1 OV)] sz)) zNo 1 6 (va_A [(b0, ob 6 [.ref b1, vI mc, .ref g0, .ref e0, vI rn, .ref f0, .ref w0, .ref u0, vI ll]), (z0, aJ G 1 OV)] sz) := by
  refine vx_ofWH (cc := cL_make) (maxL := 6) (ret := (some .int)) (hh := [(0, 12, 15, 13), (0, 12, 19, 15)]) (by decide) rfl ?_
  intro p e s m args below meth c s₁ B hml hv
  obtain ⟨rfl, hsz, hP, hK, hD0, hTt, hX⟩ := hv
  subst hsz
  have hD := hD0.self (sz := s.heap.size)
  obtain ⟨A, hAe⟩ : ∃ A : Nat → Prop, A = va_A [(b0, ob 6 [.ref b1, vI mc, .ref g0, .ref e0, vI rn, .ref f0, .ref w0, .ref u0, vI ll]), (z0, aJ G 1 OV)] s.heap.size := ⟨_, rfl⟩
  rw [← hAe] at hD hX
  have hA : ∀ q : Nat, s.heap.size ≤ q → A q := fun q h => by rw [hAe]; exact Or.inr h
  have hS : va_S A s.heap s.heap [] := va_S.rf
  have htab := vx_table (x := yL_make) B (atoms_spec (ws := Cond.codeWith yL_make cL_make 6 (some .int) [(0, 12, 15, 13), (0, 12, 19, 15)] :: tb) B.pre _ List.mem_cons_self)
  obtain ⟨hC, hr, hlk⟩ := z_beginH B hml
  have hC : CallFix p m c cL_make 6 s _ tb RL := hC
  have hx := hC.1
  have hb := hC.2.1
  have hl := lv_entry ([.ref b0, vI x, vI y, vI z, .ref z0]) (n := 6) (Nat.le_of_ble_eq_true rfl)
  rw [lg_entry_eq]
  generalize (lg_sl ([.ref b0, vI x, vI y, vI z, .ref z0]) ++ List.replicate (6 - (lg_sl ([.ref b0, vI x, vI y, vI z, .ref z0])).length) Slot.unset).toArray = ls at hl ⊢
  have hl : lv_has ls 6 [(0, .ref b0), (1, vI x), (2, vI y), (3, vI z), (4, .ref z0)] := hl
  obtain ⟨H, hHe⟩ : ∃ H : Heap, H = s.heap := ⟨_, rfl⟩
  obtain ⟨locs, hLe⟩ : ∃ L : List Loc, L = [] := ⟨_, rfl⟩
  suffices hgo : W p l e (headSpec (Cond.codeWith yL_make cL_make 6 (some .int) [(0, 12, 15, 13), (0, 12, 19, 15)] :: tb) ({ frames := 7, cells := 1, slots := 6, locals := 105 } : Room)).room s m ([.ref b0, vI x, vI y, vI z, .ref z0] : List Value).toArray below meth c H locs 0 0 (vx_MQ below (va_Qi (fun (r : Int32) (u : Unit) => r = iI 2 ∧ True) (fun (u : Unit) t => zB G [(b0, ob 6 [.ref b1, vI mc, .ref g0, .ref e0, vI rn, .ref f0, .ref w0, .ref u0, vI ll]), (z0, aJ G 1 OV)] s.heap.size [(b0, ob 6 [.ref b1, vI mc, .ref g0, .ref e0, vI rn, .ref f0, .ref w0, .ref u0, vI ll]), (z0, aJ G 1 OV)] t) (va_A [(b0, ob 6 [.ref b1, vI mc, .ref g0, .ref e0, vI rn, .ref f0, .ref w0, .ref u0, vI ll]), (z0, aJ G 1 OV)] s.heap.size)) zNo ([.ref b0, vI x, vI y, vI z, .ref z0] : List Value).toArray s 1 6 (va_A [(b0, ob 6 [.ref b1, vI mc, .ref g0, .ref e0, vI rn, .ref f0, .ref w0, .ref u0, vI ll]), (z0, aJ G 1 OV)] s.heap.size)) (F0 m 0 ls []) by rw [hHe, hLe] at hgo; exact hgo
  rw [← hHe] at hP
  have hS : va_S A s.heap H locs := by rw [hHe, hLe]; exact hS
  clear hHe hLe
  refine lv_aload hx hb dL_make_0 (lv_at hl 4 rfl) ?_
  refine lv_iconst (v := iI 0) hx hb dL_make_2 rfl ?_
  refine lv_aload_n hx hb dL_make_3 rfl (lv_at hl 0 rfl) ?_
  refine lv_iload_n hx hb dL_make_4 rfl (lv_at hl 1 rfl) ?_
  refine lv_iload_n hx hb dL_make_5 rfl (lv_at hl 2 rfl) ?_
  refine lv_iload_n hx hb dL_make_6 rfl (lv_at hl 3 rfl) ?_
  refine z_xC (q0 := 0) (ci := 6) (b := b0) (rest := [vI 0, .ref z0]) (wr := [(z0, aJ G 1 OV)]) (pre := [⟨0, 12, 15, 13⟩]) (x := ⟨0, 12, 19, 15⟩) (suf := []) (name := XS) hC hK hTt hX (htab.trans rfl) hP hD hS hA (c_X6_make_2 l hst G H.size b0 b1 g0 e0 f0 w0 u0 mc rn ll x y z (khok) (khmc)) mv_X6_make tw_467 [0] [1] rfl rfl rfl rfl (by decide) rfl rfl rfl rfl hl.1 rfl (Nat.le_of_ble_eq_true rfl) ⟨rfl, rfl, (Nat.le_of_ble_eq_true rfl), (Nat.le_of_ble_eq_true rfl)⟩ ⟨(Nat.le_of_ble_eq_true rfl), (Nat.le_of_ble_eq_true rfl)⟩ (List.forall_mem_cons.mpr ⟨Or.inr ⟨by decide, XA, hC.2.2.2.2 _ tw_465, hTt.2.2.1.1⟩, fun z hz => absurd hz List.not_mem_nil⟩) (by decide) (by decide) tw_466 (va_Nw.use rfl hTt.2.1.2.1) dL_make_7 (fun q9 H locs hP hD hS => ?_)
  have hP : va_P G.1 vwCl [(z0, aJ G 1 OV), (b0, ob 6 [.ref b1, vI mc, .ref g0, .ref e0, vI rn, .ref f0, .ref w0, .ref u0, vI ll])] H := hP
  have hD : va_D A [(z0, aJ G 1 OV), (b0, ob 6 [.ref b1, vI mc, .ref g0, .ref e0, vI rn, .ref f0, .ref w0, .ref u0, vI ll])] := hD
  refine lv_astore (lv' := [(5, .ref q9), (0, .ref b0), (1, vI x), (2, vI y), (3, vI z), (4, .ref z0)]) hx hb dL_make_19 hl (by decide) rfl (fun ls hl => ?_)
  refine lv_iconst (v := iI 2) hx hb dL_make_21 rfl ?_
  refine vx_ret ?_
  exact z_iretW hC hr hlk () hAe hP hD hS [1, 0] (by decide) rfl rfl (⟨rfl, trivial⟩) dL_make_22

set_option maxRecDepth 100000 in
set_option maxHeartbeats 4000000 in
theorem c_L_edge_0 (l : Launch) (hst : l.stackTraces = false) (G : zGt) (sz : Nat) (b0 b1 g0 e0 f0 w0 u0 : Nat) (mc rn ll : Int) (MK : Int → Option Nat) (m0 m1 : Nat) (a1 a2 kd gl ed : Int) (T : Int → Int) (x y z w t0 : Int) (z0 : Nat) (OV : Int → Int64) (khx0 : 0 ≤ x ∧ x < 6) (khmk : MK x = some m0) (khok : ((0 ≤ y ∧ y < 16) ∧ (0 ≤ t0 ∧ t0 < 16) ∧ (0 ≤ z ∧ z < 256) ∧ (0 ≤ w ∧ w < 256) ∧ z ≤ w)) (khed : 0 ≤ ed ∧ ed < 40) : vx_Met l yL_edge (Cond.codeWith yL_edge cL_edge 8 (some .int) [(0, 16, 19, 21), (0, 16, 23, 13), (0, 16, 27, 15)] :: tb) ({ frames := 2, cells := 0, slots := 0, locals := 51 } : Room) (zPx G [(b0, ob 6 [.ref b1, vI mc, .ref g0, .ref e0, vI rn, .ref f0, .ref w0, .ref u0, vI ll]), (b1, aR G 6 MK), (m0, ob 4 [vI a1, vI a2, vI kd, vI gl, vI ed, .ref m1]), (m1, aI G 4096 T), (z0, aJ G 1 OV)] sz [.ref b0, vI x, vI y, vI z, vI w, vI t0, .ref z0]) (va_Qi (fun (r : Int32) (u : Unit) => r = iI 0 ∧ True) (fun (u : Unit) t => zB G [(b0, ob 6 [.ref b1, vI mc, .ref g0, .ref e0, vI rn, .ref f0, .ref w0, .ref u0, vI ll]), (b1, aR G 6 MK), (m0, ob 4 [vI a1, vI a2, vI kd, vI gl, vI ed, .ref m1]), (m1, aI G 4096 T), (z0, aJ G 1 OV)] sz [(b0, ob 6 [.ref b1, vI mc, .ref g0, .ref e0, vI rn, .ref f0, .ref w0, .ref u0, vI ll]), (b1, aR G 6 MK), (m0, ob 4 [vI a1, vI a2, vI kd, vI gl, vI (ed + 1), .ref m1]), (m1, aI G 4096 (addE T y z w (zshl 1 t0))), (z0, aJ G 1 (zup OV 0 (zi2l (ed + 1))))] t) (va_A [(b0, ob 6 [.ref b1, vI mc, .ref g0, .ref e0, vI rn, .ref f0, .ref w0, .ref u0, vI ll]), (b1, aR G 6 MK), (m0, ob 4 [vI a1, vI a2, vI kd, vI gl, vI ed, .ref m1]), (m1, aI G 4096 T), (z0, aJ G 1 OV)] sz)) zNo 0 0 (va_A [(b0, ob 6 [.ref b1, vI mc, .ref g0, .ref e0, vI rn, .ref f0, .ref w0, .ref u0, vI ll]), (b1, aR G 6 MK), (m0, ob 4 [vI a1, vI a2, vI kd, vI gl, vI ed, .ref m1]), (m1, aI G 4096 T), (z0, aJ G 1 OV)] sz) := by
  refine vx_ofWH (cc := cL_edge) (maxL := 8) (ret := (some .int)) (hh := [(0, 16, 19, 21), (0, 16, 23, 13), (0, 16, 27, 15)]) (by decide) rfl ?_
  intro p e s m args below meth c s₁ B hml hv
  obtain ⟨rfl, hsz, hP, hK, hD0, hTt, hX⟩ := hv
  subst hsz
  have hD := hD0.self (sz := s.heap.size)
  obtain ⟨A, hAe⟩ : ∃ A : Nat → Prop, A = va_A [(b0, ob 6 [.ref b1, vI mc, .ref g0, .ref e0, vI rn, .ref f0, .ref w0, .ref u0, vI ll]), (b1, aR G 6 MK), (m0, ob 4 [vI a1, vI a2, vI kd, vI gl, vI ed, .ref m1]), (m1, aI G 4096 T), (z0, aJ G 1 OV)] s.heap.size := ⟨_, rfl⟩
  rw [← hAe] at hD hX
  have hA : ∀ q : Nat, s.heap.size ≤ q → A q := fun q h => by rw [hAe]; exact Or.inr h
  have hS : va_S A s.heap s.heap [] := va_S.rf
  have htab := vx_table (x := yL_edge) B (atoms_spec (ws := Cond.codeWith yL_edge cL_edge 8 (some .int) [(0, 16, 19, 21), (0, 16, 23, 13), (0, 16, 27, 15)] :: tb) B.pre _ List.mem_cons_self)
  obtain ⟨hC, hr, hlk⟩ := z_beginH B hml
  have hC : CallFix p m c cL_edge 8 s _ tb RL := hC
  have hx := hC.1
  have hb := hC.2.1
  have hl := lv_entry ([.ref b0, vI x, vI y, vI z, vI w, vI t0, .ref z0]) (n := 8) (Nat.le_of_ble_eq_true rfl)
  rw [lg_entry_eq]
  generalize (lg_sl ([.ref b0, vI x, vI y, vI z, vI w, vI t0, .ref z0]) ++ List.replicate (8 - (lg_sl ([.ref b0, vI x, vI y, vI z, vI w, vI t0, .ref z0])).length) Slot.unset).toArray = ls at hl ⊢
  have hl : lv_has ls 8 [(0, .ref b0), (1, vI x), (2, vI y), (3, vI z), (4, vI w), (5, vI t0), (6, .ref z0)] := hl
  obtain ⟨H, hHe⟩ : ∃ H : Heap, H = s.heap := ⟨_, rfl⟩
  obtain ⟨locs, hLe⟩ : ∃ L : List Loc, L = [] := ⟨_, rfl⟩
  suffices hgo : W p l e (headSpec (Cond.codeWith yL_edge cL_edge 8 (some .int) [(0, 16, 19, 21), (0, 16, 23, 13), (0, 16, 27, 15)] :: tb) ({ frames := 2, cells := 0, slots := 0, locals := 51 } : Room)).room s m ([.ref b0, vI x, vI y, vI z, vI w, vI t0, .ref z0] : List Value).toArray below meth c H locs 0 0 (vx_MQ below (va_Qi (fun (r : Int32) (u : Unit) => r = iI 0 ∧ True) (fun (u : Unit) t => zB G [(b0, ob 6 [.ref b1, vI mc, .ref g0, .ref e0, vI rn, .ref f0, .ref w0, .ref u0, vI ll]), (b1, aR G 6 MK), (m0, ob 4 [vI a1, vI a2, vI kd, vI gl, vI ed, .ref m1]), (m1, aI G 4096 T), (z0, aJ G 1 OV)] s.heap.size [(b0, ob 6 [.ref b1, vI mc, .ref g0, .ref e0, vI rn, .ref f0, .ref w0, .ref u0, vI ll]), (b1, aR G 6 MK), (m0, ob 4 [vI a1, vI a2, vI kd, vI gl, vI (ed + 1), .ref m1]), (m1, aI G 4096 (addE T y z w (zshl 1 t0))), (z0, aJ G 1 (zup OV 0 (zi2l (ed + 1))))] t) (va_A [(b0, ob 6 [.ref b1, vI mc, .ref g0, .ref e0, vI rn, .ref f0, .ref w0, .ref u0, vI ll]), (b1, aR G 6 MK), (m0, ob 4 [vI a1, vI a2, vI kd, vI gl, vI ed, .ref m1]), (m1, aI G 4096 T), (z0, aJ G 1 OV)] s.heap.size)) zNo ([.ref b0, vI x, vI y, vI z, vI w, vI t0, .ref z0] : List Value).toArray s 0 0 (va_A [(b0, ob 6 [.ref b1, vI mc, .ref g0, .ref e0, vI rn, .ref f0, .ref w0, .ref u0, vI ll]), (b1, aR G 6 MK), (m0, ob 4 [vI a1, vI a2, vI kd, vI gl, vI ed, .ref m1]), (m1, aI G 4096 T), (z0, aJ G 1 OV)] s.heap.size)) (F0 m 0 ls []) by rw [hHe, hLe] at hgo; exact hgo
  rw [← hHe] at hP
  have hS : va_S A s.heap H locs := by rw [hHe, hLe]; exact hS
  clear hHe hLe
  refine lv_aload hx hb dL_edge_0 (lv_at hl 6 rfl) ?_
  refine lv_iconst (v := iI 0) hx hb dL_edge_2 rfl ?_
  refine lv_aload_n hx hb dL_edge_3 rfl (lv_at hl 0 rfl) ?_
  refine lv_iload_n hx hb dL_edge_4 rfl (lv_at hl 1 rfl) ?_
  refine lv_iload_n hx hb dL_edge_5 rfl (lv_at hl 2 rfl) ?_
  refine lv_iload_n hx hb dL_edge_6 rfl (lv_at hl 3 rfl) ?_
  refine lv_iload hx hb dL_edge_7 (lv_at hl 4 rfl) ?_
  refine lv_iload hx hb dL_edge_9 (lv_at hl 5 rfl) ?_
  refine z_wVi (q0 := 0) (ci := 6) (b := b0) (rest := [vI 0, .ref z0]) (wr := [(z0, aJ G 1 OV)]) hC hK hP hD hS hA (c_X6_edge_0 l G H.size b0 b1 g0 e0 f0 w0 u0 mc rn ll MK m0 m1 a1 a2 kd gl ed T x y z w t0 (khx0) (khmk) (khok) (khed)) mv_X6_edge tw_587 [0, 1, 2, 3] [4] rfl rfl rfl rfl (by decide) rfl rfl rfl rfl hl.1 rfl (Nat.le_of_ble_eq_true rfl) ⟨rfl, rfl, Nat.le_of_ble_eq_true rfl, Nat.le_of_ble_eq_true rfl⟩ ⟨Nat.le_of_ble_eq_true rfl, Nat.le_of_ble_eq_true rfl⟩ dL_edge_11 (fun r u H locs hw hP hD hS => ?_)
  have hP : va_P G.1 vwCl [(z0, aJ G 1 OV), (b0, ob 6 [.ref b1, vI mc, .ref g0, .ref e0, vI rn, .ref f0, .ref w0, .ref u0, vI ll]), (b1, aR G 6 MK), (m0, ob 4 [vI a1, vI a2, vI kd, vI gl, vI (ed + 1), .ref m1]), (m1, aI G 4096 (addE T y z w (zshl 1 t0)))] H := hP
  have hD : va_D A [(z0, aJ G 1 OV), (b0, ob 6 [.ref b1, vI mc, .ref g0, .ref e0, vI rn, .ref f0, .ref w0, .ref u0, vI ll]), (b1, aR G 6 MK), (m0, ob 4 [vI a1, vI a2, vI kd, vI gl, vI (ed + 1), .ref m1]), (m1, aI G 4096 (addE T y z w (zshl 1 t0)))] := hD
  obtain ⟨hrw_, hw_1⟩ := hw
  rw [hrw_]
  clear hrw_
  clear hw_1
  refine lv_i2l (v := zi2l (ed + 1)) hx hb dL_edge_14 rfl ?_
  refine z_last (ws' := [(z0, aJ G 1 (zup OV 0 (zi2l (ed + 1)))), (b0, ob 6 [.ref b1, vI mc, .ref g0, .ref e0, vI rn, .ref f0, .ref w0, .ref u0, vI ll]), (b1, aR G 6 MK), (m0, ob 4 [vI a1, vI a2, vI kd, vI gl, vI (ed + 1), .ref m1]), (m1, aI G 4096 (addE T y z w (zshl 1 t0)))]) hC hK hP hD hS 0 rfl (by omega) (by decide) rfl dL_edge_15 (fun H locs hP hD hS => ?_)
  refine lv_goto (tgt := 31) hx hb dL_edge_16 (by decide) ?_
  refine lv_iconst (v := iI 0) hx hb dL_edge_31 rfl ?_
  refine vx_ret ?_
  exact z_iretW hC hr hlk () hAe hP hD hS [1, 2, 3, 4, 0] (by decide) rfl rfl (⟨rfl, trivial⟩) dL_edge_32

set_option maxRecDepth 100000 in
set_option maxHeartbeats 4000000 in
theorem c_L_edge_1 (l : Launch) (hst : l.stackTraces = false) (G : zGt) (sz : Nat) (b0 b1 g0 e0 f0 w0 u0 : Nat) (mc rn ll : Int) (MK : Int → Option Nat) (x y z w t0 : Int) (z0 : Nat) (OV : Int → Int64) (khx : -2147483648 ≤ x ∧ x < 2147483648) (khmk0 : 0 ≤ x ∧ x < 6 → MK x = none) : vx_Met l yL_edge (Cond.codeWith yL_edge cL_edge 8 (some .int) [(0, 16, 19, 21), (0, 16, 23, 13), (0, 16, 27, 15)] :: tb) ({ frames := 8, cells := 1, slots := 6, locals := 130 } : Room) (zPx G [(b0, ob 6 [.ref b1, vI mc, .ref g0, .ref e0, vI rn, .ref f0, .ref w0, .ref u0, vI ll]), (b1, aR G 6 MK), (z0, aJ G 1 OV)] sz [.ref b0, vI x, vI y, vI z, vI w, vI t0, .ref z0]) (va_Qi (fun (r : Int32) (u : Unit) => r = iI 1 ∧ True) (fun (u : Unit) t => zB G [(b0, ob 6 [.ref b1, vI mc, .ref g0, .ref e0, vI rn, .ref f0, .ref w0, .ref u0, vI ll]), (b1, aR G 6 MK), (z0, aJ G 1 OV)] sz [(b0, ob 6 [.ref b1, vI mc, .ref g0, .ref e0, vI rn, .ref f0, .ref w0, .ref u0, vI ll]), (b1, aR G 6 MK), (z0, aJ G 1 OV)] t) (va_A [(b0, ob 6 [.ref b1, vI mc, .ref g0, .ref e0, vI rn, .ref f0, .ref w0, .ref u0, vI ll]), (b1, aR G 6 MK), (z0, aJ G 1 OV)] sz)) zNo 1 6 (va_A [(b0, ob 6 [.ref b1, vI mc, .ref g0, .ref e0, vI rn, .ref f0, .ref w0, .ref u0, vI ll]), (b1, aR G 6 MK), (z0, aJ G 1 OV)] sz) := by
  refine vx_ofWH (cc := cL_edge) (maxL := 8) (ret := (some .int)) (hh := [(0, 16, 19, 21), (0, 16, 23, 13), (0, 16, 27, 15)]) (by decide) rfl ?_
  intro p e s m args below meth c s₁ B hml hv
  obtain ⟨rfl, hsz, hP, hK, hD0, hTt, hX⟩ := hv
  subst hsz
  have hD := hD0.self (sz := s.heap.size)
  obtain ⟨A, hAe⟩ : ∃ A : Nat → Prop, A = va_A [(b0, ob 6 [.ref b1, vI mc, .ref g0, .ref e0, vI rn, .ref f0, .ref w0, .ref u0, vI ll]), (b1, aR G 6 MK), (z0, aJ G 1 OV)] s.heap.size := ⟨_, rfl⟩
  rw [← hAe] at hD hX
  have hA : ∀ q : Nat, s.heap.size ≤ q → A q := fun q h => by rw [hAe]; exact Or.inr h
  have hS : va_S A s.heap s.heap [] := va_S.rf
  have htab := vx_table (x := yL_edge) B (atoms_spec (ws := Cond.codeWith yL_edge cL_edge 8 (some .int) [(0, 16, 19, 21), (0, 16, 23, 13), (0, 16, 27, 15)] :: tb) B.pre _ List.mem_cons_self)
  obtain ⟨hC, hr, hlk⟩ := z_beginH B hml
  have hC : CallFix p m c cL_edge 8 s _ tb RL := hC
  have hx := hC.1
  have hb := hC.2.1
  have hl := lv_entry ([.ref b0, vI x, vI y, vI z, vI w, vI t0, .ref z0]) (n := 8) (Nat.le_of_ble_eq_true rfl)
  rw [lg_entry_eq]
  generalize (lg_sl ([.ref b0, vI x, vI y, vI z, vI w, vI t0, .ref z0]) ++ List.replicate (8 - (lg_sl ([.ref b0, vI x, vI y, vI z, vI w, vI t0, .ref z0])).length) Slot.unset).toArray = ls at hl ⊢
  have hl : lv_has ls 8 [(0, .ref b0), (1, vI x), (2, vI y), (3, vI z), (4, vI w), (5, vI t0), (6, .ref z0)] := hl
  obtain ⟨H, hHe⟩ : ∃ H : Heap, H = s.heap := ⟨_, rfl⟩
  obtain ⟨locs, hLe⟩ : ∃ L : List Loc, L = [] := ⟨_, rfl⟩
  suffices hgo : W p l e (headSpec (Cond.codeWith yL_edge cL_edge 8 (some .int) [(0, 16, 19, 21), (0, 16, 23, 13), (0, 16, 27, 15)] :: tb) ({ frames := 8, cells := 1, slots := 6, locals := 130 } : Room)).room s m ([.ref b0, vI x, vI y, vI z, vI w, vI t0, .ref z0] : List Value).toArray below meth c H locs 0 0 (vx_MQ below (va_Qi (fun (r : Int32) (u : Unit) => r = iI 1 ∧ True) (fun (u : Unit) t => zB G [(b0, ob 6 [.ref b1, vI mc, .ref g0, .ref e0, vI rn, .ref f0, .ref w0, .ref u0, vI ll]), (b1, aR G 6 MK), (z0, aJ G 1 OV)] s.heap.size [(b0, ob 6 [.ref b1, vI mc, .ref g0, .ref e0, vI rn, .ref f0, .ref w0, .ref u0, vI ll]), (b1, aR G 6 MK), (z0, aJ G 1 OV)] t) (va_A [(b0, ob 6 [.ref b1, vI mc, .ref g0, .ref e0, vI rn, .ref f0, .ref w0, .ref u0, vI ll]), (b1, aR G 6 MK), (z0, aJ G 1 OV)] s.heap.size)) zNo ([.ref b0, vI x, vI y, vI z, vI w, vI t0, .ref z0] : List Value).toArray s 1 6 (va_A [(b0, ob 6 [.ref b1, vI mc, .ref g0, .ref e0, vI rn, .ref f0, .ref w0, .ref u0, vI ll]), (b1, aR G 6 MK), (z0, aJ G 1 OV)] s.heap.size)) (F0 m 0 ls []) by rw [hHe, hLe] at hgo; exact hgo
  rw [← hHe] at hP
  have hS : va_S A s.heap H locs := by rw [hHe, hLe]; exact hS
  clear hHe hLe
  refine lv_aload hx hb dL_edge_0 (lv_at hl 6 rfl) ?_
  refine lv_iconst (v := iI 0) hx hb dL_edge_2 rfl ?_
  refine lv_aload_n hx hb dL_edge_3 rfl (lv_at hl 0 rfl) ?_
  refine lv_iload_n hx hb dL_edge_4 rfl (lv_at hl 1 rfl) ?_
  refine lv_iload_n hx hb dL_edge_5 rfl (lv_at hl 2 rfl) ?_
  refine lv_iload_n hx hb dL_edge_6 rfl (lv_at hl 3 rfl) ?_
  refine lv_iload hx hb dL_edge_7 (lv_at hl 4 rfl) ?_
  refine lv_iload hx hb dL_edge_9 (lv_at hl 5 rfl) ?_
  refine z_xC (q0 := 0) (ci := 6) (b := b0) (rest := [vI 0, .ref z0]) (wr := [(z0, aJ G 1 OV)]) (pre := []) (x := ⟨0, 16, 19, 21⟩) (suf := [⟨0, 16, 23, 13⟩, ⟨0, 16, 27, 15⟩]) (name := XI) hC hK hTt hX (htab.trans rfl) hP hD hS hA (c_X6_edge_1 l hst G H.size b0 b1 g0 e0 f0 w0 u0 mc rn ll MK x y z w t0 (khx) (khmk0)) mv_X6_edge tw_587 [0, 1] [2] rfl rfl rfl rfl (by decide) rfl rfl rfl rfl hl.1 rfl (Nat.le_of_ble_eq_true rfl) ⟨rfl, rfl, (Nat.le_of_ble_eq_true rfl), (Nat.le_of_ble_eq_true rfl)⟩ ⟨(Nat.le_of_ble_eq_true rfl), (Nat.le_of_ble_eq_true rfl)⟩ (fun z hz => absurd hz List.not_mem_nil) (by decide) (by decide) tw_586 (va_Nw.use rfl hTt.2.1.2.2) dL_edge_11 (fun q9 H locs hP hD hS => ?_)
  have hP : va_P G.1 vwCl [(z0, aJ G 1 OV), (b0, ob 6 [.ref b1, vI mc, .ref g0, .ref e0, vI rn, .ref f0, .ref w0, .ref u0, vI ll]), (b1, aR G 6 MK)] H := hP
  have hD : va_D A [(z0, aJ G 1 OV), (b0, ob 6 [.ref b1, vI mc, .ref g0, .ref e0, vI rn, .ref f0, .ref w0, .ref u0, vI ll]), (b1, aR G 6 MK)] := hD
  refine lv_astore (lv' := [(7, .ref q9), (0, .ref b0), (1, vI x), (2, vI y), (3, vI z), (4, vI w), (5, vI t0), (6, .ref z0)]) hx hb dL_edge_19 hl (by decide) rfl (fun ls hl => ?_)
  refine lv_iconst (v := iI 1) hx hb dL_edge_21 rfl ?_
  refine vx_ret ?_
  exact z_iretW hC hr hlk () hAe hP hD hS [1, 2, 0] (by decide) rfl rfl (⟨rfl, trivial⟩) dL_edge_22

set_option maxRecDepth 100000 in
set_option maxHeartbeats 4000000 in
theorem c_L_edge_2 (l : Launch) (hst : l.stackTraces = false) (G : zGt) (sz : Nat) (b0 b1 g0 e0 f0 w0 u0 : Nat) (mc rn ll : Int) (MK : Int → Option Nat) (m0 m1 : Nat) (a1 a2 kd gl ed : Int) (T : Int → Int) (x y z w t0 : Int) (z0 : Nat) (OV : Int → Int64) (khx0 : 0 ≤ x ∧ x < 6) (khmk : MK x = some m0) (khy : -2147483648 ≤ y ∧ y < 2147483648) (khz : -2147483648 ≤ z ∧ z < 2147483648) (khw : -2147483648 ≤ w ∧ w < 2147483648) (kht0 : -2147483648 ≤ t0 ∧ t0 < 2147483648) (khno : ¬ ((0 ≤ y ∧ y < 16) ∧ (0 ≤ t0 ∧ t0 < 16) ∧ (0 ≤ z ∧ z < 256) ∧ (0 ≤ w ∧ w < 256) ∧ z ≤ w)) : vx_Met l yL_edge (Cond.codeWith yL_edge cL_edge 8 (some .int) [(0, 16, 19, 21), (0, 16, 23, 13), (0, 16, 27, 15)] :: tb) ({ frames := 7, cells := 1, slots := 6, locals := 108 } : Room) (zPx G [(b0, ob 6 [.ref b1, vI mc, .ref g0, .ref e0, vI rn, .ref f0, .ref w0, .ref u0, vI ll]), (b1, aR G 6 MK), (m0, ob 4 [vI a1, vI a2, vI kd, vI gl, vI ed, .ref m1]), (m1, aI G 4096 T), (z0, aJ G 1 OV)] sz [.ref b0, vI x, vI y, vI z, vI w, vI t0, .ref z0]) (va_Qi (fun (r : Int32) (u : Unit) => r = iI 2 ∧ True) (fun (u : Unit) t => zB G [(b0, ob 6 [.ref b1, vI mc, .ref g0, .ref e0, vI rn, .ref f0, .ref w0, .ref u0, vI ll]), (b1, aR G 6 MK), (m0, ob 4 [vI a1, vI a2, vI kd, vI gl, vI ed, .ref m1]), (m1, aI G 4096 T), (z0, aJ G 1 OV)] sz [(b0, ob 6 [.ref b1, vI mc, .ref g0, .ref e0, vI rn, .ref f0, .ref w0, .ref u0, vI ll]), (b1, aR G 6 MK), (m0, ob 4 [vI a1, vI a2, vI kd, vI gl, vI ed, .ref m1]), (m1, aI G 4096 T), (z0, aJ G 1 OV)] t) (va_A [(b0, ob 6 [.ref b1, vI mc, .ref g0, .ref e0, vI rn, .ref f0, .ref w0, .ref u0, vI ll]), (b1, aR G 6 MK), (m0, ob 4 [vI a1, vI a2, vI kd, vI gl, vI ed, .ref m1]), (m1, aI G 4096 T), (z0, aJ G 1 OV)] sz)) zNo 1 6 (va_A [(b0, ob 6 [.ref b1, vI mc, .ref g0, .ref e0, vI rn, .ref f0, .ref w0, .ref u0, vI ll]), (b1, aR G 6 MK), (m0, ob 4 [vI a1, vI a2, vI kd, vI gl, vI ed, .ref m1]), (m1, aI G 4096 T), (z0, aJ G 1 OV)] sz) := by
  refine vx_ofWH (cc := cL_edge) (maxL := 8) (ret := (some .int)) (hh := [(0, 16, 19, 21), (0, 16, 23, 13), (0, 16, 27, 15)]) (by decide) rfl ?_
  intro p e s m args below meth c s₁ B hml hv
  obtain ⟨rfl, hsz, hP, hK, hD0, hTt, hX⟩ := hv
  subst hsz
  have hD := hD0.self (sz := s.heap.size)
  obtain ⟨A, hAe⟩ : ∃ A : Nat → Prop, A = va_A [(b0, ob 6 [.ref b1, vI mc, .ref g0, .ref e0, vI rn, .ref f0, .ref w0, .ref u0, vI ll]), (b1, aR G 6 MK), (m0, ob 4 [vI a1, vI a2, vI kd, vI gl, vI ed, .ref m1]), (m1, aI G 4096 T), (z0, aJ G 1 OV)] s.heap.size := ⟨_, rfl⟩
  rw [← hAe] at hD hX
  have hA : ∀ q : Nat, s.heap.size ≤ q → A q := fun q h => by rw [hAe]; exact Or.inr h
  have hS : va_S A s.heap s.heap [] := va_S.rf
  have htab := vx_table (x := yL_edge) B (atoms_spec (ws := Cond.codeWith yL_edge cL_edge 8 (some .int) [(0, 16, 19, 21), (0, 16, 23, 13), (0, 16, 27, 15)] :: tb) B.pre _ List.mem_cons_self)
  obtain ⟨hC, hr, hlk⟩ := z_beginH B hml
  have hC : CallFix p m c cL_edge 8 s _ tb RL := hC
  have hx := hC.1
  have hb := hC.2.1
  have hl := lv_entry ([.ref b0, vI x, vI y, vI z, vI w, vI t0, .ref z0]) (n := 8) (Nat.le_of_ble_eq_true rfl)
  rw [lg_entry_eq]
  generalize (lg_sl ([.ref b0, vI x, vI y, vI z, vI w, vI t0, .ref z0]) ++ List.replicate (8 - (lg_sl ([.ref b0, vI x, vI y, vI z, vI w, vI t0, .ref z0])).length) Slot.unset).toArray = ls at hl ⊢
  have hl : lv_has ls 8 [(0, .ref b0), (1, vI x), (2, vI y), (3, vI z), (4, vI w), (5, vI t0), (6, .ref z0)] := hl
  obtain ⟨H, hHe⟩ : ∃ H : Heap, H = s.heap := ⟨_, rfl⟩
  obtain ⟨locs, hLe⟩ : ∃ L : List Loc, L = [] := ⟨_, rfl⟩
  suffices hgo : W p l e (headSpec (Cond.codeWith yL_edge cL_edge 8 (some .int) [(0, 16, 19, 21), (0, 16, 23, 13), (0, 16, 27, 15)] :: tb) ({ frames := 7, cells := 1, slots := 6, locals := 108 } : Room)).room s m ([.ref b0, vI x, vI y, vI z, vI w, vI t0, .ref z0] : List Value).toArray below meth c H locs 0 0 (vx_MQ below (va_Qi (fun (r : Int32) (u : Unit) => r = iI 2 ∧ True) (fun (u : Unit) t => zB G [(b0, ob 6 [.ref b1, vI mc, .ref g0, .ref e0, vI rn, .ref f0, .ref w0, .ref u0, vI ll]), (b1, aR G 6 MK), (m0, ob 4 [vI a1, vI a2, vI kd, vI gl, vI ed, .ref m1]), (m1, aI G 4096 T), (z0, aJ G 1 OV)] s.heap.size [(b0, ob 6 [.ref b1, vI mc, .ref g0, .ref e0, vI rn, .ref f0, .ref w0, .ref u0, vI ll]), (b1, aR G 6 MK), (m0, ob 4 [vI a1, vI a2, vI kd, vI gl, vI ed, .ref m1]), (m1, aI G 4096 T), (z0, aJ G 1 OV)] t) (va_A [(b0, ob 6 [.ref b1, vI mc, .ref g0, .ref e0, vI rn, .ref f0, .ref w0, .ref u0, vI ll]), (b1, aR G 6 MK), (m0, ob 4 [vI a1, vI a2, vI kd, vI gl, vI ed, .ref m1]), (m1, aI G 4096 T), (z0, aJ G 1 OV)] s.heap.size)) zNo ([.ref b0, vI x, vI y, vI z, vI w, vI t0, .ref z0] : List Value).toArray s 1 6 (va_A [(b0, ob 6 [.ref b1, vI mc, .ref g0, .ref e0, vI rn, .ref f0, .ref w0, .ref u0, vI ll]), (b1, aR G 6 MK), (m0, ob 4 [vI a1, vI a2, vI kd, vI gl, vI ed, .ref m1]), (m1, aI G 4096 T), (z0, aJ G 1 OV)] s.heap.size)) (F0 m 0 ls []) by rw [hHe, hLe] at hgo; exact hgo
  rw [← hHe] at hP
  have hS : va_S A s.heap H locs := by rw [hHe, hLe]; exact hS
  clear hHe hLe
  refine lv_aload hx hb dL_edge_0 (lv_at hl 6 rfl) ?_
  refine lv_iconst (v := iI 0) hx hb dL_edge_2 rfl ?_
  refine lv_aload_n hx hb dL_edge_3 rfl (lv_at hl 0 rfl) ?_
  refine lv_iload_n hx hb dL_edge_4 rfl (lv_at hl 1 rfl) ?_
  refine lv_iload_n hx hb dL_edge_5 rfl (lv_at hl 2 rfl) ?_
  refine lv_iload_n hx hb dL_edge_6 rfl (lv_at hl 3 rfl) ?_
  refine lv_iload hx hb dL_edge_7 (lv_at hl 4 rfl) ?_
  refine lv_iload hx hb dL_edge_9 (lv_at hl 5 rfl) ?_
  refine z_xC (q0 := 0) (ci := 6) (b := b0) (rest := [vI 0, .ref z0]) (wr := [(z0, aJ G 1 OV)]) (pre := [⟨0, 16, 19, 21⟩]) (x := ⟨0, 16, 23, 13⟩) (suf := [⟨0, 16, 27, 15⟩]) (name := XA) hC hK hTt hX (htab.trans rfl) hP hD hS hA (c_X6_edge_2 l hst G H.size b0 b1 g0 e0 f0 w0 u0 mc rn ll MK m0 m1 a1 a2 kd gl ed T x y z w t0 (khx0) (khmk) (khy) (khz) (khw) (kht0) (khno)) mv_X6_edge tw_587 [0, 1, 2, 3] [4] rfl rfl rfl rfl (by decide) rfl rfl rfl rfl hl.1 rfl (Nat.le_of_ble_eq_true rfl) ⟨rfl, rfl, (Nat.le_of_ble_eq_true rfl), (Nat.le_of_ble_eq_true rfl)⟩ ⟨(Nat.le_of_ble_eq_true rfl), (Nat.le_of_ble_eq_true rfl)⟩ (List.forall_mem_cons.mpr ⟨Or.inr ⟨by decide, XI, hC.2.2.2.2 _ tw_586, hTt.2.2.1.2.1⟩, fun z hz => absurd hz List.not_mem_nil⟩) (by decide) (by decide) tw_465 (va_Nw.use rfl hTt.2.1.1) dL_edge_11 (fun q9 H locs hP hD hS => ?_)
  have hP : va_P G.1 vwCl [(z0, aJ G 1 OV), (b0, ob 6 [.ref b1, vI mc, .ref g0, .ref e0, vI rn, .ref f0, .ref w0, .ref u0, vI ll]), (b1, aR G 6 MK), (m0, ob 4 [vI a1, vI a2, vI kd, vI gl, vI ed, .ref m1]), (m1, aI G 4096 T)] H := hP
  have hD : va_D A [(z0, aJ G 1 OV), (b0, ob 6 [.ref b1, vI mc, .ref g0, .ref e0, vI rn, .ref f0, .ref w0, .ref u0, vI ll]), (b1, aR G 6 MK), (m0, ob 4 [vI a1, vI a2, vI kd, vI gl, vI ed, .ref m1]), (m1, aI G 4096 T)] := hD
  refine lv_astore (lv' := [(7, .ref q9), (0, .ref b0), (1, vI x), (2, vI y), (3, vI z), (4, vI w), (5, vI t0), (6, .ref z0)]) hx hb dL_edge_23 hl (by decide) rfl (fun ls hl => ?_)
  refine lv_iconst (v := iI 2) hx hb dL_edge_25 rfl ?_
  refine vx_ret ?_
  exact z_iretW hC hr hlk () hAe hP hD hS [1, 2, 3, 4, 0] (by decide) rfl rfl (⟨rfl, trivial⟩) dL_edge_26

set_option maxRecDepth 100000 in
set_option maxHeartbeats 4000000 in
theorem c_L_edge_3 (l : Launch) (hst : l.stackTraces = false) (G : zGt) (sz : Nat) (b0 b1 g0 e0 f0 w0 u0 : Nat) (mc rn ll : Int) (MK : Int → Option Nat) (m0 m1 : Nat) (a1 a2 kd gl ed : Int) (T : Int → Int) (x y z w t0 : Int) (z0 : Nat) (OV : Int → Int64) (khx0 : 0 ≤ x ∧ x < 6) (khmk : MK x = some m0) (khok : ((0 ≤ y ∧ y < 16) ∧ (0 ≤ t0 ∧ t0 < 16) ∧ (0 ≤ z ∧ z < 256) ∧ (0 ≤ w ∧ w < 256) ∧ z ≤ w)) (khed : ed = 40) : vx_Met l yL_edge (Cond.codeWith yL_edge cL_edge 8 (some .int) [(0, 16, 19, 21), (0, 16, 23, 13), (0, 16, 27, 15)] :: tb) ({ frames := 7, cells := 1, slots := 6, locals := 108 } : Room) (zPx G [(b0, ob 6 [.ref b1, vI mc, .ref g0, .ref e0, vI rn, .ref f0, .ref w0, .ref u0, vI ll]), (b1, aR G 6 MK), (m0, ob 4 [vI a1, vI a2, vI kd, vI gl, vI ed, .ref m1]), (m1, aI G 4096 T), (z0, aJ G 1 OV)] sz [.ref b0, vI x, vI y, vI z, vI w, vI t0, .ref z0]) (va_Qi (fun (r : Int32) (u : Unit) => r = iI 3 ∧ True) (fun (u : Unit) t => zB G [(b0, ob 6 [.ref b1, vI mc, .ref g0, .ref e0, vI rn, .ref f0, .ref w0, .ref u0, vI ll]), (b1, aR G 6 MK), (m0, ob 4 [vI a1, vI a2, vI kd, vI gl, vI ed, .ref m1]), (m1, aI G 4096 T), (z0, aJ G 1 OV)] sz [(b0, ob 6 [.ref b1, vI mc, .ref g0, .ref e0, vI rn, .ref f0, .ref w0, .ref u0, vI ll]), (b1, aR G 6 MK), (m0, ob 4 [vI a1, vI a2, vI kd, vI gl, vI ed, .ref m1]), (m1, aI G 4096 T), (z0, aJ G 1 OV)] t) (va_A [(b0, ob 6 [.ref b1, vI mc, .ref g0, .ref e0, vI rn, .ref f0, .ref w0, .ref u0, vI ll]), (b1, aR G 6 MK), (m0, ob 4 [vI a1, vI a2, vI kd, vI gl, vI ed, .ref m1]), (m1, aI G 4096 T), (z0, aJ G 1 OV)] sz)) zNo 1 6 (va_A [(b0, ob 6 [.ref b1, vI mc, .ref g0, .ref e0, vI rn, .ref f0, .ref w0, .ref u0, vI ll]), (b1, aR G 6 MK), (m0, ob 4 [vI a1, vI a2, vI kd, vI gl, vI ed, .ref m1]), (m1, aI G 4096 T), (z0, aJ G 1 OV)] sz) := by
  refine vx_ofWH (cc := cL_edge) (maxL := 8) (ret := (some .int)) (hh := [(0, 16, 19, 21), (0, 16, 23, 13), (0, 16, 27, 15)]) (by decide) rfl ?_
  intro p e s m args below meth c s₁ B hml hv
  obtain ⟨rfl, hsz, hP, hK, hD0, hTt, hX⟩ := hv
  subst hsz
  have hD := hD0.self (sz := s.heap.size)
  obtain ⟨A, hAe⟩ : ∃ A : Nat → Prop, A = va_A [(b0, ob 6 [.ref b1, vI mc, .ref g0, .ref e0, vI rn, .ref f0, .ref w0, .ref u0, vI ll]), (b1, aR G 6 MK), (m0, ob 4 [vI a1, vI a2, vI kd, vI gl, vI ed, .ref m1]), (m1, aI G 4096 T), (z0, aJ G 1 OV)] s.heap.size := ⟨_, rfl⟩
  rw [← hAe] at hD hX
  have hA : ∀ q : Nat, s.heap.size ≤ q → A q := fun q h => by rw [hAe]; exact Or.inr h
  have hS : va_S A s.heap s.heap [] := va_S.rf
  have htab := vx_table (x := yL_edge) B (atoms_spec (ws := Cond.codeWith yL_edge cL_edge 8 (some .int) [(0, 16, 19, 21), (0, 16, 23, 13), (0, 16, 27, 15)] :: tb) B.pre _ List.mem_cons_self)
  obtain ⟨hC, hr, hlk⟩ := z_beginH B hml
  have hC : CallFix p m c cL_edge 8 s _ tb RL := hC
  have hx := hC.1
  have hb := hC.2.1
  have hl := lv_entry ([.ref b0, vI x, vI y, vI z, vI w, vI t0, .ref z0]) (n := 8) (Nat.le_of_ble_eq_true rfl)
  rw [lg_entry_eq]
  generalize (lg_sl ([.ref b0, vI x, vI y, vI z, vI w, vI t0, .ref z0]) ++ List.replicate (8 - (lg_sl ([.ref b0, vI x, vI y, vI z, vI w, vI t0, .ref z0])).length) Slot.unset).toArray = ls at hl ⊢
  have hl : lv_has ls 8 [(0, .ref b0), (1, vI x), (2, vI y), (3, vI z), (4, vI w), (5, vI t0), (6, .ref z0)] := hl
  obtain ⟨H, hHe⟩ : ∃ H : Heap, H = s.heap := ⟨_, rfl⟩
  obtain ⟨locs, hLe⟩ : ∃ L : List Loc, L = [] := ⟨_, rfl⟩
  suffices hgo : W p l e (headSpec (Cond.codeWith yL_edge cL_edge 8 (some .int) [(0, 16, 19, 21), (0, 16, 23, 13), (0, 16, 27, 15)] :: tb) ({ frames := 7, cells := 1, slots := 6, locals := 108 } : Room)).room s m ([.ref b0, vI x, vI y, vI z, vI w, vI t0, .ref z0] : List Value).toArray below meth c H locs 0 0 (vx_MQ below (va_Qi (fun (r : Int32) (u : Unit) => r = iI 3 ∧ True) (fun (u : Unit) t => zB G [(b0, ob 6 [.ref b1, vI mc, .ref g0, .ref e0, vI rn, .ref f0, .ref w0, .ref u0, vI ll]), (b1, aR G 6 MK), (m0, ob 4 [vI a1, vI a2, vI kd, vI gl, vI ed, .ref m1]), (m1, aI G 4096 T), (z0, aJ G 1 OV)] s.heap.size [(b0, ob 6 [.ref b1, vI mc, .ref g0, .ref e0, vI rn, .ref f0, .ref w0, .ref u0, vI ll]), (b1, aR G 6 MK), (m0, ob 4 [vI a1, vI a2, vI kd, vI gl, vI ed, .ref m1]), (m1, aI G 4096 T), (z0, aJ G 1 OV)] t) (va_A [(b0, ob 6 [.ref b1, vI mc, .ref g0, .ref e0, vI rn, .ref f0, .ref w0, .ref u0, vI ll]), (b1, aR G 6 MK), (m0, ob 4 [vI a1, vI a2, vI kd, vI gl, vI ed, .ref m1]), (m1, aI G 4096 T), (z0, aJ G 1 OV)] s.heap.size)) zNo ([.ref b0, vI x, vI y, vI z, vI w, vI t0, .ref z0] : List Value).toArray s 1 6 (va_A [(b0, ob 6 [.ref b1, vI mc, .ref g0, .ref e0, vI rn, .ref f0, .ref w0, .ref u0, vI ll]), (b1, aR G 6 MK), (m0, ob 4 [vI a1, vI a2, vI kd, vI gl, vI ed, .ref m1]), (m1, aI G 4096 T), (z0, aJ G 1 OV)] s.heap.size)) (F0 m 0 ls []) by rw [hHe, hLe] at hgo; exact hgo
  rw [← hHe] at hP
  have hS : va_S A s.heap H locs := by rw [hHe, hLe]; exact hS
  clear hHe hLe
  refine lv_aload hx hb dL_edge_0 (lv_at hl 6 rfl) ?_
  refine lv_iconst (v := iI 0) hx hb dL_edge_2 rfl ?_
  refine lv_aload_n hx hb dL_edge_3 rfl (lv_at hl 0 rfl) ?_
  refine lv_iload_n hx hb dL_edge_4 rfl (lv_at hl 1 rfl) ?_
  refine lv_iload_n hx hb dL_edge_5 rfl (lv_at hl 2 rfl) ?_
  refine lv_iload_n hx hb dL_edge_6 rfl (lv_at hl 3 rfl) ?_
  refine lv_iload hx hb dL_edge_7 (lv_at hl 4 rfl) ?_
  refine lv_iload hx hb dL_edge_9 (lv_at hl 5 rfl) ?_
  refine z_xC (q0 := 0) (ci := 6) (b := b0) (rest := [vI 0, .ref z0]) (wr := [(z0, aJ G 1 OV)]) (pre := [⟨0, 16, 19, 21⟩, ⟨0, 16, 23, 13⟩]) (x := ⟨0, 16, 27, 15⟩) (suf := []) (name := XS) hC hK hTt hX (htab.trans rfl) hP hD hS hA (c_X6_edge_3 l hst G H.size b0 b1 g0 e0 f0 w0 u0 mc rn ll MK m0 m1 a1 a2 kd gl ed T x y z w t0 (khx0) (khmk) (khok) (khed)) mv_X6_edge tw_587 [0, 1, 2, 3] [4] rfl rfl rfl rfl (by decide) rfl rfl rfl rfl hl.1 rfl (Nat.le_of_ble_eq_true rfl) ⟨rfl, rfl, (Nat.le_of_ble_eq_true rfl), (Nat.le_of_ble_eq_true rfl)⟩ ⟨(Nat.le_of_ble_eq_true rfl), (Nat.le_of_ble_eq_true rfl)⟩ (List.forall_mem_cons.mpr ⟨Or.inr ⟨by decide, XI, hC.2.2.2.2 _ tw_586, hTt.2.2.1.2.2⟩, List.forall_mem_cons.mpr ⟨Or.inr ⟨by decide, XA, hC.2.2.2.2 _ tw_465, hTt.2.2.1.1⟩, fun z hz => absurd hz List.not_mem_nil⟩⟩) (by decide) (by decide) tw_466 (va_Nw.use rfl hTt.2.1.2.1) dL_edge_11 (fun q9 H locs hP hD hS => ?_)
  have hP : va_P G.1 vwCl [(z0, aJ G 1 OV), (b0, ob 6 [.ref b1, vI mc, .ref g0, .ref e0, vI rn, .ref f0, .ref w0, .ref u0, vI ll]), (b1, aR G 6 MK), (m0, ob 4 [vI a1, vI a2, vI kd, vI gl, vI ed, .ref m1]), (m1, aI G 4096 T)] H := hP
  have hD : va_D A [(z0, aJ G 1 OV), (b0, ob 6 [.ref b1, vI mc, .ref g0, .ref e0, vI rn, .ref f0, .ref w0, .ref u0, vI ll]), (b1, aR G 6 MK), (m0, ob 4 [vI a1, vI a2, vI kd, vI gl, vI ed, .ref m1]), (m1, aI G 4096 T)] := hD
  refine lv_astore (lv' := [(7, .ref q9), (0, .ref b0), (1, vI x), (2, vI y), (3, vI z), (4, vI w), (5, vI t0), (6, .ref z0)]) hx hb dL_edge_27 hl (by decide) rfl (fun ls hl => ?_)
  refine lv_iconst (v := iI 3) hx hb dL_edge_29 rfl ?_
  refine vx_ret ?_
  exact z_iretW hC hr hlk () hAe hP hD hS [1, 2, 3, 4, 0] (by decide) rfl rfl (⟨rfl, trivial⟩) dL_edge_30

set_option maxRecDepth 100000 in
set_option maxHeartbeats 4000000 in
theorem c_L_goals_0 (l : Launch) (hst : l.stackTraces = false) (G : zGt) (sz : Nat) (b0 b1 g0 e0 f0 w0 u0 : Nat) (mc rn ll : Int) (MK : Int → Option Nat) (m0 m1 : Nat) (a1 a2 kd gl ed : Int) (T : Int → Int) (x y : Int) (z0 : Nat) (OV : Int → Int64) (khx0 : 0 ≤ x ∧ x < 6) (khmk : MK x = some m0) (khy : 0 ≤ y ∧ y < 65536) : vx_Met l yL_goals (Cond.codeWith yL_goals cL_goals 5 (some .int) [(0, 10, 13, 21), (0, 10, 17, 13)] :: tb) ({ frames := 2, cells := 0, slots := 0, locals := 45 } : Room) (zPx G [(b0, ob 6 [.ref b1, vI mc, .ref g0, .ref e0, vI rn, .ref f0, .ref w0, .ref u0, vI ll]), (b1, aR G 6 MK), (m0, ob 4 [vI a1, vI a2, vI kd, vI gl, vI ed, .ref m1]), (m1, aI G 4096 T), (z0, aJ G 1 OV)] sz [.ref b0, vI x, vI y, .ref z0]) (va_Qi (fun (r : Int32) (u : Unit) => r = iI 0 ∧ True) (fun (u : Unit) t => zB G [(b0, ob 6 [.ref b1, vI mc, .ref g0, .ref e0, vI rn, .ref f0, .ref w0, .ref u0, vI ll]), (b1, aR G 6 MK), (m0, ob 4 [vI a1, vI a2, vI kd, vI gl, vI ed, .ref m1]), (m1, aI G 4096 T), (z0, aJ G 1 OV)] sz [(b0, ob 6 [.ref b1, vI mc, .ref g0, .ref e0, vI rn, .ref f0, .ref w0, .ref u0, vI ll]), (b1, aR G 6 MK), (m0, ob 4 [vI a1, vI a2, vI kd, vI y, vI ed, .ref m1]), (m1, aI G 4096 T), (z0, aJ G 1 (zup OV 0 (zi2l gl)))] t) (va_A [(b0, ob 6 [.ref b1, vI mc, .ref g0, .ref e0, vI rn, .ref f0, .ref w0, .ref u0, vI ll]), (b1, aR G 6 MK), (m0, ob 4 [vI a1, vI a2, vI kd, vI gl, vI ed, .ref m1]), (m1, aI G 4096 T), (z0, aJ G 1 OV)] sz)) zNo 0 0 (va_A [(b0, ob 6 [.ref b1, vI mc, .ref g0, .ref e0, vI rn, .ref f0, .ref w0, .ref u0, vI ll]), (b1, aR G 6 MK), (m0, ob 4 [vI a1, vI a2, vI kd, vI gl, vI ed, .ref m1]), (m1, aI G 4096 T), (z0, aJ G 1 OV)] sz) := by
  refine vx_ofWH (cc := cL_goals) (maxL := 5) (ret := (some .int)) (hh := [(0, 10, 13, 21), (0, 10, 17, 13)]) (by decide) rfl ?_
  intro p e s m args below meth c s₁ B hml hv
  obtain ⟨rfl, hsz, hP, hK, hD0, hTt, hX⟩ := hv
  subst hsz
  have hD := hD0.self (sz := s.heap.size)
  obtain ⟨A, hAe⟩ : ∃ A : Nat → Prop, A = va_A [(b0, ob 6 [.ref b1, vI mc, .ref g0, .ref e0, vI rn, .ref f0, .ref w0, .ref u0, vI ll]), (b1, aR G 6 MK), (m0, ob 4 [vI a1, vI a2, vI kd, vI gl, vI ed, .ref m1]), (m1, aI G 4096 T), (z0, aJ G 1 OV)] s.heap.size := ⟨_, rfl⟩
  rw [← hAe] at hD hX
  have hA : ∀ q : Nat, s.heap.size ≤ q → A q := fun q h => by rw [hAe]; exact Or.inr h
  have hS : va_S A s.heap s.heap [] := va_S.rf
  have htab := vx_table (x := yL_goals) B (atoms_spec (ws := Cond.codeWith yL_goals cL_goals 5 (some .int) [(0, 10, 13, 21), (0, 10, 17, 13)] :: tb) B.pre _ List.mem_cons_self)
  obtain ⟨hC, hr, hlk⟩ := z_beginH B hml
  have hC : CallFix p m c cL_goals 5 s _ tb RL := hC
  have hx := hC.1
  have hb := hC.2.1
  have hl := lv_entry ([.ref b0, vI x, vI y, .ref z0]) (n := 5) (Nat.le_of_ble_eq_true rfl)
  rw [lg_entry_eq]
  generalize (lg_sl ([.ref b0, vI x, vI y, .ref z0]) ++ List.replicate (5 - (lg_sl ([.ref b0, vI x, vI y, .ref z0])).length) Slot.unset).toArray = ls at hl ⊢
  have hl : lv_has ls 5 [(0, .ref b0), (1, vI x), (2, vI y), (3, .ref z0)] := hl
  obtain ⟨H, hHe⟩ : ∃ H : Heap, H = s.heap := ⟨_, rfl⟩
  obtain ⟨locs, hLe⟩ : ∃ L : List Loc, L = [] := ⟨_, rfl⟩
  suffices hgo : W p l e (headSpec (Cond.codeWith yL_goals cL_goals 5 (some .int) [(0, 10, 13, 21), (0, 10, 17, 13)] :: tb) ({ frames := 2, cells := 0, slots := 0, locals := 45 } : Room)).room s m ([.ref b0, vI x, vI y, .ref z0] : List Value).toArray below meth c H locs 0 0 (vx_MQ below (va_Qi (fun (r : Int32) (u : Unit) => r = iI 0 ∧ True) (fun (u : Unit) t => zB G [(b0, ob 6 [.ref b1, vI mc, .ref g0, .ref e0, vI rn, .ref f0, .ref w0, .ref u0, vI ll]), (b1, aR G 6 MK), (m0, ob 4 [vI a1, vI a2, vI kd, vI gl, vI ed, .ref m1]), (m1, aI G 4096 T), (z0, aJ G 1 OV)] s.heap.size [(b0, ob 6 [.ref b1, vI mc, .ref g0, .ref e0, vI rn, .ref f0, .ref w0, .ref u0, vI ll]), (b1, aR G 6 MK), (m0, ob 4 [vI a1, vI a2, vI kd, vI y, vI ed, .ref m1]), (m1, aI G 4096 T), (z0, aJ G 1 (zup OV 0 (zi2l gl)))] t) (va_A [(b0, ob 6 [.ref b1, vI mc, .ref g0, .ref e0, vI rn, .ref f0, .ref w0, .ref u0, vI ll]), (b1, aR G 6 MK), (m0, ob 4 [vI a1, vI a2, vI kd, vI gl, vI ed, .ref m1]), (m1, aI G 4096 T), (z0, aJ G 1 OV)] s.heap.size)) zNo ([.ref b0, vI x, vI y, .ref z0] : List Value).toArray s 0 0 (va_A [(b0, ob 6 [.ref b1, vI mc, .ref g0, .ref e0, vI rn, .ref f0, .ref w0, .ref u0, vI ll]), (b1, aR G 6 MK), (m0, ob 4 [vI a1, vI a2, vI kd, vI gl, vI ed, .ref m1]), (m1, aI G 4096 T), (z0, aJ G 1 OV)] s.heap.size)) (F0 m 0 ls []) by rw [hHe, hLe] at hgo; exact hgo
  rw [← hHe] at hP
  have hS : va_S A s.heap H locs := by rw [hHe, hLe]; exact hS
  clear hHe hLe
  refine lv_aload_n hx hb dL_goals_0 rfl (lv_at hl 3 rfl) ?_
  refine lv_iconst (v := iI 0) hx hb dL_goals_1 rfl ?_
  refine lv_aload_n hx hb dL_goals_2 rfl (lv_at hl 0 rfl) ?_
  refine lv_iload_n hx hb dL_goals_3 rfl (lv_at hl 1 rfl) ?_
  refine lv_iload_n hx hb dL_goals_4 rfl (lv_at hl 2 rfl) ?_
  refine z_wVi (q0 := 0) (ci := 6) (b := b0) (rest := [vI 0, .ref z0]) (wr := [(z0, aJ G 1 OV)]) hC hK hP hD hS hA (c_X6_goals_0 l G H.size b0 b1 g0 e0 f0 w0 u0 mc rn ll MK m0 m1 a1 a2 kd gl ed T x y (khx0) (khmk) (khy)) mv_X6_goals tw_628 [0, 1, 2, 3] [4] rfl rfl rfl rfl (by decide) rfl rfl rfl rfl hl.1 rfl (Nat.le_of_ble_eq_true rfl) ⟨rfl, rfl, Nat.le_of_ble_eq_true rfl, Nat.le_of_ble_eq_true rfl⟩ ⟨Nat.le_of_ble_eq_true rfl, Nat.le_of_ble_eq_true rfl⟩ dL_goals_5 (fun r u H locs hw hP hD hS => ?_)
  have hP : va_P G.1 vwCl [(z0, aJ G 1 OV), (b0, ob 6 [.ref b1, vI mc, .ref g0, .ref e0, vI rn, .ref f0, .ref w0, .ref u0, vI ll]), (b1, aR G 6 MK), (m0, ob 4 [vI a1, vI a2, vI kd, vI y, vI ed, .ref m1]), (m1, aI G 4096 T)] H := hP
  have hD : va_D A [(z0, aJ G 1 OV), (b0, ob 6 [.ref b1, vI mc, .ref g0, .ref e0, vI rn, .ref f0, .ref w0, .ref u0, vI ll]), (b1, aR G 6 MK), (m0, ob 4 [vI a1, vI a2, vI kd, vI y, vI ed, .ref m1]), (m1, aI G 4096 T)] := hD
  obtain ⟨hrw_, hw_1⟩ := hw
  rw [hrw_]
  clear hrw_
  clear hw_1
  refine lv_i2l (v := zi2l gl) hx hb dL_goals_8 rfl ?_
  refine z_last (ws' := [(z0, aJ G 1 (zup OV 0 (zi2l gl))), (b0, ob 6 [.ref b1, vI mc, .ref g0, .ref e0, vI rn, .ref f0, .ref w0, .ref u0, vI ll]), (b1, aR G 6 MK), (m0, ob 4 [vI a1, vI a2, vI kd, vI y, vI ed, .ref m1]), (m1, aI G 4096 T)]) hC hK hP hD hS 0 rfl (by omega) (by decide) rfl dL_goals_9 (fun H locs hP hD hS => ?_)
  refine lv_goto (tgt := 21) hx hb dL_goals_10 (by decide) ?_
  refine lv_iconst (v := iI 0) hx hb dL_goals_21 rfl ?_
  refine vx_ret ?_
  exact z_iretW hC hr hlk () hAe hP hD hS [1, 2, 3, 4, 0] (by decide) rfl rfl (⟨rfl, trivial⟩) dL_goals_22

set_option maxRecDepth 100000 in
set_option maxHeartbeats 4000000 in
theorem c_L_goals_1 (l : Launch) (hst : l.stackTraces = false) (G : zGt) (sz : Nat) (b0 b1 g0 e0 f0 w0 u0 : Nat) (mc rn ll : Int) (MK : Int → Option Nat) (x y : Int) (z0 : Nat) (OV : Int → Int64) (khx : -2147483648 ≤ x ∧ x < 2147483648) (khmk0 : 0 ≤ x ∧ x < 6 → MK x = none) : vx_Met l yL_goals (Cond.codeWith yL_goals cL_goals 5 (some .int) [(0, 10, 13, 21), (0, 10, 17, 13)] :: tb) ({ frames := 8, cells := 1, slots := 6, locals := 127 } : Room) (zPx G [(b0, ob 6 [.ref b1, vI mc, .ref g0, .ref e0, vI rn, .ref f0, .ref w0, .ref u0, vI ll]), (b1, aR G 6 MK), (z0, aJ G 1 OV)] sz [.ref b0, vI x, vI y, .ref z0]) (va_Qi (fun (r : Int32) (u : Unit) => r = iI 1 ∧ True) (fun (u : Unit) t => zB G [(b0, ob 6 [.ref b1, vI mc, .ref g0, .ref e0, vI rn, .ref f0, .ref w0, .ref u0, vI ll]), (b1, aR G 6 MK), (z0, aJ G 1 OV)] sz [(b0, ob 6 [.ref b1, vI mc, .ref g0, .ref e0, vI rn, .ref f0, .ref w0, .ref u0, vI ll]), (b1, aR G 6 MK), (z0, aJ G 1 OV)] t) (va_A [(b0, ob 6 [.ref b1, vI mc, .ref g0, .ref e0, vI rn, .ref f0, .ref w0, .ref u0, vI ll]), (b1, aR G 6 MK), (z0, aJ G 1 OV)] sz)) zNo 1 6 (va_A [(b0, ob 6 [.ref b1, vI mc, .ref g0, .ref e0, vI rn, .ref f0, .ref w0, .ref u0, vI ll]), (b1, aR G 6 MK), (z0, aJ G 1 OV)] sz) := by
  refine vx_ofWH (cc := cL_goals) (maxL := 5) (ret := (some .int)) (hh := [(0, 10, 13, 21), (0, 10, 17, 13)]) (by decide) rfl ?_
  intro p e s m args below meth c s₁ B hml hv
  obtain ⟨rfl, hsz, hP, hK, hD0, hTt, hX⟩ := hv
  subst hsz
  have hD := hD0.self (sz := s.heap.size)
  obtain ⟨A, hAe⟩ : ∃ A : Nat → Prop, A = va_A [(b0, ob 6 [.ref b1, vI mc, .ref g0, .ref e0, vI rn, .ref f0, .ref w0, .ref u0, vI ll]), (b1, aR G 6 MK), (z0, aJ G 1 OV)] s.heap.size := ⟨_, rfl⟩
  rw [← hAe] at hD hX
  have hA : ∀ q : Nat, s.heap.size ≤ q → A q := fun q h => by rw [hAe]; exact Or.inr h
  have hS : va_S A s.heap s.heap [] := va_S.rf
  have htab := vx_table (x := yL_goals) B (atoms_spec (ws := Cond.codeWith yL_goals cL_goals 5 (some .int) [(0, 10, 13, 21), (0, 10, 17, 13)] :: tb) B.pre _ List.mem_cons_self)
  obtain ⟨hC, hr, hlk⟩ := z_beginH B hml
  have hC : CallFix p m c cL_goals 5 s _ tb RL := hC
  have hx := hC.1
  have hb := hC.2.1
  have hl := lv_entry ([.ref b0, vI x, vI y, .ref z0]) (n := 5) (Nat.le_of_ble_eq_true rfl)
  rw [lg_entry_eq]
  generalize (lg_sl ([.ref b0, vI x, vI y, .ref z0]) ++ List.replicate (5 - (lg_sl ([.ref b0, vI x, vI y, .ref z0])).length) Slot.unset).toArray = ls at hl ⊢
  have hl : lv_has ls 5 [(0, .ref b0), (1, vI x), (2, vI y), (3, .ref z0)] := hl
  obtain ⟨H, hHe⟩ : ∃ H : Heap, H = s.heap := ⟨_, rfl⟩
  obtain ⟨locs, hLe⟩ : ∃ L : List Loc, L = [] := ⟨_, rfl⟩
  suffices hgo : W p l e (headSpec (Cond.codeWith yL_goals cL_goals 5 (some .int) [(0, 10, 13, 21), (0, 10, 17, 13)] :: tb) ({ frames := 8, cells := 1, slots := 6, locals := 127 } : Room)).room s m ([.ref b0, vI x, vI y, .ref z0] : List Value).toArray below meth c H locs 0 0 (vx_MQ below (va_Qi (fun (r : Int32) (u : Unit) => r = iI 1 ∧ True) (fun (u : Unit) t => zB G [(b0, ob 6 [.ref b1, vI mc, .ref g0, .ref e0, vI rn, .ref f0, .ref w0, .ref u0, vI ll]), (b1, aR G 6 MK), (z0, aJ G 1 OV)] s.heap.size [(b0, ob 6 [.ref b1, vI mc, .ref g0, .ref e0, vI rn, .ref f0, .ref w0, .ref u0, vI ll]), (b1, aR G 6 MK), (z0, aJ G 1 OV)] t) (va_A [(b0, ob 6 [.ref b1, vI mc, .ref g0, .ref e0, vI rn, .ref f0, .ref w0, .ref u0, vI ll]), (b1, aR G 6 MK), (z0, aJ G 1 OV)] s.heap.size)) zNo ([.ref b0, vI x, vI y, .ref z0] : List Value).toArray s 1 6 (va_A [(b0, ob 6 [.ref b1, vI mc, .ref g0, .ref e0, vI rn, .ref f0, .ref w0, .ref u0, vI ll]), (b1, aR G 6 MK), (z0, aJ G 1 OV)] s.heap.size)) (F0 m 0 ls []) by rw [hHe, hLe] at hgo; exact hgo
  rw [← hHe] at hP
  have hS : va_S A s.heap H locs := by rw [hHe, hLe]; exact hS
  clear hHe hLe
  refine lv_aload_n hx hb dL_goals_0 rfl (lv_at hl 3 rfl) ?_
  refine lv_iconst (v := iI 0) hx hb dL_goals_1 rfl ?_
  refine lv_aload_n hx hb dL_goals_2 rfl (lv_at hl 0 rfl) ?_
  refine lv_iload_n hx hb dL_goals_3 rfl (lv_at hl 1 rfl) ?_
  refine lv_iload_n hx hb dL_goals_4 rfl (lv_at hl 2 rfl) ?_
  refine z_xC (q0 := 0) (ci := 6) (b := b0) (rest := [vI 0, .ref z0]) (wr := [(z0, aJ G 1 OV)]) (pre := []) (x := ⟨0, 10, 13, 21⟩) (suf := [⟨0, 10, 17, 13⟩]) (name := XI) hC hK hTt hX (htab.trans rfl) hP hD hS hA (c_X6_goals_1 l hst G H.size b0 b1 g0 e0 f0 w0 u0 mc rn ll MK x y (khx) (khmk0)) mv_X6_goals tw_628 [0, 1] [2] rfl rfl rfl rfl (by decide) rfl rfl rfl rfl hl.1 rfl (Nat.le_of_ble_eq_true rfl) ⟨rfl, rfl, (Nat.le_of_ble_eq_true rfl), (Nat.le_of_ble_eq_true rfl)⟩ ⟨(Nat.le_of_ble_eq_true rfl), (Nat.le_of_ble_eq_true rfl)⟩ (fun z hz => absurd hz List.not_mem_nil) (by decide) (by decide) tw_586 (va_Nw.use rfl hTt.2.1.2.2) dL_goals_5 (fun q9 H locs hP hD hS => ?_)
  have hP : va_P G.1 vwCl [(z0, aJ G 1 OV), (b0, ob 6 [.ref b1, vI mc, .ref g0, .ref e0, vI rn, .ref f0, .ref w0, .ref u0, vI ll]), (b1, aR G 6 MK)] H := hP
  have hD : va_D A [(z0, aJ G 1 OV), (b0, ob 6 [.ref b1, vI mc, .ref g0, .ref e0, vI rn, .ref f0, .ref w0, .ref u0, vI ll]), (b1, aR G 6 MK)] := hD
  refine lv_astore (lv' := [(4, .ref q9), (0, .ref b0), (1, vI x), (2, vI y), (3, .ref z0)]) hx hb dL_goals_13 hl (by decide) rfl (fun ls hl => ?_)
  refine lv_iconst (v := iI 1) hx hb dL_goals_15 rfl ?_
  refine vx_ret ?_
  exact z_iretW hC hr hlk () hAe hP hD hS [1, 2, 0] (by decide) rfl rfl (⟨rfl, trivial⟩) dL_goals_16

set_option maxRecDepth 100000 in
set_option maxHeartbeats 4000000 in
theorem c_L_goals_2 (l : Launch) (hst : l.stackTraces = false) (G : zGt) (sz : Nat) (b0 b1 g0 e0 f0 w0 u0 : Nat) (mc rn ll : Int) (MK : Int → Option Nat) (m0 m1 : Nat) (a1 a2 kd gl ed : Int) (T : Int → Int) (x y : Int) (z0 : Nat) (OV : Int → Int64) (khx0 : 0 ≤ x ∧ x < 6) (khmk : MK x = some m0) (khy : -2147483648 ≤ y ∧ y < 2147483648) (khno : ¬ (0 ≤ y ∧ y < 65536)) : vx_Met l yL_goals (Cond.codeWith yL_goals cL_goals 5 (some .int) [(0, 10, 13, 21), (0, 10, 17, 13)] :: tb) ({ frames := 7, cells := 1, slots := 6, locals := 105 } : Room) (zPx G [(b0, ob 6 [.ref b1, vI mc, .ref g0, .ref e0, vI rn, .ref f0, .ref w0, .ref u0, vI ll]), (b1, aR G 6 MK), (m0, ob 4 [vI a1, vI a2, vI kd, vI gl, vI ed, .ref m1]), (m1, aI G 4096 T), (z0, aJ G 1 OV)] sz [.ref b0, vI x, vI y, .ref z0]) (va_Qi (fun (r : Int32) (u : Unit) => r = iI 2 ∧ True) (fun (u : Unit) t => zB G [(b0, ob 6 [.ref b1, vI mc, .ref g0, .ref e0, vI rn, .ref f0, .ref w0, .ref u0, vI ll]), (b1, aR G 6 MK), (m0, ob 4 [vI a1, vI a2, vI kd, vI gl, vI ed, .ref m1]), (m1, aI G 4096 T), (z0, aJ G 1 OV)] sz [(b0, ob 6 [.ref b1, vI mc, .ref g0, .ref e0, vI rn, .ref f0, .ref w0, .ref u0, vI ll]), (b1, aR G 6 MK), (m0, ob 4 [vI a1, vI a2, vI kd, vI gl, vI ed, .ref m1]), (m1, aI G 4096 T), (z0, aJ G 1 OV)] t) (va_A [(b0, ob 6 [.ref b1, vI mc, .ref g0, .ref e0, vI rn, .ref f0, .ref w0, .ref u0, vI ll]), (b1, aR G 6 MK), (m0, ob 4 [vI a1, vI a2, vI kd, vI gl, vI ed, .ref m1]), (m1, aI G 4096 T), (z0, aJ G 1 OV)] sz)) zNo 1 6 (va_A [(b0, ob 6 [.ref b1, vI mc, .ref g0, .ref e0, vI rn, .ref f0, .ref w0, .ref u0, vI ll]), (b1, aR G 6 MK), (m0, ob 4 [vI a1, vI a2, vI kd, vI gl, vI ed, .ref m1]), (m1, aI G 4096 T), (z0, aJ G 1 OV)] sz) := by
  refine vx_ofWH (cc := cL_goals) (maxL := 5) (ret := (some .int)) (hh := [(0, 10, 13, 21), (0, 10, 17, 13)]) (by decide) rfl ?_
  intro p e s m args below meth c s₁ B hml hv
  obtain ⟨rfl, hsz, hP, hK, hD0, hTt, hX⟩ := hv
  subst hsz
  have hD := hD0.self (sz := s.heap.size)
  obtain ⟨A, hAe⟩ : ∃ A : Nat → Prop, A = va_A [(b0, ob 6 [.ref b1, vI mc, .ref g0, .ref e0, vI rn, .ref f0, .ref w0, .ref u0, vI ll]), (b1, aR G 6 MK), (m0, ob 4 [vI a1, vI a2, vI kd, vI gl, vI ed, .ref m1]), (m1, aI G 4096 T), (z0, aJ G 1 OV)] s.heap.size := ⟨_, rfl⟩
  rw [← hAe] at hD hX
  have hA : ∀ q : Nat, s.heap.size ≤ q → A q := fun q h => by rw [hAe]; exact Or.inr h
  have hS : va_S A s.heap s.heap [] := va_S.rf
  have htab := vx_table (x := yL_goals) B (atoms_spec (ws := Cond.codeWith yL_goals cL_goals 5 (some .int) [(0, 10, 13, 21), (0, 10, 17, 13)] :: tb) B.pre _ List.mem_cons_self)
  obtain ⟨hC, hr, hlk⟩ := z_beginH B hml
  have hC : CallFix p m c cL_goals 5 s _ tb RL := hC
  have hx := hC.1
  have hb := hC.2.1
  have hl := lv_entry ([.ref b0, vI x, vI y, .ref z0]) (n := 5) (Nat.le_of_ble_eq_true rfl)
  rw [lg_entry_eq]
  generalize (lg_sl ([.ref b0, vI x, vI y, .ref z0]) ++ List.replicate (5 - (lg_sl ([.ref b0, vI x, vI y, .ref z0])).length) Slot.unset).toArray = ls at hl ⊢
  have hl : lv_has ls 5 [(0, .ref b0), (1, vI x), (2, vI y), (3, .ref z0)] := hl
  obtain ⟨H, hHe⟩ : ∃ H : Heap, H = s.heap := ⟨_, rfl⟩
  obtain ⟨locs, hLe⟩ : ∃ L : List Loc, L = [] := ⟨_, rfl⟩
  suffices hgo : W p l e (headSpec (Cond.codeWith yL_goals cL_goals 5 (some .int) [(0, 10, 13, 21), (0, 10, 17, 13)] :: tb) ({ frames := 7, cells := 1, slots := 6, locals := 105 } : Room)).room s m ([.ref b0, vI x, vI y, .ref z0] : List Value).toArray below meth c H locs 0 0 (vx_MQ below (va_Qi (fun (r : Int32) (u : Unit) => r = iI 2 ∧ True) (fun (u : Unit) t => zB G [(b0, ob 6 [.ref b1, vI mc, .ref g0, .ref e0, vI rn, .ref f0, .ref w0, .ref u0, vI ll]), (b1, aR G 6 MK), (m0, ob 4 [vI a1, vI a2, vI kd, vI gl, vI ed, .ref m1]), (m1, aI G 4096 T), (z0, aJ G 1 OV)] s.heap.size [(b0, ob 6 [.ref b1, vI mc, .ref g0, .ref e0, vI rn, .ref f0, .ref w0, .ref u0, vI ll]), (b1, aR G 6 MK), (m0, ob 4 [vI a1, vI a2, vI kd, vI gl, vI ed, .ref m1]), (m1, aI G 4096 T), (z0, aJ G 1 OV)] t) (va_A [(b0, ob 6 [.ref b1, vI mc, .ref g0, .ref e0, vI rn, .ref f0, .ref w0, .ref u0, vI ll]), (b1, aR G 6 MK), (m0, ob 4 [vI a1, vI a2, vI kd, vI gl, vI ed, .ref m1]), (m1, aI G 4096 T), (z0, aJ G 1 OV)] s.heap.size)) zNo ([.ref b0, vI x, vI y, .ref z0] : List Value).toArray s 1 6 (va_A [(b0, ob 6 [.ref b1, vI mc, .ref g0, .ref e0, vI rn, .ref f0, .ref w0, .ref u0, vI ll]), (b1, aR G 6 MK), (m0, ob 4 [vI a1, vI a2, vI kd, vI gl, vI ed, .ref m1]), (m1, aI G 4096 T), (z0, aJ G 1 OV)] s.heap.size)) (F0 m 0 ls []) by rw [hHe, hLe] at hgo; exact hgo
  rw [← hHe] at hP
  have hS : va_S A s.heap H locs := by rw [hHe, hLe]; exact hS
  clear hHe hLe
  refine lv_aload_n hx hb dL_goals_0 rfl (lv_at hl 3 rfl) ?_
  refine lv_iconst (v := iI 0) hx hb dL_goals_1 rfl ?_
  refine lv_aload_n hx hb dL_goals_2 rfl (lv_at hl 0 rfl) ?_
  refine lv_iload_n hx hb dL_goals_3 rfl (lv_at hl 1 rfl) ?_
  refine lv_iload_n hx hb dL_goals_4 rfl (lv_at hl 2 rfl) ?_
  refine z_xC (q0 := 0) (ci := 6) (b := b0) (rest := [vI 0, .ref z0]) (wr := [(z0, aJ G 1 OV)]) (pre := [⟨0, 10, 13, 21⟩]) (x := ⟨0, 10, 17, 13⟩) (suf := []) (name := XA) hC hK hTt hX (htab.trans rfl) hP hD hS hA (c_X6_goals_2 l hst G H.size b0 b1 g0 e0 f0 w0 u0 mc rn ll MK m0 m1 a1 a2 kd gl ed T x y (khx0) (khmk) (khy) (khno)) mv_X6_goals tw_628 [0, 1, 2, 3] [4] rfl rfl rfl rfl (by decide) rfl rfl rfl rfl hl.1 rfl (Nat.le_of_ble_eq_true rfl) ⟨rfl, rfl, (Nat.le_of_ble_eq_true rfl), (Nat.le_of_ble_eq_true rfl)⟩ ⟨(Nat.le_of_ble_eq_true rfl), (Nat.le_of_ble_eq_true rfl)⟩ (List.forall_mem_cons.mpr ⟨Or.inr ⟨by decide, XI, hC.2.2.2.2 _ tw_586, hTt.2.2.1.2.1⟩, fun z hz => absurd hz List.not_mem_nil⟩) (by decide) (by decide) tw_465 (va_Nw.use rfl hTt.2.1.1) dL_goals_5 (fun q9 H locs hP hD hS => ?_)
  have hP : va_P G.1 vwCl [(z0, aJ G 1 OV), (b0, ob 6 [.ref b1, vI mc, .ref g0, .ref e0, vI rn, .ref f0, .ref w0, .ref u0, vI ll]), (b1, aR G 6 MK), (m0, ob 4 [vI a1, vI a2, vI kd, vI gl, vI ed, .ref m1]), (m1, aI G 4096 T)] H := hP
  have hD : va_D A [(z0, aJ G 1 OV), (b0, ob 6 [.ref b1, vI mc, .ref g0, .ref e0, vI rn, .ref f0, .ref w0, .ref u0, vI ll]), (b1, aR G 6 MK), (m0, ob 4 [vI a1, vI a2, vI kd, vI gl, vI ed, .ref m1]), (m1, aI G 4096 T)] := hD
  refine lv_astore (lv' := [(4, .ref q9), (0, .ref b0), (1, vI x), (2, vI y), (3, .ref z0)]) hx hb dL_goals_17 hl (by decide) rfl (fun ls hl => ?_)
  refine lv_iconst (v := iI 2) hx hb dL_goals_19 rfl ?_
  refine vx_ret ?_
  exact z_iretW hC hr hlk () hAe hP hD hS [1, 2, 3, 4, 0] (by decide) rfl rfl (⟨rfl, trivial⟩) dL_goals_20

set_option maxRecDepth 100000 in
set_option maxHeartbeats 4000000 in
theorem c_L_change_0 (l : Launch) (hst : l.stackTraces = false) (G : zGt) (sz : Nat) (b0 b1 g0 e0 f0 w0 u0 : Nat) (mc rn ll : Int) (g1 : Nat) (nb : Int) (dk : Int → Int64) (x : Int) (v : Int64) (z0 : Nat) (OV : Int → Int64) (khnb : 0 ≤ nb ∧ nb ≤ 24) (khxb : 0 ≤ x ∧ x < nb) : vx_Met l yL_change (Cond.codeWith yL_change cL_change 6 (some .int) [(0, 10, 13, 21)] :: tb) ({ frames := 3, cells := 0, slots := 0, locals := 69 } : Room) (zPx G [(b0, ob 6 [.ref b1, vI mc, .ref g0, .ref e0, vI rn, .ref f0, .ref w0, .ref u0, vI ll]), (g0, ob 1 [.ref g1, vI nb]), (g1, aJ G 24 dk), (z0, aJ G 1 OV)] sz [.ref b0, vI x, .long v, .ref z0]) (va_Qi (fun (r : Int32) (u : Unit) => r = iI 0 ∧ True) (fun (u : Unit) t => zB G [(b0, ob 6 [.ref b1, vI mc, .ref g0, .ref e0, vI rn, .ref f0, .ref w0, .ref u0, vI ll]), (g0, ob 1 [.ref g1, vI nb]), (g1, aJ G 24 dk), (z0, aJ G 1 OV)] sz [(b0, ob 6 [.ref b1, vI mc, .ref g0, .ref e0, vI rn, .ref f0, .ref w0, .ref u0, vI ll]), (g0, ob 1 [.ref g1, vI nb]), (g1, aJ G 24 (zup dk x v)), (z0, aJ G 1 (zup OV 0 (dk x)))] t) (va_A [(b0, ob 6 [.ref b1, vI mc, .ref g0, .ref e0, vI rn, .ref f0, .ref w0, .ref u0, vI ll]), (g0, ob 1 [.ref g1, vI nb]), (g1, aJ G 24 dk), (z0, aJ G 1 OV)] sz)) zNo 0 0 (va_A [(b0, ob 6 [.ref b1, vI mc, .ref g0, .ref e0, vI rn, .ref f0, .ref w0, .ref u0, vI ll]), (g0, ob 1 [.ref g1, vI nb]), (g1, aJ G 24 dk), (z0, aJ G 1 OV)] sz) := by
  refine vx_ofWH (cc := cL_change) (maxL := 6) (ret := (some .int)) (hh := [(0, 10, 13, 21)]) (by decide) rfl ?_
  intro p e s m args below meth c s₁ B hml hv
  obtain ⟨rfl, hsz, hP, hK, hD0, hTt, hX⟩ := hv
  subst hsz
  have hD := hD0.self (sz := s.heap.size)
  obtain ⟨A, hAe⟩ : ∃ A : Nat → Prop, A = va_A [(b0, ob 6 [.ref b1, vI mc, .ref g0, .ref e0, vI rn, .ref f0, .ref w0, .ref u0, vI ll]), (g0, ob 1 [.ref g1, vI nb]), (g1, aJ G 24 dk), (z0, aJ G 1 OV)] s.heap.size := ⟨_, rfl⟩
  rw [← hAe] at hD hX
  have hA : ∀ q : Nat, s.heap.size ≤ q → A q := fun q h => by rw [hAe]; exact Or.inr h
  have hS : va_S A s.heap s.heap [] := va_S.rf
  have htab := vx_table (x := yL_change) B (atoms_spec (ws := Cond.codeWith yL_change cL_change 6 (some .int) [(0, 10, 13, 21)] :: tb) B.pre _ List.mem_cons_self)
  obtain ⟨hC, hr, hlk⟩ := z_beginH B hml
  have hC : CallFix p m c cL_change 6 s _ tb RL := hC
  have hx := hC.1
  have hb := hC.2.1
  have hl := lv_entry ([.ref b0, vI x, .long v, .ref z0]) (n := 6) (Nat.le_of_ble_eq_true rfl)
  rw [lg_entry_eq]
  generalize (lg_sl ([.ref b0, vI x, .long v, .ref z0]) ++ List.replicate (6 - (lg_sl ([.ref b0, vI x, .long v, .ref z0])).length) Slot.unset).toArray = ls at hl ⊢
  have hl : lv_has ls 6 [(0, .ref b0), (1, vI x), (2, .long v), (4, .ref z0)] := hl
  obtain ⟨H, hHe⟩ : ∃ H : Heap, H = s.heap := ⟨_, rfl⟩
  obtain ⟨locs, hLe⟩ : ∃ L : List Loc, L = [] := ⟨_, rfl⟩
  suffices hgo : W p l e (headSpec (Cond.codeWith yL_change cL_change 6 (some .int) [(0, 10, 13, 21)] :: tb) ({ frames := 3, cells := 0, slots := 0, locals := 69 } : Room)).room s m ([.ref b0, vI x, .long v, .ref z0] : List Value).toArray below meth c H locs 0 0 (vx_MQ below (va_Qi (fun (r : Int32) (u : Unit) => r = iI 0 ∧ True) (fun (u : Unit) t => zB G [(b0, ob 6 [.ref b1, vI mc, .ref g0, .ref e0, vI rn, .ref f0, .ref w0, .ref u0, vI ll]), (g0, ob 1 [.ref g1, vI nb]), (g1, aJ G 24 dk), (z0, aJ G 1 OV)] s.heap.size [(b0, ob 6 [.ref b1, vI mc, .ref g0, .ref e0, vI rn, .ref f0, .ref w0, .ref u0, vI ll]), (g0, ob 1 [.ref g1, vI nb]), (g1, aJ G 24 (zup dk x v)), (z0, aJ G 1 (zup OV 0 (dk x)))] t) (va_A [(b0, ob 6 [.ref b1, vI mc, .ref g0, .ref e0, vI rn, .ref f0, .ref w0, .ref u0, vI ll]), (g0, ob 1 [.ref g1, vI nb]), (g1, aJ G 24 dk), (z0, aJ G 1 OV)] s.heap.size)) zNo ([.ref b0, vI x, .long v, .ref z0] : List Value).toArray s 0 0 (va_A [(b0, ob 6 [.ref b1, vI mc, .ref g0, .ref e0, vI rn, .ref f0, .ref w0, .ref u0, vI ll]), (g0, ob 1 [.ref g1, vI nb]), (g1, aJ G 24 dk), (z0, aJ G 1 OV)] s.heap.size)) (F0 m 0 ls []) by rw [hHe, hLe] at hgo; exact hgo
  rw [← hHe] at hP
  have hS : va_S A s.heap H locs := by rw [hHe, hLe]; exact hS
  clear hHe hLe
  refine lv_aload hx hb dL_change_0 (lv_at hl 3 rfl) ?_
  refine lv_iconst (v := iI 0) hx hb dL_change_2 rfl ?_
  refine lv_aload_n hx hb dL_change_3 rfl (lv_at hl 0 rfl) ?_
  refine lv_iload_n hx hb dL_change_4 rfl (lv_at hl 1 rfl) ?_
  refine lv_lload_n hx hb dL_change_5 rfl (lv_at hl 2 rfl) ?_
  refine z_wVl (q0 := 0) (ci := 6) (b := b0) (rest := [vI 0, .ref z0]) (wr := [(z0, aJ G 1 OV)]) hC hK hP hD hS hA (c_X6_change_0 l G H.size b0 b1 g0 e0 f0 w0 u0 mc rn ll g1 nb dk x v (khnb) (khxb)) mv_X6_change tw_641 [0, 1, 2] [3] rfl rfl rfl rfl (by decide) rfl rfl rfl rfl hl.1 rfl (Nat.le_of_ble_eq_true rfl) ⟨rfl, rfl, Nat.le_of_ble_eq_true rfl, Nat.le_of_ble_eq_true rfl⟩ ⟨Nat.le_of_ble_eq_true rfl, Nat.le_of_ble_eq_true rfl⟩ dL_change_6 (fun r u H locs hw hP hD hS => ?_)
  have hP : va_P G.1 vwCl [(z0, aJ G 1 OV), (b0, ob 6 [.ref b1, vI mc, .ref g0, .ref e0, vI rn, .ref f0, .ref w0, .ref u0, vI ll]), (g0, ob 1 [.ref g1, vI nb]), (g1, aJ G 24 (zup dk x v))] H := hP
  have hD : va_D A [(z0, aJ G 1 OV), (b0, ob 6 [.ref b1, vI mc, .ref g0, .ref e0, vI rn, .ref f0, .ref w0, .ref u0, vI ll]), (g0, ob 1 [.ref g1, vI nb]), (g1, aJ G 24 (zup dk x v))] := hD
  obtain ⟨hrw_, hw_1⟩ := hw
  rw [hrw_]
  clear hrw_
  clear hw_1
  refine z_last (ws' := [(z0, aJ G 1 (zup OV 0 (dk x))), (b0, ob 6 [.ref b1, vI mc, .ref g0, .ref e0, vI rn, .ref f0, .ref w0, .ref u0, vI ll]), (g0, ob 1 [.ref g1, vI nb]), (g1, aJ G 24 (zup dk x v))]) hC hK hP hD hS 0 rfl (by omega) (by decide) rfl dL_change_9 (fun H locs hP hD hS => ?_)
  refine lv_goto (tgt := 17) hx hb dL_change_10 (by decide) ?_
  refine lv_iconst (v := iI 0) hx hb dL_change_17 rfl ?_
  refine vx_ret ?_
  exact z_iretW hC hr hlk () hAe hP hD hS [1, 2, 3, 0] (by decide) rfl rfl (⟨rfl, trivial⟩) dL_change_18

set_option maxRecDepth 100000 in
set_option maxHeartbeats 4000000 in
theorem c_L_change_1 (l : Launch) (hst : l.stackTraces = false) (G : zGt) (sz : Nat) (b0 b1 g0 e0 f0 w0 u0 : Nat) (mc rn ll : Int) (g1 : Nat) (nb : Int) (dk : Int → Int64) (x : Int) (v : Int64) (z0 : Nat) (OV : Int → Int64) (khnb : 0 ≤ nb ∧ nb ≤ 24) (khx : -2147483648 ≤ x ∧ x < 2147483648) (khno : ¬ (0 ≤ x ∧ x < nb)) : vx_Met l yL_change (Cond.codeWith yL_change cL_change 6 (some .int) [(0, 10, 13, 21)] :: tb) ({ frames := 8, cells := 1, slots := 6, locals := 126 } : Room) (zPx G [(b0, ob 6 [.ref b1, vI mc, .ref g0, .ref e0, vI rn, .ref f0, .ref w0, .ref u0, vI ll]), (g0, ob 1 [.ref g1, vI nb]), (g1, aJ G 24 dk), (z0, aJ G 1 OV)] sz [.ref b0, vI x, .long v, .ref z0]) (va_Qi (fun (r : Int32) (u : Unit) => r = iI 1 ∧ True) (fun (u : Unit) t => zB G [(b0, ob 6 [.ref b1, vI mc, .ref g0, .ref e0, vI rn, .ref f0, .ref w0, .ref u0, vI ll]), (g0, ob 1 [.ref g1, vI nb]), (g1, aJ G 24 dk), (z0, aJ G 1 OV)] sz [(b0, ob 6 [.ref b1, vI mc, .ref g0, .ref e0, vI rn, .ref f0, .ref w0, .ref u0, vI ll]), (g0, ob 1 [.ref g1, vI nb]), (g1, aJ G 24 dk), (z0, aJ G 1 OV)] t) (va_A [(b0, ob 6 [.ref b1, vI mc, .ref g0, .ref e0, vI rn, .ref f0, .ref w0, .ref u0, vI ll]), (g0, ob 1 [.ref g1, vI nb]), (g1, aJ G 24 dk), (z0, aJ G 1 OV)] sz)) zNo 1 6 (va_A [(b0, ob 6 [.ref b1, vI mc, .ref g0, .ref e0, vI rn, .ref f0, .ref w0, .ref u0, vI ll]), (g0, ob 1 [.ref g1, vI nb]), (g1, aJ G 24 dk), (z0, aJ G 1 OV)] sz) := by
  refine vx_ofWH (cc := cL_change) (maxL := 6) (ret := (some .int)) (hh := [(0, 10, 13, 21)]) (by decide) rfl ?_
  intro p e s m args below meth c s₁ B hml hv
  obtain ⟨rfl, hsz, hP, hK, hD0, hTt, hX⟩ := hv
  subst hsz
  have hD := hD0.self (sz := s.heap.size)
  obtain ⟨A, hAe⟩ : ∃ A : Nat → Prop, A = va_A [(b0, ob 6 [.ref b1, vI mc, .ref g0, .ref e0, vI rn, .ref f0, .ref w0, .ref u0, vI ll]), (g0, ob 1 [.ref g1, vI nb]), (g1, aJ G 24 dk), (z0, aJ G 1 OV)] s.heap.size := ⟨_, rfl⟩
  rw [← hAe] at hD hX
  have hA : ∀ q : Nat, s.heap.size ≤ q → A q := fun q h => by rw [hAe]; exact Or.inr h
  have hS : va_S A s.heap s.heap [] := va_S.rf
  have htab := vx_table (x := yL_change) B (atoms_spec (ws := Cond.codeWith yL_change cL_change 6 (some .int) [(0, 10, 13, 21)] :: tb) B.pre _ List.mem_cons_self)
  obtain ⟨hC, hr, hlk⟩ := z_beginH B hml
  have hC : CallFix p m c cL_change 6 s _ tb RL := hC
  have hx := hC.1
  have hb := hC.2.1
  have hl := lv_entry ([.ref b0, vI x, .long v, .ref z0]) (n := 6) (Nat.le_of_ble_eq_true rfl)
  rw [lg_entry_eq]
  generalize (lg_sl ([.ref b0, vI x, .long v, .ref z0]) ++ List.replicate (6 - (lg_sl ([.ref b0, vI x, .long v, .ref z0])).length) Slot.unset).toArray = ls at hl ⊢
  have hl : lv_has ls 6 [(0, .ref b0), (1, vI x), (2, .long v), (4, .ref z0)] := hl
  obtain ⟨H, hHe⟩ : ∃ H : Heap, H = s.heap := ⟨_, rfl⟩
  obtain ⟨locs, hLe⟩ : ∃ L : List Loc, L = [] := ⟨_, rfl⟩
  suffices hgo : W p l e (headSpec (Cond.codeWith yL_change cL_change 6 (some .int) [(0, 10, 13, 21)] :: tb) ({ frames := 8, cells := 1, slots := 6, locals := 126 } : Room)).room s m ([.ref b0, vI x, .long v, .ref z0] : List Value).toArray below meth c H locs 0 0 (vx_MQ below (va_Qi (fun (r : Int32) (u : Unit) => r = iI 1 ∧ True) (fun (u : Unit) t => zB G [(b0, ob 6 [.ref b1, vI mc, .ref g0, .ref e0, vI rn, .ref f0, .ref w0, .ref u0, vI ll]), (g0, ob 1 [.ref g1, vI nb]), (g1, aJ G 24 dk), (z0, aJ G 1 OV)] s.heap.size [(b0, ob 6 [.ref b1, vI mc, .ref g0, .ref e0, vI rn, .ref f0, .ref w0, .ref u0, vI ll]), (g0, ob 1 [.ref g1, vI nb]), (g1, aJ G 24 dk), (z0, aJ G 1 OV)] t) (va_A [(b0, ob 6 [.ref b1, vI mc, .ref g0, .ref e0, vI rn, .ref f0, .ref w0, .ref u0, vI ll]), (g0, ob 1 [.ref g1, vI nb]), (g1, aJ G 24 dk), (z0, aJ G 1 OV)] s.heap.size)) zNo ([.ref b0, vI x, .long v, .ref z0] : List Value).toArray s 1 6 (va_A [(b0, ob 6 [.ref b1, vI mc, .ref g0, .ref e0, vI rn, .ref f0, .ref w0, .ref u0, vI ll]), (g0, ob 1 [.ref g1, vI nb]), (g1, aJ G 24 dk), (z0, aJ G 1 OV)] s.heap.size)) (F0 m 0 ls []) by rw [hHe, hLe] at hgo; exact hgo
  rw [← hHe] at hP
  have hS : va_S A s.heap H locs := by rw [hHe, hLe]; exact hS
  clear hHe hLe
  refine lv_aload hx hb dL_change_0 (lv_at hl 3 rfl) ?_
  refine lv_iconst (v := iI 0) hx hb dL_change_2 rfl ?_
  refine lv_aload_n hx hb dL_change_3 rfl (lv_at hl 0 rfl) ?_
  refine lv_iload_n hx hb dL_change_4 rfl (lv_at hl 1 rfl) ?_
  refine lv_lload_n hx hb dL_change_5 rfl (lv_at hl 2 rfl) ?_
  refine z_xC (q0 := 0) (ci := 6) (b := b0) (rest := [vI 0, .ref z0]) (wr := [(z0, aJ G 1 OV)]) (pre := []) (x := ⟨0, 10, 13, 21⟩) (suf := []) (name := XI) hC hK hTt hX (htab.trans rfl) hP hD hS hA (c_X6_change_1 l hst G H.size b0 b1 g0 e0 f0 w0 u0 mc rn ll g1 nb dk x v (khnb) (khx) (khno)) mv_X6_change tw_641 [0, 1, 2] [3] rfl rfl rfl rfl (by decide) rfl rfl rfl rfl hl.1 rfl (Nat.le_of_ble_eq_true rfl) ⟨rfl, rfl, (Nat.le_of_ble_eq_true rfl), (Nat.le_of_ble_eq_true rfl)⟩ ⟨(Nat.le_of_ble_eq_true rfl), (Nat.le_of_ble_eq_true rfl)⟩ (fun z hz => absurd hz List.not_mem_nil) (by decide) (by decide) tw_586 (va_Nw.use rfl hTt.2.1.2.2) dL_change_6 (fun q9 H locs hP hD hS => ?_)
  have hP : va_P G.1 vwCl [(z0, aJ G 1 OV), (b0, ob 6 [.ref b1, vI mc, .ref g0, .ref e0, vI rn, .ref f0, .ref w0, .ref u0, vI ll]), (g0, ob 1 [.ref g1, vI nb]), (g1, aJ G 24 dk)] H := hP
  have hD : va_D A [(z0, aJ G 1 OV), (b0, ob 6 [.ref b1, vI mc, .ref g0, .ref e0, vI rn, .ref f0, .ref w0, .ref u0, vI ll]), (g0, ob 1 [.ref g1, vI nb]), (g1, aJ G 24 dk)] := hD
  refine lv_astore (lv' := [(5, .ref q9), (0, .ref b0), (1, vI x), (2, .long v), (4, .ref z0)]) hx hb dL_change_13 hl (by decide) rfl (fun ls hl => ?_)
  refine lv_iconst (v := iI 1) hx hb dL_change_15 rfl ?_
  refine vx_ret ?_
  exact z_iretW hC hr hlk () hAe hP hD hS [1, 2, 3, 0] (by decide) rfl rfl (⟨rfl, trivial⟩) dL_change_16

set_option maxRecDepth 100000 in
set_option maxHeartbeats 4000000 in
theorem c_L_bytes_0 (l : Launch) (hst : l.stackTraces = false) (G : zGt) (sz : Nat) (b0 b1 g0 e0 f0 w0 u0 : Nat) (mc rn ll : Int) (g1 : Nat) (nb : Int) (dk : Int → Int64) (x : Int) (z0 : Nat) (OV : Int → Int64) (khnb : 0 ≤ nb ∧ nb ≤ 24) (khxb : 0 ≤ x ∧ x < nb) : vx_Met l yL_bytes (Cond.codeWith yL_bytes cL_bytes 4 (some .int) [(0, 8, 11, 21)] :: tb) ({ frames := 3, cells := 0, slots := 0, locals := 62 } : Room) (zPx G [(b0, ob 6 [.ref b1, vI mc, .ref g0, .ref e0, vI rn, .ref f0, .ref w0, .ref u0, vI ll]), (g0, ob 1 [.ref g1, vI nb]), (g1, aJ G 24 dk), (z0, aJ G 1 OV)] sz [.ref b0, vI x, .ref z0]) (va_Qi (fun (r : Int32) (u : Unit) => r = iI 0 ∧ True) (fun (u : Unit) t => zB G [(b0, ob 6 [.ref b1, vI mc, .ref g0, .ref e0, vI rn, .ref f0, .ref w0, .ref u0, vI ll]), (g0, ob 1 [.ref g1, vI nb]), (g1, aJ G 24 dk), (z0, aJ G 1 OV)] sz [(b0, ob 6 [.ref b1, vI mc, .ref g0, .ref e0, vI rn, .ref f0, .ref w0, .ref u0, vI ll]), (g0, ob 1 [.ref g1, vI nb]), (g1, aJ G 24 dk), (z0, aJ G 1 (zup OV 0 (dk x)))] t) (va_A [(b0, ob 6 [.ref b1, vI mc, .ref g0, .ref e0, vI rn, .ref f0, .ref w0, .ref u0, vI ll]), (g0, ob 1 [.ref g1, vI nb]), (g1, aJ G 24 dk), (z0, aJ G 1 OV)] sz)) zNo 0 0 (va_A [(b0, ob 6 [.ref b1, vI mc, .ref g0, .ref e0, vI rn, .ref f0, .ref w0, .ref u0, vI ll]), (g0, ob 1 [.ref g1, vI nb]), (g1, aJ G 24 dk), (z0, aJ G 1 OV)] sz) := by
  refine vx_ofWH (cc := cL_bytes) (maxL := 4) (ret := (some .int)) (hh := [(0, 8, 11, 21)]) (by decide) rfl ?_
  intro p e s m args below meth c s₁ B hml hv
  obtain ⟨rfl, hsz, hP, hK, hD0, hTt, hX⟩ := hv
  subst hsz
  have hD := hD0.self (sz := s.heap.size)
  obtain ⟨A, hAe⟩ : ∃ A : Nat → Prop, A = va_A [(b0, ob 6 [.ref b1, vI mc, .ref g0, .ref e0, vI rn, .ref f0, .ref w0, .ref u0, vI ll]), (g0, ob 1 [.ref g1, vI nb]), (g1, aJ G 24 dk), (z0, aJ G 1 OV)] s.heap.size := ⟨_, rfl⟩
  rw [← hAe] at hD hX
  have hA : ∀ q : Nat, s.heap.size ≤ q → A q := fun q h => by rw [hAe]; exact Or.inr h
  have hS : va_S A s.heap s.heap [] := va_S.rf
  have htab := vx_table (x := yL_bytes) B (atoms_spec (ws := Cond.codeWith yL_bytes cL_bytes 4 (some .int) [(0, 8, 11, 21)] :: tb) B.pre _ List.mem_cons_self)
  obtain ⟨hC, hr, hlk⟩ := z_beginH B hml
  have hC : CallFix p m c cL_bytes 4 s _ tb RL := hC
  have hx := hC.1
  have hb := hC.2.1
  have hl := lv_entry ([.ref b0, vI x, .ref z0]) (n := 4) (Nat.le_of_ble_eq_true rfl)
  rw [lg_entry_eq]
  generalize (lg_sl ([.ref b0, vI x, .ref z0]) ++ List.replicate (4 - (lg_sl ([.ref b0, vI x, .ref z0])).length) Slot.unset).toArray = ls at hl ⊢
  have hl : lv_has ls 4 [(0, .ref b0), (1, vI x), (2, .ref z0)] := hl
  obtain ⟨H, hHe⟩ : ∃ H : Heap, H = s.heap := ⟨_, rfl⟩
  obtain ⟨locs, hLe⟩ : ∃ L : List Loc, L = [] := ⟨_, rfl⟩
  suffices hgo : W p l e (headSpec (Cond.codeWith yL_bytes cL_bytes 4 (some .int) [(0, 8, 11, 21)] :: tb) ({ frames := 3, cells := 0, slots := 0, locals := 62 } : Room)).room s m ([.ref b0, vI x, .ref z0] : List Value).toArray below meth c H locs 0 0 (vx_MQ below (va_Qi (fun (r : Int32) (u : Unit) => r = iI 0 ∧ True) (fun (u : Unit) t => zB G [(b0, ob 6 [.ref b1, vI mc, .ref g0, .ref e0, vI rn, .ref f0, .ref w0, .ref u0, vI ll]), (g0, ob 1 [.ref g1, vI nb]), (g1, aJ G 24 dk), (z0, aJ G 1 OV)] s.heap.size [(b0, ob 6 [.ref b1, vI mc, .ref g0, .ref e0, vI rn, .ref f0, .ref w0, .ref u0, vI ll]), (g0, ob 1 [.ref g1, vI nb]), (g1, aJ G 24 dk), (z0, aJ G 1 (zup OV 0 (dk x)))] t) (va_A [(b0, ob 6 [.ref b1, vI mc, .ref g0, .ref e0, vI rn, .ref f0, .ref w0, .ref u0, vI ll]), (g0, ob 1 [.ref g1, vI nb]), (g1, aJ G 24 dk), (z0, aJ G 1 OV)] s.heap.size)) zNo ([.ref b0, vI x, .ref z0] : List Value).toArray s 0 0 (va_A [(b0, ob 6 [.ref b1, vI mc, .ref g0, .ref e0, vI rn, .ref f0, .ref w0, .ref u0, vI ll]), (g0, ob 1 [.ref g1, vI nb]), (g1, aJ G 24 dk), (z0, aJ G 1 OV)] s.heap.size)) (F0 m 0 ls []) by rw [hHe, hLe] at hgo; exact hgo
  rw [← hHe] at hP
  have hS : va_S A s.heap H locs := by rw [hHe, hLe]; exact hS
  clear hHe hLe
  refine lv_aload_n hx hb dL_bytes_0 rfl (lv_at hl 2 rfl) ?_
  refine lv_iconst (v := iI 0) hx hb dL_bytes_1 rfl ?_
  refine lv_aload_n hx hb dL_bytes_2 rfl (lv_at hl 0 rfl) ?_
  refine lv_iload_n hx hb dL_bytes_3 rfl (lv_at hl 1 rfl) ?_
  refine z_rVl (q0 := 0) (ci := 6) (b := b0) (rest := [vI 0, .ref z0]) hC hK hP (c_X6_bytes_0 l G b0 b1 g0 e0 f0 w0 u0 mc rn ll g1 nb dk x (khnb) (khxb)) mv_X6_bytes tw_658 [0, 1, 2] rfl rfl rfl rfl hl.1 rfl (Nat.le_of_ble_eq_true rfl) ⟨rfl, rfl, Nat.le_of_ble_eq_true rfl, Nat.le_of_ble_eq_true rfl⟩ ⟨Nat.le_of_ble_eq_true rfl, Nat.le_of_ble_eq_true rfl⟩ dL_bytes_4 ?_
  refine z_last (ws' := [(b0, ob 6 [.ref b1, vI mc, .ref g0, .ref e0, vI rn, .ref f0, .ref w0, .ref u0, vI ll]), (g0, ob 1 [.ref g1, vI nb]), (g1, aJ G 24 dk), (z0, aJ G 1 (zup OV 0 (dk x)))]) hC hK hP hD hS 3 rfl (by omega) (by decide) rfl dL_bytes_7 (fun H locs hP hD hS => ?_)
  refine lv_goto (tgt := 14) hx hb dL_bytes_8 (by decide) ?_
  refine lv_iconst (v := iI 0) hx hb dL_bytes_14 rfl ?_
  refine vx_ret ?_
  exact z_iretW hC hr hlk () hAe hP hD hS [0, 1, 2, 3] (by decide) rfl rfl (⟨rfl, trivial⟩) dL_bytes_15

set_option maxRecDepth 100000 in
set_option maxHeartbeats 4000000 in
theorem c_L_bytes_1 (l : Launch) (hst : l.stackTraces = false) (G : zGt) (sz : Nat) (b0 b1 g0 e0 f0 w0 u0 : Nat) (mc rn ll : Int) (g1 : Nat) (nb : Int) (dk : Int → Int64) (x : Int) (z0 : Nat) (OV : Int → Int64) (khnb : 0 ≤ nb ∧ nb ≤ 24) (khx : -2147483648 ≤ x ∧ x < 2147483648) (khno : ¬ (0 ≤ x ∧ x < nb)) : vx_Met l yL_bytes (Cond.codeWith yL_bytes cL_bytes 4 (some .int) [(0, 8, 11, 21)] :: tb) ({ frames := 8, cells := 1, slots := 6, locals := 124 } : Room) (zPx G [(b0, ob 6 [.ref b1, vI mc, .ref g0, .ref e0, vI rn, .ref f0, .ref w0, .ref u0, vI ll]), (g0, ob 1 [.ref g1, vI nb]), (g1, aJ G 24 dk), (z0, aJ G 1 OV)] sz [.ref b0, vI x, .ref z0]) (va_Qi (fun (r : Int32) (u : Unit) => r = iI 1 ∧ True) (fun (u : Unit) t => zB G [(b0, ob 6 [.ref b1, vI mc, .ref g0, .ref e0, vI rn, .ref f0, .ref w0, .ref u0, vI ll]), (g0, ob 1 [.ref g1, vI nb]), (g1, aJ G 24 dk), (z0, aJ G 1 OV)] sz [(b0, ob 6 [.ref b1, vI mc, .ref g0, .ref e0, vI rn, .ref f0, .ref w0, .ref u0, vI ll]), (g0, ob 1 [.ref g1, vI nb]), (g1, aJ G 24 dk), (z0, aJ G 1 OV)] t) (va_A [(b0, ob 6 [.ref b1, vI mc, .ref g0, .ref e0, vI rn, .ref f0, .ref w0, .ref u0, vI ll]), (g0, ob 1 [.ref g1, vI nb]), (g1, aJ G 24 dk), (z0, aJ G 1 OV)] sz)) zNo 1 6 (va_A [(b0, ob 6 [.ref b1, vI mc, .ref g0, .ref e0, vI rn, .ref f0, .ref w0, .ref u0, vI ll]), (g0, ob 1 [.ref g1, vI nb]), (g1, aJ G 24 dk), (z0, aJ G 1 OV)] sz) := by
  refine vx_ofWH (cc := cL_bytes) (maxL := 4) (ret := (some .int)) (hh := [(0, 8, 11, 21)]) (by decide) rfl ?_
  intro p e s m args below meth c s₁ B hml hv
  obtain ⟨rfl, hsz, hP, hK, hD0, hTt, hX⟩ := hv
  subst hsz
  have hD := hD0.self (sz := s.heap.size)
  obtain ⟨A, hAe⟩ : ∃ A : Nat → Prop, A = va_A [(b0, ob 6 [.ref b1, vI mc, .ref g0, .ref e0, vI rn, .ref f0, .ref w0, .ref u0, vI ll]), (g0, ob 1 [.ref g1, vI nb]), (g1, aJ G 24 dk), (z0, aJ G 1 OV)] s.heap.size := ⟨_, rfl⟩
  rw [← hAe] at hD hX
  have hA : ∀ q : Nat, s.heap.size ≤ q → A q := fun q h => by rw [hAe]; exact Or.inr h
  have hS : va_S A s.heap s.heap [] := va_S.rf
  have htab := vx_table (x := yL_bytes) B (atoms_spec (ws := Cond.codeWith yL_bytes cL_bytes 4 (some .int) [(0, 8, 11, 21)] :: tb) B.pre _ List.mem_cons_self)
  obtain ⟨hC, hr, hlk⟩ := z_beginH B hml
  have hC : CallFix p m c cL_bytes 4 s _ tb RL := hC
  have hx := hC.1
  have hb := hC.2.1
  have hl := lv_entry ([.ref b0, vI x, .ref z0]) (n := 4) (Nat.le_of_ble_eq_true rfl)
  rw [lg_entry_eq]
  generalize (lg_sl ([.ref b0, vI x, .ref z0]) ++ List.replicate (4 - (lg_sl ([.ref b0, vI x, .ref z0])).length) Slot.unset).toArray = ls at hl ⊢
  have hl : lv_has ls 4 [(0, .ref b0), (1, vI x), (2, .ref z0)] := hl
  obtain ⟨H, hHe⟩ : ∃ H : Heap, H = s.heap := ⟨_, rfl⟩
  obtain ⟨locs, hLe⟩ : ∃ L : List Loc, L = [] := ⟨_, rfl⟩
  suffices hgo : W p l e (headSpec (Cond.codeWith yL_bytes cL_bytes 4 (some .int) [(0, 8, 11, 21)] :: tb) ({ frames := 8, cells := 1, slots := 6, locals := 124 } : Room)).room s m ([.ref b0, vI x, .ref z0] : List Value).toArray below meth c H locs 0 0 (vx_MQ below (va_Qi (fun (r : Int32) (u : Unit) => r = iI 1 ∧ True) (fun (u : Unit) t => zB G [(b0, ob 6 [.ref b1, vI mc, .ref g0, .ref e0, vI rn, .ref f0, .ref w0, .ref u0, vI ll]), (g0, ob 1 [.ref g1, vI nb]), (g1, aJ G 24 dk), (z0, aJ G 1 OV)] s.heap.size [(b0, ob 6 [.ref b1, vI mc, .ref g0, .ref e0, vI rn, .ref f0, .ref w0, .ref u0, vI ll]), (g0, ob 1 [.ref g1, vI nb]), (g1, aJ G 24 dk), (z0, aJ G 1 OV)] t) (va_A [(b0, ob 6 [.ref b1, vI mc, .ref g0, .ref e0, vI rn, .ref f0, .ref w0, .ref u0, vI ll]), (g0, ob 1 [.ref g1, vI nb]), (g1, aJ G 24 dk), (z0, aJ G 1 OV)] s.heap.size)) zNo ([.ref b0, vI x, .ref z0] : List Value).toArray s 1 6 (va_A [(b0, ob 6 [.ref b1, vI mc, .ref g0, .ref e0, vI rn, .ref f0, .ref w0, .ref u0, vI ll]), (g0, ob 1 [.ref g1, vI nb]), (g1, aJ G 24 dk), (z0, aJ G 1 OV)] s.heap.size)) (F0 m 0 ls []) by rw [hHe, hLe] at hgo; exact hgo
  rw [← hHe] at hP
  have hS : va_S A s.heap H locs := by rw [hHe, hLe]; exact hS
  clear hHe hLe
  refine lv_aload_n hx hb dL_bytes_0 rfl (lv_at hl 2 rfl) ?_
  refine lv_iconst (v := iI 0) hx hb dL_bytes_1 rfl ?_
  refine lv_aload_n hx hb dL_bytes_2 rfl (lv_at hl 0 rfl) ?_
  refine lv_iload_n hx hb dL_bytes_3 rfl (lv_at hl 1 rfl) ?_
  refine z_xC (q0 := 0) (ci := 6) (b := b0) (rest := [vI 0, .ref z0]) (wr := [(z0, aJ G 1 OV)]) (pre := []) (x := ⟨0, 8, 11, 21⟩) (suf := []) (name := XI) hC hK hTt hX (htab.trans rfl) hP hD hS hA (c_X6_bytes_1 l hst G H.size b0 b1 g0 e0 f0 w0 u0 mc rn ll g1 nb dk x (khnb) (khx) (khno)) mv_X6_bytes tw_658 [0, 1, 2] [3] rfl rfl rfl rfl (by decide) rfl rfl rfl rfl hl.1 rfl (Nat.le_of_ble_eq_true rfl) ⟨rfl, rfl, (Nat.le_of_ble_eq_true rfl), (Nat.le_of_ble_eq_true rfl)⟩ ⟨(Nat.le_of_ble_eq_true rfl), (Nat.le_of_ble_eq_true rfl)⟩ (fun z hz => absurd hz List.not_mem_nil) (by decide) (by decide) tw_586 (va_Nw.use rfl hTt.2.1.2.2) dL_bytes_4 (fun q9 H locs hP hD hS => ?_)
  have hP : va_P G.1 vwCl [(z0, aJ G 1 OV), (b0, ob 6 [.ref b1, vI mc, .ref g0, .ref e0, vI rn, .ref f0, .ref w0, .ref u0, vI ll]), (g0, ob 1 [.ref g1, vI nb]), (g1, aJ G 24 dk)] H := hP
  have hD : va_D A [(z0, aJ G 1 OV), (b0, ob 6 [.ref b1, vI mc, .ref g0, .ref e0, vI rn, .ref f0, .ref w0, .ref u0, vI ll]), (g0, ob 1 [.ref g1, vI nb]), (g1, aJ G 24 dk)] := hD
  refine lv_astore_n (lv' := [(3, .ref q9), (0, .ref b0), (1, vI x), (2, .ref z0)]) hx hb dL_bytes_11 rfl hl (by decide) rfl (fun ls hl => ?_)
  refine lv_iconst (v := iI 1) hx hb dL_bytes_12 rfl ?_
  refine vx_ret ?_
  exact z_iretW hC hr hlk () hAe hP hD hS [1, 2, 3, 0] (by decide) rfl rfl (⟨rfl, trivial⟩) dL_bytes_13

set_option maxRecDepth 100000 in
set_option maxHeartbeats 4000000 in
theorem c_L_reach_0 (l : Launch) (hst : l.stackTraces = false) (G : zGt) (sz : Nat) (b0 b1 g0 e0 f0 w0 u0 : Nat) (mc rn ll : Int) (x : Int) (z0 : Nat) (OV : Int → Int64) (khx0 : 1 ≤ x ∧ x ≤ 23) : vx_Met l yL_reach (Cond.codeWith yL_reach cL_reach 4 (some .int) [(0, 9, 12, 13)] :: tb) ({ frames := 1, cells := 0, slots := 0, locals := 22 } : Room) (zPx G [(b0, ob 6 [.ref b1, vI mc, .ref g0, .ref e0, vI rn, .ref f0, .ref w0, .ref u0, vI ll]), (z0, aJ G 1 OV)] sz [.ref b0, vI x, .ref z0]) (va_Qi (fun (r : Int32) (u : Unit) => r = iI 0 ∧ True) (fun (u : Unit) t => zB G [(b0, ob 6 [.ref b1, vI mc, .ref g0, .ref e0, vI rn, .ref f0, .ref w0, .ref u0, vI ll]), (z0, aJ G 1 OV)] sz [(b0, ob 6 [.ref b1, vI mc, .ref g0, .ref e0, vI x, .ref f0, .ref w0, .ref u0, vI ll]), (z0, aJ G 1 (zup OV 0 (zi2l rn)))] t) (va_A [(b0, ob 6 [.ref b1, vI mc, .ref g0, .ref e0, vI rn, .ref f0, .ref w0, .ref u0, vI ll]), (z0, aJ G 1 OV)] sz)) zNo 0 0 (va_A [(b0, ob 6 [.ref b1, vI mc, .ref g0, .ref e0, vI rn, .ref f0, .ref w0, .ref u0, vI ll]), (z0, aJ G 1 OV)] sz) := by
  refine vx_ofWH (cc := cL_reach) (maxL := 4) (ret := (some .int)) (hh := [(0, 9, 12, 13)]) (by decide) rfl ?_
  intro p e s m args below meth c s₁ B hml hv
  obtain ⟨rfl, hsz, hP, hK, hD0, hTt, hX⟩ := hv
  subst hsz
  have hD := hD0.self (sz := s.heap.size)
  obtain ⟨A, hAe⟩ : ∃ A : Nat → Prop, A = va_A [(b0, ob 6 [.ref b1, vI mc, .ref g0, .ref e0, vI rn, .ref f0, .ref w0, .ref u0, vI ll]), (z0, aJ G 1 OV)] s.heap.size := ⟨_, rfl⟩
  rw [← hAe] at hD hX
  have hA : ∀ q : Nat, s.heap.size ≤ q → A q := fun q h => by rw [hAe]; exact Or.inr h
  have hS : va_S A s.heap s.heap [] := va_S.rf
  have htab := vx_table (x := yL_reach) B (atoms_spec (ws := Cond.codeWith yL_reach cL_reach 4 (some .int) [(0, 9, 12, 13)] :: tb) B.pre _ List.mem_cons_self)
  obtain ⟨hC, hr, hlk⟩ := z_beginH B hml
  have hC : CallFix p m c cL_reach 4 s _ tb RL := hC
  have hx := hC.1
  have hb := hC.2.1
  have hl := lv_entry ([.ref b0, vI x, .ref z0]) (n := 4) (Nat.le_of_ble_eq_true rfl)
  rw [lg_entry_eq]
  generalize (lg_sl ([.ref b0, vI x, .ref z0]) ++ List.replicate (4 - (lg_sl ([.ref b0, vI x, .ref z0])).length) Slot.unset).toArray = ls at hl ⊢
  have hl : lv_has ls 4 [(0, .ref b0), (1, vI x), (2, .ref z0)] := hl
  obtain ⟨H, hHe⟩ : ∃ H : Heap, H = s.heap := ⟨_, rfl⟩
  obtain ⟨locs, hLe⟩ : ∃ L : List Loc, L = [] := ⟨_, rfl⟩
  suffices hgo : W p l e (headSpec (Cond.codeWith yL_reach cL_reach 4 (some .int) [(0, 9, 12, 13)] :: tb) ({ frames := 1, cells := 0, slots := 0, locals := 22 } : Room)).room s m ([.ref b0, vI x, .ref z0] : List Value).toArray below meth c H locs 0 0 (vx_MQ below (va_Qi (fun (r : Int32) (u : Unit) => r = iI 0 ∧ True) (fun (u : Unit) t => zB G [(b0, ob 6 [.ref b1, vI mc, .ref g0, .ref e0, vI rn, .ref f0, .ref w0, .ref u0, vI ll]), (z0, aJ G 1 OV)] s.heap.size [(b0, ob 6 [.ref b1, vI mc, .ref g0, .ref e0, vI x, .ref f0, .ref w0, .ref u0, vI ll]), (z0, aJ G 1 (zup OV 0 (zi2l rn)))] t) (va_A [(b0, ob 6 [.ref b1, vI mc, .ref g0, .ref e0, vI rn, .ref f0, .ref w0, .ref u0, vI ll]), (z0, aJ G 1 OV)] s.heap.size)) zNo ([.ref b0, vI x, .ref z0] : List Value).toArray s 0 0 (va_A [(b0, ob 6 [.ref b1, vI mc, .ref g0, .ref e0, vI rn, .ref f0, .ref w0, .ref u0, vI ll]), (z0, aJ G 1 OV)] s.heap.size)) (F0 m 0 ls []) by rw [hHe, hLe] at hgo; exact hgo
  rw [← hHe] at hP
  have hS : va_S A s.heap H locs := by rw [hHe, hLe]; exact hS
  clear hHe hLe
  refine lv_aload_n hx hb dL_reach_0 rfl (lv_at hl 2 rfl) ?_
  refine lv_iconst (v := iI 0) hx hb dL_reach_1 rfl ?_
  refine lv_aload_n hx hb dL_reach_2 rfl (lv_at hl 0 rfl) ?_
  refine lv_iload_n hx hb dL_reach_3 rfl (lv_at hl 1 rfl) ?_
  refine z_wVi (q0 := 0) (ci := 6) (b := b0) (rest := [vI 0, .ref z0]) (wr := [(z0, aJ G 1 OV)]) hC hK hP hD hS hA (c_X6_reach_0 l G H.size b0 b1 g0 e0 f0 w0 u0 mc rn ll x (khx0)) mv_X6_reach tw_666 [0] [1] rfl rfl rfl rfl (by decide) rfl rfl rfl rfl hl.1 rfl (Nat.le_of_ble_eq_true rfl) ⟨rfl, rfl, Nat.le_of_ble_eq_true rfl, Nat.le_of_ble_eq_true rfl⟩ ⟨Nat.le_of_ble_eq_true rfl, Nat.le_of_ble_eq_true rfl⟩ dL_reach_4 (fun r u H locs hw hP hD hS => ?_)
  have hP : va_P G.1 vwCl [(z0, aJ G 1 OV), (b0, ob 6 [.ref b1, vI mc, .ref g0, .ref e0, vI x, .ref f0, .ref w0, .ref u0, vI ll])] H := hP
  have hD : va_D A [(z0, aJ G 1 OV), (b0, ob 6 [.ref b1, vI mc, .ref g0, .ref e0, vI x, .ref f0, .ref w0, .ref u0, vI ll])] := hD
  obtain ⟨hrw_, hw_1⟩ := hw
  rw [hrw_]
  clear hrw_
  clear hw_1
  refine lv_i2l (v := zi2l rn) hx hb dL_reach_7 rfl ?_
  refine z_last (ws' := [(z0, aJ G 1 (zup OV 0 (zi2l rn))), (b0, ob 6 [.ref b1, vI mc, .ref g0, .ref e0, vI x, .ref f0, .ref w0, .ref u0, vI ll])]) hC hK hP hD hS 0 rfl (by omega) (by decide) rfl dL_reach_8 (fun H locs hP hD hS => ?_)
  refine lv_goto (tgt := 15) hx hb dL_reach_9 (by decide) ?_
  refine lv_iconst (v := iI 0) hx hb dL_reach_15 rfl ?_
  refine vx_ret ?_
  exact z_iretW hC hr hlk () hAe hP hD hS [1, 0] (by decide) rfl rfl (⟨rfl, trivial⟩) dL_reach_16

set_option maxRecDepth 100000 in
set_option maxHeartbeats 4000000 in
theorem c_L_reach_1 (l : Launch) (hst : l.stackTraces = false) (G : zGt) (sz : Nat) (b0 b1 g0 e0 f0 w0 u0 : Nat) (mc rn ll : Int) (x : Int) (z0 : Nat) (OV : Int → Int64) (khx : -2147483648 ≤ x ∧ x < 2147483648) (khno : ¬ (1 ≤ x ∧ x ≤ 23)) : vx_Met l yL_reach (Cond.codeWith yL_reach cL_reach 4 (some .int) [(0, 9, 12, 13)] :: tb) ({ frames := 7, cells := 1, slots := 6, locals := 104 } : Room) (zPx G [(b0, ob 6 [.ref b1, vI mc, .ref g0, .ref e0, vI rn, .ref f0, .ref w0, .ref u0, vI ll]), (z0, aJ G 1 OV)] sz [.ref b0, vI x, .ref z0]) (va_Qi (fun (r : Int32) (u : Unit) => r = iI 1 ∧ True) (fun (u : Unit) t => zB G [(b0, ob 6 [.ref b1, vI mc, .ref g0, .ref e0, vI rn, .ref f0, .ref w0, .ref u0, vI ll]), (z0, aJ G 1 OV)] sz [(b0, ob 6 [.ref b1, vI mc, .ref g0, .ref e0, vI rn, .ref f0, .ref w0, .ref u0, vI ll]), (z0, aJ G 1 OV)] t) (va_A [(b0, ob 6 [.ref b1, vI mc, .ref g0, .ref e0, vI rn, .ref f0, .ref w0, .ref u0, vI ll]), (z0, aJ G 1 OV)] sz)) zNo 1 6 (va_A [(b0, ob 6 [.ref b1, vI mc, .ref g0, .ref e0, vI rn, .ref f0, .ref w0, .ref u0, vI ll]), (z0, aJ G 1 OV)] sz) := by
  refine vx_ofWH (cc := cL_reach) (maxL := 4) (ret := (some .int)) (hh := [(0, 9, 12, 13)]) (by decide) rfl ?_
  intro p e s m args below meth c s₁ B hml hv
  obtain ⟨rfl, hsz, hP, hK, hD0, hTt, hX⟩ := hv
  subst hsz
  have hD := hD0.self (sz := s.heap.size)
  obtain ⟨A, hAe⟩ : ∃ A : Nat → Prop, A = va_A [(b0, ob 6 [.ref b1, vI mc, .ref g0, .ref e0, vI rn, .ref f0, .ref w0, .ref u0, vI ll]), (z0, aJ G 1 OV)] s.heap.size := ⟨_, rfl⟩
  rw [← hAe] at hD hX
  have hA : ∀ q : Nat, s.heap.size ≤ q → A q := fun q h => by rw [hAe]; exact Or.inr h
  have hS : va_S A s.heap s.heap [] := va_S.rf
  have htab := vx_table (x := yL_reach) B (atoms_spec (ws := Cond.codeWith yL_reach cL_reach 4 (some .int) [(0, 9, 12, 13)] :: tb) B.pre _ List.mem_cons_self)
  obtain ⟨hC, hr, hlk⟩ := z_beginH B hml
  have hC : CallFix p m c cL_reach 4 s _ tb RL := hC
  have hx := hC.1
  have hb := hC.2.1
  have hl := lv_entry ([.ref b0, vI x, .ref z0]) (n := 4) (Nat.le_of_ble_eq_true rfl)
  rw [lg_entry_eq]
  generalize (lg_sl ([.ref b0, vI x, .ref z0]) ++ List.replicate (4 - (lg_sl ([.ref b0, vI x, .ref z0])).length) Slot.unset).toArray = ls at hl ⊢
  have hl : lv_has ls 4 [(0, .ref b0), (1, vI x), (2, .ref z0)] := hl
  obtain ⟨H, hHe⟩ : ∃ H : Heap, H = s.heap := ⟨_, rfl⟩
  obtain ⟨locs, hLe⟩ : ∃ L : List Loc, L = [] := ⟨_, rfl⟩
  suffices hgo : W p l e (headSpec (Cond.codeWith yL_reach cL_reach 4 (some .int) [(0, 9, 12, 13)] :: tb) ({ frames := 7, cells := 1, slots := 6, locals := 104 } : Room)).room s m ([.ref b0, vI x, .ref z0] : List Value).toArray below meth c H locs 0 0 (vx_MQ below (va_Qi (fun (r : Int32) (u : Unit) => r = iI 1 ∧ True) (fun (u : Unit) t => zB G [(b0, ob 6 [.ref b1, vI mc, .ref g0, .ref e0, vI rn, .ref f0, .ref w0, .ref u0, vI ll]), (z0, aJ G 1 OV)] s.heap.size [(b0, ob 6 [.ref b1, vI mc, .ref g0, .ref e0, vI rn, .ref f0, .ref w0, .ref u0, vI ll]), (z0, aJ G 1 OV)] t) (va_A [(b0, ob 6 [.ref b1, vI mc, .ref g0, .ref e0, vI rn, .ref f0, .ref w0, .ref u0, vI ll]), (z0, aJ G 1 OV)] s.heap.size)) zNo ([.ref b0, vI x, .ref z0] : List Value).toArray s 1 6 (va_A [(b0, ob 6 [.ref b1, vI mc, .ref g0, .ref e0, vI rn, .ref f0, .ref w0, .ref u0, vI ll]), (z0, aJ G 1 OV)] s.heap.size)) (F0 m 0 ls []) by rw [hHe, hLe] at hgo; exact hgo
  rw [← hHe] at hP
  have hS : va_S A s.heap H locs := by rw [hHe, hLe]; exact hS
  clear hHe hLe
  refine lv_aload_n hx hb dL_reach_0 rfl (lv_at hl 2 rfl) ?_
  refine lv_iconst (v := iI 0) hx hb dL_reach_1 rfl ?_
  refine lv_aload_n hx hb dL_reach_2 rfl (lv_at hl 0 rfl) ?_
  refine lv_iload_n hx hb dL_reach_3 rfl (lv_at hl 1 rfl) ?_
  refine z_xC (q0 := 0) (ci := 6) (b := b0) (rest := [vI 0, .ref z0]) (wr := [(z0, aJ G 1 OV)]) (pre := []) (x := ⟨0, 9, 12, 13⟩) (suf := []) (name := XA) hC hK hTt hX (htab.trans rfl) hP hD hS hA (c_X6_reach_1 l hst G H.size b0 b1 g0 e0 f0 w0 u0 mc rn ll x (khx) (khno)) mv_X6_reach tw_666 [0] [1] rfl rfl rfl rfl (by decide) rfl rfl rfl rfl hl.1 rfl (Nat.le_of_ble_eq_true rfl) ⟨rfl, rfl, (Nat.le_of_ble_eq_true rfl), (Nat.le_of_ble_eq_true rfl)⟩ ⟨(Nat.le_of_ble_eq_true rfl), (Nat.le_of_ble_eq_true rfl)⟩ (fun z hz => absurd hz List.not_mem_nil) (by decide) (by decide) tw_465 (va_Nw.use rfl hTt.2.1.1) dL_reach_4 (fun q9 H locs hP hD hS => ?_)
  have hP : va_P G.1 vwCl [(z0, aJ G 1 OV), (b0, ob 6 [.ref b1, vI mc, .ref g0, .ref e0, vI rn, .ref f0, .ref w0, .ref u0, vI ll])] H := hP
  have hD : va_D A [(z0, aJ G 1 OV), (b0, ob 6 [.ref b1, vI mc, .ref g0, .ref e0, vI rn, .ref f0, .ref w0, .ref u0, vI ll])] := hD
  refine lv_astore_n (lv' := [(3, .ref q9), (0, .ref b0), (1, vI x), (2, .ref z0)]) hx hb dL_reach_12 rfl hl (by decide) rfl (fun ls hl => ?_)
  refine lv_iconst (v := iI 1) hx hb dL_reach_13 rfl ?_
  refine vx_ret ?_
  exact z_iretW hC hr hlk () hAe hP hD hS [1, 0] (by decide) rfl rfl (⟨rfl, trivial⟩) dL_reach_14

set_option maxRecDepth 100000 in
set_option maxHeartbeats 4000000 in
theorem c_L_push_0 (l : Launch) (hst : l.stackTraces = false) (G : zGt) (sz : Nat) (b0 b1 g0 e0 f0 w0 u0 : Nat) (mc rn ll : Int) (e1 : Nat) (nh : Int) (hd : Int → Int) (x : Int) (z0 : Nat) (OV : Int → Int64) (khx0 : 0 ≤ x ∧ x < 256) (khnh : 0 ≤ nh ∧ nh < 36) : vx_Met l yL_push (Cond.codeWith yL_push cL_push 4 (some .int) [(0, 9, 12, 13)] :: tb) ({ frames := 2, cells := 0, slots := 0, locals := 42 } : Room) (zPx G [(b0, ob 6 [.ref b1, vI mc, .ref g0, .ref e0, vI rn, .ref f0, .ref w0, .ref u0, vI ll]), (e0, ob 3 [.ref e1, vI nh]), (e1, aI G 36 hd), (z0, aJ G 1 OV)] sz [.ref b0, vI x, .ref z0]) (va_Qi (fun (r : Int32) (u : Unit) => r = iI 0 ∧ True) (fun (u : Unit) t => zB G [(b0, ob 6 [.ref b1, vI mc, .ref g0, .ref e0, vI rn, .ref f0, .ref w0, .ref u0, vI ll]), (e0, ob 3 [.ref e1, vI nh]), (e1, aI G 36 hd), (z0, aJ G 1 OV)] sz [(b0, ob 6 [.ref b1, vI mc, .ref g0, .ref e0, vI rn, .ref f0, .ref w0, .ref u0, vI ll]), (e0, ob 3 [.ref e1, vI (nh + 1)]), (e1, aI G 36 (zup hd nh x)), (z0, aJ G 1 (zup OV 0 (zi2l (nh + 1))))] t) (va_A [(b0, ob 6 [.ref b1, vI mc, .ref g0, .ref e0, vI rn, .ref f0, .ref w0, .ref u0, vI ll]), (e0, ob 3 [.ref e1, vI nh]), (e1, aI G 36 hd), (z0, aJ G 1 OV)] sz)) zNo 0 0 (va_A [(b0, ob 6 [.ref b1, vI mc, .ref g0, .ref e0, vI rn, .ref f0, .ref w0, .ref u0, vI ll]), (e0, ob 3 [.ref e1, vI nh]), (e1, aI G 36 hd), (z0, aJ G 1 OV)] sz) := by
  refine vx_ofWH (cc := cL_push) (maxL := 4) (ret := (some .int)) (hh := [(0, 9, 12, 13)]) (by decide) rfl ?_
  intro p e s m args below meth c s₁ B hml hv
  obtain ⟨rfl, hsz, hP, hK, hD0, hTt, hX⟩ := hv
  subst hsz
  have hD := hD0.self (sz := s.heap.size)
  obtain ⟨A, hAe⟩ : ∃ A : Nat → Prop, A = va_A [(b0, ob 6 [.ref b1, vI mc, .ref g0, .ref e0, vI rn, .ref f0, .ref w0, .ref u0, vI ll]), (e0, ob 3 [.ref e1, vI nh]), (e1, aI G 36 hd), (z0, aJ G 1 OV)] s.heap.size := ⟨_, rfl⟩
  rw [← hAe] at hD hX
  have hA : ∀ q : Nat, s.heap.size ≤ q → A q := fun q h => by rw [hAe]; exact Or.inr h
  have hS : va_S A s.heap s.heap [] := va_S.rf
  have htab := vx_table (x := yL_push) B (atoms_spec (ws := Cond.codeWith yL_push cL_push 4 (some .int) [(0, 9, 12, 13)] :: tb) B.pre _ List.mem_cons_self)
  obtain ⟨hC, hr, hlk⟩ := z_beginH B hml
  have hC : CallFix p m c cL_push 4 s _ tb RL := hC
  have hx := hC.1
  have hb := hC.2.1
  have hl := lv_entry ([.ref b0, vI x, .ref z0]) (n := 4) (Nat.le_of_ble_eq_true rfl)
  rw [lg_entry_eq]
  generalize (lg_sl ([.ref b0, vI x, .ref z0]) ++ List.replicate (4 - (lg_sl ([.ref b0, vI x, .ref z0])).length) Slot.unset).toArray = ls at hl ⊢
  have hl : lv_has ls 4 [(0, .ref b0), (1, vI x), (2, .ref z0)] := hl
  obtain ⟨H, hHe⟩ : ∃ H : Heap, H = s.heap := ⟨_, rfl⟩
  obtain ⟨locs, hLe⟩ : ∃ L : List Loc, L = [] := ⟨_, rfl⟩
  suffices hgo : W p l e (headSpec (Cond.codeWith yL_push cL_push 4 (some .int) [(0, 9, 12, 13)] :: tb) ({ frames := 2, cells := 0, slots := 0, locals := 42 } : Room)).room s m ([.ref b0, vI x, .ref z0] : List Value).toArray below meth c H locs 0 0 (vx_MQ below (va_Qi (fun (r : Int32) (u : Unit) => r = iI 0 ∧ True) (fun (u : Unit) t => zB G [(b0, ob 6 [.ref b1, vI mc, .ref g0, .ref e0, vI rn, .ref f0, .ref w0, .ref u0, vI ll]), (e0, ob 3 [.ref e1, vI nh]), (e1, aI G 36 hd), (z0, aJ G 1 OV)] s.heap.size [(b0, ob 6 [.ref b1, vI mc, .ref g0, .ref e0, vI rn, .ref f0, .ref w0, .ref u0, vI ll]), (e0, ob 3 [.ref e1, vI (nh + 1)]), (e1, aI G 36 (zup hd nh x)), (z0, aJ G 1 (zup OV 0 (zi2l (nh + 1))))] t) (va_A [(b0, ob 6 [.ref b1, vI mc, .ref g0, .ref e0, vI rn, .ref f0, .ref w0, .ref u0, vI ll]), (e0, ob 3 [.ref e1, vI nh]), (e1, aI G 36 hd), (z0, aJ G 1 OV)] s.heap.size)) zNo ([.ref b0, vI x, .ref z0] : List Value).toArray s 0 0 (va_A [(b0, ob 6 [.ref b1, vI mc, .ref g0, .ref e0, vI rn, .ref f0, .ref w0, .ref u0, vI ll]), (e0, ob 3 [.ref e1, vI nh]), (e1, aI G 36 hd), (z0, aJ G 1 OV)] s.heap.size)) (F0 m 0 ls []) by rw [hHe, hLe] at hgo; exact hgo
  rw [← hHe] at hP
  have hS : va_S A s.heap H locs := by rw [hHe, hLe]; exact hS
  clear hHe hLe
  refine lv_aload_n hx hb dL_push_0 rfl (lv_at hl 2 rfl) ?_
  refine lv_iconst (v := iI 0) hx hb dL_push_1 rfl ?_
  refine lv_aload_n hx hb dL_push_2 rfl (lv_at hl 0 rfl) ?_
  refine lv_iload_n hx hb dL_push_3 rfl (lv_at hl 1 rfl) ?_
  refine z_wVi (q0 := 0) (ci := 6) (b := b0) (rest := [vI 0, .ref z0]) (wr := [(z0, aJ G 1 OV)]) hC hK hP hD hS hA (c_X6_push_0 l G H.size b0 b1 g0 e0 f0 w0 u0 mc rn ll e1 nh hd x (khx0) (khnh)) mv_X6_push tw_674 [0, 1, 2] [3] rfl rfl rfl rfl (by decide) rfl rfl rfl rfl hl.1 rfl (Nat.le_of_ble_eq_true rfl) ⟨rfl, rfl, Nat.le_of_ble_eq_true rfl, Nat.le_of_ble_eq_true rfl⟩ ⟨Nat.le_of_ble_eq_true rfl, Nat.le_of_ble_eq_true rfl⟩ dL_push_4 (fun r u H locs hw hP hD hS => ?_)
  have hP : va_P G.1 vwCl [(z0, aJ G 1 OV), (b0, ob 6 [.ref b1, vI mc, .ref g0, .ref e0, vI rn, .ref f0, .ref w0, .ref u0, vI ll]), (e0, ob 3 [.ref e1, vI (nh + 1)]), (e1, aI G 36 (zup hd nh x))] H := hP
  have hD : va_D A [(z0, aJ G 1 OV), (b0, ob 6 [.ref b1, vI mc, .ref g0, .ref e0, vI rn, .ref f0, .ref w0, .ref u0, vI ll]), (e0, ob 3 [.ref e1, vI (nh + 1)]), (e1, aI G 36 (zup hd nh x))] := hD
  obtain ⟨hrw_, hw_1⟩ := hw
  rw [hrw_]
  clear hrw_
  clear hw_1
  refine lv_i2l (v := zi2l (nh + 1)) hx hb dL_push_7 rfl ?_
  refine z_last (ws' := [(z0, aJ G 1 (zup OV 0 (zi2l (nh + 1)))), (b0, ob 6 [.ref b1, vI mc, .ref g0, .ref e0, vI rn, .ref f0, .ref w0, .ref u0, vI ll]), (e0, ob 3 [.ref e1, vI (nh + 1)]), (e1, aI G 36 (zup hd nh x))]) hC hK hP hD hS 0 rfl (by omega) (by decide) rfl dL_push_8 (fun H locs hP hD hS => ?_)
  refine lv_goto (tgt := 15) hx hb dL_push_9 (by decide) ?_
  refine lv_iconst (v := iI 0) hx hb dL_push_15 rfl ?_
  refine vx_ret ?_
  exact z_iretW hC hr hlk () hAe hP hD hS [1, 2, 3, 0] (by decide) rfl rfl (⟨rfl, trivial⟩) dL_push_16

set_option maxRecDepth 100000 in
set_option maxHeartbeats 4000000 in
theorem c_L_push_n (l : Launch) (hst : l.stackTraces = false) (G : zGt) (sz : Nat) (b0 b1 g0 e0 f0 w0 u0 : Nat) (mc rn ll : Int) (e1 : Nat) (nh : Int) (hd : Int → Int) (x : Int) (z0 : Nat) (OV : Int → Int64) (khx0 : 0 ≤ x ∧ x < 256) (khnh : nh = 36) : vx_Met l yL_push (Cond.codeWith yL_push cL_push 4 (some .int) [(0, 9, 12, 13)] :: tb) ({ frames := 2, cells := 0, slots := 0, locals := 42 } : Room) (zPx G [(b0, ob 6 [.ref b1, vI mc, .ref g0, .ref e0, vI rn, .ref f0, .ref w0, .ref u0, vI ll]), (e0, ob 3 [.ref e1, vI nh]), (e1, aI G 36 hd), (z0, aJ G 1 OV)] sz [.ref b0, vI x, .ref z0]) (va_Qi (fun (r : Int32) (u : Unit) => r = iI 0 ∧ True) (fun (u : Unit) t => zB G [(b0, ob 6 [.ref b1, vI mc, .ref g0, .ref e0, vI rn, .ref f0, .ref w0, .ref u0, vI ll]), (e0, ob 3 [.ref e1, vI nh]), (e1, aI G 36 hd), (z0, aJ G 1 OV)] sz [(b0, ob 6 [.ref b1, vI mc, .ref g0, .ref e0, vI rn, .ref f0, .ref w0, .ref u0, vI ll]), (e0, ob 3 [.ref e1, vI nh]), (e1, aI G 36 hd), (z0, aJ G 1 (zup OV 0 (zi2l (-1))))] t) (va_A [(b0, ob 6 [.ref b1, vI mc, .ref g0, .ref e0, vI rn, .ref f0, .ref w0, .ref u0, vI ll]), (e0, ob 3 [.ref e1, vI nh]), (e1, aI G 36 hd), (z0, aJ G 1 OV)] sz)) zNo 0 0 (va_A [(b0, ob 6 [.ref b1, vI mc, .ref g0, .ref e0, vI rn, .ref f0, .ref w0, .ref u0, vI ll]), (e0, ob 3 [.ref e1, vI nh]), (e1, aI G 36 hd), (z0, aJ G 1 OV)] sz) := by
  refine vx_ofWH (cc := cL_push) (maxL := 4) (ret := (some .int)) (hh := [(0, 9, 12, 13)]) (by decide) rfl ?_
  intro p e s m args below meth c s₁ B hml hv
  obtain ⟨rfl, hsz, hP, hK, hD0, hTt, hX⟩ := hv
  subst hsz
  have hD := hD0.self (sz := s.heap.size)
  obtain ⟨A, hAe⟩ : ∃ A : Nat → Prop, A = va_A [(b0, ob 6 [.ref b1, vI mc, .ref g0, .ref e0, vI rn, .ref f0, .ref w0, .ref u0, vI ll]), (e0, ob 3 [.ref e1, vI nh]), (e1, aI G 36 hd), (z0, aJ G 1 OV)] s.heap.size := ⟨_, rfl⟩
  rw [← hAe] at hD hX
  have hA : ∀ q : Nat, s.heap.size ≤ q → A q := fun q h => by rw [hAe]; exact Or.inr h
  have hS : va_S A s.heap s.heap [] := va_S.rf
  have htab := vx_table (x := yL_push) B (atoms_spec (ws := Cond.codeWith yL_push cL_push 4 (some .int) [(0, 9, 12, 13)] :: tb) B.pre _ List.mem_cons_self)
  obtain ⟨hC, hr, hlk⟩ := z_beginH B hml
  have hC : CallFix p m c cL_push 4 s _ tb RL := hC
  have hx := hC.1
  have hb := hC.2.1
  have hl := lv_entry ([.ref b0, vI x, .ref z0]) (n := 4) (Nat.le_of_ble_eq_true rfl)
  rw [lg_entry_eq]
  generalize (lg_sl ([.ref b0, vI x, .ref z0]) ++ List.replicate (4 - (lg_sl ([.ref b0, vI x, .ref z0])).length) Slot.unset).toArray = ls at hl ⊢
  have hl : lv_has ls 4 [(0, .ref b0), (1, vI x), (2, .ref z0)] := hl
  obtain ⟨H, hHe⟩ : ∃ H : Heap, H = s.heap := ⟨_, rfl⟩
  obtain ⟨locs, hLe⟩ : ∃ L : List Loc, L = [] := ⟨_, rfl⟩
  suffices hgo : W p l e (headSpec (Cond.codeWith yL_push cL_push 4 (some .int) [(0, 9, 12, 13)] :: tb) ({ frames := 2, cells := 0, slots := 0, locals := 42 } : Room)).room s m ([.ref b0, vI x, .ref z0] : List Value).toArray below meth c H locs 0 0 (vx_MQ below (va_Qi (fun (r : Int32) (u : Unit) => r = iI 0 ∧ True) (fun (u : Unit) t => zB G [(b0, ob 6 [.ref b1, vI mc, .ref g0, .ref e0, vI rn, .ref f0, .ref w0, .ref u0, vI ll]), (e0, ob 3 [.ref e1, vI nh]), (e1, aI G 36 hd), (z0, aJ G 1 OV)] s.heap.size [(b0, ob 6 [.ref b1, vI mc, .ref g0, .ref e0, vI rn, .ref f0, .ref w0, .ref u0, vI ll]), (e0, ob 3 [.ref e1, vI nh]), (e1, aI G 36 hd), (z0, aJ G 1 (zup OV 0 (zi2l (-1))))] t) (va_A [(b0, ob 6 [.ref b1, vI mc, .ref g0, .ref e0, vI rn, .ref f0, .ref w0, .ref u0, vI ll]), (e0, ob 3 [.ref e1, vI nh]), (e1, aI G 36 hd), (z0, aJ G 1 OV)] s.heap.size)) zNo ([.ref b0, vI x, .ref z0] : List Value).toArray s 0 0 (va_A [(b0, ob 6 [.ref b1, vI mc, .ref g0, .ref e0, vI rn, .ref f0, .ref w0, .ref u0, vI ll]), (e0, ob 3 [.ref e1, vI nh]), (e1, aI G 36 hd), (z0, aJ G 1 OV)] s.heap.size)) (F0 m 0 ls []) by rw [hHe, hLe] at hgo; exact hgo
  rw [← hHe] at hP
  have hS : va_S A s.heap H locs := by rw [hHe, hLe]; exact hS
  clear hHe hLe
  refine lv_aload_n hx hb dL_push_0 rfl (lv_at hl 2 rfl) ?_
  refine lv_iconst (v := iI 0) hx hb dL_push_1 rfl ?_
  refine lv_aload_n hx hb dL_push_2 rfl (lv_at hl 0 rfl) ?_
  refine lv_iload_n hx hb dL_push_3 rfl (lv_at hl 1 rfl) ?_
  refine z_wVi (q0 := 0) (ci := 6) (b := b0) (rest := [vI 0, .ref z0]) (wr := [(z0, aJ G 1 OV)]) hC hK hP hD hS hA (c_X6_push_n l G H.size b0 b1 g0 e0 f0 w0 u0 mc rn ll e1 nh hd x (khx0) (khnh)) mv_X6_push tw_674 [0, 1, 2] [3] rfl rfl rfl rfl (by decide) rfl rfl rfl rfl hl.1 rfl (Nat.le_of_ble_eq_true rfl) ⟨rfl, rfl, Nat.le_of_ble_eq_true rfl, Nat.le_of_ble_eq_true rfl⟩ ⟨Nat.le_of_ble_eq_true rfl, Nat.le_of_ble_eq_true rfl⟩ dL_push_4 (fun r u H locs hw hP hD hS => ?_)
  have hP : va_P G.1 vwCl [(z0, aJ G 1 OV), (b0, ob 6 [.ref b1, vI mc, .ref g0, .ref e0, vI rn, .ref f0, .ref w0, .ref u0, vI ll]), (e0, ob 3 [.ref e1, vI nh]), (e1, aI G 36 hd)] H := hP
  have hD : va_D A [(z0, aJ G 1 OV), (b0, ob 6 [.ref b1, vI mc, .ref g0, .ref e0, vI rn, .ref f0, .ref w0, .ref u0, vI ll]), (e0, ob 3 [.ref e1, vI nh]), (e1, aI G 36 hd)] := hD
  obtain ⟨hrw_, hw_1⟩ := hw
  rw [hrw_]
  clear hrw_
  clear hw_1
  refine lv_i2l (v := zi2l (-1)) hx hb dL_push_7 rfl ?_
  refine z_last (ws' := [(z0, aJ G 1 (zup OV 0 (zi2l (-1)))), (b0, ob 6 [.ref b1, vI mc, .ref g0, .ref e0, vI rn, .ref f0, .ref w0, .ref u0, vI ll]), (e0, ob 3 [.ref e1, vI nh]), (e1, aI G 36 hd)]) hC hK hP hD hS 0 rfl (by omega) (by decide) rfl dL_push_8 (fun H locs hP hD hS => ?_)
  refine lv_goto (tgt := 15) hx hb dL_push_9 (by decide) ?_
  refine lv_iconst (v := iI 0) hx hb dL_push_15 rfl ?_
  refine vx_ret ?_
  exact z_iretW hC hr hlk () hAe hP hD hS [1, 2, 3, 0] (by decide) rfl rfl (⟨rfl, trivial⟩) dL_push_16

set_option maxRecDepth 100000 in
set_option maxHeartbeats 4000000 in
theorem c_L_push_1 (l : Launch) (hst : l.stackTraces = false) (G : zGt) (sz : Nat) (b0 b1 g0 e0 f0 w0 u0 : Nat) (mc rn ll : Int) (x : Int) (z0 : Nat) (OV : Int → Int64) (khx : -2147483648 ≤ x ∧ x < 2147483648) (khno : ¬ (0 ≤ x ∧ x < 256)) : vx_Met l yL_push (Cond.codeWith yL_push cL_push 4 (some .int) [(0, 9, 12, 13)] :: tb) ({ frames := 7, cells := 1, slots := 6, locals := 103 } : Room) (zPx G [(b0, ob 6 [.ref b1, vI mc, .ref g0, .ref e0, vI rn, .ref f0, .ref w0, .ref u0, vI ll]), (z0, aJ G 1 OV)] sz [.ref b0, vI x, .ref z0]) (va_Qi (fun (r : Int32) (u : Unit) => r = iI 1 ∧ True) (fun (u : Unit) t => zB G [(b0, ob 6 [.ref b1, vI mc, .ref g0, .ref e0, vI rn, .ref f0, .ref w0, .ref u0, vI ll]), (z0, aJ G 1 OV)] sz [(b0, ob 6 [.ref b1, vI mc, .ref g0, .ref e0, vI rn, .ref f0, .ref w0, .ref u0, vI ll]), (z0, aJ G 1 OV)] t) (va_A [(b0, ob 6 [.ref b1, vI mc, .ref g0, .ref e0, vI rn, .ref f0, .ref w0, .ref u0, vI ll]), (z0, aJ G 1 OV)] sz)) zNo 1 6 (va_A [(b0, ob 6 [.ref b1, vI mc, .ref g0, .ref e0, vI rn, .ref f0, .ref w0, .ref u0, vI ll]), (z0, aJ G 1 OV)] sz) := by
  refine vx_ofWH (cc := cL_push) (maxL := 4) (ret := (some .int)) (hh := [(0, 9, 12, 13)]) (by decide) rfl ?_
  intro p e s m args below meth c s₁ B hml hv
  obtain ⟨rfl, hsz, hP, hK, hD0, hTt, hX⟩ := hv
  subst hsz
  have hD := hD0.self (sz := s.heap.size)
  obtain ⟨A, hAe⟩ : ∃ A : Nat → Prop, A = va_A [(b0, ob 6 [.ref b1, vI mc, .ref g0, .ref e0, vI rn, .ref f0, .ref w0, .ref u0, vI ll]), (z0, aJ G 1 OV)] s.heap.size := ⟨_, rfl⟩
  rw [← hAe] at hD hX
  have hA : ∀ q : Nat, s.heap.size ≤ q → A q := fun q h => by rw [hAe]; exact Or.inr h
  have hS : va_S A s.heap s.heap [] := va_S.rf
  have htab := vx_table (x := yL_push) B (atoms_spec (ws := Cond.codeWith yL_push cL_push 4 (some .int) [(0, 9, 12, 13)] :: tb) B.pre _ List.mem_cons_self)
  obtain ⟨hC, hr, hlk⟩ := z_beginH B hml
  have hC : CallFix p m c cL_push 4 s _ tb RL := hC
  have hx := hC.1
  have hb := hC.2.1
  have hl := lv_entry ([.ref b0, vI x, .ref z0]) (n := 4) (Nat.le_of_ble_eq_true rfl)
  rw [lg_entry_eq]
  generalize (lg_sl ([.ref b0, vI x, .ref z0]) ++ List.replicate (4 - (lg_sl ([.ref b0, vI x, .ref z0])).length) Slot.unset).toArray = ls at hl ⊢
  have hl : lv_has ls 4 [(0, .ref b0), (1, vI x), (2, .ref z0)] := hl
  obtain ⟨H, hHe⟩ : ∃ H : Heap, H = s.heap := ⟨_, rfl⟩
  obtain ⟨locs, hLe⟩ : ∃ L : List Loc, L = [] := ⟨_, rfl⟩
  suffices hgo : W p l e (headSpec (Cond.codeWith yL_push cL_push 4 (some .int) [(0, 9, 12, 13)] :: tb) ({ frames := 7, cells := 1, slots := 6, locals := 103 } : Room)).room s m ([.ref b0, vI x, .ref z0] : List Value).toArray below meth c H locs 0 0 (vx_MQ below (va_Qi (fun (r : Int32) (u : Unit) => r = iI 1 ∧ True) (fun (u : Unit) t => zB G [(b0, ob 6 [.ref b1, vI mc, .ref g0, .ref e0, vI rn, .ref f0, .ref w0, .ref u0, vI ll]), (z0, aJ G 1 OV)] s.heap.size [(b0, ob 6 [.ref b1, vI mc, .ref g0, .ref e0, vI rn, .ref f0, .ref w0, .ref u0, vI ll]), (z0, aJ G 1 OV)] t) (va_A [(b0, ob 6 [.ref b1, vI mc, .ref g0, .ref e0, vI rn, .ref f0, .ref w0, .ref u0, vI ll]), (z0, aJ G 1 OV)] s.heap.size)) zNo ([.ref b0, vI x, .ref z0] : List Value).toArray s 1 6 (va_A [(b0, ob 6 [.ref b1, vI mc, .ref g0, .ref e0, vI rn, .ref f0, .ref w0, .ref u0, vI ll]), (z0, aJ G 1 OV)] s.heap.size)) (F0 m 0 ls []) by rw [hHe, hLe] at hgo; exact hgo
  rw [← hHe] at hP
  have hS : va_S A s.heap H locs := by rw [hHe, hLe]; exact hS
  clear hHe hLe
  refine lv_aload_n hx hb dL_push_0 rfl (lv_at hl 2 rfl) ?_
  refine lv_iconst (v := iI 0) hx hb dL_push_1 rfl ?_
  refine lv_aload_n hx hb dL_push_2 rfl (lv_at hl 0 rfl) ?_
  refine lv_iload_n hx hb dL_push_3 rfl (lv_at hl 1 rfl) ?_
  refine z_xC (q0 := 0) (ci := 6) (b := b0) (rest := [vI 0, .ref z0]) (wr := [(z0, aJ G 1 OV)]) (pre := []) (x := ⟨0, 9, 12, 13⟩) (suf := []) (name := XA) hC hK hTt hX (htab.trans rfl) hP hD hS hA (c_X6_push_1 l hst G H.size b0 b1 g0 e0 f0 w0 u0 mc rn ll x (khx) (khno)) mv_X6_push tw_674 [0] [1] rfl rfl rfl rfl (by decide) rfl rfl rfl rfl hl.1 rfl (Nat.le_of_ble_eq_true rfl) ⟨rfl, rfl, (Nat.le_of_ble_eq_true rfl), (Nat.le_of_ble_eq_true rfl)⟩ ⟨(Nat.le_of_ble_eq_true rfl), (Nat.le_of_ble_eq_true rfl)⟩ (fun z hz => absurd hz List.not_mem_nil) (by decide) (by decide) tw_465 (va_Nw.use rfl hTt.2.1.1) dL_push_4 (fun q9 H locs hP hD hS => ?_)
  have hP : va_P G.1 vwCl [(z0, aJ G 1 OV), (b0, ob 6 [.ref b1, vI mc, .ref g0, .ref e0, vI rn, .ref f0, .ref w0, .ref u0, vI ll])] H := hP
  have hD : va_D A [(z0, aJ G 1 OV), (b0, ob 6 [.ref b1, vI mc, .ref g0, .ref e0, vI rn, .ref f0, .ref w0, .ref u0, vI ll])] := hD
  refine lv_astore_n (lv' := [(3, .ref q9), (0, .ref b0), (1, vI x), (2, .ref z0)]) hx hb dL_push_12 rfl hl (by decide) rfl (fun ls hl => ?_)
  refine lv_iconst (v := iI 1) hx hb dL_push_13 rfl ?_
  refine vx_ret ?_
  exact z_iretW hC hr hlk () hAe hP hD hS [1, 0] (by decide) rfl rfl (⟨rfl, trivial⟩) dL_push_14

set_option maxRecDepth 100000 in
set_option maxHeartbeats 4000000 in
theorem c_L_write_0 (l : Launch) (hst : l.stackTraces = false) (G : zGt) (sz : Nat) (b0 b1 g0 e0 f0 w0 u0 : Nat) (mc rn ll : Int) (MK : Int → Option Nat) (m0 m1 : Nat) (a1 a2 kd gl ed : Int) (T : Int → Int) (g1 : Nat) (nb : Int) (dk : Int → Int64) (e1 : Nat) (nh : Int) (hd : Int → Int) (x : Int) (z0 : Nat) (OV : Int → Int64) (khx0 : 0 ≤ x ∧ x < 6) (khmk : MK x = some m0) (khnh : 0 ≤ nh ∧ nh ≤ 36) (khhd : ∀ j : Int, 0 ≤ j ∧ j < nh → 0 ≤ hd j ∧ hd j < 256) (khT : ∀ j : Int, 0 ≤ j ∧ j < 4096 → 0 ≤ T j ∧ T j < 65536) (khkd : 0 ≤ kd ∧ kd < 3) (khnb : 0 ≤ nb ∧ nb ≤ 24) (khri : zand (runS T hd nh.toNat) gl ≠ 0) (khfu : nb + (11 + nh) / 8 ≤ 24) : vx_Met l yL_write (Cond.codeWith yL_write cL_write 4 (some .int) [(0, 9, 12, 21)] :: tb) ({ frames := 6, cells := 0, slots := 0, locals := 139 } : Room) (zPx G [(b0, ob 6 [.ref b1, vI mc, .ref g0, .ref e0, vI rn, .ref f0, .ref w0, .ref u0, vI ll]), (b1, aR G 6 MK), (m0, ob 4 [vI a1, vI a2, vI kd, vI gl, vI ed, .ref m1]), (m1, aI G 4096 T), (g0, ob 1 [.ref g1, vI nb]), (g1, aJ G 24 dk), (e0, ob 3 [.ref e1, vI nh]), (e1, aI G 36 hd), (z0, aJ G 1 OV)] sz [.ref b0, vI x, .ref z0]) (va_Qi (fun (r : Int32) (u : Unit) => r = iI 0 ∧ True) (fun (u : Unit) t => zB G [(b0, ob 6 [.ref b1, vI mc, .ref g0, .ref e0, vI rn, .ref f0, .ref w0, .ref u0, vI ll]), (b1, aR G 6 MK), (m0, ob 4 [vI a1, vI a2, vI kd, vI gl, vI ed, .ref m1]), (m1, aI G 4096 T), (g0, ob 1 [.ref g1, vI nb]), (g1, aJ G 24 dk), (e0, ob 3 [.ref e1, vI nh]), (e1, aI G 36 hd), (z0, aJ G 1 OV)] sz [(b0, ob 6 [.ref b1, vI mc, .ref g0, .ref e0, vI rn, .ref f0, .ref w0, .ref u0, vI ll]), (b1, aR G 6 MK), (m0, ob 4 [vI a1, vI a2, vI kd, vI gl, vI ed, .ref m1]), (m1, aI G 4096 T), (g0, ob 1 [.ref g1, vI (nb + (11 + nh) / 8)]), (g1, aJ G 24 (wrF dk nb ((11 + nh) / 8) (txF kd a1 a2 nh hd))), (e0, ob 3 [.ref e1, vI 0]), (e1, aI G 36 hd), (z0, aJ G 1 (zup OV 0 (zi2l nb)))] t) (va_A [(b0, ob 6 [.ref b1, vI mc, .ref g0, .ref e0, vI rn, .ref f0, .ref w0, .ref u0, vI ll]), (b1, aR G 6 MK), (m0, ob 4 [vI a1, vI a2, vI kd, vI gl, vI ed, .ref m1]), (m1, aI G 4096 T), (g0, ob 1 [.ref g1, vI nb]), (g1, aJ G 24 dk), (e0, ob 3 [.ref e1, vI nh]), (e1, aI G 36 hd), (z0, aJ G 1 OV)] sz)) zNo 0 0 (va_A [(b0, ob 6 [.ref b1, vI mc, .ref g0, .ref e0, vI rn, .ref f0, .ref w0, .ref u0, vI ll]), (b1, aR G 6 MK), (m0, ob 4 [vI a1, vI a2, vI kd, vI gl, vI ed, .ref m1]), (m1, aI G 4096 T), (g0, ob 1 [.ref g1, vI nb]), (g1, aJ G 24 dk), (e0, ob 3 [.ref e1, vI nh]), (e1, aI G 36 hd), (z0, aJ G 1 OV)] sz) := by
  refine vx_ofWH (cc := cL_write) (maxL := 4) (ret := (some .int)) (hh := [(0, 9, 12, 21)]) (by decide) rfl ?_
  intro p e s m args below meth c s₁ B hml hv
  obtain ⟨rfl, hsz, hP, hK, hD0, hTt, hX⟩ := hv
  subst hsz
  have hD := hD0.self (sz := s.heap.size)
  obtain ⟨A, hAe⟩ : ∃ A : Nat → Prop, A = va_A [(b0, ob 6 [.ref b1, vI mc, .ref g0, .ref e0, vI rn, .ref f0, .ref w0, .ref u0, vI ll]), (b1, aR G 6 MK), (m0, ob 4 [vI a1, vI a2, vI kd, vI gl, vI ed, .ref m1]), (m1, aI G 4096 T), (g0, ob 1 [.ref g1, vI nb]), (g1, aJ G 24 dk), (e0, ob 3 [.ref e1, vI nh]), (e1, aI G 36 hd), (z0, aJ G 1 OV)] s.heap.size := ⟨_, rfl⟩
  rw [← hAe] at hD hX
  have hA : ∀ q : Nat, s.heap.size ≤ q → A q := fun q h => by rw [hAe]; exact Or.inr h
  have hS : va_S A s.heap s.heap [] := va_S.rf
  have htab := vx_table (x := yL_write) B (atoms_spec (ws := Cond.codeWith yL_write cL_write 4 (some .int) [(0, 9, 12, 21)] :: tb) B.pre _ List.mem_cons_self)
  obtain ⟨hC, hr, hlk⟩ := z_beginH B hml
  have hC : CallFix p m c cL_write 4 s _ tb RL := hC
  have hx := hC.1
  have hb := hC.2.1
  have hl := lv_entry ([.ref b0, vI x, .ref z0]) (n := 4) (Nat.le_of_ble_eq_true rfl)
  rw [lg_entry_eq]
  generalize (lg_sl ([.ref b0, vI x, .ref z0]) ++ List.replicate (4 - (lg_sl ([.ref b0, vI x, .ref z0])).length) Slot.unset).toArray = ls at hl ⊢
  have hl : lv_has ls 4 [(0, .ref b0), (1, vI x), (2, .ref z0)] := hl
  obtain ⟨H, hHe⟩ : ∃ H : Heap, H = s.heap := ⟨_, rfl⟩
  obtain ⟨locs, hLe⟩ : ∃ L : List Loc, L = [] := ⟨_, rfl⟩
  suffices hgo : W p l e (headSpec (Cond.codeWith yL_write cL_write 4 (some .int) [(0, 9, 12, 21)] :: tb) ({ frames := 6, cells := 0, slots := 0, locals := 139 } : Room)).room s m ([.ref b0, vI x, .ref z0] : List Value).toArray below meth c H locs 0 0 (vx_MQ below (va_Qi (fun (r : Int32) (u : Unit) => r = iI 0 ∧ True) (fun (u : Unit) t => zB G [(b0, ob 6 [.ref b1, vI mc, .ref g0, .ref e0, vI rn, .ref f0, .ref w0, .ref u0, vI ll]), (b1, aR G 6 MK), (m0, ob 4 [vI a1, vI a2, vI kd, vI gl, vI ed, .ref m1]), (m1, aI G 4096 T), (g0, ob 1 [.ref g1, vI nb]), (g1, aJ G 24 dk), (e0, ob 3 [.ref e1, vI nh]), (e1, aI G 36 hd), (z0, aJ G 1 OV)] s.heap.size [(b0, ob 6 [.ref b1, vI mc, .ref g0, .ref e0, vI rn, .ref f0, .ref w0, .ref u0, vI ll]), (b1, aR G 6 MK), (m0, ob 4 [vI a1, vI a2, vI kd, vI gl, vI ed, .ref m1]), (m1, aI G 4096 T), (g0, ob 1 [.ref g1, vI (nb + (11 + nh) / 8)]), (g1, aJ G 24 (wrF dk nb ((11 + nh) / 8) (txF kd a1 a2 nh hd))), (e0, ob 3 [.ref e1, vI 0]), (e1, aI G 36 hd), (z0, aJ G 1 (zup OV 0 (zi2l nb)))] t) (va_A [(b0, ob 6 [.ref b1, vI mc, .ref g0, .ref e0, vI rn, .ref f0, .ref w0, .ref u0, vI ll]), (b1, aR G 6 MK), (m0, ob 4 [vI a1, vI a2, vI kd, vI gl, vI ed, .ref m1]), (m1, aI G 4096 T), (g0, ob 1 [.ref g1, vI nb]), (g1, aJ G 24 dk), (e0, ob 3 [.ref e1, vI nh]), (e1, aI G 36 hd), (z0, aJ G 1 OV)] s.heap.size)) zNo ([.ref b0, vI x, .ref z0] : List Value).toArray s 0 0 (va_A [(b0, ob 6 [.ref b1, vI mc, .ref g0, .ref e0, vI rn, .ref f0, .ref w0, .ref u0, vI ll]), (b1, aR G 6 MK), (m0, ob 4 [vI a1, vI a2, vI kd, vI gl, vI ed, .ref m1]), (m1, aI G 4096 T), (g0, ob 1 [.ref g1, vI nb]), (g1, aJ G 24 dk), (e0, ob 3 [.ref e1, vI nh]), (e1, aI G 36 hd), (z0, aJ G 1 OV)] s.heap.size)) (F0 m 0 ls []) by rw [hHe, hLe] at hgo; exact hgo
  rw [← hHe] at hP
  have hS : va_S A s.heap H locs := by rw [hHe, hLe]; exact hS
  clear hHe hLe
  refine lv_aload_n hx hb dL_write_0 rfl (lv_at hl 2 rfl) ?_
  refine lv_iconst (v := iI 0) hx hb dL_write_1 rfl ?_
  refine lv_aload_n hx hb dL_write_2 rfl (lv_at hl 0 rfl) ?_
  refine lv_iload_n hx hb dL_write_3 rfl (lv_at hl 1 rfl) ?_
  refine z_wVi (q0 := 0) (ci := 6) (b := b0) (rest := [vI 0, .ref z0]) (wr := [(z0, aJ G 1 OV)]) hC hK hP hD hS hA (c_X6_write_0 l G H.size b0 b1 g0 e0 f0 w0 u0 mc rn ll MK m0 m1 a1 a2 kd gl ed T g1 nb dk e1 nh hd x (khx0) (khmk) (khnh) (khhd) (khT) (khkd) (khnb) (khri) (khfu)) mv_X6_write tw_686 [0, 1, 2, 3, 4, 5, 6, 7] [8] rfl rfl rfl rfl (by decide) rfl rfl rfl rfl hl.1 rfl (Nat.le_of_ble_eq_true rfl) ⟨rfl, rfl, Nat.le_of_ble_eq_true rfl, Nat.le_of_ble_eq_true rfl⟩ ⟨Nat.le_of_ble_eq_true rfl, Nat.le_of_ble_eq_true rfl⟩ dL_write_4 (fun r u H locs hw hP hD hS => ?_)
  have hP : va_P G.1 vwCl [(z0, aJ G 1 OV), (b0, ob 6 [.ref b1, vI mc, .ref g0, .ref e0, vI rn, .ref f0, .ref w0, .ref u0, vI ll]), (b1, aR G 6 MK), (m0, ob 4 [vI a1, vI a2, vI kd, vI gl, vI ed, .ref m1]), (m1, aI G 4096 T), (g0, ob 1 [.ref g1, vI (nb + (11 + nh) / 8)]), (g1, aJ G 24 (wrF dk nb ((11 + nh) / 8) (txF kd a1 a2 nh hd))), (e0, ob 3 [.ref e1, vI 0]), (e1, aI G 36 hd)] H := hP
  have hD : va_D A [(z0, aJ G 1 OV), (b0, ob 6 [.ref b1, vI mc, .ref g0, .ref e0, vI rn, .ref f0, .ref w0, .ref u0, vI ll]), (b1, aR G 6 MK), (m0, ob 4 [vI a1, vI a2, vI kd, vI gl, vI ed, .ref m1]), (m1, aI G 4096 T), (g0, ob 1 [.ref g1, vI (nb + (11 + nh) / 8)]), (g1, aJ G 24 (wrF dk nb ((11 + nh) / 8) (txF kd a1 a2 nh hd))), (e0, ob 3 [.ref e1, vI 0]), (e1, aI G 36 hd)] := hD
  obtain ⟨hrw_, hw_1⟩ := hw
  rw [hrw_]
  clear hrw_
  clear hw_1
  refine lv_i2l (v := zi2l nb) hx hb dL_write_7 rfl ?_
  refine z_last (ws' := [(z0, aJ G 1 (zup OV 0 (zi2l nb))), (b0, ob 6 [.ref b1, vI mc, .ref g0, .ref e0, vI rn, .ref f0, .ref w0, .ref u0, vI ll]), (b1, aR G 6 MK), (m0, ob 4 [vI a1, vI a2, vI kd, vI gl, vI ed, .ref m1]), (m1, aI G 4096 T), (g0, ob 1 [.ref g1, vI (nb + (11 + nh) / 8)]), (g1, aJ G 24 (wrF dk nb ((11 + nh) / 8) (txF kd a1 a2 nh hd))), (e0, ob 3 [.ref e1, vI 0]), (e1, aI G 36 hd)]) hC hK hP hD hS 0 rfl (by omega) (by decide) rfl dL_write_8 (fun H locs hP hD hS => ?_)
  refine lv_goto (tgt := 15) hx hb dL_write_9 (by decide) ?_
  refine lv_iconst (v := iI 0) hx hb dL_write_15 rfl ?_
  refine vx_ret ?_
  exact z_iretW hC hr hlk () hAe hP hD hS [1, 2, 3, 4, 5, 6, 7, 8, 0] (by decide) rfl rfl (⟨rfl, trivial⟩) dL_write_16

set_option maxRecDepth 100000 in
set_option maxHeartbeats 4000000 in
theorem c_L_write_n (l : Launch) (hst : l.stackTraces = false) (G : zGt) (sz : Nat) (b0 b1 g0 e0 f0 w0 u0 : Nat) (mc rn ll : Int) (MK : Int → Option Nat) (m0 m1 : Nat) (a1 a2 kd gl ed : Int) (T : Int → Int) (g1 : Nat) (nb : Int) (dk : Int → Int64) (e1 : Nat) (nh : Int) (hd : Int → Int) (x : Int) (z0 : Nat) (OV : Int → Int64) (khx0 : 0 ≤ x ∧ x < 6) (khmk : MK x = some m0) (khnh : 0 ≤ nh ∧ nh ≤ 36) (khhd : ∀ j : Int, 0 ≤ j ∧ j < nh → 0 ≤ hd j ∧ hd j < 256) (khT : ∀ j : Int, 0 ≤ j ∧ j < 4096 → 0 ≤ T j ∧ T j < 65536) (khkd : 0 ≤ kd ∧ kd < 3) (khnb : 0 ≤ nb ∧ nb ≤ 24) (khri : zand (runS T hd nh.toNat) gl = 0) : vx_Met l yL_write (Cond.codeWith yL_write cL_write 4 (some .int) [(0, 9, 12, 21)] :: tb) ({ frames := 3, cells := 0, slots := 0, locals := 74 } : Room) (zPx G [(b0, ob 6 [.ref b1, vI mc, .ref g0, .ref e0, vI rn, .ref f0, .ref w0, .ref u0, vI ll]), (b1, aR G 6 MK), (m0, ob 4 [vI a1, vI a2, vI kd, vI gl, vI ed, .ref m1]), (m1, aI G 4096 T), (g0, ob 1 [.ref g1, vI nb]), (g1, aJ G 24 dk), (e0, ob 3 [.ref e1, vI nh]), (e1, aI G 36 hd), (z0, aJ G 1 OV)] sz [.ref b0, vI x, .ref z0]) (va_Qi (fun (r : Int32) (u : Unit) => r = iI 0 ∧ True) (fun (u : Unit) t => zB G [(b0, ob 6 [.ref b1, vI mc, .ref g0, .ref e0, vI rn, .ref f0, .ref w0, .ref u0, vI ll]), (b1, aR G 6 MK), (m0, ob 4 [vI a1, vI a2, vI kd, vI gl, vI ed, .ref m1]), (m1, aI G 4096 T), (g0, ob 1 [.ref g1, vI nb]), (g1, aJ G 24 dk), (e0, ob 3 [.ref e1, vI nh]), (e1, aI G 36 hd), (z0, aJ G 1 OV)] sz [(b0, ob 6 [.ref b1, vI mc, .ref g0, .ref e0, vI rn, .ref f0, .ref w0, .ref u0, vI ll]), (b1, aR G 6 MK), (m0, ob 4 [vI a1, vI a2, vI kd, vI gl, vI ed, .ref m1]), (m1, aI G 4096 T), (g0, ob 1 [.ref g1, vI nb]), (g1, aJ G 24 dk), (e0, ob 3 [.ref e1, vI nh]), (e1, aI G 36 hd), (z0, aJ G 1 (zup OV 0 (zi2l (-1))))] t) (va_A [(b0, ob 6 [.ref b1, vI mc, .ref g0, .ref e0, vI rn, .ref f0, .ref w0, .ref u0, vI ll]), (b1, aR G 6 MK), (m0, ob 4 [vI a1, vI a2, vI kd, vI gl, vI ed, .ref m1]), (m1, aI G 4096 T), (g0, ob 1 [.ref g1, vI nb]), (g1, aJ G 24 dk), (e0, ob 3 [.ref e1, vI nh]), (e1, aI G 36 hd), (z0, aJ G 1 OV)] sz)) zNo 0 0 (va_A [(b0, ob 6 [.ref b1, vI mc, .ref g0, .ref e0, vI rn, .ref f0, .ref w0, .ref u0, vI ll]), (b1, aR G 6 MK), (m0, ob 4 [vI a1, vI a2, vI kd, vI gl, vI ed, .ref m1]), (m1, aI G 4096 T), (g0, ob 1 [.ref g1, vI nb]), (g1, aJ G 24 dk), (e0, ob 3 [.ref e1, vI nh]), (e1, aI G 36 hd), (z0, aJ G 1 OV)] sz) := by
  refine vx_ofWH (cc := cL_write) (maxL := 4) (ret := (some .int)) (hh := [(0, 9, 12, 21)]) (by decide) rfl ?_
  intro p e s m args below meth c s₁ B hml hv
  obtain ⟨rfl, hsz, hP, hK, hD0, hTt, hX⟩ := hv
  subst hsz
  have hD := hD0.self (sz := s.heap.size)
  obtain ⟨A, hAe⟩ : ∃ A : Nat → Prop, A = va_A [(b0, ob 6 [.ref b1, vI mc, .ref g0, .ref e0, vI rn, .ref f0, .ref w0, .ref u0, vI ll]), (b1, aR G 6 MK), (m0, ob 4 [vI a1, vI a2, vI kd, vI gl, vI ed, .ref m1]), (m1, aI G 4096 T), (g0, ob 1 [.ref g1, vI nb]), (g1, aJ G 24 dk), (e0, ob 3 [.ref e1, vI nh]), (e1, aI G 36 hd), (z0, aJ G 1 OV)] s.heap.size := ⟨_, rfl⟩
  rw [← hAe] at hD hX
  have hA : ∀ q : Nat, s.heap.size ≤ q → A q := fun q h => by rw [hAe]; exact Or.inr h
  have hS : va_S A s.heap s.heap [] := va_S.rf
  have htab := vx_table (x := yL_write) B (atoms_spec (ws := Cond.codeWith yL_write cL_write 4 (some .int) [(0, 9, 12, 21)] :: tb) B.pre _ List.mem_cons_self)
  obtain ⟨hC, hr, hlk⟩ := z_beginH B hml
  have hC : CallFix p m c cL_write 4 s _ tb RL := hC
  have hx := hC.1
  have hb := hC.2.1
  have hl := lv_entry ([.ref b0, vI x, .ref z0]) (n := 4) (Nat.le_of_ble_eq_true rfl)
  rw [lg_entry_eq]
  generalize (lg_sl ([.ref b0, vI x, .ref z0]) ++ List.replicate (4 - (lg_sl ([.ref b0, vI x, .ref z0])).length) Slot.unset).toArray = ls at hl ⊢
  have hl : lv_has ls 4 [(0, .ref b0), (1, vI x), (2, .ref z0)] := hl
  obtain ⟨H, hHe⟩ : ∃ H : Heap, H = s.heap := ⟨_, rfl⟩
  obtain ⟨locs, hLe⟩ : ∃ L : List Loc, L = [] := ⟨_, rfl⟩
  suffices hgo : W p l e (headSpec (Cond.codeWith yL_write cL_write 4 (some .int) [(0, 9, 12, 21)] :: tb) ({ frames := 3, cells := 0, slots := 0, locals := 74 } : Room)).room s m ([.ref b0, vI x, .ref z0] : List Value).toArray below meth c H locs 0 0 (vx_MQ below (va_Qi (fun (r : Int32) (u : Unit) => r = iI 0 ∧ True) (fun (u : Unit) t => zB G [(b0, ob 6 [.ref b1, vI mc, .ref g0, .ref e0, vI rn, .ref f0, .ref w0, .ref u0, vI ll]), (b1, aR G 6 MK), (m0, ob 4 [vI a1, vI a2, vI kd, vI gl, vI ed, .ref m1]), (m1, aI G 4096 T), (g0, ob 1 [.ref g1, vI nb]), (g1, aJ G 24 dk), (e0, ob 3 [.ref e1, vI nh]), (e1, aI G 36 hd), (z0, aJ G 1 OV)] s.heap.size [(b0, ob 6 [.ref b1, vI mc, .ref g0, .ref e0, vI rn, .ref f0, .ref w0, .ref u0, vI ll]), (b1, aR G 6 MK), (m0, ob 4 [vI a1, vI a2, vI kd, vI gl, vI ed, .ref m1]), (m1, aI G 4096 T), (g0, ob 1 [.ref g1, vI nb]), (g1, aJ G 24 dk), (e0, ob 3 [.ref e1, vI nh]), (e1, aI G 36 hd), (z0, aJ G 1 (zup OV 0 (zi2l (-1))))] t) (va_A [(b0, ob 6 [.ref b1, vI mc, .ref g0, .ref e0, vI rn, .ref f0, .ref w0, .ref u0, vI ll]), (b1, aR G 6 MK), (m0, ob 4 [vI a1, vI a2, vI kd, vI gl, vI ed, .ref m1]), (m1, aI G 4096 T), (g0, ob 1 [.ref g1, vI nb]), (g1, aJ G 24 dk), (e0, ob 3 [.ref e1, vI nh]), (e1, aI G 36 hd), (z0, aJ G 1 OV)] s.heap.size)) zNo ([.ref b0, vI x, .ref z0] : List Value).toArray s 0 0 (va_A [(b0, ob 6 [.ref b1, vI mc, .ref g0, .ref e0, vI rn, .ref f0, .ref w0, .ref u0, vI ll]), (b1, aR G 6 MK), (m0, ob 4 [vI a1, vI a2, vI kd, vI gl, vI ed, .ref m1]), (m1, aI G 4096 T), (g0, ob 1 [.ref g1, vI nb]), (g1, aJ G 24 dk), (e0, ob 3 [.ref e1, vI nh]), (e1, aI G 36 hd), (z0, aJ G 1 OV)] s.heap.size)) (F0 m 0 ls []) by rw [hHe, hLe] at hgo; exact hgo
  rw [← hHe] at hP
  have hS : va_S A s.heap H locs := by rw [hHe, hLe]; exact hS
  clear hHe hLe
  refine lv_aload_n hx hb dL_write_0 rfl (lv_at hl 2 rfl) ?_
  refine lv_iconst (v := iI 0) hx hb dL_write_1 rfl ?_
  refine lv_aload_n hx hb dL_write_2 rfl (lv_at hl 0 rfl) ?_
  refine lv_iload_n hx hb dL_write_3 rfl (lv_at hl 1 rfl) ?_
  refine z_rVi (q0 := 0) (ci := 6) (b := b0) (rest := [vI 0, .ref z0]) hC hK hP (c_X6_write_n l G b0 b1 g0 e0 f0 w0 u0 mc rn ll MK m0 m1 a1 a2 kd gl ed T g1 nb dk e1 nh hd x (khx0) (khmk) (khnh) (khhd) (khT) (khkd) (khnb) (khri)) mv_X6_write tw_686 [0, 1, 2, 3, 4, 5, 6, 7] rfl rfl rfl rfl hl.1 rfl (Nat.le_of_ble_eq_true rfl) ⟨rfl, rfl, Nat.le_of_ble_eq_true rfl, Nat.le_of_ble_eq_true rfl⟩ ⟨Nat.le_of_ble_eq_true rfl, Nat.le_of_ble_eq_true rfl⟩ dL_write_4 ?_
  refine lv_i2l (v := zi2l (-1)) hx hb dL_write_7 rfl ?_
  refine z_last (ws' := [(b0, ob 6 [.ref b1, vI mc, .ref g0, .ref e0, vI rn, .ref f0, .ref w0, .ref u0, vI ll]), (b1, aR G 6 MK), (m0, ob 4 [vI a1, vI a2, vI kd, vI gl, vI ed, .ref m1]), (m1, aI G 4096 T), (g0, ob 1 [.ref g1, vI nb]), (g1, aJ G 24 dk), (e0, ob 3 [.ref e1, vI nh]), (e1, aI G 36 hd), (z0, aJ G 1 (zup OV 0 (zi2l (-1))))]) hC hK hP hD hS 8 rfl (by omega) (by decide) rfl dL_write_8 (fun H locs hP hD hS => ?_)
  refine lv_goto (tgt := 15) hx hb dL_write_9 (by decide) ?_
  refine lv_iconst (v := iI 0) hx hb dL_write_15 rfl ?_
  refine vx_ret ?_
  exact z_iretW hC hr hlk () hAe hP hD hS [0, 1, 2, 3, 4, 5, 6, 7, 8] (by decide) rfl rfl (⟨rfl, trivial⟩) dL_write_16

set_option maxRecDepth 100000 in
set_option maxHeartbeats 4000000 in
theorem c_L_write_f (l : Launch) (hst : l.stackTraces = false) (G : zGt) (sz : Nat) (b0 b1 g0 e0 f0 w0 u0 : Nat) (mc rn ll : Int) (MK : Int → Option Nat) (m0 m1 : Nat) (a1 a2 kd gl ed : Int) (T : Int → Int) (g1 : Nat) (nb : Int) (dk : Int → Int64) (e1 : Nat) (nh : Int) (hd : Int → Int) (x : Int) (z0 : Nat) (OV : Int → Int64) (khx0 : 0 ≤ x ∧ x < 6) (khmk : MK x = some m0) (khnh : 0 ≤ nh ∧ nh ≤ 36) (khhd : ∀ j : Int, 0 ≤ j ∧ j < nh → 0 ≤ hd j ∧ hd j < 256) (khT : ∀ j : Int, 0 ≤ j ∧ j < 4096 → 0 ≤ T j ∧ T j < 65536) (khkd : 0 ≤ kd ∧ kd < 3) (khnb : 0 ≤ nb ∧ nb ≤ 24) (khri : zand (runS T hd nh.toNat) gl ≠ 0) (khfu : 24 < nb + (11 + nh) / 8) : vx_Met l yL_write (Cond.codeWith yL_write cL_write 4 (some .int) [(0, 9, 12, 21)] :: tb) ({ frames := 3, cells := 0, slots := 0, locals := 74 } : Room) (zPx G [(b0, ob 6 [.ref b1, vI mc, .ref g0, .ref e0, vI rn, .ref f0, .ref w0, .ref u0, vI ll]), (b1, aR G 6 MK), (m0, ob 4 [vI a1, vI a2, vI kd, vI gl, vI ed, .ref m1]), (m1, aI G 4096 T), (g0, ob 1 [.ref g1, vI nb]), (g1, aJ G 24 dk), (e0, ob 3 [.ref e1, vI nh]), (e1, aI G 36 hd), (z0, aJ G 1 OV)] sz [.ref b0, vI x, .ref z0]) (va_Qi (fun (r : Int32) (u : Unit) => r = iI 0 ∧ True) (fun (u : Unit) t => zB G [(b0, ob 6 [.ref b1, vI mc, .ref g0, .ref e0, vI rn, .ref f0, .ref w0, .ref u0, vI ll]), (b1, aR G 6 MK), (m0, ob 4 [vI a1, vI a2, vI kd, vI gl, vI ed, .ref m1]), (m1, aI G 4096 T), (g0, ob 1 [.ref g1, vI nb]), (g1, aJ G 24 dk), (e0, ob 3 [.ref e1, vI nh]), (e1, aI G 36 hd), (z0, aJ G 1 OV)] sz [(b0, ob 6 [.ref b1, vI mc, .ref g0, .ref e0, vI rn, .ref f0, .ref w0, .ref u0, vI ll]), (b1, aR G 6 MK), (m0, ob 4 [vI a1, vI a2, vI kd, vI gl, vI ed, .ref m1]), (m1, aI G 4096 T), (g0, ob 1 [.ref g1, vI nb]), (g1, aJ G 24 dk), (e0, ob 3 [.ref e1, vI nh]), (e1, aI G 36 hd), (z0, aJ G 1 (zup OV 0 (zi2l (-2))))] t) (va_A [(b0, ob 6 [.ref b1, vI mc, .ref g0, .ref e0, vI rn, .ref f0, .ref w0, .ref u0, vI ll]), (b1, aR G 6 MK), (m0, ob 4 [vI a1, vI a2, vI kd, vI gl, vI ed, .ref m1]), (m1, aI G 4096 T), (g0, ob 1 [.ref g1, vI nb]), (g1, aJ G 24 dk), (e0, ob 3 [.ref e1, vI nh]), (e1, aI G 36 hd), (z0, aJ G 1 OV)] sz)) zNo 0 0 (va_A [(b0, ob 6 [.ref b1, vI mc, .ref g0, .ref e0, vI rn, .ref f0, .ref w0, .ref u0, vI ll]), (b1, aR G 6 MK), (m0, ob 4 [vI a1, vI a2, vI kd, vI gl, vI ed, .ref m1]), (m1, aI G 4096 T), (g0, ob 1 [.ref g1, vI nb]), (g1, aJ G 24 dk), (e0, ob 3 [.ref e1, vI nh]), (e1, aI G 36 hd), (z0, aJ G 1 OV)] sz) := by
  refine vx_ofWH (cc := cL_write) (maxL := 4) (ret := (some .int)) (hh := [(0, 9, 12, 21)]) (by decide) rfl ?_
  intro p e s m args below meth c s₁ B hml hv
  obtain ⟨rfl, hsz, hP, hK, hD0, hTt, hX⟩ := hv
  subst hsz
  have hD := hD0.self (sz := s.heap.size)
  obtain ⟨A, hAe⟩ : ∃ A : Nat → Prop, A = va_A [(b0, ob 6 [.ref b1, vI mc, .ref g0, .ref e0, vI rn, .ref f0, .ref w0, .ref u0, vI ll]), (b1, aR G 6 MK), (m0, ob 4 [vI a1, vI a2, vI kd, vI gl, vI ed, .ref m1]), (m1, aI G 4096 T), (g0, ob 1 [.ref g1, vI nb]), (g1, aJ G 24 dk), (e0, ob 3 [.ref e1, vI nh]), (e1, aI G 36 hd), (z0, aJ G 1 OV)] s.heap.size := ⟨_, rfl⟩
  rw [← hAe] at hD hX
  have hA : ∀ q : Nat, s.heap.size ≤ q → A q := fun q h => by rw [hAe]; exact Or.inr h
  have hS : va_S A s.heap s.heap [] := va_S.rf
  have htab := vx_table (x := yL_write) B (atoms_spec (ws := Cond.codeWith yL_write cL_write 4 (some .int) [(0, 9, 12, 21)] :: tb) B.pre _ List.mem_cons_self)
  obtain ⟨hC, hr, hlk⟩ := z_beginH B hml
  have hC : CallFix p m c cL_write 4 s _ tb RL := hC
  have hx := hC.1
  have hb := hC.2.1
  have hl := lv_entry ([.ref b0, vI x, .ref z0]) (n := 4) (Nat.le_of_ble_eq_true rfl)
  rw [lg_entry_eq]
  generalize (lg_sl ([.ref b0, vI x, .ref z0]) ++ List.replicate (4 - (lg_sl ([.ref b0, vI x, .ref z0])).length) Slot.unset).toArray = ls at hl ⊢
  have hl : lv_has ls 4 [(0, .ref b0), (1, vI x), (2, .ref z0)] := hl
  obtain ⟨H, hHe⟩ : ∃ H : Heap, H = s.heap := ⟨_, rfl⟩
  obtain ⟨locs, hLe⟩ : ∃ L : List Loc, L = [] := ⟨_, rfl⟩
  suffices hgo : W p l e (headSpec (Cond.codeWith yL_write cL_write 4 (some .int) [(0, 9, 12, 21)] :: tb) ({ frames := 3, cells := 0, slots := 0, locals := 74 } : Room)).room s m ([.ref b0, vI x, .ref z0] : List Value).toArray below meth c H locs 0 0 (vx_MQ below (va_Qi (fun (r : Int32) (u : Unit) => r = iI 0 ∧ True) (fun (u : Unit) t => zB G [(b0, ob 6 [.ref b1, vI mc, .ref g0, .ref e0, vI rn, .ref f0, .ref w0, .ref u0, vI ll]), (b1, aR G 6 MK), (m0, ob 4 [vI a1, vI a2, vI kd, vI gl, vI ed, .ref m1]), (m1, aI G 4096 T), (g0, ob 1 [.ref g1, vI nb]), (g1, aJ G 24 dk), (e0, ob 3 [.ref e1, vI nh]), (e1, aI G 36 hd), (z0, aJ G 1 OV)] s.heap.size [(b0, ob 6 [.ref b1, vI mc, .ref g0, .ref e0, vI rn, .ref f0, .ref w0, .ref u0, vI ll]), (b1, aR G 6 MK), (m0, ob 4 [vI a1, vI a2, vI kd, vI gl, vI ed, .ref m1]), (m1, aI G 4096 T), (g0, ob 1 [.ref g1, vI nb]), (g1, aJ G 24 dk), (e0, ob 3 [.ref e1, vI nh]), (e1, aI G 36 hd), (z0, aJ G 1 (zup OV 0 (zi2l (-2))))] t) (va_A [(b0, ob 6 [.ref b1, vI mc, .ref g0, .ref e0, vI rn, .ref f0, .ref w0, .ref u0, vI ll]), (b1, aR G 6 MK), (m0, ob 4 [vI a1, vI a2, vI kd, vI gl, vI ed, .ref m1]), (m1, aI G 4096 T), (g0, ob 1 [.ref g1, vI nb]), (g1, aJ G 24 dk), (e0, ob 3 [.ref e1, vI nh]), (e1, aI G 36 hd), (z0, aJ G 1 OV)] s.heap.size)) zNo ([.ref b0, vI x, .ref z0] : List Value).toArray s 0 0 (va_A [(b0, ob 6 [.ref b1, vI mc, .ref g0, .ref e0, vI rn, .ref f0, .ref w0, .ref u0, vI ll]), (b1, aR G 6 MK), (m0, ob 4 [vI a1, vI a2, vI kd, vI gl, vI ed, .ref m1]), (m1, aI G 4096 T), (g0, ob 1 [.ref g1, vI nb]), (g1, aJ G 24 dk), (e0, ob 3 [.ref e1, vI nh]), (e1, aI G 36 hd), (z0, aJ G 1 OV)] s.heap.size)) (F0 m 0 ls []) by rw [hHe, hLe] at hgo; exact hgo
  rw [← hHe] at hP
  have hS : va_S A s.heap H locs := by rw [hHe, hLe]; exact hS
  clear hHe hLe
  refine lv_aload_n hx hb dL_write_0 rfl (lv_at hl 2 rfl) ?_
  refine lv_iconst (v := iI 0) hx hb dL_write_1 rfl ?_
  refine lv_aload_n hx hb dL_write_2 rfl (lv_at hl 0 rfl) ?_
  refine lv_iload_n hx hb dL_write_3 rfl (lv_at hl 1 rfl) ?_
  refine z_rVi (q0 := 0) (ci := 6) (b := b0) (rest := [vI 0, .ref z0]) hC hK hP (c_X6_write_f l G b0 b1 g0 e0 f0 w0 u0 mc rn ll MK m0 m1 a1 a2 kd gl ed T g1 nb dk e1 nh hd x (khx0) (khmk) (khnh) (khhd) (khT) (khkd) (khnb) (khri) (khfu)) mv_X6_write tw_686 [0, 1, 2, 3, 4, 5, 6, 7] rfl rfl rfl rfl hl.1 rfl (Nat.le_of_ble_eq_true rfl) ⟨rfl, rfl, Nat.le_of_ble_eq_true rfl, Nat.le_of_ble_eq_true rfl⟩ ⟨Nat.le_of_ble_eq_true rfl, Nat.le_of_ble_eq_true rfl⟩ dL_write_4 ?_
  refine lv_i2l (v := zi2l (-2)) hx hb dL_write_7 rfl ?_
  refine z_last (ws' := [(b0, ob 6 [.ref b1, vI mc, .ref g0, .ref e0, vI rn, .ref f0, .ref w0, .ref u0, vI ll]), (b1, aR G 6 MK), (m0, ob 4 [vI a1, vI a2, vI kd, vI gl, vI ed, .ref m1]), (m1, aI G 4096 T), (g0, ob 1 [.ref g1, vI nb]), (g1, aJ G 24 dk), (e0, ob 3 [.ref e1, vI nh]), (e1, aI G 36 hd), (z0, aJ G 1 (zup OV 0 (zi2l (-2))))]) hC hK hP hD hS 8 rfl (by omega) (by decide) rfl dL_write_8 (fun H locs hP hD hS => ?_)
  refine lv_goto (tgt := 15) hx hb dL_write_9 (by decide) ?_
  refine lv_iconst (v := iI 0) hx hb dL_write_15 rfl ?_
  refine vx_ret ?_
  exact z_iretW hC hr hlk () hAe hP hD hS [0, 1, 2, 3, 4, 5, 6, 7, 8] (by decide) rfl rfl (⟨rfl, trivial⟩) dL_write_16

set_option maxRecDepth 100000 in
set_option maxHeartbeats 4000000 in
theorem c_L_write_1 (l : Launch) (hst : l.stackTraces = false) (G : zGt) (sz : Nat) (b0 b1 g0 e0 f0 w0 u0 : Nat) (mc rn ll : Int) (MK : Int → Option Nat) (x : Int) (z0 : Nat) (OV : Int → Int64) (khx : -2147483648 ≤ x ∧ x < 2147483648) (khmk0 : 0 ≤ x ∧ x < 6 → MK x = none) : vx_Met l yL_write (Cond.codeWith yL_write cL_write 4 (some .int) [(0, 9, 12, 21)] :: tb) ({ frames := 8, cells := 1, slots := 6, locals := 129 } : Room) (zPx G [(b0, ob 6 [.ref b1, vI mc, .ref g0, .ref e0, vI rn, .ref f0, .ref w0, .ref u0, vI ll]), (b1, aR G 6 MK), (z0, aJ G 1 OV)] sz [.ref b0, vI x, .ref z0]) (va_Qi (fun (r : Int32) (u : Unit) => r = iI 1 ∧ True) (fun (u : Unit) t => zB G [(b0, ob 6 [.ref b1, vI mc, .ref g0, .ref e0, vI rn, .ref f0, .ref w0, .ref u0, vI ll]), (b1, aR G 6 MK), (z0, aJ G 1 OV)] sz [(b0, ob 6 [.ref b1, vI mc, .ref g0, .ref e0, vI rn, .ref f0, .ref w0, .ref u0, vI ll]), (b1, aR G 6 MK), (z0, aJ G 1 OV)] t) (va_A [(b0, ob 6 [.ref b1, vI mc, .ref g0, .ref e0, vI rn, .ref f0, .ref w0, .ref u0, vI ll]), (b1, aR G 6 MK), (z0, aJ G 1 OV)] sz)) zNo 1 6 (va_A [(b0, ob 6 [.ref b1, vI mc, .ref g0, .ref e0, vI rn, .ref f0, .ref w0, .ref u0, vI ll]), (b1, aR G 6 MK), (z0, aJ G 1 OV)] sz) := by
  refine vx_ofWH (cc := cL_write) (maxL := 4) (ret := (some .int)) (hh := [(0, 9, 12, 21)]) (by decide) rfl ?_
  intro p e s m args below meth c s₁ B hml hv
  obtain ⟨rfl, hsz, hP, hK, hD0, hTt, hX⟩ := hv
  subst hsz
  have hD := hD0.self (sz := s.heap.size)
  obtain ⟨A, hAe⟩ : ∃ A : Nat → Prop, A = va_A [(b0, ob 6 [.ref b1, vI mc, .ref g0, .ref e0, vI rn, .ref f0, .ref w0, .ref u0, vI ll]), (b1, aR G 6 MK), (z0, aJ G 1 OV)] s.heap.size := ⟨_, rfl⟩
  rw [← hAe] at hD hX
  have hA : ∀ q : Nat, s.heap.size ≤ q → A q := fun q h => by rw [hAe]; exact Or.inr h
  have hS : va_S A s.heap s.heap [] := va_S.rf
  have htab := vx_table (x := yL_write) B (atoms_spec (ws := Cond.codeWith yL_write cL_write 4 (some .int) [(0, 9, 12, 21)] :: tb) B.pre _ List.mem_cons_self)
  obtain ⟨hC, hr, hlk⟩ := z_beginH B hml
  have hC : CallFix p m c cL_write 4 s _ tb RL := hC
  have hx := hC.1
  have hb := hC.2.1
  have hl := lv_entry ([.ref b0, vI x, .ref z0]) (n := 4) (Nat.le_of_ble_eq_true rfl)
  rw [lg_entry_eq]
  generalize (lg_sl ([.ref b0, vI x, .ref z0]) ++ List.replicate (4 - (lg_sl ([.ref b0, vI x, .ref z0])).length) Slot.unset).toArray = ls at hl ⊢
  have hl : lv_has ls 4 [(0, .ref b0), (1, vI x), (2, .ref z0)] := hl
  obtain ⟨H, hHe⟩ : ∃ H : Heap, H = s.heap := ⟨_, rfl⟩
  obtain ⟨locs, hLe⟩ : ∃ L : List Loc, L = [] := ⟨_, rfl⟩
  suffices hgo : W p l e (headSpec (Cond.codeWith yL_write cL_write 4 (some .int) [(0, 9, 12, 21)] :: tb) ({ frames := 8, cells := 1, slots := 6, locals := 129 } : Room)).room s m ([.ref b0, vI x, .ref z0] : List Value).toArray below meth c H locs 0 0 (vx_MQ below (va_Qi (fun (r : Int32) (u : Unit) => r = iI 1 ∧ True) (fun (u : Unit) t => zB G [(b0, ob 6 [.ref b1, vI mc, .ref g0, .ref e0, vI rn, .ref f0, .ref w0, .ref u0, vI ll]), (b1, aR G 6 MK), (z0, aJ G 1 OV)] s.heap.size [(b0, ob 6 [.ref b1, vI mc, .ref g0, .ref e0, vI rn, .ref f0, .ref w0, .ref u0, vI ll]), (b1, aR G 6 MK), (z0, aJ G 1 OV)] t) (va_A [(b0, ob 6 [.ref b1, vI mc, .ref g0, .ref e0, vI rn, .ref f0, .ref w0, .ref u0, vI ll]), (b1, aR G 6 MK), (z0, aJ G 1 OV)] s.heap.size)) zNo ([.ref b0, vI x, .ref z0] : List Value).toArray s 1 6 (va_A [(b0, ob 6 [.ref b1, vI mc, .ref g0, .ref e0, vI rn, .ref f0, .ref w0, .ref u0, vI ll]), (b1, aR G 6 MK), (z0, aJ G 1 OV)] s.heap.size)) (F0 m 0 ls []) by rw [hHe, hLe] at hgo; exact hgo
  rw [← hHe] at hP
  have hS : va_S A s.heap H locs := by rw [hHe, hLe]; exact hS
  clear hHe hLe
  refine lv_aload_n hx hb dL_write_0 rfl (lv_at hl 2 rfl) ?_
  refine lv_iconst (v := iI 0) hx hb dL_write_1 rfl ?_
  refine lv_aload_n hx hb dL_write_2 rfl (lv_at hl 0 rfl) ?_
  refine lv_iload_n hx hb dL_write_3 rfl (lv_at hl 1 rfl) ?_
  refine z_xC (q0 := 0) (ci := 6) (b := b0) (rest := [vI 0, .ref z0]) (wr := [(z0, aJ G 1 OV)]) (pre := []) (x := ⟨0, 9, 12, 21⟩) (suf := []) (name := XI) hC hK hTt hX (htab.trans rfl) hP hD hS hA (c_X6_write_1 l hst G H.size b0 b1 g0 e0 f0 w0 u0 mc rn ll MK x (khx) (khmk0)) mv_X6_write tw_686 [0, 1] [2] rfl rfl rfl rfl (by decide) rfl rfl rfl rfl hl.1 rfl (Nat.le_of_ble_eq_true rfl) ⟨rfl, rfl, (Nat.le_of_ble_eq_true rfl), (Nat.le_of_ble_eq_true rfl)⟩ ⟨(Nat.le_of_ble_eq_true rfl), (Nat.le_of_ble_eq_true rfl)⟩ (fun z hz => absurd hz List.not_mem_nil) (by decide) (by decide) tw_586 (va_Nw.use rfl hTt.2.1.2.2) dL_write_4 (fun q9 H locs hP hD hS => ?_)
  have hP : va_P G.1 vwCl [(z0, aJ G 1 OV), (b0, ob 6 [.ref b1, vI mc, .ref g0, .ref e0, vI rn, .ref f0, .ref w0, .ref u0, vI ll]), (b1, aR G 6 MK)] H := hP
  have hD : va_D A [(z0, aJ G 1 OV), (b0, ob 6 [.ref b1, vI mc, .ref g0, .ref e0, vI rn, .ref f0, .ref w0, .ref u0, vI ll]), (b1, aR G 6 MK)] := hD
  refine lv_astore_n (lv' := [(3, .ref q9), (0, .ref b0), (1, vI x), (2, .ref z0)]) hx hb dL_write_12 rfl hl (by decide) rfl (fun ls hl => ?_)
  refine lv_iconst (v := iI 1) hx hb dL_write_13 rfl ?_
  refine vx_ret ?_
  exact z_iretW hC hr hlk () hAe hP hD hS [1, 2, 0] (by decide) rfl rfl (⟨rfl, trivial⟩) dL_write_14

set_option maxRecDepth 100000 in
set_option maxHeartbeats 4000000 in
theorem c_L_file_0 (l : Launch) (hst : l.stackTraces = false) (G : zGt) (sz : Nat) (b0 b1 g0 e0 f0 w0 u0 : Nat) (mc rn ll : Int) (f1 h0 : Nat) (nf tm : Int) (K : Int → Int) (h1 : Nat) (n : Int) (f : Int → Int64) (x y : Int) (z0 : Nat) (OV : Int → Int64) (khnf : 0 ≤ nf ∧ nf ≤ 40) (khK0 : ∀ j : Int, 0 ≤ j ∧ j < nf → 0 ≤ K j ∧ K j < 268435456) (khxf : 0 ≤ x ∧ x < nf) (khn : 0 ≤ n ∧ n ≤ 24) (khy : 0 ≤ y ∧ y < 2147483648) : vx_Met l yL_file (Cond.codeWith yL_file cL_file 5 (some .int) [(0, 10, 13, 21), (0, 10, 17, 13)] :: tb) ({ frames := 5, cells := 0, slots := 0, locals := 113 } : Room) (zPx G [(b0, ob 6 [.ref b1, vI mc, .ref g0, .ref e0, vI rn, .ref f0, .ref w0, .ref u0, vI ll]), (f0, ob 2 [.ref h0, .ref f1, vI nf, vI tm]), (f1, aI G 40 K), (h0, ob 1 [.ref h1, vI n]), (h1, aJ G 24 f), (z0, aJ G 1 OV)] sz [.ref b0, vI x, vI y, .ref z0]) (va_Qi (fun (r : Int32) (u : Unit) => r = iI 0 ∧ True) (fun (u : Unit) t => zB G [(b0, ob 6 [.ref b1, vI mc, .ref g0, .ref e0, vI rn, .ref f0, .ref w0, .ref u0, vI ll]), (f0, ob 2 [.ref h0, .ref f1, vI nf, vI tm]), (f1, aI G 40 K), (h0, ob 1 [.ref h1, vI n]), (h1, aJ G 24 f), (z0, aJ G 1 OV)] sz [(b0, ob 6 [.ref b1, vI mc, .ref g0, .ref e0, vI rn, .ref f0, .ref w0, .ref u0, vI ll]), (f0, ob 2 [.ref h0, .ref f1, vI nf, vI tm]), (f1, aI G 40 K), (h0, ob 1 [.ref h1, vI n]), (h1, aJ G 24 f), (z0, aJ G 1 (zup OV 0 (zi2l (if y = 0 then K x % 8 else if y = 1 then byZ (if 0 ≤ kBl (K x) 0 ∧ kBl (K x) 0 < n then f (kBl (K x) 0) else 0) 2 else if y = 2 then kCost (K x) else if y = 3 then bZ (∀ j : Int, 0 ≤ j ∧ j < nf → j ≠ x → kBl (K j) 0 ≠ kBl (K x) 0) else if y = 4 then kSz (K x) else kBl (K x) (y - 5)))))] t) (va_A [(b0, ob 6 [.ref b1, vI mc, .ref g0, .ref e0, vI rn, .ref f0, .ref w0, .ref u0, vI ll]), (f0, ob 2 [.ref h0, .ref f1, vI nf, vI tm]), (f1, aI G 40 K), (h0, ob 1 [.ref h1, vI n]), (h1, aJ G 24 f), (z0, aJ G 1 OV)] sz)) zNo 0 0 (va_A [(b0, ob 6 [.ref b1, vI mc, .ref g0, .ref e0, vI rn, .ref f0, .ref w0, .ref u0, vI ll]), (f0, ob 2 [.ref h0, .ref f1, vI nf, vI tm]), (f1, aI G 40 K), (h0, ob 1 [.ref h1, vI n]), (h1, aJ G 24 f), (z0, aJ G 1 OV)] sz) := by
  refine vx_ofWH (cc := cL_file) (maxL := 5) (ret := (some .int)) (hh := [(0, 10, 13, 21), (0, 10, 17, 13)]) (by decide) rfl ?_
  intro p e s m args below meth c s₁ B hml hv
  obtain ⟨rfl, hsz, hP, hK, hD0, hTt, hX⟩ := hv
  subst hsz
  have hD := hD0.self (sz := s.heap.size)
  obtain ⟨A, hAe⟩ : ∃ A : Nat → Prop, A = va_A [(b0, ob 6 [.ref b1, vI mc, .ref g0, .ref e0, vI rn, .ref f0, .ref w0, .ref u0, vI ll]), (f0, ob 2 [.ref h0, .ref f1, vI nf, vI tm]), (f1, aI G 40 K), (h0, ob 1 [.ref h1, vI n]), (h1, aJ G 24 f), (z0, aJ G 1 OV)] s.heap.size := ⟨_, rfl⟩
  rw [← hAe] at hD hX
  have hA : ∀ q : Nat, s.heap.size ≤ q → A q := fun q h => by rw [hAe]; exact Or.inr h
  have hS : va_S A s.heap s.heap [] := va_S.rf
  have htab := vx_table (x := yL_file) B (atoms_spec (ws := Cond.codeWith yL_file cL_file 5 (some .int) [(0, 10, 13, 21), (0, 10, 17, 13)] :: tb) B.pre _ List.mem_cons_self)
  obtain ⟨hC, hr, hlk⟩ := z_beginH B hml
  have hC : CallFix p m c cL_file 5 s _ tb RL := hC
  have hx := hC.1
  have hb := hC.2.1
  have hl := lv_entry ([.ref b0, vI x, vI y, .ref z0]) (n := 5) (Nat.le_of_ble_eq_true rfl)
  rw [lg_entry_eq]
  generalize (lg_sl ([.ref b0, vI x, vI y, .ref z0]) ++ List.replicate (5 - (lg_sl ([.ref b0, vI x, vI y, .ref z0])).length) Slot.unset).toArray = ls at hl ⊢
  have hl : lv_has ls 5 [(0, .ref b0), (1, vI x), (2, vI y), (3, .ref z0)] := hl
  obtain ⟨H, hHe⟩ : ∃ H : Heap, H = s.heap := ⟨_, rfl⟩
  obtain ⟨locs, hLe⟩ : ∃ L : List Loc, L = [] := ⟨_, rfl⟩
  suffices hgo : W p l e (headSpec (Cond.codeWith yL_file cL_file 5 (some .int) [(0, 10, 13, 21), (0, 10, 17, 13)] :: tb) ({ frames := 5, cells := 0, slots := 0, locals := 113 } : Room)).room s m ([.ref b0, vI x, vI y, .ref z0] : List Value).toArray below meth c H locs 0 0 (vx_MQ below (va_Qi (fun (r : Int32) (u : Unit) => r = iI 0 ∧ True) (fun (u : Unit) t => zB G [(b0, ob 6 [.ref b1, vI mc, .ref g0, .ref e0, vI rn, .ref f0, .ref w0, .ref u0, vI ll]), (f0, ob 2 [.ref h0, .ref f1, vI nf, vI tm]), (f1, aI G 40 K), (h0, ob 1 [.ref h1, vI n]), (h1, aJ G 24 f), (z0, aJ G 1 OV)] s.heap.size [(b0, ob 6 [.ref b1, vI mc, .ref g0, .ref e0, vI rn, .ref f0, .ref w0, .ref u0, vI ll]), (f0, ob 2 [.ref h0, .ref f1, vI nf, vI tm]), (f1, aI G 40 K), (h0, ob 1 [.ref h1, vI n]), (h1, aJ G 24 f), (z0, aJ G 1 (zup OV 0 (zi2l (if y = 0 then K x % 8 else if y = 1 then byZ (if 0 ≤ kBl (K x) 0 ∧ kBl (K x) 0 < n then f (kBl (K x) 0) else 0) 2 else if y = 2 then kCost (K x) else if y = 3 then bZ (∀ j : Int, 0 ≤ j ∧ j < nf → j ≠ x → kBl (K j) 0 ≠ kBl (K x) 0) else if y = 4 then kSz (K x) else kBl (K x) (y - 5)))))] t) (va_A [(b0, ob 6 [.ref b1, vI mc, .ref g0, .ref e0, vI rn, .ref f0, .ref w0, .ref u0, vI ll]), (f0, ob 2 [.ref h0, .ref f1, vI nf, vI tm]), (f1, aI G 40 K), (h0, ob 1 [.ref h1, vI n]), (h1, aJ G 24 f), (z0, aJ G 1 OV)] s.heap.size)) zNo ([.ref b0, vI x, vI y, .ref z0] : List Value).toArray s 0 0 (va_A [(b0, ob 6 [.ref b1, vI mc, .ref g0, .ref e0, vI rn, .ref f0, .ref w0, .ref u0, vI ll]), (f0, ob 2 [.ref h0, .ref f1, vI nf, vI tm]), (f1, aI G 40 K), (h0, ob 1 [.ref h1, vI n]), (h1, aJ G 24 f), (z0, aJ G 1 OV)] s.heap.size)) (F0 m 0 ls []) by rw [hHe, hLe] at hgo; exact hgo
  rw [← hHe] at hP
  have hS : va_S A s.heap H locs := by rw [hHe, hLe]; exact hS
  clear hHe hLe
  refine lv_aload_n hx hb dL_file_0 rfl (lv_at hl 3 rfl) ?_
  refine lv_iconst (v := iI 0) hx hb dL_file_1 rfl ?_
  refine lv_aload_n hx hb dL_file_2 rfl (lv_at hl 0 rfl) ?_
  refine lv_iload_n hx hb dL_file_3 rfl (lv_at hl 1 rfl) ?_
  refine lv_iload_n hx hb dL_file_4 rfl (lv_at hl 2 rfl) ?_
  refine z_rVi (q0 := 0) (ci := 6) (b := b0) (rest := [vI 0, .ref z0]) hC hK hP (c_X6_file_0 l G b0 b1 g0 e0 f0 w0 u0 mc rn ll f1 h0 nf tm K h1 n f x y (khnf) (khK0) (khxf) (khn) (khy)) mv_X6_file tw_725 [0, 1, 2, 3, 4] rfl rfl rfl rfl hl.1 rfl (Nat.le_of_ble_eq_true rfl) ⟨rfl, rfl, Nat.le_of_ble_eq_true rfl, Nat.le_of_ble_eq_true rfl⟩ ⟨Nat.le_of_ble_eq_true rfl, Nat.le_of_ble_eq_true rfl⟩ dL_file_5 ?_
  refine lv_i2l (v := zi2l (if y = 0 then K x % 8 else if y = 1 then byZ (if 0 ≤ kBl (K x) 0 ∧ kBl (K x) 0 < n then f (kBl (K x) 0) else 0) 2 else if y = 2 then kCost (K x) else if y = 3 then bZ (∀ j : Int, 0 ≤ j ∧ j < nf → j ≠ x → kBl (K j) 0 ≠ kBl (K x) 0) else if y = 4 then kSz (K x) else kBl (K x) (y - 5))) hx hb dL_file_8 rfl ?_
  refine z_last (ws' := [(b0, ob 6 [.ref b1, vI mc, .ref g0, .ref e0, vI rn, .ref f0, .ref w0, .ref u0, vI ll]), (f0, ob 2 [.ref h0, .ref f1, vI nf, vI tm]), (f1, aI G 40 K), (h0, ob 1 [.ref h1, vI n]), (h1, aJ G 24 f), (z0, aJ G 1 (zup OV 0 (zi2l (if y = 0 then K x % 8 else if y = 1 then byZ (if 0 ≤ kBl (K x) 0 ∧ kBl (K x) 0 < n then f (kBl (K x) 0) else 0) 2 else if y = 2 then kCost (K x) else if y = 3 then bZ (∀ j : Int, 0 ≤ j ∧ j < nf → j ≠ x → kBl (K j) 0 ≠ kBl (K x) 0) else if y = 4 then kSz (K x) else kBl (K x) (y - 5)))))]) hC hK hP hD hS 5 rfl (by omega) (by decide) rfl dL_file_9 (fun H locs hP hD hS => ?_)
  refine lv_goto (tgt := 21) hx hb dL_file_10 (by decide) ?_
  refine lv_iconst (v := iI 0) hx hb dL_file_21 rfl ?_
  refine vx_ret ?_
  exact z_iretW hC hr hlk () hAe hP hD hS [0, 1, 2, 3, 4, 5] (by decide) rfl rfl (⟨rfl, trivial⟩) dL_file_22

set_option maxRecDepth 100000 in
set_option maxHeartbeats 4000000 in
theorem c_L_file_1 (l : Launch) (hst : l.stackTraces = false) (G : zGt) (sz : Nat) (b0 b1 g0 e0 f0 w0 u0 : Nat) (mc rn ll : Int) (f1 h0 : Nat) (nf tm : Int) (K : Int → Int) (x y : Int) (z0 : Nat) (OV : Int → Int64) (khnf : 0 ≤ nf ∧ nf ≤ 40) (khx : -2147483648 ≤ x ∧ x < 2147483648) (khno : ¬ (0 ≤ x ∧ x < nf)) : vx_Met l yL_file (Cond.codeWith yL_file cL_file 5 (some .int) [(0, 10, 13, 21), (0, 10, 17, 13)] :: tb) ({ frames := 8, cells := 1, slots := 6, locals := 126 } : Room) (zPx G [(b0, ob 6 [.ref b1, vI mc, .ref g0, .ref e0, vI rn, .ref f0, .ref w0, .ref u0, vI ll]), (f0, ob 2 [.ref h0, .ref f1, vI nf, vI tm]), (f1, aI G 40 K), (z0, aJ G 1 OV)] sz [.ref b0, vI x, vI y, .ref z0]) (va_Qi (fun (r : Int32) (u : Unit) => r = iI 1 ∧ True) (fun (u : Unit) t => zB G [(b0, ob 6 [.ref b1, vI mc, .ref g0, .ref e0, vI rn, .ref f0, .ref w0, .ref u0, vI ll]), (f0, ob 2 [.ref h0, .ref f1, vI nf, vI tm]), (f1, aI G 40 K), (z0, aJ G 1 OV)] sz [(b0, ob 6 [.ref b1, vI mc, .ref g0, .ref e0, vI rn, .ref f0, .ref w0, .ref u0, vI ll]), (f0, ob 2 [.ref h0, .ref f1, vI nf, vI tm]), (f1, aI G 40 K), (z0, aJ G 1 OV)] t) (va_A [(b0, ob 6 [.ref b1, vI mc, .ref g0, .ref e0, vI rn, .ref f0, .ref w0, .ref u0, vI ll]), (f0, ob 2 [.ref h0, .ref f1, vI nf, vI tm]), (f1, aI G 40 K), (z0, aJ G 1 OV)] sz)) zNo 1 6 (va_A [(b0, ob 6 [.ref b1, vI mc, .ref g0, .ref e0, vI rn, .ref f0, .ref w0, .ref u0, vI ll]), (f0, ob 2 [.ref h0, .ref f1, vI nf, vI tm]), (f1, aI G 40 K), (z0, aJ G 1 OV)] sz) := by
  refine vx_ofWH (cc := cL_file) (maxL := 5) (ret := (some .int)) (hh := [(0, 10, 13, 21), (0, 10, 17, 13)]) (by decide) rfl ?_
  intro p e s m args below meth c s₁ B hml hv
  obtain ⟨rfl, hsz, hP, hK, hD0, hTt, hX⟩ := hv
  subst hsz
  have hD := hD0.self (sz := s.heap.size)
  obtain ⟨A, hAe⟩ : ∃ A : Nat → Prop, A = va_A [(b0, ob 6 [.ref b1, vI mc, .ref g0, .ref e0, vI rn, .ref f0, .ref w0, .ref u0, vI ll]), (f0, ob 2 [.ref h0, .ref f1, vI nf, vI tm]), (f1, aI G 40 K), (z0, aJ G 1 OV)] s.heap.size := ⟨_, rfl⟩
  rw [← hAe] at hD hX
  have hA : ∀ q : Nat, s.heap.size ≤ q → A q := fun q h => by rw [hAe]; exact Or.inr h
  have hS : va_S A s.heap s.heap [] := va_S.rf
  have htab := vx_table (x := yL_file) B (atoms_spec (ws := Cond.codeWith yL_file cL_file 5 (some .int) [(0, 10, 13, 21), (0, 10, 17, 13)] :: tb) B.pre _ List.mem_cons_self)
  obtain ⟨hC, hr, hlk⟩ := z_beginH B hml
  have hC : CallFix p m c cL_file 5 s _ tb RL := hC
  have hx := hC.1
  have hb := hC.2.1
  have hl := lv_entry ([.ref b0, vI x, vI y, .ref z0]) (n := 5) (Nat.le_of_ble_eq_true rfl)
  rw [lg_entry_eq]
  generalize (lg_sl ([.ref b0, vI x, vI y, .ref z0]) ++ List.replicate (5 - (lg_sl ([.ref b0, vI x, vI y, .ref z0])).length) Slot.unset).toArray = ls at hl ⊢
  have hl : lv_has ls 5 [(0, .ref b0), (1, vI x), (2, vI y), (3, .ref z0)] := hl
  obtain ⟨H, hHe⟩ : ∃ H : Heap, H = s.heap := ⟨_, rfl⟩
  obtain ⟨locs, hLe⟩ : ∃ L : List Loc, L = [] := ⟨_, rfl⟩
  suffices hgo : W p l e (headSpec (Cond.codeWith yL_file cL_file 5 (some .int) [(0, 10, 13, 21), (0, 10, 17, 13)] :: tb) ({ frames := 8, cells := 1, slots := 6, locals := 126 } : Room)).room s m ([.ref b0, vI x, vI y, .ref z0] : List Value).toArray below meth c H locs 0 0 (vx_MQ below (va_Qi (fun (r : Int32) (u : Unit) => r = iI 1 ∧ True) (fun (u : Unit) t => zB G [(b0, ob 6 [.ref b1, vI mc, .ref g0, .ref e0, vI rn, .ref f0, .ref w0, .ref u0, vI ll]), (f0, ob 2 [.ref h0, .ref f1, vI nf, vI tm]), (f1, aI G 40 K), (z0, aJ G 1 OV)] s.heap.size [(b0, ob 6 [.ref b1, vI mc, .ref g0, .ref e0, vI rn, .ref f0, .ref w0, .ref u0, vI ll]), (f0, ob 2 [.ref h0, .ref f1, vI nf, vI tm]), (f1, aI G 40 K), (z0, aJ G 1 OV)] t) (va_A [(b0, ob 6 [.ref b1, vI mc, .ref g0, .ref e0, vI rn, .ref f0, .ref w0, .ref u0, vI ll]), (f0, ob 2 [.ref h0, .ref f1, vI nf, vI tm]), (f1, aI G 40 K), (z0, aJ G 1 OV)] s.heap.size)) zNo ([.ref b0, vI x, vI y, .ref z0] : List Value).toArray s 1 6 (va_A [(b0, ob 6 [.ref b1, vI mc, .ref g0, .ref e0, vI rn, .ref f0, .ref w0, .ref u0, vI ll]), (f0, ob 2 [.ref h0, .ref f1, vI nf, vI tm]), (f1, aI G 40 K), (z0, aJ G 1 OV)] s.heap.size)) (F0 m 0 ls []) by rw [hHe, hLe] at hgo; exact hgo
  rw [← hHe] at hP
  have hS : va_S A s.heap H locs := by rw [hHe, hLe]; exact hS
  clear hHe hLe
  refine lv_aload_n hx hb dL_file_0 rfl (lv_at hl 3 rfl) ?_
  refine lv_iconst (v := iI 0) hx hb dL_file_1 rfl ?_
  refine lv_aload_n hx hb dL_file_2 rfl (lv_at hl 0 rfl) ?_
  refine lv_iload_n hx hb dL_file_3 rfl (lv_at hl 1 rfl) ?_
  refine lv_iload_n hx hb dL_file_4 rfl (lv_at hl 2 rfl) ?_
  refine z_xC (q0 := 0) (ci := 6) (b := b0) (rest := [vI 0, .ref z0]) (wr := [(z0, aJ G 1 OV)]) (pre := []) (x := ⟨0, 10, 13, 21⟩) (suf := [⟨0, 10, 17, 13⟩]) (name := XI) hC hK hTt hX (htab.trans rfl) hP hD hS hA (c_X6_file_1 l hst G H.size b0 b1 g0 e0 f0 w0 u0 mc rn ll f1 h0 nf tm K x y (khnf) (khx) (khno)) mv_X6_file tw_725 [0, 1, 2] [3] rfl rfl rfl rfl (by decide) rfl rfl rfl rfl hl.1 rfl (Nat.le_of_ble_eq_true rfl) ⟨rfl, rfl, (Nat.le_of_ble_eq_true rfl), (Nat.le_of_ble_eq_true rfl)⟩ ⟨(Nat.le_of_ble_eq_true rfl), (Nat.le_of_ble_eq_true rfl)⟩ (fun z hz => absurd hz List.not_mem_nil) (by decide) (by decide) tw_586 (va_Nw.use rfl hTt.2.1.2.2) dL_file_5 (fun q9 H locs hP hD hS => ?_)
  have hP : va_P G.1 vwCl [(z0, aJ G 1 OV), (b0, ob 6 [.ref b1, vI mc, .ref g0, .ref e0, vI rn, .ref f0, .ref w0, .ref u0, vI ll]), (f0, ob 2 [.ref h0, .ref f1, vI nf, vI tm]), (f1, aI G 40 K)] H := hP
  have hD : va_D A [(z0, aJ G 1 OV), (b0, ob 6 [.ref b1, vI mc, .ref g0, .ref e0, vI rn, .ref f0, .ref w0, .ref u0, vI ll]), (f0, ob 2 [.ref h0, .ref f1, vI nf, vI tm]), (f1, aI G 40 K)] := hD
  refine lv_astore (lv' := [(4, .ref q9), (0, .ref b0), (1, vI x), (2, vI y), (3, .ref z0)]) hx hb dL_file_13 hl (by decide) rfl (fun ls hl => ?_)
  refine lv_iconst (v := iI 1) hx hb dL_file_15 rfl ?_
  refine vx_ret ?_
  exact z_iretW hC hr hlk () hAe hP hD hS [1, 2, 3, 0] (by decide) rfl rfl (⟨rfl, trivial⟩) dL_file_16

set_option maxRecDepth 100000 in
set_option maxHeartbeats 4000000 in
theorem c_L_file_2 (l : Launch) (hst : l.stackTraces = false) (G : zGt) (sz : Nat) (b0 b1 g0 e0 f0 w0 u0 : Nat) (mc rn ll : Int) (f1 h0 : Nat) (nf tm : Int) (K : Int → Int) (x y : Int) (z0 : Nat) (OV : Int → Int64) (khnf : 0 ≤ nf ∧ nf ≤ 40) (khxf : 0 ≤ x ∧ x < nf) (khy : -2147483648 ≤ y ∧ y < 0) : vx_Met l yL_file (Cond.codeWith yL_file cL_file 5 (some .int) [(0, 10, 13, 21), (0, 10, 17, 13)] :: tb) ({ frames := 7, cells := 1, slots := 6, locals := 105 } : Room) (zPx G [(b0, ob 6 [.ref b1, vI mc, .ref g0, .ref e0, vI rn, .ref f0, .ref w0, .ref u0, vI ll]), (f0, ob 2 [.ref h0, .ref f1, vI nf, vI tm]), (f1, aI G 40 K), (z0, aJ G 1 OV)] sz [.ref b0, vI x, vI y, .ref z0]) (va_Qi (fun (r : Int32) (u : Unit) => r = iI 2 ∧ True) (fun (u : Unit) t => zB G [(b0, ob 6 [.ref b1, vI mc, .ref g0, .ref e0, vI rn, .ref f0, .ref w0, .ref u0, vI ll]), (f0, ob 2 [.ref h0, .ref f1, vI nf, vI tm]), (f1, aI G 40 K), (z0, aJ G 1 OV)] sz [(b0, ob 6 [.ref b1, vI mc, .ref g0, .ref e0, vI rn, .ref f0, .ref w0, .ref u0, vI ll]), (f0, ob 2 [.ref h0, .ref f1, vI nf, vI tm]), (f1, aI G 40 K), (z0, aJ G 1 OV)] t) (va_A [(b0, ob 6 [.ref b1, vI mc, .ref g0, .ref e0, vI rn, .ref f0, .ref w0, .ref u0, vI ll]), (f0, ob 2 [.ref h0, .ref f1, vI nf, vI tm]), (f1, aI G 40 K), (z0, aJ G 1 OV)] sz)) zNo 1 6 (va_A [(b0, ob 6 [.ref b1, vI mc, .ref g0, .ref e0, vI rn, .ref f0, .ref w0, .ref u0, vI ll]), (f0, ob 2 [.ref h0, .ref f1, vI nf, vI tm]), (f1, aI G 40 K), (z0, aJ G 1 OV)] sz) := by
  refine vx_ofWH (cc := cL_file) (maxL := 5) (ret := (some .int)) (hh := [(0, 10, 13, 21), (0, 10, 17, 13)]) (by decide) rfl ?_
  intro p e s m args below meth c s₁ B hml hv
  obtain ⟨rfl, hsz, hP, hK, hD0, hTt, hX⟩ := hv
  subst hsz
  have hD := hD0.self (sz := s.heap.size)
  obtain ⟨A, hAe⟩ : ∃ A : Nat → Prop, A = va_A [(b0, ob 6 [.ref b1, vI mc, .ref g0, .ref e0, vI rn, .ref f0, .ref w0, .ref u0, vI ll]), (f0, ob 2 [.ref h0, .ref f1, vI nf, vI tm]), (f1, aI G 40 K), (z0, aJ G 1 OV)] s.heap.size := ⟨_, rfl⟩
  rw [← hAe] at hD hX
  have hA : ∀ q : Nat, s.heap.size ≤ q → A q := fun q h => by rw [hAe]; exact Or.inr h
  have hS : va_S A s.heap s.heap [] := va_S.rf
  have htab := vx_table (x := yL_file) B (atoms_spec (ws := Cond.codeWith yL_file cL_file 5 (some .int) [(0, 10, 13, 21), (0, 10, 17, 13)] :: tb) B.pre _ List.mem_cons_self)
  obtain ⟨hC, hr, hlk⟩ := z_beginH B hml
  have hC : CallFix p m c cL_file 5 s _ tb RL := hC
  have hx := hC.1
  have hb := hC.2.1
  have hl := lv_entry ([.ref b0, vI x, vI y, .ref z0]) (n := 5) (Nat.le_of_ble_eq_true rfl)
  rw [lg_entry_eq]
  generalize (lg_sl ([.ref b0, vI x, vI y, .ref z0]) ++ List.replicate (5 - (lg_sl ([.ref b0, vI x, vI y, .ref z0])).length) Slot.unset).toArray = ls at hl ⊢
  have hl : lv_has ls 5 [(0, .ref b0), (1, vI x), (2, vI y), (3, .ref z0)] := hl
  obtain ⟨H, hHe⟩ : ∃ H : Heap, H = s.heap := ⟨_, rfl⟩
  obtain ⟨locs, hLe⟩ : ∃ L : List Loc, L = [] := ⟨_, rfl⟩
  suffices hgo : W p l e (headSpec (Cond.codeWith yL_file cL_file 5 (some .int) [(0, 10, 13, 21), (0, 10, 17, 13)] :: tb) ({ frames := 7, cells := 1, slots := 6, locals := 105 } : Room)).room s m ([.ref b0, vI x, vI y, .ref z0] : List Value).toArray below meth c H locs 0 0 (vx_MQ below (va_Qi (fun (r : Int32) (u : Unit) => r = iI 2 ∧ True) (fun (u : Unit) t => zB G [(b0, ob 6 [.ref b1, vI mc, .ref g0, .ref e0, vI rn, .ref f0, .ref w0, .ref u0, vI ll]), (f0, ob 2 [.ref h0, .ref f1, vI nf, vI tm]), (f1, aI G 40 K), (z0, aJ G 1 OV)] s.heap.size [(b0, ob 6 [.ref b1, vI mc, .ref g0, .ref e0, vI rn, .ref f0, .ref w0, .ref u0, vI ll]), (f0, ob 2 [.ref h0, .ref f1, vI nf, vI tm]), (f1, aI G 40 K), (z0, aJ G 1 OV)] t) (va_A [(b0, ob 6 [.ref b1, vI mc, .ref g0, .ref e0, vI rn, .ref f0, .ref w0, .ref u0, vI ll]), (f0, ob 2 [.ref h0, .ref f1, vI nf, vI tm]), (f1, aI G 40 K), (z0, aJ G 1 OV)] s.heap.size)) zNo ([.ref b0, vI x, vI y, .ref z0] : List Value).toArray s 1 6 (va_A [(b0, ob 6 [.ref b1, vI mc, .ref g0, .ref e0, vI rn, .ref f0, .ref w0, .ref u0, vI ll]), (f0, ob 2 [.ref h0, .ref f1, vI nf, vI tm]), (f1, aI G 40 K), (z0, aJ G 1 OV)] s.heap.size)) (F0 m 0 ls []) by rw [hHe, hLe] at hgo; exact hgo
  rw [← hHe] at hP
  have hS : va_S A s.heap H locs := by rw [hHe, hLe]; exact hS
  clear hHe hLe
  refine lv_aload_n hx hb dL_file_0 rfl (lv_at hl 3 rfl) ?_
  refine lv_iconst (v := iI 0) hx hb dL_file_1 rfl ?_
  refine lv_aload_n hx hb dL_file_2 rfl (lv_at hl 0 rfl) ?_
  refine lv_iload_n hx hb dL_file_3 rfl (lv_at hl 1 rfl) ?_
  refine lv_iload_n hx hb dL_file_4 rfl (lv_at hl 2 rfl) ?_
  refine z_xC (q0 := 0) (ci := 6) (b := b0) (rest := [vI 0, .ref z0]) (wr := [(z0, aJ G 1 OV)]) (pre := [⟨0, 10, 13, 21⟩]) (x := ⟨0, 10, 17, 13⟩) (suf := []) (name := XA) hC hK hTt hX (htab.trans rfl) hP hD hS hA (c_X6_file_2 l hst G H.size b0 b1 g0 e0 f0 w0 u0 mc rn ll f1 h0 nf tm K x y (khnf) (khxf) (khy)) mv_X6_file tw_725 [0, 1, 2] [3] rfl rfl rfl rfl (by decide) rfl rfl rfl rfl hl.1 rfl (Nat.le_of_ble_eq_true rfl) ⟨rfl, rfl, (Nat.le_of_ble_eq_true rfl), (Nat.le_of_ble_eq_true rfl)⟩ ⟨(Nat.le_of_ble_eq_true rfl), (Nat.le_of_ble_eq_true rfl)⟩ (List.forall_mem_cons.mpr ⟨Or.inr ⟨by decide, XI, hC.2.2.2.2 _ tw_586, hTt.2.2.1.2.1⟩, fun z hz => absurd hz List.not_mem_nil⟩) (by decide) (by decide) tw_465 (va_Nw.use rfl hTt.2.1.1) dL_file_5 (fun q9 H locs hP hD hS => ?_)
  have hP : va_P G.1 vwCl [(z0, aJ G 1 OV), (b0, ob 6 [.ref b1, vI mc, .ref g0, .ref e0, vI rn, .ref f0, .ref w0, .ref u0, vI ll]), (f0, ob 2 [.ref h0, .ref f1, vI nf, vI tm]), (f1, aI G 40 K)] H := hP
  have hD : va_D A [(z0, aJ G 1 OV), (b0, ob 6 [.ref b1, vI mc, .ref g0, .ref e0, vI rn, .ref f0, .ref w0, .ref u0, vI ll]), (f0, ob 2 [.ref h0, .ref f1, vI nf, vI tm]), (f1, aI G 40 K)] := hD
  refine lv_astore (lv' := [(4, .ref q9), (0, .ref b0), (1, vI x), (2, vI y), (3, .ref z0)]) hx hb dL_file_17 hl (by decide) rfl (fun ls hl => ?_)
  refine lv_iconst (v := iI 2) hx hb dL_file_19 rfl ?_
  refine vx_ret ?_
  exact z_iretW hC hr hlk () hAe hP hD hS [1, 2, 3, 0] (by decide) rfl rfl (⟨rfl, trivial⟩) dL_file_20

set_option maxRecDepth 100000 in
set_option maxHeartbeats 4000000 in
theorem c_L_data_0 (l : Launch) (hst : l.stackTraces = false) (G : zGt) (sz : Nat) (b0 b1 g0 e0 f0 w0 u0 : Nat) (mc rn ll : Int) (f1 h0 : Nat) (nf tm : Int) (K : Int → Int) (h1 : Nat) (n : Int) (f : Int → Int64) (x y : Int) (z0 : Nat) (OV : Int → Int64) (khnf : 0 ≤ nf ∧ nf ≤ 40) (khK0 : ∀ j : Int, 0 ≤ j ∧ j < nf → 0 ≤ K j ∧ K j < 268435456) (khxf : 0 ≤ x ∧ x < nf) (khn : 0 ≤ n ∧ n ≤ 24) (khy : -2147483648 ≤ y ∧ y < 2147483648) : vx_Met l yL_data (Cond.codeWith yL_data cL_data 5 (some .int) [(0, 10, 13, 21)] :: tb) ({ frames := 5, cells := 0, slots := 0, locals := 110 } : Room) (zPx G [(b0, ob 6 [.ref b1, vI mc, .ref g0, .ref e0, vI rn, .ref f0, .ref w0, .ref u0, vI ll]), (f0, ob 2 [.ref h0, .ref f1, vI nf, vI tm]), (f1, aI G 40 K), (h0, ob 1 [.ref h1, vI n]), (h1, aJ G 24 f), (z0, aJ G 1 OV)] sz [.ref b0, vI x, vI y, .ref z0]) (va_Qi (fun (r : Int32) (u : Unit) => r = iI 0 ∧ True) (fun (u : Unit) t => zB G [(b0, ob 6 [.ref b1, vI mc, .ref g0, .ref e0, vI rn, .ref f0, .ref w0, .ref u0, vI ll]), (f0, ob 2 [.ref h0, .ref f1, vI nf, vI tm]), (f1, aI G 40 K), (h0, ob 1 [.ref h1, vI n]), (h1, aJ G 24 f), (z0, aJ G 1 OV)] sz [(b0, ob 6 [.ref b1, vI mc, .ref g0, .ref e0, vI rn, .ref f0, .ref w0, .ref u0, vI ll]), (f0, ob 2 [.ref h0, .ref f1, vI nf, vI tm]), (f1, aI G 40 K), (h0, ob 1 [.ref h1, vI n]), (h1, aJ G 24 f), (z0, aJ G 1 (zup OV 0 (zi2l (if 0 ≤ y ∧ y < byZ (if 0 ≤ kBl (K x) 0 ∧ kBl (K x) 0 < n then f (kBl (K x) 0) else 0) 2 then byZ (if 0 ≤ kBl (K x) ((3 + y) / 8) ∧ kBl (K x) ((3 + y) / 8) < n then f (kBl (K x) ((3 + y) / 8)) else 0) ((3 + y) % 8) else -1))))] t) (va_A [(b0, ob 6 [.ref b1, vI mc, .ref g0, .ref e0, vI rn, .ref f0, .ref w0, .ref u0, vI ll]), (f0, ob 2 [.ref h0, .ref f1, vI nf, vI tm]), (f1, aI G 40 K), (h0, ob 1 [.ref h1, vI n]), (h1, aJ G 24 f), (z0, aJ G 1 OV)] sz)) zNo 0 0 (va_A [(b0, ob 6 [.ref b1, vI mc, .ref g0, .ref e0, vI rn, .ref f0, .ref w0, .ref u0, vI ll]), (f0, ob 2 [.ref h0, .ref f1, vI nf, vI tm]), (f1, aI G 40 K), (h0, ob 1 [.ref h1, vI n]), (h1, aJ G 24 f), (z0, aJ G 1 OV)] sz) := by
  refine vx_ofWH (cc := cL_data) (maxL := 5) (ret := (some .int)) (hh := [(0, 10, 13, 21)]) (by decide) rfl ?_
  intro p e s m args below meth c s₁ B hml hv
  obtain ⟨rfl, hsz, hP, hK, hD0, hTt, hX⟩ := hv
  subst hsz
  have hD := hD0.self (sz := s.heap.size)
  obtain ⟨A, hAe⟩ : ∃ A : Nat → Prop, A = va_A [(b0, ob 6 [.ref b1, vI mc, .ref g0, .ref e0, vI rn, .ref f0, .ref w0, .ref u0, vI ll]), (f0, ob 2 [.ref h0, .ref f1, vI nf, vI tm]), (f1, aI G 40 K), (h0, ob 1 [.ref h1, vI n]), (h1, aJ G 24 f), (z0, aJ G 1 OV)] s.heap.size := ⟨_, rfl⟩
  rw [← hAe] at hD hX
  have hA : ∀ q : Nat, s.heap.size ≤ q → A q := fun q h => by rw [hAe]; exact Or.inr h
  have hS : va_S A s.heap s.heap [] := va_S.rf
  have htab := vx_table (x := yL_data) B (atoms_spec (ws := Cond.codeWith yL_data cL_data 5 (some .int) [(0, 10, 13, 21)] :: tb) B.pre _ List.mem_cons_self)
  obtain ⟨hC, hr, hlk⟩ := z_beginH B hml
  have hC : CallFix p m c cL_data 5 s _ tb RL := hC
  have hx := hC.1
  have hb := hC.2.1
  have hl := lv_entry ([.ref b0, vI x, vI y, .ref z0]) (n := 5) (Nat.le_of_ble_eq_true rfl)
  rw [lg_entry_eq]
  generalize (lg_sl ([.ref b0, vI x, vI y, .ref z0]) ++ List.replicate (5 - (lg_sl ([.ref b0, vI x, vI y, .ref z0])).length) Slot.unset).toArray = ls at hl ⊢
  have hl : lv_has ls 5 [(0, .ref b0), (1, vI x), (2, vI y), (3, .ref z0)] := hl
  obtain ⟨H, hHe⟩ : ∃ H : Heap, H = s.heap := ⟨_, rfl⟩
  obtain ⟨locs, hLe⟩ : ∃ L : List Loc, L = [] := ⟨_, rfl⟩
  suffices hgo : W p l e (headSpec (Cond.codeWith yL_data cL_data 5 (some .int) [(0, 10, 13, 21)] :: tb) ({ frames := 5, cells := 0, slots := 0, locals := 110 } : Room)).room s m ([.ref b0, vI x, vI y, .ref z0] : List Value).toArray below meth c H locs 0 0 (vx_MQ below (va_Qi (fun (r : Int32) (u : Unit) => r = iI 0 ∧ True) (fun (u : Unit) t => zB G [(b0, ob 6 [.ref b1, vI mc, .ref g0, .ref e0, vI rn, .ref f0, .ref w0, .ref u0, vI ll]), (f0, ob 2 [.ref h0, .ref f1, vI nf, vI tm]), (f1, aI G 40 K), (h0, ob 1 [.ref h1, vI n]), (h1, aJ G 24 f), (z0, aJ G 1 OV)] s.heap.size [(b0, ob 6 [.ref b1, vI mc, .ref g0, .ref e0, vI rn, .ref f0, .ref w0, .ref u0, vI ll]), (f0, ob 2 [.ref h0, .ref f1, vI nf, vI tm]), (f1, aI G 40 K), (h0, ob 1 [.ref h1, vI n]), (h1, aJ G 24 f), (z0, aJ G 1 (zup OV 0 (zi2l (if 0 ≤ y ∧ y < byZ (if 0 ≤ kBl (K x) 0 ∧ kBl (K x) 0 < n then f (kBl (K x) 0) else 0) 2 then byZ (if 0 ≤ kBl (K x) ((3 + y) / 8) ∧ kBl (K x) ((3 + y) / 8) < n then f (kBl (K x) ((3 + y) / 8)) else 0) ((3 + y) % 8) else -1))))] t) (va_A [(b0, ob 6 [.ref b1, vI mc, .ref g0, .ref e0, vI rn, .ref f0, .ref w0, .ref u0, vI ll]), (f0, ob 2 [.ref h0, .ref f1, vI nf, vI tm]), (f1, aI G 40 K), (h0, ob 1 [.ref h1, vI n]), (h1, aJ G 24 f), (z0, aJ G 1 OV)] s.heap.size)) zNo ([.ref b0, vI x, vI y, .ref z0] : List Value).toArray s 0 0 (va_A [(b0, ob 6 [.ref b1, vI mc, .ref g0, .ref e0, vI rn, .ref f0, .ref w0, .ref u0, vI ll]), (f0, ob 2 [.ref h0, .ref f1, vI nf, vI tm]), (f1, aI G 40 K), (h0, ob 1 [.ref h1, vI n]), (h1, aJ G 24 f), (z0, aJ G 1 OV)] s.heap.size)) (F0 m 0 ls []) by rw [hHe, hLe] at hgo; exact hgo
  rw [← hHe] at hP
  have hS : va_S A s.heap H locs := by rw [hHe, hLe]; exact hS
  clear hHe hLe
  refine lv_aload_n hx hb dL_data_0 rfl (lv_at hl 3 rfl) ?_
  refine lv_iconst (v := iI 0) hx hb dL_data_1 rfl ?_
  refine lv_aload_n hx hb dL_data_2 rfl (lv_at hl 0 rfl) ?_
  refine lv_iload_n hx hb dL_data_3 rfl (lv_at hl 1 rfl) ?_
  refine lv_iload_n hx hb dL_data_4 rfl (lv_at hl 2 rfl) ?_
  refine z_rVi (q0 := 0) (ci := 6) (b := b0) (rest := [vI 0, .ref z0]) hC hK hP (c_X6_data_0 l G b0 b1 g0 e0 f0 w0 u0 mc rn ll f1 h0 nf tm K h1 n f x y (khnf) (khK0) (khxf) (khn) (khy)) mv_X6_data tw_758 [0, 1, 2, 3, 4] rfl rfl rfl rfl hl.1 rfl (Nat.le_of_ble_eq_true rfl) ⟨rfl, rfl, Nat.le_of_ble_eq_true rfl, Nat.le_of_ble_eq_true rfl⟩ ⟨Nat.le_of_ble_eq_true rfl, Nat.le_of_ble_eq_true rfl⟩ dL_data_5 ?_
  refine lv_i2l (v := zi2l (if 0 ≤ y ∧ y < byZ (if 0 ≤ kBl (K x) 0 ∧ kBl (K x) 0 < n then f (kBl (K x) 0) else 0) 2 then byZ (if 0 ≤ kBl (K x) ((3 + y) / 8) ∧ kBl (K x) ((3 + y) / 8) < n then f (kBl (K x) ((3 + y) / 8)) else 0) ((3 + y) % 8) else -1)) hx hb dL_data_8 rfl ?_
  refine z_last (ws' := [(b0, ob 6 [.ref b1, vI mc, .ref g0, .ref e0, vI rn, .ref f0, .ref w0, .ref u0, vI ll]), (f0, ob 2 [.ref h0, .ref f1, vI nf, vI tm]), (f1, aI G 40 K), (h0, ob 1 [.ref h1, vI n]), (h1, aJ G 24 f), (z0, aJ G 1 (zup OV 0 (zi2l (if 0 ≤ y ∧ y < byZ (if 0 ≤ kBl (K x) 0 ∧ kBl (K x) 0 < n then f (kBl (K x) 0) else 0) 2 then byZ (if 0 ≤ kBl (K x) ((3 + y) / 8) ∧ kBl (K x) ((3 + y) / 8) < n then f (kBl (K x) ((3 + y) / 8)) else 0) ((3 + y) % 8) else -1))))]) hC hK hP hD hS 5 rfl (by omega) (by decide) rfl dL_data_9 (fun H locs hP hD hS => ?_)
  refine lv_goto (tgt := 17) hx hb dL_data_10 (by decide) ?_
  refine lv_iconst (v := iI 0) hx hb dL_data_17 rfl ?_
  refine vx_ret ?_
  exact z_iretW hC hr hlk () hAe hP hD hS [0, 1, 2, 3, 4, 5] (by decide) rfl rfl (⟨rfl, trivial⟩) dL_data_18

set_option maxRecDepth 100000 in
set_option maxHeartbeats 4000000 in
theorem c_L_data_1 (l : Launch) (hst : l.stackTraces = false) (G : zGt) (sz : Nat) (b0 b1 g0 e0 f0 w0 u0 : Nat) (mc rn ll : Int) (f1 h0 : Nat) (nf tm : Int) (K : Int → Int) (x y : Int) (z0 : Nat) (OV : Int → Int64) (khnf : 0 ≤ nf ∧ nf ≤ 40) (khx : -2147483648 ≤ x ∧ x < 2147483648) (khno : ¬ (0 ≤ x ∧ x < nf)) : vx_Met l yL_data (Cond.codeWith yL_data cL_data 5 (some .int) [(0, 10, 13, 21)] :: tb) ({ frames := 8, cells := 1, slots := 6, locals := 125 } : Room) (zPx G [(b0, ob 6 [.ref b1, vI mc, .ref g0, .ref e0, vI rn, .ref f0, .ref w0, .ref u0, vI ll]), (f0, ob 2 [.ref h0, .ref f1, vI nf, vI tm]), (f1, aI G 40 K), (z0, aJ G 1 OV)] sz [.ref b0, vI x, vI y, .ref z0]) (va_Qi (fun (r : Int32) (u : Unit) => r = iI 1 ∧ True) (fun (u : Unit) t => zB G [(b0, ob 6 [.ref b1, vI mc, .ref g0, .ref e0, vI rn, .ref f0, .ref w0, .ref u0, vI ll]), (f0, ob 2 [.ref h0, .ref f1, vI nf, vI tm]), (f1, aI G 40 K), (z0, aJ G 1 OV)] sz [(b0, ob 6 [.ref b1, vI mc, .ref g0, .ref e0, vI rn, .ref f0, .ref w0, .ref u0, vI ll]), (f0, ob 2 [.ref h0, .ref f1, vI nf, vI tm]), (f1, aI G 40 K), (z0, aJ G 1 OV)] t) (va_A [(b0, ob 6 [.ref b1, vI mc, .ref g0, .ref e0, vI rn, .ref f0, .ref w0, .ref u0, vI ll]), (f0, ob 2 [.ref h0, .ref f1, vI nf, vI tm]), (f1, aI G 40 K), (z0, aJ G 1 OV)] sz)) zNo 1 6 (va_A [(b0, ob 6 [.ref b1, vI mc, .ref g0, .ref e0, vI rn, .ref f0, .ref w0, .ref u0, vI ll]), (f0, ob 2 [.ref h0, .ref f1, vI nf, vI tm]), (f1, aI G 40 K), (z0, aJ G 1 OV)] sz) := by
  refine vx_ofWH (cc := cL_data) (maxL := 5) (ret := (some .int)) (hh := [(0, 10, 13, 21)]) (by decide) rfl ?_
  intro p e s m args below meth c s₁ B hml hv
  obtain ⟨rfl, hsz, hP, hK, hD0, hTt, hX⟩ := hv
  subst hsz
  have hD := hD0.self (sz := s.heap.size)
  obtain ⟨A, hAe⟩ : ∃ A : Nat → Prop, A = va_A [(b0, ob 6 [.ref b1, vI mc, .ref g0, .ref e0, vI rn, .ref f0, .ref w0, .ref u0, vI ll]), (f0, ob 2 [.ref h0, .ref f1, vI nf, vI tm]), (f1, aI G 40 K), (z0, aJ G 1 OV)] s.heap.size := ⟨_, rfl⟩
  rw [← hAe] at hD hX
  have hA : ∀ q : Nat, s.heap.size ≤ q → A q := fun q h => by rw [hAe]; exact Or.inr h
  have hS : va_S A s.heap s.heap [] := va_S.rf
  have htab := vx_table (x := yL_data) B (atoms_spec (ws := Cond.codeWith yL_data cL_data 5 (some .int) [(0, 10, 13, 21)] :: tb) B.pre _ List.mem_cons_self)
  obtain ⟨hC, hr, hlk⟩ := z_beginH B hml
  have hC : CallFix p m c cL_data 5 s _ tb RL := hC
  have hx := hC.1
  have hb := hC.2.1
  have hl := lv_entry ([.ref b0, vI x, vI y, .ref z0]) (n := 5) (Nat.le_of_ble_eq_true rfl)
  rw [lg_entry_eq]
  generalize (lg_sl ([.ref b0, vI x, vI y, .ref z0]) ++ List.replicate (5 - (lg_sl ([.ref b0, vI x, vI y, .ref z0])).length) Slot.unset).toArray = ls at hl ⊢
  have hl : lv_has ls 5 [(0, .ref b0), (1, vI x), (2, vI y), (3, .ref z0)] := hl
  obtain ⟨H, hHe⟩ : ∃ H : Heap, H = s.heap := ⟨_, rfl⟩
  obtain ⟨locs, hLe⟩ : ∃ L : List Loc, L = [] := ⟨_, rfl⟩
  suffices hgo : W p l e (headSpec (Cond.codeWith yL_data cL_data 5 (some .int) [(0, 10, 13, 21)] :: tb) ({ frames := 8, cells := 1, slots := 6, locals := 125 } : Room)).room s m ([.ref b0, vI x, vI y, .ref z0] : List Value).toArray below meth c H locs 0 0 (vx_MQ below (va_Qi (fun (r : Int32) (u : Unit) => r = iI 1 ∧ True) (fun (u : Unit) t => zB G [(b0, ob 6 [.ref b1, vI mc, .ref g0, .ref e0, vI rn, .ref f0, .ref w0, .ref u0, vI ll]), (f0, ob 2 [.ref h0, .ref f1, vI nf, vI tm]), (f1, aI G 40 K), (z0, aJ G 1 OV)] s.heap.size [(b0, ob 6 [.ref b1, vI mc, .ref g0, .ref e0, vI rn, .ref f0, .ref w0, .ref u0, vI ll]), (f0, ob 2 [.ref h0, .ref f1, vI nf, vI tm]), (f1, aI G 40 K), (z0, aJ G 1 OV)] t) (va_A [(b0, ob 6 [.ref b1, vI mc, .ref g0, .ref e0, vI rn, .ref f0, .ref w0, .ref u0, vI ll]), (f0, ob 2 [.ref h0, .ref f1, vI nf, vI tm]), (f1, aI G 40 K), (z0, aJ G 1 OV)] s.heap.size)) zNo ([.ref b0, vI x, vI y, .ref z0] : List Value).toArray s 1 6 (va_A [(b0, ob 6 [.ref b1, vI mc, .ref g0, .ref e0, vI rn, .ref f0, .ref w0, .ref u0, vI ll]), (f0, ob 2 [.ref h0, .ref f1, vI nf, vI tm]), (f1, aI G 40 K), (z0, aJ G 1 OV)] s.heap.size)) (F0 m 0 ls []) by rw [hHe, hLe] at hgo; exact hgo
  rw [← hHe] at hP
  have hS : va_S A s.heap H locs := by rw [hHe, hLe]; exact hS
  clear hHe hLe
  refine lv_aload_n hx hb dL_data_0 rfl (lv_at hl 3 rfl) ?_
  refine lv_iconst (v := iI 0) hx hb dL_data_1 rfl ?_
  refine lv_aload_n hx hb dL_data_2 rfl (lv_at hl 0 rfl) ?_
  refine lv_iload_n hx hb dL_data_3 rfl (lv_at hl 1 rfl) ?_
  refine lv_iload_n hx hb dL_data_4 rfl (lv_at hl 2 rfl) ?_
  refine z_xC (q0 := 0) (ci := 6) (b := b0) (rest := [vI 0, .ref z0]) (wr := [(z0, aJ G 1 OV)]) (pre := []) (x := ⟨0, 10, 13, 21⟩) (suf := []) (name := XI) hC hK hTt hX (htab.trans rfl) hP hD hS hA (c_X6_data_1 l hst G H.size b0 b1 g0 e0 f0 w0 u0 mc rn ll f1 h0 nf tm K x y (khnf) (khx) (khno)) mv_X6_data tw_758 [0, 1, 2] [3] rfl rfl rfl rfl (by decide) rfl rfl rfl rfl hl.1 rfl (Nat.le_of_ble_eq_true rfl) ⟨rfl, rfl, (Nat.le_of_ble_eq_true rfl), (Nat.le_of_ble_eq_true rfl)⟩ ⟨(Nat.le_of_ble_eq_true rfl), (Nat.le_of_ble_eq_true rfl)⟩ (fun z hz => absurd hz List.not_mem_nil) (by decide) (by decide) tw_586 (va_Nw.use rfl hTt.2.1.2.2) dL_data_5 (fun q9 H locs hP hD hS => ?_)
  have hP : va_P G.1 vwCl [(z0, aJ G 1 OV), (b0, ob 6 [.ref b1, vI mc, .ref g0, .ref e0, vI rn, .ref f0, .ref w0, .ref u0, vI ll]), (f0, ob 2 [.ref h0, .ref f1, vI nf, vI tm]), (f1, aI G 40 K)] H := hP
  have hD : va_D A [(z0, aJ G 1 OV), (b0, ob 6 [.ref b1, vI mc, .ref g0, .ref e0, vI rn, .ref f0, .ref w0, .ref u0, vI ll]), (f0, ob 2 [.ref h0, .ref f1, vI nf, vI tm]), (f1, aI G 40 K)] := hD
  refine lv_astore (lv' := [(4, .ref q9), (0, .ref b0), (1, vI x), (2, vI y), (3, .ref z0)]) hx hb dL_data_13 hl (by decide) rfl (fun ls hl => ?_)
  refine lv_iconst (v := iI 1) hx hb dL_data_15 rfl ?_
  refine vx_ret ?_
  exact z_iretW hC hr hlk () hAe hP hD hS [1, 2, 3, 0] (by decide) rfl rfl (⟨rfl, trivial⟩) dL_data_16

set_option maxRecDepth 100000 in
set_option maxHeartbeats 4000000 in
theorem c_L_torn_0 (l : Launch) (hst : l.stackTraces = false) (G : zGt) (sz : Nat) (b0 b1 g0 e0 f0 w0 u0 : Nat) (mc rn ll : Int) (w1 w2 w3 : Nat) (rc kp lk lg mn ca st ck : Int) (RW SB CB : Int → Int) (MK : Int → Option Nat) (L : List mkT) (g1 : Nat) (nb : Int) (dk : Int → Int64) (f1 h0 : Nat) (nf tm : Int) (K : Int → Int) (x : Int) (z0 : Nat) (OV : Int → Int64) (khnb : 0 ≤ nb ∧ nb ≤ 24) (khxb : 0 ≤ x ∧ x < nb) (khrn : 1 ≤ rn ∧ rn ≤ 23) (khwf : wfC K nf tm) (khma : mkA L MK) (khol : okL L) : vx_Met l yL_torn (Cond.codeWith yL_torn cL_torn 4 (some .int) [(0, 9, 12, 21)] :: tb) ({ frames := 12, cells := 0, slots := 0, locals := 304 } : Room) (zPx G ([(b0, ob 6 [.ref b1, vI mc, .ref g0, .ref e0, vI rn, .ref f0, .ref w0, .ref u0, vI ll]), (b1, aR G 6 MK), (w0, ob 5 [.ref g0, .ref f0, vI rc, vI kp, vI lk, vI lg, vI mn, .ref w1, .ref w2, .ref w3, vI ca, vI st, vI ck]), (w1, aI G 5 RW), (w2, aI G 5 SB), (w3, aI G 5 CB), (g0, ob 1 [.ref g1, vI nb]), (g1, aJ G 24 dk), (f0, ob 2 [.ref h0, .ref f1, vI nf, vI tm]), (f1, aI G 40 K), (z0, aJ G 1 OV)] ++ (mkW G L)) sz [.ref b0, vI x, .ref z0]) (va_Qi (fun (r : Int32) (u : Int × Int × Int × Int × Int × Int × (Int → Int) × (Int → Int) × (Int → Int)) => r = iI 0 ∧ (0 ≤ u.2.1 ∧ u.2.1 ≤ 20001) ∧ (0 ≤ u.2.2.1 ∧ u.2.2.1 ≤ 5)) (fun (u : Int × Int × Int × Int × Int × Int × (Int → Int) × (Int → Int) × (Int → Int)) t => zB G ([(b0, ob 6 [.ref b1, vI mc, .ref g0, .ref e0, vI rn, .ref f0, .ref w0, .ref u0, vI ll]), (b1, aR G 6 MK), (w0, ob 5 [.ref g0, .ref f0, vI rc, vI kp, vI lk, vI lg, vI mn, .ref w1, .ref w2, .ref w3, vI ca, vI st, vI ck]), (w1, aI G 5 RW), (w2, aI G 5 SB), (w3, aI G 5 CB), (g0, ob 1 [.ref g1, vI nb]), (g1, aJ G 24 dk), (f0, ob 2 [.ref h0, .ref f1, vI nf, vI tm]), (f1, aI G 40 K), (z0, aJ G 1 OV)] ++ (mkW G L)) sz ([(b0, ob 6 [.ref b1, vI mc, .ref g0, .ref e0, vI rn, .ref f0, .ref w0, .ref u0, vI ll]), (b1, aR G 6 MK), (w0, ob 5 [.ref g0, .ref f0, vI rn, vI 0, vI u.2.1, vI u.2.2.1, vI u.1, .ref w1, .ref w2, .ref w3, vI u.2.2.2.1, vI u.2.2.2.2.1, vI u.2.2.2.2.2.1]), (w1, aI G 5 u.2.2.2.2.2.2.1), (w2, aI G 5 u.2.2.2.2.2.2.2.1), (w3, aI G 5 u.2.2.2.2.2.2.2.2), (g0, ob 1 [.ref g1, vI nb]), (g1, aJ G 24 dk), (f0, ob 2 [.ref h0, .ref f1, vI nf, vI tm]), (f1, aI G 40 K), (z0, aJ G 1 (zup OV 0 (zi2l (if sumZ (fun z => sL (gmC L dk) rn nb z x) L.length ≤ 20000 then mxZ (fun z => sG (gmC L dk) rn nb z x) L.length else -1))))] ++ (mkW G L)) t) (va_A ([(b0, ob 6 [.ref b1, vI mc, .ref g0, .ref e0, vI rn, .ref f0, .ref w0, .ref u0, vI ll]), (b1, aR G 6 MK), (w0, ob 5 [.ref g0, .ref f0, vI rc, vI kp, vI lk, vI lg, vI mn, .ref w1, .ref w2, .ref w3, vI ca, vI st, vI ck]), (w1, aI G 5 RW), (w2, aI G 5 SB), (w3, aI G 5 CB), (g0, ob 1 [.ref g1, vI nb]), (g1, aJ G 24 dk), (f0, ob 2 [.ref h0, .ref f1, vI nf, vI tm]), (f1, aI G 40 K), (z0, aJ G 1 OV)] ++ (mkW G L)) sz)) zNo 0 0 (va_A ([(b0, ob 6 [.ref b1, vI mc, .ref g0, .ref e0, vI rn, .ref f0, .ref w0, .ref u0, vI ll]), (b1, aR G 6 MK), (w0, ob 5 [.ref g0, .ref f0, vI rc, vI kp, vI lk, vI lg, vI mn, .ref w1, .ref w2, .ref w3, vI ca, vI st, vI ck]), (w1, aI G 5 RW), (w2, aI G 5 SB), (w3, aI G 5 CB), (g0, ob 1 [.ref g1, vI nb]), (g1, aJ G 24 dk), (f0, ob 2 [.ref h0, .ref f1, vI nf, vI tm]), (f1, aI G 40 K), (z0, aJ G 1 OV)] ++ (mkW G L)) sz) := by
  refine vx_ofWH (cc := cL_torn) (maxL := 4) (ret := (some .int)) (hh := [(0, 9, 12, 21)]) (by decide) rfl ?_
  intro p e s m args below meth c s₁ B hml hv
  obtain ⟨rfl, hsz, hP, hK, hD0, hTt, hX⟩ := hv
  subst hsz
  have hD := hD0.self (sz := s.heap.size)
  obtain ⟨A, hAe⟩ : ∃ A : Nat → Prop, A = va_A ([(b0, ob 6 [.ref b1, vI mc, .ref g0, .ref e0, vI rn, .ref f0, .ref w0, .ref u0, vI ll]), (b1, aR G 6 MK), (w0, ob 5 [.ref g0, .ref f0, vI rc, vI kp, vI lk, vI lg, vI mn, .ref w1, .ref w2, .ref w3, vI ca, vI st, vI ck]), (w1, aI G 5 RW), (w2, aI G 5 SB), (w3, aI G 5 CB), (g0, ob 1 [.ref g1, vI nb]), (g1, aJ G 24 dk), (f0, ob 2 [.ref h0, .ref f1, vI nf, vI tm]), (f1, aI G 40 K), (z0, aJ G 1 OV)] ++ (mkW G L)) s.heap.size := ⟨_, rfl⟩
  rw [← hAe] at hD hX
  have hA : ∀ q : Nat, s.heap.size ≤ q → A q := fun q h => by rw [hAe]; exact Or.inr h
  have hS : va_S A s.heap s.heap [] := va_S.rf
  have htab := vx_table (x := yL_torn) B (atoms_spec (ws := Cond.codeWith yL_torn cL_torn 4 (some .int) [(0, 9, 12, 21)] :: tb) B.pre _ List.mem_cons_self)
  obtain ⟨hC, hr, hlk⟩ := z_beginH B hml
  have hC : CallFix p m c cL_torn 4 s _ tb RL := hC
  have hx := hC.1
  have hb := hC.2.1
  have hl := lv_entry ([.ref b0, vI x, .ref z0]) (n := 4) (Nat.le_of_ble_eq_true rfl)
  rw [lg_entry_eq]
  generalize (lg_sl ([.ref b0, vI x, .ref z0]) ++ List.replicate (4 - (lg_sl ([.ref b0, vI x, .ref z0])).length) Slot.unset).toArray = ls at hl ⊢
  have hl : lv_has ls 4 [(0, .ref b0), (1, vI x), (2, .ref z0)] := hl
  obtain ⟨H, hHe⟩ : ∃ H : Heap, H = s.heap := ⟨_, rfl⟩
  obtain ⟨locs, hLe⟩ : ∃ L : List Loc, L = [] := ⟨_, rfl⟩
  suffices hgo : W p l e (headSpec (Cond.codeWith yL_torn cL_torn 4 (some .int) [(0, 9, 12, 21)] :: tb) ({ frames := 12, cells := 0, slots := 0, locals := 304 } : Room)).room s m ([.ref b0, vI x, .ref z0] : List Value).toArray below meth c H locs 0 0 (vx_MQ below (va_Qi (fun (r : Int32) (u : Int × Int × Int × Int × Int × Int × (Int → Int) × (Int → Int) × (Int → Int)) => r = iI 0 ∧ (0 ≤ u.2.1 ∧ u.2.1 ≤ 20001) ∧ (0 ≤ u.2.2.1 ∧ u.2.2.1 ≤ 5)) (fun (u : Int × Int × Int × Int × Int × Int × (Int → Int) × (Int → Int) × (Int → Int)) t => zB G ([(b0, ob 6 [.ref b1, vI mc, .ref g0, .ref e0, vI rn, .ref f0, .ref w0, .ref u0, vI ll]), (b1, aR G 6 MK), (w0, ob 5 [.ref g0, .ref f0, vI rc, vI kp, vI lk, vI lg, vI mn, .ref w1, .ref w2, .ref w3, vI ca, vI st, vI ck]), (w1, aI G 5 RW), (w2, aI G 5 SB), (w3, aI G 5 CB), (g0, ob 1 [.ref g1, vI nb]), (g1, aJ G 24 dk), (f0, ob 2 [.ref h0, .ref f1, vI nf, vI tm]), (f1, aI G 40 K), (z0, aJ G 1 OV)] ++ (mkW G L)) s.heap.size ([(b0, ob 6 [.ref b1, vI mc, .ref g0, .ref e0, vI rn, .ref f0, .ref w0, .ref u0, vI ll]), (b1, aR G 6 MK), (w0, ob 5 [.ref g0, .ref f0, vI rn, vI 0, vI u.2.1, vI u.2.2.1, vI u.1, .ref w1, .ref w2, .ref w3, vI u.2.2.2.1, vI u.2.2.2.2.1, vI u.2.2.2.2.2.1]), (w1, aI G 5 u.2.2.2.2.2.2.1), (w2, aI G 5 u.2.2.2.2.2.2.2.1), (w3, aI G 5 u.2.2.2.2.2.2.2.2), (g0, ob 1 [.ref g1, vI nb]), (g1, aJ G 24 dk), (f0, ob 2 [.ref h0, .ref f1, vI nf, vI tm]), (f1, aI G 40 K), (z0, aJ G 1 (zup OV 0 (zi2l (if sumZ (fun z => sL (gmC L dk) rn nb z x) L.length ≤ 20000 then mxZ (fun z => sG (gmC L dk) rn nb z x) L.length else -1))))] ++ (mkW G L)) t) (va_A ([(b0, ob 6 [.ref b1, vI mc, .ref g0, .ref e0, vI rn, .ref f0, .ref w0, .ref u0, vI ll]), (b1, aR G 6 MK), (w0, ob 5 [.ref g0, .ref f0, vI rc, vI kp, vI lk, vI lg, vI mn, .ref w1, .ref w2, .ref w3, vI ca, vI st, vI ck]), (w1, aI G 5 RW), (w2, aI G 5 SB), (w3, aI G 5 CB), (g0, ob 1 [.ref g1, vI nb]), (g1, aJ G 24 dk), (f0, ob 2 [.ref h0, .ref f1, vI nf, vI tm]), (f1, aI G 40 K), (z0, aJ G 1 OV)] ++ (mkW G L)) s.heap.size)) zNo ([.ref b0, vI x, .ref z0] : List Value).toArray s 0 0 (va_A ([(b0, ob 6 [.ref b1, vI mc, .ref g0, .ref e0, vI rn, .ref f0, .ref w0, .ref u0, vI ll]), (b1, aR G 6 MK), (w0, ob 5 [.ref g0, .ref f0, vI rc, vI kp, vI lk, vI lg, vI mn, .ref w1, .ref w2, .ref w3, vI ca, vI st, vI ck]), (w1, aI G 5 RW), (w2, aI G 5 SB), (w3, aI G 5 CB), (g0, ob 1 [.ref g1, vI nb]), (g1, aJ G 24 dk), (f0, ob 2 [.ref h0, .ref f1, vI nf, vI tm]), (f1, aI G 40 K), (z0, aJ G 1 OV)] ++ (mkW G L)) s.heap.size)) (F0 m 0 ls []) by rw [hHe, hLe] at hgo; exact hgo
  rw [← hHe] at hP
  have hS : va_S A s.heap H locs := by rw [hHe, hLe]; exact hS
  clear hHe hLe
  refine lv_aload_n hx hb dL_torn_0 rfl (lv_at hl 2 rfl) ?_
  refine lv_iconst (v := iI 0) hx hb dL_torn_1 rfl ?_
  refine lv_aload_n hx hb dL_torn_2 rfl (lv_at hl 0 rfl) ?_
  refine lv_iload_n hx hb dL_torn_3 rfl (lv_at hl 1 rfl) ?_
  refine z_wVi_T (q0 := 0) (ci := 6) (b := b0) (rest := [vI 0, .ref z0]) (wr := [(z0, aJ G 1 OV)]) hC hK hP hD hS hA (c_X6_torn_0 l G H.size b0 b1 g0 e0 f0 w0 u0 mc rn ll w1 w2 w3 rc kp lk lg mn ca st ck RW SB CB MK L g1 nb dk f1 h0 nf tm K x (khnb) (khxb) (khrn) (khwf) (khma) (khol)) mv_X6_torn tw_770 [0, 1, 2, 3, 4, 5, 6, 7, 8, 9] [10] rfl rfl rfl rfl (by decide) rfl rfl rfl rfl hl.1 rfl (Nat.le_of_ble_eq_true rfl) ⟨rfl, rfl, Nat.le_of_ble_eq_true rfl, Nat.le_of_ble_eq_true rfl⟩ ⟨Nat.le_of_ble_eq_true rfl, Nat.le_of_ble_eq_true rfl⟩ dL_torn_4 (fun r u H locs hw hP hD hS => ?_)
  obtain ⟨mn'_1, lk'_1, lg'_1, ca'_1, st'_1, ck'_1, RW'_1, SB'_1, CB'_1⟩ := u
  dsimp only at hw hP hD
  have hP : va_P G.1 vwCl ([(z0, aJ G 1 OV), (b0, ob 6 [.ref b1, vI mc, .ref g0, .ref e0, vI rn, .ref f0, .ref w0, .ref u0, vI ll]), (b1, aR G 6 MK), (w0, ob 5 [.ref g0, .ref f0, vI rn, vI 0, vI lk'_1, vI lg'_1, vI mn'_1, .ref w1, .ref w2, .ref w3, vI ca'_1, vI st'_1, vI ck'_1]), (w1, aI G 5 RW'_1), (w2, aI G 5 SB'_1), (w3, aI G 5 CB'_1), (g0, ob 1 [.ref g1, vI nb]), (g1, aJ G 24 dk), (f0, ob 2 [.ref h0, .ref f1, vI nf, vI tm]), (f1, aI G 40 K)] ++ (mkW G L)) H := hP
  have hD : va_D A ([(z0, aJ G 1 OV), (b0, ob 6 [.ref b1, vI mc, .ref g0, .ref e0, vI rn, .ref f0, .ref w0, .ref u0, vI ll]), (b1, aR G 6 MK), (w0, ob 5 [.ref g0, .ref f0, vI rn, vI 0, vI lk'_1, vI lg'_1, vI mn'_1, .ref w1, .ref w2, .ref w3, vI ca'_1, vI st'_1, vI ck'_1]), (w1, aI G 5 RW'_1), (w2, aI G 5 SB'_1), (w3, aI G 5 CB'_1), (g0, ob 1 [.ref g1, vI nb]), (g1, aJ G 24 dk), (f0, ob 2 [.ref h0, .ref f1, vI nf, vI tm]), (f1, aI G 40 K)] ++ (mkW G L)) := hD
  obtain ⟨hrw_, hw_1⟩ := hw
  rw [hrw_]
  clear hrw_
  have hpo := hw_1
  refine lv_i2l (v := zi2l (if sumZ (fun z => sL (gmC L dk) rn nb z x) L.length ≤ 20000 then mxZ (fun z => sG (gmC L dk) rn nb z x) L.length else -1)) hx hb dL_torn_7 rfl ?_
  refine z_last (ws' := ([(z0, aJ G 1 (zup OV 0 (zi2l (if sumZ (fun z => sL (gmC L dk) rn nb z x) L.length ≤ 20000 then mxZ (fun z => sG (gmC L dk) rn nb z x) L.length else -1)))), (b0, ob 6 [.ref b1, vI mc, .ref g0, .ref e0, vI rn, .ref f0, .ref w0, .ref u0, vI ll]), (b1, aR G 6 MK), (w0, ob 5 [.ref g0, .ref f0, vI rn, vI 0, vI lk'_1, vI lg'_1, vI mn'_1, .ref w1, .ref w2, .ref w3, vI ca'_1, vI st'_1, vI ck'_1]), (w1, aI G 5 RW'_1), (w2, aI G 5 SB'_1), (w3, aI G 5 CB'_1), (g0, ob 1 [.ref g1, vI nb]), (g1, aJ G 24 dk), (f0, ob 2 [.ref h0, .ref f1, vI nf, vI tm]), (f1, aI G 40 K)] ++ (mkW G L))) hC hK hP hD hS 0 rfl (by omega) (by decide) rfl dL_torn_8 (fun H locs hP hD hS => ?_)
  refine lv_goto (tgt := 15) hx hb dL_torn_9 (by decide) ?_
  refine lv_iconst (v := iI 0) hx hb dL_torn_15 rfl ?_
  have hP := hP.part (cx := [(b0, ob 6 [.ref b1, vI mc, .ref g0, .ref e0, vI rn, .ref f0, .ref w0, .ref u0, vI ll]), (b1, aR G 6 MK), (w0, ob 5 [.ref g0, .ref f0, vI rn, vI 0, vI lk'_1, vI lg'_1, vI mn'_1, .ref w1, .ref w2, .ref w3, vI ca'_1, vI st'_1, vI ck'_1]), (w1, aI G 5 RW'_1), (w2, aI G 5 SB'_1), (w3, aI G 5 CB'_1), (g0, ob 1 [.ref g1, vI nb]), (g1, aJ G 24 dk), (f0, ob 2 [.ref h0, .ref f1, vI nf, vI tm]), (f1, aI G 40 K), (z0, aJ G 1 (zup OV 0 (zi2l (if sumZ (fun z => sL (gmC L dk) rn nb z x) L.length ≤ 20000 then mxZ (fun z => sG (gmC L dk) rn nb z x) L.length else -1))))]) [1, 2, 3, 4, 5, 6, 7, 8, 9, 10, 0] rfl
  have hD := hD.part (cx := [(b0, ob 6 [.ref b1, vI mc, .ref g0, .ref e0, vI rn, .ref f0, .ref w0, .ref u0, vI ll]), (b1, aR G 6 MK), (w0, ob 5 [.ref g0, .ref f0, vI rn, vI 0, vI lk'_1, vI lg'_1, vI mn'_1, .ref w1, .ref w2, .ref w3, vI ca'_1, vI st'_1, vI ck'_1]), (w1, aI G 5 RW'_1), (w2, aI G 5 SB'_1), (w3, aI G 5 CB'_1), (g0, ob 1 [.ref g1, vI nb]), (g1, aJ G 24 dk), (f0, ob 2 [.ref h0, .ref f1, vI nf, vI tm]), (f1, aI G 40 K), (z0, aJ G 1 (zup OV 0 (zi2l (if sumZ (fun z => sL (gmC L dk) rn nb z x) L.length ≤ 20000 then mxZ (fun z => sG (gmC L dk) rn nb z x) L.length else -1))))]) [1, 2, 3, 4, 5, 6, 7, 8, 9, 10, 0] (by decide) rfl
  have hP : va_P G.1 vwCl ([(b0, ob 6 [.ref b1, vI mc, .ref g0, .ref e0, vI rn, .ref f0, .ref w0, .ref u0, vI ll]), (b1, aR G 6 MK), (w0, ob 5 [.ref g0, .ref f0, vI rn, vI 0, vI lk'_1, vI lg'_1, vI mn'_1, .ref w1, .ref w2, .ref w3, vI ca'_1, vI st'_1, vI ck'_1]), (w1, aI G 5 RW'_1), (w2, aI G 5 SB'_1), (w3, aI G 5 CB'_1), (g0, ob 1 [.ref g1, vI nb]), (g1, aJ G 24 dk), (f0, ob 2 [.ref h0, .ref f1, vI nf, vI tm]), (f1, aI G 40 K), (z0, aJ G 1 (zup OV 0 (zi2l (if sumZ (fun z => sL (gmC L dk) rn nb z x) L.length ≤ 20000 then mxZ (fun z => sG (gmC L dk) rn nb z x) L.length else -1))))] ++ (mkW G L)) H := hP
  have hD : va_D A ([(b0, ob 6 [.ref b1, vI mc, .ref g0, .ref e0, vI rn, .ref f0, .ref w0, .ref u0, vI ll]), (b1, aR G 6 MK), (w0, ob 5 [.ref g0, .ref f0, vI rn, vI 0, vI lk'_1, vI lg'_1, vI mn'_1, .ref w1, .ref w2, .ref w3, vI ca'_1, vI st'_1, vI ck'_1]), (w1, aI G 5 RW'_1), (w2, aI G 5 SB'_1), (w3, aI G 5 CB'_1), (g0, ob 1 [.ref g1, vI nb]), (g1, aJ G 24 dk), (f0, ob 2 [.ref h0, .ref f1, vI nf, vI tm]), (f1, aI G 40 K), (z0, aJ G 1 (zup OV 0 (zi2l (if sumZ (fun z => sL (gmC L dk) rn nb z x) L.length ≤ 20000 then mxZ (fun z => sG (gmC L dk) rn nb z x) L.length else -1))))] ++ (mkW G L)) := hD
  refine vx_ret ?_
  exact z_iretT hC hr hlk ⟨mn'_1, lk'_1, lg'_1, ca'_1, st'_1, ck'_1, RW'_1, SB'_1, CB'_1⟩ hAe hP hD hS (⟨rfl, hpo⟩) dL_torn_16

set_option maxRecDepth 100000 in
set_option maxHeartbeats 4000000 in
theorem c_L_torn_1 (l : Launch) (hst : l.stackTraces = false) (G : zGt) (sz : Nat) (b0 b1 g0 e0 f0 w0 u0 : Nat) (mc rn ll : Int) (g1 : Nat) (nb : Int) (dk : Int → Int64) (x : Int) (z0 : Nat) (OV : Int → Int64) (khnb : 0 ≤ nb ∧ nb ≤ 24) (khx : -2147483648 ≤ x ∧ x < 2147483648) (khno : ¬ (0 ≤ x ∧ x < nb)) : vx_Met l yL_torn (Cond.codeWith yL_torn cL_torn 4 (some .int) [(0, 9, 12, 21)] :: tb) ({ frames := 8, cells := 1, slots := 6, locals := 125 } : Room) (zPx G [(b0, ob 6 [.ref b1, vI mc, .ref g0, .ref e0, vI rn, .ref f0, .ref w0, .ref u0, vI ll]), (g0, ob 1 [.ref g1, vI nb]), (g1, aJ G 24 dk), (z0, aJ G 1 OV)] sz [.ref b0, vI x, .ref z0]) (va_Qi (fun (r : Int32) (u : Unit) => r = iI 1 ∧ True) (fun (u : Unit) t => zB G [(b0, ob 6 [.ref b1, vI mc, .ref g0, .ref e0, vI rn, .ref f0, .ref w0, .ref u0, vI ll]), (g0, ob 1 [.ref g1, vI nb]), (g1, aJ G 24 dk), (z0, aJ G 1 OV)] sz [(b0, ob 6 [.ref b1, vI mc, .ref g0, .ref e0, vI rn, .ref f0, .ref w0, .ref u0, vI ll]), (g0, ob 1 [.ref g1, vI nb]), (g1, aJ G 24 dk), (z0, aJ G 1 OV)] t) (va_A [(b0, ob 6 [.ref b1, vI mc, .ref g0, .ref e0, vI rn, .ref f0, .ref w0, .ref u0, vI ll]), (g0, ob 1 [.ref g1, vI nb]), (g1, aJ G 24 dk), (z0, aJ G 1 OV)] sz)) zNo 1 6 (va_A [(b0, ob 6 [.ref b1, vI mc, .ref g0, .ref e0, vI rn, .ref f0, .ref w0, .ref u0, vI ll]), (g0, ob 1 [.ref g1, vI nb]), (g1, aJ G 24 dk), (z0, aJ G 1 OV)] sz) := by
  refine vx_ofWH (cc := cL_torn) (maxL := 4) (ret := (some .int)) (hh := [(0, 9, 12, 21)]) (by decide) rfl ?_
  intro p e s m args below meth c s₁ B hml hv
  obtain ⟨rfl, hsz, hP, hK, hD0, hTt, hX⟩ := hv
  subst hsz
  have hD := hD0.self (sz := s.heap.size)
  obtain ⟨A, hAe⟩ : ∃ A : Nat → Prop, A = va_A [(b0, ob 6 [.ref b1, vI mc, .ref g0, .ref e0, vI rn, .ref f0, .ref w0, .ref u0, vI ll]), (g0, ob 1 [.ref g1, vI nb]), (g1, aJ G 24 dk), (z0, aJ G 1 OV)] s.heap.size := ⟨_, rfl⟩
  rw [← hAe] at hD hX
  have hA : ∀ q : Nat, s.heap.size ≤ q → A q := fun q h => by rw [hAe]; exact Or.inr h
  have hS : va_S A s.heap s.heap [] := va_S.rf
  have htab := vx_table (x := yL_torn) B (atoms_spec (ws := Cond.codeWith yL_torn cL_torn 4 (some .int) [(0, 9, 12, 21)] :: tb) B.pre _ List.mem_cons_self)
  obtain ⟨hC, hr, hlk⟩ := z_beginH B hml
  have hC : CallFix p m c cL_torn 4 s _ tb RL := hC
  have hx := hC.1
  have hb := hC.2.1
  have hl := lv_entry ([.ref b0, vI x, .ref z0]) (n := 4) (Nat.le_of_ble_eq_true rfl)
  rw [lg_entry_eq]
  generalize (lg_sl ([.ref b0, vI x, .ref z0]) ++ List.replicate (4 - (lg_sl ([.ref b0, vI x, .ref z0])).length) Slot.unset).toArray = ls at hl ⊢
  have hl : lv_has ls 4 [(0, .ref b0), (1, vI x), (2, .ref z0)] := hl
  obtain ⟨H, hHe⟩ : ∃ H : Heap, H = s.heap := ⟨_, rfl⟩
  obtain ⟨locs, hLe⟩ : ∃ L : List Loc, L = [] := ⟨_, rfl⟩
  suffices hgo : W p l e (headSpec (Cond.codeWith yL_torn cL_torn 4 (some .int) [(0, 9, 12, 21)] :: tb) ({ frames := 8, cells := 1, slots := 6, locals := 125 } : Room)).room s m ([.ref b0, vI x, .ref z0] : List Value).toArray below meth c H locs 0 0 (vx_MQ below (va_Qi (fun (r : Int32) (u : Unit) => r = iI 1 ∧ True) (fun (u : Unit) t => zB G [(b0, ob 6 [.ref b1, vI mc, .ref g0, .ref e0, vI rn, .ref f0, .ref w0, .ref u0, vI ll]), (g0, ob 1 [.ref g1, vI nb]), (g1, aJ G 24 dk), (z0, aJ G 1 OV)] s.heap.size [(b0, ob 6 [.ref b1, vI mc, .ref g0, .ref e0, vI rn, .ref f0, .ref w0, .ref u0, vI ll]), (g0, ob 1 [.ref g1, vI nb]), (g1, aJ G 24 dk), (z0, aJ G 1 OV)] t) (va_A [(b0, ob 6 [.ref b1, vI mc, .ref g0, .ref e0, vI rn, .ref f0, .ref w0, .ref u0, vI ll]), (g0, ob 1 [.ref g1, vI nb]), (g1, aJ G 24 dk), (z0, aJ G 1 OV)] s.heap.size)) zNo ([.ref b0, vI x, .ref z0] : List Value).toArray s 1 6 (va_A [(b0, ob 6 [.ref b1, vI mc, .ref g0, .ref e0, vI rn, .ref f0, .ref w0, .ref u0, vI ll]), (g0, ob 1 [.ref g1, vI nb]), (g1, aJ G 24 dk), (z0, aJ G 1 OV)] s.heap.size)) (F0 m 0 ls []) by rw [hHe, hLe] at hgo; exact hgo
  rw [← hHe] at hP
  have hS : va_S A s.heap H locs := by rw [hHe, hLe]; exact hS
  clear hHe hLe
  refine lv_aload_n hx hb dL_torn_0 rfl (lv_at hl 2 rfl) ?_
  refine lv_iconst (v := iI 0) hx hb dL_torn_1 rfl ?_
  refine lv_aload_n hx hb dL_torn_2 rfl (lv_at hl 0 rfl) ?_
  refine lv_iload_n hx hb dL_torn_3 rfl (lv_at hl 1 rfl) ?_
  refine z_xC (q0 := 0) (ci := 6) (b := b0) (rest := [vI 0, .ref z0]) (wr := [(z0, aJ G 1 OV)]) (pre := []) (x := ⟨0, 9, 12, 21⟩) (suf := []) (name := XI) hC hK hTt hX (htab.trans rfl) hP hD hS hA (c_X6_torn_1 l hst G H.size b0 b1 g0 e0 f0 w0 u0 mc rn ll g1 nb dk x (khnb) (khx) (khno)) mv_X6_torn tw_770 [0, 1, 2] [3] rfl rfl rfl rfl (by decide) rfl rfl rfl rfl hl.1 rfl (Nat.le_of_ble_eq_true rfl) ⟨rfl, rfl, (Nat.le_of_ble_eq_true rfl), (Nat.le_of_ble_eq_true rfl)⟩ ⟨(Nat.le_of_ble_eq_true rfl), (Nat.le_of_ble_eq_true rfl)⟩ (fun z hz => absurd hz List.not_mem_nil) (by decide) (by decide) tw_586 (va_Nw.use rfl hTt.2.1.2.2) dL_torn_4 (fun q9 H locs hP hD hS => ?_)
  have hP : va_P G.1 vwCl [(z0, aJ G 1 OV), (b0, ob 6 [.ref b1, vI mc, .ref g0, .ref e0, vI rn, .ref f0, .ref w0, .ref u0, vI ll]), (g0, ob 1 [.ref g1, vI nb]), (g1, aJ G 24 dk)] H := hP
  have hD : va_D A [(z0, aJ G 1 OV), (b0, ob 6 [.ref b1, vI mc, .ref g0, .ref e0, vI rn, .ref f0, .ref w0, .ref u0, vI ll]), (g0, ob 1 [.ref g1, vI nb]), (g1, aJ G 24 dk)] := hD
  refine lv_astore_n (lv' := [(3, .ref q9), (0, .ref b0), (1, vI x), (2, .ref z0)]) hx hb dL_torn_12 rfl hl (by decide) rfl (fun ls hl => ?_)
  refine lv_iconst (v := iI 1) hx hb dL_torn_13 rfl ?_
  refine vx_ret ?_
  exact z_iretW hC hr hlk () hAe hP hD hS [1, 2, 3, 0] (by decide) rfl rfl (⟨rfl, trivial⟩) dL_torn_14

set_option maxRecDepth 100000 in
set_option maxHeartbeats 4000000 in
theorem c_L_check_0 (l : Launch) (hst : l.stackTraces = false) (G : zGt) (sz : Nat) (b0 b1 g0 e0 f0 w0 u0 : Nat) (mc rn ll : Int) (MK : Int → Option Nat) (m0 m1 : Nat) (a1 a2 kd gl ed : Int) (T : Int → Int) (e1 : Nat) (nh : Int) (hd : Int → Int) (x : Int) (z0 : Nat) (OV : Int → Int64) (khx0 : 0 ≤ x ∧ x < 6) (khmk : MK x = some m0) (khnh : 0 ≤ nh ∧ nh ≤ 36) (khkd : 0 ≤ kd ∧ kd < 3) : vx_Met l yL_check (Cond.codeWith yL_check cL_check 4 (some .int) [(0, 9, 12, 21)] :: tb) ({ frames := 4, cells := 0, slots := 0, locals := 88 } : Room) (zPx G [(b0, ob 6 [.ref b1, vI mc, .ref g0, .ref e0, vI rn, .ref f0, .ref w0, .ref u0, vI ll]), (b1, aR G 6 MK), (m0, ob 4 [vI a1, vI a2, vI kd, vI gl, vI ed, .ref m1]), (m1, aI G 4096 T), (e0, ob 3 [.ref e1, vI nh]), (e1, aI G 36 hd), (z0, aJ G 1 OV)] sz [.ref b0, vI x, .ref z0]) (va_Qi (fun (r : Int32) (u : Unit) => r = iI 0 ∧ True) (fun (u : Unit) t => zB G [(b0, ob 6 [.ref b1, vI mc, .ref g0, .ref e0, vI rn, .ref f0, .ref w0, .ref u0, vI ll]), (b1, aR G 6 MK), (m0, ob 4 [vI a1, vI a2, vI kd, vI gl, vI ed, .ref m1]), (m1, aI G 4096 T), (e0, ob 3 [.ref e1, vI nh]), (e1, aI G 36 hd), (z0, aJ G 1 OV)] sz [(b0, ob 6 [.ref b1, vI mc, .ref g0, .ref e0, vI rn, .ref f0, .ref w0, .ref u0, vI ll]), (b1, aR G 6 MK), (m0, ob 4 [vI a1, vI a2, vI kd, vI gl, vI ed, .ref m1]), (m1, aI G 4096 T), (e0, ob 3 [.ref e1, vI nh]), (e1, aI G 36 hd), (z0, aJ G 1 (zup OV 0 (zi2l (ckF kd (txA a1 a2 nh hd) (3 + nh).toNat))))] t) (va_A [(b0, ob 6 [.ref b1, vI mc, .ref g0, .ref e0, vI rn, .ref f0, .ref w0, .ref u0, vI ll]), (b1, aR G 6 MK), (m0, ob 4 [vI a1, vI a2, vI kd, vI gl, vI ed, .ref m1]), (m1, aI G 4096 T), (e0, ob 3 [.ref e1, vI nh]), (e1, aI G 36 hd), (z0, aJ G 1 OV)] sz)) zNo 0 0 (va_A [(b0, ob 6 [.ref b1, vI mc, .ref g0, .ref e0, vI rn, .ref f0, .ref w0, .ref u0, vI ll]), (b1, aR G 6 MK), (m0, ob 4 [vI a1, vI a2, vI kd, vI gl, vI ed, .ref m1]), (m1, aI G 4096 T), (e0, ob 3 [.ref e1, vI nh]), (e1, aI G 36 hd), (z0, aJ G 1 OV)] sz) := by
  refine vx_ofWH (cc := cL_check) (maxL := 4) (ret := (some .int)) (hh := [(0, 9, 12, 21)]) (by decide) rfl ?_
  intro p e s m args below meth c s₁ B hml hv
  obtain ⟨rfl, hsz, hP, hK, hD0, hTt, hX⟩ := hv
  subst hsz
  have hD := hD0.self (sz := s.heap.size)
  obtain ⟨A, hAe⟩ : ∃ A : Nat → Prop, A = va_A [(b0, ob 6 [.ref b1, vI mc, .ref g0, .ref e0, vI rn, .ref f0, .ref w0, .ref u0, vI ll]), (b1, aR G 6 MK), (m0, ob 4 [vI a1, vI a2, vI kd, vI gl, vI ed, .ref m1]), (m1, aI G 4096 T), (e0, ob 3 [.ref e1, vI nh]), (e1, aI G 36 hd), (z0, aJ G 1 OV)] s.heap.size := ⟨_, rfl⟩
  rw [← hAe] at hD hX
  have hA : ∀ q : Nat, s.heap.size ≤ q → A q := fun q h => by rw [hAe]; exact Or.inr h
  have hS : va_S A s.heap s.heap [] := va_S.rf
  have htab := vx_table (x := yL_check) B (atoms_spec (ws := Cond.codeWith yL_check cL_check 4 (some .int) [(0, 9, 12, 21)] :: tb) B.pre _ List.mem_cons_self)
  obtain ⟨hC, hr, hlk⟩ := z_beginH B hml
  have hC : CallFix p m c cL_check 4 s _ tb RL := hC
  have hx := hC.1
  have hb := hC.2.1
  have hl := lv_entry ([.ref b0, vI x, .ref z0]) (n := 4) (Nat.le_of_ble_eq_true rfl)
  rw [lg_entry_eq]
  generalize (lg_sl ([.ref b0, vI x, .ref z0]) ++ List.replicate (4 - (lg_sl ([.ref b0, vI x, .ref z0])).length) Slot.unset).toArray = ls at hl ⊢
  have hl : lv_has ls 4 [(0, .ref b0), (1, vI x), (2, .ref z0)] := hl
  obtain ⟨H, hHe⟩ : ∃ H : Heap, H = s.heap := ⟨_, rfl⟩
  obtain ⟨locs, hLe⟩ : ∃ L : List Loc, L = [] := ⟨_, rfl⟩
  suffices hgo : W p l e (headSpec (Cond.codeWith yL_check cL_check 4 (some .int) [(0, 9, 12, 21)] :: tb) ({ frames := 4, cells := 0, slots := 0, locals := 88 } : Room)).room s m ([.ref b0, vI x, .ref z0] : List Value).toArray below meth c H locs 0 0 (vx_MQ below (va_Qi (fun (r : Int32) (u : Unit) => r = iI 0 ∧ True) (fun (u : Unit) t => zB G [(b0, ob 6 [.ref b1, vI mc, .ref g0, .ref e0, vI rn, .ref f0, .ref w0, .ref u0, vI ll]), (b1, aR G 6 MK), (m0, ob 4 [vI a1, vI a2, vI kd, vI gl, vI ed, .ref m1]), (m1, aI G 4096 T), (e0, ob 3 [.ref e1, vI nh]), (e1, aI G 36 hd), (z0, aJ G 1 OV)] s.heap.size [(b0, ob 6 [.ref b1, vI mc, .ref g0, .ref e0, vI rn, .ref f0, .ref w0, .ref u0, vI ll]), (b1, aR G 6 MK), (m0, ob 4 [vI a1, vI a2, vI kd, vI gl, vI ed, .ref m1]), (m1, aI G 4096 T), (e0, ob 3 [.ref e1, vI nh]), (e1, aI G 36 hd), (z0, aJ G 1 (zup OV 0 (zi2l (ckF kd (txA a1 a2 nh hd) (3 + nh).toNat))))] t) (va_A [(b0, ob 6 [.ref b1, vI mc, .ref g0, .ref e0, vI rn, .ref f0, .ref w0, .ref u0, vI ll]), (b1, aR G 6 MK), (m0, ob 4 [vI a1, vI a2, vI kd, vI gl, vI ed, .ref m1]), (m1, aI G 4096 T), (e0, ob 3 [.ref e1, vI nh]), (e1, aI G 36 hd), (z0, aJ G 1 OV)] s.heap.size)) zNo ([.ref b0, vI x, .ref z0] : List Value).toArray s 0 0 (va_A [(b0, ob 6 [.ref b1, vI mc, .ref g0, .ref e0, vI rn, .ref f0, .ref w0, .ref u0, vI ll]), (b1, aR G 6 MK), (m0, ob 4 [vI a1, vI a2, vI kd, vI gl, vI ed, .ref m1]), (m1, aI G 4096 T), (e0, ob 3 [.ref e1, vI nh]), (e1, aI G 36 hd), (z0, aJ G 1 OV)] s.heap.size)) (F0 m 0 ls []) by rw [hHe, hLe] at hgo; exact hgo
  rw [← hHe] at hP
  have hS : va_S A s.heap H locs := by rw [hHe, hLe]; exact hS
  clear hHe hLe
  refine lv_aload_n hx hb dL_check_0 rfl (lv_at hl 2 rfl) ?_
  refine lv_iconst (v := iI 0) hx hb dL_check_1 rfl ?_
  refine lv_aload_n hx hb dL_check_2 rfl (lv_at hl 0 rfl) ?_
  refine lv_iload_n hx hb dL_check_3 rfl (lv_at hl 1 rfl) ?_
  refine z_rVi (q0 := 0) (ci := 6) (b := b0) (rest := [vI 0, .ref z0]) hC hK hP (c_X6_check_0 l G b0 b1 g0 e0 f0 w0 u0 mc rn ll MK m0 m1 a1 a2 kd gl ed T e1 nh hd x (khx0) (khmk) (khnh) (khkd)) mv_X6_check tw_781 [0, 1, 2, 3, 4, 5] rfl rfl rfl rfl hl.1 rfl (Nat.le_of_ble_eq_true rfl) ⟨rfl, rfl, Nat.le_of_ble_eq_true rfl, Nat.le_of_ble_eq_true rfl⟩ ⟨Nat.le_of_ble_eq_true rfl, Nat.le_of_ble_eq_true rfl⟩ dL_check_4 ?_
  refine lv_i2l (v := zi2l (ckF kd (txA a1 a2 nh hd) (3 + nh).toNat)) hx hb dL_check_7 rfl ?_
  refine z_last (ws' := [(b0, ob 6 [.ref b1, vI mc, .ref g0, .ref e0, vI rn, .ref f0, .ref w0, .ref u0, vI ll]), (b1, aR G 6 MK), (m0, ob 4 [vI a1, vI a2, vI kd, vI gl, vI ed, .ref m1]), (m1, aI G 4096 T), (e0, ob 3 [.ref e1, vI nh]), (e1, aI G 36 hd), (z0, aJ G 1 (zup OV 0 (zi2l (ckF kd (txA a1 a2 nh hd) (3 + nh).toNat))))]) hC hK hP hD hS 6 rfl (by omega) (by decide) rfl dL_check_8 (fun H locs hP hD hS => ?_)
  refine lv_goto (tgt := 15) hx hb dL_check_9 (by decide) ?_
  refine lv_iconst (v := iI 0) hx hb dL_check_15 rfl ?_
  refine vx_ret ?_
  exact z_iretW hC hr hlk () hAe hP hD hS [0, 1, 2, 3, 4, 5, 6] (by decide) rfl rfl (⟨rfl, trivial⟩) dL_check_16

set_option maxRecDepth 100000 in
set_option maxHeartbeats 4000000 in
theorem c_L_check_1 (l : Launch) (hst : l.stackTraces = false) (G : zGt) (sz : Nat) (b0 b1 g0 e0 f0 w0 u0 : Nat) (mc rn ll : Int) (MK : Int → Option Nat) (e1 : Nat) (nh : Int) (hd : Int → Int) (x : Int) (z0 : Nat) (OV : Int → Int64) (khx : -2147483648 ≤ x ∧ x < 2147483648) (khmk0 : 0 ≤ x ∧ x < 6 → MK x = none) : vx_Met l yL_check (Cond.codeWith yL_check cL_check 4 (some .int) [(0, 9, 12, 21)] :: tb) ({ frames := 8, cells := 1, slots := 6, locals := 125 } : Room) (zPx G [(b0, ob 6 [.ref b1, vI mc, .ref g0, .ref e0, vI rn, .ref f0, .ref w0, .ref u0, vI ll]), (b1, aR G 6 MK), (e0, ob 3 [.ref e1, vI nh]), (e1, aI G 36 hd), (z0, aJ G 1 OV)] sz [.ref b0, vI x, .ref z0]) (va_Qi (fun (r : Int32) (u : Unit) => r = iI 1 ∧ True) (fun (u : Unit) t => zB G [(b0, ob 6 [.ref b1, vI mc, .ref g0, .ref e0, vI rn, .ref f0, .ref w0, .ref u0, vI ll]), (b1, aR G 6 MK), (e0, ob 3 [.ref e1, vI nh]), (e1, aI G 36 hd), (z0, aJ G 1 OV)] sz [(b0, ob 6 [.ref b1, vI mc, .ref g0, .ref e0, vI rn, .ref f0, .ref w0, .ref u0, vI ll]), (b1, aR G 6 MK), (e0, ob 3 [.ref e1, vI nh]), (e1, aI G 36 hd), (z0, aJ G 1 OV)] t) (va_A [(b0, ob 6 [.ref b1, vI mc, .ref g0, .ref e0, vI rn, .ref f0, .ref w0, .ref u0, vI ll]), (b1, aR G 6 MK), (e0, ob 3 [.ref e1, vI nh]), (e1, aI G 36 hd), (z0, aJ G 1 OV)] sz)) zNo 1 6 (va_A [(b0, ob 6 [.ref b1, vI mc, .ref g0, .ref e0, vI rn, .ref f0, .ref w0, .ref u0, vI ll]), (b1, aR G 6 MK), (e0, ob 3 [.ref e1, vI nh]), (e1, aI G 36 hd), (z0, aJ G 1 OV)] sz) := by
  refine vx_ofWH (cc := cL_check) (maxL := 4) (ret := (some .int)) (hh := [(0, 9, 12, 21)]) (by decide) rfl ?_
  intro p e s m args below meth c s₁ B hml hv
  obtain ⟨rfl, hsz, hP, hK, hD0, hTt, hX⟩ := hv
  subst hsz
  have hD := hD0.self (sz := s.heap.size)
  obtain ⟨A, hAe⟩ : ∃ A : Nat → Prop, A = va_A [(b0, ob 6 [.ref b1, vI mc, .ref g0, .ref e0, vI rn, .ref f0, .ref w0, .ref u0, vI ll]), (b1, aR G 6 MK), (e0, ob 3 [.ref e1, vI nh]), (e1, aI G 36 hd), (z0, aJ G 1 OV)] s.heap.size := ⟨_, rfl⟩
  rw [← hAe] at hD hX
  have hA : ∀ q : Nat, s.heap.size ≤ q → A q := fun q h => by rw [hAe]; exact Or.inr h
  have hS : va_S A s.heap s.heap [] := va_S.rf
  have htab := vx_table (x := yL_check) B (atoms_spec (ws := Cond.codeWith yL_check cL_check 4 (some .int) [(0, 9, 12, 21)] :: tb) B.pre _ List.mem_cons_self)
  obtain ⟨hC, hr, hlk⟩ := z_beginH B hml
  have hC : CallFix p m c cL_check 4 s _ tb RL := hC
  have hx := hC.1
  have hb := hC.2.1
  have hl := lv_entry ([.ref b0, vI x, .ref z0]) (n := 4) (Nat.le_of_ble_eq_true rfl)
  rw [lg_entry_eq]
  generalize (lg_sl ([.ref b0, vI x, .ref z0]) ++ List.replicate (4 - (lg_sl ([.ref b0, vI x, .ref z0])).length) Slot.unset).toArray = ls at hl ⊢
  have hl : lv_has ls 4 [(0, .ref b0), (1, vI x), (2, .ref z0)] := hl
  obtain ⟨H, hHe⟩ : ∃ H : Heap, H = s.heap := ⟨_, rfl⟩
  obtain ⟨locs, hLe⟩ : ∃ L : List Loc, L = [] := ⟨_, rfl⟩
  suffices hgo : W p l e (headSpec (Cond.codeWith yL_check cL_check 4 (some .int) [(0, 9, 12, 21)] :: tb) ({ frames := 8, cells := 1, slots := 6, locals := 125 } : Room)).room s m ([.ref b0, vI x, .ref z0] : List Value).toArray below meth c H locs 0 0 (vx_MQ below (va_Qi (fun (r : Int32) (u : Unit) => r = iI 1 ∧ True) (fun (u : Unit) t => zB G [(b0, ob 6 [.ref b1, vI mc, .ref g0, .ref e0, vI rn, .ref f0, .ref w0, .ref u0, vI ll]), (b1, aR G 6 MK), (e0, ob 3 [.ref e1, vI nh]), (e1, aI G 36 hd), (z0, aJ G 1 OV)] s.heap.size [(b0, ob 6 [.ref b1, vI mc, .ref g0, .ref e0, vI rn, .ref f0, .ref w0, .ref u0, vI ll]), (b1, aR G 6 MK), (e0, ob 3 [.ref e1, vI nh]), (e1, aI G 36 hd), (z0, aJ G 1 OV)] t) (va_A [(b0, ob 6 [.ref b1, vI mc, .ref g0, .ref e0, vI rn, .ref f0, .ref w0, .ref u0, vI ll]), (b1, aR G 6 MK), (e0, ob 3 [.ref e1, vI nh]), (e1, aI G 36 hd), (z0, aJ G 1 OV)] s.heap.size)) zNo ([.ref b0, vI x, .ref z0] : List Value).toArray s 1 6 (va_A [(b0, ob 6 [.ref b1, vI mc, .ref g0, .ref e0, vI rn, .ref f0, .ref w0, .ref u0, vI ll]), (b1, aR G 6 MK), (e0, ob 3 [.ref e1, vI nh]), (e1, aI G 36 hd), (z0, aJ G 1 OV)] s.heap.size)) (F0 m 0 ls []) by rw [hHe, hLe] at hgo; exact hgo
  rw [← hHe] at hP
  have hS : va_S A s.heap H locs := by rw [hHe, hLe]; exact hS
  clear hHe hLe
  refine lv_aload_n hx hb dL_check_0 rfl (lv_at hl 2 rfl) ?_
  refine lv_iconst (v := iI 0) hx hb dL_check_1 rfl ?_
  refine lv_aload_n hx hb dL_check_2 rfl (lv_at hl 0 rfl) ?_
  refine lv_iload_n hx hb dL_check_3 rfl (lv_at hl 1 rfl) ?_
  refine z_xC (q0 := 0) (ci := 6) (b := b0) (rest := [vI 0, .ref z0]) (wr := [(z0, aJ G 1 OV)]) (pre := []) (x := ⟨0, 9, 12, 21⟩) (suf := []) (name := XI) hC hK hTt hX (htab.trans rfl) hP hD hS hA (c_X6_check_1 l hst G H.size b0 b1 g0 e0 f0 w0 u0 mc rn ll MK e1 nh hd x (khx) (khmk0)) mv_X6_check tw_781 [0, 1, 2, 3] [4] rfl rfl rfl rfl (by decide) rfl rfl rfl rfl hl.1 rfl (Nat.le_of_ble_eq_true rfl) ⟨rfl, rfl, (Nat.le_of_ble_eq_true rfl), (Nat.le_of_ble_eq_true rfl)⟩ ⟨(Nat.le_of_ble_eq_true rfl), (Nat.le_of_ble_eq_true rfl)⟩ (fun z hz => absurd hz List.not_mem_nil) (by decide) (by decide) tw_586 (va_Nw.use rfl hTt.2.1.2.2) dL_check_4 (fun q9 H locs hP hD hS => ?_)
  have hP : va_P G.1 vwCl [(z0, aJ G 1 OV), (b0, ob 6 [.ref b1, vI mc, .ref g0, .ref e0, vI rn, .ref f0, .ref w0, .ref u0, vI ll]), (b1, aR G 6 MK), (e0, ob 3 [.ref e1, vI nh]), (e1, aI G 36 hd)] H := hP
  have hD : va_D A [(z0, aJ G 1 OV), (b0, ob 6 [.ref b1, vI mc, .ref g0, .ref e0, vI rn, .ref f0, .ref w0, .ref u0, vI ll]), (b1, aR G 6 MK), (e0, ob 3 [.ref e1, vI nh]), (e1, aI G 36 hd)] := hD
  refine lv_astore_n (lv' := [(3, .ref q9), (0, .ref b0), (1, vI x), (2, .ref z0)]) hx hb dL_check_12 rfl hl (by decide) rfl (fun ls hl => ?_)
  refine lv_iconst (v := iI 1) hx hb dL_check_13 rfl ?_
  refine vx_ret ?_
  exact z_iretW hC hr hlk () hAe hP hD hS [1, 2, 3, 4, 0] (by decide) rfl rfl (⟨rfl, trivial⟩) dL_check_14
