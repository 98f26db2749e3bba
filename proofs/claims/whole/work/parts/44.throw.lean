/-! what a throw asks of the tables -/
abbrev XA : String := "java/lang/IllegalArgumentException"
abbrev XS : String := "java/lang/IllegalStateException"
abbrev XI : String := "java/lang/IndexOutOfBoundsException"
abbrev nm2 : List String := ["java/lang/RuntimeException", "java/lang/Exception"]
theorem atA : ((vx_atS RX6 72 XA nm2).filter goodWord).all (fun w => decide (w ∈ lw_tbl)) = true := by decide +kernel
theorem atS : ((vx_atS RX6 81 XS nm2).filter goodWord).all (fun w => decide (w ∈ lw_tbl)) = true := by decide +kernel
theorem atI : ((vx_atS RX6 237 XI nm2).filter goodWord).all (fun w => decide (w ∈ lw_tbl)) = true := by decide +kernel
theorem noA : ((vx_atS RX6 72 XA nm2).filter (fun w => !goodWord w)) = [.declares (Bundle.initS "java/lang/RuntimeException"), .declares (Bundle.initS "java/lang/Exception"), .declares (Bundle.initS Bundle.tN), .castable XA XA] := by decide +kernel
theorem noS : ((vx_atS RX6 81 XS nm2).filter (fun w => !goodWord w)) = [.declares (Bundle.initS "java/lang/RuntimeException"), .declares (Bundle.initS "java/lang/Exception"), .declares (Bundle.initS Bundle.tN), .castable XS XS] := by decide +kernel
theorem noI : ((vx_atS RX6 237 XI nm2).filter (fun w => !goodWord w)) = [.declares (Bundle.initS "java/lang/RuntimeException"), .declares (Bundle.initS "java/lang/Exception"), .declares (Bundle.initS Bundle.tN), .castable XI XI] := by decide +kernel
theorem otA : (Cond.classLink RX6 68 XA :: Cond.initialized XA :: vx_atS RX6 72 XA nm2).all vx_ot = true := by decide +kernel
theorem otS : (Cond.classLink RX6 77 XS :: Cond.initialized XS :: vx_atS RX6 81 XS nm2).all vx_ot = true := by decide +kernel
theorem otI : (Cond.classLink RX6 233 XI :: Cond.initialized XI :: vx_atS RX6 237 XI nm2).all vx_ot = true := by decide +kernel
theorem at_in {L : List Cond} (h : (L.filter goodWord).all (fun w => decide (w ∈ lw_tbl)) = true) : ∀ w ∈ L.filter goodWord, w ∈ tb := fun w hw => List.mem_filter.mpr ⟨of_decide_eq_true (List.all_eq_true.mp h w hw), (List.mem_filter.mp hw).2⟩
abbrev xStr : List (Nat × String) := [(70, "a head byte is not 0 to 255"), (75, "no such check"), (79, "there are 6 makes"), (235, "no such make"), (92, "a state is not 0 to 15"), (94, "bytes are not 0 to 255, or low is above high"), (100, "there are 40 edges"), (107, "goals are not 0 to 65,535"), (238, "no such block"), (128, "reach is not 1 to 23"), (130, "not a byte from 0 to 255"), (240, "no such file"), (183, "what is below 0")]
def zT (U : State) : Prop := (va_Nw (.declares (Bundle.initS "java/lang/RuntimeException")) U ∧ va_Nw (.declares (Bundle.initS "java/lang/Exception")) U ∧ va_Nw (.declares (Bundle.initS Bundle.tN)) U) ∧ (va_Nw (.castable XA XA) U ∧ va_Nw (.castable XS XS) U ∧ va_Nw (.castable XI XI) U) ∧ (va_Nc XS XA U ∧ va_Nc XA XI U ∧ va_Nc XS XI U) ∧ ∀ q ∈ xStr, ∃ sa : Nat, vk_R RX6 q.1 q.2 sa U
theorem zT.warm {s U : State} (hW : s.WarmedH U.vm) (h : zT s) : zT U := ⟨⟨va_Nw.warmD hW h.1.1, va_Nw.warmD hW h.1.2.1, va_Nw.warmD hW h.1.2.2⟩, ⟨va_Nw.warmC hW h.2.1.1, va_Nw.warmC hW h.2.1.2.1, va_Nw.warmC hW h.2.1.2.2⟩, ⟨va_Nc.moved hW.alike h.2.2.1.1, va_Nc.moved hW.alike h.2.2.1.2.1, va_Nc.moved hW.alike h.2.2.1.2.2⟩, fun q hq => by obtain ⟨sa, h9⟩ := h.2.2.2 q hq; exact ⟨sa, vk_R.warm hW h9⟩⟩
theorem zT.same {s U : State} (hv : s.vm = U.vm) (h : zT s) : zT U := by
  have ha : s.vm.Alike U.vm := by rw [hv]; exact Vm.Alike.refl _
  exact ⟨⟨va_Nw.same rfl hv h.1.1, va_Nw.same rfl hv h.1.2.1, va_Nw.same rfl hv h.1.2.2⟩, ⟨va_Nw.same rfl hv h.2.1.1, va_Nw.same rfl hv h.2.1.2.1, va_Nw.same rfl hv h.2.1.2.2⟩, ⟨va_Nc.moved ha h.2.2.1.1, va_Nc.moved ha h.2.2.1.2.1, va_Nc.moved ha h.2.2.1.2.2⟩, fun q hq => by obtain ⟨sa, h9⟩ := h.2.2.2 q hq; exact ⟨sa, vk_R.same hv.symm h9⟩⟩
def zX (A : Nat → Prop) (U : State) (H : Heap) : Prop := vx_Zq Bundle.tN "UNASSIGNED_STACK" Bundle.steD A U H ∧ vx_Zq Bundle.tN "SUPPRESSED_SENTINEL" Bundle.listD A U H
theorem zX.moved {A : Nat → Prop} {u U : State} {H : Heap} (hvm : u.vm.Alike U.vm) (h : zX A u H) : zX A U H := ⟨vx_Zq.moved hvm h.1, vx_Zq.moved hvm h.2⟩
theorem zX.kept {A : Nat → Prop} {U : State} {H H1 : Heap} (h : zX A U H) (hq : ∀ a : Nat, a < H.size → ¬ A a → H1[a]? = H[a]?) : zX A U H1 := ⟨vx_Zq.kept h.1 hq, vx_Zq.kept h.2 hq⟩
theorem zX.narrow {A B : Nat → Prop} {U : State} {H : Heap} (h : zX A U H) (hAB : ∀ q, B q → A q) : zX B U H := ⟨vx_Zq.narrow h.1 hAB, vx_Zq.narrow h.2 hAB⟩
/-- the start of a method that may throw -/
abbrev zPx (G : zGt) (ws : va_W) (sz : Nat) (av : List Value) : Array Value → State → Prop := va_Pc av (fun U => U.heap.size = sz ∧ va_P G.1 vwCl ws U.heap ∧ zK G U ∧ va_D (fun _ => True) ws ∧ zT U ∧ zX (va_A ws sz) U U.heap)
theorem zPx.blind {G : zGt} {ws : va_W} {sz : Nat} {av : List Value} : FrameBlind (zPx G ws sz av) := fun a U g mk q => ⟨q.1, q.2.1, q.2.2.1, q.2.2.2.1.same rfl, q.2.2.2.2.1, q.2.2.2.2.2.1.same rfl, q.2.2.2.2.2.2.moved (Vm.Alike.refl _)⟩
abbrev zFl : Array Value → State → Outcome → State → Prop := fun _ _ _ _ => False
abbrev zXQ (G : zGt) (w : va_W) (sz : Nat) (E0 : String) : String → State → State → Prop := vx_X (fun _ : Unit => True) (fun E _ t => E = E0 ∧ zB G w sz w t) (va_A w sz)
section ZTh
variable {p : Program} {l : Launch} {e : Env} {R : Room} {s : State} {m : MethodId} {args : Array Value} {below : List Frame} {meth : Method} {c : Code} {H : Heap} {locs : List Loc} {cells slots : Nat} {Q : State → Prop}
variable {cc : ByteArray} {pc nL : Nat} {ls : Array Slot} {rest st0 : List Value} {G : zGt} {A : Nat → Prop} {ws : va_W} {own : String} {a : Nat}
theorem z_outX {t : State} {E0 : String} {sz : Nat} {w0 : va_W} (hA : A = va_A w0 sz) (hP : va_P G.1 vwCl ws H) (hD : va_D A ws) (hS : va_S A s.heap H locs) (h1 : H.size ≤ t.heap.size) (h2 : ∀ q : Nat, q < H.size → t.heap[q]? = H[q]?) : vx_X (fun _ : Unit => True) (fun E _ t => E = E0 ∧ zB G w0 sz ws t) (va_A w0 sz) E0 s t := by
  subst hA
  exact ⟨(), trivial, ⟨rfl, fun k q hk => (hP k q hk).kept (h2 q.1 (hP k q hk).lt), hD⟩, Nat.le_trans hS.1 h1, fun q hq hn => (h2 q (Nat.lt_of_lt_of_le hq hS.1)).trans (hS.2.1 q hq hn)⟩
theorem z_thrA (hst : l.stackTraces = false) (hC : CallFix p m c cc nL s args tb RX6) (hnx : ∀ x ∈ c.exceptionTable.toList, False) (hTt : zT s) (hX : zX A s s.heap) (hP : va_P G.1 vwCl ws H) (hD : va_D A ws) (hS : va_S A s.heap H locs) (hsz : ls.size = nL) (hlocks : meth.locks = false) {is mc ms sz : Nat} {text : String} {w0 : va_W} (hm : (is, text) ∈ xStr)
    (d0 : decode cc pc = .ok (.new 68, 3)) (d3 : decode cc (pc + 3) = .ok (.dup, 1)) (d4 : decode cc (pc + 4) = .ok (.ldc is, 2)) (d6 : decode cc (pc + 6) = .ok (.invokespecial 72, 3)) (d9 : decode cc (pc + 9) = .ok (.athrow, 1)) (hA : A = va_A w0 sz)
    (hRf : 5 < R.frames) (hRl : (rest.map fun v => v.category).sum + 82 ≤ R.locals) (hRc : cells + 1 ≤ R.cells) (hRs : slots + 6 ≤ R.slots) (hc1 : cells + 1 ≤ mc) (hc2 : slots + 6 ≤ ms) :
    W p l e R s m args below meth c H locs cells slots (vx_MQ below zFl (vx_X (fun _ : Unit => True) (fun E _ t => E = XA ∧ zB G w0 sz ws t) (va_A w0 sz)) args s mc ms (va_A w0 sz)) (F0 m pc ls rest) := by
  obtain ⟨sa, hstr⟩ := hTt.2.2.2 _ hm
  exact vx_throwS (names := nm2) (cls := XA) hC.1 hC.2.1 hst hC.2.2.2.1 (by decide +kernel) (by decide +kernel) (hC.2.2.2.2 _ tw_474) (hC.2.2.2.2 _ tw_45) hstr
    (vx_hat (fun w hw => hC.2.2.2.2 _ (at_in atA w hw)) (fun w hw => by rw [noA] at hw; exact hw) (vx_c (va_Nw.use rfl hTt.1.1) (vx_c (va_Nw.use rfl hTt.1.2.1) (vx_c (va_Nw.use rfl hTt.1.2.2) (vx_c (va_Nw.use rfl hTt.2.1.1) vx_n)))))
    (fun w hw => List.all_eq_true.mp otA w hw) hX.1 hX.2 hS (hsz.trans hC.2.2.1.symm) d0 d3 d4 d6 d9 (fun x hx => (hnx x hx).elim) hRf hRl hRc hRs hlocks (fun t hv h1 h2 => z_outX hA hP hD hS h1 h2) (fun z hz => hA ▸ hS.2.2 z hz) hc1 hc2
theorem z_thrS (hst : l.stackTraces = false) (hC : CallFix p m c cc nL s args tb RX6) (hnx : ∀ x ∈ c.exceptionTable.toList, False) (hTt : zT s) (hX : zX A s s.heap) (hP : va_P G.1 vwCl ws H) (hD : va_D A ws) (hS : va_S A s.heap H locs) (hsz : ls.size = nL) (hlocks : meth.locks = false) {is mc ms sz : Nat} {text : String} {w0 : va_W} (hm : (is, text) ∈ xStr)
    (d0 : decode cc pc = .ok (.new 77, 3)) (d3 : decode cc (pc + 3) = .ok (.dup, 1)) (d4 : decode cc (pc + 4) = .ok (.ldc is, 2)) (d6 : decode cc (pc + 6) = .ok (.invokespecial 81, 3)) (d9 : decode cc (pc + 9) = .ok (.athrow, 1)) (hA : A = va_A w0 sz)
    (hRf : 5 < R.frames) (hRl : (rest.map fun v => v.category).sum + 82 ≤ R.locals) (hRc : cells + 1 ≤ R.cells) (hRs : slots + 6 ≤ R.slots) (hc1 : cells + 1 ≤ mc) (hc2 : slots + 6 ≤ ms) :
    W p l e R s m args below meth c H locs cells slots (vx_MQ below zFl (vx_X (fun _ : Unit => True) (fun E _ t => E = XS ∧ zB G w0 sz ws t) (va_A w0 sz)) args s mc ms (va_A w0 sz)) (F0 m pc ls rest) := by
  obtain ⟨sa, hstr⟩ := hTt.2.2.2 _ hm
  exact vx_throwS (names := nm2) (cls := XS) hC.1 hC.2.1 hst hC.2.2.2.1 (by decide +kernel) (by decide +kernel) (hC.2.2.2.2 _ tw_543) (hC.2.2.2.2 _ tw_46) hstr
    (vx_hat (fun w hw => hC.2.2.2.2 _ (at_in atS w hw)) (fun w hw => by rw [noS] at hw; exact hw) (vx_c (va_Nw.use rfl hTt.1.1) (vx_c (va_Nw.use rfl hTt.1.2.1) (vx_c (va_Nw.use rfl hTt.1.2.2) (vx_c (va_Nw.use rfl hTt.2.1.2.1) vx_n)))))
    (fun w hw => List.all_eq_true.mp otS w hw) hX.1 hX.2 hS (hsz.trans hC.2.2.1.symm) d0 d3 d4 d6 d9 (fun x hx => (hnx x hx).elim) hRf hRl hRc hRs hlocks (fun t hv h1 h2 => z_outX hA hP hD hS h1 h2) (fun z hz => hA ▸ hS.2.2 z hz) hc1 hc2
theorem z_thrI (hst : l.stackTraces = false) (hC : CallFix p m c cc nL s args tb RX6) (hnx : ∀ x ∈ c.exceptionTable.toList, False) (hTt : zT s) (hX : zX A s s.heap) (hP : va_P G.1 vwCl ws H) (hD : va_D A ws) (hS : va_S A s.heap H locs) (hsz : ls.size = nL) (hlocks : meth.locks = false) {is mc ms sz : Nat} {text : String} {w0 : va_W} (hm : (is, text) ∈ xStr)
    (d0 : decode cc pc = .ok (.new 233, 3)) (d3 : decode cc (pc + 3) = .ok (.dup, 1)) (d4 : decode cc (pc + 4) = .ok (.ldc is, 2)) (d6 : decode cc (pc + 6) = .ok (.invokespecial 237, 3)) (d9 : decode cc (pc + 9) = .ok (.athrow, 1)) (hA : A = va_A w0 sz)
    (hRf : 5 < R.frames) (hRl : (rest.map fun v => v.category).sum + 82 ≤ R.locals) (hRc : cells + 1 ≤ R.cells) (hRs : slots + 6 ≤ R.slots) (hc1 : cells + 1 ≤ mc) (hc2 : slots + 6 ≤ ms) :
    W p l e R s m args below meth c H locs cells slots (vx_MQ below zFl (vx_X (fun _ : Unit => True) (fun E _ t => E = XI ∧ zB G w0 sz ws t) (va_A w0 sz)) args s mc ms (va_A w0 sz)) (F0 m pc ls rest) := by
  obtain ⟨sa, hstr⟩ := hTt.2.2.2 _ hm
  exact vx_throwS (names := nm2) (cls := XI) hC.1 hC.2.1 hst hC.2.2.2.1 (by decide +kernel) (by decide +kernel) (hC.2.2.2.2 _ tw_595) (hC.2.2.2.2 _ tw_48) hstr
    (vx_hat (fun w hw => hC.2.2.2.2 _ (at_in atI w hw)) (fun w hw => by rw [noI] at hw; exact hw) (vx_c (va_Nw.use rfl hTt.1.1) (vx_c (va_Nw.use rfl hTt.1.2.1) (vx_c (va_Nw.use rfl hTt.1.2.2) (vx_c (va_Nw.use rfl hTt.2.1.2.2) vx_n)))))
    (fun w hw => List.all_eq_true.mp otI w hw) hX.1 hX.2 hS (hsz.trans hC.2.2.1.symm) d0 d3 d4 d6 d9 (fun x hx => (hnx x hx).elim) hRf hRl hRc hRs hlocks (fun t hv h1 h2 => z_outX hA hP hD hS h1 h2) (fun z hz => hA ▸ hS.2.2 z hz) hc1 hc2
/-- a callee that throws, uncaught here -/
theorem z_xV (hC : CallFix p m c cc nL s args tb own) (hK : zK G s) (hTt : zT s) (hX : zX A s s.heap) (hnx : ∀ x ∈ c.exceptionTable.toList, False) (hP : va_P G.1 vwCl ws H) (hD : va_D A ws) (hS : va_S A s.heap H locs) (hA1 : ∀ q, s.heap.size ≤ q → A q) (hlocks : meth.locks = false) {y : MethodName} {bytes : ByteArray} {maxL n index ci q0 b mc ms sz m2 s2 : Nat} {ret : Option FieldType} {rm : Room} {As : List Value} {wc wr w0 w1 : va_W} {q : vw_C} {fs : List Value} {E0 : String}
    (hM : vx_Met l y (Cond.code y bytes maxL ret :: tb) rm (zPx G wc H.size (.ref b :: As)) zFl (zXQ G wc H.size E0) mc ms (va_A wc H.size)) (hm : zMV y bytes maxL ret q.1 n) (hl : Cond.methodLink own index y ∈ tb)
    (is ir : List Nat) (hi1 : is.map (fun i => ws[i]?) = wc.map some) (hi2 : ir.map (fun i => ws[i]?) = wr.map some) (hn1 : va_nd is = true) (hn2 : va_nd ir = true) (hdis : ∀ i ∈ ir, i ∉ is) (hs : is.filterMap (fun i => ws[i]?) = wc) (hc : vwCl[ci]? = some q) (he : ws[q0]? = some (b, ob ci fs)) (hn : As.length = n) (hsz : ls.size = nL) (hst : st0 = As.reverse ++ .ref b :: rest) (hW : (rest.map fun v => v.category).sum ≤ 8)
    (hR : rm.cells = mc ∧ rm.slots = ms ∧ rm.frames + 1 ≤ R.frames ∧ 8 + (maxL + 11) + rm.locals ≤ R.locals) (hf : cells + mc ≤ R.cells ∧ slots + ms ≤ R.slots) (hf2 : cells + mc ≤ m2 ∧ slots + ms ≤ s2) (hA : A = va_A w0 sz) (js : List Nat) (hj1 : js.map (fun i => (wr ++ wc)[i]?) = w1.map some) (hj2 : va_nd js = true) (hj3 : js.filterMap (fun i => (wr ++ wc)[i]?) = w1) (hdg : decode cc pc = .ok (.invokevirtual index, 3)) :
    W p l e R s m args below meth c H locs cells slots (vx_MQ below zFl (vx_X (fun _ : Unit => True) (fun E _ t => E = E0 ∧ zB G w0 sz w1 t) (va_A w0 sz)) args s m2 s2 (va_A w0 sz)) (F0 m pc ls st0) := by
  have hFc := va_free (wc := wc) hD hS hA1 is hi1
  have hXh : zX (va_A wc H.size) s H := (hX.kept (fun a h1 h2 => hS.2.1 a h1 h2)).narrow hFc
  have hr := vx_runV (e := e) (below := below) (meth := meth) (locs := locs) (cells := cells) (slots := slots) (rest := rest) (g := F0 m pc ls st0) hC hM (cwV n hC.2.2.2.2 (tb_wsV hm hl) rfl hR.1 hR.2.1 hm.2.2.2.2 hR.2.2) ⟨zPx.blind, va_recv hK.1 hP hc he, fun U hU hW => ⟨rfl, by rw [hU], by rw [hU]; exact hP.sub is hs, hK.warm hW, (hD.sub is hn1 hi1).weaken (fun _ _ _ _ => trivial), hTt.warm hW, by rw [hU]; exact hXh.moved hW.alike⟩⟩ rfl hn hsz hst (lv_room hW) hdg hf
  intro T hT X
  rcases hr T hT X with ⟨v, st₀, t, T', L, h0, X', hL, e1, e2, hQ, st⟩ | ⟨q9, st₀, t, T', L, E, ce, h0, X', hL, e1, e2, ⟨u, hp, ⟨hE, hB⟩, hF⟩, hce, hcv, hcl, st⟩
  · exact hQ.elim
  · obtain ⟨k1, k2, k3⟩ := vx_keep h0 e1 hS (fun q _ h => hFc q h) hFc hL hF
    have hce2 : T'.heap[q9]? = some ce := by rw [e1]; exact hce
    obtain ⟨j1, j2⟩ := va_join (H1 := T'.heap) hP hD is ir hi1 hi2 hn2 hdis k2 hFc (by rw [e1]; exact hB.1) hB.2
    subst hE
    obtain ⟨t2, a1, b1⟩ := vx_out (p := p) (l := l) (e := e) (R := R) (args := args) (below := below) (c := c) (ls := ls) (rest := rest) (pc := pc) (m := m) (Qc := zFl) (XC := vx_X (fun _ : Unit => True) (fun E' _ t => E' = E ∧ zB G w0 sz w1 t) (va_A w0 sz)) (free := va_A w0 sz) (fun x hx => (hnx x hx).elim) hlocks hce2 hcv hcl (fun t' ht' _ => z_outX hA (j1.sub js hj3) (j2.sub js hj2 hj1) k3 (by rw [ht']; exact Nat.le_refl _) (fun q _ => by rw [ht'])) (fun z hz => hA ▸ k3.2.2 z hz) hf2.1 hf2.2 T' rfl X'
    exact ⟨t2, st.trans a1, b1⟩
end ZTh
