/-! worlds of this claim: G = (the classes' numbers and slots, the classes of int[], long[], Make[]) -/
abbrev zGt : Type := va_G × ClassId × ClassId × ClassId
abbrev TY3 (G : zGt) : List (ClassId × FieldType) := [(G.2.1, .int), (G.2.2.1, .long), (G.2.2.2, .object "RescueBench$Make")]
abbrev nw1 : Cond := .methodLinkNest "RescueBench$Walk" 114 yX6_byteOf "RescueBench"
abbrev nw2 : Cond := .methodLinkNest "RescueBench$Walk" 100 yX6_isZeroBehind "RescueBench"
abbrev nw3 : Cond := .methodLinkNest "RescueBench$Disk" 23 yX6_byteOf "RescueBench"
def zK (G : zGt) (U : State) : Prop := va_K G.1 vwCl (TY3 G) U ∧ va_Nw nw1 U ∧ va_Nw nw2 U ∧ va_Nw nw3 U
theorem zK.warm {G : zGt} {s U : State} (hW : s.WarmedH U.vm) (h : zK G s) : zK G U := ⟨va_K.moved hW.alike h.1, va_Nw.warmM hW h.2.1, va_Nw.warmM hW h.2.2.1, va_Nw.warmM hW h.2.2.2⟩
theorem zK.same {G : zGt} {s U : State} (hv : s.vm = U.vm) (h : zK G s) : zK G U := ⟨va_K.moved (by rw [hv]; exact Vm.Alike.refl _) h.1, va_Nw.same rfl hv h.2.1, va_Nw.same rfl hv h.2.2.1, va_Nw.same rfl hv h.2.2.2⟩
abbrev aI (G : zGt) (n : Nat) (F : Int → Int) : va_E := .inl (G.2.1, n, .inl (zA F))
abbrev aJ (G : zGt) (n : Nat) (F : Int → Int64) : va_E := .inl (G.2.2.1, n, .inr (.inl (zG F)))
abbrev aR (G : zGt) (n : Nat) (F : Int → Option Nat) : va_E := .inl (G.2.2.2, n, .inr (.inr (.inr (.inr (zG F)))))
abbrev ob (ci : Nat) (fs : List Value) : va_E := .inr (ci, fs)
abbrev vI (z : Int) : Value := .int (iI z)
/-- a reader's start: the world holds -/
abbrev zPr (G : zGt) (ws : va_W) (av : List Value) : Array Value → State → Prop := va_Pc av (fun U => va_P G.1 vwCl ws U.heap ∧ zK G U)
/-- a writer's start -/
abbrev zPw (G : zGt) (ws : va_W) (sz : Nat) (av : List Value) : Array Value → State → Prop := va_Pc av (fun U => U.heap.size = sz ∧ va_P G.1 vwCl ws U.heap ∧ zK G U ∧ va_D (fun _ => True) ws)
abbrev zB (G : zGt) (ws : va_W) (sz : Nat) (w1 : va_W) (t : State) : Prop := va_P G.1 vwCl w1 t.heap ∧ va_D (va_A ws sz) w1
/-- what is asked of a called instance method, of a static one -/
def zMV (y : MethodName) (bytes : ByteArray) (maxL : Nat) (ret : Option FieldType) (C : String) (n : Nat) : Prop :=
  Cond.code y bytes maxL ret ∈ tb ∧ Cond.instanceMethod y ∈ tb ∧ Cond.selects C y y ∈ tb ∧ Cond.initialized C ∈ tb ∧ (y.cls = C ∧ y.cls ≠ "java/lang/invoke/MethodHandle" ∧ y.cls ≠ "java/lang/invoke/VarHandle" ∧ (parseMethodDescriptor y.desc).map (fun d => d.parameters.length) = some n)
def zMS (y : MethodName) (bytes : ByteArray) (maxL : Nat) (ret : Option FieldType) (n : Nat) : Prop :=
  Cond.code y bytes maxL ret ∈ tb ∧ Cond.static y ∈ tb ∧ Cond.initialized y.cls ∈ tb ∧ (y.cls ≠ "java/lang/invoke/MethodHandle" ∧ y.cls ≠ "java/lang/invoke/VarHandle" ∧ (parseMethodDescriptor y.desc).map (fun d => d.parameters.length) = some n)
def zMI (y : MethodName) (bytes : ByteArray) (maxL : Nat) (n : Nat) : Prop :=
  Cond.code y bytes maxL none ∈ tb ∧ Cond.instanceMethod y ∈ tb ∧ Cond.initialized y.cls ∈ tb ∧ y.name = "<init>" ∧ (y.cls ≠ "java/lang/invoke/MethodHandle" ∧ y.cls ≠ "java/lang/invoke/VarHandle" ∧ (parseMethodDescriptor y.desc).map (fun d => d.parameters.length) = some n)
theorem tb_in {L : List Cond} (h : ∀ w ∈ L, w ∈ tb) : GoodIn tb L := fun w hw => tb_good w (h w hw)
theorem tb_c {w : Cond} {L : List Cond} (h : w ∈ tb) (t : ∀ w ∈ L, w ∈ tb) : ∀ w' ∈ w :: L, w' ∈ tb := fun w' h' => (List.mem_cons.mp h').elim (fun e => by rw [e]; exact h) (t w')
theorem tb_n : ∀ w ∈ ([] : List Cond), w ∈ tb := fun _ h => nomatch h
theorem tb_wsV {own C : String} {index : Nat} {y : MethodName} {bytes : ByteArray} {maxL n : Nat} {ret : Option FieldType} (hm : zMV y bytes maxL ret C n) (hl : Cond.methodLink own index y ∈ tb) : GoodIn tb (wsV own index C y (Cond.code y bytes maxL ret :: tb)) :=
  tb_in (tb_c hl (tb_c hm.2.1 (tb_c hm.2.2.1 (tb_c hm.2.2.2.1 (tb_c hm.1 (fun _ h => h))))))
theorem tb_wsS {own : String} {index : Nat} {y : MethodName} {bytes : ByteArray} {maxL n : Nat} {ret : Option FieldType} (hm : zMS y bytes maxL ret n) (hl : Cond.methodLink own index y ∈ tb) : GoodIn tb (va_wsS own index y (Cond.code y bytes maxL ret :: tb)) :=
  tb_in (tb_c hl (tb_c hm.2.1 (tb_c hm.2.2.1 (tb_c hm.1 (fun _ h => h)))))
theorem zPr.blind {G : zGt} {ws : va_W} {av : List Value} : FrameBlind (zPr G ws av) := fun a U g mk q => ⟨q.1, q.2.1, q.2.2.same rfl⟩
theorem zPw.blind {G : zGt} {ws : va_W} {sz : Nat} {av : List Value} : FrameBlind (zPw G ws sz av) := fun a U g mk q => ⟨q.1, q.2.1, q.2.2.1, q.2.2.2.1.same rfl, q.2.2.2.2⟩
section ZW
variable {p : Program} {l : Launch} {e : Env} {R : Room} {s : State} {m : MethodId} {args : Array Value} {below : List Frame} {meth : Method} {c : Code} {H : Heap} {locs : List Loc} {cells slots : Nat} {Q : State → Prop}
variable {cc : ByteArray} {pc nL : Nat} {ls : Array Slot} {rest st0 : List Value} {G : zGt} {A : Nat → Prop} {H0 : Heap} {ws : va_W} {own : String} {a : Nat}
theorem z_get (hC : CallFix p m c cc nL s args tb own) (hK : zK G s) (hP : va_P G.1 vwCl ws H) {C : String} {T : u_T} {N ci index : Nat} (hin : ∀ w ∈ u_ws C T N, w ∈ tb) (hc : vwCl[ci]? = some (C, T, N)) (q0 : Nat) {fs : List Value} (he : ws[q0]? = some (a, ob ci fs)) (k : Nat) (hk : k < N) (hl : Cond.fieldLink own index (T k).1 (T k).2.1 (T k).2.2.1 ∈ tb) {v : Value} (hv : fs[k]? = some v) (hdg : decode cc pc = .ok (.getfield index, 3))
    (kk : W p l e R s m args below meth c H locs cells slots Q (F0 m (pc + 3) ls (v :: rest))) : W p l e R s m args below meth c H locs cells slots Q (F0 m pc ls (.ref a :: rest)) :=
  va_get hC.1 hC.2.1 hC.2.2.2.2 hin hC.2.2.2.1 hK.1 hP q0 he hc k hk (hC.2.2.2.2 _ hl) (fun _ h => h) hv hdg kk
theorem z_put (hC : CallFix p m c cc nL s args tb own) (hK : zK G s) (hP : va_P G.1 vwCl ws H) (hD : va_D A ws) (hS : va_S A H0 H locs) {C : String} {T : u_T} {N ci index : Nat} (hin : ∀ w ∈ u_ws C T N, w ∈ tb) (ty0 : Nat → FieldType) (hty : ∀ k, k < N → parseFieldDescriptor (T k).2.2.1 = some (ty0 k)) (hnm : ∀ a, a < N → ∀ b, b < N → a ≠ b → (T a).2.1 ≠ (T b).2.1) (hc : vwCl[ci]? = some (C, T, N)) (q0 : Nat) {fs : List Value} (he : ws[q0]? = some (a, ob ci fs)) (k : Nat) (hk : k < N) (hl : Cond.fieldLink own index (T k).1 (T k).2.1 (T k).2.2.1 ∈ tb) (hfin : (T k).2.2.2 = false) {v : Value} (hn : narrow (ty0 k) v = v) (hfit : fits (ty0 k) v = true) (hlen : k < fs.length) {ws' : va_W} (hws : ws.set q0 (a, ob ci (fs.set k v)) = ws') (hdg : decode cc pc = .ok (.putfield index, 3))
    (kk : ∀ (H1 : Heap) (locs1 : List Loc), va_P G.1 vwCl ws' H1 → va_D A ws' → va_S A H0 H1 locs1 → W p l e R s m args below meth c H1 locs1 cells slots Q (F0 m (pc + 3) ls rest)) : W p l e R s m args below meth c H locs cells slots Q (F0 m pc ls (v :: .ref a :: rest)) := by
  subst hws
  exact va_put hC.1 hC.2.1 hC.2.2.2.2 hin ty0 hty hnm hC.2.2.2.1 hK.1 hP hD hS q0 he hc k hk (hC.2.2.2.2 _ hl) (fun _ h => h) hfin (hty k hk) hn hfit hlen hdg kk
theorem z_putF (hC : CallFix p m c cc nL s args tb own) (hK : zK G s) (hP : va_P G.1 vwCl ws H) (hD : va_D A ws) (hS : va_S A H0 H locs) {C : String} {T : u_T} {N ci index : Nat} (hin : ∀ w ∈ u_ws C T N, w ∈ tb) (ty0 : Nat → FieldType) (hty : ∀ k, k < N → parseFieldDescriptor (T k).2.2.1 = some (ty0 k)) (hnm : ∀ a, a < N → ∀ b, b < N → a ≠ b → (T a).2.1 ≠ (T b).2.1) (hc : vwCl[ci]? = some (C, T, N)) (hi2 : meth.name = "<init>") (q0 : Nat) {fs : List Value} (he : ws[q0]? = some (a, ob ci fs)) (k : Nat) (hk : k < N) (hl : Cond.fieldLink own index (T k).1 (T k).2.1 (T k).2.2.1 ∈ tb) (hfin : (T k).2.2.2 = true) (hdecl : (T k).1 = own) {v : Value} (hn : narrow (ty0 k) v = v) (hfit : fits (ty0 k) v = true) (hlen : k < fs.length) {ws' : va_W} (hws : ws.set q0 (a, ob ci (fs.set k v)) = ws') (hdg : decode cc pc = .ok (.putfield index, 3))
    (kk : ∀ (H1 : Heap) (locs1 : List Loc), va_P G.1 vwCl ws' H1 → va_D A ws' → va_S A H0 H1 locs1 → W p l e R s m args below meth c H1 locs1 cells slots Q (F0 m (pc + 3) ls rest)) : W p l e R s m args below meth c H locs cells slots Q (F0 m pc ls (v :: .ref a :: rest)) := by
  subst hws
  exact va_putF hC.1 hC.2.1 hC.2.2.2.2 hin ty0 hty hnm hC.2.2.2.1 hK.1 hP hD hS q0 he hc k hk (hC.2.2.2.2 _ hl) (fun _ h => h) hfin hi2 hdecl (hty k hk) hn hfit hlen hdg kk
theorem z_iald (hC : CallFix p m c cc nL s args tb own) (hK : zK G s) (hP : va_P G.1 vwCl ws H) (q0 : Nat) {n : Nat} {F : Int → Int} (ha : ws[q0]? = some (a, aI G n F)) {i : Int} (hi : 0 ≤ i ∧ i < (n : Int)) (hn : n < 2147483648) (hdg : decode cc pc = .ok (.iaload, 1))
    (kk : W p l e R s m args below meth c H locs cells slots Q (F0 m (pc + 1) ls (vI (F i) :: rest))) : W p l e R s m args below meth c H locs cells slots Q (F0 m pc ls (vI i :: .ref a :: rest)) :=
  va_iald hC.1 hC.2.1 hK.1 hP q0 0 ha rfl (iI_in hi hn) hdg (by rw [zA_at ⟨hi.1, by omega⟩]; exact kk)
theorem z_lald (hC : CallFix p m c cc nL s args tb own) (hK : zK G s) (hP : va_P G.1 vwCl ws H) (q0 : Nat) {n : Nat} {F : Int → Int64} (ha : ws[q0]? = some (a, aJ G n F)) {i : Int} (hi : 0 ≤ i ∧ i < (n : Int)) (hn : n < 2147483648) (hdg : decode cc pc = .ok (.laload, 1))
    (kk : W p l e R s m args below meth c H locs cells slots Q (F0 m (pc + 1) ls (.long (F i) :: rest))) : W p l e R s m args below meth c H locs cells slots Q (F0 m pc ls (vI i :: .ref a :: rest)) :=
  va_lald hC.1 hC.2.1 hK.1 hP q0 1 ha rfl (iI_in hi hn) hdg (by rw [zG_at ⟨hi.1, by omega⟩]; exact kk)
theorem z_aald (hC : CallFix p m c cc nL s args tb own) (hK : zK G s) (hP : va_P G.1 vwCl ws H) (q0 : Nat) {n : Nat} {F : Int → Option Nat} (ha : ws[q0]? = some (a, aR G n F)) {i : Int} (hi : 0 ≤ i ∧ i < (n : Int)) (hn : n < 2147483648) (hdg : decode cc pc = .ok (.aaload, 1))
    (kk : W p l e R s m args below meth c H locs cells slots Q (F0 m (pc + 1) ls (va_rf (F i) :: rest))) : W p l e R s m args below meth c H locs cells slots Q (F0 m pc ls (vI i :: .ref a :: rest)) :=
  va_aldq hC.1 hC.2.1 hK.1 hP q0 2 ha rfl (iI_in hi hn) hdg (by rw [zG_at ⟨hi.1, by omega⟩]; exact kk)
theorem z_iast (hC : CallFix p m c cc nL s args tb own) (hK : zK G s) (hP : va_P G.1 vwCl ws H) (hD : va_D A ws) (hS : va_S A H0 H locs) (q0 : Nat) {n : Nat} {F : Int → Int} (ha : ws[q0]? = some (a, aI G n F)) {i v : Int} (hi : 0 ≤ i ∧ i < (n : Int)) (hn : n < 2147483648) {ws' : va_W} (hws : ws.set q0 (a, aI G n (zup F i v)) = ws') (hdg : decode cc pc = .ok (.iastore, 1))
    (kk : ∀ (H1 : Heap) (locs1 : List Loc), va_P G.1 vwCl ws' H1 → va_D A ws' → va_S A H0 H1 locs1 → W p l e R s m args below meth c H1 locs1 cells slots Q (F0 m (pc + 1) ls rest)) : W p l e R s m args below meth c H locs cells slots Q (F0 m pc ls (vI v :: vI i :: .ref a :: rest)) := by
  subst hws
  refine va_iast hC.1 hC.2.1 hK.1 hP hD hS q0 0 ha rfl (iI_in hi hn) hdg ?_
  rw [zA_up ⟨hi.1, by omega⟩]
  exact kk
theorem z_last (hC : CallFix p m c cc nL s args tb own) (hK : zK G s) (hP : va_P G.1 vwCl ws H) (hD : va_D A ws) (hS : va_S A H0 H locs) (q0 : Nat) {n : Nat} {F : Int → Int64} (ha : ws[q0]? = some (a, aJ G n F)) {i : Int} {v : Int64} (hi : 0 ≤ i ∧ i < (n : Int)) (hn : n < 2147483648) {ws' : va_W} (hws : ws.set q0 (a, aJ G n (zup F i v)) = ws') (hdg : decode cc pc = .ok (.lastore, 1))
    (kk : ∀ (H1 : Heap) (locs1 : List Loc), va_P G.1 vwCl ws' H1 → va_D A ws' → va_S A H0 H1 locs1 → W p l e R s m args below meth c H1 locs1 cells slots Q (F0 m (pc + 1) ls rest)) : W p l e R s m args below meth c H locs cells slots Q (F0 m pc ls (.long v :: vI i :: .ref a :: rest)) := by
  subst hws
  refine va_last hC.1 hC.2.1 hK.1 hP hD hS q0 1 ha rfl (iI_in hi hn) hdg ?_
  rw [zG_upL ⟨hi.1, by omega⟩]
  exact kk
/-- calls of readers: the heap stays -/
theorem z_rVi (hC : CallFix p m c cc nL s args tb own) (hK : zK G s) (hP : va_P G.1 vwCl ws H) {y : MethodName} {bytes : ByteArray} {maxL n index ci q0 b : Nat} {ret : Option FieldType} {rm : Room} {As : List Value} {wc : va_W} {v : Int} {q : vw_C} {fs : List Value}
    (hM : Met l y (Cond.code y bytes maxL ret :: tb) rm (zPr G wc (.ref b :: As)) (vp_Si (fun r => r = iI v)) 0 0 (fun _ => False)) (hm : zMV y bytes maxL ret q.1 n) (hl : Cond.methodLink own index y ∈ tb) (is : List Nat) (hs : is.filterMap (fun i => ws[i]?) = wc) (hc : vwCl[ci]? = some q) (he : ws[q0]? = some (b, ob ci fs)) (hn : As.length = n) (hsz : ls.size = nL) (hst : st0 = As.reverse ++ .ref b :: rest) (hW : (rest.map fun v => v.category).sum ≤ 8)
    (hR : rm.cells = 0 ∧ rm.slots = 0 ∧ rm.frames + 1 ≤ R.frames ∧ 8 + (maxL + 11) + rm.locals ≤ R.locals) (hf : cells ≤ R.cells ∧ slots ≤ R.slots) (hdg : decode cc pc = .ok (.invokevirtual index, 3))
    (kk : W p l e R s m args below meth c H locs cells slots Q (F0 m (pc + 3) ls (vI v :: rest))) : W p l e R s m args below meth c H locs cells slots Q (F0 m pc ls st0) :=
  vp_callSi (W.runV hC hM (cwV n hC.2.2.2.2 (tb_wsV hm hl) rfl hR.1 hR.2.1 hm.2.2.2.2 hR.2.2) ⟨zPr.blind, va_recv hK.1 hP hc he, fun U hU hW => ⟨rfl, by rw [hU]; exact hP.sub is hs, hK.warm hW⟩⟩ rfl hn hsz hst (lv_room hW) hdg hf) (fun r hr => by rw [hr]; exact kk)
theorem z_rVl (hC : CallFix p m c cc nL s args tb own) (hK : zK G s) (hP : va_P G.1 vwCl ws H) {y : MethodName} {bytes : ByteArray} {maxL n index ci q0 b : Nat} {ret : Option FieldType} {rm : Room} {As : List Value} {wc : va_W} {v : Int64} {q : vw_C} {fs : List Value}
    (hM : Met l y (Cond.code y bytes maxL ret :: tb) rm (zPr G wc (.ref b :: As)) (vp_Sl (fun r => r = v)) 0 0 (fun _ => False)) (hm : zMV y bytes maxL ret q.1 n) (hl : Cond.methodLink own index y ∈ tb) (is : List Nat) (hs : is.filterMap (fun i => ws[i]?) = wc) (hc : vwCl[ci]? = some q) (he : ws[q0]? = some (b, ob ci fs)) (hn : As.length = n) (hsz : ls.size = nL) (hst : st0 = As.reverse ++ .ref b :: rest) (hW : (rest.map fun v => v.category).sum ≤ 8)
    (hR : rm.cells = 0 ∧ rm.slots = 0 ∧ rm.frames + 1 ≤ R.frames ∧ 8 + (maxL + 11) + rm.locals ≤ R.locals) (hf : cells ≤ R.cells ∧ slots ≤ R.slots) (hdg : decode cc pc = .ok (.invokevirtual index, 3))
    (kk : W p l e R s m args below meth c H locs cells slots Q (F0 m (pc + 3) ls (.long v :: rest))) : W p l e R s m args below meth c H locs cells slots Q (F0 m pc ls st0) :=
  vp_callSl (W.runV hC hM (cwV n hC.2.2.2.2 (tb_wsV hm hl) rfl hR.1 hR.2.1 hm.2.2.2.2 hR.2.2) ⟨zPr.blind, va_recv hK.1 hP hc he, fun U hU hW => ⟨rfl, by rw [hU]; exact hP.sub is hs, hK.warm hW⟩⟩ rfl hn hsz hst (lv_room hW) hdg hf) (fun r hr => by rw [hr]; exact kk)
theorem z_rSi (hC : CallFix p m c cc nL s args tb own) (hK : zK G s) (hP : va_P G.1 vwCl ws H) {y : MethodName} {bytes : ByteArray} {maxL n index : Nat} {ret : Option FieldType} {rm : Room} {As : List Value} {wc : va_W} {v : Int}
    (hM : Met l y (Cond.code y bytes maxL ret :: tb) rm (zPr G wc As) (vp_Si (fun r => r = iI v)) 0 0 (fun _ => False)) (hm : zMS y bytes maxL ret n) (hl : Cond.methodLink own index y ∈ tb) (is : List Nat) (hs : is.filterMap (fun i => ws[i]?) = wc) (hn : As.length = n) (hsz : ls.size = nL) (hst : st0 = As.reverse ++ rest) (hW : (rest.map fun v => v.category).sum ≤ 8)
    (hR : rm.cells = 0 ∧ rm.slots = 0 ∧ rm.frames + 1 ≤ R.frames ∧ 8 + (maxL + 11) + rm.locals ≤ R.locals) (hf : cells ≤ R.cells ∧ slots ≤ R.slots) (hdg : decode cc pc = .ok (.invokestatic index, 3))
    (kk : W p l e R s m args below meth c H locs cells slots Q (F0 m (pc + 3) ls (vI v :: rest))) : W p l e R s m args below meth c H locs cells slots Q (F0 m pc ls st0) :=
  vp_callSi ((va_runS hC hM (va_cwS n hC.2.2.2.2 (tb_wsS hm hl) rfl hR.1 hR.2.1 hm.2.2.2 hR.2.2) ⟨zPr.blind, fun U hU hW => ⟨rfl, by rw [hU]; exact hP.sub is hs, hK.warm hW⟩⟩ rfl hn hsz hst (lv_room hW) hdg hf).run) (fun r hr => by rw [hr]; exact kk)
theorem z_rNi (hC : CallFix p m c cc nL s args tb own) (hK : zK G s) (hP : va_P G.1 vwCl ws H) {y : MethodName} {bytes : ByteArray} {maxL n index : Nat} {ret : Option FieldType} {rm : Room} {As : List Value} {wc : va_W} {v : Int} {host : String}
    (hM : Met l y (Cond.code y bytes maxL ret :: tb) rm (zPr G wc As) (vp_Si (fun r => r = iI v)) 0 0 (fun _ => False)) (hm : zMS y bytes maxL ret n) (hl : va_Nw (.methodLinkNest own index y host) s) (is : List Nat) (hs : is.filterMap (fun i => ws[i]?) = wc) (hn : As.length = n) (hsz : ls.size = nL) (hst : st0 = As.reverse ++ rest) (hW : (rest.map fun v => v.category).sum ≤ 8)
    (hR : rm.cells = 0 ∧ rm.slots = 0 ∧ rm.frames + 1 ≤ R.frames ∧ 8 + (maxL + 11) + rm.locals ≤ R.locals) (hf : cells ≤ R.cells ∧ slots ≤ R.slots) (hdg : decode cc pc = .ok (.invokestatic index, 3))
    (kk : W p l e R s m args below meth c H locs cells slots Q (F0 m (pc + 3) ls (vI v :: rest))) : W p l e R s m args below meth c H locs cells slots Q (F0 m pc ls st0) :=
  vp_callSi ((va_runSN hC hM ⟨va_cnB n hC.2.2.2.2 (tb_in (tb_c hm.1 (fun _ h => h))) rfl hR.1 hR.2.1 hl (hC.2.2.2.2 _ hm.2.2.1) hm.2.2.2 hR.2.2, hC.2.2.2.2 _ hm.2.1, trivial⟩ ⟨zPr.blind, fun U hU hW => ⟨rfl, by rw [hU]; exact hP.sub is hs, hK.warm hW⟩⟩ rfl hn hsz hst (lv_room hW) hdg hf).run) (fun r hr => by rw [hr]; exact kk)
/-- calls of writers: S tells what came; the callee's world is cut out at the places 'is', the rest lies at 'ir' -/
theorem z_jo {wc wr w1 : va_W} {H1 : Heap} {sz : Nat} {t : State} (hP : va_P G.1 vwCl ws H) (hD : va_D A ws) (is ir : List Nat) (hC : is.map (fun i => ws[i]?) = wc.map some) (hR : ir.map (fun i => ws[i]?) = wr.map some) (hn : va_nd ir = true) (hdis : ∀ i ∈ ir, i ∉ is)
    (hsz : H.size = sz) (ht : t.heap = H1) (hk : ∀ q : Nat, q < H.size → ¬ va_A wc sz q → H1[q]? = H[q]?) (hF : ∀ q, va_A wc sz q → A q) (hB : zB G wc sz w1 t) : va_P G.1 vwCl (wr ++ w1) H1 ∧ va_D A (wr ++ w1) := by
  subst hsz; subst ht
  exact va_join hP hD is ir hC hR hn hdis hk hF hB.1 hB.2
theorem z_wVi (hC : CallFix p m c cc nL s args tb own) (hK : zK G s) (hP : va_P G.1 vwCl ws H) (hD : va_D A ws) (hS : va_S A H0 H locs) (hA : ∀ q, H0.size ≤ q → A q) {y : MethodName} {bytes : ByteArray} {maxL n index ci q0 b mc ms : Nat} {ret : Option FieldType} {rm : Room} {As : List Value} {wc wr : va_W} {q : vw_C} {fs : List Value} {S : Type} {post : Int32 → S → Prop} {w1 : S → va_W}
    (hM : Met l y (Cond.code y bytes maxL ret :: tb) rm (zPw G wc H.size (.ref b :: As)) (va_Qi post (fun u t => zB G wc H.size (w1 u) t) (va_A wc H.size)) mc ms (va_A wc H.size)) (hm : zMV y bytes maxL ret q.1 n) (hl : Cond.methodLink own index y ∈ tb)
    (is ir : List Nat) (hi1 : is.map (fun i => ws[i]?) = wc.map some) (hi2 : ir.map (fun i => ws[i]?) = wr.map some) (hn1 : va_nd is = true) (hn2 : va_nd ir = true) (hdis : ∀ i ∈ ir, i ∉ is) (hs : is.filterMap (fun i => ws[i]?) = wc) (hc : vwCl[ci]? = some q) (he : ws[q0]? = some (b, ob ci fs)) (hn : As.length = n) (hsz : ls.size = nL) (hst : st0 = As.reverse ++ .ref b :: rest) (hW : (rest.map fun v => v.category).sum ≤ 8)
    (hR : rm.cells = mc ∧ rm.slots = ms ∧ rm.frames + 1 ≤ R.frames ∧ 8 + (maxL + 11) + rm.locals ≤ R.locals) (hf : cells + mc ≤ R.cells ∧ slots + ms ≤ R.slots) (hdg : decode cc pc = .ok (.invokevirtual index, 3))
    (kk : ∀ (r : Int32) (u : S) (H1 : Heap) (locs1 : List Loc), post r u → va_P G.1 vwCl (wr ++ w1 u) H1 → va_D A (wr ++ w1 u) → va_S A H0 H1 locs1 → W p l e R s m args below meth c H1 locs1 (cells + mc) (slots + ms) Q (F0 m (pc + 3) ls (.int r :: rest))) : W p l e R s m args below meth c H locs cells slots Q (F0 m pc ls st0) := by
  have hFc := va_free (wc := wc) hD hS hA is hi1
  refine va_calli (va_runV hC hM (cwV n hC.2.2.2.2 (tb_wsV hm hl) rfl hR.1 hR.2.1 hm.2.2.2.2 hR.2.2) ⟨zPw.blind, va_recv hK.1 hP hc he, fun U hU hW => ⟨rfl, by rw [hU], by rw [hU]; exact hP.sub is hs, hK.warm hW, (hD.sub is hn1 hi1).weaken (fun _ _ _ _ => trivial)⟩⟩ rfl hn hsz hst (lv_room hW) hdg hf) hS (fun q _ h => hFc q h) hFc (fun r u t H1 locs1 ht hvm hw hB hz1 hk1 hS1 => ?_)
  obtain ⟨h1, h2⟩ := z_jo hP hD is ir hi1 hi2 hn2 hdis rfl ht hk1 hFc hB
  exact kk r u H1 locs1 hw h1 h2 hS1
theorem z_wVl (hC : CallFix p m c cc nL s args tb own) (hK : zK G s) (hP : va_P G.1 vwCl ws H) (hD : va_D A ws) (hS : va_S A H0 H locs) (hA : ∀ q, H0.size ≤ q → A q) {y : MethodName} {bytes : ByteArray} {maxL n index ci q0 b mc ms : Nat} {ret : Option FieldType} {rm : Room} {As : List Value} {wc wr : va_W} {q : vw_C} {fs : List Value} {S : Type} {post : Int64 → S → Prop} {w1 : S → va_W}
    (hM : Met l y (Cond.code y bytes maxL ret :: tb) rm (zPw G wc H.size (.ref b :: As)) (va_Ql post (fun u t => zB G wc H.size (w1 u) t) (va_A wc H.size)) mc ms (va_A wc H.size)) (hm : zMV y bytes maxL ret q.1 n) (hl : Cond.methodLink own index y ∈ tb)
    (is ir : List Nat) (hi1 : is.map (fun i => ws[i]?) = wc.map some) (hi2 : ir.map (fun i => ws[i]?) = wr.map some) (hn1 : va_nd is = true) (hn2 : va_nd ir = true) (hdis : ∀ i ∈ ir, i ∉ is) (hs : is.filterMap (fun i => ws[i]?) = wc) (hc : vwCl[ci]? = some q) (he : ws[q0]? = some (b, ob ci fs)) (hn : As.length = n) (hsz : ls.size = nL) (hst : st0 = As.reverse ++ .ref b :: rest) (hW : (rest.map fun v => v.category).sum ≤ 8)
    (hR : rm.cells = mc ∧ rm.slots = ms ∧ rm.frames + 1 ≤ R.frames ∧ 8 + (maxL + 11) + rm.locals ≤ R.locals) (hf : cells + mc ≤ R.cells ∧ slots + ms ≤ R.slots) (hdg : decode cc pc = .ok (.invokevirtual index, 3))
    (kk : ∀ (r : Int64) (u : S) (H1 : Heap) (locs1 : List Loc), post r u → va_P G.1 vwCl (wr ++ w1 u) H1 → va_D A (wr ++ w1 u) → va_S A H0 H1 locs1 → W p l e R s m args below meth c H1 locs1 (cells + mc) (slots + ms) Q (F0 m (pc + 3) ls (.long r :: rest))) : W p l e R s m args below meth c H locs cells slots Q (F0 m pc ls st0) := by
  have hFc := va_free (wc := wc) hD hS hA is hi1
  refine va_calll (va_runV hC hM (cwV n hC.2.2.2.2 (tb_wsV hm hl) rfl hR.1 hR.2.1 hm.2.2.2.2 hR.2.2) ⟨zPw.blind, va_recv hK.1 hP hc he, fun U hU hW => ⟨rfl, by rw [hU], by rw [hU]; exact hP.sub is hs, hK.warm hW, (hD.sub is hn1 hi1).weaken (fun _ _ _ _ => trivial)⟩⟩ rfl hn hsz hst (lv_room hW) hdg hf) hS (fun q _ h => hFc q h) hFc (fun r u t H1 locs1 ht hvm hw hB hz1 hk1 hS1 => ?_)
  obtain ⟨h1, h2⟩ := z_jo hP hD is ir hi1 hi2 hn2 hdis rfl ht hk1 hFc hB
  exact kk r u H1 locs1 hw h1 h2 hS1
theorem z_wVv (hC : CallFix p m c cc nL s args tb own) (hK : zK G s) (hP : va_P G.1 vwCl ws H) (hD : va_D A ws) (hS : va_S A H0 H locs) (hA : ∀ q, H0.size ≤ q → A q) {y : MethodName} {bytes : ByteArray} {maxL n index ci q0 b mc ms : Nat} {ret : Option FieldType} {rm : Room} {As : List Value} {wc wr : va_W} {q : vw_C} {fs : List Value} {S : Type} {post : S → Prop} {w1 : S → va_W}
    (hM : Met l y (Cond.code y bytes maxL ret :: tb) rm (zPw G wc H.size (.ref b :: As)) (va_Qv post (fun u t => zB G wc H.size (w1 u) t) (va_A wc H.size)) mc ms (va_A wc H.size)) (hm : zMV y bytes maxL ret q.1 n) (hl : Cond.methodLink own index y ∈ tb)
    (is ir : List Nat) (hi1 : is.map (fun i => ws[i]?) = wc.map some) (hi2 : ir.map (fun i => ws[i]?) = wr.map some) (hn1 : va_nd is = true) (hn2 : va_nd ir = true) (hdis : ∀ i ∈ ir, i ∉ is) (hs : is.filterMap (fun i => ws[i]?) = wc) (hc : vwCl[ci]? = some q) (he : ws[q0]? = some (b, ob ci fs)) (hn : As.length = n) (hsz : ls.size = nL) (hst : st0 = As.reverse ++ .ref b :: rest) (hW : (rest.map fun v => v.category).sum ≤ 8)
    (hR : rm.cells = mc ∧ rm.slots = ms ∧ rm.frames + 1 ≤ R.frames ∧ 8 + (maxL + 11) + rm.locals ≤ R.locals) (hf : cells + mc ≤ R.cells ∧ slots + ms ≤ R.slots) (hdg : decode cc pc = .ok (.invokevirtual index, 3))
    (kk : ∀ (u : S) (H1 : Heap) (locs1 : List Loc), post u → va_P G.1 vwCl (wr ++ w1 u) H1 → va_D A (wr ++ w1 u) → va_S A H0 H1 locs1 → W p l e R s m args below meth c H1 locs1 (cells + mc) (slots + ms) Q (F0 m (pc + 3) ls rest)) : W p l e R s m args below meth c H locs cells slots Q (F0 m pc ls st0) := by
  have hFc := va_free (wc := wc) hD hS hA is hi1
  refine va_callv (va_runV hC hM (cwV n hC.2.2.2.2 (tb_wsV hm hl) rfl hR.1 hR.2.1 hm.2.2.2.2 hR.2.2) ⟨zPw.blind, va_recv hK.1 hP hc he, fun U hU hW => ⟨rfl, by rw [hU], by rw [hU]; exact hP.sub is hs, hK.warm hW, (hD.sub is hn1 hi1).weaken (fun _ _ _ _ => trivial)⟩⟩ rfl hn hsz hst (lv_room hW) hdg hf) hS (fun q _ h => hFc q h) hFc (fun u t H1 locs1 ht hvm hw hB hz1 hk1 hS1 => ?_)
  obtain ⟨h1, h2⟩ := z_jo hP hD is ir hi1 hi2 hn2 hdis rfl ht hk1 hFc hB
  exact kk u H1 locs1 hw h1 h2 hS1
/-- returns -/
theorem z_iretR (hC : CallFix p m c cc nL s args tb own) (hr : meth.sig.returnType = some .int) (hlocks : meth.locks = false) {x v : Int} (h : x = v) (hdg : decode cc pc = .ok (.ireturn, 1)) : W p l e R s m args below meth c s.heap [] 0 0 (MQ below (vp_Si (fun r => r = iI v)) args s 0 0 (fun _ => False)) (F0 m pc ls [vI x]) :=
  W.iret hC.1 hC.2.1 hr (fun t ht hW => ⟨iI x, rfl, by rw [h], ht⟩) (fun _ h => nomatch h) hdg hlocks
theorem z_bretR (hC : CallFix p m c cc nL s args tb own) (hr : meth.sig.returnType = some .boolean) (hlocks : meth.locks = false) {x v : Int} (h : x = v) (hx : x = 0 ∨ x = 1) (hdg : decode cc pc = .ok (.ireturn, 1)) : W p l e R s m args below meth c s.heap [] 0 0 (MQ below (vp_Si (fun r => r = iI v)) args s 0 0 (fun _ => False)) (F0 m pc ls [vI x]) :=
  W.zret hC.1 hC.2.1 hr (by rcases hx with rfl | rfl <;> rfl) (fun t ht hW => ⟨iI x, rfl, by rw [h], ht⟩) (fun _ h => nomatch h) hdg hlocks
theorem z_lretR (hC : CallFix p m c cc nL s args tb own) (hr : meth.sig.returnType = some .long) (hlocks : meth.locks = false) {x v : Int64} (h : x = v) (hdg : decode cc pc = .ok (.lreturn, 1)) : W p l e R s m args below meth c s.heap [] 0 0 (MQ below (vp_Sl (fun r => r = v)) args s 0 0 (fun _ => False)) (F0 m pc ls [.long x]) :=
  W.lret hC.1 hC.2.1 hr (fun t ht hW => ⟨x, rfl, h, ht⟩) (fun _ h => nomatch h) hdg hlocks
theorem z_iretW (hC : CallFix p m c cc nL s args tb own) (hr : meth.sig.returnType = some .int) (hlocks : meth.locks = false) {wc w1 : va_W} {S : Type} {post : Int32 → S → Prop} {wS : S → va_W} {sz : Nat} {x : Int} (u : S) (hA : A = va_A wc sz) (hP : va_P G.1 vwCl w1 H) (hD : va_D A w1) (hS : va_S A s.heap H locs) (is : List Nat) (hnd : va_nd is = true) (hs : is.map (fun i => w1[i]?) = (wS u).map some) (hs2 : is.filterMap (fun i => w1[i]?) = wS u) (hp : post (iI x) u) (hdg : decode cc pc = .ok (.ireturn, 1)) : W p l e R s m args below meth c H locs cells slots (MQ below (va_Qi post (fun u t => zB G wc sz (wS u) t) (va_A wc sz)) args s cells slots (va_A wc sz)) (F0 m pc ls [vI x]) := by
  subst hA
  exact W.iret hC.1 hC.2.1 hr (fun t ht hW => ⟨⟨iI x, u, rfl, hp, by rw [ht]; exact hP.sub is hs2, hD.sub is hnd hs⟩, hS.F ht⟩) hS.2.2 hdg hlocks
theorem z_bretW (hC : CallFix p m c cc nL s args tb own) (hr : meth.sig.returnType = some .boolean) (hlocks : meth.locks = false) {wc w1 : va_W} {S : Type} {post : Int32 → S → Prop} {wS : S → va_W} {sz : Nat} {x : Int} (u : S) (hA : A = va_A wc sz) (hP : va_P G.1 vwCl w1 H) (hD : va_D A w1) (hS : va_S A s.heap H locs) (is : List Nat) (hnd : va_nd is = true) (hs : is.map (fun i => w1[i]?) = (wS u).map some) (hs2 : is.filterMap (fun i => w1[i]?) = wS u) (hp : post (iI x) u) (hx : x = 0 ∨ x = 1) (hdg : decode cc pc = .ok (.ireturn, 1)) : W p l e R s m args below meth c H locs cells slots (MQ below (va_Qi post (fun u t => zB G wc sz (wS u) t) (va_A wc sz)) args s cells slots (va_A wc sz)) (F0 m pc ls [vI x]) := by
  subst hA
  exact W.zret hC.1 hC.2.1 hr (by rcases hx with rfl | rfl <;> rfl) (fun t ht hW => ⟨⟨iI x, u, rfl, hp, by rw [ht]; exact hP.sub is hs2, hD.sub is hnd hs⟩, hS.F ht⟩) hS.2.2 hdg hlocks
theorem z_lretW (hC : CallFix p m c cc nL s args tb own) (hr : meth.sig.returnType = some .long) (hlocks : meth.locks = false) {wc w1 : va_W} {S : Type} {post : Int64 → S → Prop} {wS : S → va_W} {sz : Nat} {x : Int64} (u : S) (hA : A = va_A wc sz) (hP : va_P G.1 vwCl w1 H) (hD : va_D A w1) (hS : va_S A s.heap H locs) (is : List Nat) (hnd : va_nd is = true) (hs : is.map (fun i => w1[i]?) = (wS u).map some) (hs2 : is.filterMap (fun i => w1[i]?) = wS u) (hp : post x u) (hdg : decode cc pc = .ok (.lreturn, 1)) : W p l e R s m args below meth c H locs cells slots (MQ below (va_Ql post (fun u t => zB G wc sz (wS u) t) (va_A wc sz)) args s cells slots (va_A wc sz)) (F0 m pc ls [.long x]) := by
  subst hA
  exact W.lret hC.1 hC.2.1 hr (fun t ht hW => ⟨⟨x, u, rfl, hp, by rw [ht]; exact hP.sub is hs2, hD.sub is hnd hs⟩, hS.F ht⟩) hS.2.2 hdg hlocks
theorem z_vretW (hC : CallFix p m c cc nL s args tb own) (hr : meth.sig.returnType = none) (hlocks : meth.locks = false) {wc w1 : va_W} {S : Type} {post : S → Prop} {wS : S → va_W} {sz : Nat} (u : S) (hA : A = va_A wc sz) (hP : va_P G.1 vwCl w1 H) (hD : va_D A w1) (hS : va_S A s.heap H locs) (is : List Nat) (hnd : va_nd is = true) (hs : is.map (fun i => w1[i]?) = (wS u).map some) (hs2 : is.filterMap (fun i => w1[i]?) = wS u) (hp : post u) (hdg : decode cc pc = .ok (.return_, 1)) : W p l e R s m args below meth c H locs cells slots (MQ below (va_Qv post (fun u t => zB G wc sz (wS u) t) (va_A wc sz)) args s cells slots (va_A wc sz)) (F0 m pc ls []) := by
  subst hA
  exact W.vret hC.1 hC.2.1 hr (fun t ht hW => ⟨⟨u, rfl, hp, by rw [ht]; exact hP.sub is hs2, hD.sub is hnd hs⟩, hS.F ht⟩) hS.2.2 hdg hlocks
end ZW
/-- what a body begins with -/
theorem z_begin {l : Launch} {y : MethodName} {cc : ByteArray} {maxL : Nat} {ret : Option FieldType} {rm : Room} {p : Program} {e : Env} {s : State} {m : MethodId} {args : Array Value} {below : List Frame} {meth : Method} {c : Code} {s₁ : State}
    (B : BodyLoose p l y (headSpec (Cond.code y cc maxL ret :: tb) rm) cc maxL ret e s m args below meth c s₁) (hml : c.maxLocals = maxL) : CallFix p m c cc maxL s args tb y.cls ∧ meth.sig.returnType = ret ∧ meth.locks = false :=
  ⟨⟨B.exec, B.bytes, hml, findClass_of_methodNamed B.named, fun w hw => atoms_spec (ws := Cond.code y cc maxL ret :: tb) B.pre w (List.mem_cons_of_mem _ hw)⟩, B.returns, B.notSynchronized⟩
theorem z_locals (vs : List Value) {n : Nat} (h : (lg_sl vs).length ≤ n) {m : MethodId} {P : JFrame → Prop} (k : ∀ ls : Array Slot, lv_has ls n (lv_args 0 vs) → P (F0 m 0 ls [])) : P (entryFrame m vs.toArray n) := by
  have hl := lv_entry vs h
  rw [lg_entry_eq]
  exact k _ hl
def zlshl (x : Int64) (k : Int) : Int64 := x <<< ((iI k).toInt64 &&& 63)
def zlushr (x : Int64) (k : Int) : Int64 := (x.toUInt64 >>> ((iI k).toInt64.toUInt64 &&& Int64.toUInt64 63)).toInt64
def zi2l (k : Int) : Int64 := (iI k).toInt64
theorem z_top {p : Program} {l : Launch} {e : Env} {R : Room} {s : State} {m : MethodId} {args : Array Value} {below : List Frame} {meth : Method} {c : Code} {H : Heap} {locs : List Loc} {cells slots : Nat} {Q : State → Prop} {pc : Nat} {ls : Array Slot} {rest : List Value} {x y : Int} (h : x = y) (k : W p l e R s m args below meth c H locs cells slots Q (F0 m pc ls (vI y :: rest))) : W p l e R s m args below meth c H locs cells slots Q (F0 m pc ls (vI x :: rest)) := h ▸ k
