/-! what is made anew -/
abbrev zPo (G : zGt) (ws : va_W) (sz : Nat) (av : List Value) : Array Value → State → Prop := va_Pc av (fun U => U.heap.size = sz ∧ va_P G.1 vwCl ws U.heap ∧ zK G U ∧ va_D (fun _ => True) ws ∧ va_AO "RescueBench$Make" U)
theorem zPo.blind {G : zGt} {ws : va_W} {sz : Nat} {av : List Value} : FrameBlind (zPo G ws sz av) := fun a U g mk q => ⟨q.1, q.2.1, q.2.2.1, q.2.2.2.1.same rfl, q.2.2.2.2.1, va_AO.moved (u := U) (U := U.calling g mk a) (Vm.Alike.refl _) q.2.2.2.2.2⟩
theorem cA_I {G : zGt} {s : State} {cA : ClassId} (h : va_K G.1 vwCl (TY3 G ++ [(cA, .int)]) s) : cA = G.2.1 := by
  have h1 : s.vm.findClass ("[" ++ FieldType.int.toString) = some G.2.1 := (h.2 0 (G.2.1, .int) rfl).2
  have h2 : s.vm.findClass ("[" ++ FieldType.int.toString) = some cA := (h.2 3 (cA, .int) rfl).2
  exact Option.some.inj (h2.symm.trans h1)
theorem cA_J {G : zGt} {s : State} {cA : ClassId} (h : va_K G.1 vwCl (TY3 G ++ [(cA, .long)]) s) : cA = G.2.2.1 := by
  have h1 : s.vm.findClass ("[" ++ FieldType.long.toString) = some G.2.2.1 := (h.2 1 (G.2.2.1, .long) rfl).2
  have h2 : s.vm.findClass ("[" ++ FieldType.long.toString) = some cA := (h.2 3 (cA, .long) rfl).2
  exact Option.some.inj (h2.symm.trans h1)
theorem cA_R {G : zGt} {s : State} {cA : ClassId} (h : va_K G.1 vwCl (TY3 G ++ [(cA, .object "RescueBench$Make")]) s) : cA = G.2.2.2 := by
  obtain ⟨k1, c1, -, -, -, h1⟩ := (show ∃ (kA : Class) (comp : ClassId), s.vm.classes[G.2.2.2]? = some kA ∧ kA.kind = .array comp (.object "RescueBench$Make") ∧ s.vm.findClass "RescueBench$Make" = some comp ∧ s.vm.findClass ("[" ++ (FieldType.object "RescueBench$Make").toString) = some G.2.2.2 from (h.2 2 (G.2.2.2, .object "RescueBench$Make") rfl).2)
  obtain ⟨k2, c2, -, -, -, h2⟩ := (show ∃ (kA : Class) (comp : ClassId), s.vm.classes[cA]? = some kA ∧ kA.kind = .array comp (.object "RescueBench$Make") ∧ s.vm.findClass "RescueBench$Make" = some comp ∧ s.vm.findClass ("[" ++ (FieldType.object "RescueBench$Make").toString) = some cA from (h.2 3 (cA, .object "RescueBench$Make") rfl).2)
  exact Option.some.inj (h2.symm.trans h1)
section ZCt
variable {p : Program} {l : Launch} {e : Env} {R : Room} {s : State} {m : MethodId} {args : Array Value} {below : List Frame} {meth : Method} {c : Code} {H : Heap} {locs : List Loc} {cells slots : Nat} {Q : State → Prop}
variable {cc : ByteArray} {pc nL : Nat} {ls : Array Slot} {rest st0 : List Value} {G : zGt} {A : Nat → Prop} {H0 : Heap} {ws : va_W} {own : String} {a : Nat}
theorem z_new (hC : CallFix p m c cc nL s args tb own) (hK : zK G s) (hP : va_P G.1 vwCl ws H) (hD : va_D A ws) (hS : va_S A H0 H locs) (hA : ∀ q, H0.size ≤ q → A q) {C : String} {T : u_T} {N ci index : Nat} (hin : ∀ w ∈ u_ws C T N, w ∈ tb) (ty0 : Nat → FieldType) (hty : ∀ k, k < N → parseFieldDescriptor (T k).2.2.1 = some (ty0 k)) (hcl : Cond.classLink own index C ∈ tb) (hinst : Cond.instantiable C N ∈ tb) (hini : Cond.initialized C ∈ tb) (hc : vwCl[ci]? = some (C, T, N)) {fs : List Value} (hfs : ∀ j, j < N → defaultValue (ty0 j) = vp_V fs j) (hcells : cells + 1 ≤ R.cells) (hslots : slots + N ≤ R.slots) (hdg : decode cc pc = .ok (.new index, 3))
    (kk : ∀ (q : Nat) (H1 : Heap), va_P G.1 vwCl (ws ++ [(q, ob ci fs)]) H1 → va_D A (ws ++ [(q, ob ci fs)]) → va_S A H0 H1 locs → W p l e R s m args below meth c H1 locs (cells + 1) (slots + N) Q (F0 m (pc + 3) ls (.ref q :: rest))) : W p l e R s m args below meth c H locs cells slots Q (F0 m pc ls rest) :=
  va_new hC.1 hC.2.1 hC.2.2.2.2 hin ty0 hty hC.2.2.2.1 (hC.2.2.2.2 _ hcl) (hC.2.2.2.2 _ hinst) (hC.2.2.2.2 _ hini) hK.1 hP hD hS hA hc hfs hcells hslots hdg kk
theorem z_newaI (hC : CallFix p m c cc nL s args tb own) (hK : zK G s) (hP : va_P G.1 vwCl ws H) (hD : va_D A ws) (hS : va_S A H0 H locs) (hA : ∀ q, H0.size ≤ q → A q) {n : Int} {N : Nat} (hn : n = (N : Int)) (hb1 : N < 100000) (harr : Cond.arrayClass .int ∈ tb) (hcells : cells + 1 ≤ R.cells) (hslots : slots + N ≤ R.slots) (hdg : decode cc pc = .ok (.newarray .int, 2))
    (kk : ∀ (q : Nat) (H1 : Heap), va_P G.1 vwCl (ws ++ [(q, aI G N (fun _ => 0))]) H1 → va_D A (ws ++ [(q, aI G N (fun _ => 0))]) → va_S A H0 H1 locs → W p l e R s m args below meth c H1 locs (cells + 1) (slots + N) Q (F0 m (pc + 2) ls (.ref q :: rest))) : W p l e R s m args below meth c H locs cells slots Q (F0 m pc ls (vI n :: rest)) := by
  subst hn
  refine va_newa (atype := .int) (a0 := (N, .inl (zA (fun _ => 0)))) hC.1 hC.2.1 (hC.2.2.2.2 _ harr) rfl hK.1 hP hD hS hA (fun cA => rfl) (iI_nneg ⟨by omega, by omega⟩) (by rw [iI_clamp ⟨by omega, by omega⟩]; rfl) (by show N * 4 ≤ 536870912; omega) hcells hslots hdg (fun q cA H1 hK2 hP1 hD1 hS1 => ?_)
  have e := cA_I hK2
  subst e
  exact kk q H1 hP1 hD1 hS1
theorem z_newaJ (hC : CallFix p m c cc nL s args tb own) (hK : zK G s) (hP : va_P G.1 vwCl ws H) (hD : va_D A ws) (hS : va_S A H0 H locs) (hA : ∀ q, H0.size ≤ q → A q) {n : Int} {N : Nat} (hn : n = (N : Int)) (hb1 : N < 100000) (harr : Cond.arrayClass .long ∈ tb) (hcells : cells + 1 ≤ R.cells) (hslots : slots + N ≤ R.slots) (hdg : decode cc pc = .ok (.newarray .long, 2))
    (kk : ∀ (q : Nat) (H1 : Heap), va_P G.1 vwCl (ws ++ [(q, aJ G N (fun _ => 0))]) H1 → va_D A (ws ++ [(q, aJ G N (fun _ => 0))]) → va_S A H0 H1 locs → W p l e R s m args below meth c H1 locs (cells + 1) (slots + N) Q (F0 m (pc + 2) ls (.ref q :: rest))) : W p l e R s m args below meth c H locs cells slots Q (F0 m pc ls (vI n :: rest)) := by
  subst hn
  refine va_newa (atype := .long) (a0 := (N, .inr (.inl (zG (fun _ => 0))))) hC.1 hC.2.1 (hC.2.2.2.2 _ harr) rfl hK.1 hP hD hS hA (fun cA => rfl) (iI_nneg ⟨by omega, by omega⟩) (by rw [iI_clamp ⟨by omega, by omega⟩]; rfl) (by show N * 8 ≤ 536870912; omega) hcells hslots hdg (fun q cA H1 hK2 hP1 hD1 hS1 => ?_)
  have e := cA_J hK2
  subst e
  exact kk q H1 hP1 hD1 hS1
theorem z_newaR (hC : CallFix p m c cc nL s args tb own) (hAO : va_AO "RescueBench$Make" s) (hK : zK G s) (hP : va_P G.1 vwCl ws H) (hD : va_D A ws) (hS : va_S A H0 H locs) (hA : ∀ q, H0.size ≤ q → A q) {n : Int} {N index : Nat} (hn : n = (N : Int)) (hb1 : N < 100000) (hcl : Cond.classLink own index "RescueBench$Make" ∈ tb) (hcells : cells + 1 ≤ R.cells) (hslots : slots + N ≤ R.slots) (hdg : decode cc pc = .ok (.anewarray index, 3))
    (kk : ∀ (q : Nat) (H1 : Heap), va_P G.1 vwCl (ws ++ [(q, aR G N (fun _ => none))]) H1 → va_D A (ws ++ [(q, aR G N (fun _ => none))]) → va_S A H0 H1 locs → W p l e R s m args below meth c H1 locs (cells + 1) (slots + N) Q (F0 m (pc + 3) ls (.ref q :: rest))) : W p l e R s m args below meth c H locs cells slots Q (F0 m pc ls (vI n :: rest)) := by
  subst hn
  refine va_newq hC.1 hC.2.1 hC.2.2.2.1 (hC.2.2.2.2 _ hcl) hAO hK.1 hP hD hS hA (iI_nneg ⟨by omega, by omega⟩) (by rw [iI_clamp ⟨by omega, by omega⟩]; rfl) (by omega) hcells hslots hdg (fun q cA H1 hK2 hP1 hD1 hS1 => ?_)
  have e := cA_R hK2
  subst e
  exact kk q H1 hP1 hD1 hS1
theorem z_aast (hC : CallFix p m c cc nL s args tb own) (hK : zK G s) (hP : va_P G.1 vwCl ws H) (hD : va_D A ws) (hS : va_S A H0 H locs) (q0 qk : Nat) {n v : Nat} {vs : List Value} {F : Int → Option Nat} (ha : ws[q0]? = some (a, aR G n F)) (hv : ws[qk]? = some (v, ob 4 vs)) {i : Int} (hi : 0 ≤ i ∧ i < (n : Int)) (hn : n < 2147483648) {ws' : va_W} (hws : ws.set q0 (a, aR G n (zup F i (some v))) = ws') (hdg : decode cc pc = .ok (.aastore, 1))
    (kk : ∀ (H1 : Heap) (locs1 : List Loc), va_P G.1 vwCl ws' H1 → va_D A ws' → va_S A H0 H1 locs1 → W p l e R s m args below meth c H1 locs1 cells slots Q (F0 m (pc + 1) ls rest)) : W p l e R s m args below meth c H locs cells slots Q (F0 m pc ls (.ref v :: vI i :: .ref a :: rest)) := by
  subst hws
  refine va_astq (r := (RX4, TX4, 6)) hC.1 hC.2.1 hK.1 hP hD hS q0 2 qk 4 ha rfl hv rfl (iI_in hi hn) hdg ?_
  rw [zG_up ⟨hi.1, by omega⟩]
  exact kk
theorem z_wI (hC : CallFix p m c cc nL s args tb own) (hK : zK G s) (hP : va_P G.1 vwCl ws H) (hD : va_D A ws) (hS : va_S A H0 H locs) (hA : ∀ q, H0.size ≤ q → A q) {y : MethodName} {bytes : ByteArray} {maxL n index b mc ms : Nat} {rm : Room} {As : List Value} {wc wr : va_W} {S : Type} {post : S → Prop} {w1 : S → va_W}
    (hM : Met l y (Cond.code y bytes maxL none :: tb) rm (zPw G wc H.size (.ref b :: As)) (va_Qv post (fun u t => zB G wc H.size (w1 u) t) (va_A wc H.size)) mc ms (va_A wc H.size)) (hm : zMI y bytes maxL n) (hl : Cond.methodLink own index y ∈ tb)
    (is ir : List Nat) (hi1 : is.map (fun i => ws[i]?) = wc.map some) (hi2 : ir.map (fun i => ws[i]?) = wr.map some) (hn1 : va_nd is = true) (hn2 : va_nd ir = true) (hdis : ∀ i ∈ ir, i ∉ is) (hs : is.filterMap (fun i => ws[i]?) = wc) (hn : As.length = n) (hsz : ls.size = nL) (hst : st0 = As.reverse ++ .ref b :: rest) (hW : (rest.map fun v => v.category).sum ≤ 8)
    (hR : rm.cells = mc ∧ rm.slots = ms ∧ rm.frames + 1 ≤ R.frames ∧ 8 + (maxL + 11) + rm.locals ≤ R.locals) (hf : cells + mc ≤ R.cells ∧ slots + ms ≤ R.slots) (hdg : decode cc pc = .ok (.invokespecial index, 3))
    (kk : ∀ (u : S) (H1 : Heap) (locs1 : List Loc), post u → va_P G.1 vwCl (wr ++ w1 u) H1 → va_D A (wr ++ w1 u) → va_S A H0 H1 locs1 → W p l e R s m args below meth c H1 locs1 (cells + mc) (slots + ms) Q (F0 m (pc + 3) ls rest)) : W p l e R s m args below meth c H locs cells slots Q (F0 m pc ls st0) := by
  have hFc := va_free (wc := wc) hD hS hA is hi1
  refine va_callv (va_runI (rest := rest) (As := As) (b := b) hC hM (cwI n hC.2.2.2.2 (tb_in (tb_c hm.1 (fun _ h => h))) rfl hR.1 hR.2.1 (hC.2.2.2.2 _ hm.2.2.1) (hC.2.2.2.2 _ hl) (hC.2.2.2.2 _ hm.2.1) hm.2.2.2.1 hm.2.2.2.2 hR.2.2) ⟨zPw.blind, fun U hU hW => ⟨rfl, by rw [hU], by rw [hU]; exact hP.sub is hs, hK.warm hW, (hD.sub is hn1 hi1).weaken (fun _ _ _ _ => trivial)⟩⟩ rfl hn hsz hst (lv_room hW) hdg hf) hS (fun q _ h => hFc q h) hFc (fun u t H1 locs1 ht hvm hw hB hz1 hk1 hS1 => ?_)
  obtain ⟨h1, h2⟩ := z_jo hP hD is ir hi1 hi2 hn2 hdis rfl ht hk1 hFc hB
  exact kk u H1 locs1 hw h1 h2 hS1
theorem z_wIo (hC : CallFix p m c cc nL s args tb own) (hAO : va_AO "RescueBench$Make" s) (hK : zK G s) (hP : va_P G.1 vwCl ws H) (hD : va_D A ws) (hS : va_S A H0 H locs) (hA : ∀ q, H0.size ≤ q → A q) {y : MethodName} {bytes : ByteArray} {maxL n index b mc ms : Nat} {rm : Room} {As : List Value} {wc wr : va_W} {S : Type} {post : S → Prop} {w1 : S → va_W}
    (hM : Met l y (Cond.code y bytes maxL none :: tb) rm (zPo G wc H.size (.ref b :: As)) (va_Qv post (fun u t => zB G wc H.size (w1 u) t) (va_A wc H.size)) mc ms (va_A wc H.size)) (hm : zMI y bytes maxL n) (hl : Cond.methodLink own index y ∈ tb)
    (is ir : List Nat) (hi1 : is.map (fun i => ws[i]?) = wc.map some) (hi2 : ir.map (fun i => ws[i]?) = wr.map some) (hn1 : va_nd is = true) (hn2 : va_nd ir = true) (hdis : ∀ i ∈ ir, i ∉ is) (hs : is.filterMap (fun i => ws[i]?) = wc) (hn : As.length = n) (hsz : ls.size = nL) (hst : st0 = As.reverse ++ .ref b :: rest) (hW : (rest.map fun v => v.category).sum ≤ 8)
    (hR : rm.cells = mc ∧ rm.slots = ms ∧ rm.frames + 1 ≤ R.frames ∧ 8 + (maxL + 11) + rm.locals ≤ R.locals) (hf : cells + mc ≤ R.cells ∧ slots + ms ≤ R.slots) (hdg : decode cc pc = .ok (.invokespecial index, 3))
    (kk : ∀ (u : S) (H1 : Heap) (locs1 : List Loc), post u → va_P G.1 vwCl (wr ++ w1 u) H1 → va_D A (wr ++ w1 u) → va_S A H0 H1 locs1 → W p l e R s m args below meth c H1 locs1 (cells + mc) (slots + ms) Q (F0 m (pc + 3) ls rest)) : W p l e R s m args below meth c H locs cells slots Q (F0 m pc ls st0) := by
  have hFc := va_free (wc := wc) hD hS hA is hi1
  refine va_callv (va_runI (rest := rest) (As := As) (b := b) hC hM (cwI n hC.2.2.2.2 (tb_in (tb_c hm.1 (fun _ h => h))) rfl hR.1 hR.2.1 (hC.2.2.2.2 _ hm.2.2.1) (hC.2.2.2.2 _ hl) (hC.2.2.2.2 _ hm.2.1) hm.2.2.2.1 hm.2.2.2.2 hR.2.2) ⟨zPo.blind, fun U hU hW => ⟨rfl, by rw [hU], by rw [hU]; exact hP.sub is hs, hK.warm hW, (hD.sub is hn1 hi1).weaken (fun _ _ _ _ => trivial), va_AO.moved hW.alike hAO⟩⟩ rfl hn hsz hst (lv_room hW) hdg hf) hS (fun q _ h => hFc q h) hFc (fun u t H1 locs1 ht hvm hw hB hz1 hk1 hS1 => ?_)
  obtain ⟨h1, h2⟩ := z_jo hP hD is ir hi1 hi2 hn2 hdis rfl ht hk1 hFc hB
  exact kk u H1 locs1 hw h1 h2 hS1
end ZCt
theorem mi_X1_init : zMI yX1_init cX1_init 1 0 := ⟨tw_67, tw_66, tw_36, rfl, by decide +kernel⟩
theorem mi_X4_init : zMI yX4_init cX4_init 4 3 := ⟨tw_562, tw_561, tw_47, rfl, by decide +kernel⟩
set_option maxRecDepth 100000 in
set_option maxHeartbeats 4000000 in
theorem c_X1_init (l : Launch) (G : zGt) (sz : Nat) (h0 : Nat)  : Met l yX1_init (Cond.code yX1_init cX1_init 1 none :: tb) ({ frames := 1, cells := 1, slots := 24, locals := 12 } : Room) (zPw G [(h0, ob 1 [.null, vI 0])] sz [.ref h0]) (va_Qv (fun u : Nat => True) (fun (u : Nat) t => zB G [(h0, ob 1 [.null, vI 0])] sz [(h0, ob 1 [.ref u, vI 0]), (u, aJ G 24 (fun _ => 0))] t) (va_A [(h0, ob 1 [.null, vI 0])] sz)) 1 24 (va_A [(h0, ob 1 [.null, vI 0])] sz) := by
  refine Met.ofW (cc := cX1_init) (maxL := 1) (ret := none) (by decide) rfl ?_
  intro p e s m args below meth c s₁ B hml hv
  obtain ⟨rfl, hsz, hP, hK, hD0⟩ := hv
  subst hsz
  have hD := hD0.self (sz := s.heap.size)
  obtain ⟨A, hAe⟩ : ∃ A : Nat → Prop, A = va_A [(h0, ob 1 [.null, vI 0])] s.heap.size := ⟨_, rfl⟩
  rw [← hAe] at hD
  have hA : ∀ q : Nat, s.heap.size ≤ q → A q := fun q h => by rw [hAe]; exact Or.inr h
  have hS : va_S A s.heap s.heap [] := va_S.rf
  have hin : meth.name = "<init>" := (name_of_methodNamed B.named B.method).1
  obtain ⟨hC, hr, hlk⟩ := z_begin B hml
  have hC : CallFix p m c cX1_init 1 s _ tb RX1 := hC
  have hx := hC.1
  have hb := hC.2.1
  have hl := lv_entry ([.ref h0]) (n := 1) (Nat.le_of_ble_eq_true rfl)
  rw [lg_entry_eq]
  generalize (lg_sl ([.ref h0]) ++ List.replicate (1 - (lg_sl ([.ref h0])).length) Slot.unset).toArray = ls at hl ⊢
  have hl : lv_has ls 1 [(0, .ref h0)] := hl
  obtain ⟨H, hHe⟩ : ∃ H : Heap, H = s.heap := ⟨_, rfl⟩
  obtain ⟨locs, hLe⟩ : ∃ L : List Loc, L = [] := ⟨_, rfl⟩
  suffices hgo : W p l e (headSpec (Cond.code yX1_init cX1_init 1 none :: tb) ({ frames := 1, cells := 1, slots := 24, locals := 12 } : Room)).room s m ([.ref h0] : List Value).toArray below meth c H locs 0 0 (MQ below (va_Qv (fun u : Nat => True) (fun (u : Nat) t => zB G [(h0, ob 1 [.null, vI 0])] s.heap.size [(h0, ob 1 [.ref u, vI 0]), (u, aJ G 24 (fun _ => 0))] t) (va_A [(h0, ob 1 [.null, vI 0])] s.heap.size)) ([.ref h0] : List Value).toArray s 1 24 (va_A [(h0, ob 1 [.null, vI 0])] s.heap.size)) (F0 m 0 ls []) by rw [hHe, hLe] at hgo; exact hgo
  rw [← hHe] at hP
  have hS : va_S A s.heap H locs := by rw [hHe, hLe]; exact hS
  clear hHe hLe
  refine lv_aload_n hx hb dX1_init_0 rfl (lv_at hl 0 rfl) ?_
  refine W.objInit hx hb hC.2.2.2.1 (hC.2.2.2.2 _ tw_68) (hC.2.2.2.2 _ tw_59) (hC.2.2.2.2 _ tw_60) rfl (by rw [hml]; exact hl.1) rfl dX1_init_1 (Nat.le_of_ble_eq_true rfl) (Nat.le_of_ble_eq_true rfl) ?_
  refine lv_aload_n hx hb dX1_init_4 rfl (lv_at hl 0 rfl) ?_
  refine lv_bipush (v := iI 24) hx hb dX1_init_5 (by decide) ?_
  refine z_newaJ (N := 24) hC hK hP hD hS hA rfl (by decide) tw_76 (Nat.le_of_ble_eq_true rfl) (Nat.le_of_ble_eq_true rfl) dX1_init_7 (fun q7 H hP hD hS => ?_)
  have hP : va_P G.1 vwCl [(h0, ob 1 [.null, vI 0]), (q7, aJ G 24 (fun _ => 0))] H := hP
  have hD : va_D A [(h0, ob 1 [.null, vI 0]), (q7, aJ G 24 (fun _ => 0))] := hD
  refine z_putF (ws' := [(h0, ob 1 [.ref q7, vI 0]), (q7, aJ G 24 (fun _ => 0))]) hC hK hP hD hS inX1 tyX1 tyX1_ok nmX1 rfl hin 0 rfl 0 (by decide) tw_69 rfl rfl rfl rfl (Nat.le_of_ble_eq_true rfl) rfl dX1_init_9 (fun H locs hP hD hS => ?_)
  refine lv_aload_n hx hb dX1_init_12 rfl (lv_at hl 0 rfl) ?_
  refine lv_iconst (v := iI 0) hx hb dX1_init_13 rfl ?_
  refine z_put (ws' := [(h0, ob 1 [.ref q7, vI 0]), (q7, aJ G 24 (fun _ => 0))]) hC hK hP hD hS inX1 tyX1 tyX1_ok nmX1 rfl 0 rfl 1 (by decide) tw_70 rfl rfl rfl (Nat.le_of_ble_eq_true rfl) rfl dX1_init_14 (fun H locs hP hD hS => ?_)
  exact z_vretW hC hr hlk q7 hAe hP hD hS [0, 1] (by decide) rfl rfl (trivial) dX1_init_17

set_option maxRecDepth 100000 in
set_option maxHeartbeats 4000000 in
theorem c_X3_init (l : Launch) (G : zGt) (sz : Nat) (e0 : Nat)  : Met l yX3_init (Cond.code yX3_init cX3_init 1 none :: tb) ({ frames := 1, cells := 1, slots := 36, locals := 12 } : Room) (zPw G [(e0, ob 3 [.null, vI 0])] sz [.ref e0]) (va_Qv (fun u : Nat => True) (fun (u : Nat) t => zB G [(e0, ob 3 [.null, vI 0])] sz [(e0, ob 3 [.ref u, vI 0]), (u, aI G 36 (fun _ => 0))] t) (va_A [(e0, ob 3 [.null, vI 0])] sz)) 1 36 (va_A [(e0, ob 3 [.null, vI 0])] sz) := by
  refine Met.ofW (cc := cX3_init) (maxL := 1) (ret := none) (by decide) rfl ?_
  intro p e s m args below meth c s₁ B hml hv
  obtain ⟨rfl, hsz, hP, hK, hD0⟩ := hv
  subst hsz
  have hD := hD0.self (sz := s.heap.size)
  obtain ⟨A, hAe⟩ : ∃ A : Nat → Prop, A = va_A [(e0, ob 3 [.null, vI 0])] s.heap.size := ⟨_, rfl⟩
  rw [← hAe] at hD
  have hA : ∀ q : Nat, s.heap.size ≤ q → A q := fun q h => by rw [hAe]; exact Or.inr h
  have hS : va_S A s.heap s.heap [] := va_S.rf
  have hin : meth.name = "<init>" := (name_of_methodNamed B.named B.method).1
  obtain ⟨hC, hr, hlk⟩ := z_begin B hml
  have hC : CallFix p m c cX3_init 1 s _ tb RX3 := hC
  have hx := hC.1
  have hb := hC.2.1
  have hl := lv_entry ([.ref e0]) (n := 1) (Nat.le_of_ble_eq_true rfl)
  rw [lg_entry_eq]
  generalize (lg_sl ([.ref e0]) ++ List.replicate (1 - (lg_sl ([.ref e0])).length) Slot.unset).toArray = ls at hl ⊢
  have hl : lv_has ls 1 [(0, .ref e0)] := hl
  obtain ⟨H, hHe⟩ : ∃ H : Heap, H = s.heap := ⟨_, rfl⟩
  obtain ⟨locs, hLe⟩ : ∃ L : List Loc, L = [] := ⟨_, rfl⟩
  suffices hgo : W p l e (headSpec (Cond.code yX3_init cX3_init 1 none :: tb) ({ frames := 1, cells := 1, slots := 36, locals := 12 } : Room)).room s m ([.ref e0] : List Value).toArray below meth c H locs 0 0 (MQ below (va_Qv (fun u : Nat => True) (fun (u : Nat) t => zB G [(e0, ob 3 [.null, vI 0])] s.heap.size [(e0, ob 3 [.ref u, vI 0]), (u, aI G 36 (fun _ => 0))] t) (va_A [(e0, ob 3 [.null, vI 0])] s.heap.size)) ([.ref e0] : List Value).toArray s 1 36 (va_A [(e0, ob 3 [.null, vI 0])] s.heap.size)) (F0 m 0 ls []) by rw [hHe, hLe] at hgo; exact hgo
  rw [← hHe] at hP
  have hS : va_S A s.heap H locs := by rw [hHe, hLe]; exact hS
  clear hHe hLe
  refine lv_aload_n hx hb dX3_init_0 rfl (lv_at hl 0 rfl) ?_
  refine W.objInit hx hb hC.2.2.2.1 (hC.2.2.2.2 _ tw_82) (hC.2.2.2.2 _ tw_59) (hC.2.2.2.2 _ tw_60) rfl (by rw [hml]; exact hl.1) rfl dX3_init_1 (Nat.le_of_ble_eq_true rfl) (Nat.le_of_ble_eq_true rfl) ?_
  refine lv_aload_n hx hb dX3_init_4 rfl (lv_at hl 0 rfl) ?_
  refine lv_bipush (v := iI 36) hx hb dX3_init_5 (by decide) ?_
  refine z_newaI (N := 36) hC hK hP hD hS hA rfl (by decide) tw_90 (Nat.le_of_ble_eq_true rfl) (Nat.le_of_ble_eq_true rfl) dX3_init_7 (fun q7 H hP hD hS => ?_)
  have hP : va_P G.1 vwCl [(e0, ob 3 [.null, vI 0]), (q7, aI G 36 (fun _ => 0))] H := hP
  have hD : va_D A [(e0, ob 3 [.null, vI 0]), (q7, aI G 36 (fun _ => 0))] := hD
  refine z_putF (ws' := [(e0, ob 3 [.ref q7, vI 0]), (q7, aI G 36 (fun _ => 0))]) hC hK hP hD hS inX3 tyX3 tyX3_ok nmX3 rfl hin 0 rfl 0 (by decide) tw_83 rfl rfl rfl rfl (Nat.le_of_ble_eq_true rfl) rfl dX3_init_9 (fun H locs hP hD hS => ?_)
  refine lv_aload_n hx hb dX3_init_12 rfl (lv_at hl 0 rfl) ?_
  refine lv_iconst (v := iI 0) hx hb dX3_init_13 rfl ?_
  refine z_put (ws' := [(e0, ob 3 [.ref q7, vI 0]), (q7, aI G 36 (fun _ => 0))]) hC hK hP hD hS inX3 tyX3 tyX3_ok nmX3 rfl 0 rfl 1 (by decide) tw_84 rfl rfl rfl (Nat.le_of_ble_eq_true rfl) rfl dX3_init_14 (fun H locs hP hD hS => ?_)
  exact z_vretW hC hr hlk q7 hAe hP hD hS [0, 1] (by decide) rfl rfl (trivial) dX3_init_17

set_option maxRecDepth 100000 in
set_option maxHeartbeats 4000000 in
theorem c_X2_init (l : Launch) (G : zGt) (sz : Nat) (f0 : Nat)  : Met l yX2_init (Cond.code yX2_init cX2_init 1 none :: tb) ({ frames := 2, cells := 3, slots := 66, locals := 32 } : Room) (zPw G [(f0, ob 2 [.null, .null, vI 0, vI 0])] sz [.ref f0]) (va_Qv (fun u : Nat × Nat × Nat => True) (fun (u : Nat × Nat × Nat) t => zB G [(f0, ob 2 [.null, .null, vI 0, vI 0])] sz [(f0, ob 2 [.ref u.1, .ref u.2.2, vI 0, vI 0]), (u.2.2, aI G 40 (fun _ => 0)), (u.1, ob 1 [.ref u.2.1, vI 0]), (u.2.1, aJ G 24 (fun _ => 0))] t) (va_A [(f0, ob 2 [.null, .null, vI 0, vI 0])] sz)) 3 66 (va_A [(f0, ob 2 [.null, .null, vI 0, vI 0])] sz) := by
  refine Met.ofW (cc := cX2_init) (maxL := 1) (ret := none) (by decide) rfl ?_
  intro p e s m args below meth c s₁ B hml hv
  obtain ⟨rfl, hsz, hP, hK, hD0⟩ := hv
  subst hsz
  have hD := hD0.self (sz := s.heap.size)
  obtain ⟨A, hAe⟩ : ∃ A : Nat → Prop, A = va_A [(f0, ob 2 [.null, .null, vI 0, vI 0])] s.heap.size := ⟨_, rfl⟩
  rw [← hAe] at hD
  have hA : ∀ q : Nat, s.heap.size ≤ q → A q := fun q h => by rw [hAe]; exact Or.inr h
  have hS : va_S A s.heap s.heap [] := va_S.rf
  have hin : meth.name = "<init>" := (name_of_methodNamed B.named B.method).1
  obtain ⟨hC, hr, hlk⟩ := z_begin B hml
  have hC : CallFix p m c cX2_init 1 s _ tb RX2 := hC
  have hx := hC.1
  have hb := hC.2.1
  have hl := lv_entry ([.ref f0]) (n := 1) (Nat.le_of_ble_eq_true rfl)
  rw [lg_entry_eq]
  generalize (lg_sl ([.ref f0]) ++ List.replicate (1 - (lg_sl ([.ref f0])).length) Slot.unset).toArray = ls at hl ⊢
  have hl : lv_has ls 1 [(0, .ref f0)] := hl
  obtain ⟨H, hHe⟩ : ∃ H : Heap, H = s.heap := ⟨_, rfl⟩
  obtain ⟨locs, hLe⟩ : ∃ L : List Loc, L = [] := ⟨_, rfl⟩
  suffices hgo : W p l e (headSpec (Cond.code yX2_init cX2_init 1 none :: tb) ({ frames := 2, cells := 3, slots := 66, locals := 32 } : Room)).room s m ([.ref f0] : List Value).toArray below meth c H locs 0 0 (MQ below (va_Qv (fun u : Nat × Nat × Nat => True) (fun (u : Nat × Nat × Nat) t => zB G [(f0, ob 2 [.null, .null, vI 0, vI 0])] s.heap.size [(f0, ob 2 [.ref u.1, .ref u.2.2, vI 0, vI 0]), (u.2.2, aI G 40 (fun _ => 0)), (u.1, ob 1 [.ref u.2.1, vI 0]), (u.2.1, aJ G 24 (fun _ => 0))] t) (va_A [(f0, ob 2 [.null, .null, vI 0, vI 0])] s.heap.size)) ([.ref f0] : List Value).toArray s 3 66 (va_A [(f0, ob 2 [.null, .null, vI 0, vI 0])] s.heap.size)) (F0 m 0 ls []) by rw [hHe, hLe] at hgo; exact hgo
  rw [← hHe] at hP
  have hS : va_S A s.heap H locs := by rw [hHe, hLe]; exact hS
  clear hHe hLe
  refine lv_aload_n hx hb dX2_init_0 rfl (lv_at hl 0 rfl) ?_
  refine W.objInit hx hb hC.2.2.2.1 (hC.2.2.2.2 _ tw_96) (hC.2.2.2.2 _ tw_59) (hC.2.2.2.2 _ tw_60) rfl (by rw [hml]; exact hl.1) rfl dX2_init_1 (Nat.le_of_ble_eq_true rfl) (Nat.le_of_ble_eq_true rfl) ?_
  refine lv_aload_n hx hb dX2_init_4 rfl (lv_at hl 0 rfl) ?_
  refine z_new (ci := 1) (fs := [.null, vI 0]) hC hK hP hD hS hA inX1 tyX1 tyX1_ok tw_97 tw_64 tw_36 rfl (fun j hj => by rcases (show j = 0 ∨ j = 1 by omega) with h | h <;> (subst h; rfl)) (Nat.le_of_ble_eq_true rfl) (Nat.le_of_ble_eq_true rfl) dX2_init_5 (fun q5 H hP hD hS => ?_)
  have hP : va_P G.1 vwCl [(f0, ob 2 [.null, .null, vI 0, vI 0]), (q5, ob 1 [.null, vI 0])] H := hP
  have hD : va_D A [(f0, ob 2 [.null, .null, vI 0, vI 0]), (q5, ob 1 [.null, vI 0])] := hD
  refine lv_dup hx hb dX2_init_8 rfl ?_
  refine z_wI (b := q5) (rest := [.ref q5, .ref f0]) (wr := [(f0, ob 2 [.null, .null, vI 0, vI 0])]) hC hK hP hD hS hA (c_X1_init l G H.size q5) mi_X1_init tw_98 [1] [0] rfl rfl rfl rfl (by decide) rfl rfl hl.1 rfl (Nat.le_of_ble_eq_true rfl) ⟨rfl, rfl, Nat.le_of_ble_eq_true rfl, Nat.le_of_ble_eq_true rfl⟩ ⟨Nat.le_of_ble_eq_true rfl, Nat.le_of_ble_eq_true rfl⟩ dX2_init_9 (fun u H locs hw hP hD hS => ?_)
  obtain ⟨h1'_1, rfl⟩ : ∃ z, z = u := ⟨_, rfl⟩
  have hP : va_P G.1 vwCl [(f0, ob 2 [.null, .null, vI 0, vI 0]), (q5, ob 1 [.ref h1'_1, vI 0]), (h1'_1, aJ G 24 (fun _ => 0))] H := hP
  have hD : va_D A [(f0, ob 2 [.null, .null, vI 0, vI 0]), (q5, ob 1 [.ref h1'_1, vI 0]), (h1'_1, aJ G 24 (fun _ => 0))] := hD
  have hw_1 := hw
  refine z_putF (ws' := [(f0, ob 2 [.ref q5, .null, vI 0, vI 0]), (q5, ob 1 [.ref h1'_1, vI 0]), (h1'_1, aJ G 24 (fun _ => 0))]) hC hK hP hD hS inX2 tyX2 tyX2_ok nmX2 rfl hin 0 rfl 0 (by decide) tw_99 rfl rfl rfl rfl (Nat.le_of_ble_eq_true rfl) rfl dX2_init_12 (fun H locs hP hD hS => ?_)
  refine lv_aload_n hx hb dX2_init_15 rfl (lv_at hl 0 rfl) ?_
  refine lv_bipush (v := iI 40) hx hb dX2_init_16 (by decide) ?_
  refine z_newaI (N := 40) hC hK hP hD hS hA rfl (by decide) tw_90 (Nat.le_of_ble_eq_true rfl) (Nat.le_of_ble_eq_true rfl) dX2_init_18 (fun q18 H hP hD hS => ?_)
  have hP : va_P G.1 vwCl [(f0, ob 2 [.ref q5, .null, vI 0, vI 0]), (q5, ob 1 [.ref h1'_1, vI 0]), (h1'_1, aJ G 24 (fun _ => 0)), (q18, aI G 40 (fun _ => 0))] H := hP
  have hD : va_D A [(f0, ob 2 [.ref q5, .null, vI 0, vI 0]), (q5, ob 1 [.ref h1'_1, vI 0]), (h1'_1, aJ G 24 (fun _ => 0)), (q18, aI G 40 (fun _ => 0))] := hD
  refine z_putF (ws' := [(f0, ob 2 [.ref q5, .ref q18, vI 0, vI 0]), (q5, ob 1 [.ref h1'_1, vI 0]), (h1'_1, aJ G 24 (fun _ => 0)), (q18, aI G 40 (fun _ => 0))]) hC hK hP hD hS inX2 tyX2 tyX2_ok nmX2 rfl hin 0 rfl 1 (by decide) tw_100 rfl rfl rfl rfl (Nat.le_of_ble_eq_true rfl) rfl dX2_init_20 (fun H locs hP hD hS => ?_)
  refine lv_aload_n hx hb dX2_init_23 rfl (lv_at hl 0 rfl) ?_
  refine lv_iconst (v := iI 0) hx hb dX2_init_24 rfl ?_
  refine z_put (ws' := [(f0, ob 2 [.ref q5, .ref q18, vI 0, vI 0]), (q5, ob 1 [.ref h1'_1, vI 0]), (h1'_1, aJ G 24 (fun _ => 0)), (q18, aI G 40 (fun _ => 0))]) hC hK hP hD hS inX2 tyX2 tyX2_ok nmX2 rfl 0 rfl 2 (by decide) tw_101 rfl rfl rfl (Nat.le_of_ble_eq_true rfl) rfl dX2_init_25 (fun H locs hP hD hS => ?_)
  refine lv_aload_n hx hb dX2_init_28 rfl (lv_at hl 0 rfl) ?_
  refine lv_iconst (v := iI 0) hx hb dX2_init_29 rfl ?_
  refine z_put (ws' := [(f0, ob 2 [.ref q5, .ref q18, vI 0, vI 0]), (q5, ob 1 [.ref h1'_1, vI 0]), (h1'_1, aJ G 24 (fun _ => 0)), (q18, aI G 40 (fun _ => 0))]) hC hK hP hD hS inX2 tyX2 tyX2_ok nmX2 rfl 0 rfl 3 (by decide) tw_102 rfl (by rfl) (by rfl) (Nat.le_of_ble_eq_true rfl) rfl dX2_init_30 (fun H locs hP hD hS => ?_)
  exact z_vretW hC hr hlk ⟨q5, h1'_1, q18⟩ hAe hP hD hS [0, 3, 1, 2] (by decide) rfl rfl (trivial) dX2_init_33

set_option maxRecDepth 100000 in
set_option maxHeartbeats 4000000 in
theorem c_X4_init (l : Launch) (G : zGt) (sz : Nat) (m0 : Nat) (a1 a2 kd : Int)  : Met l yX4_init (Cond.code yX4_init cX4_init 4 none :: tb) ({ frames := 1, cells := 1, slots := 4096, locals := 12 } : Room) (zPw G [(m0, ob 4 [vI 0, vI 0, vI 0, vI 0, vI 0, .null])] sz [.ref m0, vI a1, vI a2, vI kd]) (va_Qv (fun u : Nat => True) (fun (u : Nat) t => zB G [(m0, ob 4 [vI 0, vI 0, vI 0, vI 0, vI 0, .null])] sz [(m0, ob 4 [vI a1, vI a2, vI kd, vI 0, vI 0, .ref u]), (u, aI G 4096 (fun _ => 0))] t) (va_A [(m0, ob 4 [vI 0, vI 0, vI 0, vI 0, vI 0, .null])] sz)) 1 4096 (va_A [(m0, ob 4 [vI 0, vI 0, vI 0, vI 0, vI 0, .null])] sz) := by
  refine Met.ofW (cc := cX4_init) (maxL := 4) (ret := none) (by decide) rfl ?_
  intro p e s m args below meth c s₁ B hml hv
  obtain ⟨rfl, hsz, hP, hK, hD0⟩ := hv
  subst hsz
  have hD := hD0.self (sz := s.heap.size)
  obtain ⟨A, hAe⟩ : ∃ A : Nat → Prop, A = va_A [(m0, ob 4 [vI 0, vI 0, vI 0, vI 0, vI 0, .null])] s.heap.size := ⟨_, rfl⟩
  rw [← hAe] at hD
  have hA : ∀ q : Nat, s.heap.size ≤ q → A q := fun q h => by rw [hAe]; exact Or.inr h
  have hS : va_S A s.heap s.heap [] := va_S.rf
  have hin : meth.name = "<init>" := (name_of_methodNamed B.named B.method).1
  obtain ⟨hC, hr, hlk⟩ := z_begin B hml
  have hC : CallFix p m c cX4_init 4 s _ tb RX4 := hC
  have hx := hC.1
  have hb := hC.2.1
  have hl := lv_entry ([.ref m0, vI a1, vI a2, vI kd]) (n := 4) (Nat.le_of_ble_eq_true rfl)
  rw [lg_entry_eq]
  generalize (lg_sl ([.ref m0, vI a1, vI a2, vI kd]) ++ List.replicate (4 - (lg_sl ([.ref m0, vI a1, vI a2, vI kd])).length) Slot.unset).toArray = ls at hl ⊢
  have hl : lv_has ls 4 [(0, .ref m0), (1, vI a1), (2, vI a2), (3, vI kd)] := hl
  obtain ⟨H, hHe⟩ : ∃ H : Heap, H = s.heap := ⟨_, rfl⟩
  obtain ⟨locs, hLe⟩ : ∃ L : List Loc, L = [] := ⟨_, rfl⟩
  suffices hgo : W p l e (headSpec (Cond.code yX4_init cX4_init 4 none :: tb) ({ frames := 1, cells := 1, slots := 4096, locals := 12 } : Room)).room s m ([.ref m0, vI a1, vI a2, vI kd] : List Value).toArray below meth c H locs 0 0 (MQ below (va_Qv (fun u : Nat => True) (fun (u : Nat) t => zB G [(m0, ob 4 [vI 0, vI 0, vI 0, vI 0, vI 0, .null])] s.heap.size [(m0, ob 4 [vI a1, vI a2, vI kd, vI 0, vI 0, .ref u]), (u, aI G 4096 (fun _ => 0))] t) (va_A [(m0, ob 4 [vI 0, vI 0, vI 0, vI 0, vI 0, .null])] s.heap.size)) ([.ref m0, vI a1, vI a2, vI kd] : List Value).toArray s 1 4096 (va_A [(m0, ob 4 [vI 0, vI 0, vI 0, vI 0, vI 0, .null])] s.heap.size)) (F0 m 0 ls []) by rw [hHe, hLe] at hgo; exact hgo
  rw [← hHe] at hP
  have hS : va_S A s.heap H locs := by rw [hHe, hLe]; exact hS
  clear hHe hLe
  refine lv_aload_n hx hb dX4_init_0 rfl (lv_at hl 0 rfl) ?_
  refine W.objInit hx hb hC.2.2.2.1 (hC.2.2.2.2 _ tw_563) (hC.2.2.2.2 _ tw_59) (hC.2.2.2.2 _ tw_60) rfl (by rw [hml]; exact hl.1) rfl dX4_init_1 (Nat.le_of_ble_eq_true rfl) (Nat.le_of_ble_eq_true rfl) ?_
  refine lv_aload_n hx hb dX4_init_4 rfl (lv_at hl 0 rfl) ?_
  refine lv_iload_n hx hb dX4_init_5 rfl (lv_at hl 1 rfl) ?_
  refine z_putF (ws' := [(m0, ob 4 [vI a1, vI 0, vI 0, vI 0, vI 0, .null])]) hC hK hP hD hS inX4 tyX4 tyX4_ok nmX4 rfl hin 0 rfl 0 (by decide) tw_564 rfl rfl rfl rfl (Nat.le_of_ble_eq_true rfl) rfl dX4_init_6 (fun H locs hP hD hS => ?_)
  refine lv_aload_n hx hb dX4_init_9 rfl (lv_at hl 0 rfl) ?_
  refine lv_iload_n hx hb dX4_init_10 rfl (lv_at hl 2 rfl) ?_
  refine z_putF (ws' := [(m0, ob 4 [vI a1, vI a2, vI 0, vI 0, vI 0, .null])]) hC hK hP hD hS inX4 tyX4 tyX4_ok nmX4 rfl hin 0 rfl 1 (by decide) tw_565 rfl rfl rfl rfl (Nat.le_of_ble_eq_true rfl) rfl dX4_init_11 (fun H locs hP hD hS => ?_)
  refine lv_aload_n hx hb dX4_init_14 rfl (lv_at hl 0 rfl) ?_
  refine lv_iload_n hx hb dX4_init_15 rfl (lv_at hl 3 rfl) ?_
  refine z_putF (ws' := [(m0, ob 4 [vI a1, vI a2, vI kd, vI 0, vI 0, .null])]) hC hK hP hD hS inX4 tyX4 tyX4_ok nmX4 rfl hin 0 rfl 2 (by decide) tw_566 rfl rfl rfl rfl (Nat.le_of_ble_eq_true rfl) rfl dX4_init_16 (fun H locs hP hD hS => ?_)
  refine lv_aload_n hx hb dX4_init_19 rfl (lv_at hl 0 rfl) ?_
  refine lv_iconst (v := iI 0) hx hb dX4_init_20 rfl ?_
  refine z_put (ws' := [(m0, ob 4 [vI a1, vI a2, vI kd, vI 0, vI 0, .null])]) hC hK hP hD hS inX4 tyX4 tyX4_ok nmX4 rfl 0 rfl 3 (by decide) tw_567 rfl rfl rfl (Nat.le_of_ble_eq_true rfl) rfl dX4_init_21 (fun H locs hP hD hS => ?_)
  refine lv_aload_n hx hb dX4_init_24 rfl (lv_at hl 0 rfl) ?_
  refine lv_iconst (v := iI 0) hx hb dX4_init_25 rfl ?_
  refine z_put (ws' := [(m0, ob 4 [vI a1, vI a2, vI kd, vI 0, vI 0, .null])]) hC hK hP hD hS inX4 tyX4 tyX4_ok nmX4 rfl 0 rfl 4 (by decide) tw_568 rfl rfl rfl (Nat.le_of_ble_eq_true rfl) rfl dX4_init_26 (fun H locs hP hD hS => ?_)
  refine lv_aload_n hx hb dX4_init_29 rfl (lv_at hl 0 rfl) ?_
  refine lv_sipush (v := iI 4096) hx hb dX4_init_30 (by decide) ?_
  refine z_newaI (N := 4096) hC hK hP hD hS hA rfl (by decide) tw_90 (Nat.le_of_ble_eq_true rfl) (Nat.le_of_ble_eq_true rfl) dX4_init_33 (fun q33 H hP hD hS => ?_)
  have hP : va_P G.1 vwCl [(m0, ob 4 [vI a1, vI a2, vI kd, vI 0, vI 0, .null]), (q33, aI G 4096 (fun _ => 0))] H := hP
  have hD : va_D A [(m0, ob 4 [vI a1, vI a2, vI kd, vI 0, vI 0, .null]), (q33, aI G 4096 (fun _ => 0))] := hD
  refine z_putF (ws' := [(m0, ob 4 [vI a1, vI a2, vI kd, vI 0, vI 0, .ref q33]), (q33, aI G 4096 (fun _ => 0))]) hC hK hP hD hS inX4 tyX4 tyX4_ok nmX4 rfl hin 0 rfl 5 (by decide) tw_569 rfl rfl rfl rfl (Nat.le_of_ble_eq_true rfl) rfl dX4_init_35 (fun H locs hP hD hS => ?_)
  exact z_vretW hC hr hlk q33 hAe hP hD hS [0, 1] (by decide) rfl rfl (trivial) dX4_init_38

set_option maxRecDepth 100000 in
set_option maxHeartbeats 4000000 in
theorem c_X5_init (l : Launch) (G : zGt) (sz : Nat) (w0 g0 f0 : Nat)  : Met l yX5_init (Cond.code yX5_init cX5_init 3 none :: tb) ({ frames := 1, cells := 3, slots := 15, locals := 12 } : Room) (zPw G [(w0, ob 5 [.null, .null, vI 0, vI 0, vI 0, vI 0, vI 0, .null, .null, .null, vI 0, vI 0, vI 0])] sz [.ref w0, .ref g0, .ref f0]) (va_Qv (fun u : Nat × Nat × Nat => True) (fun (u : Nat × Nat × Nat) t => zB G [(w0, ob 5 [.null, .null, vI 0, vI 0, vI 0, vI 0, vI 0, .null, .null, .null, vI 0, vI 0, vI 0])] sz [(w0, ob 5 [.ref g0, .ref f0, vI 4, vI 0, vI 0, vI 0, vI 0, .ref u.1, .ref u.2.1, .ref u.2.2, vI 3, vI 0, vI 0]), (u.1, aI G 5 (fun _ => 0)), (u.2.1, aI G 5 (fun _ => 0)), (u.2.2, aI G 5 (fun _ => 0))] t) (va_A [(w0, ob 5 [.null, .null, vI 0, vI 0, vI 0, vI 0, vI 0, .null, .null, .null, vI 0, vI 0, vI 0])] sz)) 3 15 (va_A [(w0, ob 5 [.null, .null, vI 0, vI 0, vI 0, vI 0, vI 0, .null, .null, .null, vI 0, vI 0, vI 0])] sz) := by
  refine Met.ofW (cc := cX5_init) (maxL := 3) (ret := none) (by decide) rfl ?_
  intro p e s m args below meth c s₁ B hml hv
  obtain ⟨rfl, hsz, hP, hK, hD0⟩ := hv
  subst hsz
  have hD := hD0.self (sz := s.heap.size)
  obtain ⟨A, hAe⟩ : ∃ A : Nat → Prop, A = va_A [(w0, ob 5 [.null, .null, vI 0, vI 0, vI 0, vI 0, vI 0, .null, .null, .null, vI 0, vI 0, vI 0])] s.heap.size := ⟨_, rfl⟩
  rw [← hAe] at hD
  have hA : ∀ q : Nat, s.heap.size ≤ q → A q := fun q h => by rw [hAe]; exact Or.inr h
  have hS : va_S A s.heap s.heap [] := va_S.rf
  have hin : meth.name = "<init>" := (name_of_methodNamed B.named B.method).1
  obtain ⟨hC, hr, hlk⟩ := z_begin B hml
  have hC : CallFix p m c cX5_init 3 s _ tb RX5 := hC
  have hx := hC.1
  have hb := hC.2.1
  have hl := lv_entry ([.ref w0, .ref g0, .ref f0]) (n := 3) (Nat.le_of_ble_eq_true rfl)
  rw [lg_entry_eq]
  generalize (lg_sl ([.ref w0, .ref g0, .ref f0]) ++ List.replicate (3 - (lg_sl ([.ref w0, .ref g0, .ref f0])).length) Slot.unset).toArray = ls at hl ⊢
  have hl : lv_has ls 3 [(0, .ref w0), (1, .ref g0), (2, .ref f0)] := hl
  obtain ⟨H, hHe⟩ : ∃ H : Heap, H = s.heap := ⟨_, rfl⟩
  obtain ⟨locs, hLe⟩ : ∃ L : List Loc, L = [] := ⟨_, rfl⟩
  suffices hgo : W p l e (headSpec (Cond.code yX5_init cX5_init 3 none :: tb) ({ frames := 1, cells := 3, slots := 15, locals := 12 } : Room)).room s m ([.ref w0, .ref g0, .ref f0] : List Value).toArray below meth c H locs 0 0 (MQ below (va_Qv (fun u : Nat × Nat × Nat => True) (fun (u : Nat × Nat × Nat) t => zB G [(w0, ob 5 [.null, .null, vI 0, vI 0, vI 0, vI 0, vI 0, .null, .null, .null, vI 0, vI 0, vI 0])] s.heap.size [(w0, ob 5 [.ref g0, .ref f0, vI 4, vI 0, vI 0, vI 0, vI 0, .ref u.1, .ref u.2.1, .ref u.2.2, vI 3, vI 0, vI 0]), (u.1, aI G 5 (fun _ => 0)), (u.2.1, aI G 5 (fun _ => 0)), (u.2.2, aI G 5 (fun _ => 0))] t) (va_A [(w0, ob 5 [.null, .null, vI 0, vI 0, vI 0, vI 0, vI 0, .null, .null, .null, vI 0, vI 0, vI 0])] s.heap.size)) ([.ref w0, .ref g0, .ref f0] : List Value).toArray s 3 15 (va_A [(w0, ob 5 [.null, .null, vI 0, vI 0, vI 0, vI 0, vI 0, .null, .null, .null, vI 0, vI 0, vI 0])] s.heap.size)) (F0 m 0 ls []) by rw [hHe, hLe] at hgo; exact hgo
  rw [← hHe] at hP
  have hS : va_S A s.heap H locs := by rw [hHe, hLe]; exact hS
  clear hHe hLe
  refine lv_aload_n hx hb dX5_init_0 rfl (lv_at hl 0 rfl) ?_
  refine W.objInit hx hb hC.2.2.2.1 (hC.2.2.2.2 _ tw_117) (hC.2.2.2.2 _ tw_59) (hC.2.2.2.2 _ tw_60) rfl (by rw [hml]; exact hl.1) rfl dX5_init_1 (Nat.le_of_ble_eq_true rfl) (Nat.le_of_ble_eq_true rfl) ?_
  refine lv_aload_n hx hb dX5_init_4 rfl (lv_at hl 0 rfl) ?_
  refine lv_aload_n hx hb dX5_init_5 rfl (lv_at hl 1 rfl) ?_
  refine z_putF (ws' := [(w0, ob 5 [.ref g0, .null, vI 0, vI 0, vI 0, vI 0, vI 0, .null, .null, .null, vI 0, vI 0, vI 0])]) hC hK hP hD hS inX5 tyX5 tyX5_ok nmX5 rfl hin 0 rfl 0 (by decide) tw_118 rfl rfl rfl rfl (Nat.le_of_ble_eq_true rfl) rfl dX5_init_6 (fun H locs hP hD hS => ?_)
  refine lv_aload_n hx hb dX5_init_9 rfl (lv_at hl 0 rfl) ?_
  refine lv_aload_n hx hb dX5_init_10 rfl (lv_at hl 2 rfl) ?_
  refine z_putF (ws' := [(w0, ob 5 [.ref g0, .ref f0, vI 0, vI 0, vI 0, vI 0, vI 0, .null, .null, .null, vI 0, vI 0, vI 0])]) hC hK hP hD hS inX5 tyX5 tyX5_ok nmX5 rfl hin 0 rfl 1 (by decide) tw_119 rfl rfl rfl rfl (Nat.le_of_ble_eq_true rfl) rfl dX5_init_11 (fun H locs hP hD hS => ?_)
  refine lv_aload_n hx hb dX5_init_14 rfl (lv_at hl 0 rfl) ?_
  refine lv_iconst (v := iI 4) hx hb dX5_init_15 rfl ?_
  refine z_put (ws' := [(w0, ob 5 [.ref g0, .ref f0, vI 4, vI 0, vI 0, vI 0, vI 0, .null, .null, .null, vI 0, vI 0, vI 0])]) hC hK hP hD hS inX5 tyX5 tyX5_ok nmX5 rfl 0 rfl 2 (by decide) tw_120 rfl rfl rfl (Nat.le_of_ble_eq_true rfl) rfl dX5_init_16 (fun H locs hP hD hS => ?_)
  refine lv_aload_n hx hb dX5_init_19 rfl (lv_at hl 0 rfl) ?_
  refine lv_iconst (v := iI 0) hx hb dX5_init_20 rfl ?_
  refine z_put (ws' := [(w0, ob 5 [.ref g0, .ref f0, vI 4, vI 0, vI 0, vI 0, vI 0, .null, .null, .null, vI 0, vI 0, vI 0])]) hC hK hP hD hS inX5 tyX5 tyX5_ok nmX5 rfl 0 rfl 3 (by decide) tw_121 rfl (by rfl) (by rfl) (Nat.le_of_ble_eq_true rfl) rfl dX5_init_21 (fun H locs hP hD hS => ?_)
  refine lv_aload_n hx hb dX5_init_24 rfl (lv_at hl 0 rfl) ?_
  refine lv_iconst (v := iI 0) hx hb dX5_init_25 rfl ?_
  refine z_put (ws' := [(w0, ob 5 [.ref g0, .ref f0, vI 4, vI 0, vI 0, vI 0, vI 0, .null, .null, .null, vI 0, vI 0, vI 0])]) hC hK hP hD hS inX5 tyX5 tyX5_ok nmX5 rfl 0 rfl 4 (by decide) tw_122 rfl rfl rfl (Nat.le_of_ble_eq_true rfl) rfl dX5_init_26 (fun H locs hP hD hS => ?_)
  refine lv_aload_n hx hb dX5_init_29 rfl (lv_at hl 0 rfl) ?_
  refine lv_iconst (v := iI 0) hx hb dX5_init_30 rfl ?_
  refine z_put (ws' := [(w0, ob 5 [.ref g0, .ref f0, vI 4, vI 0, vI 0, vI 0, vI 0, .null, .null, .null, vI 0, vI 0, vI 0])]) hC hK hP hD hS inX5 tyX5 tyX5_ok nmX5 rfl 0 rfl 5 (by decide) tw_123 rfl rfl rfl (Nat.le_of_ble_eq_true rfl) rfl dX5_init_31 (fun H locs hP hD hS => ?_)
  refine lv_aload_n hx hb dX5_init_34 rfl (lv_at hl 0 rfl) ?_
  refine lv_iconst (v := iI 0) hx hb dX5_init_35 rfl ?_
  refine z_put (ws' := [(w0, ob 5 [.ref g0, .ref f0, vI 4, vI 0, vI 0, vI 0, vI 0, .null, .null, .null, vI 0, vI 0, vI 0])]) hC hK hP hD hS inX5 tyX5 tyX5_ok nmX5 rfl 0 rfl 6 (by decide) tw_124 rfl rfl rfl (Nat.le_of_ble_eq_true rfl) rfl dX5_init_36 (fun H locs hP hD hS => ?_)
  refine lv_aload_n hx hb dX5_init_39 rfl (lv_at hl 0 rfl) ?_
  refine lv_iconst (v := iI 5) hx hb dX5_init_40 rfl ?_
  refine z_newaI (N := 5) hC hK hP hD hS hA rfl (by decide) tw_90 (Nat.le_of_ble_eq_true rfl) (Nat.le_of_ble_eq_true rfl) dX5_init_41 (fun q41 H hP hD hS => ?_)
  have hP : va_P G.1 vwCl [(w0, ob 5 [.ref g0, .ref f0, vI 4, vI 0, vI 0, vI 0, vI 0, .null, .null, .null, vI 0, vI 0, vI 0]), (q41, aI G 5 (fun _ => 0))] H := hP
  have hD : va_D A [(w0, ob 5 [.ref g0, .ref f0, vI 4, vI 0, vI 0, vI 0, vI 0, .null, .null, .null, vI 0, vI 0, vI 0]), (q41, aI G 5 (fun _ => 0))] := hD
  refine z_putF (ws' := [(w0, ob 5 [.ref g0, .ref f0, vI 4, vI 0, vI 0, vI 0, vI 0, .ref q41, .null, .null, vI 0, vI 0, vI 0]), (q41, aI G 5 (fun _ => 0))]) hC hK hP hD hS inX5 tyX5 tyX5_ok nmX5 rfl hin 0 rfl 7 (by decide) tw_125 rfl rfl rfl rfl (Nat.le_of_ble_eq_true rfl) rfl dX5_init_43 (fun H locs hP hD hS => ?_)
  refine lv_aload_n hx hb dX5_init_46 rfl (lv_at hl 0 rfl) ?_
  refine lv_iconst (v := iI 5) hx hb dX5_init_47 rfl ?_
  refine z_newaI (N := 5) hC hK hP hD hS hA rfl (by decide) tw_90 (Nat.le_of_ble_eq_true rfl) (Nat.le_of_ble_eq_true rfl) dX5_init_48 (fun q48 H hP hD hS => ?_)
  have hP : va_P G.1 vwCl [(w0, ob 5 [.ref g0, .ref f0, vI 4, vI 0, vI 0, vI 0, vI 0, .ref q41, .null, .null, vI 0, vI 0, vI 0]), (q41, aI G 5 (fun _ => 0)), (q48, aI G 5 (fun _ => 0))] H := hP
  have hD : va_D A [(w0, ob 5 [.ref g0, .ref f0, vI 4, vI 0, vI 0, vI 0, vI 0, .ref q41, .null, .null, vI 0, vI 0, vI 0]), (q41, aI G 5 (fun _ => 0)), (q48, aI G 5 (fun _ => 0))] := hD
  refine z_putF (ws' := [(w0, ob 5 [.ref g0, .ref f0, vI 4, vI 0, vI 0, vI 0, vI 0, .ref q41, .ref q48, .null, vI 0, vI 0, vI 0]), (q41, aI G 5 (fun _ => 0)), (q48, aI G 5 (fun _ => 0))]) hC hK hP hD hS inX5 tyX5 tyX5_ok nmX5 rfl hin 0 rfl 8 (by decide) tw_126 rfl rfl rfl rfl (Nat.le_of_ble_eq_true rfl) rfl dX5_init_50 (fun H locs hP hD hS => ?_)
  refine lv_aload_n hx hb dX5_init_53 rfl (lv_at hl 0 rfl) ?_
  refine lv_iconst (v := iI 5) hx hb dX5_init_54 rfl ?_
  refine z_newaI (N := 5) hC hK hP hD hS hA rfl (by decide) tw_90 (Nat.le_of_ble_eq_true rfl) (Nat.le_of_ble_eq_true rfl) dX5_init_55 (fun q55 H hP hD hS => ?_)
  have hP : va_P G.1 vwCl [(w0, ob 5 [.ref g0, .ref f0, vI 4, vI 0, vI 0, vI 0, vI 0, .ref q41, .ref q48, .null, vI 0, vI 0, vI 0]), (q41, aI G 5 (fun _ => 0)), (q48, aI G 5 (fun _ => 0)), (q55, aI G 5 (fun _ => 0))] H := hP
  have hD : va_D A [(w0, ob 5 [.ref g0, .ref f0, vI 4, vI 0, vI 0, vI 0, vI 0, .ref q41, .ref q48, .null, vI 0, vI 0, vI 0]), (q41, aI G 5 (fun _ => 0)), (q48, aI G 5 (fun _ => 0)), (q55, aI G 5 (fun _ => 0))] := hD
  refine z_putF (ws' := [(w0, ob 5 [.ref g0, .ref f0, vI 4, vI 0, vI 0, vI 0, vI 0, .ref q41, .ref q48, .ref q55, vI 0, vI 0, vI 0]), (q41, aI G 5 (fun _ => 0)), (q48, aI G 5 (fun _ => 0)), (q55, aI G 5 (fun _ => 0))]) hC hK hP hD hS inX5 tyX5 tyX5_ok nmX5 rfl hin 0 rfl 9 (by decide) tw_127 rfl rfl rfl rfl (Nat.le_of_ble_eq_true rfl) rfl dX5_init_57 (fun H locs hP hD hS => ?_)
  refine lv_aload_n hx hb dX5_init_60 rfl (lv_at hl 0 rfl) ?_
  refine lv_iconst (v := iI 3) hx hb dX5_init_61 rfl ?_
  refine z_put (ws' := [(w0, ob 5 [.ref g0, .ref f0, vI 4, vI 0, vI 0, vI 0, vI 0, .ref q41, .ref q48, .ref q55, vI 3, vI 0, vI 0]), (q41, aI G 5 (fun _ => 0)), (q48, aI G 5 (fun _ => 0)), (q55, aI G 5 (fun _ => 0))]) hC hK hP hD hS inX5 tyX5 tyX5_ok nmX5 rfl 0 rfl 10 (by decide) tw_128 rfl rfl rfl (Nat.le_of_ble_eq_true rfl) rfl dX5_init_62 (fun H locs hP hD hS => ?_)
  refine lv_aload_n hx hb dX5_init_65 rfl (lv_at hl 0 rfl) ?_
  refine lv_iconst (v := iI 0) hx hb dX5_init_66 rfl ?_
  refine z_put (ws' := [(w0, ob 5 [.ref g0, .ref f0, vI 4, vI 0, vI 0, vI 0, vI 0, .ref q41, .ref q48, .ref q55, vI 3, vI 0, vI 0]), (q41, aI G 5 (fun _ => 0)), (q48, aI G 5 (fun _ => 0)), (q55, aI G 5 (fun _ => 0))]) hC hK hP hD hS inX5 tyX5 tyX5_ok nmX5 rfl 0 rfl 11 (by decide) tw_129 rfl rfl rfl (Nat.le_of_ble_eq_true rfl) rfl dX5_init_67 (fun H locs hP hD hS => ?_)
  refine lv_aload_n hx hb dX5_init_70 rfl (lv_at hl 0 rfl) ?_
  refine lv_iconst (v := iI 0) hx hb dX5_init_71 rfl ?_
  refine z_put (ws' := [(w0, ob 5 [.ref g0, .ref f0, vI 4, vI 0, vI 0, vI 0, vI 0, .ref q41, .ref q48, .ref q55, vI 3, vI 0, vI 0]), (q41, aI G 5 (fun _ => 0)), (q48, aI G 5 (fun _ => 0)), (q55, aI G 5 (fun _ => 0))]) hC hK hP hD hS inX5 tyX5 tyX5_ok nmX5 rfl 0 rfl 12 (by decide) tw_130 rfl rfl rfl (Nat.le_of_ble_eq_true rfl) rfl dX5_init_72 (fun H locs hP hD hS => ?_)
  exact z_vretW hC hr hlk ⟨q41, q48, q55⟩ hAe hP hD hS [0, 1, 2, 3] (by decide) rfl rfl (trivial) dX5_init_75

set_option maxRecDepth 100000 in
set_option maxHeartbeats 4000000 in
theorem c_X0_init (l : Launch) (G : zGt) (sz : Nat) (u0 f0 : Nat)  : Met l yX0_init (Cond.code yX0_init cX0_init 2 none :: tb) ({ frames := 1, cells := 6, slots := 106, locals := 12 } : Room) (zPw G [(u0, ob 0 [.null, vI 0, .null, .null, .null, .null, .null, .null, vI 0, vI 0, vI 0])] sz [.ref u0, .ref f0]) (va_Qv (fun u : Nat × Nat × Nat × Nat × Nat × Nat => True) (fun (u : Nat × Nat × Nat × Nat × Nat × Nat) t => zB G [(u0, ob 0 [.null, vI 0, .null, .null, .null, .null, .null, .null, vI 0, vI 0, vI 0])] sz [(u0, ob 0 [.ref f0, vI 0, .ref u.1, .ref u.2.1, .ref u.2.2.1, .ref u.2.2.2.1, .ref u.2.2.2.2.1, .ref u.2.2.2.2.2, vI 0, vI 0, vI 0]), (u.1, aI G 7 (fun _ => 0)), (u.2.1, aI G 40 (fun _ => 0)), (u.2.2.1, aI G 40 (fun _ => 0)), (u.2.2.2.1, aI G 7 (fun _ => 0)), (u.2.2.2.2.1, aI G 6 (fun _ => 0)), (u.2.2.2.2.2, aI G 6 (fun _ => 0))] t) (va_A [(u0, ob 0 [.null, vI 0, .null, .null, .null, .null, .null, .null, vI 0, vI 0, vI 0])] sz)) 6 106 (va_A [(u0, ob 0 [.null, vI 0, .null, .null, .null, .null, .null, .null, vI 0, vI 0, vI 0])] sz) := by
  refine Met.ofW (cc := cX0_init) (maxL := 2) (ret := none) (by decide) rfl ?_
  intro p e s m args below meth c s₁ B hml hv
  obtain ⟨rfl, hsz, hP, hK, hD0⟩ := hv
  subst hsz
  have hD := hD0.self (sz := s.heap.size)
  obtain ⟨A, hAe⟩ : ∃ A : Nat → Prop, A = va_A [(u0, ob 0 [.null, vI 0, .null, .null, .null, .null, .null, .null, vI 0, vI 0, vI 0])] s.heap.size := ⟨_, rfl⟩
  rw [← hAe] at hD
  have hA : ∀ q : Nat, s.heap.size ≤ q → A q := fun q h => by rw [hAe]; exact Or.inr h
  have hS : va_S A s.heap s.heap [] := va_S.rf
  have hin : meth.name = "<init>" := (name_of_methodNamed B.named B.method).1
  obtain ⟨hC, hr, hlk⟩ := z_begin B hml
  have hC : CallFix p m c cX0_init 2 s _ tb RX0 := hC
  have hx := hC.1
  have hb := hC.2.1
  have hl := lv_entry ([.ref u0, .ref f0]) (n := 2) (Nat.le_of_ble_eq_true rfl)
  rw [lg_entry_eq]
  generalize (lg_sl ([.ref u0, .ref f0]) ++ List.replicate (2 - (lg_sl ([.ref u0, .ref f0])).length) Slot.unset).toArray = ls at hl ⊢
  have hl : lv_has ls 2 [(0, .ref u0), (1, .ref f0)] := hl
  obtain ⟨H, hHe⟩ : ∃ H : Heap, H = s.heap := ⟨_, rfl⟩
  obtain ⟨locs, hLe⟩ : ∃ L : List Loc, L = [] := ⟨_, rfl⟩
  suffices hgo : W p l e (headSpec (Cond.code yX0_init cX0_init 2 none :: tb) ({ frames := 1, cells := 6, slots := 106, locals := 12 } : Room)).room s m ([.ref u0, .ref f0] : List Value).toArray below meth c H locs 0 0 (MQ below (va_Qv (fun u : Nat × Nat × Nat × Nat × Nat × Nat => True) (fun (u : Nat × Nat × Nat × Nat × Nat × Nat) t => zB G [(u0, ob 0 [.null, vI 0, .null, .null, .null, .null, .null, .null, vI 0, vI 0, vI 0])] s.heap.size [(u0, ob 0 [.ref f0, vI 0, .ref u.1, .ref u.2.1, .ref u.2.2.1, .ref u.2.2.2.1, .ref u.2.2.2.2.1, .ref u.2.2.2.2.2, vI 0, vI 0, vI 0]), (u.1, aI G 7 (fun _ => 0)), (u.2.1, aI G 40 (fun _ => 0)), (u.2.2.1, aI G 40 (fun _ => 0)), (u.2.2.2.1, aI G 7 (fun _ => 0)), (u.2.2.2.2.1, aI G 6 (fun _ => 0)), (u.2.2.2.2.2, aI G 6 (fun _ => 0))] t) (va_A [(u0, ob 0 [.null, vI 0, .null, .null, .null, .null, .null, .null, vI 0, vI 0, vI 0])] s.heap.size)) ([.ref u0, .ref f0] : List Value).toArray s 6 106 (va_A [(u0, ob 0 [.null, vI 0, .null, .null, .null, .null, .null, .null, vI 0, vI 0, vI 0])] s.heap.size)) (F0 m 0 ls []) by rw [hHe, hLe] at hgo; exact hgo
  rw [← hHe] at hP
  have hS : va_S A s.heap H locs := by rw [hHe, hLe]; exact hS
  clear hHe hLe
  refine lv_aload_n hx hb dX0_init_0 rfl (lv_at hl 0 rfl) ?_
  refine W.objInit hx hb hC.2.2.2.1 (hC.2.2.2.2 _ tw_163) (hC.2.2.2.2 _ tw_59) (hC.2.2.2.2 _ tw_60) rfl (by rw [hml]; exact hl.1) rfl dX0_init_1 (Nat.le_of_ble_eq_true rfl) (Nat.le_of_ble_eq_true rfl) ?_
  refine lv_aload_n hx hb dX0_init_4 rfl (lv_at hl 0 rfl) ?_
  refine lv_aload_n hx hb dX0_init_5 rfl (lv_at hl 1 rfl) ?_
  refine z_putF (ws' := [(u0, ob 0 [.ref f0, vI 0, .null, .null, .null, .null, .null, .null, vI 0, vI 0, vI 0])]) hC hK hP hD hS inX0 tyX0 tyX0_ok nmX0 rfl hin 0 rfl 0 (by decide) tw_164 rfl rfl rfl rfl (Nat.le_of_ble_eq_true rfl) rfl dX0_init_6 (fun H locs hP hD hS => ?_)
  refine lv_aload_n hx hb dX0_init_9 rfl (lv_at hl 0 rfl) ?_
  refine lv_iconst (v := iI 0) hx hb dX0_init_10 rfl ?_
  refine z_put (ws' := [(u0, ob 0 [.ref f0, vI 0, .null, .null, .null, .null, .null, .null, vI 0, vI 0, vI 0])]) hC hK hP hD hS inX0 tyX0 tyX0_ok nmX0 rfl 0 rfl 1 (by decide) tw_165 rfl rfl rfl (Nat.le_of_ble_eq_true rfl) rfl dX0_init_11 (fun H locs hP hD hS => ?_)
  refine lv_aload_n hx hb dX0_init_14 rfl (lv_at hl 0 rfl) ?_
  refine lv_bipush (v := iI 7) hx hb dX0_init_15 (by decide) ?_
  refine z_newaI (N := 7) hC hK hP hD hS hA rfl (by decide) tw_90 (Nat.le_of_ble_eq_true rfl) (Nat.le_of_ble_eq_true rfl) dX0_init_17 (fun q17 H hP hD hS => ?_)
  have hP : va_P G.1 vwCl [(u0, ob 0 [.ref f0, vI 0, .null, .null, .null, .null, .null, .null, vI 0, vI 0, vI 0]), (q17, aI G 7 (fun _ => 0))] H := hP
  have hD : va_D A [(u0, ob 0 [.ref f0, vI 0, .null, .null, .null, .null, .null, .null, vI 0, vI 0, vI 0]), (q17, aI G 7 (fun _ => 0))] := hD
  refine z_putF (ws' := [(u0, ob 0 [.ref f0, vI 0, .ref q17, .null, .null, .null, .null, .null, vI 0, vI 0, vI 0]), (q17, aI G 7 (fun _ => 0))]) hC hK hP hD hS inX0 tyX0 tyX0_ok nmX0 rfl hin 0 rfl 2 (by decide) tw_166 rfl rfl rfl rfl (Nat.le_of_ble_eq_true rfl) rfl dX0_init_19 (fun H locs hP hD hS => ?_)
  refine lv_aload_n hx hb dX0_init_22 rfl (lv_at hl 0 rfl) ?_
  refine lv_bipush (v := iI 40) hx hb dX0_init_23 (by decide) ?_
  refine z_newaI (N := 40) hC hK hP hD hS hA rfl (by decide) tw_90 (Nat.le_of_ble_eq_true rfl) (Nat.le_of_ble_eq_true rfl) dX0_init_25 (fun q25 H hP hD hS => ?_)
  have hP : va_P G.1 vwCl [(u0, ob 0 [.ref f0, vI 0, .ref q17, .null, .null, .null, .null, .null, vI 0, vI 0, vI 0]), (q17, aI G 7 (fun _ => 0)), (q25, aI G 40 (fun _ => 0))] H := hP
  have hD : va_D A [(u0, ob 0 [.ref f0, vI 0, .ref q17, .null, .null, .null, .null, .null, vI 0, vI 0, vI 0]), (q17, aI G 7 (fun _ => 0)), (q25, aI G 40 (fun _ => 0))] := hD
  refine z_putF (ws' := [(u0, ob 0 [.ref f0, vI 0, .ref q17, .ref q25, .null, .null, .null, .null, vI 0, vI 0, vI 0]), (q17, aI G 7 (fun _ => 0)), (q25, aI G 40 (fun _ => 0))]) hC hK hP hD hS inX0 tyX0 tyX0_ok nmX0 rfl hin 0 rfl 3 (by decide) tw_167 rfl rfl rfl rfl (Nat.le_of_ble_eq_true rfl) rfl dX0_init_27 (fun H locs hP hD hS => ?_)
  refine lv_aload_n hx hb dX0_init_30 rfl (lv_at hl 0 rfl) ?_
  refine lv_bipush (v := iI 40) hx hb dX0_init_31 (by decide) ?_
  refine z_newaI (N := 40) hC hK hP hD hS hA rfl (by decide) tw_90 (Nat.le_of_ble_eq_true rfl) (Nat.le_of_ble_eq_true rfl) dX0_init_33 (fun q33 H hP hD hS => ?_)
  have hP : va_P G.1 vwCl [(u0, ob 0 [.ref f0, vI 0, .ref q17, .ref q25, .null, .null, .null, .null, vI 0, vI 0, vI 0]), (q17, aI G 7 (fun _ => 0)), (q25, aI G 40 (fun _ => 0)), (q33, aI G 40 (fun _ => 0))] H := hP
  have hD : va_D A [(u0, ob 0 [.ref f0, vI 0, .ref q17, .ref q25, .null, .null, .null, .null, vI 0, vI 0, vI 0]), (q17, aI G 7 (fun _ => 0)), (q25, aI G 40 (fun _ => 0)), (q33, aI G 40 (fun _ => 0))] := hD
  refine z_putF (ws' := [(u0, ob 0 [.ref f0, vI 0, .ref q17, .ref q25, .ref q33, .null, .null, .null, vI 0, vI 0, vI 0]), (q17, aI G 7 (fun _ => 0)), (q25, aI G 40 (fun _ => 0)), (q33, aI G 40 (fun _ => 0))]) hC hK hP hD hS inX0 tyX0 tyX0_ok nmX0 rfl hin 0 rfl 4 (by decide) tw_168 rfl rfl rfl rfl (Nat.le_of_ble_eq_true rfl) rfl dX0_init_35 (fun H locs hP hD hS => ?_)
  refine lv_aload_n hx hb dX0_init_38 rfl (lv_at hl 0 rfl) ?_
  refine lv_bipush (v := iI 7) hx hb dX0_init_39 (by decide) ?_
  refine z_newaI (N := 7) hC hK hP hD hS hA rfl (by decide) tw_90 (Nat.le_of_ble_eq_true rfl) (Nat.le_of_ble_eq_true rfl) dX0_init_41 (fun q41 H hP hD hS => ?_)
  have hP : va_P G.1 vwCl [(u0, ob 0 [.ref f0, vI 0, .ref q17, .ref q25, .ref q33, .null, .null, .null, vI 0, vI 0, vI 0]), (q17, aI G 7 (fun _ => 0)), (q25, aI G 40 (fun _ => 0)), (q33, aI G 40 (fun _ => 0)), (q41, aI G 7 (fun _ => 0))] H := hP
  have hD : va_D A [(u0, ob 0 [.ref f0, vI 0, .ref q17, .ref q25, .ref q33, .null, .null, .null, vI 0, vI 0, vI 0]), (q17, aI G 7 (fun _ => 0)), (q25, aI G 40 (fun _ => 0)), (q33, aI G 40 (fun _ => 0)), (q41, aI G 7 (fun _ => 0))] := hD
  refine z_putF (ws' := [(u0, ob 0 [.ref f0, vI 0, .ref q17, .ref q25, .ref q33, .ref q41, .null, .null, vI 0, vI 0, vI 0]), (q17, aI G 7 (fun _ => 0)), (q25, aI G 40 (fun _ => 0)), (q33, aI G 40 (fun _ => 0)), (q41, aI G 7 (fun _ => 0))]) hC hK hP hD hS inX0 tyX0 tyX0_ok nmX0 rfl hin 0 rfl 5 (by decide) tw_169 rfl rfl rfl rfl (Nat.le_of_ble_eq_true rfl) rfl dX0_init_43 (fun H locs hP hD hS => ?_)
  refine lv_aload_n hx hb dX0_init_46 rfl (lv_at hl 0 rfl) ?_
  refine lv_bipush (v := iI 6) hx hb dX0_init_47 (by decide) ?_
  refine z_newaI (N := 6) hC hK hP hD hS hA rfl (by decide) tw_90 (Nat.le_of_ble_eq_true rfl) (Nat.le_of_ble_eq_true rfl) dX0_init_49 (fun q49 H hP hD hS => ?_)
  have hP : va_P G.1 vwCl [(u0, ob 0 [.ref f0, vI 0, .ref q17, .ref q25, .ref q33, .ref q41, .null, .null, vI 0, vI 0, vI 0]), (q17, aI G 7 (fun _ => 0)), (q25, aI G 40 (fun _ => 0)), (q33, aI G 40 (fun _ => 0)), (q41, aI G 7 (fun _ => 0)), (q49, aI G 6 (fun _ => 0))] H := hP
  have hD : va_D A [(u0, ob 0 [.ref f0, vI 0, .ref q17, .ref q25, .ref q33, .ref q41, .null, .null, vI 0, vI 0, vI 0]), (q17, aI G 7 (fun _ => 0)), (q25, aI G 40 (fun _ => 0)), (q33, aI G 40 (fun _ => 0)), (q41, aI G 7 (fun _ => 0)), (q49, aI G 6 (fun _ => 0))] := hD
  refine z_putF (ws' := [(u0, ob 0 [.ref f0, vI 0, .ref q17, .ref q25, .ref q33, .ref q41, .ref q49, .null, vI 0, vI 0, vI 0]), (q17, aI G 7 (fun _ => 0)), (q25, aI G 40 (fun _ => 0)), (q33, aI G 40 (fun _ => 0)), (q41, aI G 7 (fun _ => 0)), (q49, aI G 6 (fun _ => 0))]) hC hK hP hD hS inX0 tyX0 tyX0_ok nmX0 rfl hin 0 rfl 6 (by decide) tw_170 rfl rfl rfl rfl (Nat.le_of_ble_eq_true rfl) rfl dX0_init_51 (fun H locs hP hD hS => ?_)
  refine lv_aload_n hx hb dX0_init_54 rfl (lv_at hl 0 rfl) ?_
  refine lv_bipush (v := iI 6) hx hb dX0_init_55 (by decide) ?_
  refine z_newaI (N := 6) hC hK hP hD hS hA rfl (by decide) tw_90 (Nat.le_of_ble_eq_true rfl) (Nat.le_of_ble_eq_true rfl) dX0_init_57 (fun q57 H hP hD hS => ?_)
  have hP : va_P G.1 vwCl [(u0, ob 0 [.ref f0, vI 0, .ref q17, .ref q25, .ref q33, .ref q41, .ref q49, .null, vI 0, vI 0, vI 0]), (q17, aI G 7 (fun _ => 0)), (q25, aI G 40 (fun _ => 0)), (q33, aI G 40 (fun _ => 0)), (q41, aI G 7 (fun _ => 0)), (q49, aI G 6 (fun _ => 0)), (q57, aI G 6 (fun _ => 0))] H := hP
  have hD : va_D A [(u0, ob 0 [.ref f0, vI 0, .ref q17, .ref q25, .ref q33, .ref q41, .ref q49, .null, vI 0, vI 0, vI 0]), (q17, aI G 7 (fun _ => 0)), (q25, aI G 40 (fun _ => 0)), (q33, aI G 40 (fun _ => 0)), (q41, aI G 7 (fun _ => 0)), (q49, aI G 6 (fun _ => 0)), (q57, aI G 6 (fun _ => 0))] := hD
  refine z_putF (ws' := [(u0, ob 0 [.ref f0, vI 0, .ref q17, .ref q25, .ref q33, .ref q41, .ref q49, .ref q57, vI 0, vI 0, vI 0]), (q17, aI G 7 (fun _ => 0)), (q25, aI G 40 (fun _ => 0)), (q33, aI G 40 (fun _ => 0)), (q41, aI G 7 (fun _ => 0)), (q49, aI G 6 (fun _ => 0)), (q57, aI G 6 (fun _ => 0))]) hC hK hP hD hS inX0 tyX0 tyX0_ok nmX0 rfl hin 0 rfl 7 (by decide) tw_171 rfl rfl rfl rfl (Nat.le_of_ble_eq_true rfl) rfl dX0_init_59 (fun H locs hP hD hS => ?_)
  refine lv_aload_n hx hb dX0_init_62 rfl (lv_at hl 0 rfl) ?_
  refine lv_iconst (v := iI 0) hx hb dX0_init_63 rfl ?_
  refine z_put (ws' := [(u0, ob 0 [.ref f0, vI 0, .ref q17, .ref q25, .ref q33, .ref q41, .ref q49, .ref q57, vI 0, vI 0, vI 0]), (q17, aI G 7 (fun _ => 0)), (q25, aI G 40 (fun _ => 0)), (q33, aI G 40 (fun _ => 0)), (q41, aI G 7 (fun _ => 0)), (q49, aI G 6 (fun _ => 0)), (q57, aI G 6 (fun _ => 0))]) hC hK hP hD hS inX0 tyX0 tyX0_ok nmX0 rfl 0 rfl 8 (by decide) tw_172 rfl rfl rfl (Nat.le_of_ble_eq_true rfl) rfl dX0_init_64 (fun H locs hP hD hS => ?_)
  refine lv_aload_n hx hb dX0_init_67 rfl (lv_at hl 0 rfl) ?_
  refine lv_iconst (v := iI 0) hx hb dX0_init_68 rfl ?_
  refine z_put (ws' := [(u0, ob 0 [.ref f0, vI 0, .ref q17, .ref q25, .ref q33, .ref q41, .ref q49, .ref q57, vI 0, vI 0, vI 0]), (q17, aI G 7 (fun _ => 0)), (q25, aI G 40 (fun _ => 0)), (q33, aI G 40 (fun _ => 0)), (q41, aI G 7 (fun _ => 0)), (q49, aI G 6 (fun _ => 0)), (q57, aI G 6 (fun _ => 0))]) hC hK hP hD hS inX0 tyX0 tyX0_ok nmX0 rfl 0 rfl 9 (by decide) tw_173 rfl rfl rfl (Nat.le_of_ble_eq_true rfl) rfl dX0_init_69 (fun H locs hP hD hS => ?_)
  refine lv_aload_n hx hb dX0_init_72 rfl (lv_at hl 0 rfl) ?_
  refine lv_iconst (v := iI 0) hx hb dX0_init_73 rfl ?_
  refine z_put (ws' := [(u0, ob 0 [.ref f0, vI 0, .ref q17, .ref q25, .ref q33, .ref q41, .ref q49, .ref q57, vI 0, vI 0, vI 0]), (q17, aI G 7 (fun _ => 0)), (q25, aI G 40 (fun _ => 0)), (q33, aI G 40 (fun _ => 0)), (q41, aI G 7 (fun _ => 0)), (q49, aI G 6 (fun _ => 0)), (q57, aI G 6 (fun _ => 0))]) hC hK hP hD hS inX0 tyX0 tyX0_ok nmX0 rfl 0 rfl 10 (by decide) tw_174 rfl rfl rfl (Nat.le_of_ble_eq_true rfl) rfl dX0_init_74 (fun H locs hP hD hS => ?_)
  exact z_vretW hC hr hlk ⟨q17, q25, q33, q41, q49, q57⟩ hAe hP hD hS [0, 1, 2, 3, 4, 5, 6] (by decide) rfl rfl (trivial) dX0_init_77

set_option maxRecDepth 100000 in
set_option maxHeartbeats 4000000 in
theorem c_X6_make_0 (l : Launch) (G : zGt) (sz : Nat) (b0 b1 g0 e0 f0 w0 u0 : Nat) (mc rn ll : Int) (MK : Int → Option Nat) (x y z : Int) (hok : ((0 ≤ x ∧ x < 256) ∧ (0 ≤ y ∧ y < 256) ∧ 0 ≤ z ∧ z ≤ 2)) (hmc : 0 ≤ mc ∧ mc < 6) : Met l yX6_make (Cond.code yX6_make cX6_make 4 (some .int) :: tb) ({ frames := 2, cells := 2, slots := 4102, locals := 35 } : Room) (zPw G [(b0, ob 6 [.ref b1, vI mc, .ref g0, .ref e0, vI rn, .ref f0, .ref w0, .ref u0, vI ll]), (b1, aR G 6 MK)] sz [.ref b0, vI x, vI y, vI z]) (va_Qi (fun (r : Int32) (u : Nat × Nat) => r = iI mc ∧ True) (fun (u : Nat × Nat) t => zB G [(b0, ob 6 [.ref b1, vI mc, .ref g0, .ref e0, vI rn, .ref f0, .ref w0, .ref u0, vI ll]), (b1, aR G 6 MK)] sz [(b0, ob 6 [.ref b1, vI (mc + 1), .ref g0, .ref e0, vI rn, .ref f0, .ref w0, .ref u0, vI ll]), (b1, aR G 6 (zup MK mc (some u.1))), (u.1, ob 4 [vI x, vI y, vI z, vI 0, vI 0, .ref u.2]), (u.2, aI G 4096 (fun _ => 0))] t) (va_A [(b0, ob 6 [.ref b1, vI mc, .ref g0, .ref e0, vI rn, .ref f0, .ref w0, .ref u0, vI ll]), (b1, aR G 6 MK)] sz)) 2 4102 (va_A [(b0, ob 6 [.ref b1, vI mc, .ref g0, .ref e0, vI rn, .ref f0, .ref w0, .ref u0, vI ll]), (b1, aR G 6 MK)] sz) := by
  refine Met.ofW (cc := cX6_make) (maxL := 4) (ret := (some .int)) (by decide) rfl ?_
  intro p e s m args below meth c s₁ B hml hv
  obtain ⟨rfl, hsz, hP, hK, hD0⟩ := hv
  subst hsz
  have hD := hD0.self (sz := s.heap.size)
  obtain ⟨A, hAe⟩ : ∃ A : Nat → Prop, A = va_A [(b0, ob 6 [.ref b1, vI mc, .ref g0, .ref e0, vI rn, .ref f0, .ref w0, .ref u0, vI ll]), (b1, aR G 6 MK)] s.heap.size := ⟨_, rfl⟩
  rw [← hAe] at hD
  have hA : ∀ q : Nat, s.heap.size ≤ q → A q := fun q h => by rw [hAe]; exact Or.inr h
  have hS : va_S A s.heap s.heap [] := va_S.rf
  obtain ⟨hC, hr, hlk⟩ := z_begin B hml
  have hC : CallFix p m c cX6_make 4 s _ tb RX6 := hC
  have hx := hC.1
  have hb := hC.2.1
  have hl := lv_entry ([.ref b0, vI x, vI y, vI z]) (n := 4) (Nat.le_of_ble_eq_true rfl)
  rw [lg_entry_eq]
  generalize (lg_sl ([.ref b0, vI x, vI y, vI z]) ++ List.replicate (4 - (lg_sl ([.ref b0, vI x, vI y, vI z])).length) Slot.unset).toArray = ls at hl ⊢
  have hl : lv_has ls 4 [(0, .ref b0), (1, vI x), (2, vI y), (3, vI z)] := hl
  obtain ⟨H, hHe⟩ : ∃ H : Heap, H = s.heap := ⟨_, rfl⟩
  obtain ⟨locs, hLe⟩ : ∃ L : List Loc, L = [] := ⟨_, rfl⟩
  suffices hgo : W p l e (headSpec (Cond.code yX6_make cX6_make 4 (some .int) :: tb) ({ frames := 2, cells := 2, slots := 4102, locals := 35 } : Room)).room s m ([.ref b0, vI x, vI y, vI z] : List Value).toArray below meth c H locs 0 0 (MQ below (va_Qi (fun (r : Int32) (u : Nat × Nat) => r = iI mc ∧ True) (fun (u : Nat × Nat) t => zB G [(b0, ob 6 [.ref b1, vI mc, .ref g0, .ref e0, vI rn, .ref f0, .ref w0, .ref u0, vI ll]), (b1, aR G 6 MK)] s.heap.size [(b0, ob 6 [.ref b1, vI (mc + 1), .ref g0, .ref e0, vI rn, .ref f0, .ref w0, .ref u0, vI ll]), (b1, aR G 6 (zup MK mc (some u.1))), (u.1, ob 4 [vI x, vI y, vI z, vI 0, vI 0, .ref u.2]), (u.2, aI G 4096 (fun _ => 0))] t) (va_A [(b0, ob 6 [.ref b1, vI mc, .ref g0, .ref e0, vI rn, .ref f0, .ref w0, .ref u0, vI ll]), (b1, aR G 6 MK)] s.heap.size)) ([.ref b0, vI x, vI y, vI z] : List Value).toArray s 2 4102 (va_A [(b0, ob 6 [.ref b1, vI mc, .ref g0, .ref e0, vI rn, .ref f0, .ref w0, .ref u0, vI ll]), (b1, aR G 6 MK)] s.heap.size)) (F0 m 0 ls []) by rw [hHe, hLe] at hgo; exact hgo
  rw [← hHe] at hP
  have hS : va_S A s.heap H locs := by rw [hHe, hLe]; exact hS
  clear hHe hLe
  refine lv_iload_n hx hb dX6_make_0 rfl (lv_at hl 1 rfl) ?_
  refine z_rSi (rest := []) hC hK hP (c_X6_isByte l G x (by omega)) ms_X6_isByte tw_471 [] rfl rfl hl.1 rfl (Nat.le_of_ble_eq_true rfl) ⟨rfl, rfl, Nat.le_of_ble_eq_true rfl, Nat.le_of_ble_eq_true rfl⟩ ⟨Nat.le_of_ble_eq_true rfl, Nat.le_of_ble_eq_true rfl⟩ dX6_make_1 ?_
  refine z_top (y := 1) (if_pos (by omega)) ?_
  refine z_if_eq (tgt := 14) hx hb dX6_make_4 (by decide) (by omega) (fun c_4 => ?_) (fun c_4 => ?_)
  · exact absurd c_4 (by decide)
  · refine lv_iload_n hx hb dX6_make_7 rfl (lv_at hl 2 rfl) ?_
    refine z_rSi (rest := []) hC hK hP (c_X6_isByte l G y (by omega)) ms_X6_isByte tw_471 [] rfl rfl hl.1 rfl (Nat.le_of_ble_eq_true rfl) ⟨rfl, rfl, Nat.le_of_ble_eq_true rfl, Nat.le_of_ble_eq_true rfl⟩ ⟨Nat.le_of_ble_eq_true rfl, Nat.le_of_ble_eq_true rfl⟩ dX6_make_8 ?_
    refine z_top (y := 1) (if_pos (by omega)) ?_
    refine z_if_ne (tgt := 24) hx hb dX6_make_11 (by decide) (by omega) (fun c_11 => ?_) (fun c_11 => ?_)
    · refine lv_iload_n hx hb dX6_make_24 rfl (lv_at hl 3 rfl) ?_
      refine z_if_lt (tgt := 33) hx hb dX6_make_25 (by decide) (by omega) (fun c_25 => ?_) (fun c_25 => ?_)
      · exfalso; omega
      · refine lv_iload_n hx hb dX6_make_28 rfl (lv_at hl 3 rfl) ?_
        refine lv_iconst (v := iI 3) hx hb dX6_make_29 rfl ?_
        refine z_icmp_lt (tgt := 43) hx hb dX6_make_30 (by decide) (by omega) (fun c_30 => ?_) (fun c_30 => ?_)
        · refine lv_aload_n hx hb dX6_make_43 rfl (lv_at hl 0 rfl) ?_
          refine z_get (v := vI mc) hC hK hP inX6 rfl 0 rfl 1 (by decide) tw_199 rfl dX6_make_44 ?_
          refine lv_bipush (v := iI 6) hx hb dX6_make_47 (by decide) ?_
          refine z_icmp_lt (tgt := 62) hx hb dX6_make_49 (by decide) (by omega) (fun c_49 => ?_) (fun c_49 => ?_)
          · refine lv_aload_n hx hb dX6_make_62 rfl (lv_at hl 0 rfl) ?_
            refine z_get (v := .ref b1) hC hK hP inX6 rfl 0 rfl 0 (by decide) tw_198 rfl dX6_make_63 ?_
            refine lv_aload_n hx hb dX6_make_66 rfl (lv_at hl 0 rfl) ?_
            refine z_get (v := vI mc) hC hK hP inX6 rfl 0 rfl 1 (by decide) tw_199 rfl dX6_make_67 ?_
            refine z_new (ci := 4) (fs := [vI 0, vI 0, vI 0, vI 0, vI 0, .null]) hC hK hP hD hS hA inX4 tyX4 tyX4_ok tw_61 tw_559 tw_47 rfl (fun j hj => by rcases (show j = 0 ∨ j = 1 ∨ j = 2 ∨ j = 3 ∨ j = 4 ∨ j = 5 by omega) with h | h | h | h | h | h <;> (subst h; rfl)) (Nat.le_of_ble_eq_true rfl) (Nat.le_of_ble_eq_true rfl) dX6_make_70 (fun q70 H hP hD hS => ?_)
            have hP : va_P G.1 vwCl [(b0, ob 6 [.ref b1, vI mc, .ref g0, .ref e0, vI rn, .ref f0, .ref w0, .ref u0, vI ll]), (b1, aR G 6 MK), (q70, ob 4 [vI 0, vI 0, vI 0, vI 0, vI 0, .null])] H := hP
            have hD : va_D A [(b0, ob 6 [.ref b1, vI mc, .ref g0, .ref e0, vI rn, .ref f0, .ref w0, .ref u0, vI ll]), (b1, aR G 6 MK), (q70, ob 4 [vI 0, vI 0, vI 0, vI 0, vI 0, .null])] := hD
            refine lv_dup hx hb dX6_make_73 rfl ?_
            refine lv_iload_n hx hb dX6_make_74 rfl (lv_at hl 1 rfl) ?_
            refine lv_iload_n hx hb dX6_make_75 rfl (lv_at hl 2 rfl) ?_
            refine lv_iload_n hx hb dX6_make_76 rfl (lv_at hl 3 rfl) ?_
            refine z_wI (b := q70) (rest := [.ref q70, vI mc, .ref b1]) (wr := [(b0, ob 6 [.ref b1, vI mc, .ref g0, .ref e0, vI rn, .ref f0, .ref w0, .ref u0, vI ll]), (b1, aR G 6 MK)]) hC hK hP hD hS hA (c_X4_init l G H.size q70 x y z) mi_X4_init tw_560 [2] [0, 1] rfl rfl rfl rfl (by decide) rfl rfl hl.1 rfl (Nat.le_of_ble_eq_true rfl) ⟨rfl, rfl, Nat.le_of_ble_eq_true rfl, Nat.le_of_ble_eq_true rfl⟩ ⟨Nat.le_of_ble_eq_true rfl, Nat.le_of_ble_eq_true rfl⟩ dX6_make_77 (fun u H locs hw hP hD hS => ?_)
            obtain ⟨m1'_1, rfl⟩ : ∃ z, z = u := ⟨_, rfl⟩
            have hP : va_P G.1 vwCl [(b0, ob 6 [.ref b1, vI mc, .ref g0, .ref e0, vI rn, .ref f0, .ref w0, .ref u0, vI ll]), (b1, aR G 6 MK), (q70, ob 4 [vI x, vI y, vI z, vI 0, vI 0, .ref m1'_1]), (m1'_1, aI G 4096 (fun _ => 0))] H := hP
            have hD : va_D A [(b0, ob 6 [.ref b1, vI mc, .ref g0, .ref e0, vI rn, .ref f0, .ref w0, .ref u0, vI ll]), (b1, aR G 6 MK), (q70, ob 4 [vI x, vI y, vI z, vI 0, vI 0, .ref m1'_1]), (m1'_1, aI G 4096 (fun _ => 0))] := hD
            have hw_1 := hw
            refine z_aast (ws' := [(b0, ob 6 [.ref b1, vI mc, .ref g0, .ref e0, vI rn, .ref f0, .ref w0, .ref u0, vI ll]), (b1, aR G 6 (zup MK mc (some q70))), (q70, ob 4 [vI x, vI y, vI z, vI 0, vI 0, .ref m1'_1]), (m1'_1, aI G 4096 (fun _ => 0))]) hC hK hP hD hS 1 2 rfl rfl (by omega) (by decide) rfl dX6_make_80 (fun H locs hP hD hS => ?_)
            refine lv_aload_n hx hb dX6_make_81 rfl (lv_at hl 0 rfl) ?_
            refine lv_dup hx hb dX6_make_82 rfl ?_
            refine z_get (v := vI mc) hC hK hP inX6 rfl 0 rfl 1 (by decide) tw_199 rfl dX6_make_83 ?_
            refine lv_iconst (v := iI 1) hx hb dX6_make_86 rfl ?_
            refine z_iadd hx hb dX6_make_87 ?_
            refine z_put (ws' := [(b0, ob 6 [.ref b1, vI (mc + 1), .ref g0, .ref e0, vI rn, .ref f0, .ref w0, .ref u0, vI ll]), (b1, aR G 6 (zup MK mc (some q70))), (q70, ob 4 [vI x, vI y, vI z, vI 0, vI 0, .ref m1'_1]), (m1'_1, aI G 4096 (fun _ => 0))]) hC hK hP hD hS inX6 tyX6 tyX6_ok nmX6 rfl 0 rfl 1 (by decide) tw_199 rfl rfl rfl (Nat.le_of_ble_eq_true rfl) rfl dX6_make_88 (fun H locs hP hD hS => ?_)
            refine lv_aload_n hx hb dX6_make_91 rfl (lv_at hl 0 rfl) ?_
            refine z_get (v := vI (mc + 1)) hC hK hP inX6 rfl 0 rfl 1 (by decide) tw_199 rfl dX6_make_92 ?_
            refine lv_iconst (v := iI 1) hx hb dX6_make_95 rfl ?_
            refine z_isub hx hb dX6_make_96 ?_
            exact z_iretW hC hr hlk ⟨q70, m1'_1⟩ hAe hP hD hS [0, 1, 2, 3] (by decide) rfl rfl (⟨congrArg iI (by omega), trivial⟩) dX6_make_97
          · exfalso; omega
        · exfalso; omega
    · exact absurd c_11 (by decide)
