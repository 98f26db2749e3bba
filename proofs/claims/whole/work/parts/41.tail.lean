/-! worlds with a tail that is not told cell by cell; the makes as such a tail -/
theorem ndI : ∀ (l : List Nat), (∀ (i j a : Nat), l[i]? = some a → l[j]? = some a → i = j) → l.Nodup
  | [], _ => List.nodup_nil
  | b :: l, h => List.nodup_cons.mpr ⟨fun hm => by
      obtain ⟨k, hk⟩ := List.getElem?_of_mem hm
      have := h 0 (k + 1) b rfl hk
      omega, ndI l (fun i j a hi hj => by have := h (i + 1) (j + 1) a hi hj; omega)⟩
theorem ndE : ∀ (l : List Nat), l.Nodup → ∀ (i j a : Nat), l[i]? = some a → l[j]? = some a → i = j
  | [], _, i, j, a, h, _ => by simp at h
  | b :: l, hn, i, j, a, h1, h2 => by
    obtain ⟨n1, n2⟩ := List.nodup_cons.mp hn
    cases i with
    | zero =>
      cases j with
      | zero => rfl
      | succ j =>
        have e : b = a := Option.some.inj h1
        rw [← e] at h2
        have h3 : l[j]? = some b := h2
        exact absurd (List.mem_of_getElem? h3) n1
    | succ i =>
      cases j with
      | zero =>
        have e : b = a := Option.some.inj h2
        rw [← e] at h1
        have h3 : l[i]? = some b := h1
        exact absurd (List.mem_of_getElem? h3) n1
      | succ j => exact congrArg (· + 1) (ndE l n2 i j a h1 h2)
theorem va_P_perm {D : va_G} {cl : List vw_C} {ws ws' : va_W} {H : Heap} (hp : ws.Perm ws') (h : va_P D cl ws H) : va_P D cl ws' H := by
  intro k q hk
  obtain ⟨j, hj⟩ := List.getElem?_of_mem (hp.mem_iff.mpr (List.mem_of_getElem? hk))
  exact h j q hj
theorem va_D_perm {A : Nat → Prop} {ws ws' : va_W} (hp : ws.Perm ws') (h : va_D A ws) : va_D A ws' := by
  have n1 : (ws.map Prod.fst).Nodup := ndI _ (fun i j a hi hj => by
    rw [List.getElem?_map] at hi hj
    cases ei : ws[i]? with
    | none => rw [ei] at hi; cases hi
    | some x =>
      cases ej : ws[j]? with
      | none => rw [ej] at hj; cases hj
      | some y =>
        rw [ei] at hi
        rw [ej] at hj
        exact h.1 i j x y ei ej ((Option.some.inj hi).trans (Option.some.inj hj).symm))
  have n2 : (ws'.map Prod.fst).Nodup := (hp.map Prod.fst).nodup_iff.mp n1
  refine ⟨fun i j x y hi hj e => ndE _ n2 i j x.1 (by rw [List.getElem?_map, hi]; rfl) (by rw [List.getElem?_map, hj, e]; rfl), fun k q hk => ?_⟩
  obtain ⟨j, hj⟩ := List.getElem?_of_mem (hp.mem_iff.mpr (List.mem_of_getElem? hk))
  exact h.2 j q hj
theorem va_A_perm {ws ws' : va_W} (hp : ws.Perm ws') (sz : Nat) : va_A ws sz = va_A ws' sz := by
  have key : ∀ {u v : va_W}, u.Perm v → ∀ q, va_A u sz q → va_A v sz q := by
    intro u v h q hq
    rcases hq with ⟨k, e, hk⟩ | hq
    · obtain ⟨j, hj⟩ := List.getElem?_of_mem (h.mem_iff.mp (List.mem_of_getElem? hk))
      exact Or.inl ⟨j, e, hj⟩
    · exact Or.inr hq
  funext q
  exact propext ⟨key hp q, key hp.symm q⟩
theorem va_P_left {D : va_G} {cl : List vw_C} {X pl : va_W} {H : Heap} (h : va_P D cl (X ++ pl) H) : va_P D cl X H := fun k q hk => h k q (by rw [List.getElem?_append_left (List.getElem?_eq_some_iff.mp hk).1]; exact hk)
theorem va_D_left {A : Nat → Prop} {X pl : va_W} (h : va_D A (X ++ pl)) : va_D A X := by
  have lift : ∀ (k : Nat) (q : Nat × va_E), X[k]? = some q → (X ++ pl)[k]? = some q := fun k q hk => by rw [List.getElem?_append_left (List.getElem?_eq_some_iff.mp hk).1]; exact hk
  exact ⟨fun i j x y hi hj => h.1 i j x y (lift i x hi) (lift j y hj), fun k q hk => h.2 k q (lift k q hk)⟩
abbrev mkT : Type := Nat × Nat × Int × Int × Int × Int × Int × (Int → Int)
abbrev mO (x : mkT) : Nat := x.1
abbrev mA (x : mkT) : Nat := x.2.1
abbrev mF (x : mkT) : Int := x.2.2.1
abbrev mS (x : mkT) : Int := x.2.2.2.1
abbrev mK (x : mkT) : Int := x.2.2.2.2.1
abbrev mG (x : mkT) : Int := x.2.2.2.2.2.1
abbrev mE (x : mkT) : Int := x.2.2.2.2.2.2.1
abbrev mT (x : mkT) : Int → Int := x.2.2.2.2.2.2.2
def mkC (G : zGt) (x : mkT) : va_W := [(mO x, ob 4 [vI (mF x), vI (mS x), vI (mK x), vI (mG x), vI (mE x), .ref (mA x)]), (mA x, aI G 4096 (mT x))]
def mkW (G : zGt) (L : List mkT) : va_W := L.flatMap (mkC G)
theorem mkW_cut (G : zGt) (L1 : List mkT) (x : mkT) (L2 : List mkT) : (mkW G (L1 ++ x :: L2)).Perm (mkC G x ++ mkW G (L1 ++ L2)) := by
  unfold mkW
  rw [List.flatMap_append, List.flatMap_append, List.flatMap_cons]
  exact (List.perm_append_comm_assoc _ _ _)
/-- make x of the row to the front of the tail -/
theorem mkW_to (G : zGt) (X : va_W) (L1 : List mkT) (x : mkT) (L2 : List mkT) : (X ++ mkW G (L1 ++ x :: L2)).Perm ((X ++ mkC G x) ++ mkW G (L1 ++ L2)) := by
  rw [List.append_assoc]
  exact List.Perm.append_left X (mkW_cut G L1 x L2)
theorem mkW_push (G : zGt) (L : List mkT) (x : mkT) : mkW G (L ++ [x]) = mkW G L ++ mkC G x := by
  unfold mkW
  rw [List.flatMap_append, List.flatMap_cons, List.flatMap_nil, List.append_nil]
theorem split_at {α : Type} : ∀ (L : List α) (k : Nat) (x : α), L[k]? = some x → ∃ L1 L2, L = L1 ++ x :: L2 ∧ L1.length = k
  | [], k, x, h => by simp at h
  | y :: L, 0, x, h => ⟨[], L, by rw [Option.some.inj h]; rfl, rfl⟩
  | y :: L, k + 1, x, h => by
    obtain ⟨L1, L2, e, n⟩ := split_at L k x h
    exact ⟨y :: L1, L2, by rw [e]; rfl, by rw [List.length_cons, n]⟩
section ZTl
variable {p : Program} {l : Launch} {e : Env} {R : Room} {s : State} {m : MethodId} {args : Array Value} {below : List Frame} {meth : Method} {c : Code} {H : Heap} {locs : List Loc} {cells slots : Nat} {Q : State → Prop}
variable {cc : ByteArray} {pc nL : Nat} {ls : Array Slot} {rest st0 : List Value} {G : zGt} {A : Nat → Prop} {H0 : Heap} {X pl : va_W} {own : String} {a : Nat}
theorem z_wVi_t (hC : CallFix p m c cc nL s args tb own) (hK : zK G s) (hP : va_P G.1 vwCl (X ++ pl) H) (hD : va_D A (X ++ pl)) (hS : va_S A H0 H locs) (hA : ∀ q, H0.size ≤ q → A q) {y : MethodName} {bytes : ByteArray} {maxL n index ci q0 b mc ms : Nat} {ret : Option FieldType} {rm : Room} {As : List Value} {wc wr : va_W} {q : vw_C} {fs : List Value} {S : Type} {post : Int32 → S → Prop} {w1 : S → va_W}
    (hM : Met l y (Cond.code y bytes maxL ret :: tb) rm (zPw G wc H.size (.ref b :: As)) (va_Qi post (fun u t => zB G wc H.size (w1 u) t) (va_A wc H.size)) mc ms (va_A wc H.size)) (hm : zMV y bytes maxL ret q.1 n) (hl : Cond.methodLink own index y ∈ tb)
    (is ir : List Nat) (hi1 : is.map (fun i => X[i]?) = wc.map some) (hi2 : ir.map (fun i => X[i]?) = wr.map some) (hn1 : va_nd is = true) (hn2 : va_nd ir = true) (hdis : ∀ i ∈ ir, i ∉ is) (hs : is.filterMap (fun i => X[i]?) = wc) (hc : vwCl[ci]? = some q) (he : X[q0]? = some (b, ob ci fs)) (hn : As.length = n) (hsz : ls.size = nL) (hst : st0 = As.reverse ++ .ref b :: rest) (hW : (rest.map fun v => v.category).sum ≤ 8)
    (hR : rm.cells = mc ∧ rm.slots = ms ∧ rm.frames + 1 ≤ R.frames ∧ 8 + (maxL + 11) + rm.locals ≤ R.locals) (hf : cells + mc ≤ R.cells ∧ slots + ms ≤ R.slots) (hdg : decode cc pc = .ok (.invokevirtual index, 3))
    (kk : ∀ (r : Int32) (u : S) (H1 : Heap) (locs1 : List Loc), post r u → va_P G.1 vwCl ((wr ++ w1 u) ++ pl) H1 → va_D A ((wr ++ w1 u) ++ pl) → va_S A H0 H1 locs1 → W p l e R s m args below meth c H1 locs1 (cells + mc) (slots + ms) Q (F0 m (pc + 3) ls (.int r :: rest))) : W p l e R s m args below meth c H locs cells slots Q (F0 m pc ls st0) := by
  have hPx := va_P_left hP
  have hDx := va_D_left hD
  have hFc := va_free (wc := wc) hDx hS hA is hi1
  refine va_calli (va_runV hC hM (cwV n hC.2.2.2.2 (tb_wsV hm hl) rfl hR.1 hR.2.1 hm.2.2.2.2 hR.2.2) ⟨zPw.blind, va_recv hK.1 hPx hc he, fun U hU hW => ⟨rfl, by rw [hU], by rw [hU]; exact hPx.sub is hs, hK.warm hW, (hDx.sub is hn1 hi1).weaken (fun _ _ _ _ => trivial)⟩⟩ rfl hn hsz hst (lv_room hW) hdg hf) hS (fun q _ h => hFc q h) hFc (fun r u t H1 locs1 ht hvm hw hB hz1 hk1 hS1 => ?_)
  subst ht
  obtain ⟨h1, h2⟩ := va_joinQ hP hD is ir hi1 hi2 hn2 hdis hk1 hFc hB.1 hB.2
  exact kk r u _ locs1 hw h1 h2 hS1
theorem z_wVi_T (hC : CallFix p m c cc nL s args tb own) (hK : zK G s) (hP : va_P G.1 vwCl (X ++ pl) H) (hD : va_D A (X ++ pl)) (hS : va_S A H0 H locs) (hA : ∀ q, H0.size ≤ q → A q) {y : MethodName} {bytes : ByteArray} {maxL n index ci q0 b mc ms : Nat} {ret : Option FieldType} {rm : Room} {As : List Value} {wc wr : va_W} {q : vw_C} {fs : List Value} {S : Type} {post : Int32 → S → Prop} {w1 pl1 : S → va_W}
    (hM : Met l y (Cond.code y bytes maxL ret :: tb) rm (zPw G (wc ++ pl) H.size (.ref b :: As)) (va_Qi post (fun u t => zB G (wc ++ pl) H.size (w1 u ++ pl1 u) t) (va_A (wc ++ pl) H.size)) mc ms (va_A (wc ++ pl) H.size)) (hm : zMV y bytes maxL ret q.1 n) (hl : Cond.methodLink own index y ∈ tb)
    (is ir : List Nat) (hi1 : is.map (fun i => X[i]?) = wc.map some) (hi2 : ir.map (fun i => X[i]?) = wr.map some) (hn1 : va_nd is = true) (hn2 : va_nd ir = true) (hdis : ∀ i ∈ ir, i ∉ is) (hs : is.filterMap (fun i => X[i]?) = wc) (hc : vwCl[ci]? = some q) (he : X[q0]? = some (b, ob ci fs)) (hn : As.length = n) (hsz : ls.size = nL) (hst : st0 = As.reverse ++ .ref b :: rest) (hW : (rest.map fun v => v.category).sum ≤ 8)
    (hR : rm.cells = mc ∧ rm.slots = ms ∧ rm.frames + 1 ≤ R.frames ∧ 8 + (maxL + 11) + rm.locals ≤ R.locals) (hf : cells + mc ≤ R.cells ∧ slots + ms ≤ R.slots) (hdg : decode cc pc = .ok (.invokevirtual index, 3))
    (kk : ∀ (r : Int32) (u : S) (H1 : Heap) (locs1 : List Loc), post r u → va_P G.1 vwCl ((wr ++ w1 u) ++ pl1 u) H1 → va_D A ((wr ++ w1 u) ++ pl1 u) → va_S A H0 H1 locs1 → W p l e R s m args below meth c H1 locs1 (cells + mc) (slots + ms) Q (F0 m (pc + 3) ls (.int r :: rest))) : W p l e R s m args below meth c H locs cells slots Q (F0 m pc ls st0) := by
  have hPx := va_P_left hP
  have hFc := va_freeP (cx := wc) hD hS hA is hi1
  refine va_calli (va_runV hC hM (cwV n hC.2.2.2.2 (tb_wsV hm hl) rfl hR.1 hR.2.1 hm.2.2.2.2 hR.2.2) ⟨zPw.blind, va_recv hK.1 hPx hc he, fun U hU hW => ⟨rfl, by rw [hU], by rw [hU]; exact hP.part is hi1, hK.warm hW, (hD.part is hn1 hi1).weaken (fun _ _ _ _ => trivial)⟩⟩ rfl hn hsz hst (lv_room hW) hdg hf) hS (fun q _ h => hFc q h) hFc (fun r u t H1 locs1 ht hvm hw hB hz1 hk1 hS1 => ?_)
  subst ht
  obtain ⟨h1, h2⟩ := va_joinP hP hD is ir hi1 hi2 hn2 hdis hk1 hFc hB.1 hB.2
  exact kk r u _ locs1 hw h1 h2 hS1
theorem z_wVl_t (hC : CallFix p m c cc nL s args tb own) (hK : zK G s) (hP : va_P G.1 vwCl (X ++ pl) H) (hD : va_D A (X ++ pl)) (hS : va_S A H0 H locs) (hA : ∀ q, H0.size ≤ q → A q) {y : MethodName} {bytes : ByteArray} {maxL n index ci q0 b mc ms : Nat} {ret : Option FieldType} {rm : Room} {As : List Value} {wc wr : va_W} {q : vw_C} {fs : List Value} {S : Type} {post : Int64 → S → Prop} {w1 : S → va_W}
    (hM : Met l y (Cond.code y bytes maxL ret :: tb) rm (zPw G wc H.size (.ref b :: As)) (va_Ql post (fun u t => zB G wc H.size (w1 u) t) (va_A wc H.size)) mc ms (va_A wc H.size)) (hm : zMV y bytes maxL ret q.1 n) (hl : Cond.methodLink own index y ∈ tb)
    (is ir : List Nat) (hi1 : is.map (fun i => X[i]?) = wc.map some) (hi2 : ir.map (fun i => X[i]?) = wr.map some) (hn1 : va_nd is = true) (hn2 : va_nd ir = true) (hdis : ∀ i ∈ ir, i ∉ is) (hs : is.filterMap (fun i => X[i]?) = wc) (hc : vwCl[ci]? = some q) (he : X[q0]? = some (b, ob ci fs)) (hn : As.length = n) (hsz : ls.size = nL) (hst : st0 = As.reverse ++ .ref b :: rest) (hW : (rest.map fun v => v.category).sum ≤ 8)
    (hR : rm.cells = mc ∧ rm.slots = ms ∧ rm.frames + 1 ≤ R.frames ∧ 8 + (maxL + 11) + rm.locals ≤ R.locals) (hf : cells + mc ≤ R.cells ∧ slots + ms ≤ R.slots) (hdg : decode cc pc = .ok (.invokevirtual index, 3))
    (kk : ∀ (r : Int64) (u : S) (H1 : Heap) (locs1 : List Loc), post r u → va_P G.1 vwCl ((wr ++ w1 u) ++ pl) H1 → va_D A ((wr ++ w1 u) ++ pl) → va_S A H0 H1 locs1 → W p l e R s m args below meth c H1 locs1 (cells + mc) (slots + ms) Q (F0 m (pc + 3) ls (.long r :: rest))) : W p l e R s m args below meth c H locs cells slots Q (F0 m pc ls st0) := by
  have hPx := va_P_left hP
  have hDx := va_D_left hD
  have hFc := va_free (wc := wc) hDx hS hA is hi1
  refine va_calll (va_runV hC hM (cwV n hC.2.2.2.2 (tb_wsV hm hl) rfl hR.1 hR.2.1 hm.2.2.2.2 hR.2.2) ⟨zPw.blind, va_recv hK.1 hPx hc he, fun U hU hW => ⟨rfl, by rw [hU], by rw [hU]; exact hPx.sub is hs, hK.warm hW, (hDx.sub is hn1 hi1).weaken (fun _ _ _ _ => trivial)⟩⟩ rfl hn hsz hst (lv_room hW) hdg hf) hS (fun q _ h => hFc q h) hFc (fun r u t H1 locs1 ht hvm hw hB hz1 hk1 hS1 => ?_)
  subst ht
  obtain ⟨h1, h2⟩ := va_joinQ hP hD is ir hi1 hi2 hn2 hdis hk1 hFc hB.1 hB.2
  exact kk r u _ locs1 hw h1 h2 hS1
theorem z_wVl_T (hC : CallFix p m c cc nL s args tb own) (hK : zK G s) (hP : va_P G.1 vwCl (X ++ pl) H) (hD : va_D A (X ++ pl)) (hS : va_S A H0 H locs) (hA : ∀ q, H0.size ≤ q → A q) {y : MethodName} {bytes : ByteArray} {maxL n index ci q0 b mc ms : Nat} {ret : Option FieldType} {rm : Room} {As : List Value} {wc wr : va_W} {q : vw_C} {fs : List Value} {S : Type} {post : Int64 → S → Prop} {w1 pl1 : S → va_W}
    (hM : Met l y (Cond.code y bytes maxL ret :: tb) rm (zPw G (wc ++ pl) H.size (.ref b :: As)) (va_Ql post (fun u t => zB G (wc ++ pl) H.size (w1 u ++ pl1 u) t) (va_A (wc ++ pl) H.size)) mc ms (va_A (wc ++ pl) H.size)) (hm : zMV y bytes maxL ret q.1 n) (hl : Cond.methodLink own index y ∈ tb)
    (is ir : List Nat) (hi1 : is.map (fun i => X[i]?) = wc.map some) (hi2 : ir.map (fun i => X[i]?) = wr.map some) (hn1 : va_nd is = true) (hn2 : va_nd ir = true) (hdis : ∀ i ∈ ir, i ∉ is) (hs : is.filterMap (fun i => X[i]?) = wc) (hc : vwCl[ci]? = some q) (he : X[q0]? = some (b, ob ci fs)) (hn : As.length = n) (hsz : ls.size = nL) (hst : st0 = As.reverse ++ .ref b :: rest) (hW : (rest.map fun v => v.category).sum ≤ 8)
    (hR : rm.cells = mc ∧ rm.slots = ms ∧ rm.frames + 1 ≤ R.frames ∧ 8 + (maxL + 11) + rm.locals ≤ R.locals) (hf : cells + mc ≤ R.cells ∧ slots + ms ≤ R.slots) (hdg : decode cc pc = .ok (.invokevirtual index, 3))
    (kk : ∀ (r : Int64) (u : S) (H1 : Heap) (locs1 : List Loc), post r u → va_P G.1 vwCl ((wr ++ w1 u) ++ pl1 u) H1 → va_D A ((wr ++ w1 u) ++ pl1 u) → va_S A H0 H1 locs1 → W p l e R s m args below meth c H1 locs1 (cells + mc) (slots + ms) Q (F0 m (pc + 3) ls (.long r :: rest))) : W p l e R s m args below meth c H locs cells slots Q (F0 m pc ls st0) := by
  have hPx := va_P_left hP
  have hFc := va_freeP (cx := wc) hD hS hA is hi1
  refine va_calll (va_runV hC hM (cwV n hC.2.2.2.2 (tb_wsV hm hl) rfl hR.1 hR.2.1 hm.2.2.2.2 hR.2.2) ⟨zPw.blind, va_recv hK.1 hPx hc he, fun U hU hW => ⟨rfl, by rw [hU], by rw [hU]; exact hP.part is hi1, hK.warm hW, (hD.part is hn1 hi1).weaken (fun _ _ _ _ => trivial)⟩⟩ rfl hn hsz hst (lv_room hW) hdg hf) hS (fun q _ h => hFc q h) hFc (fun r u t H1 locs1 ht hvm hw hB hz1 hk1 hS1 => ?_)
  subst ht
  obtain ⟨h1, h2⟩ := va_joinP hP hD is ir hi1 hi2 hn2 hdis hk1 hFc hB.1 hB.2
  exact kk r u _ locs1 hw h1 h2 hS1
theorem z_wVv_t (hC : CallFix p m c cc nL s args tb own) (hK : zK G s) (hP : va_P G.1 vwCl (X ++ pl) H) (hD : va_D A (X ++ pl)) (hS : va_S A H0 H locs) (hA : ∀ q, H0.size ≤ q → A q) {y : MethodName} {bytes : ByteArray} {maxL n index ci q0 b mc ms : Nat} {ret : Option FieldType} {rm : Room} {As : List Value} {wc wr : va_W} {q : vw_C} {fs : List Value} {S : Type} {post : S → Prop} {w1 : S → va_W}
    (hM : Met l y (Cond.code y bytes maxL ret :: tb) rm (zPw G wc H.size (.ref b :: As)) (va_Qv post (fun u t => zB G wc H.size (w1 u) t) (va_A wc H.size)) mc ms (va_A wc H.size)) (hm : zMV y bytes maxL ret q.1 n) (hl : Cond.methodLink own index y ∈ tb)
    (is ir : List Nat) (hi1 : is.map (fun i => X[i]?) = wc.map some) (hi2 : ir.map (fun i => X[i]?) = wr.map some) (hn1 : va_nd is = true) (hn2 : va_nd ir = true) (hdis : ∀ i ∈ ir, i ∉ is) (hs : is.filterMap (fun i => X[i]?) = wc) (hc : vwCl[ci]? = some q) (he : X[q0]? = some (b, ob ci fs)) (hn : As.length = n) (hsz : ls.size = nL) (hst : st0 = As.reverse ++ .ref b :: rest) (hW : (rest.map fun v => v.category).sum ≤ 8)
    (hR : rm.cells = mc ∧ rm.slots = ms ∧ rm.frames + 1 ≤ R.frames ∧ 8 + (maxL + 11) + rm.locals ≤ R.locals) (hf : cells + mc ≤ R.cells ∧ slots + ms ≤ R.slots) (hdg : decode cc pc = .ok (.invokevirtual index, 3))
    (kk : ∀ (u : S) (H1 : Heap) (locs1 : List Loc), post u → va_P G.1 vwCl ((wr ++ w1 u) ++ pl) H1 → va_D A ((wr ++ w1 u) ++ pl) → va_S A H0 H1 locs1 → W p l e R s m args below meth c H1 locs1 (cells + mc) (slots + ms) Q (F0 m (pc + 3) ls rest)) : W p l e R s m args below meth c H locs cells slots Q (F0 m pc ls st0) := by
  have hPx := va_P_left hP
  have hDx := va_D_left hD
  have hFc := va_free (wc := wc) hDx hS hA is hi1
  refine va_callv (va_runV hC hM (cwV n hC.2.2.2.2 (tb_wsV hm hl) rfl hR.1 hR.2.1 hm.2.2.2.2 hR.2.2) ⟨zPw.blind, va_recv hK.1 hPx hc he, fun U hU hW => ⟨rfl, by rw [hU], by rw [hU]; exact hPx.sub is hs, hK.warm hW, (hDx.sub is hn1 hi1).weaken (fun _ _ _ _ => trivial)⟩⟩ rfl hn hsz hst (lv_room hW) hdg hf) hS (fun q _ h => hFc q h) hFc (fun u t H1 locs1 ht hvm hw hB hz1 hk1 hS1 => ?_)
  subst ht
  obtain ⟨h1, h2⟩ := va_joinQ hP hD is ir hi1 hi2 hn2 hdis hk1 hFc hB.1 hB.2
  exact kk u _ locs1 hw h1 h2 hS1
theorem z_wVv_T (hC : CallFix p m c cc nL s args tb own) (hK : zK G s) (hP : va_P G.1 vwCl (X ++ pl) H) (hD : va_D A (X ++ pl)) (hS : va_S A H0 H locs) (hA : ∀ q, H0.size ≤ q → A q) {y : MethodName} {bytes : ByteArray} {maxL n index ci q0 b mc ms : Nat} {ret : Option FieldType} {rm : Room} {As : List Value} {wc wr : va_W} {q : vw_C} {fs : List Value} {S : Type} {post : S → Prop} {w1 pl1 : S → va_W}
    (hM : Met l y (Cond.code y bytes maxL ret :: tb) rm (zPw G (wc ++ pl) H.size (.ref b :: As)) (va_Qv post (fun u t => zB G (wc ++ pl) H.size (w1 u ++ pl1 u) t) (va_A (wc ++ pl) H.size)) mc ms (va_A (wc ++ pl) H.size)) (hm : zMV y bytes maxL ret q.1 n) (hl : Cond.methodLink own index y ∈ tb)
    (is ir : List Nat) (hi1 : is.map (fun i => X[i]?) = wc.map some) (hi2 : ir.map (fun i => X[i]?) = wr.map some) (hn1 : va_nd is = true) (hn2 : va_nd ir = true) (hdis : ∀ i ∈ ir, i ∉ is) (hs : is.filterMap (fun i => X[i]?) = wc) (hc : vwCl[ci]? = some q) (he : X[q0]? = some (b, ob ci fs)) (hn : As.length = n) (hsz : ls.size = nL) (hst : st0 = As.reverse ++ .ref b :: rest) (hW : (rest.map fun v => v.category).sum ≤ 8)
    (hR : rm.cells = mc ∧ rm.slots = ms ∧ rm.frames + 1 ≤ R.frames ∧ 8 + (maxL + 11) + rm.locals ≤ R.locals) (hf : cells + mc ≤ R.cells ∧ slots + ms ≤ R.slots) (hdg : decode cc pc = .ok (.invokevirtual index, 3))
    (kk : ∀ (u : S) (H1 : Heap) (locs1 : List Loc), post u → va_P G.1 vwCl ((wr ++ w1 u) ++ pl1 u) H1 → va_D A ((wr ++ w1 u) ++ pl1 u) → va_S A H0 H1 locs1 → W p l e R s m args below meth c H1 locs1 (cells + mc) (slots + ms) Q (F0 m (pc + 3) ls rest)) : W p l e R s m args below meth c H locs cells slots Q (F0 m pc ls st0) := by
  have hPx := va_P_left hP
  have hFc := va_freeP (cx := wc) hD hS hA is hi1
  refine va_callv (va_runV hC hM (cwV n hC.2.2.2.2 (tb_wsV hm hl) rfl hR.1 hR.2.1 hm.2.2.2.2 hR.2.2) ⟨zPw.blind, va_recv hK.1 hPx hc he, fun U hU hW => ⟨rfl, by rw [hU], by rw [hU]; exact hP.part is hi1, hK.warm hW, (hD.part is hn1 hi1).weaken (fun _ _ _ _ => trivial)⟩⟩ rfl hn hsz hst (lv_room hW) hdg hf) hS (fun q _ h => hFc q h) hFc (fun u t H1 locs1 ht hvm hw hB hz1 hk1 hS1 => ?_)
  subst ht
  obtain ⟨h1, h2⟩ := va_joinP hP hD is ir hi1 hi2 hn2 hdis hk1 hFc hB.1 hB.2
  exact kk u _ locs1 hw h1 h2 hS1
/-- returns whose world is told as it lies -/
theorem z_vretT (hC : CallFix p m c cc nL s args tb own) (hr : meth.sig.returnType = none) (hlocks : meth.locks = false) {wc : va_W} {S : Type} {post : S → Prop} {wS : S → va_W} {sz : Nat} (u : S) (hA : A = va_A wc sz) (hP : va_P G.1 vwCl (wS u) H) (hD : va_D A (wS u)) (hS : va_S A s.heap H locs) (hp : post u) (hdg : decode cc pc = .ok (.return_, 1)) : W p l e R s m args below meth c H locs cells slots (MQ below (va_Qv post (fun u t => zB G wc sz (wS u) t) (va_A wc sz)) args s cells slots (va_A wc sz)) (F0 m pc ls []) := by
  subst hA
  exact W.vret hC.1 hC.2.1 hr (fun t ht hW => ⟨⟨u, rfl, hp, by rw [ht]; exact hP, hD⟩, hS.F ht⟩) hS.2.2 hdg hlocks
theorem z_iretT (hC : CallFix p m c cc nL s args tb own) (hr : meth.sig.returnType = some .int) (hlocks : meth.locks = false) {wc : va_W} {S : Type} {post : Int32 → S → Prop} {wS : S → va_W} {sz : Nat} {x : Int} (u : S) (hA : A = va_A wc sz) (hP : va_P G.1 vwCl (wS u) H) (hD : va_D A (wS u)) (hS : va_S A s.heap H locs) (hp : post (iI x) u) (hdg : decode cc pc = .ok (.ireturn, 1)) : W p l e R s m args below meth c H locs cells slots (MQ below (va_Qi post (fun u t => zB G wc sz (wS u) t) (va_A wc sz)) args s cells slots (va_A wc sz)) (F0 m pc ls [vI x]) := by
  subst hA
  exact W.iret hC.1 hC.2.1 hr (fun t ht hW => ⟨⟨iI x, u, rfl, hp, by rw [ht]; exact hP, hD⟩, hS.F ht⟩) hS.2.2 hdg hlocks
end ZTl
