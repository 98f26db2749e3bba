/-! a row copied into a row; a thing that holds as 1; keys of files -/
theorem tw_nat : Cond.native arraycopyName ∈ tb := List.mem_filter.mpr ⟨List.mem_of_getElem? (i := 248) (by decide +kernel), by decide +kernel⟩
def zcpy {α : Type} (F K : Int → α) (n : Int) : Int → α := fun j => if 0 ≤ j ∧ j < n then F j else K j
theorem zcpy_in {α : Type} {F K : Int → α} {n j : Int} (h : 0 ≤ j ∧ j < n) : zcpy F K n j = F j := if_pos h
theorem zG_cpy {α : Type} {F K : Int → α} {n : Int} (h : 0 ≤ n ∧ n < 2147483648) : va_cpy (zG F) (zG K) (iI 0).toNatClampNeg (iI 0).toNatClampNeg (iI n).toNatClampNeg = zG (zcpy F K n) := by
  funext k
  rw [iI_clamp (z := 0) (by omega), iI_clamp h]
  show (if 0 ≤ k ∧ k < 0 + n.toNat then F ((0 + (k - 0) : Nat) : Int) else K (k : Int)) = if 0 ≤ (k : Int) ∧ (k : Int) < n then F (k : Int) else K (k : Int)
  by_cases q : k < n.toNat
  · rw [if_pos (by omega), if_pos (by omega)]; simp
  · rw [if_neg (by omega), if_neg (by omega)]
theorem zA_cpy {F K : Int → Int} {n : Int} (h : 0 ≤ n ∧ n < 2147483648) : va_cpy (zA F) (zA K) (iI 0).toNatClampNeg (iI 0).toNatClampNeg (iI n).toNatClampNeg = zA (zcpy F K n) := by
  have := zG_cpy (F := fun j => iI (F j)) (K := fun j => iI (K j)) h
  refine this.trans ?_
  funext k
  show (if _ then iI (F k) else iI (K k)) = iI (if _ then F k else K k)
  split <;> rfl
section ZC
variable {p : Program} {l : Launch} {e : Env} {R : Room} {s : State} {m : MethodId} {args : Array Value} {below : List Frame} {meth : Method} {c : Code} {H : Heap} {locs : List Loc} {cells slots : Nat} {Q : State → Prop}
variable {cc : ByteArray} {pc nL : Nat} {ls : Array Slot} {rest st0 : List Value} {G : zGt} {A : Nat → Prop} {H0 : Heap} {ws : va_W} {own : String} {a : Nat}
theorem z_copyl (hC : CallFix p m c cc nL s args tb own) (hK : zK G s) (hP : va_P G.1 vwCl ws H) (hD : va_D A ws) (hS : va_S A H0 H locs) (hsz : ls.size = nL) {index : Nat} (hl : Cond.methodLink own index arraycopyName ∈ tb) (hst : Cond.static arraycopyName ∈ tb) (hini : Cond.initialized "java/lang/System" ∈ tb) (q0 q1 : Nat) {a0 n0 n1 : Nat} {F K : Int → Int64} (ha0 : ws[q0]? = some (a0, aJ G n0 F)) (ha1 : ws[q1]? = some (a, aJ G n1 K)) {n : Int} (hn : 0 ≤ n ∧ n ≤ (n0 : Int) ∧ n ≤ (n1 : Int) ∧ n < 2147483648) {ws' : va_W} (hws : ws.set q1 (a, aJ G n1 (zcpy F K n)) = ws') (hR : 1 ≤ R.frames ∧ (rest.map fun v => v.category).sum + (nativeFrameWords "java/lang/System" "arraycopy" 5 + 11) ≤ R.locals) (hdg : decode cc pc = .ok (.invokestatic index, 3))
    (kk : ∀ (H1 : Heap) (locs1 : List Loc), va_P G.1 vwCl ws' H1 → va_D A ws' → va_S A H0 H1 locs1 → W p l e R s m args below meth c H1 locs1 cells slots Q (F0 m (pc + 3) ls rest)) : W p l e R s m args below meth c H locs cells slots Q (F0 m pc ls (vI n :: vI 0 :: .ref a :: vI 0 :: .ref a0 :: rest)) := by
  subst hws
  refine va_copyl (ty := .long) hC.1 hC.2.1 (hC.2.2.1.trans hsz.symm) hC.2.2.2.1 (hC.2.2.2.2 _ hl) (hC.2.2.2.2 _ tw_nat) (hC.2.2.2.2 _ hst) (hC.2.2.2.2 _ hini) hK.1 hP hD hS q0 q1 1 1 ha0 ha1 rfl rfl rfl (iI_nneg (by omega)) (iI_nneg (by omega)) (iI_nneg ⟨hn.1, by omega⟩) (by rw [iI_clamp (z := 0) (by omega), iI_clamp ⟨hn.1, by omega⟩]; omega) (by rw [iI_clamp (z := 0) (by omega), iI_clamp ⟨hn.1, by omega⟩]; omega) (fun _ _ => rfl) hR.1 hR.2 hdg ?_
  rw [zG_cpy ⟨hn.1, by omega⟩]
  exact kk
theorem z_copyi (hC : CallFix p m c cc nL s args tb own) (hK : zK G s) (hP : va_P G.1 vwCl ws H) (hD : va_D A ws) (hS : va_S A H0 H locs) (hsz : ls.size = nL) {index : Nat} (hl : Cond.methodLink own index arraycopyName ∈ tb) (hst : Cond.static arraycopyName ∈ tb) (hini : Cond.initialized "java/lang/System" ∈ tb) (q0 q1 : Nat) {a0 n0 n1 : Nat} {F K : Int → Int} (ha0 : ws[q0]? = some (a0, aI G n0 F)) (ha1 : ws[q1]? = some (a, aI G n1 K)) {n : Int} (hn : 0 ≤ n ∧ n ≤ (n0 : Int) ∧ n ≤ (n1 : Int) ∧ n < 2147483648) {ws' : va_W} (hws : ws.set q1 (a, aI G n1 (zcpy F K n)) = ws') (hR : 1 ≤ R.frames ∧ (rest.map fun v => v.category).sum + (nativeFrameWords "java/lang/System" "arraycopy" 5 + 11) ≤ R.locals) (hdg : decode cc pc = .ok (.invokestatic index, 3))
    (kk : ∀ (H1 : Heap) (locs1 : List Loc), va_P G.1 vwCl ws' H1 → va_D A ws' → va_S A H0 H1 locs1 → W p l e R s m args below meth c H1 locs1 cells slots Q (F0 m (pc + 3) ls rest)) : W p l e R s m args below meth c H locs cells slots Q (F0 m pc ls (vI n :: vI 0 :: .ref a :: vI 0 :: .ref a0 :: rest)) := by
  subst hws
  refine va_copyi (ty := .int) hC.1 hC.2.1 (hC.2.2.1.trans hsz.symm) hC.2.2.2.1 (hC.2.2.2.2 _ hl) (hC.2.2.2.2 _ tw_nat) (hC.2.2.2.2 _ hst) (hC.2.2.2.2 _ hini) hK.1 hP hD hS q0 q1 0 0 ha0 ha1 rfl rfl rfl (iI_nneg (by omega)) (iI_nneg (by omega)) (iI_nneg ⟨hn.1, by omega⟩) (by rw [iI_clamp (z := 0) (by omega), iI_clamp ⟨hn.1, by omega⟩]; omega) (by rw [iI_clamp (z := 0) (by omega), iI_clamp ⟨hn.1, by omega⟩]; omega) (fun _ _ => rfl) hR.1 hR.2 hdg ?_
  rw [zA_cpy ⟨hn.1, by omega⟩]
  exact kk
theorem z_alen (hC : CallFix p m c cc nL s args tb own) (hK : zK G s) (hP : va_P G.1 vwCl ws H) (q0 : Nat) {n : Nat} {F : Int → Int} (ha : ws[q0]? = some (a, aI G n F)) (hdg : decode cc pc = .ok (.arraylength, 1))
    (kk : W p l e R s m args below meth c H locs cells slots Q (F0 m (pc + 1) ls (vI (n : Int) :: rest))) : W p l e R s m args below meth c H locs cells slots Q (F0 m pc ls (.ref a :: rest)) :=
  va_alen hC.1 hC.2.1 hK.1 hP q0 0 ha rfl (iI_nat n) hdg kk
theorem z_wSv (hC : CallFix p m c cc nL s args tb own) (hK : zK G s) (hP : va_P G.1 vwCl ws H) (hD : va_D A ws) (hS : va_S A H0 H locs) (hA : ∀ q, H0.size ≤ q → A q) {y : MethodName} {bytes : ByteArray} {maxL n index mc ms : Nat} {ret : Option FieldType} {rm : Room} {As : List Value} {wc wr : va_W} {S : Type} {post : S → Prop} {w1 : S → va_W}
    (hM : Met l y (Cond.code y bytes maxL ret :: tb) rm (zPw G wc H.size As) (va_Qv post (fun u t => zB G wc H.size (w1 u) t) (va_A wc H.size)) mc ms (va_A wc H.size)) (hm : zMS y bytes maxL ret n) (hl : Cond.methodLink own index y ∈ tb)
    (is ir : List Nat) (hi1 : is.map (fun i => ws[i]?) = wc.map some) (hi2 : ir.map (fun i => ws[i]?) = wr.map some) (hn1 : va_nd is = true) (hn2 : va_nd ir = true) (hdis : ∀ i ∈ ir, i ∉ is) (hs : is.filterMap (fun i => ws[i]?) = wc) (hn : As.length = n) (hsz : ls.size = nL) (hst : st0 = As.reverse ++ rest) (hW : (rest.map fun v => v.category).sum ≤ 8)
    (hR : rm.cells = mc ∧ rm.slots = ms ∧ rm.frames + 1 ≤ R.frames ∧ 8 + (maxL + 11) + rm.locals ≤ R.locals) (hf : cells + mc ≤ R.cells ∧ slots + ms ≤ R.slots) (hdg : decode cc pc = .ok (.invokestatic index, 3))
    (kk : ∀ (u : S) (H1 : Heap) (locs1 : List Loc), post u → va_P G.1 vwCl (wr ++ w1 u) H1 → va_D A (wr ++ w1 u) → va_S A H0 H1 locs1 → W p l e R s m args below meth c H1 locs1 (cells + mc) (slots + ms) Q (F0 m (pc + 3) ls rest)) : W p l e R s m args below meth c H locs cells slots Q (F0 m pc ls st0) := by
  have hFc := va_free (wc := wc) hD hS hA is hi1
  refine va_callv (va_runS hC hM (va_cwS n hC.2.2.2.2 (tb_wsS hm hl) rfl hR.1 hR.2.1 hm.2.2.2 hR.2.2) ⟨zPw.blind, fun U hU hW => ⟨rfl, by rw [hU], by rw [hU]; exact hP.sub is hs, hK.warm hW, (hD.sub is hn1 hi1).weaken (fun _ _ _ _ => trivial)⟩⟩ rfl hn hsz hst (lv_room hW) hdg hf) hS (fun q _ h => hFc q h) hFc (fun u t H1 locs1 ht hvm hw hB hz1 hk1 hS1 => ?_)
  obtain ⟨h1, h2⟩ := z_jo hP hD is ir hi1 hi2 hn2 hdis rfl ht hk1 hFc hB
  exact kk u H1 locs1 hw h1 h2 hS1
end ZC
/-- 1 where it holds, else 0 -/
noncomputable def bZ (P : Prop) : Int := @ite _ P (Classical.propDecidable P) 1 0
theorem bZ_t {P : Prop} (h : P) : bZ P = 1 := by unfold bZ; exact if_pos h
theorem bZ_f {P : Prop} (h : ¬ P) : bZ P = 0 := by unfold bZ; exact if_neg h
theorem bZ_01 (P : Prop) : bZ P = 0 ∨ bZ P = 1 := by
  by_cases h : P
  · exact Or.inr (bZ_t h)
  · exact Or.inl (bZ_f h)
theorem bZ_rng (P : Prop) : 0 ≤ bZ P ∧ bZ P ≤ 1 := by rcases bZ_01 P with h | h <;> omega
theorem bZ_1 {P : Prop} : bZ P = 1 ↔ P := ⟨fun h => Classical.byContradiction fun q => by rw [bZ_f q] at h; omega, bZ_t⟩
theorem bZ_ne {P : Prop} : bZ P ≠ 0 ↔ P := ⟨fun h => Classical.byContradiction fun q => h (bZ_f q), fun h => by rw [bZ_t h]; decide⟩
/-- byte j of a block, the highest first -/
def byZ (v : Int64) (j : Int) : Int := zand (zl2i (zlushr v (8 * (7 - j)))) 255
/-- a file's key: block i of it (-1: none), how many it has -/
def kBl (x i : Int) : Int := if 0 ≤ i ∧ i < 5 then x / ((2 ^ (23 - 5 * i).toNat : Nat) : Int) % 32 - 1 else -1
theorem kBl_bd (x i : Int) : -1 ≤ kBl x i ∧ kBl x i ≤ 30 := by
  unfold kBl
  split <;> omega
def kSz (x : Int) : Int := if kBl x 0 = -1 then 0 else if kBl x 1 = -1 then 1 else if kBl x 2 = -1 then 2 else if kBl x 3 = -1 then 3 else if kBl x 4 = -1 then 4 else 5
theorem kSz_bd (x : Int) : 0 ≤ kSz x ∧ kSz x ≤ 5 := by
  unfold kSz
  split; · omega
  split; · omega
  split; · omega
  split; · omega
  split <;> omega
theorem kSz_is {x r : Int} (h : 0 ≤ r ∧ r ≤ 5) (h1 : ∀ j : Int, 0 ≤ j ∧ j < r → kBl x j ≠ -1) (h2 : r < 5 → kBl x r = -1) : r = kSz x := by
  unfold kSz
  rcases (show r = 0 ∨ r = 1 ∨ r = 2 ∨ r = 3 ∨ r = 4 ∨ r = 5 by omega) with rfl | rfl | rfl | rfl | rfl | rfl
  · rw [if_pos (h2 (by omega))]
  · rw [if_neg (h1 0 (by omega)), if_pos (h2 (by omega))]
  · rw [if_neg (h1 0 (by omega)), if_neg (h1 1 (by omega)), if_pos (h2 (by omega))]
  · rw [if_neg (h1 0 (by omega)), if_neg (h1 1 (by omega)), if_neg (h1 2 (by omega)), if_pos (h2 (by omega))]
  · rw [if_neg (h1 0 (by omega)), if_neg (h1 1 (by omega)), if_neg (h1 2 (by omega)), if_neg (h1 3 (by omega)), if_pos (h2 (by omega))]
  · rw [if_neg (h1 0 (by omega)), if_neg (h1 1 (by omega)), if_neg (h1 2 (by omega)), if_neg (h1 3 (by omega)), if_neg (h1 4 (by omega))]
theorem kSz_lo {x j : Int} (h : 0 ≤ j ∧ j < kSz x) : kBl x j ≠ -1 := by
  unfold kSz at h
  by_cases h0 : kBl x 0 = -1
  · rw [if_pos h0] at h; omega
  rw [if_neg h0] at h
  by_cases h1 : kBl x 1 = -1
  · rw [if_pos h1] at h; rw [show j = 0 by omega]; exact h0
  rw [if_neg h1] at h
  by_cases h2 : kBl x 2 = -1
  · rw [if_pos h2] at h; rcases (show j = 0 ∨ j = 1 by omega) with rfl | rfl <;> assumption
  rw [if_neg h2] at h
  by_cases h3 : kBl x 3 = -1
  · rw [if_pos h3] at h; rcases (show j = 0 ∨ j = 1 ∨ j = 2 by omega) with rfl | rfl | rfl <;> assumption
  rw [if_neg h3] at h
  by_cases h4 : kBl x 4 = -1
  · rw [if_pos h4] at h; rcases (show j = 0 ∨ j = 1 ∨ j = 2 ∨ j = 3 by omega) with rfl | rfl | rfl | rfl <;> assumption
  rw [if_neg h4] at h
  rcases (show j = 0 ∨ j = 1 ∨ j = 2 ∨ j = 3 ∨ j = 4 by omega) with rfl | rfl | rfl | rfl | rfl <;> assumption
/-- sums, and 'or's, of a row -/
def sumZ (g : Int → Int) : Nat → Int
  | 0 => 0
  | k + 1 => sumZ g k + g (k : Int)
def orZ (g : Int → Int) : Nat → Int
  | 0 => 0
  | k + 1 => zor (orZ g k) (g (k : Int))
theorem sumZ_s {g : Int → Int} {i x : Int} (hi : 0 ≤ i) (hx : x = sumZ g i.toNat) : x + g i = sumZ g (i + 1).toNat := by
  rw [show (i + 1).toNat = i.toNat + 1 by omega]
  show _ = sumZ g i.toNat + g (i.toNat : Int)
  rw [hx, Int.toNat_of_nonneg hi]
theorem orZ_s {g : Int → Int} {i x : Int} (hi : 0 ≤ i) (hx : x = orZ g i.toNat) : zor x (g i) = orZ g (i + 1).toNat := by
  rw [show (i + 1).toNat = i.toNat + 1 by omega]
  show _ = zor (orZ g i.toNat) (g (i.toNat : Int))
  rw [hx, Int.toNat_of_nonneg hi]
theorem sumZ_bd {g : Int → Int} {c : Int} (hc : 0 ≤ c) : ∀ k : Nat, (∀ j : Int, 0 ≤ j ∧ j < (k : Int) → 0 ≤ g j ∧ g j ≤ c) → 0 ≤ sumZ g k ∧ sumZ g k ≤ (k : Int) * c := by
  intro k
  induction k with
  | zero => intro _; exact ⟨Int.le_refl 0, by show (0 : Int) ≤ _; simp⟩
  | succ k ih =>
    intro h
    have h1 := ih (fun j hj => h j (by omega))
    have h2 := h k (by omega)
    show 0 ≤ sumZ g k + g k ∧ sumZ g k + g k ≤ ((k + 1 : Nat) : Int) * c
    rw [show ((k + 1 : Nat) : Int) = (k : Int) + 1 by omega, Int.add_mul]
    omega
/-- how far the block behind i is from the number behind block i's -/
def kGap (x i : Int) : Int := if kBl x (i + 1) - (kBl x i + 1) < 0 then -(kBl x (i + 1) - (kBl x i + 1)) else kBl x (i + 1) - (kBl x i + 1)
def kCost (x : Int) : Int := sumZ (kGap x) (kSz x - 1).toNat
def kBits (x : Int) : Int := orZ (fun i => zshl 1 (kBl x i)) (kSz x).toNat
theorem kGap_bd (x i : Int) : 0 ≤ kGap x i ∧ kGap x i ≤ 32 := by
  have h1 := kBl_bd x i
  have h2 := kBl_bd x (i + 1)
  unfold kGap
  split <;> omega
theorem kCost_bd (x : Int) : 0 ≤ kCost x ∧ kCost x ≤ 128 := by
  have h := sumZ_bd (g := kGap x) (c := 32) (by omega) (kSz x - 1).toNat (fun j _ => kGap_bd x j)
  have h2 := kSz_bd x
  unfold kCost
  omega
/-- a file's key out of its row of blocks: the first k places -/
def kyF (F : Int → Int) (n : Int) : Nat → Int
  | 0 => 0
  | k + 1 => zor (zshl (kyF F n k) 5) (if (k : Int) < n then F (k : Int) + 1 else 0)
def kyZ (F : Int → Int) (n m : Int) : Int := zor (zshl (kyF F n 5) 3) m
theorem kyF_s {F : Int → Int} {n i x y : Int} (hi : 0 ≤ i) (hx : x = kyF F n i.toNat) (hy : y = if i < n then F i + 1 else 0) : zor (zshl x 5) y = kyF F n (i + 1).toNat := by
  rw [show (i + 1).toNat = i.toNat + 1 by omega]
  show _ = zor (zshl (kyF F n i.toNat) 5) (if (i.toNat : Int) < n then F (i.toNat : Int) + 1 else 0)
  rw [hx, hy, Int.toNat_of_nonneg hi]
