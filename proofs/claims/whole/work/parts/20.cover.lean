/-! the best cover, pure: groups of files with one first block, gains, and the search through all covers -/
def zfl (F : Int → Int) (v n : Int) : Int → Int := fun j => if 0 ≤ j ∧ j < n then v else F j
theorem zfl_0 (F : Int → Int) (v : Int) : zfl F v 0 = F := by
  funext j
  exact if_neg (by omega)
theorem zfl_s (F : Int → Int) {v i : Int} (hi : 0 ≤ i) : zup (zfl F v i) i v = zfl F v (i + 1) := by
  funext j
  by_cases q : j = i
  · subst q; rw [zup_s]; exact (if_pos (by omega)).symm
  · rw [zup_n _ _ q]
    unfold zfl
    by_cases w : 0 ≤ j ∧ j < i
    · rw [if_pos w, if_pos (by omega)]
    · rw [if_neg w, if_neg (by omega)]
def nwF (B : Int → Int) (k : Int) : Prop := k = 0 ∨ B k ≠ B (k - 1)
noncomputable def ngF (B : Int → Int) : Nat → Int
  | 0 => 0
  | k + 1 => ngF B k + cIf (nwF B (k : Int)) 1 0
noncomputable def gcF (B : Int → Int) (G0 : Int → Int) : Nat → Int → Int
  | 0 => G0
  | k + 1 => cIf (nwF B (k : Int)) (cIf (ngF B k < 6) (zup (gcF B G0 k) (ngF B k) (k : Int)) (gcF B G0 k)) (gcF B G0 k)
theorem ngF_bd (B : Int → Int) : ∀ k : Nat, 0 ≤ ngF B k ∧ ngF B k ≤ (k : Int) := by
  intro k
  induction k with
  | zero => exact ⟨Int.le_refl 0, Int.le_refl 0⟩
  | succ k ih =>
    show 0 ≤ ngF B k + cIf _ 1 0 ∧ ngF B k + cIf _ 1 0 ≤ _
    by_cases q : nwF B (k : Int)
    · rw [cIf_t q]; omega
    · rw [cIf_f q]; omega
theorem ngF_t {B : Int → Int} {i x : Int} (hi : 0 ≤ i) (hx : x = ngF B i.toNat) (h : nwF B i) : x + 1 = ngF B (i + 1).toNat := by
  rw [show (i + 1).toNat = i.toNat + 1 by omega]
  show _ = ngF B i.toNat + cIf _ 1 0
  rw [cIf_t (by rw [Int.toNat_of_nonneg hi]; exact h), hx]
theorem ngF_f {B : Int → Int} {i x : Int} (hi : 0 ≤ i) (hx : x = ngF B i.toNat) (h : ¬ nwF B i) : x = ngF B (i + 1).toNat := by
  rw [show (i + 1).toNat = i.toNat + 1 by omega]
  show _ = ngF B i.toNat + cIf _ 1 0
  rw [cIf_f (by rw [Int.toNat_of_nonneg hi]; exact h), hx]
  omega
theorem gcF_t {B G0 : Int → Int} {i x : Int} {F : Int → Int} (hi : 0 ≤ i) (hx : x = ngF B i.toNat) (hF : F = gcF B G0 i.toNat) (h : nwF B i) (h6 : x < 6) : zup F x i = gcF B G0 (i + 1).toNat := by
  rw [show (i + 1).toNat = i.toNat + 1 by omega]
  show _ = cIf _ (cIf _ _ _) _
  rw [cIf_t (by rw [Int.toNat_of_nonneg hi]; exact h), cIf_t (by rw [← hx]; exact h6), hx, hF, Int.toNat_of_nonneg hi]
theorem gcF_6 {B G0 : Int → Int} {i x : Int} {F : Int → Int} (hi : 0 ≤ i) (hx : x = ngF B i.toNat) (hF : F = gcF B G0 i.toNat) (h : nwF B i) (h6 : 6 ≤ x) : F = gcF B G0 (i + 1).toNat := by
  rw [show (i + 1).toNat = i.toNat + 1 by omega]
  show _ = cIf _ (cIf _ _ _) _
  rw [cIf_t (by rw [Int.toNat_of_nonneg hi]; exact h), cIf_f (by rw [← hx]; omega), hF]
theorem gcF_f {B G0 : Int → Int} {i : Int} {F : Int → Int} (hi : 0 ≤ i) (hF : F = gcF B G0 i.toNat) (h : ¬ nwF B i) : F = gcF B G0 (i + 1).toNat := by
  rw [show (i + 1).toNat = i.toNat + 1 by omega]
  show _ = cIf _ (cIf _ _ _) _
  rw [cIf_f (by rw [Int.toNat_of_nonneg hi]; exact h), hF]
def gnZ (x : Int) : Int := kSz x * 100000 - kCost x * 10 - 1
theorem gnZ_bd (x : Int) : -2000 ≤ gnZ x ∧ gnZ x ≤ 500000 := by
  have h1 := kSz_bd x
  have h2 := kCost_bd x
  unfold gnZ
  omega
/-- the best so far: its gain, its files, its blocks as bits -/
abbrev cuT : Type := Int × List Int × Int
def btL (f : Int → cuT → cuT) (a : Int) : Nat → cuT → cuT
  | 0, cu => cu
  | k + 1, cu => f (a + (k : Int)) (btL f a k cu)
def btZ (GA GN BB : Int → Int) : Nat → Int → List Int → Int → Int → cuT → cuT
  | 0, _, ps, bi, gn, cu => if cu.1 < gn then (gn, ps, bi) else cu
  | n + 1, g, ps, bi, gn, cu => btZ GA GN BB n (g + 1) ps bi gn (btL (fun k cu => if zand (BB k) bi = 0 then btZ GA GN BB n (g + 1) (ps ++ [k]) (zor bi (BB k)) (gn + GN k) cu else cu) (GA g) (GA (g + 1) - GA g).toNat cu)
theorem btL_1 (f : Int → cuT → cuT) {a x : Int} {cu : cuT} (hx : a ≤ x) : btL f a (x + 1 - a).toNat cu = f x (btL f a (x - a).toNat cu) := by
  rw [show (x + 1 - a).toNat = (x - a).toNat + 1 by omega]
  show f (a + ((x - a).toNat : Int)) _ = _
  rw [Int.toNat_of_nonneg (by omega), show a + (x - a) = x by omega]
theorem btL_same {f : Int → cuT → cuT} {a : Int} {cu : cuT} : ∀ k : Nat, (∀ j : Int, a ≤ j ∧ j < a + (k : Int) → f j cu = cu) → btL f a k cu = cu := by
  intro k
  induction k with
  | zero => intro _; rfl
  | succ k ih => intro h; show f (a + (k : Int)) (btL f a k cu) = cu; rw [ih (fun j hj => h j (by omega))]; exact h _ (by omega)
/-- what the groups from one on could gain, at most -/
def hpI (GA GN HP : Int → Int) (gr : Int) : Prop := HP gr = 0 ∧ ∀ g : Int, 0 ≤ g ∧ g < gr → 0 ≤ HP g ∧ HP (g + 1) ≤ HP g ∧ HP g ≤ HP (g + 1) + 500000 ∧ ∀ k : Int, GA g ≤ k ∧ k < GA (g + 1) → HP (g + 1) + GN k ≤ HP g
theorem btZ_prune {GA GN BB HP : Int → Int} {gr : Int} (h : hpI GA GN HP gr) : ∀ (n : Nat) (g : Int) (ps : List Int) (bi gn : Int) (cu : cuT), 0 ≤ g → g + (n : Int) = gr → gn + HP g ≤ cu.1 → btZ GA GN BB n g ps bi gn cu = cu := by
  intro n
  induction n with
  | zero =>
    intro g ps bi gn cu h0 hg hle
    have : HP g = 0 := by rw [show g = gr by omega]; exact h.1
    exact if_neg (by omega)
  | succ n ih =>
    intro g ps bi gn cu h0 hg hle
    obtain ⟨-, h2, -, h4⟩ := h.2 g (by omega)
    show btZ GA GN BB n (g + 1) ps bi gn (btL _ _ _ cu) = cu
    rw [btL_same _ (fun j hj => ?_)]
    · exact ih (g + 1) ps bi gn cu (by omega) (by omega) (by omega)
    · show (if zand (BB j) bi = 0 then _ else cu) = cu
      split
      · exact ih (g + 1) _ _ _ cu (by omega) (by omega) (by have := h4 j (by omega); omega)
      · rfl
theorem btZ_rng {GA GN BB : Int → Int} (hG : ∀ k, -2000 ≤ GN k ∧ GN k ≤ 500000) : ∀ (n : Nat) (g : Int) (ps : List Int) (bi gn : Int) (cu : cuT), (-2000 * g ≤ gn ∧ gn ≤ 500000 * g) → 0 ≤ g → g + (n : Int) ≤ 6 → (-12001 ≤ cu.1 ∧ cu.1 ≤ 3000000) → (-12001 ≤ (btZ GA GN BB n g ps bi gn cu).1 ∧ (btZ GA GN BB n g ps bi gn cu).1 ≤ 3000000) := by
  intro n
  induction n with
  | zero =>
    intro g ps bi gn cu h1 h0 h6 hc
    show -12001 ≤ (if cu.1 < gn then (gn, ps, bi) else cu).1 ∧ (if cu.1 < gn then (gn, ps, bi) else cu).1 ≤ 3000000
    split
    · show -12001 ≤ gn ∧ gn ≤ 3000000; omega
    · exact hc
  | succ n ih =>
    intro g ps bi gn cu h1 h0 h6 hc
    have hL : ∀ k : Nat, -12001 ≤ (btL (fun k cu => if zand (BB k) bi = 0 then btZ GA GN BB n (g + 1) (ps ++ [k]) (zor bi (BB k)) (gn + GN k) cu else cu) (GA g) k cu).1 ∧ (btL (fun k cu => if zand (BB k) bi = 0 then btZ GA GN BB n (g + 1) (ps ++ [k]) (zor bi (BB k)) (gn + GN k) cu else cu) (GA g) k cu).1 ≤ 3000000 := by
      intro k
      induction k with
      | zero => exact hc
      | succ k ihk =>
        show -12001 ≤ (if zand (BB (GA g + (k : Int))) bi = 0 then _ else _ : cuT).1 ∧ (if zand (BB (GA g + (k : Int))) bi = 0 then _ else _ : cuT).1 ≤ 3000000
        have hg := hG (GA g + (k : Int))
        split
        · exact ih (g + 1) _ _ _ _ (by omega) (by omega) (by omega) ihk
        · exact ihk
    exact ih (g + 1) ps bi gn _ (by omega) (by omega) (by omega) (hL _)
/-- Cover's fields hold the best so far; its row of tried files -/
def rpH (cu : cuT) (CH : Int → Int) (cn cg cb : Int) : Prop := cg = cu.1 ∧ cn = (cu.2.1.length : Int) ∧ cu.2.1.length ≤ 6 ∧ (∀ i : Nat, i < cu.2.1.length → CH (i : Int) = cu.2.1.getD i 0) ∧ cb = cu.2.2
def rpT (ps : List Int) (TR : Int → Int) (n : Int) : Prop := n = (ps.length : Int) ∧ ∀ i : Nat, i < ps.length → TR (i : Int) = ps.getD i 0
theorem rpT_add {ps : List Int} {TR : Int → Int} {n k : Int} (h : rpT ps TR n) : rpT (ps ++ [k]) (zup TR n k) (n + 1) := by
  obtain ⟨h1, h2⟩ := h
  refine ⟨by rw [List.length_append]; simp; omega, fun i hi => ?_⟩
  rw [List.length_append] at hi
  have hi : i < ps.length + 1 := by simpa using hi
  rcases Nat.lt_or_ge i ps.length with q | q
  · rw [zup_n _ _ (by omega), h2 i q, List.getD_eq_getElem?_getD, List.getD_eq_getElem?_getD, List.getElem?_append_left q]
  · rw [show i = ps.length by omega, ← h1, zup_s, List.getD_eq_getElem?_getD, List.getElem?_append_right (Nat.le_refl _)]
    simp
theorem rpT_cg {ps : List Int} {TR TR' : Int → Int} {n : Int} (h : rpT ps TR n) (hh : ∀ j : Int, 0 ≤ j ∧ j < n → TR' j = TR j) : rpT ps TR' n := ⟨h.1, fun i hi => by rw [hh i (by have := h.1; omega)]; exact h.2 i hi⟩
