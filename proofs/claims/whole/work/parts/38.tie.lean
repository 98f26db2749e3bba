/-! ties between class and model: the search for the best cover may start at -1 or at 0 -/
def st01 (u v : cuT) : Prop := u = v ∨ (u = (-1, [], 0) ∧ v = (0, [], 0))
theorem btL_01 {f : Int → cuT → cuT} {a : Int} : ∀ (k : Nat) (u v : cuT), (∀ j : Int, a ≤ j ∧ j < a + (k : Int) → ∀ u v : cuT, st01 u v → st01 (f j u) (f j v)) → st01 u v → st01 (btL f a k u) (btL f a k v) := by
  intro k
  induction k with
  | zero => intro u v _ h; exact h
  | succ k ih => intro u v hf h; exact hf (a + (k : Int)) (by omega) _ _ (ih u v (fun j hj => hf j (by omega)) h)
theorem btZ_01 {GA GN BB : Int → Int} : ∀ (n : Nat) (g : Int) (ps : List Int) (bi gn : Int) (u v : cuT), (∀ x : Int, g ≤ x ∧ x < g + (n : Int) → ∀ k : Int, GA x ≤ k ∧ k < GA (x + 1) → 0 < GN k) → 0 < gn → st01 u v → st01 (btZ GA GN BB n g ps bi gn u) (btZ GA GN BB n g ps bi gn v) := by
  intro n
  induction n with
  | zero =>
    intro g ps bi gn u v _ h0 h
    rcases h with h | ⟨h1, h2⟩
    · exact Or.inl (by rw [h])
    · rw [h1, h2]
      refine Or.inl ?_
      show (if (-1 : Int) < gn then (gn, ps, bi) else _) = (if (0 : Int) < gn then (gn, ps, bi) else _)
      rw [if_pos (by omega), if_pos h0]
  | succ n ih =>
    intro g ps bi gn u v hG h0 h
    rw [btZ_n, btZ_n]
    refine ih (g + 1) ps bi gn _ _ (fun x hx => hG x (by omega)) h0 (btL_01 _ _ _ (fun j hj u v w => ?_) h)
    show st01 (if zand (BB j) bi = 0 then _ else u) (if zand (BB j) bi = 0 then _ else v)
    by_cases q : zand (BB j) bi = 0
    · rw [if_pos q, if_pos q]
      exact ih (g + 1) _ _ _ _ _ (fun x hx => hG x (by omega)) (by have := hG g (by omega) j (by omega); omega) w
    · rw [if_neg q, if_neg q]; exact w
theorem btZ_start {GA GN BB : Int → Int} : ∀ (n : Nat) (g : Int) (u v : cuT), (∀ x : Int, g ≤ x ∧ x < g + (n : Int) → ∀ k : Int, GA x ≤ k ∧ k < GA (x + 1) → 0 < GN k) → st01 u v → btZ GA GN BB n g [] 0 0 u = btZ GA GN BB n g [] 0 0 v := by
  intro n
  induction n with
  | zero =>
    intro g u v _ h
    rcases h with h | ⟨h1, h2⟩
    · rw [h]
    · rw [h1, h2]
      show (if (-1 : Int) < 0 then ((0 : Int), ([] : List Int), (0 : Int)) else _) = (if (0 : Int) < 0 then _ else ((0 : Int), ([] : List Int), (0 : Int)))
      rw [if_pos (by decide), if_neg (by decide)]
  | succ n ih =>
    intro g u v hG h
    rw [btZ_n, btZ_n]
    refine ih (g + 1) _ _ (fun x hx => hG x (by omega)) (btL_01 _ _ _ (fun j hj u v w => ?_) h)
    show st01 (if zand (BB j) 0 = 0 then _ else u) (if zand (BB j) 0 = 0 then _ else v)
    by_cases q : zand (BB j) 0 = 0
    · rw [if_pos q, if_pos q]
      exact btZ_01 n (g + 1) _ _ _ _ _ (fun x hx => hG x (by omega)) (by have := hG g (by omega) j (by omega); omega) w
    · rw [if_neg q, if_neg q]; exact w
/-! the order in which files are found does not matter -/
theorem insS_comm (x y : Int) : ∀ S : List Int, insS x (insS y S) = insS y (insS x S) := by
  intro S
  induction S with
  | nil =>
    show (if x < y then [x, y] else y :: [x]) = (if y < x then [y, x] else x :: [y])
    rcases (show x < y ∨ x = y ∨ y < x by omega) with q | q | q
    · rw [if_pos q, if_neg (by omega)]
    · rw [q]
    · rw [if_neg (by omega), if_pos q]
  | cons z t ih =>
    have e : ∀ (a b : Int) (T : List Int), insS a (b :: T) = if a < b then a :: b :: T else b :: insS a T := fun _ _ _ => rfl
    by_cases hx : x < z
    · by_cases hy : y < z
      · rw [e y z, if_pos hy, e x z, if_pos hx, e x y, e y x, e x z, if_pos hx, e y z, if_pos hy]
        rcases (show x < y ∨ x = y ∨ y < x by omega) with q | q | q
        · rw [if_pos q, if_neg (by omega)]
        · rw [q]
        · rw [if_neg (by omega), if_pos q]
      · rw [e y z, if_neg hy, e x z, if_pos hx, e x z, if_pos hx, e y x, if_neg (by omega), e y z, if_neg hy]
    · by_cases hy : y < z
      · rw [e y z, if_pos hy, e x z, if_neg hx, e x y, if_neg (by omega), e x z, if_neg hx, e y z, if_pos hy]
      · rw [e y z, if_neg hy, e x z, if_neg hx, e x z, if_neg hx, e y z, if_neg hy, ih]
theorem insA_perm {xs ys : List Int} (h : xs.Perm ys) : ∀ S : List Int, insA xs S = insA ys S := by
  induction h with
  | nil => intro S; rfl
  | cons x _ ih => intro S; exact ih (insS x S)
  | swap x y l => intro S; show insA l (insS x (insS y S)) = insA l (insS y (insS x S)); rw [insS_comm]
  | trans _ _ i1 i2 => intro S; exact (i1 S).trans (i2 S)
theorem sumZ_0z : ∀ k : Nat, sumZ (fun _ => 0) k = 0 := by
  intro k
  induction k with
  | zero => rfl
  | succ k ih => show sumZ (fun _ => 0) k + 0 = 0; rw [ih]; rfl
theorem sumZ_add (f g : Int → Int) : ∀ k : Nat, sumZ (fun j => f j + g j) k = sumZ f k + sumZ g k := by
  intro k
  induction k with
  | zero => rfl
  | succ k ih => show sumZ (fun j => f j + g j) k + (f k + g k) = (sumZ f k + f k) + (sumZ g k + g k); rw [ih]; omega
theorem sumZ_swap (f : Int → Int → Int) (b : Nat) : ∀ a : Nat, sumZ (fun i => sumZ (fun j => f i j) b) a = sumZ (fun j => sumZ (fun i => f i j) a) b := by
  intro a
  induction a with
  | zero => exact (sumZ_0z b).symm
  | succ a ih =>
    show sumZ (fun i => sumZ (fun j => f i j) b) a + sumZ (fun j => f a j) b = sumZ (fun j => sumZ (fun i => f i j) a + f a j) b
    rw [ih, sumZ_add]
theorem catZ_nil {α : Type} : ∀ k : Nat, catZ (fun _ => ([] : List α)) k = [] := by
  intro k
  induction k with
  | zero => rfl
  | succ k ih => show catZ (fun _ => ([] : List α)) k ++ [] = []; rw [ih]; rfl
theorem catZ_add {α : Type} (f g : Int → List α) : ∀ k : Nat, (catZ (fun j => f j ++ g j) k).Perm (catZ f k ++ catZ g k) := by
  intro k
  induction k with
  | zero => exact List.Perm.refl _
  | succ k ih =>
    show (catZ (fun j => f j ++ g j) k ++ (f k ++ g k)).Perm ((catZ f k ++ f k) ++ (catZ g k ++ g k))
    refine (ih.append (List.Perm.refl _)).trans ?_
    rw [List.append_assoc, List.append_assoc]
    exact (List.Perm.refl _).append (List.perm_append_comm_assoc _ _ _)
theorem catZ_swap {α : Type} (f : Int → Int → List α) (b : Nat) : ∀ a : Nat, (catZ (fun i => catZ (fun j => f i j) b) a).Perm (catZ (fun j => catZ (fun i => f i j) a) b) := by
  intro a
  induction a with
  | zero => show ([] : List α).Perm (catZ (fun _ => []) b); rw [catZ_nil]
  | succ a ih =>
    show (catZ (fun i => catZ (fun j => f i j) b) a ++ catZ (fun j => f a j) b).Perm (catZ (fun j => catZ (fun i => f i j) a ++ f a j) b)
    exact (ih.append (List.Perm.refl _)).trans (catZ_add _ _ b).symm
theorem nwF_cg {B B' : Int → Int} {k : Int} (h0 : 0 ≤ k) (h : ∀ j : Int, 0 ≤ j ∧ j ≤ k → B j = B' j) : nwF B k ↔ nwF B' k := by
  unfold nwF
  rcases (show k = 0 ∨ 0 < k by omega) with q | q
  · exact ⟨fun _ => Or.inl q, fun _ => Or.inl q⟩
  · rw [h k (by omega), h (k - 1) (by omega)]
theorem ngF_cg {B B' : Int → Int} : ∀ k : Nat, (∀ j : Int, 0 ≤ j ∧ j < (k : Int) → B j = B' j) → ngF B k = ngF B' k := by
  intro k
  induction k with
  | zero => intro _; rfl
  | succ k ih =>
    intro h
    show ngF B k + cIf _ 1 0 = ngF B' k + cIf _ 1 0
    rw [ih (fun j hj => h j (by omega)), cIf_cg (nwF_cg (by omega) (fun j hj => h j (by omega))) (fun _ => rfl) rfl]
theorem gcF_cg {B B' G0 : Int → Int} : ∀ k : Nat, (∀ j : Int, 0 ≤ j ∧ j < (k : Int) → B j = B' j) → gcF B G0 k = gcF B' G0 k := by
  intro k
  induction k with
  | zero => intro _; rfl
  | succ k ih =>
    intro h
    show cIf _ (cIf _ _ _) _ = cIf _ (cIf _ _ _) _
    rw [ih (fun j hj => h j (by omega)), ngF_cg k (fun j hj => h j (by omega)), cIf_cg (nwF_cg (by omega) (fun j hj => h j (by omega))) (fun _ => rfl) rfl]
