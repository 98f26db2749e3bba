/-! the tree of looks from one first block, in whole numbers -/
noncomputable def cIf {α : Type} (P : Prop) (a b : α) : α := @ite α P (Classical.propDecidable P) a b
theorem cIf_t {α : Type} {P : Prop} {a b : α} (h : P) : cIf P a b = a := by unfold cIf; exact if_pos h
theorem cIf_f {α : Type} {P : Prop} {a b : α} (h : ¬ P) : cIf P a b = b := by unfold cIf; exact if_neg h
theorem cIf_cg {α : Type} {P P' : Prop} {a a' b b' : α} (h : P ↔ P') (ha : P → a = a') (hb : b = b') : cIf P a b = cIf P' a' b' := by
  by_cases q : P
  · rw [cIf_t q, cIf_t (h.mp q), ha q]
  · rw [cIf_f q, cIf_f (fun w => q (h.mpr w)), hb]
def catZ {α : Type} (f : Int → List α) : Nat → List α
  | 0 => []
  | k + 1 => catZ f k ++ f (k : Int)
def mxZ (f : Int → Int) : Nat → Int
  | 0 => 0
  | k + 1 => if mxZ f k < f (k : Int) then f (k : Int) else mxZ f k
theorem sumZ_cg {f g : Int → Int} : ∀ k : Nat, (∀ j : Int, 0 ≤ j ∧ j < (k : Int) → f j = g j) → sumZ f k = sumZ g k := by
  intro k
  induction k with
  | zero => intro _; rfl
  | succ k ih => intro h; show sumZ f k + f k = sumZ g k + g k; rw [ih (fun j hj => h j (by omega)), h k (by omega)]
theorem catZ_cg {α : Type} {f g : Int → List α} : ∀ k : Nat, (∀ j : Int, 0 ≤ j ∧ j < (k : Int) → f j = g j) → catZ f k = catZ g k := by
  intro k
  induction k with
  | zero => intro _; rfl
  | succ k ih => intro h; show catZ f k ++ f k = catZ g k ++ g k; rw [ih (fun j hj => h j (by omega)), h k (by omega)]
theorem mxZ_cg {f g : Int → Int} : ∀ k : Nat, (∀ j : Int, 0 ≤ j ∧ j < (k : Int) → f j = g j) → mxZ f k = mxZ g k := by
  intro k
  induction k with
  | zero => intro _; rfl
  | succ k ih => intro h; show (if mxZ f k < f k then f k else mxZ f k) = if mxZ g k < g k then g k else mxZ g k; rw [ih (fun j hj => h j (by omega)), h k (by omega)]
theorem sumZ_1 (f : Int → Int) {i : Int} (hi : 0 ≤ i) : sumZ f (i + 1).toNat = sumZ f i.toNat + f i := (sumZ_s hi rfl).symm
theorem catZ_1 {α : Type} (f : Int → List α) {i : Int} (hi : 0 ≤ i) : catZ f (i + 1).toNat = catZ f i.toNat ++ f i := by
  rw [show (i + 1).toNat = i.toNat + 1 by omega]
  show catZ f i.toNat ++ f (i.toNat : Int) = _
  rw [Int.toNat_of_nonneg hi]
theorem mxZ_1 (f : Int → Int) {i : Int} (hi : 0 ≤ i) : mxZ f (i + 1).toNat = if mxZ f i.toNat < f i then f i else mxZ f i.toNat := by
  rw [show (i + 1).toNat = i.toNat + 1 by omega]
  show (if mxZ f i.toNat < f (i.toNat : Int) then f (i.toNat : Int) else mxZ f i.toNat) = _
  rw [Int.toNat_of_nonneg hi]
/-- zeros do nothing: from i on to k, from i down to 0 -/
theorem sumZ_z {f : Int → Int} {i : Nat} : ∀ k : Nat, (∀ j : Int, (i : Int) ≤ j ∧ j < (i + k : Int) → f j = 0) → sumZ f (i + k) = sumZ f i := by
  intro k
  induction k with
  | zero => intro _; rfl
  | succ k ih => intro h; show sumZ f (i + k) + f ((i + k : Nat) : Int) = _; rw [ih (fun j hj => h j (by omega)), h _ (by omega)]; omega
theorem sumZ_nn {f : Int → Int} (h : ∀ j, 0 ≤ f j) : ∀ k : Nat, 0 ≤ sumZ f k := by
  intro k
  induction k with
  | zero => exact Int.le_refl 0
  | succ k ih => have := h k; show 0 ≤ sumZ f k + f k; omega
theorem sumZ_mono {f : Int → Int} (h : ∀ j, 0 ≤ f j) (i : Nat) : ∀ k : Nat, sumZ f i ≤ sumZ f (i + k) := by
  intro k
  induction k with
  | zero => exact Int.le_refl _
  | succ k ih => have := h ((i + k : Nat) : Int); show _ ≤ sumZ f (i + k) + f ((i + k : Nat) : Int); omega
theorem catZ_z {α : Type} {f : Int → List α} {i : Nat} : ∀ k : Nat, (∀ j : Int, (i : Int) ≤ j ∧ j < (i + k : Int) → f j = []) → catZ f (i + k) = catZ f i := by
  intro k
  induction k with
  | zero => intro _; rfl
  | succ k ih => intro h; show catZ f (i + k) ++ f ((i + k : Nat) : Int) = _; rw [ih (fun j hj => h j (by omega)), h _ (by omega), List.append_nil]
theorem mxZ_nn {f : Int → Int} : ∀ k : Nat, 0 ≤ mxZ f k := by
  intro k
  induction k with
  | zero => exact Int.le_refl 0
  | succ k ih =>
    show 0 ≤ if mxZ f k < f k then f k else mxZ f k
    split <;> omega
theorem mxZ_z {f : Int → Int} {i : Nat} : ∀ k : Nat, (∀ j : Int, (i : Int) ≤ j ∧ j < (i + k : Int) → f j = 0) → mxZ f (i + k) = mxZ f i := by
  intro k
  induction k with
  | zero => intro _; rfl
  | succ k ih =>
    intro h
    show (if mxZ f (i + k) < f ((i + k : Nat) : Int) then f ((i + k : Nat) : Int) else mxZ f (i + k)) = _
    have := mxZ_nn (f := f) (i + k)
    rw [h _ (by omega), if_neg (by omega), ih (fun j hj => h j (by omega))]
/-- the bytes of a row of blocks; the states behind the bytes ahead of k; whether byte j is as a file's; how a row of d + 1 blocks fits: 0 not, 1 it goes on, 2 a file -/
def txR (dk : Int → Int64) (R : Int → Int) : Int → Int := fun j => byZ (dk (R (j / 8))) (j % 8)
def stX (T : Int → Int) (tx : Int → Int) (k : Int) : Int := runS T (fun j => tx (3 + j)) (k - 3).toNat
def okA (a1 a2 kd gl : Int) (T : Int → Int) (tx : Int → Int) (j : Int) : Prop :=
  (j = 0 → tx 0 = a1) ∧ (j = 1 → tx 1 = a2) ∧ (j = 2 → tx 2 ≤ 36 ∧ (tx 2 = 0 → zand 1 gl ≠ 0)) ∧ (3 ≤ j → (j < 3 + tx 2 → stX T tx (j + 1) ≠ 0 ∧ (j = 2 + tx 2 → zand (stX T tx (j + 1)) gl ≠ 0)) ∧ (j = 3 + tx 2 → tx j = ckF kd tx j.toNat) ∧ (3 + tx 2 < j → tx j = 0))
def gOk (a1 a2 kd gl : Int) (T : Int → Int) (tx : Int → Int) (d : Int) : Prop := ∀ j : Int, 8 * d ≤ j ∧ j < 8 * d + 8 → okA a1 a2 kd gl T tx j
noncomputable def gZ (a1 a2 kd gl : Int) (T : Int → Int) (tx : Int → Int) (d : Int) : Int := cIf (gOk a1 a2 kd gl T tx d) (if 3 + tx 2 < 8 * d + 8 then 2 else 1) 0
theorem gZ_3 (a1 a2 kd gl : Int) (T : Int → Int) (tx : Int → Int) (d : Int) : gZ a1 a2 kd gl T tx d = 0 ∨ gZ a1 a2 kd gl T tx d = 1 ∨ gZ a1 a2 kd gl T tx d = 2 := by
  unfold gZ
  by_cases h : gOk a1 a2 kd gl T tx d
  · rw [cIf_t h]; split <;> simp
  · rw [cIf_f h]; simp
/-- block b may come behind a row of d blocks -/
def may (rc : Int) (R : Int → Int) (d b : Int) : Prop := (-rc ≤ b - R (d - 1) ∧ b - R (d - 1) ≤ rc) ∧ ∀ k : Int, 0 ≤ k ∧ k < d → R k ≠ b
noncomputable def lkT (gq : (Int → Int) → Int → Int) (rc nb : Int) : Nat → (Int → Int) → Int → Int → Int
  | 0, _, _, _ => 1
  | f + 1, R, d, b => 1 + cIf (gq (zup R d b) d = 1) (sumZ (fun x => cIf (may rc (zup R d b) (d + 1) x) (lkT gq rc nb f (zup R d b) (d + 1) x) 0) nb.toNat) 0
noncomputable def fdT (gq : (Int → Int) → Int → Int) (rc nb mn : Int) : Nat → (Int → Int) → Int → Int → List Int
  | 0, _, _, _ => []
  | f + 1, R, d, b => cIf (gq (zup R d b) d = 2) [kyZ (zup R d b) (d + 1) mn] (cIf (gq (zup R d b) d = 1) (catZ (fun x => cIf (may rc (zup R d b) (d + 1) x) (fdT gq rc nb mn f (zup R d b) (d + 1) x) []) nb.toNat) [])
noncomputable def lgT (gq : (Int → Int) → Int → Int) (rc nb : Int) : Nat → (Int → Int) → Int → Int → Int
  | 0, _, _, _ => 0
  | f + 1, R, d, b => cIf (gq (zup R d b) d = 0) 0 (cIf (gq (zup R d b) d = 1) (if d + 1 < mxZ (fun x => cIf (may rc (zup R d b) (d + 1) x) (lgT gq rc nb f (zup R d b) (d + 1) x) 0) nb.toNat then mxZ (fun x => cIf (may rc (zup R d b) (d + 1) x) (lgT gq rc nb f (zup R d b) (d + 1) x) 0) nb.toNat else d + 1) (d + 1))
theorem lkT_1 (gq : (Int → Int) → Int → Int) (rc nb : Int) : ∀ (f : Nat) (R : Int → Int) (d b : Int), 1 ≤ lkT gq rc nb f R d b := by
  intro f
  induction f with
  | zero => intro R d b; exact Int.le_refl 1
  | succ f ih =>
    intro R d b
    show 1 ≤ 1 + cIf _ _ _
    by_cases q : gq (zup R d b) d = 1
    · rw [cIf_t q]
      have := sumZ_nn (f := fun x => cIf (may rc (zup R d b) (d + 1) x) (lkT gq rc nb f (zup R d b) (d + 1) x) 0) (fun j => by
        show 0 ≤ cIf _ _ _
        by_cases w : may rc (zup R d b) (d + 1) j
        · rw [cIf_t w]; have := ih (zup R d b) (d + 1) j; omega
        · rw [cIf_f w]; exact Int.le_refl 0) nb.toNat
      omega
    · rw [cIf_f q]; omega
theorem zup_pre {R R' : Int → Int} {d b : Int} (h : ∀ k : Int, 0 ≤ k ∧ k < d → R k = R' k) : ∀ k : Int, 0 ≤ k ∧ k < d + 1 → zup R d b k = zup R' d b k := by
  intro k hk
  by_cases q : k = d
  · subst q; rw [zup_s, zup_s]
  · rw [zup_n _ _ q, zup_n _ _ q, h k (by omega)]
theorem may_cg {rc : Int} {R R' : Int → Int} {d b : Int} (hd : 1 ≤ d) (h : ∀ k : Int, 0 ≤ k ∧ k < d → R k = R' k) : may rc R d b ↔ may rc R' d b := by
  unfold may
  rw [h (d - 1) (by omega)]
  exact ⟨fun q => ⟨q.1, fun k hk => by rw [← h k hk]; exact q.2 k hk⟩, fun q => ⟨q.1, fun k hk => by rw [h k hk]; exact q.2 k hk⟩⟩
theorem kyF_cg {F F' : Int → Int} {n : Int} (h : ∀ k : Int, 0 ≤ k ∧ k < n → F k = F' k) : ∀ k : Nat, kyF F n k = kyF F' n k := by
  intro k
  induction k with
  | zero => rfl
  | succ k ih =>
    show zor (zshl (kyF F n k) 5) (if (k : Int) < n then F k + 1 else 0) = zor (zshl (kyF F' n k) 5) (if (k : Int) < n then F' k + 1 else 0)
    rw [ih]
    by_cases q : (k : Int) < n
    · rw [if_pos q, if_pos q, h k (by omega)]
    · rw [if_neg q, if_neg q]
def gqC (gq : (Int → Int) → Int → Int) : Prop := ∀ (R R' : Int → Int) (d : Int), 0 ≤ d → (∀ k : Int, 0 ≤ k ∧ k < d + 1 → R k = R' k) → gq R d = gq R' d
theorem lkT_cg {gq : (Int → Int) → Int → Int} (hg : gqC gq) (rc nb : Int) : ∀ (f : Nat) (R R' : Int → Int) (d b : Int), 0 ≤ d → (∀ k : Int, 0 ≤ k ∧ k < d → R k = R' k) → lkT gq rc nb f R d b = lkT gq rc nb f R' d b := by
  intro f
  induction f with
  | zero => intros; rfl
  | succ f ih =>
    intro R R' d b hd h
    have h1 := zup_pre (b := b) h
    show 1 + cIf _ _ _ = 1 + cIf _ _ _
    rw [hg _ _ d hd h1]
    congr 1
    refine cIf_cg Iff.rfl (fun _ => sumZ_cg _ (fun j _ => cIf_cg (may_cg (by omega) h1) (fun _ => ih _ _ _ _ (by omega) h1) rfl)) rfl
theorem fdT_cg {gq : (Int → Int) → Int → Int} (hg : gqC gq) (rc nb mn : Int) : ∀ (f : Nat) (R R' : Int → Int) (d b : Int), 0 ≤ d → (∀ k : Int, 0 ≤ k ∧ k < d → R k = R' k) → fdT gq rc nb mn f R d b = fdT gq rc nb mn f R' d b := by
  intro f
  induction f with
  | zero => intros; rfl
  | succ f ih =>
    intro R R' d b hd h
    have h1 := zup_pre (b := b) h
    show cIf _ _ _ = cIf _ _ _
    rw [hg _ _ d hd h1]
    refine cIf_cg Iff.rfl (fun _ => ?_) (cIf_cg Iff.rfl (fun _ => catZ_cg _ (fun j _ => cIf_cg (may_cg (by omega) h1) (fun _ => ih _ _ _ _ (by omega) h1) rfl)) rfl)
    unfold kyZ
    rw [kyF_cg h1]
theorem lgT_cg {gq : (Int → Int) → Int → Int} (hg : gqC gq) (rc nb : Int) : ∀ (f : Nat) (R R' : Int → Int) (d b : Int), 0 ≤ d → (∀ k : Int, 0 ≤ k ∧ k < d → R k = R' k) → lgT gq rc nb f R d b = lgT gq rc nb f R' d b := by
  intro f
  induction f with
  | zero => intros; rfl
  | succ f ih =>
    intro R R' d b hd h
    have h1 := zup_pre (b := b) h
    have h2 : mxZ (fun x => cIf (may rc (zup R d b) (d + 1) x) (lgT gq rc nb f (zup R d b) (d + 1) x) 0) nb.toNat = mxZ (fun x => cIf (may rc (zup R' d b) (d + 1) x) (lgT gq rc nb f (zup R' d b) (d + 1) x) 0) nb.toNat := mxZ_cg _ (fun j _ => cIf_cg (may_cg (by omega) h1) (fun _ => ih _ _ _ _ (by omega) h1) rfl)
    show cIf _ _ _ = cIf _ _ _
    rw [hg _ _ d hd h1, h2]
