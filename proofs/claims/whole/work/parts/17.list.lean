/-! keys in order; the files that Files holds, as a row of keys; keys as numbers -/
def insS (x : Int) : List Int → List Int
  | [] => [x]
  | y :: t => if x < y then x :: y :: t else y :: insS x t
def insA (xs S : List Int) : List Int := xs.foldl (fun S x => insS x S) S
theorem insA_app (xs ys S : List Int) : insA (xs ++ ys) S = insA ys (insA xs S) := by
  unfold insA
  rw [List.foldl_append]
theorem insS_len (x : Int) : ∀ S : List Int, (insS x S).length = S.length + 1 := by
  intro S
  induction S with
  | nil => rfl
  | cons y t ih =>
    unfold insS
    split
    · rfl
    · rw [List.length_cons, List.length_cons, ih]
theorem insA_len (xs : List Int) : ∀ S : List Int, (insA xs S).length = S.length + xs.length := by
  induction xs with
  | nil => intro S; rfl
  | cons x t ih =>
    intro S
    show (insA t (insS x S)).length = _
    rw [ih, insS_len, List.length_cons]
    omega
theorem insS_mem (x : Int) : ∀ (S : List Int) (z : Int), z ∈ insS x S ↔ z = x ∨ z ∈ S := by
  intro S
  induction S with
  | nil => intro z; simp [insS]
  | cons y t ih =>
    intro z
    unfold insS
    split
    · simp
    · rw [List.mem_cons, ih, List.mem_cons]
      exact ⟨fun h => h.elim (fun q => Or.inr (Or.inl q)) (fun q => q.elim Or.inl (fun w => Or.inr (Or.inr w))), fun h => h.elim (fun q => Or.inr (Or.inl q)) (fun q => q.elim Or.inl (fun w => Or.inr (Or.inr w)))⟩
theorem insS_sorted (x : Int) : ∀ S : List Int, S.Pairwise (· ≤ ·) → (insS x S).Pairwise (· ≤ ·) := by
  intro S
  induction S with
  | nil => intro _; exact List.pairwise_singleton _ _
  | cons y t ih =>
    intro h
    obtain ⟨h1, h2⟩ := List.pairwise_cons.mp h
    unfold insS
    split
    · refine List.pairwise_cons.mpr ⟨fun z hz => ?_, h⟩
      rcases List.mem_cons.mp hz with q | q
      · omega
      · have := h1 z q; omega
    · refine List.pairwise_cons.mpr ⟨fun z hz => ?_, ih h2⟩
      rcases (insS_mem x t z).mp hz with q | q
      · omega
      · exact h1 z q
theorem insA_sorted (xs : List Int) : ∀ S : List Int, S.Pairwise (· ≤ ·) → (insA xs S).Pairwise (· ≤ ·) := by
  induction xs with
  | nil => intro S h; exact h
  | cons x t ih => intro S h; exact ih _ (insS_sorted x S h)
theorem insS_at (x : Int) : ∀ (S : List Int) (p : Nat), p ≤ S.length → (∀ j : Nat, j < p → S.getD j 0 ≤ x) → (∀ j : Nat, p ≤ j ∧ j < S.length → x < S.getD j 0) → ∀ i : Nat, (insS x S).getD i 0 = if i < p then S.getD i 0 else if i = p then x else S.getD (i - 1) 0 := by
  intro S
  induction S with
  | nil =>
    intro p hp _ _ i
    have : p = 0 := by simpa using hp
    subst this
    cases i with
    | zero => rfl
    | succ i => simp [insS]
  | cons y t ih =>
    intro p hp h1 h2 i
    cases p with
    | zero =>
      have hy : x < y := h2 0 (by simp)
      rw [insS, if_pos hy]
      cases i with
      | zero => rfl
      | succ i => simp
    | succ p =>
      have hy : y ≤ x := h1 0 (by omega)
      rw [insS, if_neg (by omega)]
      cases i with
      | zero => simp
      | succ i =>
        have h3 := ih p (by simpa using hp) (fun j hj => by have := h1 (j + 1) (by omega); simpa using this) (fun j hj => by have := h2 (j + 1) (by rw [List.length_cons]; omega); simpa using this) i
        rw [List.getD_cons_succ, h3, List.getD_cons_succ]
        by_cases q : i < p
        · rw [if_pos q, if_pos (by omega)]
        · rw [if_neg q, if_neg (show ¬ i + 1 < p + 1 by omega)]
          by_cases w : i = p
          · rw [if_pos w, if_pos (show i + 1 = p + 1 by omega)]
          · rw [if_neg w, if_neg (show ¬ i + 1 = p + 1 by omega), show i + 1 - 1 = (i - 1) + 1 by omega, List.getD_cons_succ]
def wfC (K : Int → Int) (nf tm : Int) : Prop := (0 ≤ nf ∧ nf ≤ 40) ∧ (tm = 0 ∨ tm = 1) ∧ ∀ j : Int, 0 ≤ j ∧ j < nf → 0 ≤ K j ∧ K j < 268435456
def rpC (K : Int → Int) (nf tm : Int) (S : List Int) : Prop := S.Pairwise (· ≤ ·) ∧ (S.length ≤ 40 → nf = (S.length : Int) ∧ tm = 0 ∧ ∀ i : Nat, i < S.length → K (i : Int) = S.getD i 0) ∧ (40 < S.length → nf = 40 ∧ tm = 1)
theorem sorted_get : ∀ (S : List Int), S.Pairwise (· ≤ ·) → ∀ i j : Nat, i ≤ j → j < S.length → S.getD i 0 ≤ S.getD j 0 := by
  intro S h i j hij hj
  rcases Nat.lt_or_ge i j with q | q
  · have := List.pairwise_iff_getElem.mp h i j (by omega) hj q
    rw [List.getD_eq_getElem?_getD, List.getD_eq_getElem?_getD, List.getElem?_eq_getElem hj, List.getElem?_eq_getElem (by omega)]
    exact this
  · rw [show i = j by omega]; exact Int.le_refl _
theorem rpC_add {K : Int → Int} {nf tm p x : Int} {S : List Int} (h : rpC K nf tm S) (hn : nf < 40) (hp : 0 ≤ p ∧ p ≤ nf) (h1 : p = 0 ∨ K (p - 1) ≤ x) (h2 : ∀ j : Int, p ≤ j ∧ j < nf → x < K j) : rpC (insZ K nf p x) (nf + 1) tm (insS x S) := by
  obtain ⟨hs, hle, hgt⟩ := h
  have hlen : S.length ≤ 40 := by
    rcases Nat.lt_or_ge 40 S.length with q | q
    · have := (hgt q).1; omega
    · exact q
  obtain ⟨e1, e2, e3⟩ := hle hlen
  refine ⟨insS_sorted x S hs, fun _ => ?_, fun q => ?_⟩
  · rw [insS_len]
    refine ⟨by omega, e2, fun i hi => ?_⟩
    rw [insS_at x S p.toNat (by omega) (fun j hj => ?_) (fun j hj => ?_) i]
    · unfold insZ
      by_cases q : i < p.toNat
      · rw [if_pos q, if_neg (by omega), if_neg (by omega), e3 i (by omega)]
      · rw [if_neg q]
        by_cases w : i = p.toNat
        · rw [if_pos w, if_neg (by omega), if_pos (by omega)]
        · rw [if_neg w, if_pos (by omega), show (i : Int) - 1 = ((i - 1 : Nat) : Int) by omega, e3 (i - 1) (by omega)]
    · rcases h1 with q | q
      · omega
      · have h9 := sorted_get S hs j (p.toNat - 1) (by omega) (by omega)
        have h8 := e3 (p.toNat - 1) (by omega)
        rw [show ((p.toNat - 1 : Nat) : Int) = p - 1 by omega] at h8
        omega
    · have := h2 j (by omega)
      rw [e3 j (by omega)] at this
      exact this
  · rw [insS_len] at q
    omega
theorem rpC_full {K : Int → Int} {nf tm x : Int} {S : List Int} (h : rpC K nf tm S) (hn : 40 ≤ nf) : rpC K nf 1 (insS x S) := by
  obtain ⟨hs, hle, hgt⟩ := h
  refine ⟨insS_sorted x S hs, fun q => ?_, fun _ => ⟨?_, rfl⟩⟩
  · rw [insS_len] at q
    have := (hle (by omega)).1
    omega
  · rcases Nat.lt_or_ge 40 S.length with q | q
    · exact (hgt q).1
    · have := (hle q).1; omega
/-- keys as numbers: the blocks of a row, each one more, in base 32, then the make in base 8 -/
theorem zor_add {a b : Int} (k : Nat) (ha : 0 ≤ a) (hb : 0 ≤ b ∧ b < ((2 ^ k : Nat) : Int)) (h : a * ((2 ^ k : Nat) : Int) + b < 2147483648) : zor (a * ((2 ^ k : Nat) : Int)) b = a * ((2 ^ k : Nat) : Int) + b := by
  obtain ⟨n, rfl⟩ := Int.eq_ofNat_of_zero_le ha
  obtain ⟨j, rfl⟩ := Int.eq_ofNat_of_zero_le hb.1
  have h1 : n * 2 ^ k + j < 2147483648 := by
    have : ((n * 2 ^ k + j : Nat) : Int) < 2147483648 := by rw [Int.natCast_add, Int.natCast_mul]; exact h
    omega
  rw [← Int.natCast_mul, zor_nat (by omega) (by omega), Nat.mul_comm n (2 ^ k), ← Nat.two_pow_add_eq_or_of_lt (by omega) n, Int.natCast_add]
def blB (F : Int → Int) (n k : Int) : Int := if k < n then F k + 1 else 0
theorem kyF_num {F : Int → Int} {n : Int} (h : ∀ k : Int, 0 ≤ k ∧ k < n → 0 ≤ F k ∧ F k < 31) : ∀ k : Nat, k ≤ 5 → (0 ≤ kyF F n k ∧ kyF F n k < ((2 ^ (5 * k) : Nat) : Int)) ∧ (∀ j : Nat, j + 1 = k → kyF F n k = kyF F n j * 32 + blB F n (j : Int)) := by
  intro k
  induction k with
  | zero => intro _; exact ⟨⟨Int.le_refl 0, by show (0 : Int) < ((2 ^ 0 : Nat) : Int); decide⟩, fun j hj => by omega⟩
  | succ k ih =>
    intro hk
    obtain ⟨⟨i1, i2⟩, -⟩ := ih (by omega)
    have hb : 0 ≤ blB F n (k : Int) ∧ blB F n (k : Int) < 32 := by
      unfold blB
      split
      · have := h k (by omega); omega
      · omega
    have hp : (2 : Nat) ^ (5 * k) ≤ 2 ^ 20 := Nat.pow_le_pow_right (by decide) (by omega)
    have e1 : zshl (kyF F n k) 5 = kyF F n k * 32 := zshl_mul 5 i1 (by decide) (by show kyF F n k * 32 < _; omega)
    have e2 : kyF F n (k + 1) = kyF F n k * 32 + blB F n (k : Int) := by
      show zor (zshl (kyF F n k) 5) (blB F n (k : Int)) = _
      rw [e1]
      exact zor_add 5 i1 hb (by show kyF F n k * 32 + _ < _; omega)
    refine ⟨⟨by omega, ?_⟩, fun j hj => by rw [show j = k by omega]; exact e2⟩
    have : (2 : Nat) ^ (5 * (k + 1)) = 2 ^ (5 * k) * 32 := by rw [show 5 * (k + 1) = 5 * k + 5 by omega, Nat.pow_add]
    omega
theorem kyZ_num {F : Int → Int} {n mm : Int} (h : ∀ k : Int, 0 ≤ k ∧ k < n → 0 ≤ F k ∧ F k < 31) (hm : 0 ≤ mm ∧ mm < 8) : kyZ F n mm = ((((blB F n 0 * 32 + blB F n 1) * 32 + blB F n 2) * 32 + blB F n 3) * 32 + blB F n 4) * 8 + mm ∧ 0 ≤ kyZ F n mm ∧ kyZ F n mm < 268435456 := by
  have h1 := (kyF_num h 1 (by decide)).2 0 rfl
  have h2 := (kyF_num h 2 (by decide)).2 1 rfl
  have h3 := (kyF_num h 3 (by decide)).2 2 rfl
  have h4 := (kyF_num h 4 (by decide)).2 3 rfl
  have h5 := kyF_num h 5 (by decide)
  have h6 := h5.2 4 rfl
  have h0 : kyF F n 0 = 0 := rfl
  obtain ⟨⟨b1, b2⟩, -⟩ := h5
  have b2 : kyF F n 5 < 33554432 := b2
  have e : kyZ F n mm = kyF F n 5 * 8 + mm := by
    unfold kyZ
    have e1 : zshl (kyF F n 5) 3 = kyF F n 5 * 8 := zshl_mul 3 b1 (by decide) (by show kyF F n 5 * 8 < _; omega)
    rw [e1]
    exact zor_add 3 b1 hm (by show kyF F n 5 * 8 + _ < _; omega)
  rw [h0] at h1
  have h1 : kyF F n 1 = 0 * 32 + blB F n 0 := h1
  have h2 : kyF F n 2 = kyF F n 1 * 32 + blB F n 1 := h2
  have h3 : kyF F n 3 = kyF F n 2 * 32 + blB F n 2 := h3
  have h4 : kyF F n 4 = kyF F n 3 * 32 + blB F n 3 := h4
  have h6 : kyF F n 5 = kyF F n 4 * 32 + blB F n 4 := h6
  refine ⟨by rw [e]; omega, by omega, by omega⟩
