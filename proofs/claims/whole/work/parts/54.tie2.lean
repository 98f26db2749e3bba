/-! found rows are files; the two sides' covers are one -/
theorem mem_catZ {α : Type} {f : Int → List α} : ∀ (k : Nat) (x : α), x ∈ catZ f k → ∃ j : Int, (0 ≤ j ∧ j < (k : Int)) ∧ x ∈ f j := by
  intro k
  induction k with
  | zero => intro x h; exact absurd h List.not_mem_nil
  | succ k ih =>
    intro x h
    have h2 : x ∈ catZ f k ++ f (k : Int) := h
    rcases List.mem_append.mp h2 with q | q
    · obtain ⟨j, hj, w⟩ := ih x q
      exact ⟨j, by omega, w⟩
    · exact ⟨(k : Int), by omega, q⟩
theorem mem_insA : ∀ (xs S : List Int) (x : Int), x ∈ insA xs S → x ∈ xs ∨ x ∈ S := by
  intro xs
  induction xs with
  | nil => intro S x h; exact Or.inr h
  | cons y xs ih =>
    intro S x h
    have h2 : x ∈ insA xs (insS y S) := h
    rcases ih _ x h2 with q | q
    · exact Or.inl (List.mem_cons.mpr (Or.inr q))
    · rcases (insS_mem y S x).mp q with w | w
      · exact Or.inl (List.mem_cons.mpr (Or.inl w))
      · exact Or.inr w
def dsK (k : Int) : Prop := ∀ i j : Int, 0 ≤ i ∧ i < j ∧ j < kSz k → kBl k i ≠ kBl k j
theorem fd_ok {a1 a2 kd gl : Int} {T : Int → Int} {dk : Int → Int64} {rc nb mn : Int} (hn : 0 ≤ nb ∧ nb ≤ 24) (hm : 0 ≤ mn ∧ mn < 8) : ∀ (f : Nat) (R : Int → Int) (d b : Int), 0 ≤ d → d + (f : Int) ≤ 5 → (∀ k : Int, 0 ≤ k ∧ k < d → 0 ≤ R k ∧ R k < nb) → (∀ i j : Int, 0 ≤ i ∧ i < j ∧ j < d → R i ≠ R j) → (0 ≤ b ∧ b < nb) → (∀ k : Int, 0 ≤ k ∧ k < d → R k ≠ b) → ∀ k ∈ fdT (gqZ a1 a2 kd gl T dk) rc nb mn f R d b, okK dk nb k ∧ dsK k := by
  intro f
  induction f with
  | zero => intro R d b _ _ _ _ _ _ k hk; exact absurd hk List.not_mem_nil
  | succ f ih =>
    intro R d b h0 h5 hR hds hb hnb k hk
    have r1 : ∀ k : Int, 0 ≤ k ∧ k < d + 1 → 0 ≤ zup R d b k ∧ zup R d b k < nb := fun k hk => by
      rcases (show k = d ∨ k < d by omega) with q | q
      · rw [q, zup_s]; exact hb
      · rw [zup_n _ _ (by omega)]; exact hR k (by omega)
    have r2 : ∀ i j : Int, 0 ≤ i ∧ i < j ∧ j < d + 1 → zup R d b i ≠ zup R d b j := fun i j hij => by
      rw [zup_n (j := i) R b (by omega)]
      rcases (show j = d ∨ j < d by omega) with q | q
      · rw [q, zup_s]; exact hnb i (by omega)
      · rw [zup_n _ _ (by omega)]; exact hds i j (by omega)
    have hk2 : k ∈ cIf (gqZ a1 a2 kd gl T dk (zup R d b) d = 2) [kyZ (zup R d b) (d + 1) mn] (cIf (gqZ a1 a2 kd gl T dk (zup R d b) d = 1) (catZ (fun x => cIf (may rc (zup R d b) (d + 1) x) (fdT (gqZ a1 a2 kd gl T dk) rc nb mn f (zup R d b) (d + 1) x) []) nb.toNat) []) := hk
    by_cases q2 : gqZ a1 a2 kd gl T dk (zup R d b) d = 2
    · rw [cIf_t q2] at hk2
      have e := List.mem_singleton.mp hk2
      obtain ⟨k1, k2, k3, k4⟩ := key_of (RW := zup R d b) (n := d + 1) (x := mn) (fun k hk => by have := r1 k hk; omega) (by omega) hm
      rw [← e] at k1 k2 k4
      have ht : txR dk (kBl k) 2 = txR dk (zup R d b) 2 := by
        show byZ (dk (kBl k 0)) 2 = byZ (dk (zup R d b 0)) 2
        rw [k4 0 (by omega)]
      have h3 : 3 + txR dk (zup R d b) 2 < 8 * d + 8 := by
        have q3 : gZ a1 a2 kd gl T (txR dk (zup R d b)) d = 2 := q2
        unfold gZ at q3
        by_cases w : gOk a1 a2 kd gl T (txR dk (zup R d b)) d
        · rw [cIf_t w] at q3
          by_cases w2 : 3 + txR dk (zup R d b) 2 < 8 * d + 8
          · exact w2
          · rw [if_neg w2] at q3
            exact absurd q3 (by decide)
        · rw [cIf_f w] at q3
          exact absurd q3 (by decide)
      refine ⟨⟨k1, fun i hi => ?_, by rw [ht]; omega, by rw [ht, k2]; omega⟩, fun i j hij => ?_⟩
      · rw [k2] at hi
        rw [k4 i hi]
        exact r1 i hi
      · rw [k2] at hij
        rw [k4 i (by omega), k4 j (by omega)]
        exact r2 i j hij
    · rw [cIf_f q2] at hk2
      by_cases q1 : gqZ a1 a2 kd gl T dk (zup R d b) d = 1
      · rw [cIf_t q1] at hk2
        obtain ⟨x, hx, w⟩ := mem_catZ _ _ hk2
        have w2 : k ∈ cIf (may rc (zup R d b) (d + 1) x) (fdT (gqZ a1 a2 kd gl T dk) rc nb mn f (zup R d b) (d + 1) x) [] := w
        by_cases hmay : may rc (zup R d b) (d + 1) x
        · rw [cIf_t hmay] at w2
          exact ih (zup R d b) (d + 1) x (by omega) (by omega) r1 r2 (by omega) hmay.2 k w2
        · rw [cIf_f hmay] at w2
          exact absurd w2 List.not_mem_nil
      · rw [cIf_f q1] at hk2
        exact absurd hk2 List.not_mem_nil
theorem sX_ok {gm : Int → (Int → Int) → Int → Int} {dk : Int → Int64} {rc nb mk : Int} (hg : ∀ x : Int, 0 ≤ x ∧ x < mk → ∃ a1 a2 kd gl T, gm x = gqZ a1 a2 kd gl T dk) (hn : 0 ≤ nb ∧ nb ≤ 24) (hm : mk ≤ 6) : ∀ k ∈ sX gm rc nb mk, okK dk nb k ∧ dsK k := by
  intro k hk
  unfold sX at hk
  split at hk
  · exact absurd hk List.not_mem_nil
  · unfold SF at hk
    rcases mem_insA _ _ _ hk with q | q
    · obtain ⟨x, hx, w⟩ := mem_catZ _ _ q
      obtain ⟨b, hb, w⟩ := mem_catZ (f := fun b => sF gm rc nb x b) _ _ w
      obtain ⟨a1, a2, kd, gl, T, hg9⟩ := hg x (by omega)
      have w2 : k ∈ fdT (gm x) rc nb x 5 (fun _ => 0) 0 b := w
      rw [hg9] at w2
      exact fd_ok hn (by omega) 5 _ 0 b (Int.le_refl 0) (by decide) (fun k hk => by omega) (fun i j h => by omega) (by omega) (fun k hk => by omega) k w2
    · exact absurd q List.not_mem_nil
