/-! THE TABLES ARE RIGHT, 4: a check in pieces. -/
theorem grp_by {i : Nat} (h : ∀ j, j < 16 → 16 * i + j < 375 → rowsB (16 * i + j) (rowsOf (16 * i + j)) = true) : GrpB i := by
  refine List.all_eq_true.mpr fun j hj => ?_
  simp only [Bool.or_eq_true]
  rcases Nat.lt_or_ge (16 * i + j) 375 with q | q
  · exact Or.inr (h j (List.mem_range.mp hj) q)
  · exact Or.inl (Nat.ble_eq_true_of_le q)
theorem rows_split {mi : Nat} {r : Rws} (n : Nat) (h1 : rowsB mi (r.take n) = true) (h2 : rowsB mi (r.drop n) = true) : rowsB mi r = true := by
  have h3 : rowsB mi (r.take n ++ r.drop n) = true := by
    unfold rowsB at h1 h2 ⊢
    rw [List.all_append, h1, h2]
    rfl
  rwa [List.take_append_drop] at h3
theorem rows_drop {mi : Nat} {r : Rws} (n k : Nat) (h1 : rowsB mi ((r.drop n).take k) = true) (h2 : rowsB mi (r.drop (n + k)) = true) : rowsB mi (r.drop n) = true := rows_split k h1 (by rw [List.drop_drop]; exact h2)
