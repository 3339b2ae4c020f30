def gdK (k y : Nat) : Bool := !((decide (k = 5) && !decide (y = 9)) || (decide (0 < k) && decide (k < 5) && (decide (y = 9) || (decide (y = 8) && decide (k < 3)))))
theorem gdK_ok : ∀ y, y < 10 → 7 ≤ y → ∀ k, k < 6 → gdK k y = decide (hB (m_sv 501 y) (nI k)) := by decide
theorem cpx : ∀ x, x < 10 → ∀ y, y < 10 → (¬ hB (m_sv 502 x) (nI y) ↔ (nI x < 5 ∨ nI y < 5 ∨ ¬ nI x = nI y ∧ (nI x < 7 ∨ nI y < 7))) := by decide
section CP
variable {d n x : Nat} {S : mS} {Q : mQ} {a b c j : Int32}
theorem cp_0_5 (hg : Wp d n_X6_copy 284 [(8, .int (nI 0)), (7, .int j), (6, .int (nI n)), (5, .int (nI 5)), (4, .int (nI x)), (0, .ref 6), (1, .int a), (2, .int b), (3, .int c)] [] S Q) : Wp d n_X6_copy 238 [(8, .int (nI 0)), (7, .int j), (6, .int (nI n)), (5, .int (nI 5)), (4, .int (nI x)), (0, .ref 6), (1, .int a), (2, .int b), (3, .int c)] [] S Q := by
  (repeat (first | exact hg | refine Wp.p rfl ?_ | refine Wp.bT rfl (by decide) ?_ | refine Wp.bF rfl (by decide) ?_))
theorem cp_0_6 (hg : Wp d n_X6_copy 284 [(8, .int (nI 0)), (7, .int j), (6, .int (nI n)), (5, .int (nI 6)), (4, .int (nI x)), (0, .ref 6), (1, .int a), (2, .int b), (3, .int c)] [] S Q) : Wp d n_X6_copy 238 [(8, .int (nI 0)), (7, .int j), (6, .int (nI n)), (5, .int (nI 6)), (4, .int (nI x)), (0, .ref 6), (1, .int a), (2, .int b), (3, .int c)] [] S Q := by
  (repeat (first | exact hg | refine Wp.p rfl ?_ | refine Wp.bT rfl (by decide) ?_ | refine Wp.bF rfl (by decide) ?_))
theorem cp_0_7 (hg : Wp d n_X6_copy 284 [(8, .int (nI 0)), (7, .int j), (6, .int (nI n)), (5, .int (nI 7)), (4, .int (nI x)), (0, .ref 6), (1, .int a), (2, .int b), (3, .int c)] [] S Q) : Wp d n_X6_copy 238 [(8, .int (nI 0)), (7, .int j), (6, .int (nI n)), (5, .int (nI 7)), (4, .int (nI x)), (0, .ref 6), (1, .int a), (2, .int b), (3, .int c)] [] S Q := by
  (repeat (first | exact hg | refine Wp.p rfl ?_ | refine Wp.bT rfl (by decide) ?_ | refine Wp.bF rfl (by decide) ?_))
theorem cp_0_8 (hg : Wp d n_X6_copy 284 [(8, .int (nI 0)), (7, .int j), (6, .int (nI n)), (5, .int (nI 8)), (4, .int (nI x)), (0, .ref 6), (1, .int a), (2, .int b), (3, .int c)] [] S Q) : Wp d n_X6_copy 238 [(8, .int (nI 0)), (7, .int j), (6, .int (nI n)), (5, .int (nI 8)), (4, .int (nI x)), (0, .ref 6), (1, .int a), (2, .int b), (3, .int c)] [] S Q := by
  (repeat (first | exact hg | refine Wp.p rfl ?_ | refine Wp.bT rfl (by decide) ?_ | refine Wp.bF rfl (by decide) ?_))
theorem cp_0_9 (hg : Wp d n_X6_copy 284 [(8, .int (nI 0)), (7, .int j), (6, .int (nI n)), (5, .int (nI 9)), (4, .int (nI x)), (0, .ref 6), (1, .int a), (2, .int b), (3, .int c)] [] S Q) : Wp d n_X6_copy 238 [(8, .int (nI 0)), (7, .int j), (6, .int (nI n)), (5, .int (nI 9)), (4, .int (nI x)), (0, .ref 6), (1, .int a), (2, .int b), (3, .int c)] [] S Q := by
  (repeat (first | exact hg | refine Wp.p rfl ?_ | refine Wp.bT rfl (by decide) ?_ | refine Wp.bF rfl (by decide) ?_))
theorem cp_1_5 (hg : Wp d n_X6_copy 284 [(8, .int (nI 1)), (7, .int j), (6, .int (nI n)), (5, .int (nI 5)), (4, .int (nI x)), (0, .ref 6), (1, .int a), (2, .int b), (3, .int c)] [] S Q) : Wp d n_X6_copy 238 [(8, .int (nI 1)), (7, .int j), (6, .int (nI n)), (5, .int (nI 5)), (4, .int (nI x)), (0, .ref 6), (1, .int a), (2, .int b), (3, .int c)] [] S Q := by
  (repeat (first | exact hg | refine Wp.p rfl ?_ | refine Wp.bT rfl (by decide) ?_ | refine Wp.bF rfl (by decide) ?_))
theorem cp_1_6 (hg : Wp d n_X6_copy 284 [(8, .int (nI 1)), (7, .int j), (6, .int (nI n)), (5, .int (nI 6)), (4, .int (nI x)), (0, .ref 6), (1, .int a), (2, .int b), (3, .int c)] [] S Q) : Wp d n_X6_copy 238 [(8, .int (nI 1)), (7, .int j), (6, .int (nI n)), (5, .int (nI 6)), (4, .int (nI x)), (0, .ref 6), (1, .int a), (2, .int b), (3, .int c)] [] S Q := by
  (repeat (first | exact hg | refine Wp.p rfl ?_ | refine Wp.bT rfl (by decide) ?_ | refine Wp.bF rfl (by decide) ?_))
theorem cp_1_7 (hg : Wp d n_X6_copy 284 [(8, .int (nI 1)), (7, .int j), (6, .int (nI n)), (5, .int (nI 7)), (4, .int (nI x)), (0, .ref 6), (1, .int a), (2, .int b), (3, .int c)] [] S Q) : Wp d n_X6_copy 238 [(8, .int (nI 1)), (7, .int j), (6, .int (nI n)), (5, .int (nI 7)), (4, .int (nI x)), (0, .ref 6), (1, .int a), (2, .int b), (3, .int c)] [] S Q := by
  (repeat (first | exact hg | refine Wp.p rfl ?_ | refine Wp.bT rfl (by decide) ?_ | refine Wp.bF rfl (by decide) ?_))
theorem cp_1_8 (hb : Q (some (.int 4)) S) : Wp d n_X6_copy 238 [(8, .int (nI 1)), (7, .int j), (6, .int (nI n)), (5, .int (nI 8)), (4, .int (nI x)), (0, .ref 6), (1, .int a), (2, .int b), (3, .int c)] [] S Q := by
  (repeat (first | refine Wp.p rfl ?_ | refine Wp.bT rfl (by decide) ?_ | refine Wp.bF rfl (by decide) ?_))
  exact Wp.r rfl trivial hb
theorem cp_1_9 (hb : Q (some (.int 4)) S) : Wp d n_X6_copy 238 [(8, .int (nI 1)), (7, .int j), (6, .int (nI n)), (5, .int (nI 9)), (4, .int (nI x)), (0, .ref 6), (1, .int a), (2, .int b), (3, .int c)] [] S Q := by
  (repeat (first | refine Wp.p rfl ?_ | refine Wp.bT rfl (by decide) ?_ | refine Wp.bF rfl (by decide) ?_))
  exact Wp.r rfl trivial hb
theorem cp_2_5 (hg : Wp d n_X6_copy 284 [(8, .int (nI 2)), (7, .int j), (6, .int (nI n)), (5, .int (nI 5)), (4, .int (nI x)), (0, .ref 6), (1, .int a), (2, .int b), (3, .int c)] [] S Q) : Wp d n_X6_copy 238 [(8, .int (nI 2)), (7, .int j), (6, .int (nI n)), (5, .int (nI 5)), (4, .int (nI x)), (0, .ref 6), (1, .int a), (2, .int b), (3, .int c)] [] S Q := by
  (repeat (first | exact hg | refine Wp.p rfl ?_ | refine Wp.bT rfl (by decide) ?_ | refine Wp.bF rfl (by decide) ?_))
theorem cp_2_6 (hg : Wp d n_X6_copy 284 [(8, .int (nI 2)), (7, .int j), (6, .int (nI n)), (5, .int (nI 6)), (4, .int (nI x)), (0, .ref 6), (1, .int a), (2, .int b), (3, .int c)] [] S Q) : Wp d n_X6_copy 238 [(8, .int (nI 2)), (7, .int j), (6, .int (nI n)), (5, .int (nI 6)), (4, .int (nI x)), (0, .ref 6), (1, .int a), (2, .int b), (3, .int c)] [] S Q := by
  (repeat (first | exact hg | refine Wp.p rfl ?_ | refine Wp.bT rfl (by decide) ?_ | refine Wp.bF rfl (by decide) ?_))
theorem cp_2_7 (hg : Wp d n_X6_copy 284 [(8, .int (nI 2)), (7, .int j), (6, .int (nI n)), (5, .int (nI 7)), (4, .int (nI x)), (0, .ref 6), (1, .int a), (2, .int b), (3, .int c)] [] S Q) : Wp d n_X6_copy 238 [(8, .int (nI 2)), (7, .int j), (6, .int (nI n)), (5, .int (nI 7)), (4, .int (nI x)), (0, .ref 6), (1, .int a), (2, .int b), (3, .int c)] [] S Q := by
  (repeat (first | exact hg | refine Wp.p rfl ?_ | refine Wp.bT rfl (by decide) ?_ | refine Wp.bF rfl (by decide) ?_))
theorem cp_2_8 (hb : Q (some (.int 4)) S) : Wp d n_X6_copy 238 [(8, .int (nI 2)), (7, .int j), (6, .int (nI n)), (5, .int (nI 8)), (4, .int (nI x)), (0, .ref 6), (1, .int a), (2, .int b), (3, .int c)] [] S Q := by
  (repeat (first | refine Wp.p rfl ?_ | refine Wp.bT rfl (by decide) ?_ | refine Wp.bF rfl (by decide) ?_))
  exact Wp.r rfl trivial hb
theorem cp_2_9 (hb : Q (some (.int 4)) S) : Wp d n_X6_copy 238 [(8, .int (nI 2)), (7, .int j), (6, .int (nI n)), (5, .int (nI 9)), (4, .int (nI x)), (0, .ref 6), (1, .int a), (2, .int b), (3, .int c)] [] S Q := by
  (repeat (first | refine Wp.p rfl ?_ | refine Wp.bT rfl (by decide) ?_ | refine Wp.bF rfl (by decide) ?_))
  exact Wp.r rfl trivial hb
theorem cp_3_5 (hg : Wp d n_X6_copy 284 [(8, .int (nI 3)), (7, .int j), (6, .int (nI n)), (5, .int (nI 5)), (4, .int (nI x)), (0, .ref 6), (1, .int a), (2, .int b), (3, .int c)] [] S Q) : Wp d n_X6_copy 238 [(8, .int (nI 3)), (7, .int j), (6, .int (nI n)), (5, .int (nI 5)), (4, .int (nI x)), (0, .ref 6), (1, .int a), (2, .int b), (3, .int c)] [] S Q := by
  (repeat (first | exact hg | refine Wp.p rfl ?_ | refine Wp.bT rfl (by decide) ?_ | refine Wp.bF rfl (by decide) ?_))
theorem cp_3_6 (hg : Wp d n_X6_copy 284 [(8, .int (nI 3)), (7, .int j), (6, .int (nI n)), (5, .int (nI 6)), (4, .int (nI x)), (0, .ref 6), (1, .int a), (2, .int b), (3, .int c)] [] S Q) : Wp d n_X6_copy 238 [(8, .int (nI 3)), (7, .int j), (6, .int (nI n)), (5, .int (nI 6)), (4, .int (nI x)), (0, .ref 6), (1, .int a), (2, .int b), (3, .int c)] [] S Q := by
  (repeat (first | exact hg | refine Wp.p rfl ?_ | refine Wp.bT rfl (by decide) ?_ | refine Wp.bF rfl (by decide) ?_))
theorem cp_3_7 (hg : Wp d n_X6_copy 284 [(8, .int (nI 3)), (7, .int j), (6, .int (nI n)), (5, .int (nI 7)), (4, .int (nI x)), (0, .ref 6), (1, .int a), (2, .int b), (3, .int c)] [] S Q) : Wp d n_X6_copy 238 [(8, .int (nI 3)), (7, .int j), (6, .int (nI n)), (5, .int (nI 7)), (4, .int (nI x)), (0, .ref 6), (1, .int a), (2, .int b), (3, .int c)] [] S Q := by
  (repeat (first | exact hg | refine Wp.p rfl ?_ | refine Wp.bT rfl (by decide) ?_ | refine Wp.bF rfl (by decide) ?_))
theorem cp_3_8 (hg : Wp d n_X6_copy 284 [(8, .int (nI 3)), (7, .int j), (6, .int (nI n)), (5, .int (nI 8)), (4, .int (nI x)), (0, .ref 6), (1, .int a), (2, .int b), (3, .int c)] [] S Q) : Wp d n_X6_copy 238 [(8, .int (nI 3)), (7, .int j), (6, .int (nI n)), (5, .int (nI 8)), (4, .int (nI x)), (0, .ref 6), (1, .int a), (2, .int b), (3, .int c)] [] S Q := by
  (repeat (first | exact hg | refine Wp.p rfl ?_ | refine Wp.bT rfl (by decide) ?_ | refine Wp.bF rfl (by decide) ?_))
theorem cp_3_9 (hb : Q (some (.int 4)) S) : Wp d n_X6_copy 238 [(8, .int (nI 3)), (7, .int j), (6, .int (nI n)), (5, .int (nI 9)), (4, .int (nI x)), (0, .ref 6), (1, .int a), (2, .int b), (3, .int c)] [] S Q := by
  (repeat (first | refine Wp.p rfl ?_ | refine Wp.bT rfl (by decide) ?_ | refine Wp.bF rfl (by decide) ?_))
  exact Wp.r rfl trivial hb
theorem cp_4_5 (hg : Wp d n_X6_copy 284 [(8, .int (nI 4)), (7, .int j), (6, .int (nI n)), (5, .int (nI 5)), (4, .int (nI x)), (0, .ref 6), (1, .int a), (2, .int b), (3, .int c)] [] S Q) : Wp d n_X6_copy 238 [(8, .int (nI 4)), (7, .int j), (6, .int (nI n)), (5, .int (nI 5)), (4, .int (nI x)), (0, .ref 6), (1, .int a), (2, .int b), (3, .int c)] [] S Q := by
  (repeat (first | exact hg | refine Wp.p rfl ?_ | refine Wp.bT rfl (by decide) ?_ | refine Wp.bF rfl (by decide) ?_))
theorem cp_4_6 (hg : Wp d n_X6_copy 284 [(8, .int (nI 4)), (7, .int j), (6, .int (nI n)), (5, .int (nI 6)), (4, .int (nI x)), (0, .ref 6), (1, .int a), (2, .int b), (3, .int c)] [] S Q) : Wp d n_X6_copy 238 [(8, .int (nI 4)), (7, .int j), (6, .int (nI n)), (5, .int (nI 6)), (4, .int (nI x)), (0, .ref 6), (1, .int a), (2, .int b), (3, .int c)] [] S Q := by
  (repeat (first | exact hg | refine Wp.p rfl ?_ | refine Wp.bT rfl (by decide) ?_ | refine Wp.bF rfl (by decide) ?_))
theorem cp_4_7 (hg : Wp d n_X6_copy 284 [(8, .int (nI 4)), (7, .int j), (6, .int (nI n)), (5, .int (nI 7)), (4, .int (nI x)), (0, .ref 6), (1, .int a), (2, .int b), (3, .int c)] [] S Q) : Wp d n_X6_copy 238 [(8, .int (nI 4)), (7, .int j), (6, .int (nI n)), (5, .int (nI 7)), (4, .int (nI x)), (0, .ref 6), (1, .int a), (2, .int b), (3, .int c)] [] S Q := by
  (repeat (first | exact hg | refine Wp.p rfl ?_ | refine Wp.bT rfl (by decide) ?_ | refine Wp.bF rfl (by decide) ?_))
theorem cp_4_8 (hg : Wp d n_X6_copy 284 [(8, .int (nI 4)), (7, .int j), (6, .int (nI n)), (5, .int (nI 8)), (4, .int (nI x)), (0, .ref 6), (1, .int a), (2, .int b), (3, .int c)] [] S Q) : Wp d n_X6_copy 238 [(8, .int (nI 4)), (7, .int j), (6, .int (nI n)), (5, .int (nI 8)), (4, .int (nI x)), (0, .ref 6), (1, .int a), (2, .int b), (3, .int c)] [] S Q := by
  (repeat (first | exact hg | refine Wp.p rfl ?_ | refine Wp.bT rfl (by decide) ?_ | refine Wp.bF rfl (by decide) ?_))
theorem cp_4_9 (hb : Q (some (.int 4)) S) : Wp d n_X6_copy 238 [(8, .int (nI 4)), (7, .int j), (6, .int (nI n)), (5, .int (nI 9)), (4, .int (nI x)), (0, .ref 6), (1, .int a), (2, .int b), (3, .int c)] [] S Q := by
  (repeat (first | refine Wp.p rfl ?_ | refine Wp.bT rfl (by decide) ?_ | refine Wp.bF rfl (by decide) ?_))
  exact Wp.r rfl trivial hb
theorem cp_5_5 (hb : Q (some (.int 4)) S) : Wp d n_X6_copy 238 [(8, .int (nI 5)), (7, .int j), (6, .int (nI n)), (5, .int (nI 5)), (4, .int (nI x)), (0, .ref 6), (1, .int a), (2, .int b), (3, .int c)] [] S Q := by
  (repeat (first | refine Wp.p rfl ?_ | refine Wp.bT rfl (by decide) ?_ | refine Wp.bF rfl (by decide) ?_))
  exact Wp.r rfl trivial hb
theorem cp_5_6 (hb : Q (some (.int 4)) S) : Wp d n_X6_copy 238 [(8, .int (nI 5)), (7, .int j), (6, .int (nI n)), (5, .int (nI 6)), (4, .int (nI x)), (0, .ref 6), (1, .int a), (2, .int b), (3, .int c)] [] S Q := by
  (repeat (first | refine Wp.p rfl ?_ | refine Wp.bT rfl (by decide) ?_ | refine Wp.bF rfl (by decide) ?_))
  exact Wp.r rfl trivial hb
theorem cp_5_7 (hb : Q (some (.int 4)) S) : Wp d n_X6_copy 238 [(8, .int (nI 5)), (7, .int j), (6, .int (nI n)), (5, .int (nI 7)), (4, .int (nI x)), (0, .ref 6), (1, .int a), (2, .int b), (3, .int c)] [] S Q := by
  (repeat (first | refine Wp.p rfl ?_ | refine Wp.bT rfl (by decide) ?_ | refine Wp.bF rfl (by decide) ?_))
  exact Wp.r rfl trivial hb
theorem cp_5_8 (hb : Q (some (.int 4)) S) : Wp d n_X6_copy 238 [(8, .int (nI 5)), (7, .int j), (6, .int (nI n)), (5, .int (nI 8)), (4, .int (nI x)), (0, .ref 6), (1, .int a), (2, .int b), (3, .int c)] [] S Q := by
  (repeat (first | refine Wp.p rfl ?_ | refine Wp.bT rfl (by decide) ?_ | refine Wp.bF rfl (by decide) ?_))
  exact Wp.r rfl trivial hb
theorem cp_5_9 (hg : Wp d n_X6_copy 284 [(8, .int (nI 5)), (7, .int j), (6, .int (nI n)), (5, .int (nI 9)), (4, .int (nI x)), (0, .ref 6), (1, .int a), (2, .int b), (3, .int c)] [] S Q) : Wp d n_X6_copy 238 [(8, .int (nI 5)), (7, .int j), (6, .int (nI n)), (5, .int (nI 9)), (4, .int (nI x)), (0, .ref 6), (1, .int a), (2, .int b), (3, .int c)] [] S Q := by
  (repeat (first | exact hg | refine Wp.p rfl ?_ | refine Wp.bT rfl (by decide) ?_ | refine Wp.bF rfl (by decide) ?_))
theorem cp_t {k y : Nat} (hk : k < 6) (hy : 5 ≤ y ∧ y ≤ 9) (hg : gdK k y = true → Wp d n_X6_copy 284 [(8, .int (nI k)), (7, .int j), (6, .int (nI n)), (5, .int (nI y)), (4, .int (nI x)), (0, .ref 6), (1, .int a), (2, .int b), (3, .int c)] [] S Q) (hb : gdK k y = false → Q (some (.int 4)) S) : Wp d n_X6_copy 238 [(8, .int (nI k)), (7, .int j), (6, .int (nI n)), (5, .int (nI y)), (4, .int (nI x)), (0, .ref 6), (1, .int a), (2, .int b), (3, .int c)] [] S Q := by
  match k, hk, y, hy with
  | 0, _, 5, _ => exact cp_0_5 (hg rfl)
  | 0, _, 6, _ => exact cp_0_6 (hg rfl)
  | 0, _, 7, _ => exact cp_0_7 (hg rfl)
  | 0, _, 8, _ => exact cp_0_8 (hg rfl)
  | 0, _, 9, _ => exact cp_0_9 (hg rfl)
  | 1, _, 5, _ => exact cp_1_5 (hg rfl)
  | 1, _, 6, _ => exact cp_1_6 (hg rfl)
  | 1, _, 7, _ => exact cp_1_7 (hg rfl)
  | 1, _, 8, _ => exact cp_1_8 (hb rfl)
  | 1, _, 9, _ => exact cp_1_9 (hb rfl)
  | 2, _, 5, _ => exact cp_2_5 (hg rfl)
  | 2, _, 6, _ => exact cp_2_6 (hg rfl)
  | 2, _, 7, _ => exact cp_2_7 (hg rfl)
  | 2, _, 8, _ => exact cp_2_8 (hb rfl)
  | 2, _, 9, _ => exact cp_2_9 (hb rfl)
  | 3, _, 5, _ => exact cp_3_5 (hg rfl)
  | 3, _, 6, _ => exact cp_3_6 (hg rfl)
  | 3, _, 7, _ => exact cp_3_7 (hg rfl)
  | 3, _, 8, _ => exact cp_3_8 (hg rfl)
  | 3, _, 9, _ => exact cp_3_9 (hb rfl)
  | 4, _, 5, _ => exact cp_4_5 (hg rfl)
  | 4, _, 6, _ => exact cp_4_6 (hg rfl)
  | 4, _, 7, _ => exact cp_4_7 (hg rfl)
  | 4, _, 8, _ => exact cp_4_8 (hg rfl)
  | 4, _, 9, _ => exact cp_4_9 (hb rfl)
  | 5, _, 5, _ => exact cp_5_5 (hb rfl)
  | 5, _, 6, _ => exact cp_5_6 (hb rfl)
  | 5, _, 7, _ => exact cp_5_7 (hb rfl)
  | 5, _, 8, _ => exact cp_5_8 (hb rfl)
  | 5, _, 9, _ => exact cp_5_9 (hg rfl)
  | k + 6, hk, _, _ => exact absurd hk (by omega)
  | _, _, 0, hy => exact absurd hy.1 (by omega)
  | _, _, 1, hy => exact absurd hy.1 (by omega)
  | _, _, 2, hy => exact absurd hy.1 (by omega)
  | _, _, 3, hy => exact absurd hy.1 (by omega)
  | _, _, 4, hy => exact absurd hy.1 (by omega)
  | _, _, y + 10, hy => exact absurd hy.2 (by omega)
end CP
theorem cp_hA {d n x y j kk : Nat} {S : mS} {Q : mQ} {a b c : Int32} (hx : x < 10) (hj : j < n) (hn : n ≤ 20) (h0 : x < 7 → kk = 0) (h1 : 7 ≤ x → (S.2.2 365 j = -1 ∧ kk = 0) ∨ (S.2.2 365 j = -2 ∧ kk = 5) ∨ ∃ o, o < 40 ∧ S.2.2 365 j = nI o ∧ S.2.2 357 o = nI kk) (h : Wp d n_X6_copy 238 [(8, .int (nI kk)), (7, .int (nI j)), (6, .int (nI n)), (5, .int (nI y)), (4, .int (nI x)), (0, .ref 6), (1, .int a), (2, .int b), (3, .int c)] [] S Q) : Wp d n_X6_copy 179 [(7, .int (nI j)), (6, .int (nI n)), (5, .int (nI y)), (4, .int (nI x)), (0, .ref 6), (1, .int a), (2, .int b), (3, .int c)] [] S Q := by
  have tj : tn (nI j) = j := tn_nI (by omega)
  iterate 2 refine Wp.p rfl ?_
  refine Wp.b rfl (fun c => absurd c (nI_ge hj (by omega))) (fun _ => ?_)
  iterate 2 refine Wp.p rfl ?_
  refine Wp.b rfl (fun (c : nI x < 7) => ?_) (fun (c : ¬ nI x < 7) => ?_)
  · have hx7 : x < 7 := (nI_ltI (a := x) (b := 7) (by omega) (by decide)).mp c
    rw [h0 hx7] at h
    iterate 3 refine Wp.p rfl ?_
    exact h
  have hx7 : 7 ≤ x := by
    rcases Nat.lt_or_ge x 7 with z | z
    · exact absurd (nI_lt (a := x) (b := 7) z (by decide)) c
    · exact z
  iterate 3 refine Wp.p rfl ?_
  refine Wp.g rfl (vp_in_nI (N := 20) (by omega) (by omega)) ?_
  iterate 1 refine Wp.p rfl ?_
  rcases h1 hx7 with ⟨e, ek⟩ | ⟨e, ek⟩ | ⟨o, ho, e, ek⟩
  · refine Wp.b rfl (fun (c : ¬ S.2.2 365 (tn (nI j)) = -1) => absurd (by rw [tj]; exact e) c) (fun _ => ?_)
    rw [ek] at h
    iterate 3 refine Wp.p rfl ?_
    exact h
  · refine Wp.b rfl (fun _ => ?_) (fun (c : ¬ ¬ S.2.2 365 (tn (nI j)) = -1) => absurd (by rw [tj, e]; decide) c)
    iterate 3 refine Wp.p rfl ?_
    refine Wp.g rfl (vp_in_nI (N := 20) (by omega) (by omega)) ?_
    iterate 1 refine Wp.p rfl ?_
    refine Wp.b rfl (fun (c : ¬ S.2.2 365 (tn (nI j)) = -2) => absurd (by rw [tj]; exact e) c) (fun _ => ?_)
    rw [ek] at h
    iterate 3 refine Wp.p rfl ?_
    exact h
  · have np : 0 ≤ nI o := nI_pos' (by omega)
    refine Wp.b rfl (fun _ => ?_) (fun (c : ¬ ¬ S.2.2 365 (tn (nI j)) = -1) => absurd (by rw [tj, e]; exact fun z => m1_lt0 (z ▸ np)) c)
    iterate 3 refine Wp.p rfl ?_
    refine Wp.g rfl (vp_in_nI (N := 20) (by omega) (by omega)) ?_
    iterate 1 refine Wp.p rfl ?_
    refine Wp.b rfl (fun _ => ?_) (fun (c : ¬ ¬ S.2.2 365 (tn (nI j)) = -2) => absurd (by rw [tj, e]; exact fun z => (show ¬ (0 : Int32) ≤ -2 by decide) (z ▸ np)) c)
    iterate 5 refine Wp.p rfl ?_
    refine Wp.g rfl (vp_in_nI (N := 20) (by omega) (by omega)) ?_
    refine Wp.g rfl (show vp_in (S.2.2 365 (tn (nI j))) 500 by rw [tj, e]; exact vp_in_nI (by omega) (by omega)) ?_
    show Wp d n_X6_copy 236 _ [.int (S.2.2 357 (tn (S.2.2 365 (tn (nI j)))))] S Q
    rw [tj, e, tn_nI (by omega), ek]
    iterate 1 refine Wp.p rfl ?_
    exact h
theorem cp_hB {d n x y j kk : Nat} {z : Int32} {S : mS} {Q : mQ} {a b c : Int32} (hx : x < 10) (hj : j < n) (hn : n ≤ 20) (h0 : x < 7 → kk = 0) (h1 : 7 ≤ x → (S.2.2 365 j = -1 ∧ kk = 0) ∨ (S.2.2 365 j = -2 ∧ kk = 5) ∨ ∃ o, o < 40 ∧ S.2.2 365 j = nI o ∧ S.2.2 357 o = nI kk) (h : Wp d n_X6_copy 238 [(8, .int (nI kk)), (7, .int (nI j)), (6, .int (nI n)), (5, .int (nI y)), (4, .int (nI x)), (0, .ref 6), (1, .int a), (2, .int b), (3, .int c)] [] S Q) : Wp d n_X6_copy 179 [(7, .int (nI j)), (8, .int z), (6, .int (nI n)), (5, .int (nI y)), (4, .int (nI x)), (0, .ref 6), (1, .int a), (2, .int b), (3, .int c)] [] S Q := by
  have tj : tn (nI j) = j := tn_nI (by omega)
  iterate 2 refine Wp.p rfl ?_
  refine Wp.b rfl (fun c => absurd c (nI_ge hj (by omega))) (fun _ => ?_)
  iterate 2 refine Wp.p rfl ?_
  refine Wp.b rfl (fun (c : nI x < 7) => ?_) (fun (c : ¬ nI x < 7) => ?_)
  · have hx7 : x < 7 := (nI_ltI (a := x) (b := 7) (by omega) (by decide)).mp c
    rw [h0 hx7] at h
    iterate 3 refine Wp.p rfl ?_
    exact h
  have hx7 : 7 ≤ x := by
    rcases Nat.lt_or_ge x 7 with z | z
    · exact absurd (nI_lt (a := x) (b := 7) z (by decide)) c
    · exact z
  iterate 3 refine Wp.p rfl ?_
  refine Wp.g rfl (vp_in_nI (N := 20) (by omega) (by omega)) ?_
  iterate 1 refine Wp.p rfl ?_
  rcases h1 hx7 with ⟨e, ek⟩ | ⟨e, ek⟩ | ⟨o, ho, e, ek⟩
  · refine Wp.b rfl (fun (c : ¬ S.2.2 365 (tn (nI j)) = -1) => absurd (by rw [tj]; exact e) c) (fun _ => ?_)
    rw [ek] at h
    iterate 3 refine Wp.p rfl ?_
    exact h
  · refine Wp.b rfl (fun _ => ?_) (fun (c : ¬ ¬ S.2.2 365 (tn (nI j)) = -1) => absurd (by rw [tj, e]; decide) c)
    iterate 3 refine Wp.p rfl ?_
    refine Wp.g rfl (vp_in_nI (N := 20) (by omega) (by omega)) ?_
    iterate 1 refine Wp.p rfl ?_
    refine Wp.b rfl (fun (c : ¬ S.2.2 365 (tn (nI j)) = -2) => absurd (by rw [tj]; exact e) c) (fun _ => ?_)
    rw [ek] at h
    iterate 3 refine Wp.p rfl ?_
    exact h
  · have np : 0 ≤ nI o := nI_pos' (by omega)
    refine Wp.b rfl (fun _ => ?_) (fun (c : ¬ ¬ S.2.2 365 (tn (nI j)) = -1) => absurd (by rw [tj, e]; exact fun z => m1_lt0 (z ▸ np)) c)
    iterate 3 refine Wp.p rfl ?_
    refine Wp.g rfl (vp_in_nI (N := 20) (by omega) (by omega)) ?_
    iterate 1 refine Wp.p rfl ?_
    refine Wp.b rfl (fun _ => ?_) (fun (c : ¬ ¬ S.2.2 365 (tn (nI j)) = -2) => absurd (by rw [tj, e]; exact fun z => (show ¬ (0 : Int32) ≤ -2 by decide) (z ▸ np)) c)
    iterate 5 refine Wp.p rfl ?_
    refine Wp.g rfl (vp_in_nI (N := 20) (by omega) (by omega)) ?_
    refine Wp.g rfl (show vp_in (S.2.2 365 (tn (nI j))) 500 by rw [tj, e]; exact vp_in_nI (by omega) (by omega)) ?_
    show Wp d n_X6_copy 236 _ [.int (S.2.2 357 (tn (S.2.2 365 (tn (nI j)))))] S Q
    rw [tj, e, tn_nI (by omega), ek]
    iterate 1 refine Wp.p rfl ?_
    exact h
theorem s_m_copy1 {d f n x y : Nat} {Q : mQ} {a b c : Int32} (ha : 0 ≤ a ∧ a < 6) (hf : f < 40) (hn : n ≤ 20) (S0 : mS) (hv : S0.2.2 361 (tn a) = nI f) (hQ : ∀ S', Fr [] [365] S0 S' → S'.2.2 365 = cpW (S0.2.2 365) (S0.2.2 360) (20 * f) n → Wp d n_X6_copy 176 [(7, .int (nI n)), (6, .int (nI n)), (5, .int (nI y)), (4, .int (nI x)), (0, .ref 6), (1, .int a), (2, .int b), (3, .int c)] [] S' Q) : ∀ (k j : Nat) (S : mS), j + k = n → Fr [] [365] S0 S → S.2.2 365 = cpW (S0.2.2 365) (S0.2.2 360) (20 * f) j →
    Wp d n_X6_copy 139 [(7, .int (nI j)), (6, .int (nI n)), (5, .int (nI y)), (4, .int (nI x)), (0, .ref 6), (1, .int a), (2, .int b), (3, .int c)] [] S Q := by
  intro k
  induction k with
  | zero =>
    intro j S hj hF hC
    obtain rfl : j = n := by omega
    iterate 2 refine Wp.p rfl ?_
    refine Wp.b rfl (fun _ => ?_) (fun c => absurd (nI_le (Nat.le_refl _) (by omega)) c)
    exact hQ S hF hC
  | succ k ih =>
    intro j S hj hF hC
    have hlt : j < n := by omega
    have ev : S.2.2 361 (tn a) = nI f := by rw [hF.2.2 361 (by decide)]; exact hv
    have hin : vp_in (20 * S.2.2 361 (tn a) + nI j) 10000 := by rw [ev, ix20']; exact vp_in_nI (by omega) (by omega)
    iterate 2 refine Wp.p rfl ?_
    refine Wp.b rfl (fun c => absurd c (nI_ge hlt (by omega))) (fun _ => ?_)
    repeat refine Wp.p rfl ?_
    refine Wp.g rfl (inV ha) ?_
    repeat refine Wp.p rfl ?_
    refine Wp.g rfl hin ?_
    refine Wp.g rfl (vp_in_nI (N := 20) (by omega) (by omega)) ?_
    iterate 2 refine Wp.p rfl ?_
    show Wp d n_X6_copy 139 [(7, .int (nI j + 1)), (6, .int (nI n)), (5, .int (nI y)), (4, .int (nI x)), (0, .ref 6), (1, .int a), (2, .int b), (3, .int c)] [] _ Q
    rw [nI_1]
    refine ih (j + 1) _ (by omega) (hF.a (by decide)) ?_
    show upd (S.2.2 365) (tn (nI j)) (S.2.2 360 (tn (20 * S.2.2 361 (tn a) + nI j))) = _
    rw [ev, ix20', tn_nI (by omega), tn_nI (by omega), hC, hF.2.2 360 (by decide)]
    rfl
theorem s_m_copyB {d t st n x y : Nat} {Q : mQ} {a b c : Int32} (hb : 0 ≤ b ∧ b < 6) (hc : 0 ≤ c ∧ c < 4) (hx : x < 10) (hy : 5 ≤ y ∧ y ≤ 9) (ht : t < 40) (hst : st + n ≤ 20) (S0 : mS) (hv : S0.2.2 361 (tn b) = nI t) (hs : S0.2.2 362 (tn c) = nI st) (ok : Int32 → Bool) (hok : ∀ j, j < n → ∃ kk, kk < 6 ∧ gdK kk y = ok (S0.2.2 365 j) ∧ (x < 7 → kk = 0) ∧ (7 ≤ x → (S0.2.2 365 j = -1 ∧ kk = 0) ∨ (S0.2.2 365 j = -2 ∧ kk = 5) ∨ ∃ o, o < 40 ∧ S0.2.2 365 j = nI o ∧ S0.2.2 357 o = nI kk)) (R : Int32 × (Nat → Int32)) (hQ : ∀ S', Fr [] [360] S0 S' → S'.2.2 360 = R.2 → Q (some (.int R.1)) S') : ∀ (k j : Nat) (z : Int32) (S : mS) (C : Nat → Int32), j + k = n → Fr [] [360] S0 S → S.2.2 360 = C → mvF (S0.2.2 365) ok (20 * t + st) k j C = R →
    Wp d n_X6_copy 179 [(7, .int (nI j)), (8, .int z), (6, .int (nI n)), (5, .int (nI y)), (4, .int (nI x)), (0, .ref 6), (1, .int a), (2, .int b), (3, .int c)] [] S Q := by
  intro k
  induction k with
  | zero =>
    intro j z S C hj hF hC hR
    obtain rfl : j = n := by omega
    iterate 2 refine Wp.p rfl ?_
    refine Wp.b rfl (fun _ => ?_) (fun c => absurd (nI_le (Nat.le_refl _) (by omega)) c)
    repeat refine Wp.p rfl ?_
    have h0 : R.1 = 0 := by rw [← hR]; rfl
    have h1 : R.2 = C := by rw [← hR]; rfl
    have hq := hQ S hF (by rw [h1]; exact hC)
    rw [h0] at hq
    exact Wp.r rfl trivial hq
  | succ k ih =>
    intro j z S C hj hF hC hR
    have hlt : j < n := by omega
    obtain ⟨kk, hkk, hgd, hk0, hk1⟩ := hok j hlt
    have e365 : S.2.2 365 = S0.2.2 365 := hF.2.2 365 (by decide)
    have e357 : S.2.2 357 = S0.2.2 357 := hF.2.2 357 (by decide)
    have ev : S.2.2 361 (tn b) = nI t := by rw [hF.2.2 361 (by decide)]; exact hv
    have es : S.2.2 362 (tn c) = nI st := by rw [hF.2.2 362 (by decide)]; exact hs
    have hRR : (bif ok (S0.2.2 365 j) then mvF (S0.2.2 365) ok (20 * t + st) k (j + 1) (upd C (20 * t + st + j) (S0.2.2 365 j)) else (4, C)) = R := hR
    refine cp_hB hx hlt (by omega) hk0 (by rw [e365, e357]; exact hk1) (cp_t hkk hy (fun g => ?_) (fun g => ?_))
    · rw [← hgd, g, cond_true] at hRR
      have hix : 20 * nI t + nI st + nI j = nI (20 * t + st + j) := by rw [ix20', nI_add]
      have hin : vp_in (20 * S.2.2 361 (tn b) + S.2.2 362 (tn c) + nI j) 10000 := by rw [ev, es, hix]; exact vp_in_nI (by omega) (by omega)
      repeat refine Wp.p rfl ?_
      refine Wp.g rfl (inV hb) ?_
      repeat refine Wp.p rfl ?_
      refine Wp.g rfl (inN hc) ?_
      repeat refine Wp.p rfl ?_
      refine Wp.g rfl (vp_in_nI (N := 20) (by omega) (by omega)) ?_
      refine Wp.g rfl hin ?_
      iterate 2 refine Wp.p rfl ?_
      show Wp d n_X6_copy 179 [(7, .int (nI j + 1)), (8, .int (nI kk)), (6, .int (nI n)), (5, .int (nI y)), (4, .int (nI x)), (0, .ref 6), (1, .int a), (2, .int b), (3, .int c)] [] _ Q
      rw [nI_1]
      refine ih (j + 1) (nI kk) _ _ (by omega) (hF.a (by decide)) ?_ hRR
      show upd (S.2.2 360) (tn (20 * S.2.2 361 (tn b) + S.2.2 362 (tn c) + nI j)) (S.2.2 365 (tn (nI j))) = _
      rw [ev, es, hix, tn_nI (by omega), tn_nI (by omega), hC, e365]
    · rw [← hgd, g, cond_false] at hRR
      have h0 : R.1 = 4 := by rw [← hRR]
      have h1 : R.2 = C := by rw [← hRR]
      have hq := hQ S hF (by rw [h1]; exact hC)
      rw [h0] at hq
      exact hq
theorem s_m_copyA {d t st n x y : Nat} {Q : mQ} {a b c : Int32} (hb : 0 ≤ b ∧ b < 6) (hc : 0 ≤ c ∧ c < 4) (hx : x < 10) (hy : 5 ≤ y ∧ y ≤ 9) (ht : t < 40) (hst : st + n ≤ 20) (S0 : mS) (hv : S0.2.2 361 (tn b) = nI t) (hs : S0.2.2 362 (tn c) = nI st) (ok : Int32 → Bool) (hok : ∀ j, j < n → ∃ kk, kk < 6 ∧ gdK kk y = ok (S0.2.2 365 j) ∧ (x < 7 → kk = 0) ∧ (7 ≤ x → (S0.2.2 365 j = -1 ∧ kk = 0) ∨ (S0.2.2 365 j = -2 ∧ kk = 5) ∨ ∃ o, o < 40 ∧ S0.2.2 365 j = nI o ∧ S0.2.2 357 o = nI kk)) (R : Int32 × (Nat → Int32)) (hQ : ∀ S', Fr [] [360] S0 S' → S'.2.2 360 = R.2 → Q (some (.int R.1)) S') (k : Nat) (S : mS) (C : Nat → Int32) (hj : 0 + k = n) (hF : Fr [] [360] S0 S) (hC : S.2.2 360 = C) (hR : mvF (S0.2.2 365) ok (20 * t + st) k 0 C = R) :
    Wp d n_X6_copy 179 [(7, .int (nI 0)), (6, .int (nI n)), (5, .int (nI y)), (4, .int (nI x)), (0, .ref 6), (1, .int a), (2, .int b), (3, .int c)] [] S Q := by
  cases k with
  | zero =>
    obtain rfl : 0 = n := by omega
    iterate 2 refine Wp.p rfl ?_
    refine Wp.b rfl (fun _ => ?_) (fun (c : ¬ nI 0 ≤ nI 0) => absurd (by decide) c)
    repeat refine Wp.p rfl ?_
    have h0 : R.1 = 0 := by rw [← hR]; rfl
    have h1 : R.2 = C := by rw [← hR]; rfl
    have hq := hQ S hF (by rw [h1]; exact hC)
    rw [h0] at hq
    exact Wp.r rfl trivial hq
  | succ k =>
    have hlt : 0 < n := by omega
    obtain ⟨kk, hkk, hgd, hk0, hk1⟩ := hok 0 hlt
    have e365 : S.2.2 365 = S0.2.2 365 := hF.2.2 365 (by decide)
    have e357 : S.2.2 357 = S0.2.2 357 := hF.2.2 357 (by decide)
    have ev : S.2.2 361 (tn b) = nI t := by rw [hF.2.2 361 (by decide)]; exact hv
    have es : S.2.2 362 (tn c) = nI st := by rw [hF.2.2 362 (by decide)]; exact hs
    have hRR : (bif ok (S0.2.2 365 0) then mvF (S0.2.2 365) ok (20 * t + st) k (0 + 1) (upd C (20 * t + st + 0) (S0.2.2 365 0)) else (4, C)) = R := hR
    refine cp_hA hx hlt (by omega) hk0 (by rw [e365, e357]; exact hk1) (cp_t hkk hy (fun g => ?_) (fun g => ?_))
    · rw [← hgd, g, cond_true] at hRR
      have hix : 20 * nI t + nI st + nI 0 = nI (20 * t + st + 0) := by rw [ix20', nI_add]
      have hin : vp_in (20 * S.2.2 361 (tn b) + S.2.2 362 (tn c) + nI 0) 10000 := by rw [ev, es, hix]; exact vp_in_nI (by omega) (by omega)
      repeat refine Wp.p rfl ?_
      refine Wp.g rfl (inV hb) ?_
      repeat refine Wp.p rfl ?_
      refine Wp.g rfl (inN hc) ?_
      repeat refine Wp.p rfl ?_
      refine Wp.g rfl (vp_in_nI (N := 20) (by omega) (by omega)) ?_
      refine Wp.g rfl hin ?_
      iterate 2 refine Wp.p rfl ?_
      show Wp d n_X6_copy 179 [(7, .int (nI 0 + 1)), (8, .int (nI kk)), (6, .int (nI n)), (5, .int (nI y)), (4, .int (nI x)), (0, .ref 6), (1, .int a), (2, .int b), (3, .int c)] [] _ Q
      rw [nI_1]
      refine s_m_copyB hb hc hx hy ht hst S0 hv hs ok hok R hQ k (0 + 1) (nI kk) _ _ (by omega) (hF.a (by decide)) ?_ hRR
      show upd (S.2.2 360) (tn (20 * S.2.2 361 (tn b) + S.2.2 362 (tn c) + nI 0)) (S.2.2 365 (tn (nI 0))) = _
      rw [ev, es, hix, tn_nI (by omega), tn_nI (by omega), hC, e365]
    · rw [← hgd, g, cond_false] at hRR
      have h0 : R.1 = 4 := by rw [← hRR]
      have h1 : R.2 = C := by rw [← hRR]
      have hq := hQ S hF (by rw [h1]; exact hC)
      rw [h0] at hq
      exact hq
set_option maxHeartbeats 1000000 in
theorem s_m_copy {d k0 : Nat} {S : mS} {Q : mQ} {a b c : Int32} (hW : WFk k0 (dV S)) (hw : wS 22 a b c) (h : DQ S 22 a b c Q) : Ev (d + 1) n_X6_copy [.ref 6, .int a, .int b, .int c] S Q := by
  have ha := hw.2.1.1 rfl
  have hb := hw.2.2.1.1 rfl
  have hc := hw.2.2.2.2.1 rfl
  have hQ : ∀ S', Fr [] [360, 365] S S' → dV S' = (mvM (dV S) (S.2.2 361 (tn a)) (S.2.2 361 (tn b)) (S.2.2 362 (tn c)) (S.2.2 362 3)).2 → Q (some (.int (mvM (dV S) (S.2.2 361 (tn a)) (S.2.2 361 (tn b)) (S.2.2 362 (tn c)) (S.2.2 362 3)).1)) S' := fun S' hF e => h S' (hF.up (by decide) (by decide)) e (hF.1 264 (by decide)) (hF.1 253 (by decide))
  have q0 : ∀ x : Int32, mvM (dV S) (S.2.2 361 (tn a)) (S.2.2 361 (tn b)) (S.2.2 362 (tn c)) (S.2.2 362 3) = (x, dV S) → Q (some (.int x)) S := fun x e => by
    have := hQ S Fr.rf (by rw [e])
    rw [e] at this
    exact this
  repeat refine Wp.p rfl ?_
  refine Wp.g rfl (inV ha) ?_
  rcases dv_c hW (wf_ref hW ha) with ⟨er, ek⟩ | ⟨jf, kf, hjf, hk, er, kf1, kf9, ekf2, kdf⟩
  · have er' : S.2.2 361 (tn a) = -1 := er
    refine Wp.b rfl (fun _ => ?_) (fun (q : ¬ S.2.2 361 (tn a) < 0) => absurd (by rw [er']; decide) q)
    repeat refine Wp.p rfl ?_
    exact Wp.r rfl trivial (q0 1 (by unfold mvM; exact if_pos (Or.inl ek)))
  have ef : S.2.2 361 (tn a) = nI jf := er
  have kdf' : kd (dV S) (S.2.2 361 (tn a)) = nI kf := kdf
  refine Wp.b rfl (fun (q : S.2.2 361 (tn a) < 0) => absurd (ef ▸ q) (nI_n0 (by omega))) (fun _ => ?_)
  repeat refine Wp.p rfl ?_
  refine Wp.g rfl (inV hb) ?_
  rcases dv_c hW (wf_ref hW hb) with ⟨er, ek⟩ | ⟨jt, kt, hjt, -, er, kt1, kt9, ekt2, kdt⟩
  · have er' : S.2.2 361 (tn b) = -1 := er
    refine Wp.b rfl (fun (q : 0 ≤ S.2.2 361 (tn b)) => absurd (er' ▸ q) m1_lt0) (fun _ => ?_)
    repeat refine Wp.p rfl ?_
    exact Wp.r rfl trivial (q0 1 (by unfold mvM; exact if_pos (Or.inr ek)))
  have et : S.2.2 361 (tn b) = nI jt := er
  have kdt' : kd (dV S) (S.2.2 361 (tn b)) = nI kt := kdt
  refine Wp.b rfl (fun _ => ?_) (fun (q : ¬ 0 ≤ S.2.2 361 (tn b)) => absurd (by rw [et]; exact nI_pos' (by omega)) q)
  repeat refine Wp.p rfl ?_
  refine Wp.i rfl (s_m_kind hW ha ?_)
  rw [kdf']
  repeat refine Wp.p rfl ?_
  refine Wp.i rfl (s_m_kind hW hb ?_)
  rw [kdt']
  have nz : ∀ k : Nat, 1 ≤ k → k ≤ 9 → ¬ nI k = 0 := fun k h1 h9 e => by
    have := (nI_eq (a := k) (b := 0) (by omega) (by decide)).mp e
    omega
  have nn : ¬ (kd (dV S) (S.2.2 361 (tn a)) = 0 ∨ kd (dV S) (S.2.2 361 (tn b)) = 0) := by
    rw [kdf', kdt']
    exact fun q => q.elim (nz kf kf1 kf9) (nz kt kt1 kt9)
  have hx := cpx kf (by omega) kt (by omega)
  have tkf : tn (nI kf) = kf := tn_nI (by omega)
  have f4 : ¬ hB (m_sv 502 kf) (nI kt) → Q (some (.int 4)) S := fun z => q0 4 (by
    unfold mvM
    rw [if_neg nn, if_neg (by rw [kdf', kdt', tkf]; exact z)])
  have r4 : ¬ hB (m_sv 502 kf) (nI kt) → ∀ ls, Wp (d + 1) n_X6_copy 67 ls [] S Q := fun z ls => by
    refine Wp.p rfl ?_
    exact Wp.r rfl trivial (f4 z)
  have go : hB (m_sv 502 kf) (nI kt) → Wp (d + 1) n_X6_copy 69 [(5, .int (nI kt)), (4, .int (nI kf)), (0, .ref 6), (1, .int a), (2, .int b), (3, .int c)] [] S Q := fun c3 => by
    have c3' : hB (m_sv 502 (tn (kd (dV S) (S.2.2 361 (tn a))))) (kd (dV S) (S.2.2 361 (tn b))) := by rw [kdf', kdt', tkf]; exact c3
    obtain ⟨-, ⟨lf, hlf, elf, hcf⟩, -⟩ := hW.2.2.2 jf hjf
    obtain ⟨-, ⟨lt, hlt, elt, -⟩, -⟩ := hW.2.2.2 jt hjt
    have elf' : S.2.2 359 (tn (S.2.2 361 (tn a))) = nI lf := by rw [ef, tn_nI (by omega)]; exact elf
    have elt' : S.2.2 359 (tn (S.2.2 361 (tn b))) = nI lt := by rw [et, tn_nI (by omega)]; exact elt
    have bad : (S.2.2 362 3 < 0 ∨ S.2.2 362 (tn c) < 0 ∨ gL (dV S) (tn (S.2.2 361 (tn a))) < S.2.2 362 3 ∨ gL (dV S) (tn (S.2.2 361 (tn b))) - S.2.2 362 3 < S.2.2 362 (tn c)) → Q (some (.int 3)) S := fun q => q0 3 (by unfold mvM; rw [if_neg nn, if_pos c3', if_pos q])
    repeat refine Wp.p rfl ?_
    refine Wp.g rfl (show vp_in 3 4 by unfold vp_in; decide) ?_
    repeat refine Wp.p rfl ?_
    show Wp (d + 1) n_X6_copy 79 [(6, .int (S.2.2 362 3)), (5, .int (nI kt)), (4, .int (nI kf)), (0, .ref 6), (1, .int a), (2, .int b), (3, .int c)] [.int (S.2.2 362 3)] S Q
    refine Wp.b rfl (fun (c4 : S.2.2 362 3 < 0) => ?_) (fun (c4 : ¬ S.2.2 362 3 < 0) => ?_)
    · repeat refine Wp.p rfl ?_
      exact Wp.r rfl trivial (bad (Or.inl c4))
    repeat refine Wp.p rfl ?_
    refine Wp.g rfl (inN hc) ?_
    refine Wp.b rfl (fun (c5 : S.2.2 362 (tn c) < 0) => ?_) (fun (c5 : ¬ S.2.2 362 (tn c) < 0) => ?_)
    · repeat refine Wp.p rfl ?_
      exact Wp.r rfl trivial (bad (Or.inr (Or.inl c5)))
    have inf : vp_in (S.2.2 361 (tn a)) 500 := by rw [ef]; exact vp_in_nI (by omega) (by omega)
    have int : vp_in (S.2.2 361 (tn b)) 500 := by rw [et]; exact vp_in_nI (by omega) (by omega)
    repeat refine Wp.p rfl ?_
    refine Wp.g rfl (inV ha) ?_
    refine Wp.g rfl inf ?_
    refine Wp.b rfl (fun (c6 : S.2.2 359 (tn (S.2.2 361 (tn a))) < S.2.2 362 3) => ?_) (fun (c6 : ¬ S.2.2 359 (tn (S.2.2 361 (tn a))) < S.2.2 362 3) => ?_)
    · repeat refine Wp.p rfl ?_
      exact Wp.r rfl trivial (bad (Or.inr (Or.inr (Or.inl c6))))
    obtain ⟨n, hn0, en⟩ := nI_of c4
    obtain ⟨st, hst0, es⟩ := nI_of c5
    have hnl : n ≤ lf := by
      rw [elf', en] at c6
      exact (nI_leI (by omega) (by omega)).mp (Int32.not_lt.mp c6)
    repeat refine Wp.p rfl ?_
    refine Wp.g rfl (inN hc) ?_
    repeat refine Wp.p rfl ?_
    refine Wp.g rfl (inV hb) ?_
    refine Wp.g rfl int ?_
    repeat refine Wp.p rfl ?_
    have e64 : ((S.2.2 362 (tn c)).toInt64 + (S.2.2 362 3).toInt64).toInt = (st : Int) + n := by
      rw [es, en, Int64.toInt_add, Int32.toInt_toInt64, Int32.toInt_toInt64, nI_toInt hst0, nI_toInt hn0]
      exact Int.bmod_eq_of_le (by omega) (by omega)
    have e64' : ((S.2.2 359 (tn (S.2.2 361 (tn b)))).toInt64).toInt = (lt : Int) := by
      rw [elt', Int32.toInt_toInt64, nI_toInt (by omega)]
    have esub : (gL (dV S) (tn (S.2.2 361 (tn b))) - S.2.2 362 3).toInt = (lt : Int) - n := by
      rw [show gL (dV S) (tn (S.2.2 361 (tn b))) = nI lt from elt', en, pk_sub_toInt (by omega) (by omega)]
    have e67 : ∀ w : Int32, w = lg_cmp ((S.2.2 362 (tn c)).toInt64 + (S.2.2 362 3).toInt64) (S.2.2 359 (tn (S.2.2 361 (tn b)))).toInt64 → (w ≤ 0 ↔ st + n ≤ lt) := fun w hw => by
      rw [hw]
      constructor
      · intro z
        have := Int64.not_lt.mp (fun y => Int32.not_lt.mpr z ((lg_cmp_gt _ _).mpr y))
        have := Int64.le_iff_toInt_le.mp this
        omega
      · intro z
        refine Int32.not_lt.mp (fun y => ?_)
        have := Int64.lt_iff_toInt_lt.mp ((lg_cmp_gt _ _).mp y)
        omega
    refine Wp.b rfl (fun (c7 : lg_cmp ((S.2.2 362 (tn c)).toInt64 + (S.2.2 362 3).toInt64) (S.2.2 359 (tn (S.2.2 361 (tn b)))).toInt64 ≤ 0) => ?_) (fun (c7 : ¬ lg_cmp ((S.2.2 362 (tn c)).toInt64 + (S.2.2 362 3).toInt64) (S.2.2 359 (tn (S.2.2 361 (tn b)))).toInt64 ≤ 0) => ?_)
    case refine_2 =>
      repeat refine Wp.p rfl ?_
      refine Wp.r rfl trivial (bad (Or.inr (Or.inr (Or.inr (Int32.lt_iff_toInt_lt.mpr ?_)))))
      rw [esub, es, nI_toInt hst0]
      have : ¬ st + n ≤ lt := fun z => c7 ((e67 _ rfl).mpr z)
      omega
    have hsl : st + n ≤ lt := (e67 _ rfl).mp c7
    have notbad : ¬ (S.2.2 362 3 < 0 ∨ S.2.2 362 (tn c) < 0 ∨ gL (dV S) (tn (S.2.2 361 (tn a))) < S.2.2 362 3 ∨ gL (dV S) (tn (S.2.2 361 (tn b))) - S.2.2 362 3 < S.2.2 362 (tn c)) := by
      rintro (q | q | q | q)
      · exact c4 q
      · exact c5 q
      · exact c6 q
      · have := Int32.lt_iff_toInt_lt.mp q
        rw [esub, es, nI_toInt hst0] at this
        omega
    have hmv : mvM (dV S) (S.2.2 361 (tn a)) (S.2.2 361 (tn b)) (S.2.2 362 (tn c)) (S.2.2 362 3) = ((mvF (cpW (S.2.2 365) (S.2.2 360) (20 * jf) n) (okC (dV S) (nI kt)) (20 * jt + st) n 0 (S.2.2 360)).1, (S.2.2 361, S.2.2 362, S.2.2 357, S.2.2 359, S.2.2 358, (mvF (cpW (S.2.2 365) (S.2.2 360) (20 * jf) n) (okC (dV S) (nI kt)) (20 * jt + st) n 0 (S.2.2 360)).2, cpW (S.2.2 365) (S.2.2 360) (20 * jf) n, S.1 256)) := by
      unfold mvM
      rw [if_neg nn, if_pos c3', if_neg notbad, kdt', ef, et, en, es, tn_nI (n := jf) (by omega), tn_nI (n := jt) (by omega), tn_nI hn0, tn_nI hst0]
      rfl
    have kinds := mv_kinds kf (by omega) kt (by omega) c3
    have kt5 : 5 ≤ kt := by
      rcases kinds with (z | z) | ⟨-, z⟩
      · have := (nI_eq (a := kt) (b := 5) (by omega) (by decide)).mp z; omega
      · have := (nI_eq (a := kt) (b := 6) (by omega) (by decide)).mp z; omega
      · have := (nI_leI (a := 7) (b := kt) (by decide) (by omega)).mp z; omega
    iterate 2 refine Wp.p rfl ?_
    show Wp (d + 1) n_X6_copy 139 [(7, .int (nI 0)), (6, .int (S.2.2 362 3)), (5, .int (nI kt)), (4, .int (nI kf)), (0, .ref 6), (1, .int a), (2, .int b), (3, .int c)] [] S Q
    rw [en]
    refine s_m_copy1 (f := jf) ha (by omega) (by omega) S ef (fun S1 hF1 h365 => ?_) n 0 S (by omega) Fr.rf rfl
    iterate 2 refine Wp.p rfl ?_
    have e360 : S1.2.2 360 = S.2.2 360 := hF1.2.2 360 (by decide)
    refine s_m_copyA hb hc (by omega) ⟨kt5, kt9⟩ (t := jt) (st := st) (by omega) (by omega) S1 (by rw [hF1.2.2 361 (by decide)]; exact et) (by rw [hF1.2.2 362 (by decide)]; exact es) (okC (dV S) (nI kt)) (fun j hj => ?_) (mvF (cpW (S.2.2 365) (S.2.2 360) (20 * jf) n) (okC (dV S) (nI kt)) (20 * jt + st) n 0 (S.2.2 360)) (fun S' hF' e' => ?_) n S1 (S.2.2 360) (by omega) Fr.rf e360 (by rw [h365])
    · rw [h365, cpW_at hj, hF1.2.2 357 (by decide)]
      rcases kinds with z | ⟨z, zt⟩
      · refine ⟨0, by omega, ?_, fun _ => rfl, fun h7 => ?_⟩
        · unfold okC
          rw [decide_eq_true z]
          rfl
        · exfalso
          rcases z with z | z
          · have z1 := (nI_eq (a := kt) (b := 5) (by omega) (by decide)).mp z
            rw [z1] at c3
            have := ((m_sv5 kf (by omega)).1).mp c3
            omega
          · have z1 := (nI_eq (a := kt) (b := 6) (by omega) (by decide)).mp z
            rw [z1] at c3
            have := ((m_sv5 kf (by omega)).2).mp c3
            omega
      · have kf7 : 7 ≤ kf := (nI_leI (a := 7) (b := kf) (by decide) (by omega)).mp z
        have kt7 : 7 ≤ kt := (nI_leI (a := 7) (b := kt) (by decide) (by omega)).mp zt
        have ekf3 : gK (dV S) jf = nI kf := ekf2
        have h7 : 7 ≤ gK (dV S) jf := by rw [ekf3]; exact z
        obtain ⟨hv, hB1⟩ := hcf h7 j (by omega)
        rw [ekf3, tkf] at hB1
        have n56 : decide (nI kt = 5 ∨ nI kt = 6) = false := decide_eq_false (by
          rintro (e | e)
          · have := (nI_eq (a := kt) (b := 5) (by omega) (by decide)).mp e; omega
          · have := (nI_eq (a := kt) (b := 6) (by omega) (by decide)).mp e; omega)
        have fin : ∀ kk, kk < 10 → kd (dV S) (S.2.2 360 (20 * jf + j)) = nI kk → kk < 6 ∧ gdK kk kt = okC (dV S) (nI kt) (S.2.2 360 (20 * jf + j)) := fun kk hkk ekk => by
          have l6 : kk < 6 := (by decide : ∀ x, x < 10 → 7 ≤ x → ∀ k, k < 10 → hB (m_sv 501 x) (nI k) → k < 6) kf (by omega) kf7 kk hkk (by rw [← ekk]; exact hB1)
          refine ⟨l6, ?_⟩
          unfold okC
          rw [n56, ekk, gdK_ok kt (by omega) kt7 kk l6, tn_nI (by omega)]
          rfl
        rcases hv with (e | ⟨o, ho, e⟩) | e
        · have e0 : S.2.2 360 (20 * jf + j) = -1 := e
          obtain ⟨f1, f2⟩ := fin 0 (by omega) (by rw [e0]; unfold kd; rw [if_neg m1_lt0, if_neg (by decide)]; rfl)
          exact ⟨0, f1, f2, fun _ => rfl, fun _ => Or.inl ⟨e0, rfl⟩⟩
        · have e0 : S.2.2 360 (20 * jf + j) = nI o := e
          obtain ⟨⟨ko, ko1, ko9, eko⟩, -⟩ := hW.2.2.2 o ho
          obtain ⟨f1, f2⟩ := fin ko (by omega) (by rw [e0, kd_j (by omega)]; exact eko)
          exact ⟨ko, f1, f2, fun z => by omega, fun _ => Or.inr (Or.inr ⟨o, by omega, e0, eko⟩)⟩
        · have e0 : S.2.2 360 (20 * jf + j) = -2 := e
          obtain ⟨f1, f2⟩ := fin 5 (by omega) (by rw [e0]; rfl)
          exact ⟨5, f1, f2, fun z => by omega, fun _ => Or.inr (Or.inl ⟨e0, rfl⟩)⟩
    · have hq := hQ S' ((hF1.up (by decide) (by decide)).tr (hF'.up (by decide) (by decide))) (by
        rw [hmv]
        unfold dV
        rw [e', hF'.2.2 365 (by decide), h365, hF'.2.2 361 (by decide), hF1.2.2 361 (by decide), hF'.2.2 362 (by decide), hF1.2.2 362 (by decide), hF'.2.2 357 (by decide), hF1.2.2 357 (by decide), hF'.2.2 358 (by decide), hF1.2.2 358 (by decide), hF'.2.2 359 (by decide), hF1.2.2 359 (by decide), hF'.1 256 (by decide), hF1.1 256 (by decide)]; rfl)
      rw [hmv] at hq
      exact hq
  repeat refine Wp.p rfl ?_
  refine Wp.b rfl (fun (c1 : nI kf < 5) => r4 (hx.mpr (Or.inl c1)) _) (fun (c1 : ¬ nI kf < 5) => ?_)
  repeat refine Wp.p rfl ?_
  refine Wp.b rfl (fun (c2 : nI kt < 5) => r4 (hx.mpr (Or.inr (Or.inl c2))) _) (fun (c2 : ¬ nI kt < 5) => ?_)
  repeat refine Wp.p rfl ?_
  refine Wp.b rfl (fun (c3 : nI kf = nI kt) => go (Decidable.not_not.mp (fun z => (hx.mp z).elim c1 (fun y => y.elim c2 (fun y => y.1 c3))))) (fun (c3 : ¬ nI kf = nI kt) => ?_)
  repeat refine Wp.p rfl ?_
  refine Wp.b rfl (fun (c4 : nI kf < 7) => r4 (hx.mpr (Or.inr (Or.inr ⟨c3, Or.inl c4⟩))) _) (fun (c4 : ¬ nI kf < 7) => ?_)
  repeat refine Wp.p rfl ?_
  refine Wp.b rfl (fun (c5 : 7 ≤ nI kt) => go (Decidable.not_not.mp (fun z => (hx.mp z).elim c1 (fun y => y.elim c2 (fun y => y.2.elim c4 (Int32.not_lt.mpr c5)))))) (fun (c5 : ¬ 7 ≤ nI kt) => r4 (hx.mpr (Or.inr (Or.inr ⟨c3, Or.inr (Int32.not_le.mp c5)⟩))) _)
